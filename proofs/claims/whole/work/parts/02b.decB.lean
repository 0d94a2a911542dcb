theorem dX11_init_0 : decode cX11_init 0 = .ok (.aload_n 0, 1) := by decide +kernel
theorem dX11_init_1 : decode cX11_init 1 = .ok (.invokespecial 1, 3) := by decide +kernel
theorem dX11_init_4 : decode cX11_init 4 = .ok (.aload_n 0, 1) := by decide +kernel
theorem dX11_init_5 : decode cX11_init 5 = .ok (.new 7, 3) := by decide +kernel
theorem dX11_init_8 : decode cX11_init 8 = .ok (.dup, 1) := by decide +kernel
theorem dX11_init_9 : decode cX11_init 9 = .ok (.invokespecial 9, 3) := by decide +kernel
theorem dX11_init_12 : decode cX11_init 12 = .ok (.putfield 10, 3) := by decide +kernel
theorem dX11_init_15 : decode cX11_init 15 = .ok (.aload_n 0, 1) := by decide +kernel
theorem dX11_init_16 : decode cX11_init 16 = .ok (.new 7, 3) := by decide +kernel
theorem dX11_init_19 : decode cX11_init 19 = .ok (.dup, 1) := by decide +kernel
theorem dX11_init_20 : decode cX11_init 20 = .ok (.invokespecial 9, 3) := by decide +kernel
theorem dX11_init_23 : decode cX11_init 23 = .ok (.putfield 16, 3) := by decide +kernel
theorem dX11_init_26 : decode cX11_init 26 = .ok (.aload_n 0, 1) := by decide +kernel
theorem dX11_init_27 : decode cX11_init 27 = .ok (.new 19, 3) := by decide +kernel
theorem dX11_init_30 : decode cX11_init 30 = .ok (.dup, 1) := by decide +kernel
theorem dX11_init_31 : decode cX11_init 31 = .ok (.invokespecial 21, 3) := by decide +kernel
theorem dX11_init_34 : decode cX11_init 34 = .ok (.putfield 22, 3) := by decide +kernel
theorem dX11_init_37 : decode cX11_init 37 = .ok (.aload_n 0, 1) := by decide +kernel
theorem dX11_init_38 : decode cX11_init 38 = .ok (.new 26, 3) := by decide +kernel
theorem dX11_init_41 : decode cX11_init 41 = .ok (.dup, 1) := by decide +kernel
theorem dX11_init_42 : decode cX11_init 42 = .ok (.invokespecial 28, 3) := by decide +kernel
theorem dX11_init_45 : decode cX11_init 45 = .ok (.putfield 29, 3) := by decide +kernel
theorem dX11_init_48 : decode cX11_init 48 = .ok (.aload_n 0, 1) := by decide +kernel
theorem dX11_init_49 : decode cX11_init 49 = .ok (.new 33, 3) := by decide +kernel
theorem dX11_init_52 : decode cX11_init 52 = .ok (.dup, 1) := by decide +kernel
theorem dX11_init_53 : decode cX11_init 53 = .ok (.invokespecial 35, 3) := by decide +kernel
theorem dX11_init_56 : decode cX11_init 56 = .ok (.putfield 36, 3) := by decide +kernel
theorem dX11_init_59 : decode cX11_init 59 = .ok (.aload_n 0, 1) := by decide +kernel
theorem dX11_init_60 : decode cX11_init 60 = .ok (.new 40, 3) := by decide +kernel
theorem dX11_init_63 : decode cX11_init 63 = .ok (.dup, 1) := by decide +kernel
theorem dX11_init_64 : decode cX11_init 64 = .ok (.invokespecial 42, 3) := by decide +kernel
theorem dX11_init_67 : decode cX11_init 67 = .ok (.putfield 43, 3) := by decide +kernel
theorem dX11_init_70 : decode cX11_init 70 = .ok (.aload_n 0, 1) := by decide +kernel
theorem dX11_init_71 : decode cX11_init 71 = .ok (.new 47, 3) := by decide +kernel
theorem dX11_init_74 : decode cX11_init 74 = .ok (.dup, 1) := by decide +kernel
theorem dX11_init_75 : decode cX11_init 75 = .ok (.invokespecial 49, 3) := by decide +kernel
theorem dX11_init_78 : decode cX11_init 78 = .ok (.putfield 50, 3) := by decide +kernel
theorem dX11_init_81 : decode cX11_init 81 = .ok (.aload_n 0, 1) := by decide +kernel
theorem dX11_init_82 : decode cX11_init 82 = .ok (.new 54, 3) := by decide +kernel
theorem dX11_init_85 : decode cX11_init 85 = .ok (.dup, 1) := by decide +kernel
theorem dX11_init_86 : decode cX11_init 86 = .ok (.invokespecial 56, 3) := by decide +kernel
theorem dX11_init_89 : decode cX11_init 89 = .ok (.putfield 57, 3) := by decide +kernel
theorem dX11_init_92 : decode cX11_init 92 = .ok (.aload_n 0, 1) := by decide +kernel
theorem dX11_init_93 : decode cX11_init 93 = .ok (.new 54, 3) := by decide +kernel
theorem dX11_init_96 : decode cX11_init 96 = .ok (.dup, 1) := by decide +kernel
theorem dX11_init_97 : decode cX11_init 97 = .ok (.invokespecial 56, 3) := by decide +kernel
theorem dX11_init_100 : decode cX11_init 100 = .ok (.putfield 61, 3) := by decide +kernel
theorem dX11_init_103 : decode cX11_init 103 = .ok (.aload_n 0, 1) := by decide +kernel
theorem dX11_init_104 : decode cX11_init 104 = .ok (.new 64, 3) := by decide +kernel
theorem dX11_init_107 : decode cX11_init 107 = .ok (.dup, 1) := by decide +kernel
theorem dX11_init_108 : decode cX11_init 108 = .ok (.invokespecial 66, 3) := by decide +kernel
theorem dX11_init_111 : decode cX11_init 111 = .ok (.putfield 67, 3) := by decide +kernel
theorem dX11_init_114 : decode cX11_init 114 = .ok (.aload_n 0, 1) := by decide +kernel
theorem dX11_init_115 : decode cX11_init 115 = .ok (.new 64, 3) := by decide +kernel
theorem dX11_init_118 : decode cX11_init 118 = .ok (.dup, 1) := by decide +kernel
theorem dX11_init_119 : decode cX11_init 119 = .ok (.invokespecial 66, 3) := by decide +kernel
theorem dX11_init_122 : decode cX11_init 122 = .ok (.putfield 71, 3) := by decide +kernel
theorem dX11_init_125 : decode cX11_init 125 = .ok (.aload_n 0, 1) := by decide +kernel
theorem dX11_init_126 : decode cX11_init 126 = .ok (.new 74, 3) := by decide +kernel
theorem dX11_init_129 : decode cX11_init 129 = .ok (.dup, 1) := by decide +kernel
theorem dX11_init_130 : decode cX11_init 130 = .ok (.invokespecial 76, 3) := by decide +kernel
theorem dX11_init_133 : decode cX11_init 133 = .ok (.putfield 77, 3) := by decide +kernel
theorem dX11_init_136 : decode cX11_init 136 = .ok (.aload_n 0, 1) := by decide +kernel
theorem dX11_init_137 : decode cX11_init 137 = .ok (.new 81, 3) := by decide +kernel
theorem dX11_init_140 : decode cX11_init 140 = .ok (.dup, 1) := by decide +kernel
theorem dX11_init_141 : decode cX11_init 141 = .ok (.invokespecial 83, 3) := by decide +kernel
theorem dX11_init_144 : decode cX11_init 144 = .ok (.putfield 84, 3) := by decide +kernel
theorem dX11_init_147 : decode cX11_init 147 = .ok (.aload_n 0, 1) := by decide +kernel
theorem dX11_init_148 : decode cX11_init 148 = .ok (.bipush 6, 2) := by decide +kernel
theorem dX11_init_150 : decode cX11_init 150 = .ok (.newarray .int, 2) := by decide +kernel
theorem dX11_init_152 : decode cX11_init 152 = .ok (.putfield 88, 3) := by decide +kernel
theorem dX11_init_155 : decode cX11_init 155 = .ok (.aload_n 0, 1) := by decide +kernel
theorem dX11_init_156 : decode cX11_init 156 = .ok (.iconst 0, 1) := by decide +kernel
theorem dX11_init_157 : decode cX11_init 157 = .ok (.putfield 92, 3) := by decide +kernel
theorem dX11_init_160 : decode cX11_init 160 = .ok (.aload_n 0, 1) := by decide +kernel
theorem dX11_init_161 : decode cX11_init 161 = .ok (.iconst (-1), 1) := by decide +kernel
theorem dX11_init_162 : decode cX11_init 162 = .ok (.putfield 96, 3) := by decide +kernel
theorem dX11_init_165 : decode cX11_init 165 = .ok (.aload_n 0, 1) := by decide +kernel
theorem dX11_init_166 : decode cX11_init 166 = .ok (.iconst (-1), 1) := by decide +kernel
theorem dX11_init_167 : decode cX11_init 167 = .ok (.putfield 100, 3) := by decide +kernel
theorem dX11_init_170 : decode cX11_init 170 = .ok (.return_, 1) := by decide +kernel
theorem dX11_define_0 : decode cX11_define 0 = .ok (.iload_n 1, 1) := by decide +kernel
theorem dX11_define_1 : decode cX11_define 1 = .ok (.invokestatic 103, 3) := by decide +kernel
theorem dX11_define_4 : decode cX11_define 4 = .ok (.ifCond .ne 13, 3) := by decide +kernel
theorem dX11_define_7 : decode cX11_define 7 = .ok (.new 107, 3) := by decide +kernel
theorem dX11_define_10 : decode cX11_define 10 = .ok (.dup, 1) := by decide +kernel
theorem dX11_define_11 : decode cX11_define 11 = .ok (.ldc 109, 2) := by decide +kernel
theorem dX11_define_13 : decode cX11_define 13 = .ok (.invokespecial 111, 3) := by decide +kernel
theorem dX11_define_16 : decode cX11_define 16 = .ok (.athrow, 1) := by decide +kernel
theorem dX11_define_17 : decode cX11_define 17 = .ok (.aload_n 0, 1) := by decide +kernel
theorem dX11_define_18 : decode cX11_define 18 = .ok (.getfield 29, 3) := by decide +kernel
theorem dX11_define_21 : decode cX11_define 21 = .ok (.invokevirtual 114, 3) := by decide +kernel
theorem dX11_define_24 : decode cX11_define 24 = .ok (.ifCond .ne 31, 3) := by decide +kernel
theorem dX11_define_27 : decode cX11_define 27 = .ok (.aload_n 0, 1) := by decide +kernel
theorem dX11_define_28 : decode cX11_define 28 = .ok (.aload_n 0, 1) := by decide +kernel
theorem dX11_define_29 : decode cX11_define 29 = .ok (.getfield 29, 3) := by decide +kernel
theorem dX11_define_32 : decode cX11_define 32 = .ok (.invokevirtual 118, 3) := by decide +kernel
theorem dX11_define_35 : decode cX11_define 35 = .ok (.putfield 96, 3) := by decide +kernel
theorem dX11_define_38 : decode cX11_define 38 = .ok (.aload_n 0, 1) := by decide +kernel
theorem dX11_define_39 : decode cX11_define 39 = .ok (.getfield 29, 3) := by decide +kernel
theorem dX11_define_42 : decode cX11_define 42 = .ok (.invokevirtual 122, 3) := by decide +kernel
theorem dX11_define_45 : decode cX11_define 45 = .ok (.new 125, 3) := by decide +kernel
theorem dX11_define_48 : decode cX11_define 48 = .ok (.dup, 1) := by decide +kernel
theorem dX11_define_49 : decode cX11_define 49 = .ok (.ldc 127, 2) := by decide +kernel
theorem dX11_define_51 : decode cX11_define 51 = .ok (.invokespecial 129, 3) := by decide +kernel
theorem dX11_define_54 : decode cX11_define 54 = .ok (.athrow, 1) := by decide +kernel
theorem dX11_define_55 : decode cX11_define 55 = .ok (.aload_n 0, 1) := by decide +kernel
theorem dX11_define_56 : decode cX11_define 56 = .ok (.getfield 22, 3) := by decide +kernel
theorem dX11_define_59 : decode cX11_define 59 = .ok (.aload_n 0, 1) := by decide +kernel
theorem dX11_define_60 : decode cX11_define 60 = .ok (.getfield 10, 3) := by decide +kernel
theorem dX11_define_63 : decode cX11_define 63 = .ok (.invokevirtual 130, 3) := by decide +kernel
theorem dX11_define_66 : decode cX11_define 66 = .ok (.aload_n 0, 1) := by decide +kernel
theorem dX11_define_67 : decode cX11_define 67 = .ok (.getfield 10, 3) := by decide +kernel
theorem dX11_define_70 : decode cX11_define 70 = .ok (.iload_n 1, 1) := by decide +kernel
theorem dX11_define_71 : decode cX11_define 71 = .ok (.aload_n 0, 1) := by decide +kernel
theorem dX11_define_72 : decode cX11_define 72 = .ok (.getfield 36, 3) := by decide +kernel
theorem dX11_define_75 : decode cX11_define 75 = .ok (.aload_n 0, 1) := by decide +kernel
theorem dX11_define_76 : decode cX11_define 76 = .ok (.getfield 29, 3) := by decide +kernel
theorem dX11_define_79 : decode cX11_define 79 = .ok (.invokevirtual 134, 3) := by decide +kernel
theorem dX11_define_82 : decode cX11_define 82 = .ok (.invokevirtual 138, 3) := by decide +kernel
theorem dX11_define_85 : decode cX11_define 85 = .ok (.istore_n 2, 1) := by decide +kernel
theorem dX11_define_86 : decode cX11_define 86 = .ok (.aload_n 0, 1) := by decide +kernel
theorem dX11_define_87 : decode cX11_define 87 = .ok (.getfield 29, 3) := by decide +kernel
theorem dX11_define_90 : decode cX11_define 90 = .ok (.invokevirtual 122, 3) := by decide +kernel
theorem dX11_define_93 : decode cX11_define 93 = .ok (.aload_n 0, 1) := by decide +kernel
theorem dX11_define_94 : decode cX11_define 94 = .ok (.iload_n 2, 1) := by decide +kernel
theorem dX11_define_95 : decode cX11_define 95 = .ok (.invokevirtual 142, 3) := by decide +kernel
theorem dX11_define_98 : decode cX11_define 98 = .ok (.ireturn, 1) := by decide +kernel
theorem dX11_unite_0 : decode cX11_unite 0 = .ok (.aload_n 0, 1) := by decide +kernel
theorem dX11_unite_1 : decode cX11_unite 1 = .ok (.getfield 22, 3) := by decide +kernel
theorem dX11_unite_4 : decode cX11_unite 4 = .ok (.aload_n 0, 1) := by decide +kernel
theorem dX11_unite_5 : decode cX11_unite 5 = .ok (.getfield 10, 3) := by decide +kernel
theorem dX11_unite_8 : decode cX11_unite 8 = .ok (.invokevirtual 130, 3) := by decide +kernel
theorem dX11_unite_11 : decode cX11_unite 11 = .ok (.aload_n 0, 1) := by decide +kernel
theorem dX11_unite_12 : decode cX11_unite 12 = .ok (.aload_n 0, 1) := by decide +kernel
theorem dX11_unite_13 : decode cX11_unite 13 = .ok (.getfield 10, 3) := by decide +kernel
theorem dX11_unite_16 : decode cX11_unite 16 = .ok (.iload_n 1, 1) := by decide +kernel
theorem dX11_unite_17 : decode cX11_unite 17 = .ok (.iload_n 2, 1) := by decide +kernel
theorem dX11_unite_18 : decode cX11_unite 18 = .ok (.iload_n 3, 1) := by decide +kernel
theorem dX11_unite_19 : decode cX11_unite 19 = .ok (.bipush 124, 2) := by decide +kernel
theorem dX11_unite_21 : decode cX11_unite 21 = .ok (.invokevirtual 146, 3) := by decide +kernel
theorem dX11_unite_24 : decode cX11_unite 24 = .ok (.invokevirtual 142, 3) := by decide +kernel
theorem dX11_unite_27 : decode cX11_unite 27 = .ok (.ireturn, 1) := by decide +kernel
theorem dX11_concatenate_0 : decode cX11_concatenate 0 = .ok (.aload_n 0, 1) := by decide +kernel
theorem dX11_concatenate_1 : decode cX11_concatenate 1 = .ok (.getfield 22, 3) := by decide +kernel
theorem dX11_concatenate_4 : decode cX11_concatenate 4 = .ok (.aload_n 0, 1) := by decide +kernel
theorem dX11_concatenate_5 : decode cX11_concatenate 5 = .ok (.getfield 10, 3) := by decide +kernel
theorem dX11_concatenate_8 : decode cX11_concatenate 8 = .ok (.invokevirtual 130, 3) := by decide +kernel
theorem dX11_concatenate_11 : decode cX11_concatenate 11 = .ok (.aload_n 0, 1) := by decide +kernel
theorem dX11_concatenate_12 : decode cX11_concatenate 12 = .ok (.aload_n 0, 1) := by decide +kernel
theorem dX11_concatenate_13 : decode cX11_concatenate 13 = .ok (.getfield 10, 3) := by decide +kernel
theorem dX11_concatenate_16 : decode cX11_concatenate 16 = .ok (.iload_n 1, 1) := by decide +kernel
theorem dX11_concatenate_17 : decode cX11_concatenate 17 = .ok (.iload_n 2, 1) := by decide +kernel
theorem dX11_concatenate_18 : decode cX11_concatenate 18 = .ok (.iload_n 3, 1) := by decide +kernel
theorem dX11_concatenate_19 : decode cX11_concatenate 19 = .ok (.bipush 46, 2) := by decide +kernel
theorem dX11_concatenate_21 : decode cX11_concatenate 21 = .ok (.invokevirtual 146, 3) := by decide +kernel
theorem dX11_concatenate_24 : decode cX11_concatenate 24 = .ok (.invokevirtual 142, 3) := by decide +kernel
theorem dX11_concatenate_27 : decode cX11_concatenate 27 = .ok (.ireturn, 1) := by decide +kernel
theorem dX11_repeat_0 : decode cX11_repeat 0 = .ok (.aload_n 0, 1) := by decide +kernel
theorem dX11_repeat_1 : decode cX11_repeat 1 = .ok (.getfield 22, 3) := by decide +kernel
theorem dX11_repeat_4 : decode cX11_repeat 4 = .ok (.aload_n 0, 1) := by decide +kernel
theorem dX11_repeat_5 : decode cX11_repeat 5 = .ok (.getfield 10, 3) := by decide +kernel
theorem dX11_repeat_8 : decode cX11_repeat 8 = .ok (.invokevirtual 130, 3) := by decide +kernel
theorem dX11_repeat_11 : decode cX11_repeat 11 = .ok (.aload_n 0, 1) := by decide +kernel
theorem dX11_repeat_12 : decode cX11_repeat 12 = .ok (.aload_n 0, 1) := by decide +kernel
theorem dX11_repeat_13 : decode cX11_repeat 13 = .ok (.getfield 10, 3) := by decide +kernel
theorem dX11_repeat_16 : decode cX11_repeat 16 = .ok (.iload_n 1, 1) := by decide +kernel
theorem dX11_repeat_17 : decode cX11_repeat 17 = .ok (.iload_n 2, 1) := by decide +kernel
theorem dX11_repeat_18 : decode cX11_repeat 18 = .ok (.invokevirtual 150, 3) := by decide +kernel
theorem dX11_repeat_21 : decode cX11_repeat 21 = .ok (.invokevirtual 142, 3) := by decide +kernel
theorem dX11_repeat_24 : decode cX11_repeat 24 = .ok (.ireturn, 1) := by decide +kernel
theorem dX11_remove_0 : decode cX11_remove 0 = .ok (.aload_n 0, 1) := by decide +kernel
theorem dX11_remove_1 : decode cX11_remove 1 = .ok (.getfield 22, 3) := by decide +kernel
theorem dX11_remove_4 : decode cX11_remove 4 = .ok (.aload_n 0, 1) := by decide +kernel
theorem dX11_remove_5 : decode cX11_remove 5 = .ok (.getfield 10, 3) := by decide +kernel
theorem dX11_remove_8 : decode cX11_remove 8 = .ok (.invokevirtual 130, 3) := by decide +kernel
theorem dX11_remove_11 : decode cX11_remove 11 = .ok (.aload_n 0, 1) := by decide +kernel
theorem dX11_remove_12 : decode cX11_remove 12 = .ok (.aload_n 0, 1) := by decide +kernel
theorem dX11_remove_13 : decode cX11_remove 13 = .ok (.getfield 10, 3) := by decide +kernel
theorem dX11_remove_16 : decode cX11_remove 16 = .ok (.iload_n 1, 1) := by decide +kernel
theorem dX11_remove_17 : decode cX11_remove 17 = .ok (.invokevirtual 154, 3) := by decide +kernel
theorem dX11_remove_20 : decode cX11_remove 20 = .ok (.invokevirtual 142, 3) := by decide +kernel
theorem dX11_remove_23 : decode cX11_remove 23 = .ok (.ireturn, 1) := by decide +kernel
theorem dX11_addWord_0 : decode cX11_addWord 0 = .ok (.aload_n 0, 1) := by decide +kernel
theorem dX11_addWord_1 : decode cX11_addWord 1 = .ok (.getfield 22, 3) := by decide +kernel
theorem dX11_addWord_4 : decode cX11_addWord 4 = .ok (.aload_n 0, 1) := by decide +kernel
theorem dX11_addWord_5 : decode cX11_addWord 5 = .ok (.getfield 10, 3) := by decide +kernel
theorem dX11_addWord_8 : decode cX11_addWord 8 = .ok (.invokevirtual 130, 3) := by decide +kernel
theorem dX11_addWord_11 : decode cX11_addWord 11 = .ok (.aload_n 0, 1) := by decide +kernel
theorem dX11_addWord_12 : decode cX11_addWord 12 = .ok (.getfield 10, 3) := by decide +kernel
theorem dX11_addWord_15 : decode cX11_addWord 15 = .ok (.aload_n 0, 1) := by decide +kernel
theorem dX11_addWord_16 : decode cX11_addWord 16 = .ok (.getfield 29, 3) := by decide +kernel
theorem dX11_addWord_19 : decode cX11_addWord 19 = .ok (.iconst 0, 1) := by decide +kernel
theorem dX11_addWord_20 : decode cX11_addWord 20 = .ok (.aload_n 0, 1) := by decide +kernel
theorem dX11_addWord_21 : decode cX11_addWord 21 = .ok (.getfield 29, 3) := by decide +kernel
theorem dX11_addWord_24 : decode cX11_addWord 24 = .ok (.invokevirtual 157, 3) := by decide +kernel
theorem dX11_addWord_27 : decode cX11_addWord 27 = .ok (.bipush 8, 2) := by decide +kernel
theorem dX11_addWord_29 : decode cX11_addWord 29 = .ok (.invokevirtual 160, 3) := by decide +kernel
theorem dX11_addWord_32 : decode cX11_addWord 32 = .ok (.invokevirtual 164, 3) := by decide +kernel
theorem dX11_addWord_35 : decode cX11_addWord 35 = .ok (.istore_n 1, 1) := by decide +kernel
theorem dX11_addWord_36 : decode cX11_addWord 36 = .ok (.aload_n 0, 1) := by decide +kernel
theorem dX11_addWord_37 : decode cX11_addWord 37 = .ok (.getfield 29, 3) := by decide +kernel
theorem dX11_addWord_40 : decode cX11_addWord 40 = .ok (.invokevirtual 122, 3) := by decide +kernel
theorem dX11_addWord_43 : decode cX11_addWord 43 = .ok (.aload_n 0, 1) := by decide +kernel
theorem dX11_addWord_44 : decode cX11_addWord 44 = .ok (.iload_n 1, 1) := by decide +kernel
theorem dX11_addWord_45 : decode cX11_addWord 45 = .ok (.invokevirtual 142, 3) := by decide +kernel
theorem dX11_addWord_48 : decode cX11_addWord 48 = .ok (.ireturn, 1) := by decide +kernel
theorem dX11_removeWord_0 : decode cX11_removeWord 0 = .ok (.aload_n 0, 1) := by decide +kernel
theorem dX11_removeWord_1 : decode cX11_removeWord 1 = .ok (.getfield 22, 3) := by decide +kernel
theorem dX11_removeWord_4 : decode cX11_removeWord 4 = .ok (.aload_n 0, 1) := by decide +kernel
theorem dX11_removeWord_5 : decode cX11_removeWord 5 = .ok (.getfield 10, 3) := by decide +kernel
theorem dX11_removeWord_8 : decode cX11_removeWord 8 = .ok (.invokevirtual 130, 3) := by decide +kernel
theorem dX11_removeWord_11 : decode cX11_removeWord 11 = .ok (.aload_n 0, 1) := by decide +kernel
theorem dX11_removeWord_12 : decode cX11_removeWord 12 = .ok (.aload_n 0, 1) := by decide +kernel
theorem dX11_removeWord_13 : decode cX11_removeWord 13 = .ok (.getfield 10, 3) := by decide +kernel
theorem dX11_removeWord_16 : decode cX11_removeWord 16 = .ok (.iload_n 1, 1) := by decide +kernel
theorem dX11_removeWord_17 : decode cX11_removeWord 17 = .ok (.invokevirtual 168, 3) := by decide +kernel
theorem dX11_removeWord_20 : decode cX11_removeWord 20 = .ok (.invokevirtual 142, 3) := by decide +kernel
theorem dX11_removeWord_23 : decode cX11_removeWord 23 = .ok (.ireturn, 1) := by decide +kernel
theorem dX11_patternCount_0 : decode cX11_patternCount 0 = .ok (.aload_n 0, 1) := by decide +kernel
theorem dX11_patternCount_1 : decode cX11_patternCount 1 = .ok (.getfield 10, 3) := by decide +kernel
theorem dX11_patternCount_4 : decode cX11_patternCount 4 = .ok (.invokevirtual 171, 3) := by decide +kernel
theorem dX11_patternCount_7 : decode cX11_patternCount 7 = .ok (.ireturn, 1) := by decide +kernel
theorem dX11_hasPattern_0 : decode cX11_hasPattern 0 = .ok (.iload_n 1, 1) := by decide +kernel
theorem dX11_hasPattern_1 : decode cX11_hasPattern 1 = .ok (.invokestatic 103, 3) := by decide +kernel
theorem dX11_hasPattern_4 : decode cX11_hasPattern 4 = .ok (.ifCond .ne 13, 3) := by decide +kernel
theorem dX11_hasPattern_7 : decode cX11_hasPattern 7 = .ok (.new 107, 3) := by decide +kernel
theorem dX11_hasPattern_10 : decode cX11_hasPattern 10 = .ok (.dup, 1) := by decide +kernel
theorem dX11_hasPattern_11 : decode cX11_hasPattern 11 = .ok (.ldc 109, 2) := by decide +kernel
theorem dX11_hasPattern_13 : decode cX11_hasPattern 13 = .ok (.invokespecial 111, 3) := by decide +kernel
theorem dX11_hasPattern_16 : decode cX11_hasPattern 16 = .ok (.athrow, 1) := by decide +kernel
theorem dX11_hasPattern_17 : decode cX11_hasPattern 17 = .ok (.aload_n 0, 1) := by decide +kernel
theorem dX11_hasPattern_18 : decode cX11_hasPattern 18 = .ok (.getfield 10, 3) := by decide +kernel
theorem dX11_hasPattern_21 : decode cX11_hasPattern 21 = .ok (.iload_n 1, 1) := by decide +kernel
theorem dX11_hasPattern_22 : decode cX11_hasPattern 22 = .ok (.invokevirtual 174, 3) := by decide +kernel
theorem dX11_hasPattern_25 : decode cX11_hasPattern 25 = .ok (.ifnull 7, 3) := by decide +kernel
theorem dX11_hasPattern_28 : decode cX11_hasPattern 28 = .ok (.iconst 1, 1) := by decide +kernel
theorem dX11_hasPattern_29 : decode cX11_hasPattern 29 = .ok (.goto 4, 3) := by decide +kernel
theorem dX11_hasPattern_32 : decode cX11_hasPattern 32 = .ok (.iconst 0, 1) := by decide +kernel
theorem dX11_hasPattern_33 : decode cX11_hasPattern 33 = .ok (.ireturn, 1) := by decide +kernel
theorem dX11_letterCount_0 : decode cX11_letterCount 0 = .ok (.aload_n 0, 1) := by decide +kernel
theorem dX11_letterCount_1 : decode cX11_letterCount 1 = .ok (.iload_n 1, 1) := by decide +kernel
theorem dX11_letterCount_2 : decode cX11_letterCount 2 = .ok (.invokevirtual 178, 3) := by decide +kernel
theorem dX11_letterCount_5 : decode cX11_letterCount 5 = .ok (.invokevirtual 181, 3) := by decide +kernel
theorem dX11_letterCount_8 : decode cX11_letterCount 8 = .ok (.ireturn, 1) := by decide +kernel
theorem dX11_acceptsEmpty_0 : decode cX11_acceptsEmpty 0 = .ok (.aload_n 0, 1) := by decide +kernel
theorem dX11_acceptsEmpty_1 : decode cX11_acceptsEmpty 1 = .ok (.getfield 50, 3) := by decide +kernel
theorem dX11_acceptsEmpty_4 : decode cX11_acceptsEmpty 4 = .ok (.aload_n 0, 1) := by decide +kernel
theorem dX11_acceptsEmpty_5 : decode cX11_acceptsEmpty 5 = .ok (.iload_n 1, 1) := by decide +kernel
theorem dX11_acceptsEmpty_6 : decode cX11_acceptsEmpty 6 = .ok (.invokevirtual 178, 3) := by decide +kernel
theorem dX11_acceptsEmpty_9 : decode cX11_acceptsEmpty 9 = .ok (.invokevirtual 186, 3) := by decide +kernel
theorem dX11_acceptsEmpty_12 : decode cX11_acceptsEmpty 12 = .ok (.aload_n 0, 1) := by decide +kernel
theorem dX11_acceptsEmpty_13 : decode cX11_acceptsEmpty 13 = .ok (.getfield 50, 3) := by decide +kernel
theorem dX11_acceptsEmpty_16 : decode cX11_acceptsEmpty 16 = .ok (.invokevirtual 190, 3) := by decide +kernel
theorem dX11_acceptsEmpty_19 : decode cX11_acceptsEmpty 19 = .ok (.ireturn, 1) := by decide +kernel
theorem dX11_canBegin_0 : decode cX11_canBegin 0 = .ok (.aload_n 0, 1) := by decide +kernel
theorem dX11_canBegin_1 : decode cX11_canBegin 1 = .ok (.getfield 50, 3) := by decide +kernel
theorem dX11_canBegin_4 : decode cX11_canBegin 4 = .ok (.aload_n 0, 1) := by decide +kernel
theorem dX11_canBegin_5 : decode cX11_canBegin 5 = .ok (.iload_n 1, 1) := by decide +kernel
theorem dX11_canBegin_6 : decode cX11_canBegin 6 = .ok (.invokevirtual 178, 3) := by decide +kernel
theorem dX11_canBegin_9 : decode cX11_canBegin 9 = .ok (.invokevirtual 186, 3) := by decide +kernel
theorem dX11_canBegin_12 : decode cX11_canBegin 12 = .ok (.aload_n 0, 1) := by decide +kernel
theorem dX11_canBegin_13 : decode cX11_canBegin 13 = .ok (.getfield 50, 3) := by decide +kernel
theorem dX11_canBegin_16 : decode cX11_canBegin 16 = .ok (.invokevirtual 193, 3) := by decide +kernel
theorem dX11_canBegin_19 : decode cX11_canBegin 19 = .ok (.aload_n 0, 1) := by decide +kernel
theorem dX11_canBegin_20 : decode cX11_canBegin 20 = .ok (.getfield 50, 3) := by decide +kernel
theorem dX11_canBegin_23 : decode cX11_canBegin 23 = .ok (.iload_n 2, 1) := by decide +kernel
theorem dX11_canBegin_24 : decode cX11_canBegin 24 = .ok (.invokestatic 196, 3) := by decide +kernel
theorem dX11_canBegin_27 : decode cX11_canBegin 27 = .ok (.invokevirtual 200, 3) := by decide +kernel
theorem dX11_canBegin_30 : decode cX11_canBegin 30 = .ok (.iand, 1) := by decide +kernel
theorem dX11_canBegin_31 : decode cX11_canBegin 31 = .ok (.ifCond .eq 7, 3) := by decide +kernel
theorem dX11_canBegin_34 : decode cX11_canBegin 34 = .ok (.iconst 1, 1) := by decide +kernel
theorem dX11_canBegin_35 : decode cX11_canBegin 35 = .ok (.goto 4, 3) := by decide +kernel
theorem dX11_canBegin_38 : decode cX11_canBegin 38 = .ok (.iconst 0, 1) := by decide +kernel
theorem dX11_canBegin_39 : decode cX11_canBegin 39 = .ok (.ireturn, 1) := by decide +kernel
theorem dX11_canEnd_0 : decode cX11_canEnd 0 = .ok (.aload_n 0, 1) := by decide +kernel
theorem dX11_canEnd_1 : decode cX11_canEnd 1 = .ok (.getfield 50, 3) := by decide +kernel
theorem dX11_canEnd_4 : decode cX11_canEnd 4 = .ok (.aload_n 0, 1) := by decide +kernel
theorem dX11_canEnd_5 : decode cX11_canEnd 5 = .ok (.iload_n 1, 1) := by decide +kernel
theorem dX11_canEnd_6 : decode cX11_canEnd 6 = .ok (.invokevirtual 178, 3) := by decide +kernel
theorem dX11_canEnd_9 : decode cX11_canEnd 9 = .ok (.invokevirtual 186, 3) := by decide +kernel
theorem dX11_canEnd_12 : decode cX11_canEnd 12 = .ok (.aload_n 0, 1) := by decide +kernel
theorem dX11_canEnd_13 : decode cX11_canEnd 13 = .ok (.getfield 50, 3) := by decide +kernel
theorem dX11_canEnd_16 : decode cX11_canEnd 16 = .ok (.invokevirtual 203, 3) := by decide +kernel
theorem dX11_canEnd_19 : decode cX11_canEnd 19 = .ok (.aload_n 0, 1) := by decide +kernel
theorem dX11_canEnd_20 : decode cX11_canEnd 20 = .ok (.getfield 50, 3) := by decide +kernel
theorem dX11_canEnd_23 : decode cX11_canEnd 23 = .ok (.iload_n 2, 1) := by decide +kernel
theorem dX11_canEnd_24 : decode cX11_canEnd 24 = .ok (.invokestatic 196, 3) := by decide +kernel
theorem dX11_canEnd_27 : decode cX11_canEnd 27 = .ok (.invokevirtual 200, 3) := by decide +kernel
theorem dX11_canEnd_30 : decode cX11_canEnd 30 = .ok (.iand, 1) := by decide +kernel
theorem dX11_canEnd_31 : decode cX11_canEnd 31 = .ok (.ifCond .eq 7, 3) := by decide +kernel
theorem dX11_canEnd_34 : decode cX11_canEnd 34 = .ok (.iconst 1, 1) := by decide +kernel
theorem dX11_canEnd_35 : decode cX11_canEnd 35 = .ok (.goto 4, 3) := by decide +kernel
theorem dX11_canEnd_38 : decode cX11_canEnd 38 = .ok (.iconst 0, 1) := by decide +kernel
theorem dX11_canEnd_39 : decode cX11_canEnd 39 = .ok (.ireturn, 1) := by decide +kernel
theorem dX11_canBeAdjacent_0 : decode cX11_canBeAdjacent 0 = .ok (.aload_n 0, 1) := by decide +kernel
theorem dX11_canBeAdjacent_1 : decode cX11_canBeAdjacent 1 = .ok (.getfield 50, 3) := by decide +kernel
theorem dX11_canBeAdjacent_4 : decode cX11_canBeAdjacent 4 = .ok (.aload_n 0, 1) := by decide +kernel
theorem dX11_canBeAdjacent_5 : decode cX11_canBeAdjacent 5 = .ok (.iload_n 1, 1) := by decide +kernel
theorem dX11_canBeAdjacent_6 : decode cX11_canBeAdjacent 6 = .ok (.invokevirtual 178, 3) := by decide +kernel
theorem dX11_canBeAdjacent_9 : decode cX11_canBeAdjacent 9 = .ok (.invokevirtual 186, 3) := by decide +kernel
theorem dX11_canBeAdjacent_12 : decode cX11_canBeAdjacent 12 = .ok (.aload_n 0, 1) := by decide +kernel
theorem dX11_canBeAdjacent_13 : decode cX11_canBeAdjacent 13 = .ok (.getfield 50, 3) := by decide +kernel
theorem dX11_canBeAdjacent_16 : decode cX11_canBeAdjacent 16 = .ok (.iload_n 2, 1) := by decide +kernel
theorem dX11_canBeAdjacent_17 : decode cX11_canBeAdjacent 17 = .ok (.invokestatic 196, 3) := by decide +kernel
theorem dX11_canBeAdjacent_20 : decode cX11_canBeAdjacent 20 = .ok (.invokevirtual 200, 3) := by decide +kernel
theorem dX11_canBeAdjacent_23 : decode cX11_canBeAdjacent 23 = .ok (.istore 4, 2) := by decide +kernel
theorem dX11_canBeAdjacent_25 : decode cX11_canBeAdjacent 25 = .ok (.aload_n 0, 1) := by decide +kernel
theorem dX11_canBeAdjacent_26 : decode cX11_canBeAdjacent 26 = .ok (.getfield 50, 3) := by decide +kernel
theorem dX11_canBeAdjacent_29 : decode cX11_canBeAdjacent 29 = .ok (.iload_n 3, 1) := by decide +kernel
theorem dX11_canBeAdjacent_30 : decode cX11_canBeAdjacent 30 = .ok (.invokestatic 196, 3) := by decide +kernel
theorem dX11_canBeAdjacent_33 : decode cX11_canBeAdjacent 33 = .ok (.invokevirtual 200, 3) := by decide +kernel
theorem dX11_canBeAdjacent_36 : decode cX11_canBeAdjacent 36 = .ok (.istore 5, 2) := by decide +kernel
theorem dX11_canBeAdjacent_38 : decode cX11_canBeAdjacent 38 = .ok (.aload_n 0, 1) := by decide +kernel
theorem dX11_canBeAdjacent_39 : decode cX11_canBeAdjacent 39 = .ok (.getfield 50, 3) := by decide +kernel
theorem dX11_canBeAdjacent_42 : decode cX11_canBeAdjacent 42 = .ok (.iload 4, 2) := by decide +kernel
theorem dX11_canBeAdjacent_44 : decode cX11_canBeAdjacent 44 = .ok (.invokevirtual 206, 3) := by decide +kernel
theorem dX11_canBeAdjacent_47 : decode cX11_canBeAdjacent 47 = .ok (.iload 5, 2) := by decide +kernel
theorem dX11_canBeAdjacent_49 : decode cX11_canBeAdjacent 49 = .ok (.iand, 1) := by decide +kernel
theorem dX11_canBeAdjacent_50 : decode cX11_canBeAdjacent 50 = .ok (.ifCond .eq 7, 3) := by decide +kernel
theorem dX11_canBeAdjacent_53 : decode cX11_canBeAdjacent 53 = .ok (.iconst 1, 1) := by decide +kernel
theorem dX11_canBeAdjacent_54 : decode cX11_canBeAdjacent 54 = .ok (.goto 4, 3) := by decide +kernel
theorem dX11_canBeAdjacent_57 : decode cX11_canBeAdjacent 57 = .ok (.iconst 0, 1) := by decide +kernel
theorem dX11_canBeAdjacent_58 : decode cX11_canBeAdjacent 58 = .ok (.ireturn, 1) := by decide +kernel
theorem dX11_matches_0 : decode cX11_matches 0 = .ok (.aload_n 0, 1) := by decide +kernel
theorem dX11_matches_1 : decode cX11_matches 1 = .ok (.iload_n 1, 1) := by decide +kernel
theorem dX11_matches_2 : decode cX11_matches 2 = .ok (.invokevirtual 178, 3) := by decide +kernel
theorem dX11_matches_5 : decode cX11_matches 5 = .ok (.astore_n 2, 1) := by decide +kernel
theorem dX11_matches_6 : decode cX11_matches 6 = .ok (.aload_n 0, 1) := by decide +kernel
theorem dX11_matches_7 : decode cX11_matches 7 = .ok (.invokevirtual 209, 3) := by decide +kernel
theorem dX11_matches_10 : decode cX11_matches 10 = .ok (.astore_n 3, 1) := by decide +kernel
theorem dX11_matches_11 : decode cX11_matches 11 = .ok (.aload_n 0, 1) := by decide +kernel
theorem dX11_matches_12 : decode cX11_matches 12 = .ok (.getfield 57, 3) := by decide +kernel
theorem dX11_matches_15 : decode cX11_matches 15 = .ok (.aload_n 2, 1) := by decide +kernel
theorem dX11_matches_16 : decode cX11_matches 16 = .ok (.invokevirtual 213, 3) := by decide +kernel
theorem dX11_matches_19 : decode cX11_matches 19 = .ok (.aload_n 0, 1) := by decide +kernel
theorem dX11_matches_20 : decode cX11_matches 20 = .ok (.getfield 57, 3) := by decide +kernel
theorem dX11_matches_23 : decode cX11_matches 23 = .ok (.aload_n 3, 1) := by decide +kernel
theorem dX11_matches_24 : decode cX11_matches 24 = .ok (.invokevirtual 216, 3) := by decide +kernel
theorem dX11_matches_27 : decode cX11_matches 27 = .ok (.ireturn, 1) := by decide +kernel
theorem dX11_matchesBySpans_0 : decode cX11_matchesBySpans 0 = .ok (.aload_n 0, 1) := by decide +kernel
theorem dX11_matchesBySpans_1 : decode cX11_matchesBySpans 1 = .ok (.iload_n 1, 1) := by decide +kernel
theorem dX11_matchesBySpans_2 : decode cX11_matchesBySpans 2 = .ok (.invokevirtual 178, 3) := by decide +kernel
theorem dX11_matchesBySpans_5 : decode cX11_matchesBySpans 5 = .ok (.astore_n 2, 1) := by decide +kernel
theorem dX11_matchesBySpans_6 : decode cX11_matchesBySpans 6 = .ok (.aload_n 0, 1) := by decide +kernel
theorem dX11_matchesBySpans_7 : decode cX11_matchesBySpans 7 = .ok (.getfield 84, 3) := by decide +kernel
theorem dX11_matchesBySpans_10 : decode cX11_matchesBySpans 10 = .ok (.aload_n 2, 1) := by decide +kernel
theorem dX11_matchesBySpans_11 : decode cX11_matchesBySpans 11 = .ok (.aload_n 0, 1) := by decide +kernel
theorem dX11_matchesBySpans_12 : decode cX11_matchesBySpans 12 = .ok (.invokevirtual 209, 3) := by decide +kernel
theorem dX11_matchesBySpans_15 : decode cX11_matchesBySpans 15 = .ok (.invokevirtual 220, 3) := by decide +kernel
theorem dX11_matchesBySpans_18 : decode cX11_matchesBySpans 18 = .ok (.ireturn, 1) := by decide +kernel
theorem dX11_longestPrefix_0 : decode cX11_longestPrefix 0 = .ok (.aload_n 0, 1) := by decide +kernel
theorem dX11_longestPrefix_1 : decode cX11_longestPrefix 1 = .ok (.iload_n 1, 1) := by decide +kernel
theorem dX11_longestPrefix_2 : decode cX11_longestPrefix 2 = .ok (.invokevirtual 178, 3) := by decide +kernel
theorem dX11_longestPrefix_5 : decode cX11_longestPrefix 5 = .ok (.astore_n 2, 1) := by decide +kernel
theorem dX11_longestPrefix_6 : decode cX11_longestPrefix 6 = .ok (.aload_n 0, 1) := by decide +kernel
theorem dX11_longestPrefix_7 : decode cX11_longestPrefix 7 = .ok (.invokevirtual 209, 3) := by decide +kernel
theorem dX11_longestPrefix_10 : decode cX11_longestPrefix 10 = .ok (.astore_n 3, 1) := by decide +kernel
theorem dX11_longestPrefix_11 : decode cX11_longestPrefix 11 = .ok (.aload_n 0, 1) := by decide +kernel
theorem dX11_longestPrefix_12 : decode cX11_longestPrefix 12 = .ok (.getfield 57, 3) := by decide +kernel
theorem dX11_longestPrefix_15 : decode cX11_longestPrefix 15 = .ok (.aload_n 2, 1) := by decide +kernel
theorem dX11_longestPrefix_16 : decode cX11_longestPrefix 16 = .ok (.invokevirtual 213, 3) := by decide +kernel
theorem dX11_longestPrefix_19 : decode cX11_longestPrefix 19 = .ok (.aload_n 0, 1) := by decide +kernel
theorem dX11_longestPrefix_20 : decode cX11_longestPrefix 20 = .ok (.getfield 57, 3) := by decide +kernel
theorem dX11_longestPrefix_23 : decode cX11_longestPrefix 23 = .ok (.aload_n 3, 1) := by decide +kernel
theorem dX11_longestPrefix_24 : decode cX11_longestPrefix 24 = .ok (.invokevirtual 224, 3) := by decide +kernel
theorem dX11_longestPrefix_27 : decode cX11_longestPrefix 27 = .ok (.ireturn, 1) := by decide +kernel
theorem dX11_acceptsWord_0 : decode cX11_acceptsWord 0 = .ok (.aload_n 0, 1) := by decide +kernel
theorem dX11_acceptsWord_1 : decode cX11_acceptsWord 1 = .ok (.iload_n 1, 1) := by decide +kernel
theorem dX11_acceptsWord_2 : decode cX11_acceptsWord 2 = .ok (.invokevirtual 178, 3) := by decide +kernel
theorem dX11_acceptsWord_5 : decode cX11_acceptsWord 5 = .ok (.astore_n 3, 1) := by decide +kernel
theorem dX11_acceptsWord_6 : decode cX11_acceptsWord 6 = .ok (.aload_n 0, 1) := by decide +kernel
theorem dX11_acceptsWord_7 : decode cX11_acceptsWord 7 = .ok (.iload_n 2, 1) := by decide +kernel
theorem dX11_acceptsWord_8 : decode cX11_acceptsWord 8 = .ok (.invokevirtual 227, 3) := by decide +kernel
theorem dX11_acceptsWord_11 : decode cX11_acceptsWord 11 = .ok (.astore 4, 2) := by decide +kernel
theorem dX11_acceptsWord_13 : decode cX11_acceptsWord 13 = .ok (.aload_n 0, 1) := by decide +kernel
theorem dX11_acceptsWord_14 : decode cX11_acceptsWord 14 = .ok (.getfield 57, 3) := by decide +kernel
theorem dX11_acceptsWord_17 : decode cX11_acceptsWord 17 = .ok (.aload_n 3, 1) := by decide +kernel
theorem dX11_acceptsWord_18 : decode cX11_acceptsWord 18 = .ok (.invokevirtual 213, 3) := by decide +kernel
theorem dX11_acceptsWord_21 : decode cX11_acceptsWord 21 = .ok (.aload_n 0, 1) := by decide +kernel
theorem dX11_acceptsWord_22 : decode cX11_acceptsWord 22 = .ok (.getfield 57, 3) := by decide +kernel
theorem dX11_acceptsWord_25 : decode cX11_acceptsWord 25 = .ok (.aload 4, 2) := by decide +kernel
theorem dX11_acceptsWord_27 : decode cX11_acceptsWord 27 = .ok (.invokevirtual 216, 3) := by decide +kernel
theorem dX11_acceptsWord_30 : decode cX11_acceptsWord 30 = .ok (.ireturn, 1) := by decide +kernel
theorem dX11_acceptedWords_0 : decode cX11_acceptedWords 0 = .ok (.aload_n 0, 1) := by decide +kernel
theorem dX11_acceptedWords_1 : decode cX11_acceptedWords 1 = .ok (.getfield 57, 3) := by decide +kernel
theorem dX11_acceptedWords_4 : decode cX11_acceptedWords 4 = .ok (.aload_n 0, 1) := by decide +kernel
theorem dX11_acceptedWords_5 : decode cX11_acceptedWords 5 = .ok (.iload_n 1, 1) := by decide +kernel
theorem dX11_acceptedWords_6 : decode cX11_acceptedWords 6 = .ok (.invokevirtual 178, 3) := by decide +kernel
theorem dX11_acceptedWords_9 : decode cX11_acceptedWords 9 = .ok (.invokevirtual 213, 3) := by decide +kernel
theorem dX11_acceptedWords_12 : decode cX11_acceptedWords 12 = .ok (.aload_n 0, 1) := by decide +kernel
theorem dX11_acceptedWords_13 : decode cX11_acceptedWords 13 = .ok (.invokevirtual 231, 3) := by decide +kernel
theorem dX11_acceptedWords_16 : decode cX11_acceptedWords 16 = .ok (.ireturn, 1) := by decide +kernel
theorem dX11_countWords_0 : decode cX11_countWords 0 = .ok (.aload_n 0, 1) := by decide +kernel
theorem dX11_countWords_1 : decode cX11_countWords 1 = .ok (.iload_n 1, 1) := by decide +kernel
theorem dX11_countWords_2 : decode cX11_countWords 2 = .ok (.invokevirtual 178, 3) := by decide +kernel
theorem dX11_countWords_5 : decode cX11_countWords 5 = .ok (.astore_n 3, 1) := by decide +kernel
theorem dX11_countWords_6 : decode cX11_countWords 6 = .ok (.iload_n 2, 1) := by decide +kernel
theorem dX11_countWords_7 : decode cX11_countWords 7 = .ok (.invokestatic 234, 3) := by decide +kernel
theorem dX11_countWords_10 : decode cX11_countWords 10 = .ok (.aload_n 0, 1) := by decide +kernel
theorem dX11_countWords_11 : decode cX11_countWords 11 = .ok (.getfield 57, 3) := by decide +kernel
theorem dX11_countWords_14 : decode cX11_countWords 14 = .ok (.aload_n 3, 1) := by decide +kernel
theorem dX11_countWords_15 : decode cX11_countWords 15 = .ok (.invokevirtual 213, 3) := by decide +kernel
theorem dX11_countWords_18 : decode cX11_countWords 18 = .ok (.aload_n 0, 1) := by decide +kernel
theorem dX11_countWords_19 : decode cX11_countWords 19 = .ok (.getfield 57, 3) := by decide +kernel
theorem dX11_countWords_22 : decode cX11_countWords 22 = .ok (.iload_n 2, 1) := by decide +kernel
theorem dX11_countWords_23 : decode cX11_countWords 23 = .ok (.invokevirtual 238, 3) := by decide +kernel
theorem dX11_countWords_26 : decode cX11_countWords 26 = .ok (.ireturn, 1) := by decide +kernel
theorem dX11_countWordsByListing_0 : decode cX11_countWordsByListing 0 = .ok (.aload_n 0, 1) := by decide +kernel
theorem dX11_countWordsByListing_1 : decode cX11_countWordsByListing 1 = .ok (.iload_n 1, 1) := by decide +kernel
theorem dX11_countWordsByListing_2 : decode cX11_countWordsByListing 2 = .ok (.invokevirtual 178, 3) := by decide +kernel
theorem dX11_countWordsByListing_5 : decode cX11_countWordsByListing 5 = .ok (.astore_n 3, 1) := by decide +kernel
theorem dX11_countWordsByListing_6 : decode cX11_countWordsByListing 6 = .ok (.iload_n 2, 1) := by decide +kernel
theorem dX11_countWordsByListing_7 : decode cX11_countWordsByListing 7 = .ok (.invokestatic 234, 3) := by decide +kernel
theorem dX11_countWordsByListing_10 : decode cX11_countWordsByListing 10 = .ok (.aload_n 0, 1) := by decide +kernel
theorem dX11_countWordsByListing_11 : decode cX11_countWordsByListing 11 = .ok (.getfield 57, 3) := by decide +kernel
theorem dX11_countWordsByListing_14 : decode cX11_countWordsByListing 14 = .ok (.aload_n 3, 1) := by decide +kernel
theorem dX11_countWordsByListing_15 : decode cX11_countWordsByListing 15 = .ok (.invokevirtual 213, 3) := by decide +kernel
theorem dX11_countWordsByListing_18 : decode cX11_countWordsByListing 18 = .ok (.aload_n 0, 1) := by decide +kernel
theorem dX11_countWordsByListing_19 : decode cX11_countWordsByListing 19 = .ok (.getfield 57, 3) := by decide +kernel
theorem dX11_countWordsByListing_22 : decode cX11_countWordsByListing 22 = .ok (.iload_n 2, 1) := by decide +kernel
theorem dX11_countWordsByListing_23 : decode cX11_countWordsByListing 23 = .ok (.invokevirtual 241, 3) := by decide +kernel
theorem dX11_countWordsByListing_26 : decode cX11_countWordsByListing 26 = .ok (.ireturn, 1) := by decide +kernel
theorem dX11_shortestLength_0 : decode cX11_shortestLength 0 = .ok (.aload_n 0, 1) := by decide +kernel
theorem dX11_shortestLength_1 : decode cX11_shortestLength 1 = .ok (.getfield 57, 3) := by decide +kernel
theorem dX11_shortestLength_4 : decode cX11_shortestLength 4 = .ok (.aload_n 0, 1) := by decide +kernel
theorem dX11_shortestLength_5 : decode cX11_shortestLength 5 = .ok (.iload_n 1, 1) := by decide +kernel
theorem dX11_shortestLength_6 : decode cX11_shortestLength 6 = .ok (.invokevirtual 178, 3) := by decide +kernel
theorem dX11_shortestLength_9 : decode cX11_shortestLength 9 = .ok (.invokevirtual 213, 3) := by decide +kernel
theorem dX11_shortestLength_12 : decode cX11_shortestLength 12 = .ok (.aload_n 0, 1) := by decide +kernel
theorem dX11_shortestLength_13 : decode cX11_shortestLength 13 = .ok (.getfield 57, 3) := by decide +kernel
theorem dX11_shortestLength_16 : decode cX11_shortestLength 16 = .ok (.invokevirtual 244, 3) := by decide +kernel
theorem dX11_shortestLength_19 : decode cX11_shortestLength 19 = .ok (.ireturn, 1) := by decide +kernel
theorem dX11_stateCount_0 : decode cX11_stateCount 0 = .ok (.aload_n 0, 1) := by decide +kernel
theorem dX11_stateCount_1 : decode cX11_stateCount 1 = .ok (.getfield 57, 3) := by decide +kernel
theorem dX11_stateCount_4 : decode cX11_stateCount 4 = .ok (.aload_n 0, 1) := by decide +kernel
theorem dX11_stateCount_5 : decode cX11_stateCount 5 = .ok (.iload_n 1, 1) := by decide +kernel
theorem dX11_stateCount_6 : decode cX11_stateCount 6 = .ok (.invokevirtual 178, 3) := by decide +kernel
theorem dX11_stateCount_9 : decode cX11_stateCount 9 = .ok (.invokevirtual 213, 3) := by decide +kernel
theorem dX11_stateCount_12 : decode cX11_stateCount 12 = .ok (.aload_n 0, 1) := by decide +kernel
theorem dX11_stateCount_13 : decode cX11_stateCount 13 = .ok (.getfield 57, 3) := by decide +kernel
theorem dX11_stateCount_16 : decode cX11_stateCount 16 = .ok (.invokevirtual 247, 3) := by decide +kernel
theorem dX11_stateCount_19 : decode cX11_stateCount 19 = .ok (.ireturn, 1) := by decide +kernel
theorem dX11_acceptingCount_0 : decode cX11_acceptingCount 0 = .ok (.aload_n 0, 1) := by decide +kernel
theorem dX11_acceptingCount_1 : decode cX11_acceptingCount 1 = .ok (.getfield 57, 3) := by decide +kernel
theorem dX11_acceptingCount_4 : decode cX11_acceptingCount 4 = .ok (.aload_n 0, 1) := by decide +kernel
theorem dX11_acceptingCount_5 : decode cX11_acceptingCount 5 = .ok (.iload_n 1, 1) := by decide +kernel
theorem dX11_acceptingCount_6 : decode cX11_acceptingCount 6 = .ok (.invokevirtual 178, 3) := by decide +kernel
theorem dX11_acceptingCount_9 : decode cX11_acceptingCount 9 = .ok (.invokevirtual 213, 3) := by decide +kernel
theorem dX11_acceptingCount_12 : decode cX11_acceptingCount 12 = .ok (.aload_n 0, 1) := by decide +kernel
theorem dX11_acceptingCount_13 : decode cX11_acceptingCount 13 = .ok (.getfield 57, 3) := by decide +kernel
theorem dX11_acceptingCount_16 : decode cX11_acceptingCount 16 = .ok (.invokevirtual 248, 3) := by decide +kernel
theorem dX11_acceptingCount_19 : decode cX11_acceptingCount 19 = .ok (.ireturn, 1) := by decide +kernel
theorem dX11_smallestCount_0 : decode cX11_smallestCount 0 = .ok (.aload_n 0, 1) := by decide +kernel
theorem dX11_smallestCount_1 : decode cX11_smallestCount 1 = .ok (.aload_n 0, 1) := by decide +kernel
theorem dX11_smallestCount_2 : decode cX11_smallestCount 2 = .ok (.iload_n 1, 1) := by decide +kernel
theorem dX11_smallestCount_3 : decode cX11_smallestCount 3 = .ok (.invokevirtual 178, 3) := by decide +kernel
theorem dX11_smallestCount_6 : decode cX11_smallestCount 6 = .ok (.invokevirtual 251, 3) := by decide +kernel
theorem dX11_smallestCount_9 : decode cX11_smallestCount 9 = .ok (.ireturn, 1) := by decide +kernel
theorem dX11_smallestCountByPairs_0 : decode cX11_smallestCountByPairs 0 = .ok (.aload_n 0, 1) := by decide +kernel
theorem dX11_smallestCountByPairs_1 : decode cX11_smallestCountByPairs 1 = .ok (.getfield 57, 3) := by decide +kernel
theorem dX11_smallestCountByPairs_4 : decode cX11_smallestCountByPairs 4 = .ok (.aload_n 0, 1) := by decide +kernel
theorem dX11_smallestCountByPairs_5 : decode cX11_smallestCountByPairs 5 = .ok (.iload_n 1, 1) := by decide +kernel
theorem dX11_smallestCountByPairs_6 : decode cX11_smallestCountByPairs 6 = .ok (.invokevirtual 178, 3) := by decide +kernel
theorem dX11_smallestCountByPairs_9 : decode cX11_smallestCountByPairs 9 = .ok (.invokevirtual 213, 3) := by decide +kernel
theorem dX11_smallestCountByPairs_12 : decode cX11_smallestCountByPairs 12 = .ok (.aload_n 0, 1) := by decide +kernel
theorem dX11_smallestCountByPairs_13 : decode cX11_smallestCountByPairs 13 = .ok (.getfield 77, 3) := by decide +kernel
theorem dX11_smallestCountByPairs_16 : decode cX11_smallestCountByPairs 16 = .ok (.aload_n 0, 1) := by decide +kernel
theorem dX11_smallestCountByPairs_17 : decode cX11_smallestCountByPairs 17 = .ok (.getfield 57, 3) := by decide +kernel
theorem dX11_smallestCountByPairs_20 : decode cX11_smallestCountByPairs 20 = .ok (.invokevirtual 255, 3) := by decide +kernel
theorem dX11_smallestCountByPairs_23 : decode cX11_smallestCountByPairs 23 = .ok (.ireturn, 1) := by decide +kernel
theorem dX11_isFinite_0 : decode cX11_isFinite 0 = .ok (.aload_n 0, 1) := by decide +kernel
theorem dX11_isFinite_1 : decode cX11_isFinite 1 = .ok (.getfield 50, 3) := by decide +kernel
theorem dX11_isFinite_4 : decode cX11_isFinite 4 = .ok (.aload_n 0, 1) := by decide +kernel
theorem dX11_isFinite_5 : decode cX11_isFinite 5 = .ok (.iload_n 1, 1) := by decide +kernel
theorem dX11_isFinite_6 : decode cX11_isFinite 6 = .ok (.invokevirtual 178, 3) := by decide +kernel
theorem dX11_isFinite_9 : decode cX11_isFinite 9 = .ok (.invokevirtual 186, 3) := by decide +kernel
theorem dX11_isFinite_12 : decode cX11_isFinite 12 = .ok (.aload_n 0, 1) := by decide +kernel
theorem dX11_isFinite_13 : decode cX11_isFinite 13 = .ok (.getfield 50, 3) := by decide +kernel
theorem dX11_isFinite_16 : decode cX11_isFinite 16 = .ok (.invokevirtual 259, 3) := by decide +kernel
theorem dX11_isFinite_19 : decode cX11_isFinite 19 = .ok (.ifCond .ne 7, 3) := by decide +kernel
theorem dX11_isFinite_22 : decode cX11_isFinite 22 = .ok (.iconst 1, 1) := by decide +kernel
theorem dX11_isFinite_23 : decode cX11_isFinite 23 = .ok (.goto 4, 3) := by decide +kernel
theorem dX11_isFinite_26 : decode cX11_isFinite 26 = .ok (.iconst 0, 1) := by decide +kernel
theorem dX11_isFinite_27 : decode cX11_isFinite 27 = .ok (.ireturn, 1) := by decide +kernel
theorem dX11_isUniversal_0 : decode cX11_isUniversal 0 = .ok (.aload_n 0, 1) := by decide +kernel
theorem dX11_isUniversal_1 : decode cX11_isUniversal 1 = .ok (.getfield 57, 3) := by decide +kernel
theorem dX11_isUniversal_4 : decode cX11_isUniversal 4 = .ok (.aload_n 0, 1) := by decide +kernel
theorem dX11_isUniversal_5 : decode cX11_isUniversal 5 = .ok (.iload_n 1, 1) := by decide +kernel
theorem dX11_isUniversal_6 : decode cX11_isUniversal 6 = .ok (.invokevirtual 178, 3) := by decide +kernel
theorem dX11_isUniversal_9 : decode cX11_isUniversal 9 = .ok (.invokevirtual 213, 3) := by decide +kernel
theorem dX11_isUniversal_12 : decode cX11_isUniversal 12 = .ok (.aload_n 0, 1) := by decide +kernel
theorem dX11_isUniversal_13 : decode cX11_isUniversal 13 = .ok (.getfield 57, 3) := by decide +kernel
theorem dX11_isUniversal_16 : decode cX11_isUniversal 16 = .ok (.invokevirtual 248, 3) := by decide +kernel
theorem dX11_isUniversal_19 : decode cX11_isUniversal 19 = .ok (.aload_n 0, 1) := by decide +kernel
theorem dX11_isUniversal_20 : decode cX11_isUniversal 20 = .ok (.getfield 57, 3) := by decide +kernel
theorem dX11_isUniversal_23 : decode cX11_isUniversal 23 = .ok (.invokevirtual 247, 3) := by decide +kernel
theorem dX11_isUniversal_26 : decode cX11_isUniversal 26 = .ok (.if_icmp .ne 7, 3) := by decide +kernel
theorem dX11_isUniversal_29 : decode cX11_isUniversal 29 = .ok (.iconst 1, 1) := by decide +kernel
theorem dX11_isUniversal_30 : decode cX11_isUniversal 30 = .ok (.goto 4, 3) := by decide +kernel
theorem dX11_isUniversal_33 : decode cX11_isUniversal 33 = .ok (.iconst 0, 1) := by decide +kernel
theorem dX11_isUniversal_34 : decode cX11_isUniversal 34 = .ok (.ireturn, 1) := by decide +kernel
theorem dX11_areEquivalent_0 : decode cX11_areEquivalent 0 = .ok (.aload_n 0, 1) := by decide +kernel
theorem dX11_areEquivalent_1 : decode cX11_areEquivalent 1 = .ok (.aload_n 0, 1) := by decide +kernel
theorem dX11_areEquivalent_2 : decode cX11_areEquivalent 2 = .ok (.iload_n 1, 1) := by decide +kernel
theorem dX11_areEquivalent_3 : decode cX11_areEquivalent 3 = .ok (.invokevirtual 178, 3) := by decide +kernel
theorem dX11_areEquivalent_6 : decode cX11_areEquivalent 6 = .ok (.aload_n 0, 1) := by decide +kernel
theorem dX11_areEquivalent_7 : decode cX11_areEquivalent 7 = .ok (.iload_n 2, 1) := by decide +kernel
theorem dX11_areEquivalent_8 : decode cX11_areEquivalent 8 = .ok (.invokevirtual 178, 3) := by decide +kernel
theorem dX11_areEquivalent_11 : decode cX11_areEquivalent 11 = .ok (.invokevirtual 262, 3) := by decide +kernel
theorem dX11_areEquivalent_14 : decode cX11_areEquivalent 14 = .ok (.ireturn, 1) := by decide +kernel
theorem dX11_areEquivalentBySmallest_0 : decode cX11_areEquivalentBySmallest 0 = .ok (.aload_n 0, 1) := by decide +kernel
theorem dX11_areEquivalentBySmallest_1 : decode cX11_areEquivalentBySmallest 1 = .ok (.aload_n 0, 1) := by decide +kernel
theorem dX11_areEquivalentBySmallest_2 : decode cX11_areEquivalentBySmallest 2 = .ok (.iload_n 1, 1) := by decide +kernel
theorem dX11_areEquivalentBySmallest_3 : decode cX11_areEquivalentBySmallest 3 = .ok (.invokevirtual 178, 3) := by decide +kernel
theorem dX11_areEquivalentBySmallest_6 : decode cX11_areEquivalentBySmallest 6 = .ok (.aload_n 0, 1) := by decide +kernel
theorem dX11_areEquivalentBySmallest_7 : decode cX11_areEquivalentBySmallest 7 = .ok (.iload_n 2, 1) := by decide +kernel
theorem dX11_areEquivalentBySmallest_8 : decode cX11_areEquivalentBySmallest 8 = .ok (.invokevirtual 178, 3) := by decide +kernel
theorem dX11_areEquivalentBySmallest_11 : decode cX11_areEquivalentBySmallest 11 = .ok (.invokevirtual 266, 3) := by decide +kernel
theorem dX11_areEquivalentBySmallest_14 : decode cX11_areEquivalentBySmallest 14 = .ok (.ireturn, 1) := by decide +kernel
theorem dX11_isIncluded_0 : decode cX11_isIncluded 0 = .ok (.aload_n 0, 1) := by decide +kernel
theorem dX11_isIncluded_1 : decode cX11_isIncluded 1 = .ok (.aload_n 0, 1) := by decide +kernel
theorem dX11_isIncluded_2 : decode cX11_isIncluded 2 = .ok (.iload_n 1, 1) := by decide +kernel
theorem dX11_isIncluded_3 : decode cX11_isIncluded 3 = .ok (.invokevirtual 178, 3) := by decide +kernel
theorem dX11_isIncluded_6 : decode cX11_isIncluded 6 = .ok (.aload_n 0, 1) := by decide +kernel
theorem dX11_isIncluded_7 : decode cX11_isIncluded 7 = .ok (.iload_n 2, 1) := by decide +kernel
theorem dX11_isIncluded_8 : decode cX11_isIncluded 8 = .ok (.invokevirtual 178, 3) := by decide +kernel
theorem dX11_isIncluded_11 : decode cX11_isIncluded 11 = .ok (.invokevirtual 269, 3) := by decide +kernel
theorem dX11_isIncluded_14 : decode cX11_isIncluded 14 = .ok (.aload_n 0, 1) := by decide +kernel
theorem dX11_isIncluded_15 : decode cX11_isIncluded 15 = .ok (.getfield 77, 3) := by decide +kernel
theorem dX11_isIncluded_18 : decode cX11_isIncluded 18 = .ok (.aload_n 0, 1) := by decide +kernel
theorem dX11_isIncluded_19 : decode cX11_isIncluded 19 = .ok (.getfield 57, 3) := by decide +kernel
theorem dX11_isIncluded_22 : decode cX11_isIncluded 22 = .ok (.aload_n 0, 1) := by decide +kernel
theorem dX11_isIncluded_23 : decode cX11_isIncluded 23 = .ok (.getfield 61, 3) := by decide +kernel
theorem dX11_isIncluded_26 : decode cX11_isIncluded 26 = .ok (.invokevirtual 273, 3) := by decide +kernel
theorem dX11_isIncluded_29 : decode cX11_isIncluded 29 = .ok (.ifCond .ne 7, 3) := by decide +kernel
theorem dX11_isIncluded_32 : decode cX11_isIncluded 32 = .ok (.iconst 1, 1) := by decide +kernel
theorem dX11_isIncluded_33 : decode cX11_isIncluded 33 = .ok (.goto 4, 3) := by decide +kernel
theorem dX11_isIncluded_36 : decode cX11_isIncluded 36 = .ok (.iconst 0, 1) := by decide +kernel
theorem dX11_isIncluded_37 : decode cX11_isIncluded 37 = .ok (.ireturn, 1) := by decide +kernel
theorem dX11_differenceLength_0 : decode cX11_differenceLength 0 = .ok (.aload_n 0, 1) := by decide +kernel
theorem dX11_differenceLength_1 : decode cX11_differenceLength 1 = .ok (.aload_n 0, 1) := by decide +kernel
theorem dX11_differenceLength_2 : decode cX11_differenceLength 2 = .ok (.iload_n 1, 1) := by decide +kernel
theorem dX11_differenceLength_3 : decode cX11_differenceLength 3 = .ok (.invokevirtual 178, 3) := by decide +kernel
theorem dX11_differenceLength_6 : decode cX11_differenceLength 6 = .ok (.aload_n 0, 1) := by decide +kernel
theorem dX11_differenceLength_7 : decode cX11_differenceLength 7 = .ok (.iload_n 2, 1) := by decide +kernel
theorem dX11_differenceLength_8 : decode cX11_differenceLength 8 = .ok (.invokevirtual 178, 3) := by decide +kernel
theorem dX11_differenceLength_11 : decode cX11_differenceLength 11 = .ok (.invokevirtual 269, 3) := by decide +kernel
theorem dX11_differenceLength_14 : decode cX11_differenceLength 14 = .ok (.aload_n 0, 1) := by decide +kernel
theorem dX11_differenceLength_15 : decode cX11_differenceLength 15 = .ok (.getfield 77, 3) := by decide +kernel
theorem dX11_differenceLength_18 : decode cX11_differenceLength 18 = .ok (.aload_n 0, 1) := by decide +kernel
theorem dX11_differenceLength_19 : decode cX11_differenceLength 19 = .ok (.getfield 57, 3) := by decide +kernel
theorem dX11_differenceLength_22 : decode cX11_differenceLength 22 = .ok (.aload_n 0, 1) := by decide +kernel
theorem dX11_differenceLength_23 : decode cX11_differenceLength 23 = .ok (.getfield 61, 3) := by decide +kernel
theorem dX11_differenceLength_26 : decode cX11_differenceLength 26 = .ok (.invokevirtual 277, 3) := by decide +kernel
theorem dX11_differenceLength_29 : decode cX11_differenceLength 29 = .ok (.ifCond .eq 13, 3) := by decide +kernel
theorem dX11_differenceLength_32 : decode cX11_differenceLength 32 = .ok (.aload_n 0, 1) := by decide +kernel
theorem dX11_differenceLength_33 : decode cX11_differenceLength 33 = .ok (.getfield 77, 3) := by decide +kernel
theorem dX11_differenceLength_36 : decode cX11_differenceLength 36 = .ok (.invokevirtual 280, 3) := by decide +kernel
theorem dX11_differenceLength_39 : decode cX11_differenceLength 39 = .ok (.goto 4, 3) := by decide +kernel
theorem dX11_differenceLength_42 : decode cX11_differenceLength 42 = .ok (.iconst (-1), 1) := by decide +kernel
theorem dX11_differenceLength_43 : decode cX11_differenceLength 43 = .ok (.ireturn, 1) := by decide +kernel
theorem dX11_slotByStates_0 : decode cX11_slotByStates 0 = .ok (.iconst 0, 1) := by decide +kernel
theorem dX11_slotByStates_1 : decode cX11_slotByStates 1 = .ok (.istore_n 2, 1) := by decide +kernel
theorem dX11_slotByStates_2 : decode cX11_slotByStates 2 = .ok (.iload_n 2, 1) := by decide +kernel
theorem dX11_slotByStates_3 : decode cX11_slotByStates 3 = .ok (.bipush 6, 2) := by decide +kernel
theorem dX11_slotByStates_5 : decode cX11_slotByStates 5 = .ok (.if_icmp .ge 37, 3) := by decide +kernel
theorem dX11_slotByStates_8 : decode cX11_slotByStates 8 = .ok (.aload_n 0, 1) := by decide +kernel
theorem dX11_slotByStates_9 : decode cX11_slotByStates 9 = .ok (.getfield 10, 3) := by decide +kernel
theorem dX11_slotByStates_12 : decode cX11_slotByStates 12 = .ok (.iload_n 2, 1) := by decide +kernel
theorem dX11_slotByStates_13 : decode cX11_slotByStates 13 = .ok (.invokevirtual 174, 3) := by decide +kernel
theorem dX11_slotByStates_16 : decode cX11_slotByStates 16 = .ok (.astore_n 3, 1) := by decide +kernel
theorem dX11_slotByStates_17 : decode cX11_slotByStates 17 = .ok (.aload_n 0, 1) := by decide +kernel
theorem dX11_slotByStates_18 : decode cX11_slotByStates 18 = .ok (.getfield 88, 3) := by decide +kernel
theorem dX11_slotByStates_21 : decode cX11_slotByStates 21 = .ok (.iload_n 2, 1) := by decide +kernel
theorem dX11_slotByStates_22 : decode cX11_slotByStates 22 = .ok (.aload_n 3, 1) := by decide +kernel
theorem dX11_slotByStates_23 : decode cX11_slotByStates 23 = .ok (.ifnonnull 7, 3) := by decide +kernel
theorem dX11_slotByStates_26 : decode cX11_slotByStates 26 = .ok (.iconst 0, 1) := by decide +kernel
theorem dX11_slotByStates_27 : decode cX11_slotByStates 27 = .ok (.goto 8, 3) := by decide +kernel
theorem dX11_slotByStates_30 : decode cX11_slotByStates 30 = .ok (.aload_n 0, 1) := by decide +kernel
theorem dX11_slotByStates_31 : decode cX11_slotByStates 31 = .ok (.aload_n 3, 1) := by decide +kernel
theorem dX11_slotByStates_32 : decode cX11_slotByStates 32 = .ok (.invokevirtual 251, 3) := by decide +kernel
theorem dX11_slotByStates_35 : decode cX11_slotByStates 35 = .ok (.iastore, 1) := by decide +kernel
theorem dX11_slotByStates_36 : decode cX11_slotByStates 36 = .ok (.iinc 2 1, 3) := by decide +kernel
theorem dX11_slotByStates_39 : decode cX11_slotByStates 39 = .ok (.goto (-37), 3) := by decide +kernel
theorem dX11_slotByStates_42 : decode cX11_slotByStates 42 = .ok (.iconst 0, 1) := by decide +kernel
theorem dX11_slotByStates_43 : decode cX11_slotByStates 43 = .ok (.istore_n 2, 1) := by decide +kernel
theorem dX11_slotByStates_44 : decode cX11_slotByStates 44 = .ok (.iload_n 2, 1) := by decide +kernel
theorem dX11_slotByStates_45 : decode cX11_slotByStates 45 = .ok (.bipush 6, 2) := by decide +kernel
theorem dX11_slotByStates_47 : decode cX11_slotByStates 47 = .ok (.if_icmp .ge 31, 3) := by decide +kernel
theorem dX11_slotByStates_50 : decode cX11_slotByStates 50 = .ok (.aload_n 0, 1) := by decide +kernel
theorem dX11_slotByStates_51 : decode cX11_slotByStates 51 = .ok (.getfield 10, 3) := by decide +kernel
theorem dX11_slotByStates_54 : decode cX11_slotByStates 54 = .ok (.iload_n 2, 1) := by decide +kernel
theorem dX11_slotByStates_55 : decode cX11_slotByStates 55 = .ok (.invokevirtual 174, 3) := by decide +kernel
theorem dX11_slotByStates_58 : decode cX11_slotByStates 58 = .ok (.ifnull 14, 3) := by decide +kernel
theorem dX11_slotByStates_61 : decode cX11_slotByStates 61 = .ok (.aload_n 0, 1) := by decide +kernel
theorem dX11_slotByStates_62 : decode cX11_slotByStates 62 = .ok (.iload_n 2, 1) := by decide +kernel
theorem dX11_slotByStates_63 : decode cX11_slotByStates 63 = .ok (.invokevirtual 283, 3) := by decide +kernel
theorem dX11_slotByStates_66 : decode cX11_slotByStates 66 = .ok (.iload_n 1, 1) := by decide +kernel
theorem dX11_slotByStates_67 : decode cX11_slotByStates 67 = .ok (.if_icmp .ne 5, 3) := by decide +kernel
theorem dX11_slotByStates_70 : decode cX11_slotByStates 70 = .ok (.iload_n 2, 1) := by decide +kernel
theorem dX11_slotByStates_71 : decode cX11_slotByStates 71 = .ok (.ireturn, 1) := by decide +kernel
theorem dX11_slotByStates_72 : decode cX11_slotByStates 72 = .ok (.iinc 2 1, 3) := by decide +kernel
theorem dX11_slotByStates_75 : decode cX11_slotByStates 75 = .ok (.goto (-31), 3) := by decide +kernel
theorem dX11_slotByStates_78 : decode cX11_slotByStates 78 = .ok (.new 286, 3) := by decide +kernel
theorem dX11_slotByStates_81 : decode cX11_slotByStates 81 = .ok (.dup, 1) := by decide +kernel
theorem dX11_slotByStates_82 : decode cX11_slotByStates 82 = .ok (.ldc_w 288, 3) := by decide +kernel
theorem dX11_slotByStates_85 : decode cX11_slotByStates 85 = .ok (.invokespecial 290, 3) := by decide +kernel
theorem dX11_slotByStates_88 : decode cX11_slotByStates 88 = .ok (.athrow, 1) := by decide +kernel
theorem dX11_wordCount_0 : decode cX11_wordCount 0 = .ok (.aload_n 0, 1) := by decide +kernel
theorem dX11_wordCount_1 : decode cX11_wordCount 1 = .ok (.getfield 10, 3) := by decide +kernel
theorem dX11_wordCount_4 : decode cX11_wordCount 4 = .ok (.invokevirtual 291, 3) := by decide +kernel
theorem dX11_wordCount_7 : decode cX11_wordCount 7 = .ok (.ireturn, 1) := by decide +kernel
theorem dX11_wordLength_0 : decode cX11_wordLength 0 = .ok (.aload_n 0, 1) := by decide +kernel
theorem dX11_wordLength_1 : decode cX11_wordLength 1 = .ok (.iload_n 1, 1) := by decide +kernel
theorem dX11_wordLength_2 : decode cX11_wordLength 2 = .ok (.invokevirtual 227, 3) := by decide +kernel
theorem dX11_wordLength_5 : decode cX11_wordLength 5 = .ok (.invokevirtual 294, 3) := by decide +kernel
theorem dX11_wordLength_8 : decode cX11_wordLength 8 = .ok (.ireturn, 1) := by decide +kernel
theorem dX11_wordLetter_0 : decode cX11_wordLetter 0 = .ok (.aload_n 0, 1) := by decide +kernel
theorem dX11_wordLetter_1 : decode cX11_wordLetter 1 = .ok (.iload_n 1, 1) := by decide +kernel
theorem dX11_wordLetter_2 : decode cX11_wordLetter 2 = .ok (.invokevirtual 227, 3) := by decide +kernel
theorem dX11_wordLetter_5 : decode cX11_wordLetter 5 = .ok (.astore_n 3, 1) := by decide +kernel
theorem dX11_wordLetter_6 : decode cX11_wordLetter 6 = .ok (.iload_n 2, 1) := by decide +kernel
theorem dX11_wordLetter_7 : decode cX11_wordLetter 7 = .ok (.ifCond .lt 11, 3) := by decide +kernel
theorem dX11_wordLetter_10 : decode cX11_wordLetter 10 = .ok (.iload_n 2, 1) := by decide +kernel
theorem dX11_wordLetter_11 : decode cX11_wordLetter 11 = .ok (.aload_n 3, 1) := by decide +kernel
theorem dX11_wordLetter_12 : decode cX11_wordLetter 12 = .ok (.invokevirtual 294, 3) := by decide +kernel
theorem dX11_wordLetter_15 : decode cX11_wordLetter 15 = .ok (.if_icmp .lt 14, 3) := by decide +kernel
theorem dX11_wordLetter_18 : decode cX11_wordLetter 18 = .ok (.new 107, 3) := by decide +kernel
theorem dX11_wordLetter_21 : decode cX11_wordLetter 21 = .ok (.dup, 1) := by decide +kernel
theorem dX11_wordLetter_22 : decode cX11_wordLetter 22 = .ok (.ldc_w 297, 3) := by decide +kernel
theorem dX11_wordLetter_25 : decode cX11_wordLetter 25 = .ok (.invokespecial 111, 3) := by decide +kernel
theorem dX11_wordLetter_28 : decode cX11_wordLetter 28 = .ok (.athrow, 1) := by decide +kernel
theorem dX11_wordLetter_29 : decode cX11_wordLetter 29 = .ok (.bipush 97, 2) := by decide +kernel
theorem dX11_wordLetter_31 : decode cX11_wordLetter 31 = .ok (.aload_n 3, 1) := by decide +kernel
theorem dX11_wordLetter_32 : decode cX11_wordLetter 32 = .ok (.iload_n 2, 1) := by decide +kernel
theorem dX11_wordLetter_33 : decode cX11_wordLetter 33 = .ok (.invokevirtual 299, 3) := by decide +kernel
theorem dX11_wordLetter_36 : decode cX11_wordLetter 36 = .ok (.iadd, 1) := by decide +kernel
theorem dX11_wordLetter_37 : decode cX11_wordLetter 37 = .ok (.i2c, 1) := by decide +kernel
theorem dX11_wordLetter_38 : decode cX11_wordLetter 38 = .ok (.ireturn, 1) := by decide +kernel
theorem dX11_definedTotal_0 : decode cX11_definedTotal 0 = .ok (.aload_n 0, 1) := by decide +kernel
theorem dX11_definedTotal_1 : decode cX11_definedTotal 1 = .ok (.getfield 10, 3) := by decide +kernel
theorem dX11_definedTotal_4 : decode cX11_definedTotal 4 = .ok (.invokevirtual 302, 3) := by decide +kernel
theorem dX11_definedTotal_7 : decode cX11_definedTotal 7 = .ok (.ireturn, 1) := by decide +kernel
theorem dX11_meanLetters_0 : decode cX11_meanLetters 0 = .ok (.aload_n 0, 1) := by decide +kernel
theorem dX11_meanLetters_1 : decode cX11_meanLetters 1 = .ok (.getfield 10, 3) := by decide +kernel
theorem dX11_meanLetters_4 : decode cX11_meanLetters 4 = .ok (.invokevirtual 171, 3) := by decide +kernel
theorem dX11_meanLetters_7 : decode cX11_meanLetters 7 = .ok (.istore_n 1, 1) := by decide +kernel
theorem dX11_meanLetters_8 : decode cX11_meanLetters 8 = .ok (.iload_n 1, 1) := by decide +kernel
theorem dX11_meanLetters_9 : decode cX11_meanLetters 9 = .ok (.ifCond .ne 14, 3) := by decide +kernel
theorem dX11_meanLetters_12 : decode cX11_meanLetters 12 = .ok (.new 305, 3) := by decide +kernel
theorem dX11_meanLetters_15 : decode cX11_meanLetters 15 = .ok (.dup, 1) := by decide +kernel
theorem dX11_meanLetters_16 : decode cX11_meanLetters 16 = .ok (.ldc_w 307, 3) := by decide +kernel
theorem dX11_meanLetters_19 : decode cX11_meanLetters 19 = .ok (.invokespecial 309, 3) := by decide +kernel
theorem dX11_meanLetters_22 : decode cX11_meanLetters 22 = .ok (.athrow, 1) := by decide +kernel
theorem dX11_meanLetters_23 : decode cX11_meanLetters 23 = .ok (.aload_n 0, 1) := by decide +kernel
theorem dX11_meanLetters_24 : decode cX11_meanLetters 24 = .ok (.getfield 10, 3) := by decide +kernel
theorem dX11_meanLetters_27 : decode cX11_meanLetters 27 = .ok (.invokevirtual 310, 3) := by decide +kernel
theorem dX11_meanLetters_30 : decode cX11_meanLetters 30 = .ok (.i2d, 1) := by decide +kernel
theorem dX11_meanLetters_31 : decode cX11_meanLetters 31 = .ok (.iload_n 1, 1) := by decide +kernel
theorem dX11_meanLetters_32 : decode cX11_meanLetters 32 = .ok (.i2d, 1) := by decide +kernel
theorem dX11_meanLetters_33 : decode cX11_meanLetters 33 = .ok (.ddiv, 1) := by decide +kernel
theorem dX11_meanLetters_34 : decode cX11_meanLetters 34 = .ok (.dreturn, 1) := by decide +kernel
theorem dX11_acceptedShare_0 : decode cX11_acceptedShare 0 = .ok (.aload_n 0, 1) := by decide +kernel
theorem dX11_acceptedShare_1 : decode cX11_acceptedShare 1 = .ok (.iload_n 1, 1) := by decide +kernel
theorem dX11_acceptedShare_2 : decode cX11_acceptedShare 2 = .ok (.invokevirtual 178, 3) := by decide +kernel
theorem dX11_acceptedShare_5 : decode cX11_acceptedShare 5 = .ok (.astore_n 2, 1) := by decide +kernel
theorem dX11_acceptedShare_6 : decode cX11_acceptedShare 6 = .ok (.aload_n 0, 1) := by decide +kernel
theorem dX11_acceptedShare_7 : decode cX11_acceptedShare 7 = .ok (.getfield 10, 3) := by decide +kernel
theorem dX11_acceptedShare_10 : decode cX11_acceptedShare 10 = .ok (.invokevirtual 291, 3) := by decide +kernel
theorem dX11_acceptedShare_13 : decode cX11_acceptedShare 13 = .ok (.istore_n 3, 1) := by decide +kernel
theorem dX11_acceptedShare_14 : decode cX11_acceptedShare 14 = .ok (.iload_n 3, 1) := by decide +kernel
theorem dX11_acceptedShare_15 : decode cX11_acceptedShare 15 = .ok (.ifCond .ne 14, 3) := by decide +kernel
theorem dX11_acceptedShare_18 : decode cX11_acceptedShare 18 = .ok (.new 305, 3) := by decide +kernel
theorem dX11_acceptedShare_21 : decode cX11_acceptedShare 21 = .ok (.dup, 1) := by decide +kernel
theorem dX11_acceptedShare_22 : decode cX11_acceptedShare 22 = .ok (.ldc_w 313, 3) := by decide +kernel
theorem dX11_acceptedShare_25 : decode cX11_acceptedShare 25 = .ok (.invokespecial 309, 3) := by decide +kernel
theorem dX11_acceptedShare_28 : decode cX11_acceptedShare 28 = .ok (.athrow, 1) := by decide +kernel
theorem dX11_acceptedShare_29 : decode cX11_acceptedShare 29 = .ok (.aload_n 0, 1) := by decide +kernel
theorem dX11_acceptedShare_30 : decode cX11_acceptedShare 30 = .ok (.getfield 57, 3) := by decide +kernel
theorem dX11_acceptedShare_33 : decode cX11_acceptedShare 33 = .ok (.aload_n 2, 1) := by decide +kernel
theorem dX11_acceptedShare_34 : decode cX11_acceptedShare 34 = .ok (.invokevirtual 213, 3) := by decide +kernel
theorem dX11_acceptedShare_37 : decode cX11_acceptedShare 37 = .ok (.aload_n 0, 1) := by decide +kernel
theorem dX11_acceptedShare_38 : decode cX11_acceptedShare 38 = .ok (.invokevirtual 231, 3) := by decide +kernel
theorem dX11_acceptedShare_41 : decode cX11_acceptedShare 41 = .ok (.i2f, 1) := by decide +kernel
theorem dX11_acceptedShare_42 : decode cX11_acceptedShare 42 = .ok (.iload_n 3, 1) := by decide +kernel
theorem dX11_acceptedShare_43 : decode cX11_acceptedShare 43 = .ok (.i2f, 1) := by decide +kernel
theorem dX11_acceptedShare_44 : decode cX11_acceptedShare 44 = .ok (.fdiv, 1) := by decide +kernel
theorem dX11_acceptedShare_45 : decode cX11_acceptedShare 45 = .ok (.freturn, 1) := by decide +kernel
theorem dX11_isConsistent_0 : decode cX11_isConsistent 0 = .ok (.aconst_null, 1) := by decide +kernel
theorem dX11_isConsistent_1 : decode cX11_isConsistent 1 = .ok (.astore_n 1, 1) := by decide +kernel
theorem dX11_isConsistent_2 : decode cX11_isConsistent 2 = .ok (.iconst 0, 1) := by decide +kernel
theorem dX11_isConsistent_3 : decode cX11_isConsistent 3 = .ok (.istore_n 2, 1) := by decide +kernel
theorem dX11_isConsistent_4 : decode cX11_isConsistent 4 = .ok (.iload_n 2, 1) := by decide +kernel
theorem dX11_isConsistent_5 : decode cX11_isConsistent 5 = .ok (.bipush 6, 2) := by decide +kernel
theorem dX11_isConsistent_7 : decode cX11_isConsistent 7 = .ok (.if_icmp .ge 46, 3) := by decide +kernel
theorem dX11_isConsistent_10 : decode cX11_isConsistent 10 = .ok (.aload_n 0, 1) := by decide +kernel
theorem dX11_isConsistent_11 : decode cX11_isConsistent 11 = .ok (.getfield 10, 3) := by decide +kernel
theorem dX11_isConsistent_14 : decode cX11_isConsistent 14 = .ok (.iload_n 2, 1) := by decide +kernel
theorem dX11_isConsistent_15 : decode cX11_isConsistent 15 = .ok (.invokevirtual 174, 3) := by decide +kernel
theorem dX11_isConsistent_18 : decode cX11_isConsistent 18 = .ok (.astore_n 3, 1) := by decide +kernel
theorem dX11_isConsistent_19 : decode cX11_isConsistent 19 = .ok (.aload_n 3, 1) := by decide +kernel
theorem dX11_isConsistent_20 : decode cX11_isConsistent 20 = .ok (.ifnonnull 6, 3) := by decide +kernel
theorem dX11_isConsistent_23 : decode cX11_isConsistent 23 = .ok (.goto 24, 3) := by decide +kernel
theorem dX11_isConsistent_26 : decode cX11_isConsistent 26 = .ok (.aload_n 0, 1) := by decide +kernel
theorem dX11_isConsistent_27 : decode cX11_isConsistent 27 = .ok (.aload_n 3, 1) := by decide +kernel
theorem dX11_isConsistent_28 : decode cX11_isConsistent 28 = .ok (.invokevirtual 315, 3) := by decide +kernel
theorem dX11_isConsistent_31 : decode cX11_isConsistent 31 = .ok (.ifCond .eq 12, 3) := by decide +kernel
theorem dX11_isConsistent_34 : decode cX11_isConsistent 34 = .ok (.aload_n 0, 1) := by decide +kernel
theorem dX11_isConsistent_35 : decode cX11_isConsistent 35 = .ok (.aload_n 1, 1) := by decide +kernel
theorem dX11_isConsistent_36 : decode cX11_isConsistent 36 = .ok (.aload_n 3, 1) := by decide +kernel
theorem dX11_isConsistent_37 : decode cX11_isConsistent 37 = .ok (.invokevirtual 319, 3) := by decide +kernel
theorem dX11_isConsistent_40 : decode cX11_isConsistent 40 = .ok (.ifCond .ne 5, 3) := by decide +kernel
theorem dX11_isConsistent_43 : decode cX11_isConsistent 43 = .ok (.iconst 0, 1) := by decide +kernel
theorem dX11_isConsistent_44 : decode cX11_isConsistent 44 = .ok (.ireturn, 1) := by decide +kernel
theorem dX11_isConsistent_45 : decode cX11_isConsistent 45 = .ok (.aload_n 3, 1) := by decide +kernel
theorem dX11_isConsistent_46 : decode cX11_isConsistent 46 = .ok (.astore_n 1, 1) := by decide +kernel
theorem dX11_isConsistent_47 : decode cX11_isConsistent 47 = .ok (.iinc 2 1, 3) := by decide +kernel
theorem dX11_isConsistent_50 : decode cX11_isConsistent 50 = .ok (.goto (-46), 3) := by decide +kernel
theorem dX11_isConsistent_53 : decode cX11_isConsistent 53 = .ok (.iconst 1, 1) := by decide +kernel
theorem dX11_isConsistent_54 : decode cX11_isConsistent 54 = .ok (.ireturn, 1) := by decide +kernel
theorem dX11_formatPattern_0 : decode cX11_formatPattern 0 = .ok (.aload_n 0, 1) := by decide +kernel
theorem dX11_formatPattern_1 : decode cX11_formatPattern 1 = .ok (.getfield 36, 3) := by decide +kernel
theorem dX11_formatPattern_4 : decode cX11_formatPattern 4 = .ok (.aload_n 0, 1) := by decide +kernel
theorem dX11_formatPattern_5 : decode cX11_formatPattern 5 = .ok (.iload_n 1, 1) := by decide +kernel
theorem dX11_formatPattern_6 : decode cX11_formatPattern 6 = .ok (.invokevirtual 178, 3) := by decide +kernel
theorem dX11_formatPattern_9 : decode cX11_formatPattern 9 = .ok (.aload_n 0, 1) := by decide +kernel
theorem dX11_formatPattern_10 : decode cX11_formatPattern 10 = .ok (.getfield 43, 3) := by decide +kernel
theorem dX11_formatPattern_13 : decode cX11_formatPattern 13 = .ok (.invokevirtual 322, 3) := by decide +kernel
theorem dX11_formatPattern_16 : decode cX11_formatPattern 16 = .ok (.aload_n 0, 1) := by decide +kernel
theorem dX11_formatPattern_17 : decode cX11_formatPattern 17 = .ok (.getfield 43, 3) := by decide +kernel
theorem dX11_formatPattern_20 : decode cX11_formatPattern 20 = .ok (.invokevirtual 326, 3) := by decide +kernel
theorem dX11_formatPattern_23 : decode cX11_formatPattern 23 = .ok (.ireturn, 1) := by decide +kernel
theorem dX11_formatShortest_0 : decode cX11_formatShortest 0 = .ok (.aload_n 0, 1) := by decide +kernel
theorem dX11_formatShortest_1 : decode cX11_formatShortest 1 = .ok (.getfield 57, 3) := by decide +kernel
theorem dX11_formatShortest_4 : decode cX11_formatShortest 4 = .ok (.aload_n 0, 1) := by decide +kernel
theorem dX11_formatShortest_5 : decode cX11_formatShortest 5 = .ok (.iload_n 1, 1) := by decide +kernel
theorem dX11_formatShortest_6 : decode cX11_formatShortest 6 = .ok (.invokevirtual 178, 3) := by decide +kernel
theorem dX11_formatShortest_9 : decode cX11_formatShortest 9 = .ok (.invokevirtual 213, 3) := by decide +kernel
theorem dX11_formatShortest_12 : decode cX11_formatShortest 12 = .ok (.aload_n 0, 1) := by decide +kernel
theorem dX11_formatShortest_13 : decode cX11_formatShortest 13 = .ok (.getfield 57, 3) := by decide +kernel
theorem dX11_formatShortest_16 : decode cX11_formatShortest 16 = .ok (.aload_n 0, 1) := by decide +kernel
theorem dX11_formatShortest_17 : decode cX11_formatShortest 17 = .ok (.getfield 43, 3) := by decide +kernel
theorem dX11_formatShortest_20 : decode cX11_formatShortest 20 = .ok (.invokevirtual 329, 3) := by decide +kernel
theorem dX11_formatShortest_23 : decode cX11_formatShortest 23 = .ok (.aload_n 0, 1) := by decide +kernel
theorem dX11_formatShortest_24 : decode cX11_formatShortest 24 = .ok (.getfield 43, 3) := by decide +kernel
theorem dX11_formatShortest_27 : decode cX11_formatShortest 27 = .ok (.invokevirtual 326, 3) := by decide +kernel
theorem dX11_formatShortest_30 : decode cX11_formatShortest 30 = .ok (.ireturn, 1) := by decide +kernel
theorem dX11_formatDifference_0 : decode cX11_formatDifference 0 = .ok (.aload_n 0, 1) := by decide +kernel
theorem dX11_formatDifference_1 : decode cX11_formatDifference 1 = .ok (.aload_n 0, 1) := by decide +kernel
theorem dX11_formatDifference_2 : decode cX11_formatDifference 2 = .ok (.iload_n 1, 1) := by decide +kernel
theorem dX11_formatDifference_3 : decode cX11_formatDifference 3 = .ok (.invokevirtual 178, 3) := by decide +kernel
theorem dX11_formatDifference_6 : decode cX11_formatDifference 6 = .ok (.aload_n 0, 1) := by decide +kernel
theorem dX11_formatDifference_7 : decode cX11_formatDifference 7 = .ok (.iload_n 2, 1) := by decide +kernel
theorem dX11_formatDifference_8 : decode cX11_formatDifference 8 = .ok (.invokevirtual 178, 3) := by decide +kernel
theorem dX11_formatDifference_11 : decode cX11_formatDifference 11 = .ok (.invokevirtual 269, 3) := by decide +kernel
theorem dX11_formatDifference_14 : decode cX11_formatDifference 14 = .ok (.aload_n 0, 1) := by decide +kernel
theorem dX11_formatDifference_15 : decode cX11_formatDifference 15 = .ok (.getfield 77, 3) := by decide +kernel
theorem dX11_formatDifference_18 : decode cX11_formatDifference 18 = .ok (.aload_n 0, 1) := by decide +kernel
theorem dX11_formatDifference_19 : decode cX11_formatDifference 19 = .ok (.getfield 57, 3) := by decide +kernel
theorem dX11_formatDifference_22 : decode cX11_formatDifference 22 = .ok (.aload_n 0, 1) := by decide +kernel
theorem dX11_formatDifference_23 : decode cX11_formatDifference 23 = .ok (.getfield 61, 3) := by decide +kernel
theorem dX11_formatDifference_26 : decode cX11_formatDifference 26 = .ok (.invokevirtual 277, 3) := by decide +kernel
theorem dX11_formatDifference_29 : decode cX11_formatDifference 29 = .ok (.pop, 1) := by decide +kernel
theorem dX11_formatDifference_30 : decode cX11_formatDifference 30 = .ok (.aload_n 0, 1) := by decide +kernel
theorem dX11_formatDifference_31 : decode cX11_formatDifference 31 = .ok (.getfield 77, 3) := by decide +kernel
theorem dX11_formatDifference_34 : decode cX11_formatDifference 34 = .ok (.aload_n 0, 1) := by decide +kernel
theorem dX11_formatDifference_35 : decode cX11_formatDifference 35 = .ok (.getfield 43, 3) := by decide +kernel
theorem dX11_formatDifference_38 : decode cX11_formatDifference 38 = .ok (.invokevirtual 333, 3) := by decide +kernel
theorem dX11_formatDifference_41 : decode cX11_formatDifference 41 = .ok (.aload_n 0, 1) := by decide +kernel
theorem dX11_formatDifference_42 : decode cX11_formatDifference 42 = .ok (.getfield 43, 3) := by decide +kernel
theorem dX11_formatDifference_45 : decode cX11_formatDifference 45 = .ok (.invokevirtual 326, 3) := by decide +kernel
theorem dX11_formatDifference_48 : decode cX11_formatDifference 48 = .ok (.ireturn, 1) := by decide +kernel
theorem dX11_lineChar_0 : decode cX11_lineChar 0 = .ok (.iload_n 1, 1) := by decide +kernel
theorem dX11_lineChar_1 : decode cX11_lineChar 1 = .ok (.ifCond .lt 14, 3) := by decide +kernel
theorem dX11_lineChar_4 : decode cX11_lineChar 4 = .ok (.iload_n 1, 1) := by decide +kernel
theorem dX11_lineChar_5 : decode cX11_lineChar 5 = .ok (.aload_n 0, 1) := by decide +kernel
theorem dX11_lineChar_6 : decode cX11_lineChar 6 = .ok (.getfield 43, 3) := by decide +kernel
theorem dX11_lineChar_9 : decode cX11_lineChar 9 = .ok (.invokevirtual 326, 3) := by decide +kernel
theorem dX11_lineChar_12 : decode cX11_lineChar 12 = .ok (.if_icmp .lt 14, 3) := by decide +kernel
theorem dX11_lineChar_15 : decode cX11_lineChar 15 = .ok (.new 107, 3) := by decide +kernel
theorem dX11_lineChar_18 : decode cX11_lineChar 18 = .ok (.dup, 1) := by decide +kernel
theorem dX11_lineChar_19 : decode cX11_lineChar 19 = .ok (.ldc_w 336, 3) := by decide +kernel
theorem dX11_lineChar_22 : decode cX11_lineChar 22 = .ok (.invokespecial 111, 3) := by decide +kernel
theorem dX11_lineChar_25 : decode cX11_lineChar 25 = .ok (.athrow, 1) := by decide +kernel
theorem dX11_lineChar_26 : decode cX11_lineChar 26 = .ok (.aload_n 0, 1) := by decide +kernel
theorem dX11_lineChar_27 : decode cX11_lineChar 27 = .ok (.getfield 43, 3) := by decide +kernel
theorem dX11_lineChar_30 : decode cX11_lineChar 30 = .ok (.iload_n 1, 1) := by decide +kernel
theorem dX11_lineChar_31 : decode cX11_lineChar 31 = .ok (.invokevirtual 338, 3) := by decide +kernel
theorem dX11_lineChar_34 : decode cX11_lineChar 34 = .ok (.ireturn, 1) := by decide +kernel
theorem dX11_append_0 : decode cX11_append 0 = .ok (.iload_n 1, 1) := by decide +kernel
theorem dX11_append_1 : decode cX11_append 1 = .ok (.bipush 32, 2) := by decide +kernel
theorem dX11_append_3 : decode cX11_append 3 = .ok (.if_icmp .lt 9, 3) := by decide +kernel
theorem dX11_append_6 : decode cX11_append 6 = .ok (.iload_n 1, 1) := by decide +kernel
theorem dX11_append_7 : decode cX11_append 7 = .ok (.bipush 126, 2) := by decide +kernel
theorem dX11_append_9 : decode cX11_append 9 = .ok (.if_icmp .le 14, 3) := by decide +kernel
theorem dX11_append_12 : decode cX11_append 12 = .ok (.new 125, 3) := by decide +kernel
theorem dX11_append_15 : decode cX11_append 15 = .ok (.dup, 1) := by decide +kernel
theorem dX11_append_16 : decode cX11_append 16 = .ok (.ldc_w 342, 3) := by decide +kernel
theorem dX11_append_19 : decode cX11_append 19 = .ok (.invokespecial 129, 3) := by decide +kernel
theorem dX11_append_22 : decode cX11_append 22 = .ok (.athrow, 1) := by decide +kernel
theorem dX11_append_23 : decode cX11_append 23 = .ok (.aload_n 0, 1) := by decide +kernel
theorem dX11_append_24 : decode cX11_append 24 = .ok (.getfield 29, 3) := by decide +kernel
theorem dX11_append_27 : decode cX11_append 27 = .ok (.invokevirtual 344, 3) := by decide +kernel
theorem dX11_append_30 : decode cX11_append 30 = .ok (.ifCond .eq 14, 3) := by decide +kernel
theorem dX11_append_33 : decode cX11_append 33 = .ok (.new 347, 3) := by decide +kernel
theorem dX11_append_36 : decode cX11_append 36 = .ok (.dup, 1) := by decide +kernel
theorem dX11_append_37 : decode cX11_append 37 = .ok (.ldc_w 349, 3) := by decide +kernel
theorem dX11_append_40 : decode cX11_append 40 = .ok (.invokespecial 351, 3) := by decide +kernel
theorem dX11_append_43 : decode cX11_append 43 = .ok (.athrow, 1) := by decide +kernel
theorem dX11_append_44 : decode cX11_append 44 = .ok (.aload_n 0, 1) := by decide +kernel
theorem dX11_append_45 : decode cX11_append 45 = .ok (.getfield 29, 3) := by decide +kernel
theorem dX11_append_48 : decode cX11_append 48 = .ok (.iload_n 1, 1) := by decide +kernel
theorem dX11_append_49 : decode cX11_append 49 = .ok (.invokevirtual 352, 3) := by decide +kernel
theorem dX11_append_52 : decode cX11_append 52 = .ok (.aload_n 0, 1) := by decide +kernel
theorem dX11_append_53 : decode cX11_append 53 = .ok (.getfield 29, 3) := by decide +kernel
theorem dX11_append_56 : decode cX11_append 56 = .ok (.invokevirtual 157, 3) := by decide +kernel
theorem dX11_append_59 : decode cX11_append 59 = .ok (.ireturn, 1) := by decide +kernel
theorem dX11_clearBuffer_0 : decode cX11_clearBuffer 0 = .ok (.aload_n 0, 1) := by decide +kernel
theorem dX11_clearBuffer_1 : decode cX11_clearBuffer 1 = .ok (.getfield 29, 3) := by decide +kernel
theorem dX11_clearBuffer_4 : decode cX11_clearBuffer 4 = .ok (.invokevirtual 157, 3) := by decide +kernel
theorem dX11_clearBuffer_7 : decode cX11_clearBuffer 7 = .ok (.istore_n 1, 1) := by decide +kernel
theorem dX11_clearBuffer_8 : decode cX11_clearBuffer 8 = .ok (.aload_n 0, 1) := by decide +kernel
theorem dX11_clearBuffer_9 : decode cX11_clearBuffer 9 = .ok (.getfield 29, 3) := by decide +kernel
theorem dX11_clearBuffer_12 : decode cX11_clearBuffer 12 = .ok (.invokevirtual 122, 3) := by decide +kernel
theorem dX11_clearBuffer_15 : decode cX11_clearBuffer 15 = .ok (.iload_n 1, 1) := by decide +kernel
theorem dX11_clearBuffer_16 : decode cX11_clearBuffer 16 = .ok (.ireturn, 1) := by decide +kernel
theorem dX11_run_0 : decode cX11_run 0 = .ok (.aload_n 0, 1) := by decide +kernel
theorem dX11_run_1 : decode cX11_run 1 = .ok (.getfield 29, 3) := by decide +kernel
theorem dX11_run_4 : decode cX11_run 4 = .ok (.invokevirtual 356, 3) := by decide +kernel
theorem dX11_run_7 : decode cX11_run 7 = .ok (.istore_n 1, 1) := by decide +kernel
theorem dX11_run_8 : decode cX11_run 8 = .ok (.iload_n 1, 1) := by decide +kernel
theorem dX11_run_9 : decode cX11_run 9 = .ok (.bipush (-4), 2) := by decide +kernel
theorem dX11_run_11 : decode cX11_run 11 = .ok (.if_icmp .ne 32, 3) := by decide +kernel
theorem dX11_run_14 : decode cX11_run 14 = .ok (.aload_n 0, 1) := by decide +kernel
theorem dX11_run_15 : decode cX11_run 15 = .ok (.aload_n 0, 1) := by decide +kernel
theorem dX11_run_16 : decode cX11_run 16 = .ok (.getfield 29, 3) := by decide +kernel
theorem dX11_run_19 : decode cX11_run 19 = .ok (.invokevirtual 118, 3) := by decide +kernel
theorem dX11_run_22 : decode cX11_run 22 = .ok (.putfield 96, 3) := by decide +kernel
theorem dX11_run_25 : decode cX11_run 25 = .ok (.aload_n 0, 1) := by decide +kernel
theorem dX11_run_26 : decode cX11_run 26 = .ok (.getfield 29, 3) := by decide +kernel
theorem dX11_run_29 : decode cX11_run 29 = .ok (.invokevirtual 122, 3) := by decide +kernel
theorem dX11_run_32 : decode cX11_run 32 = .ok (.new 125, 3) := by decide +kernel
theorem dX11_run_35 : decode cX11_run 35 = .ok (.dup, 1) := by decide +kernel
theorem dX11_run_36 : decode cX11_run 36 = .ok (.ldc_w 359, 3) := by decide +kernel
theorem dX11_run_39 : decode cX11_run 39 = .ok (.invokespecial 129, 3) := by decide +kernel
theorem dX11_run_42 : decode cX11_run 42 = .ok (.athrow, 1) := by decide +kernel
theorem dX11_run_43 : decode cX11_run 43 = .ok (.aload_n 0, 1) := by decide +kernel
theorem dX11_run_44 : decode cX11_run 44 = .ok (.getfield 22, 3) := by decide +kernel
theorem dX11_run_47 : decode cX11_run 47 = .ok (.aload_n 0, 1) := by decide +kernel
theorem dX11_run_48 : decode cX11_run 48 = .ok (.getfield 10, 3) := by decide +kernel
theorem dX11_run_51 : decode cX11_run 51 = .ok (.invokevirtual 130, 3) := by decide +kernel
theorem dX11_run_54 : decode cX11_run 54 = .ok (.aload_n 0, 1) := by decide +kernel
theorem dX11_run_55 : decode cX11_run 55 = .ok (.iload_n 1, 1) := by decide +kernel
theorem dX11_run_56 : decode cX11_run 56 = .ok (.invokevirtual 361, 3) := by decide +kernel
theorem dX11_run_59 : decode cX11_run 59 = .ok (.istore_n 2, 1) := by decide +kernel
theorem dX11_run_60 : decode cX11_run 60 = .ok (.aload_n 0, 1) := by decide +kernel
theorem dX11_run_61 : decode cX11_run 61 = .ok (.getfield 29, 3) := by decide +kernel
theorem dX11_run_64 : decode cX11_run 64 = .ok (.invokevirtual 122, 3) := by decide +kernel
theorem dX11_run_67 : decode cX11_run 67 = .ok (.iload_n 2, 1) := by decide +kernel
theorem dX11_run_68 : decode cX11_run 68 = .ok (.iload_n 1, 1) := by decide +kernel
theorem dX11_run_69 : decode cX11_run 69 = .ok (.if_icmp .ge 30, 3) := by decide +kernel
theorem dX11_run_72 : decode cX11_run 72 = .ok (.aload_n 0, 1) := by decide +kernel
theorem dX11_run_73 : decode cX11_run 73 = .ok (.iload_n 2, 1) := by decide +kernel
theorem dX11_run_74 : decode cX11_run 74 = .ok (.putfield 100, 3) := by decide +kernel
theorem dX11_run_77 : decode cX11_run 77 = .ok (.aload_n 0, 1) := by decide +kernel
theorem dX11_run_78 : decode cX11_run 78 = .ok (.getfield 22, 3) := by decide +kernel
theorem dX11_run_81 : decode cX11_run 81 = .ok (.aload_n 0, 1) := by decide +kernel
theorem dX11_run_82 : decode cX11_run 82 = .ok (.getfield 10, 3) := by decide +kernel
theorem dX11_run_85 : decode cX11_run 85 = .ok (.invokevirtual 364, 3) := by decide +kernel
theorem dX11_run_88 : decode cX11_run 88 = .ok (.new 347, 3) := by decide +kernel
theorem dX11_run_91 : decode cX11_run 91 = .ok (.dup, 1) := by decide +kernel
theorem dX11_run_92 : decode cX11_run 92 = .ok (.ldc_w 367, 3) := by decide +kernel
theorem dX11_run_95 : decode cX11_run 95 = .ok (.invokespecial 351, 3) := by decide +kernel
theorem dX11_run_98 : decode cX11_run 98 = .ok (.athrow, 1) := by decide +kernel
theorem dX11_run_99 : decode cX11_run 99 = .ok (.aload_n 0, 1) := by decide +kernel
theorem dX11_run_100 : decode cX11_run 100 = .ok (.getfield 22, 3) := by decide +kernel
theorem dX11_run_103 : decode cX11_run 103 = .ok (.invokevirtual 369, 3) := by decide +kernel
theorem dX11_run_106 : decode cX11_run 106 = .ok (.iload_n 1, 1) := by decide +kernel
theorem dX11_run_107 : decode cX11_run 107 = .ok (.ireturn, 1) := by decide +kernel
theorem dX11_errorPosition_0 : decode cX11_errorPosition 0 = .ok (.aload_n 0, 1) := by decide +kernel
theorem dX11_errorPosition_1 : decode cX11_errorPosition 1 = .ok (.getfield 96, 3) := by decide +kernel
theorem dX11_errorPosition_4 : decode cX11_errorPosition 4 = .ok (.ifCond .ge 14, 3) := by decide +kernel
theorem dX11_errorPosition_7 : decode cX11_errorPosition 7 = .ok (.new 286, 3) := by decide +kernel
theorem dX11_errorPosition_10 : decode cX11_errorPosition 10 = .ok (.dup, 1) := by decide +kernel
theorem dX11_errorPosition_11 : decode cX11_errorPosition 11 = .ok (.ldc_w 372, 3) := by decide +kernel
theorem dX11_errorPosition_14 : decode cX11_errorPosition 14 = .ok (.invokespecial 290, 3) := by decide +kernel
theorem dX11_errorPosition_17 : decode cX11_errorPosition 17 = .ok (.athrow, 1) := by decide +kernel
theorem dX11_errorPosition_18 : decode cX11_errorPosition 18 = .ok (.aload_n 0, 1) := by decide +kernel
theorem dX11_errorPosition_19 : decode cX11_errorPosition 19 = .ok (.getfield 96, 3) := by decide +kernel
theorem dX11_errorPosition_22 : decode cX11_errorPosition 22 = .ok (.ireturn, 1) := by decide +kernel
theorem dX11_failedCommand_0 : decode cX11_failedCommand 0 = .ok (.aload_n 0, 1) := by decide +kernel
theorem dX11_failedCommand_1 : decode cX11_failedCommand 1 = .ok (.getfield 100, 3) := by decide +kernel
theorem dX11_failedCommand_4 : decode cX11_failedCommand 4 = .ok (.ifCond .ge 14, 3) := by decide +kernel
theorem dX11_failedCommand_7 : decode cX11_failedCommand 7 = .ok (.new 286, 3) := by decide +kernel
theorem dX11_failedCommand_10 : decode cX11_failedCommand 10 = .ok (.dup, 1) := by decide +kernel
theorem dX11_failedCommand_11 : decode cX11_failedCommand 11 = .ok (.ldc_w 374, 3) := by decide +kernel
theorem dX11_failedCommand_14 : decode cX11_failedCommand 14 = .ok (.invokespecial 290, 3) := by decide +kernel
theorem dX11_failedCommand_17 : decode cX11_failedCommand 17 = .ok (.athrow, 1) := by decide +kernel
theorem dX11_failedCommand_18 : decode cX11_failedCommand 18 = .ok (.aload_n 0, 1) := by decide +kernel
theorem dX11_failedCommand_19 : decode cX11_failedCommand 19 = .ok (.getfield 100, 3) := by decide +kernel
theorem dX11_failedCommand_22 : decode cX11_failedCommand 22 = .ok (.ireturn, 1) := by decide +kernel
theorem dX11_undoableCount_0 : decode cX11_undoableCount 0 = .ok (.aload_n 0, 1) := by decide +kernel
theorem dX11_undoableCount_1 : decode cX11_undoableCount 1 = .ok (.getfield 22, 3) := by decide +kernel
theorem dX11_undoableCount_4 : decode cX11_undoableCount 4 = .ok (.invokevirtual 376, 3) := by decide +kernel
theorem dX11_undoableCount_7 : decode cX11_undoableCount 7 = .ok (.ireturn, 1) := by decide +kernel
theorem dX11_undo_0 : decode cX11_undo 0 = .ok (.aload_n 0, 1) := by decide +kernel
theorem dX11_undo_1 : decode cX11_undo 1 = .ok (.getfield 22, 3) := by decide +kernel
theorem dX11_undo_4 : decode cX11_undo 4 = .ok (.invokevirtual 376, 3) := by decide +kernel
theorem dX11_undo_7 : decode cX11_undo 7 = .ok (.ifCond .ne 14, 3) := by decide +kernel
theorem dX11_undo_10 : decode cX11_undo 10 = .ok (.new 347, 3) := by decide +kernel
theorem dX11_undo_13 : decode cX11_undo 13 = .ok (.dup, 1) := by decide +kernel
theorem dX11_undo_14 : decode cX11_undo 14 = .ok (.ldc_w 377, 3) := by decide +kernel
theorem dX11_undo_17 : decode cX11_undo 17 = .ok (.invokespecial 351, 3) := by decide +kernel
theorem dX11_undo_20 : decode cX11_undo 20 = .ok (.athrow, 1) := by decide +kernel
theorem dX11_undo_21 : decode cX11_undo 21 = .ok (.aload_n 0, 1) := by decide +kernel
theorem dX11_undo_22 : decode cX11_undo 22 = .ok (.getfield 22, 3) := by decide +kernel
theorem dX11_undo_25 : decode cX11_undo 25 = .ok (.aload_n 0, 1) := by decide +kernel
theorem dX11_undo_26 : decode cX11_undo 26 = .ok (.getfield 10, 3) := by decide +kernel
theorem dX11_undo_29 : decode cX11_undo 29 = .ok (.invokevirtual 379, 3) := by decide +kernel
theorem dX11_undo_32 : decode cX11_undo 32 = .ok (.aload_n 0, 1) := by decide +kernel
theorem dX11_undo_33 : decode cX11_undo 33 = .ok (.getfield 22, 3) := by decide +kernel
theorem dX11_undo_36 : decode cX11_undo 36 = .ok (.invokevirtual 376, 3) := by decide +kernel
theorem dX11_undo_39 : decode cX11_undo 39 = .ok (.ireturn, 1) := by decide +kernel
theorem dX11_save_0 : decode cX11_save 0 = .ok (.aload_n 0, 1) := by decide +kernel
theorem dX11_save_1 : decode cX11_save 1 = .ok (.getfield 16, 3) := by decide +kernel
theorem dX11_save_4 : decode cX11_save 4 = .ok (.aload_n 0, 1) := by decide +kernel
theorem dX11_save_5 : decode cX11_save 5 = .ok (.getfield 10, 3) := by decide +kernel
theorem dX11_save_8 : decode cX11_save 8 = .ok (.invokevirtual 382, 3) := by decide +kernel
theorem dX11_save_11 : decode cX11_save 11 = .ok (.aload_n 0, 1) := by decide +kernel
theorem dX11_save_12 : decode cX11_save 12 = .ok (.iconst 1, 1) := by decide +kernel
theorem dX11_save_13 : decode cX11_save 13 = .ok (.putfield 92, 3) := by decide +kernel
theorem dX11_save_16 : decode cX11_save 16 = .ok (.aload_n 0, 1) := by decide +kernel
theorem dX11_save_17 : decode cX11_save 17 = .ok (.getfield 10, 3) := by decide +kernel
theorem dX11_save_20 : decode cX11_save 20 = .ok (.invokevirtual 171, 3) := by decide +kernel
theorem dX11_save_23 : decode cX11_save 23 = .ok (.ireturn, 1) := by decide +kernel
theorem dX11_restore_0 : decode cX11_restore 0 = .ok (.aload_n 0, 1) := by decide +kernel
theorem dX11_restore_1 : decode cX11_restore 1 = .ok (.getfield 92, 3) := by decide +kernel
theorem dX11_restore_4 : decode cX11_restore 4 = .ok (.ifCond .ne 14, 3) := by decide +kernel
theorem dX11_restore_7 : decode cX11_restore 7 = .ok (.new 347, 3) := by decide +kernel
theorem dX11_restore_10 : decode cX11_restore 10 = .ok (.dup, 1) := by decide +kernel
theorem dX11_restore_11 : decode cX11_restore 11 = .ok (.ldc_w 385, 3) := by decide +kernel
theorem dX11_restore_14 : decode cX11_restore 14 = .ok (.invokespecial 351, 3) := by decide +kernel
theorem dX11_restore_17 : decode cX11_restore 17 = .ok (.athrow, 1) := by decide +kernel
theorem dX11_restore_18 : decode cX11_restore 18 = .ok (.aload_n 0, 1) := by decide +kernel
theorem dX11_restore_19 : decode cX11_restore 19 = .ok (.getfield 10, 3) := by decide +kernel
theorem dX11_restore_22 : decode cX11_restore 22 = .ok (.aload_n 0, 1) := by decide +kernel
theorem dX11_restore_23 : decode cX11_restore 23 = .ok (.getfield 16, 3) := by decide +kernel
theorem dX11_restore_26 : decode cX11_restore 26 = .ok (.invokevirtual 382, 3) := by decide +kernel
theorem dX11_restore_29 : decode cX11_restore 29 = .ok (.aload_n 0, 1) := by decide +kernel
theorem dX11_restore_30 : decode cX11_restore 30 = .ok (.getfield 22, 3) := by decide +kernel
theorem dX11_restore_33 : decode cX11_restore 33 = .ok (.invokevirtual 387, 3) := by decide +kernel
theorem dX11_restore_36 : decode cX11_restore 36 = .ok (.aload_n 0, 1) := by decide +kernel
theorem dX11_restore_37 : decode cX11_restore 37 = .ok (.getfield 10, 3) := by decide +kernel
theorem dX11_restore_40 : decode cX11_restore 40 = .ok (.invokevirtual 171, 3) := by decide +kernel
theorem dX11_restore_43 : decode cX11_restore 43 = .ok (.ireturn, 1) := by decide +kernel
theorem dX11_isSlot_0 : decode cX11_isSlot 0 = .ok (.iload_n 0, 1) := by decide +kernel
theorem dX11_isSlot_1 : decode cX11_isSlot 1 = .ok (.ifCond .lt 13, 3) := by decide +kernel
theorem dX11_isSlot_4 : decode cX11_isSlot 4 = .ok (.iload_n 0, 1) := by decide +kernel
theorem dX11_isSlot_5 : decode cX11_isSlot 5 = .ok (.bipush 6, 2) := by decide +kernel
theorem dX11_isSlot_7 : decode cX11_isSlot 7 = .ok (.if_icmp .ge 7, 3) := by decide +kernel
theorem dX11_isSlot_10 : decode cX11_isSlot 10 = .ok (.iconst 1, 1) := by decide +kernel
theorem dX11_isSlot_11 : decode cX11_isSlot 11 = .ok (.goto 4, 3) := by decide +kernel
theorem dX11_isSlot_14 : decode cX11_isSlot 14 = .ok (.iconst 0, 1) := by decide +kernel
theorem dX11_isSlot_15 : decode cX11_isSlot 15 = .ok (.ireturn, 1) := by decide +kernel
theorem dX11_isLetter_0 : decode cX11_isLetter 0 = .ok (.iload_n 0, 1) := by decide +kernel
theorem dX11_isLetter_1 : decode cX11_isLetter 1 = .ok (.bipush 97, 2) := by decide +kernel
theorem dX11_isLetter_3 : decode cX11_isLetter 3 = .ok (.if_icmp .lt 13, 3) := by decide +kernel
theorem dX11_isLetter_6 : decode cX11_isLetter 6 = .ok (.iload_n 0, 1) := by decide +kernel
theorem dX11_isLetter_7 : decode cX11_isLetter 7 = .ok (.bipush 99, 2) := by decide +kernel
theorem dX11_isLetter_9 : decode cX11_isLetter 9 = .ok (.if_icmp .gt 7, 3) := by decide +kernel
theorem dX11_isLetter_12 : decode cX11_isLetter 12 = .ok (.iconst 1, 1) := by decide +kernel
theorem dX11_isLetter_13 : decode cX11_isLetter 13 = .ok (.goto 4, 3) := by decide +kernel
theorem dX11_isLetter_16 : decode cX11_isLetter 16 = .ok (.iconst 0, 1) := by decide +kernel
theorem dX11_isLetter_17 : decode cX11_isLetter 17 = .ok (.ireturn, 1) := by decide +kernel
theorem dX11_isSign_0 : decode cX11_isSign 0 = .ok (.iload_n 0, 1) := by decide +kernel
theorem dX11_isSign_1 : decode cX11_isSign 1 = .ok (.bipush 42, 2) := by decide +kernel
theorem dX11_isSign_3 : decode cX11_isSign 3 = .ok (.if_icmp .eq 15, 3) := by decide +kernel
theorem dX11_isSign_6 : decode cX11_isSign 6 = .ok (.iload_n 0, 1) := by decide +kernel
theorem dX11_isSign_7 : decode cX11_isSign 7 = .ok (.bipush 43, 2) := by decide +kernel
theorem dX11_isSign_9 : decode cX11_isSign 9 = .ok (.if_icmp .eq 9, 3) := by decide +kernel
theorem dX11_isSign_12 : decode cX11_isSign 12 = .ok (.iload_n 0, 1) := by decide +kernel
theorem dX11_isSign_13 : decode cX11_isSign 13 = .ok (.bipush 63, 2) := by decide +kernel
theorem dX11_isSign_15 : decode cX11_isSign 15 = .ok (.if_icmp .ne 7, 3) := by decide +kernel
theorem dX11_isSign_18 : decode cX11_isSign 18 = .ok (.iconst 1, 1) := by decide +kernel
theorem dX11_isSign_19 : decode cX11_isSign 19 = .ok (.goto 4, 3) := by decide +kernel
theorem dX11_isSign_22 : decode cX11_isSign 22 = .ok (.iconst 0, 1) := by decide +kernel
theorem dX11_isSign_23 : decode cX11_isSign 23 = .ok (.ireturn, 1) := by decide +kernel
theorem dX11_letterNumber_0 : decode cX11_letterNumber 0 = .ok (.iload_n 0, 1) := by decide +kernel
theorem dX11_letterNumber_1 : decode cX11_letterNumber 1 = .ok (.invokestatic 390, 3) := by decide +kernel
theorem dX11_letterNumber_4 : decode cX11_letterNumber 4 = .ok (.ifCond .ne 14, 3) := by decide +kernel
theorem dX11_letterNumber_7 : decode cX11_letterNumber 7 = .ok (.new 125, 3) := by decide +kernel
theorem dX11_letterNumber_10 : decode cX11_letterNumber 10 = .ok (.dup, 1) := by decide +kernel
theorem dX11_letterNumber_11 : decode cX11_letterNumber 11 = .ok (.ldc_w 394, 3) := by decide +kernel
theorem dX11_letterNumber_14 : decode cX11_letterNumber 14 = .ok (.invokespecial 129, 3) := by decide +kernel
theorem dX11_letterNumber_17 : decode cX11_letterNumber 17 = .ok (.athrow, 1) := by decide +kernel
theorem dX11_letterNumber_18 : decode cX11_letterNumber 18 = .ok (.iload_n 0, 1) := by decide +kernel
theorem dX11_letterNumber_19 : decode cX11_letterNumber 19 = .ok (.bipush 97, 2) := by decide +kernel
theorem dX11_letterNumber_21 : decode cX11_letterNumber 21 = .ok (.isub, 1) := by decide +kernel
theorem dX11_letterNumber_22 : decode cX11_letterNumber 22 = .ok (.ireturn, 1) := by decide +kernel
theorem dX11_checkCountedLength_0 : decode cX11_checkCountedLength 0 = .ok (.iload_n 0, 1) := by decide +kernel
theorem dX11_checkCountedLength_1 : decode cX11_checkCountedLength 1 = .ok (.ifCond .lt 9, 3) := by decide +kernel
theorem dX11_checkCountedLength_4 : decode cX11_checkCountedLength 4 = .ok (.iload_n 0, 1) := by decide +kernel
theorem dX11_checkCountedLength_5 : decode cX11_checkCountedLength 5 = .ok (.bipush 6, 2) := by decide +kernel
theorem dX11_checkCountedLength_7 : decode cX11_checkCountedLength 7 = .ok (.if_icmp .le 14, 3) := by decide +kernel
theorem dX11_checkCountedLength_10 : decode cX11_checkCountedLength 10 = .ok (.new 125, 3) := by decide +kernel
theorem dX11_checkCountedLength_13 : decode cX11_checkCountedLength 13 = .ok (.dup, 1) := by decide +kernel
theorem dX11_checkCountedLength_14 : decode cX11_checkCountedLength 14 = .ok (.ldc_w 396, 3) := by decide +kernel
theorem dX11_checkCountedLength_17 : decode cX11_checkCountedLength 17 = .ok (.invokespecial 129, 3) := by decide +kernel
theorem dX11_checkCountedLength_20 : decode cX11_checkCountedLength 20 = .ok (.athrow, 1) := by decide +kernel
theorem dX11_checkCountedLength_21 : decode cX11_checkCountedLength 21 = .ok (.return_, 1) := by decide +kernel
theorem dX11_patternIn_0 : decode cX11_patternIn 0 = .ok (.aload_n 0, 1) := by decide +kernel
theorem dX11_patternIn_1 : decode cX11_patternIn 1 = .ok (.getfield 10, 3) := by decide +kernel
theorem dX11_patternIn_4 : decode cX11_patternIn 4 = .ok (.iload_n 1, 1) := by decide +kernel
theorem dX11_patternIn_5 : decode cX11_patternIn 5 = .ok (.invokevirtual 174, 3) := by decide +kernel
theorem dX11_patternIn_8 : decode cX11_patternIn 8 = .ok (.astore_n 2, 1) := by decide +kernel
theorem dX11_patternIn_9 : decode cX11_patternIn 9 = .ok (.aload_n 2, 1) := by decide +kernel
theorem dX11_patternIn_10 : decode cX11_patternIn 10 = .ok (.ifnonnull 14, 3) := by decide +kernel
theorem dX11_patternIn_13 : decode cX11_patternIn 13 = .ok (.new 286, 3) := by decide +kernel
theorem dX11_patternIn_16 : decode cX11_patternIn 16 = .ok (.dup, 1) := by decide +kernel
theorem dX11_patternIn_17 : decode cX11_patternIn 17 = .ok (.ldc_w 398, 3) := by decide +kernel
theorem dX11_patternIn_20 : decode cX11_patternIn 20 = .ok (.invokespecial 290, 3) := by decide +kernel
theorem dX11_patternIn_23 : decode cX11_patternIn 23 = .ok (.athrow, 1) := by decide +kernel
theorem dX11_patternIn_24 : decode cX11_patternIn 24 = .ok (.aload_n 2, 1) := by decide +kernel
theorem dX11_patternIn_25 : decode cX11_patternIn 25 = .ok (.areturn, 1) := by decide +kernel
theorem dX11_sampleAt_0 : decode cX11_sampleAt 0 = .ok (.aload_n 0, 1) := by decide +kernel
theorem dX11_sampleAt_1 : decode cX11_sampleAt 1 = .ok (.getfield 10, 3) := by decide +kernel
theorem dX11_sampleAt_4 : decode cX11_sampleAt 4 = .ok (.iload_n 1, 1) := by decide +kernel
theorem dX11_sampleAt_5 : decode cX11_sampleAt 5 = .ok (.invokevirtual 400, 3) := by decide +kernel
theorem dX11_sampleAt_8 : decode cX11_sampleAt 8 = .ok (.astore_n 2, 1) := by decide +kernel
theorem dX11_sampleAt_9 : decode cX11_sampleAt 9 = .ok (.aload_n 2, 1) := by decide +kernel
theorem dX11_sampleAt_10 : decode cX11_sampleAt 10 = .ok (.ifnonnull 14, 3) := by decide +kernel
theorem dX11_sampleAt_13 : decode cX11_sampleAt 13 = .ok (.new 107, 3) := by decide +kernel
theorem dX11_sampleAt_16 : decode cX11_sampleAt 16 = .ok (.dup, 1) := by decide +kernel
theorem dX11_sampleAt_17 : decode cX11_sampleAt 17 = .ok (.ldc_w 403, 3) := by decide +kernel
theorem dX11_sampleAt_20 : decode cX11_sampleAt 20 = .ok (.invokespecial 111, 3) := by decide +kernel
theorem dX11_sampleAt_23 : decode cX11_sampleAt 23 = .ok (.athrow, 1) := by decide +kernel
theorem dX11_sampleAt_24 : decode cX11_sampleAt 24 = .ok (.aload_n 2, 1) := by decide +kernel
theorem dX11_sampleAt_25 : decode cX11_sampleAt 25 = .ok (.areturn, 1) := by decide +kernel
theorem dX11_matchedWord_0 : decode cX11_matchedWord 0 = .ok (.aload_n 0, 1) := by decide +kernel
theorem dX11_matchedWord_1 : decode cX11_matchedWord 1 = .ok (.getfield 29, 3) := by decide +kernel
theorem dX11_matchedWord_4 : decode cX11_matchedWord 4 = .ok (.iconst 0, 1) := by decide +kernel
theorem dX11_matchedWord_5 : decode cX11_matchedWord 5 = .ok (.aload_n 0, 1) := by decide +kernel
theorem dX11_matchedWord_6 : decode cX11_matchedWord 6 = .ok (.getfield 29, 3) := by decide +kernel
theorem dX11_matchedWord_9 : decode cX11_matchedWord 9 = .ok (.invokevirtual 157, 3) := by decide +kernel
theorem dX11_matchedWord_12 : decode cX11_matchedWord 12 = .ok (.bipush 12, 2) := by decide +kernel
theorem dX11_matchedWord_14 : decode cX11_matchedWord 14 = .ok (.invokevirtual 160, 3) := by decide +kernel
theorem dX11_matchedWord_17 : decode cX11_matchedWord 17 = .ok (.astore_n 1, 1) := by decide +kernel
theorem dX11_matchedWord_18 : decode cX11_matchedWord 18 = .ok (.aload_n 1, 1) := by decide +kernel
theorem dX11_matchedWord_19 : decode cX11_matchedWord 19 = .ok (.ifnonnull 14, 3) := by decide +kernel
theorem dX11_matchedWord_22 : decode cX11_matchedWord 22 = .ok (.new 125, 3) := by decide +kernel
theorem dX11_matchedWord_25 : decode cX11_matchedWord 25 = .ok (.dup, 1) := by decide +kernel
theorem dX11_matchedWord_26 : decode cX11_matchedWord 26 = .ok (.ldc_w 405, 3) := by decide +kernel
theorem dX11_matchedWord_29 : decode cX11_matchedWord 29 = .ok (.invokespecial 129, 3) := by decide +kernel
theorem dX11_matchedWord_32 : decode cX11_matchedWord 32 = .ok (.athrow, 1) := by decide +kernel
theorem dX11_matchedWord_33 : decode cX11_matchedWord 33 = .ok (.aload_n 1, 1) := by decide +kernel
theorem dX11_matchedWord_34 : decode cX11_matchedWord 34 = .ok (.areturn, 1) := by decide +kernel
theorem dX11_finishChange_0 : decode cX11_finishChange 0 = .ok (.iload_n 1, 1) := by decide +kernel
theorem dX11_finishChange_1 : decode cX11_finishChange 1 = .ok (.tableswitch 104 (-6) (-1) #[93, 82, 71, 60, 49, 39], 39) := by decide +kernel
theorem dX11_finishChange_40 : decode cX11_finishChange 40 = .ok (.new 107, 3) := by decide +kernel
theorem dX11_finishChange_43 : decode cX11_finishChange 43 = .ok (.dup, 1) := by decide +kernel
theorem dX11_finishChange_44 : decode cX11_finishChange 44 = .ok (.ldc 109, 2) := by decide +kernel
theorem dX11_finishChange_46 : decode cX11_finishChange 46 = .ok (.invokespecial 111, 3) := by decide +kernel
theorem dX11_finishChange_49 : decode cX11_finishChange 49 = .ok (.athrow, 1) := by decide +kernel
theorem dX11_finishChange_50 : decode cX11_finishChange 50 = .ok (.new 286, 3) := by decide +kernel
theorem dX11_finishChange_53 : decode cX11_finishChange 53 = .ok (.dup, 1) := by decide +kernel
theorem dX11_finishChange_54 : decode cX11_finishChange 54 = .ok (.ldc_w 407, 3) := by decide +kernel
theorem dX11_finishChange_57 : decode cX11_finishChange 57 = .ok (.invokespecial 290, 3) := by decide +kernel
theorem dX11_finishChange_60 : decode cX11_finishChange 60 = .ok (.athrow, 1) := by decide +kernel
theorem dX11_finishChange_61 : decode cX11_finishChange 61 = .ok (.new 347, 3) := by decide +kernel
theorem dX11_finishChange_64 : decode cX11_finishChange 64 = .ok (.dup, 1) := by decide +kernel
theorem dX11_finishChange_65 : decode cX11_finishChange 65 = .ok (.ldc_w 409, 3) := by decide +kernel
theorem dX11_finishChange_68 : decode cX11_finishChange 68 = .ok (.invokespecial 351, 3) := by decide +kernel
theorem dX11_finishChange_71 : decode cX11_finishChange 71 = .ok (.athrow, 1) := by decide +kernel
theorem dX11_finishChange_72 : decode cX11_finishChange 72 = .ok (.new 125, 3) := by decide +kernel
theorem dX11_finishChange_75 : decode cX11_finishChange 75 = .ok (.dup, 1) := by decide +kernel
theorem dX11_finishChange_76 : decode cX11_finishChange 76 = .ok (.ldc_w 411, 3) := by decide +kernel
theorem dX11_finishChange_79 : decode cX11_finishChange 79 = .ok (.invokespecial 129, 3) := by decide +kernel
theorem dX11_finishChange_82 : decode cX11_finishChange 82 = .ok (.athrow, 1) := by decide +kernel
theorem dX11_finishChange_83 : decode cX11_finishChange 83 = .ok (.new 347, 3) := by decide +kernel
theorem dX11_finishChange_86 : decode cX11_finishChange 86 = .ok (.dup, 1) := by decide +kernel
theorem dX11_finishChange_87 : decode cX11_finishChange 87 = .ok (.ldc_w 413, 3) := by decide +kernel
theorem dX11_finishChange_90 : decode cX11_finishChange 90 = .ok (.invokespecial 351, 3) := by decide +kernel
theorem dX11_finishChange_93 : decode cX11_finishChange 93 = .ok (.athrow, 1) := by decide +kernel
theorem dX11_finishChange_94 : decode cX11_finishChange 94 = .ok (.new 107, 3) := by decide +kernel
theorem dX11_finishChange_97 : decode cX11_finishChange 97 = .ok (.dup, 1) := by decide +kernel
theorem dX11_finishChange_98 : decode cX11_finishChange 98 = .ok (.ldc_w 403, 3) := by decide +kernel
theorem dX11_finishChange_101 : decode cX11_finishChange 101 = .ok (.invokespecial 111, 3) := by decide +kernel
theorem dX11_finishChange_104 : decode cX11_finishChange 104 = .ok (.athrow, 1) := by decide +kernel
theorem dX11_finishChange_105 : decode cX11_finishChange 105 = .ok (.aload_n 0, 1) := by decide +kernel
theorem dX11_finishChange_106 : decode cX11_finishChange 106 = .ok (.getfield 22, 3) := by decide +kernel
theorem dX11_finishChange_109 : decode cX11_finishChange 109 = .ok (.invokevirtual 369, 3) := by decide +kernel
theorem dX11_finishChange_112 : decode cX11_finishChange 112 = .ok (.iload_n 1, 1) := by decide +kernel
theorem dX11_finishChange_113 : decode cX11_finishChange 113 = .ok (.ireturn, 1) := by decide +kernel
theorem dX11_executeCommands_0 : decode cX11_executeCommands 0 = .ok (.aload_n 0, 1) := by decide +kernel
theorem dX11_executeCommands_1 : decode cX11_executeCommands 1 = .ok (.getfield 29, 3) := by decide +kernel
theorem dX11_executeCommands_4 : decode cX11_executeCommands 4 = .ok (.invokevirtual 415, 3) := by decide +kernel
theorem dX11_executeCommands_7 : decode cX11_executeCommands 7 = .ok (.iconst 0, 1) := by decide +kernel
theorem dX11_executeCommands_8 : decode cX11_executeCommands 8 = .ok (.istore_n 2, 1) := by decide +kernel
theorem dX11_executeCommands_9 : decode cX11_executeCommands 9 = .ok (.iload_n 2, 1) := by decide +kernel
theorem dX11_executeCommands_10 : decode cX11_executeCommands 10 = .ok (.iload_n 1, 1) := by decide +kernel
theorem dX11_executeCommands_11 : decode cX11_executeCommands 11 = .ok (.if_icmp .ge 38, 3) := by decide +kernel
theorem dX11_executeCommands_14 : decode cX11_executeCommands 14 = .ok (.aload_n 0, 1) := by decide +kernel
theorem dX11_executeCommands_15 : decode cX11_executeCommands 15 = .ok (.getfield 29, 3) := by decide +kernel
theorem dX11_executeCommands_18 : decode cX11_executeCommands 18 = .ok (.invokevirtual 418, 3) := by decide +kernel
theorem dX11_executeCommands_21 : decode cX11_executeCommands 21 = .ok (.ifCond .eq 10, 3) := by decide +kernel
theorem dX11_executeCommands_24 : decode cX11_executeCommands 24 = .ok (.aload_n 0, 1) := by decide +kernel
theorem dX11_executeCommands_25 : decode cX11_executeCommands 25 = .ok (.invokevirtual 421, 3) := by decide +kernel
theorem dX11_executeCommands_28 : decode cX11_executeCommands 28 = .ok (.ifCond .ge 5, 3) := by decide +kernel
theorem dX11_executeCommands_31 : decode cX11_executeCommands 31 = .ok (.iload_n 2, 1) := by decide +kernel
theorem dX11_executeCommands_32 : decode cX11_executeCommands 32 = .ok (.ireturn, 1) := by decide +kernel
theorem dX11_executeCommands_33 : decode cX11_executeCommands 33 = .ok (.aload_n 0, 1) := by decide +kernel
theorem dX11_executeCommands_34 : decode cX11_executeCommands 34 = .ok (.getfield 29, 3) := by decide +kernel
theorem dX11_executeCommands_37 : decode cX11_executeCommands 37 = .ok (.bipush 59, 2) := by decide +kernel
theorem dX11_executeCommands_39 : decode cX11_executeCommands 39 = .ok (.invokevirtual 424, 3) := by decide +kernel
theorem dX11_executeCommands_42 : decode cX11_executeCommands 42 = .ok (.pop, 1) := by decide +kernel
theorem dX11_executeCommands_43 : decode cX11_executeCommands 43 = .ok (.iinc 2 1, 3) := by decide +kernel
theorem dX11_executeCommands_46 : decode cX11_executeCommands 46 = .ok (.goto (-37), 3) := by decide +kernel
theorem dX11_executeCommands_49 : decode cX11_executeCommands 49 = .ok (.iload_n 1, 1) := by decide +kernel
theorem dX11_executeCommands_50 : decode cX11_executeCommands 50 = .ok (.ireturn, 1) := by decide +kernel
theorem dX11_executeCommand_0 : decode cX11_executeCommand 0 = .ok (.aload_n 0, 1) := by decide +kernel
theorem dX11_executeCommand_1 : decode cX11_executeCommand 1 = .ok (.getfield 29, 3) := by decide +kernel
theorem dX11_executeCommand_4 : decode cX11_executeCommand 4 = .ok (.invokevirtual 427, 3) := by decide +kernel
theorem dX11_executeCommand_7 : decode cX11_executeCommand 7 = .ok (.tableswitch 223 0 6 #[41, 68, 102, 136, 160, 176, 207], 41) := by decide +kernel
theorem dX11_executeCommand_48 : decode cX11_executeCommand 48 = .ok (.aload_n 0, 1) := by decide +kernel
theorem dX11_executeCommand_49 : decode cX11_executeCommand 49 = .ok (.getfield 10, 3) := by decide +kernel
theorem dX11_executeCommand_52 : decode cX11_executeCommand 52 = .ok (.aload_n 0, 1) := by decide +kernel
theorem dX11_executeCommand_53 : decode cX11_executeCommand 53 = .ok (.getfield 29, 3) := by decide +kernel
theorem dX11_executeCommand_56 : decode cX11_executeCommand 56 = .ok (.iconst 0, 1) := by decide +kernel
theorem dX11_executeCommand_57 : decode cX11_executeCommand 57 = .ok (.invokevirtual 430, 3) := by decide +kernel
theorem dX11_executeCommand_60 : decode cX11_executeCommand 60 = .ok (.aload_n 0, 1) := by decide +kernel
theorem dX11_executeCommand_61 : decode cX11_executeCommand 61 = .ok (.getfield 36, 3) := by decide +kernel
theorem dX11_executeCommand_64 : decode cX11_executeCommand 64 = .ok (.aload_n 0, 1) := by decide +kernel
theorem dX11_executeCommand_65 : decode cX11_executeCommand 65 = .ok (.getfield 29, 3) := by decide +kernel
theorem dX11_executeCommand_68 : decode cX11_executeCommand 68 = .ok (.invokevirtual 134, 3) := by decide +kernel
theorem dX11_executeCommand_71 : decode cX11_executeCommand 71 = .ok (.invokevirtual 138, 3) := by decide +kernel
theorem dX11_executeCommand_74 : decode cX11_executeCommand 74 = .ok (.ireturn, 1) := by decide +kernel
theorem dX11_executeCommand_75 : decode cX11_executeCommand 75 = .ok (.aload_n 0, 1) := by decide +kernel
theorem dX11_executeCommand_76 : decode cX11_executeCommand 76 = .ok (.getfield 10, 3) := by decide +kernel
theorem dX11_executeCommand_79 : decode cX11_executeCommand 79 = .ok (.aload_n 0, 1) := by decide +kernel
theorem dX11_executeCommand_80 : decode cX11_executeCommand 80 = .ok (.getfield 29, 3) := by decide +kernel
theorem dX11_executeCommand_83 : decode cX11_executeCommand 83 = .ok (.iconst 0, 1) := by decide +kernel
theorem dX11_executeCommand_84 : decode cX11_executeCommand 84 = .ok (.invokevirtual 430, 3) := by decide +kernel
theorem dX11_executeCommand_87 : decode cX11_executeCommand 87 = .ok (.aload_n 0, 1) := by decide +kernel
theorem dX11_executeCommand_88 : decode cX11_executeCommand 88 = .ok (.getfield 29, 3) := by decide +kernel
theorem dX11_executeCommand_91 : decode cX11_executeCommand 91 = .ok (.iconst 1, 1) := by decide +kernel
theorem dX11_executeCommand_92 : decode cX11_executeCommand 92 = .ok (.invokevirtual 430, 3) := by decide +kernel
theorem dX11_executeCommand_95 : decode cX11_executeCommand 95 = .ok (.aload_n 0, 1) := by decide +kernel
theorem dX11_executeCommand_96 : decode cX11_executeCommand 96 = .ok (.getfield 29, 3) := by decide +kernel
theorem dX11_executeCommand_99 : decode cX11_executeCommand 99 = .ok (.iconst 2, 1) := by decide +kernel
theorem dX11_executeCommand_100 : decode cX11_executeCommand 100 = .ok (.invokevirtual 430, 3) := by decide +kernel
theorem dX11_executeCommand_103 : decode cX11_executeCommand 103 = .ok (.bipush 124, 2) := by decide +kernel
theorem dX11_executeCommand_105 : decode cX11_executeCommand 105 = .ok (.invokevirtual 146, 3) := by decide +kernel
theorem dX11_executeCommand_108 : decode cX11_executeCommand 108 = .ok (.ireturn, 1) := by decide +kernel
theorem dX11_executeCommand_109 : decode cX11_executeCommand 109 = .ok (.aload_n 0, 1) := by decide +kernel
theorem dX11_executeCommand_110 : decode cX11_executeCommand 110 = .ok (.getfield 10, 3) := by decide +kernel
theorem dX11_executeCommand_113 : decode cX11_executeCommand 113 = .ok (.aload_n 0, 1) := by decide +kernel
theorem dX11_executeCommand_114 : decode cX11_executeCommand 114 = .ok (.getfield 29, 3) := by decide +kernel
theorem dX11_executeCommand_117 : decode cX11_executeCommand 117 = .ok (.iconst 0, 1) := by decide +kernel
theorem dX11_executeCommand_118 : decode cX11_executeCommand 118 = .ok (.invokevirtual 430, 3) := by decide +kernel
theorem dX11_executeCommand_121 : decode cX11_executeCommand 121 = .ok (.aload_n 0, 1) := by decide +kernel
theorem dX11_executeCommand_122 : decode cX11_executeCommand 122 = .ok (.getfield 29, 3) := by decide +kernel
theorem dX11_executeCommand_125 : decode cX11_executeCommand 125 = .ok (.iconst 1, 1) := by decide +kernel
theorem dX11_executeCommand_126 : decode cX11_executeCommand 126 = .ok (.invokevirtual 430, 3) := by decide +kernel
theorem dX11_executeCommand_129 : decode cX11_executeCommand 129 = .ok (.aload_n 0, 1) := by decide +kernel
theorem dX11_executeCommand_130 : decode cX11_executeCommand 130 = .ok (.getfield 29, 3) := by decide +kernel
theorem dX11_executeCommand_133 : decode cX11_executeCommand 133 = .ok (.iconst 2, 1) := by decide +kernel
theorem dX11_executeCommand_134 : decode cX11_executeCommand 134 = .ok (.invokevirtual 430, 3) := by decide +kernel
theorem dX11_executeCommand_137 : decode cX11_executeCommand 137 = .ok (.bipush 46, 2) := by decide +kernel
theorem dX11_executeCommand_139 : decode cX11_executeCommand 139 = .ok (.invokevirtual 146, 3) := by decide +kernel
theorem dX11_executeCommand_142 : decode cX11_executeCommand 142 = .ok (.ireturn, 1) := by decide +kernel
theorem dX11_executeCommand_143 : decode cX11_executeCommand 143 = .ok (.aload_n 0, 1) := by decide +kernel
theorem dX11_executeCommand_144 : decode cX11_executeCommand 144 = .ok (.getfield 10, 3) := by decide +kernel
theorem dX11_executeCommand_147 : decode cX11_executeCommand 147 = .ok (.aload_n 0, 1) := by decide +kernel
theorem dX11_executeCommand_148 : decode cX11_executeCommand 148 = .ok (.getfield 29, 3) := by decide +kernel
theorem dX11_executeCommand_151 : decode cX11_executeCommand 151 = .ok (.iconst 0, 1) := by decide +kernel
theorem dX11_executeCommand_152 : decode cX11_executeCommand 152 = .ok (.invokevirtual 430, 3) := by decide +kernel
theorem dX11_executeCommand_155 : decode cX11_executeCommand 155 = .ok (.aload_n 0, 1) := by decide +kernel
theorem dX11_executeCommand_156 : decode cX11_executeCommand 156 = .ok (.getfield 29, 3) := by decide +kernel
theorem dX11_executeCommand_159 : decode cX11_executeCommand 159 = .ok (.iconst 1, 1) := by decide +kernel
theorem dX11_executeCommand_160 : decode cX11_executeCommand 160 = .ok (.invokevirtual 430, 3) := by decide +kernel
theorem dX11_executeCommand_163 : decode cX11_executeCommand 163 = .ok (.invokevirtual 150, 3) := by decide +kernel
theorem dX11_executeCommand_166 : decode cX11_executeCommand 166 = .ok (.ireturn, 1) := by decide +kernel
theorem dX11_executeCommand_167 : decode cX11_executeCommand 167 = .ok (.aload_n 0, 1) := by decide +kernel
theorem dX11_executeCommand_168 : decode cX11_executeCommand 168 = .ok (.getfield 10, 3) := by decide +kernel
theorem dX11_executeCommand_171 : decode cX11_executeCommand 171 = .ok (.aload_n 0, 1) := by decide +kernel
theorem dX11_executeCommand_172 : decode cX11_executeCommand 172 = .ok (.getfield 29, 3) := by decide +kernel
theorem dX11_executeCommand_175 : decode cX11_executeCommand 175 = .ok (.iconst 0, 1) := by decide +kernel
theorem dX11_executeCommand_176 : decode cX11_executeCommand 176 = .ok (.invokevirtual 430, 3) := by decide +kernel
theorem dX11_executeCommand_179 : decode cX11_executeCommand 179 = .ok (.invokevirtual 154, 3) := by decide +kernel
theorem dX11_executeCommand_182 : decode cX11_executeCommand 182 = .ok (.ireturn, 1) := by decide +kernel
theorem dX11_executeCommand_183 : decode cX11_executeCommand 183 = .ok (.aload_n 0, 1) := by decide +kernel
theorem dX11_executeCommand_184 : decode cX11_executeCommand 184 = .ok (.getfield 10, 3) := by decide +kernel
theorem dX11_executeCommand_187 : decode cX11_executeCommand 187 = .ok (.aload_n 0, 1) := by decide +kernel
theorem dX11_executeCommand_188 : decode cX11_executeCommand 188 = .ok (.getfield 29, 3) := by decide +kernel
theorem dX11_executeCommand_191 : decode cX11_executeCommand 191 = .ok (.aload_n 0, 1) := by decide +kernel
theorem dX11_executeCommand_192 : decode cX11_executeCommand 192 = .ok (.getfield 29, 3) := by decide +kernel
theorem dX11_executeCommand_195 : decode cX11_executeCommand 195 = .ok (.invokevirtual 433, 3) := by decide +kernel
theorem dX11_executeCommand_198 : decode cX11_executeCommand 198 = .ok (.aload_n 0, 1) := by decide +kernel
theorem dX11_executeCommand_199 : decode cX11_executeCommand 199 = .ok (.getfield 29, 3) := by decide +kernel
theorem dX11_executeCommand_202 : decode cX11_executeCommand 202 = .ok (.invokevirtual 436, 3) := by decide +kernel
theorem dX11_executeCommand_205 : decode cX11_executeCommand 205 = .ok (.bipush 8, 2) := by decide +kernel
theorem dX11_executeCommand_207 : decode cX11_executeCommand 207 = .ok (.invokevirtual 160, 3) := by decide +kernel
theorem dX11_executeCommand_210 : decode cX11_executeCommand 210 = .ok (.invokevirtual 164, 3) := by decide +kernel
theorem dX11_executeCommand_213 : decode cX11_executeCommand 213 = .ok (.ireturn, 1) := by decide +kernel
theorem dX11_executeCommand_214 : decode cX11_executeCommand 214 = .ok (.aload_n 0, 1) := by decide +kernel
theorem dX11_executeCommand_215 : decode cX11_executeCommand 215 = .ok (.getfield 10, 3) := by decide +kernel
theorem dX11_executeCommand_218 : decode cX11_executeCommand 218 = .ok (.aload_n 0, 1) := by decide +kernel
theorem dX11_executeCommand_219 : decode cX11_executeCommand 219 = .ok (.getfield 29, 3) := by decide +kernel
theorem dX11_executeCommand_222 : decode cX11_executeCommand 222 = .ok (.iconst 0, 1) := by decide +kernel
theorem dX11_executeCommand_223 : decode cX11_executeCommand 223 = .ok (.invokevirtual 430, 3) := by decide +kernel
theorem dX11_executeCommand_226 : decode cX11_executeCommand 226 = .ok (.invokevirtual 168, 3) := by decide +kernel
theorem dX11_executeCommand_229 : decode cX11_executeCommand 229 = .ok (.ireturn, 1) := by decide +kernel
theorem dX11_executeCommand_230 : decode cX11_executeCommand 230 = .ok (.bipush (-4), 2) := by decide +kernel
theorem dX11_executeCommand_232 : decode cX11_executeCommand 232 = .ok (.ireturn, 1) := by decide +kernel
theorem dX11_acceptedSamples_0 : decode cX11_acceptedSamples 0 = .ok (.iconst 0, 1) := by decide +kernel
theorem dX11_acceptedSamples_1 : decode cX11_acceptedSamples 1 = .ok (.istore_n 1, 1) := by decide +kernel
theorem dX11_acceptedSamples_2 : decode cX11_acceptedSamples 2 = .ok (.iconst 0, 1) := by decide +kernel
theorem dX11_acceptedSamples_3 : decode cX11_acceptedSamples 3 = .ok (.istore_n 2, 1) := by decide +kernel
theorem dX11_acceptedSamples_4 : decode cX11_acceptedSamples 4 = .ok (.iload_n 2, 1) := by decide +kernel
theorem dX11_acceptedSamples_5 : decode cX11_acceptedSamples 5 = .ok (.aload_n 0, 1) := by decide +kernel
theorem dX11_acceptedSamples_6 : decode cX11_acceptedSamples 6 = .ok (.getfield 10, 3) := by decide +kernel
theorem dX11_acceptedSamples_9 : decode cX11_acceptedSamples 9 = .ok (.invokevirtual 291, 3) := by decide +kernel
theorem dX11_acceptedSamples_12 : decode cX11_acceptedSamples 12 = .ok (.if_icmp .ge 30, 3) := by decide +kernel
theorem dX11_acceptedSamples_15 : decode cX11_acceptedSamples 15 = .ok (.aload_n 0, 1) := by decide +kernel
theorem dX11_acceptedSamples_16 : decode cX11_acceptedSamples 16 = .ok (.getfield 57, 3) := by decide +kernel
theorem dX11_acceptedSamples_19 : decode cX11_acceptedSamples 19 = .ok (.aload_n 0, 1) := by decide +kernel
theorem dX11_acceptedSamples_20 : decode cX11_acceptedSamples 20 = .ok (.getfield 10, 3) := by decide +kernel
theorem dX11_acceptedSamples_23 : decode cX11_acceptedSamples 23 = .ok (.iload_n 2, 1) := by decide +kernel
theorem dX11_acceptedSamples_24 : decode cX11_acceptedSamples 24 = .ok (.invokevirtual 400, 3) := by decide +kernel
theorem dX11_acceptedSamples_27 : decode cX11_acceptedSamples 27 = .ok (.invokevirtual 216, 3) := by decide +kernel
theorem dX11_acceptedSamples_30 : decode cX11_acceptedSamples 30 = .ok (.ifCond .eq 6, 3) := by decide +kernel
theorem dX11_acceptedSamples_33 : decode cX11_acceptedSamples 33 = .ok (.iinc 1 1, 3) := by decide +kernel
theorem dX11_acceptedSamples_36 : decode cX11_acceptedSamples 36 = .ok (.iinc 2 1, 3) := by decide +kernel
theorem dX11_acceptedSamples_39 : decode cX11_acceptedSamples 39 = .ok (.goto (-35), 3) := by decide +kernel
theorem dX11_acceptedSamples_42 : decode cX11_acceptedSamples 42 = .ok (.iload_n 1, 1) := by decide +kernel
theorem dX11_acceptedSamples_43 : decode cX11_acceptedSamples 43 = .ok (.ireturn, 1) := by decide +kernel
theorem dX11_smallestSize_0 : decode cX11_smallestSize 0 = .ok (.aload_n 0, 1) := by decide +kernel
theorem dX11_smallestSize_1 : decode cX11_smallestSize 1 = .ok (.getfield 57, 3) := by decide +kernel
theorem dX11_smallestSize_4 : decode cX11_smallestSize 4 = .ok (.aload_n 1, 1) := by decide +kernel
theorem dX11_smallestSize_5 : decode cX11_smallestSize 5 = .ok (.invokevirtual 213, 3) := by decide +kernel
theorem dX11_smallestSize_8 : decode cX11_smallestSize 8 = .ok (.aload_n 0, 1) := by decide +kernel
theorem dX11_smallestSize_9 : decode cX11_smallestSize 9 = .ok (.getfield 67, 3) := by decide +kernel
theorem dX11_smallestSize_12 : decode cX11_smallestSize 12 = .ok (.aload_n 0, 1) := by decide +kernel
theorem dX11_smallestSize_13 : decode cX11_smallestSize 13 = .ok (.getfield 57, 3) := by decide +kernel
theorem dX11_smallestSize_16 : decode cX11_smallestSize 16 = .ok (.invokevirtual 439, 3) := by decide +kernel
theorem dX11_smallestSize_19 : decode cX11_smallestSize 19 = .ok (.aload_n 0, 1) := by decide +kernel
theorem dX11_smallestSize_20 : decode cX11_smallestSize 20 = .ok (.getfield 67, 3) := by decide +kernel
theorem dX11_smallestSize_23 : decode cX11_smallestSize 23 = .ok (.invokevirtual 442, 3) := by decide +kernel
theorem dX11_smallestSize_26 : decode cX11_smallestSize 26 = .ok (.ireturn, 1) := by decide +kernel
theorem dX11_buildBoth_0 : decode cX11_buildBoth 0 = .ok (.aload_n 0, 1) := by decide +kernel
theorem dX11_buildBoth_1 : decode cX11_buildBoth 1 = .ok (.getfield 57, 3) := by decide +kernel
theorem dX11_buildBoth_4 : decode cX11_buildBoth 4 = .ok (.aload_n 1, 1) := by decide +kernel
theorem dX11_buildBoth_5 : decode cX11_buildBoth 5 = .ok (.invokevirtual 213, 3) := by decide +kernel
theorem dX11_buildBoth_8 : decode cX11_buildBoth 8 = .ok (.aload_n 0, 1) := by decide +kernel
theorem dX11_buildBoth_9 : decode cX11_buildBoth 9 = .ok (.getfield 61, 3) := by decide +kernel
theorem dX11_buildBoth_12 : decode cX11_buildBoth 12 = .ok (.aload_n 2, 1) := by decide +kernel
theorem dX11_buildBoth_13 : decode cX11_buildBoth 13 = .ok (.invokevirtual 213, 3) := by decide +kernel
theorem dX11_buildBoth_16 : decode cX11_buildBoth 16 = .ok (.return_, 1) := by decide +kernel
theorem dX11_sameByPairs_0 : decode cX11_sameByPairs 0 = .ok (.aload_n 0, 1) := by decide +kernel
theorem dX11_sameByPairs_1 : decode cX11_sameByPairs 1 = .ok (.aload_n 1, 1) := by decide +kernel
theorem dX11_sameByPairs_2 : decode cX11_sameByPairs 2 = .ok (.aload_n 2, 1) := by decide +kernel
theorem dX11_sameByPairs_3 : decode cX11_sameByPairs 3 = .ok (.invokevirtual 269, 3) := by decide +kernel
theorem dX11_sameByPairs_6 : decode cX11_sameByPairs 6 = .ok (.aload_n 0, 1) := by decide +kernel
theorem dX11_sameByPairs_7 : decode cX11_sameByPairs 7 = .ok (.getfield 77, 3) := by decide +kernel
theorem dX11_sameByPairs_10 : decode cX11_sameByPairs 10 = .ok (.aload_n 0, 1) := by decide +kernel
theorem dX11_sameByPairs_11 : decode cX11_sameByPairs 11 = .ok (.getfield 57, 3) := by decide +kernel
theorem dX11_sameByPairs_14 : decode cX11_sameByPairs 14 = .ok (.aload_n 0, 1) := by decide +kernel
theorem dX11_sameByPairs_15 : decode cX11_sameByPairs 15 = .ok (.getfield 61, 3) := by decide +kernel
theorem dX11_sameByPairs_18 : decode cX11_sameByPairs 18 = .ok (.invokevirtual 277, 3) := by decide +kernel
theorem dX11_sameByPairs_21 : decode cX11_sameByPairs 21 = .ok (.ifCond .ne 7, 3) := by decide +kernel
theorem dX11_sameByPairs_24 : decode cX11_sameByPairs 24 = .ok (.iconst 1, 1) := by decide +kernel
theorem dX11_sameByPairs_25 : decode cX11_sameByPairs 25 = .ok (.goto 4, 3) := by decide +kernel
theorem dX11_sameByPairs_28 : decode cX11_sameByPairs 28 = .ok (.iconst 0, 1) := by decide +kernel
theorem dX11_sameByPairs_29 : decode cX11_sameByPairs 29 = .ok (.ireturn, 1) := by decide +kernel
theorem dX11_sameBySmallest_0 : decode cX11_sameBySmallest 0 = .ok (.aload_n 0, 1) := by decide +kernel
theorem dX11_sameBySmallest_1 : decode cX11_sameBySmallest 1 = .ok (.aload_n 1, 1) := by decide +kernel
theorem dX11_sameBySmallest_2 : decode cX11_sameBySmallest 2 = .ok (.aload_n 2, 1) := by decide +kernel
theorem dX11_sameBySmallest_3 : decode cX11_sameBySmallest 3 = .ok (.invokevirtual 269, 3) := by decide +kernel
theorem dX11_sameBySmallest_6 : decode cX11_sameBySmallest 6 = .ok (.aload_n 0, 1) := by decide +kernel
theorem dX11_sameBySmallest_7 : decode cX11_sameBySmallest 7 = .ok (.getfield 67, 3) := by decide +kernel
theorem dX11_sameBySmallest_10 : decode cX11_sameBySmallest 10 = .ok (.aload_n 0, 1) := by decide +kernel
theorem dX11_sameBySmallest_11 : decode cX11_sameBySmallest 11 = .ok (.getfield 57, 3) := by decide +kernel
theorem dX11_sameBySmallest_14 : decode cX11_sameBySmallest 14 = .ok (.invokevirtual 439, 3) := by decide +kernel
theorem dX11_sameBySmallest_17 : decode cX11_sameBySmallest 17 = .ok (.aload_n 0, 1) := by decide +kernel
theorem dX11_sameBySmallest_18 : decode cX11_sameBySmallest 18 = .ok (.getfield 71, 3) := by decide +kernel
theorem dX11_sameBySmallest_21 : decode cX11_sameBySmallest 21 = .ok (.aload_n 0, 1) := by decide +kernel
theorem dX11_sameBySmallest_22 : decode cX11_sameBySmallest 22 = .ok (.getfield 61, 3) := by decide +kernel
theorem dX11_sameBySmallest_25 : decode cX11_sameBySmallest 25 = .ok (.invokevirtual 439, 3) := by decide +kernel
theorem dX11_sameBySmallest_28 : decode cX11_sameBySmallest 28 = .ok (.aload_n 0, 1) := by decide +kernel
theorem dX11_sameBySmallest_29 : decode cX11_sameBySmallest 29 = .ok (.getfield 67, 3) := by decide +kernel
theorem dX11_sameBySmallest_32 : decode cX11_sameBySmallest 32 = .ok (.aload_n 0, 1) := by decide +kernel
theorem dX11_sameBySmallest_33 : decode cX11_sameBySmallest 33 = .ok (.getfield 71, 3) := by decide +kernel
theorem dX11_sameBySmallest_36 : decode cX11_sameBySmallest 36 = .ok (.invokevirtual 443, 3) := by decide +kernel
theorem dX11_sameBySmallest_39 : decode cX11_sameBySmallest 39 = .ok (.ireturn, 1) := by decide +kernel
theorem dX11_rankOf_0 : decode cX11_rankOf 0 = .ok (.iconst 0, 1) := by decide +kernel
theorem dX11_rankOf_1 : decode cX11_rankOf 1 = .ok (.istore_n 2, 1) := by decide +kernel
theorem dX11_rankOf_2 : decode cX11_rankOf 2 = .ok (.iconst 0, 1) := by decide +kernel
theorem dX11_rankOf_3 : decode cX11_rankOf 3 = .ok (.istore_n 3, 1) := by decide +kernel
theorem dX11_rankOf_4 : decode cX11_rankOf 4 = .ok (.iload_n 3, 1) := by decide +kernel
theorem dX11_rankOf_5 : decode cX11_rankOf 5 = .ok (.bipush 6, 2) := by decide +kernel
theorem dX11_rankOf_7 : decode cX11_rankOf 7 = .ok (.if_icmp .ge 21, 3) := by decide +kernel
theorem dX11_rankOf_10 : decode cX11_rankOf 10 = .ok (.aload_n 0, 1) := by decide +kernel
theorem dX11_rankOf_11 : decode cX11_rankOf 11 = .ok (.iload_n 3, 1) := by decide +kernel
theorem dX11_rankOf_12 : decode cX11_rankOf 12 = .ok (.iload_n 1, 1) := by decide +kernel
theorem dX11_rankOf_13 : decode cX11_rankOf 13 = .ok (.invokevirtual 447, 3) := by decide +kernel
theorem dX11_rankOf_16 : decode cX11_rankOf 16 = .ok (.ifCond .eq 6, 3) := by decide +kernel
theorem dX11_rankOf_19 : decode cX11_rankOf 19 = .ok (.iinc 2 1, 3) := by decide +kernel
theorem dX11_rankOf_22 : decode cX11_rankOf 22 = .ok (.iinc 3 1, 3) := by decide +kernel
theorem dX11_rankOf_25 : decode cX11_rankOf 25 = .ok (.goto (-21), 3) := by decide +kernel
theorem dX11_rankOf_28 : decode cX11_rankOf 28 = .ok (.iload_n 2, 1) := by decide +kernel
theorem dX11_rankOf_29 : decode cX11_rankOf 29 = .ok (.ireturn, 1) := by decide +kernel
theorem dX11_comesBefore_0 : decode cX11_comesBefore 0 = .ok (.aload_n 0, 1) := by decide +kernel
theorem dX11_comesBefore_1 : decode cX11_comesBefore 1 = .ok (.getfield 10, 3) := by decide +kernel
theorem dX11_comesBefore_4 : decode cX11_comesBefore 4 = .ok (.iload_n 1, 1) := by decide +kernel
theorem dX11_comesBefore_5 : decode cX11_comesBefore 5 = .ok (.invokevirtual 174, 3) := by decide +kernel
theorem dX11_comesBefore_8 : decode cX11_comesBefore 8 = .ok (.astore_n 3, 1) := by decide +kernel
theorem dX11_comesBefore_9 : decode cX11_comesBefore 9 = .ok (.aload_n 0, 1) := by decide +kernel
theorem dX11_comesBefore_10 : decode cX11_comesBefore 10 = .ok (.getfield 10, 3) := by decide +kernel
theorem dX11_comesBefore_13 : decode cX11_comesBefore 13 = .ok (.iload_n 2, 1) := by decide +kernel
theorem dX11_comesBefore_14 : decode cX11_comesBefore 14 = .ok (.invokevirtual 174, 3) := by decide +kernel
theorem dX11_comesBefore_17 : decode cX11_comesBefore 17 = .ok (.astore 4, 2) := by decide +kernel
theorem dX11_comesBefore_19 : decode cX11_comesBefore 19 = .ok (.aload_n 3, 1) := by decide +kernel
theorem dX11_comesBefore_20 : decode cX11_comesBefore 20 = .ok (.ifnull 22, 3) := by decide +kernel
theorem dX11_comesBefore_23 : decode cX11_comesBefore 23 = .ok (.aload 4, 2) := by decide +kernel
theorem dX11_comesBefore_25 : decode cX11_comesBefore 25 = .ok (.ifnull 17, 3) := by decide +kernel
theorem dX11_comesBefore_28 : decode cX11_comesBefore 28 = .ok (.iload_n 1, 1) := by decide +kernel
theorem dX11_comesBefore_29 : decode cX11_comesBefore 29 = .ok (.invokestatic 103, 3) := by decide +kernel
theorem dX11_comesBefore_32 : decode cX11_comesBefore 32 = .ok (.ifCond .eq 10, 3) := by decide +kernel
theorem dX11_comesBefore_35 : decode cX11_comesBefore 35 = .ok (.iload_n 2, 1) := by decide +kernel
theorem dX11_comesBefore_36 : decode cX11_comesBefore 36 = .ok (.invokestatic 103, 3) := by decide +kernel
theorem dX11_comesBefore_39 : decode cX11_comesBefore 39 = .ok (.ifCond .ne 5, 3) := by decide +kernel
theorem dX11_comesBefore_42 : decode cX11_comesBefore 42 = .ok (.iconst 0, 1) := by decide +kernel
theorem dX11_comesBefore_43 : decode cX11_comesBefore 43 = .ok (.ireturn, 1) := by decide +kernel
theorem dX11_comesBefore_44 : decode cX11_comesBefore 44 = .ok (.aload_n 0, 1) := by decide +kernel
theorem dX11_comesBefore_45 : decode cX11_comesBefore 45 = .ok (.getfield 88, 3) := by decide +kernel
theorem dX11_comesBefore_48 : decode cX11_comesBefore 48 = .ok (.iload_n 1, 1) := by decide +kernel
theorem dX11_comesBefore_49 : decode cX11_comesBefore 49 = .ok (.iaload, 1) := by decide +kernel
theorem dX11_comesBefore_50 : decode cX11_comesBefore 50 = .ok (.aload_n 0, 1) := by decide +kernel
theorem dX11_comesBefore_51 : decode cX11_comesBefore 51 = .ok (.getfield 88, 3) := by decide +kernel
theorem dX11_comesBefore_54 : decode cX11_comesBefore 54 = .ok (.iload_n 2, 1) := by decide +kernel
theorem dX11_comesBefore_55 : decode cX11_comesBefore 55 = .ok (.iaload, 1) := by decide +kernel
theorem dX11_comesBefore_56 : decode cX11_comesBefore 56 = .ok (.if_icmp .eq 24, 3) := by decide +kernel
theorem dX11_comesBefore_59 : decode cX11_comesBefore 59 = .ok (.aload_n 0, 1) := by decide +kernel
theorem dX11_comesBefore_60 : decode cX11_comesBefore 60 = .ok (.getfield 88, 3) := by decide +kernel
theorem dX11_comesBefore_63 : decode cX11_comesBefore 63 = .ok (.iload_n 1, 1) := by decide +kernel
theorem dX11_comesBefore_64 : decode cX11_comesBefore 64 = .ok (.iaload, 1) := by decide +kernel
theorem dX11_comesBefore_65 : decode cX11_comesBefore 65 = .ok (.aload_n 0, 1) := by decide +kernel
theorem dX11_comesBefore_66 : decode cX11_comesBefore 66 = .ok (.getfield 88, 3) := by decide +kernel
theorem dX11_comesBefore_69 : decode cX11_comesBefore 69 = .ok (.iload_n 2, 1) := by decide +kernel
theorem dX11_comesBefore_70 : decode cX11_comesBefore 70 = .ok (.iaload, 1) := by decide +kernel
theorem dX11_comesBefore_71 : decode cX11_comesBefore 71 = .ok (.if_icmp .ge 7, 3) := by decide +kernel
theorem dX11_comesBefore_74 : decode cX11_comesBefore 74 = .ok (.iconst 1, 1) := by decide +kernel
theorem dX11_comesBefore_75 : decode cX11_comesBefore 75 = .ok (.goto 4, 3) := by decide +kernel
theorem dX11_comesBefore_78 : decode cX11_comesBefore 78 = .ok (.iconst 0, 1) := by decide +kernel
theorem dX11_comesBefore_79 : decode cX11_comesBefore 79 = .ok (.ireturn, 1) := by decide +kernel
theorem dX11_comesBefore_80 : decode cX11_comesBefore 80 = .ok (.aload_n 3, 1) := by decide +kernel
theorem dX11_comesBefore_81 : decode cX11_comesBefore 81 = .ok (.invokevirtual 181, 3) := by decide +kernel
theorem dX11_comesBefore_84 : decode cX11_comesBefore 84 = .ok (.aload 4, 2) := by decide +kernel
theorem dX11_comesBefore_86 : decode cX11_comesBefore 86 = .ok (.invokevirtual 181, 3) := by decide +kernel
theorem dX11_comesBefore_89 : decode cX11_comesBefore 89 = .ok (.if_icmp .eq 21, 3) := by decide +kernel
theorem dX11_comesBefore_92 : decode cX11_comesBefore 92 = .ok (.aload_n 3, 1) := by decide +kernel
theorem dX11_comesBefore_93 : decode cX11_comesBefore 93 = .ok (.invokevirtual 181, 3) := by decide +kernel
theorem dX11_comesBefore_96 : decode cX11_comesBefore 96 = .ok (.aload 4, 2) := by decide +kernel
theorem dX11_comesBefore_98 : decode cX11_comesBefore 98 = .ok (.invokevirtual 181, 3) := by decide +kernel
theorem dX11_comesBefore_101 : decode cX11_comesBefore 101 = .ok (.if_icmp .ge 7, 3) := by decide +kernel
theorem dX11_comesBefore_104 : decode cX11_comesBefore 104 = .ok (.iconst 1, 1) := by decide +kernel
theorem dX11_comesBefore_105 : decode cX11_comesBefore 105 = .ok (.goto 4, 3) := by decide +kernel
theorem dX11_comesBefore_108 : decode cX11_comesBefore 108 = .ok (.iconst 0, 1) := by decide +kernel
theorem dX11_comesBefore_109 : decode cX11_comesBefore 109 = .ok (.ireturn, 1) := by decide +kernel
theorem dX11_comesBefore_110 : decode cX11_comesBefore 110 = .ok (.iload_n 1, 1) := by decide +kernel
theorem dX11_comesBefore_111 : decode cX11_comesBefore 111 = .ok (.iload_n 2, 1) := by decide +kernel
theorem dX11_comesBefore_112 : decode cX11_comesBefore 112 = .ok (.if_icmp .ge 7, 3) := by decide +kernel
theorem dX11_comesBefore_115 : decode cX11_comesBefore 115 = .ok (.iconst 1, 1) := by decide +kernel
theorem dX11_comesBefore_116 : decode cX11_comesBefore 116 = .ok (.goto 4, 3) := by decide +kernel
theorem dX11_comesBefore_119 : decode cX11_comesBefore 119 = .ok (.iconst 0, 1) := by decide +kernel
theorem dX11_comesBefore_120 : decode cX11_comesBefore 120 = .ok (.ireturn, 1) := by decide +kernel
theorem dX11_agreesAlone_0 : decode cX11_agreesAlone 0 = .ok (.aload_n 0, 1) := by decide +kernel
theorem dX11_agreesAlone_1 : decode cX11_agreesAlone 1 = .ok (.getfield 57, 3) := by decide +kernel
theorem dX11_agreesAlone_4 : decode cX11_agreesAlone 4 = .ok (.aload_n 1, 1) := by decide +kernel
theorem dX11_agreesAlone_5 : decode cX11_agreesAlone 5 = .ok (.invokevirtual 213, 3) := by decide +kernel
theorem dX11_agreesAlone_8 : decode cX11_agreesAlone 8 = .ok (.aload_n 0, 1) := by decide +kernel
theorem dX11_agreesAlone_9 : decode cX11_agreesAlone 9 = .ok (.getfield 67, 3) := by decide +kernel
theorem dX11_agreesAlone_12 : decode cX11_agreesAlone 12 = .ok (.aload_n 0, 1) := by decide +kernel
theorem dX11_agreesAlone_13 : decode cX11_agreesAlone 13 = .ok (.getfield 57, 3) := by decide +kernel
theorem dX11_agreesAlone_16 : decode cX11_agreesAlone 16 = .ok (.invokevirtual 439, 3) := by decide +kernel
theorem dX11_agreesAlone_19 : decode cX11_agreesAlone 19 = .ok (.aload_n 0, 1) := by decide +kernel
theorem dX11_agreesAlone_20 : decode cX11_agreesAlone 20 = .ok (.getfield 67, 3) := by decide +kernel
theorem dX11_agreesAlone_23 : decode cX11_agreesAlone 23 = .ok (.invokevirtual 442, 3) := by decide +kernel
theorem dX11_agreesAlone_26 : decode cX11_agreesAlone 26 = .ok (.aload_n 0, 1) := by decide +kernel
theorem dX11_agreesAlone_27 : decode cX11_agreesAlone 27 = .ok (.getfield 77, 3) := by decide +kernel
theorem dX11_agreesAlone_30 : decode cX11_agreesAlone 30 = .ok (.aload_n 0, 1) := by decide +kernel
theorem dX11_agreesAlone_31 : decode cX11_agreesAlone 31 = .ok (.getfield 57, 3) := by decide +kernel
theorem dX11_agreesAlone_34 : decode cX11_agreesAlone 34 = .ok (.invokevirtual 255, 3) := by decide +kernel
theorem dX11_agreesAlone_37 : decode cX11_agreesAlone 37 = .ok (.if_icmp .eq 5, 3) := by decide +kernel
theorem dX11_agreesAlone_40 : decode cX11_agreesAlone 40 = .ok (.iconst 0, 1) := by decide +kernel
theorem dX11_agreesAlone_41 : decode cX11_agreesAlone 41 = .ok (.ireturn, 1) := by decide +kernel
theorem dX11_agreesAlone_42 : decode cX11_agreesAlone 42 = .ok (.aload_n 0, 1) := by decide +kernel
theorem dX11_agreesAlone_43 : decode cX11_agreesAlone 43 = .ok (.getfield 57, 3) := by decide +kernel
theorem dX11_agreesAlone_46 : decode cX11_agreesAlone 46 = .ok (.iconst 3, 1) := by decide +kernel
theorem dX11_agreesAlone_47 : decode cX11_agreesAlone 47 = .ok (.invokevirtual 238, 3) := by decide +kernel
theorem dX11_agreesAlone_50 : decode cX11_agreesAlone 50 = .ok (.aload_n 0, 1) := by decide +kernel
theorem dX11_agreesAlone_51 : decode cX11_agreesAlone 51 = .ok (.getfield 57, 3) := by decide +kernel
theorem dX11_agreesAlone_54 : decode cX11_agreesAlone 54 = .ok (.iconst 3, 1) := by decide +kernel
theorem dX11_agreesAlone_55 : decode cX11_agreesAlone 55 = .ok (.invokevirtual 241, 3) := by decide +kernel
theorem dX11_agreesAlone_58 : decode cX11_agreesAlone 58 = .ok (.if_icmp .eq 5, 3) := by decide +kernel
theorem dX11_agreesAlone_61 : decode cX11_agreesAlone 61 = .ok (.iconst 0, 1) := by decide +kernel
theorem dX11_agreesAlone_62 : decode cX11_agreesAlone 62 = .ok (.ireturn, 1) := by decide +kernel
theorem dX11_agreesAlone_63 : decode cX11_agreesAlone 63 = .ok (.iconst 0, 1) := by decide +kernel
theorem dX11_agreesAlone_64 : decode cX11_agreesAlone 64 = .ok (.istore_n 2, 1) := by decide +kernel
theorem dX11_agreesAlone_65 : decode cX11_agreesAlone 65 = .ok (.iload_n 2, 1) := by decide +kernel
theorem dX11_agreesAlone_66 : decode cX11_agreesAlone 66 = .ok (.aload_n 0, 1) := by decide +kernel
theorem dX11_agreesAlone_67 : decode cX11_agreesAlone 67 = .ok (.getfield 10, 3) := by decide +kernel
theorem dX11_agreesAlone_70 : decode cX11_agreesAlone 70 = .ok (.invokevirtual 291, 3) := by decide +kernel
theorem dX11_agreesAlone_73 : decode cX11_agreesAlone 73 = .ok (.if_icmp .ge 40, 3) := by decide +kernel
theorem dX11_agreesAlone_76 : decode cX11_agreesAlone 76 = .ok (.aload_n 0, 1) := by decide +kernel
theorem dX11_agreesAlone_77 : decode cX11_agreesAlone 77 = .ok (.getfield 10, 3) := by decide +kernel
theorem dX11_agreesAlone_80 : decode cX11_agreesAlone 80 = .ok (.iload_n 2, 1) := by decide +kernel
theorem dX11_agreesAlone_81 : decode cX11_agreesAlone 81 = .ok (.invokevirtual 400, 3) := by decide +kernel
theorem dX11_agreesAlone_84 : decode cX11_agreesAlone 84 = .ok (.astore_n 3, 1) := by decide +kernel
theorem dX11_agreesAlone_85 : decode cX11_agreesAlone 85 = .ok (.aload_n 0, 1) := by decide +kernel
theorem dX11_agreesAlone_86 : decode cX11_agreesAlone 86 = .ok (.getfield 57, 3) := by decide +kernel
theorem dX11_agreesAlone_89 : decode cX11_agreesAlone 89 = .ok (.aload_n 3, 1) := by decide +kernel
theorem dX11_agreesAlone_90 : decode cX11_agreesAlone 90 = .ok (.invokevirtual 216, 3) := by decide +kernel
theorem dX11_agreesAlone_93 : decode cX11_agreesAlone 93 = .ok (.aload_n 0, 1) := by decide +kernel
theorem dX11_agreesAlone_94 : decode cX11_agreesAlone 94 = .ok (.getfield 84, 3) := by decide +kernel
theorem dX11_agreesAlone_97 : decode cX11_agreesAlone 97 = .ok (.aload_n 1, 1) := by decide +kernel
theorem dX11_agreesAlone_98 : decode cX11_agreesAlone 98 = .ok (.aload_n 3, 1) := by decide +kernel
theorem dX11_agreesAlone_99 : decode cX11_agreesAlone 99 = .ok (.invokevirtual 220, 3) := by decide +kernel
theorem dX11_agreesAlone_102 : decode cX11_agreesAlone 102 = .ok (.if_icmp .eq 5, 3) := by decide +kernel
theorem dX11_agreesAlone_105 : decode cX11_agreesAlone 105 = .ok (.iconst 0, 1) := by decide +kernel
theorem dX11_agreesAlone_106 : decode cX11_agreesAlone 106 = .ok (.ireturn, 1) := by decide +kernel
theorem dX11_agreesAlone_107 : decode cX11_agreesAlone 107 = .ok (.iinc 2 1, 3) := by decide +kernel
theorem dX11_agreesAlone_110 : decode cX11_agreesAlone 110 = .ok (.goto (-45), 3) := by decide +kernel
theorem dX11_agreesAlone_113 : decode cX11_agreesAlone 113 = .ok (.iconst 1, 1) := by decide +kernel
theorem dX11_agreesAlone_114 : decode cX11_agreesAlone 114 = .ok (.ireturn, 1) := by decide +kernel
theorem dX11_agreesWithNext_0 : decode cX11_agreesWithNext 0 = .ok (.aload_n 1, 1) := by decide +kernel
theorem dX11_agreesWithNext_1 : decode cX11_agreesWithNext 1 = .ok (.ifnull 7, 3) := by decide +kernel
theorem dX11_agreesWithNext_4 : decode cX11_agreesWithNext 4 = .ok (.aload_n 2, 1) := by decide +kernel
theorem dX11_agreesWithNext_5 : decode cX11_agreesWithNext 5 = .ok (.ifnonnull 5, 3) := by decide +kernel
theorem dX11_agreesWithNext_8 : decode cX11_agreesWithNext 8 = .ok (.iconst 1, 1) := by decide +kernel
theorem dX11_agreesWithNext_9 : decode cX11_agreesWithNext 9 = .ok (.ireturn, 1) := by decide +kernel
theorem dX11_agreesWithNext_10 : decode cX11_agreesWithNext 10 = .ok (.aload_n 0, 1) := by decide +kernel
theorem dX11_agreesWithNext_11 : decode cX11_agreesWithNext 11 = .ok (.aload_n 1, 1) := by decide +kernel
theorem dX11_agreesWithNext_12 : decode cX11_agreesWithNext 12 = .ok (.aload_n 2, 1) := by decide +kernel
theorem dX11_agreesWithNext_13 : decode cX11_agreesWithNext 13 = .ok (.invokevirtual 262, 3) := by decide +kernel
theorem dX11_agreesWithNext_16 : decode cX11_agreesWithNext 16 = .ok (.aload_n 0, 1) := by decide +kernel
theorem dX11_agreesWithNext_17 : decode cX11_agreesWithNext 17 = .ok (.aload_n 1, 1) := by decide +kernel
theorem dX11_agreesWithNext_18 : decode cX11_agreesWithNext 18 = .ok (.aload_n 2, 1) := by decide +kernel
theorem dX11_agreesWithNext_19 : decode cX11_agreesWithNext 19 = .ok (.invokevirtual 266, 3) := by decide +kernel
theorem dX11_agreesWithNext_22 : decode cX11_agreesWithNext 22 = .ok (.if_icmp .ne 7, 3) := by decide +kernel
theorem dX11_agreesWithNext_25 : decode cX11_agreesWithNext 25 = .ok (.iconst 1, 1) := by decide +kernel
theorem dX11_agreesWithNext_26 : decode cX11_agreesWithNext 26 = .ok (.goto 4, 3) := by decide +kernel
theorem dX11_agreesWithNext_29 : decode cX11_agreesWithNext 29 = .ok (.iconst 0, 1) := by decide +kernel
theorem dX11_agreesWithNext_30 : decode cX11_agreesWithNext 30 = .ok (.ireturn, 1) := by decide +kernel
