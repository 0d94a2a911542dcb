theorem dL_define_0 : decode cL_define 0 = .ok (.aload_n 2, 1) := by decide +kernel
theorem dL_define_1 : decode cL_define 1 = .ok (.iconst 0, 1) := by decide +kernel
theorem dL_define_2 : decode cL_define 2 = .ok (.aload_n 0, 1) := by decide +kernel
theorem dL_define_3 : decode cL_define 3 = .ok (.iload_n 1, 1) := by decide +kernel
theorem dL_define_4 : decode cL_define 4 = .ok (.invokevirtual 7, 3) := by decide +kernel
theorem dL_define_7 : decode cL_define 7 = .ok (.i2l, 1) := by decide +kernel
theorem dL_define_8 : decode cL_define 8 = .ok (.lastore, 1) := by decide +kernel
theorem dL_define_9 : decode cL_define 9 = .ok (.goto 12, 3) := by decide +kernel
theorem dL_define_12 : decode cL_define 12 = .ok (.astore_n 3, 1) := by decide +kernel
theorem dL_define_13 : decode cL_define 13 = .ok (.iconst 1, 1) := by decide +kernel
theorem dL_define_14 : decode cL_define 14 = .ok (.ireturn, 1) := by decide +kernel
theorem dL_define_15 : decode cL_define 15 = .ok (.astore_n 3, 1) := by decide +kernel
theorem dL_define_16 : decode cL_define 16 = .ok (.iconst 2, 1) := by decide +kernel
theorem dL_define_17 : decode cL_define 17 = .ok (.ireturn, 1) := by decide +kernel
theorem dL_define_18 : decode cL_define 18 = .ok (.astore_n 3, 1) := by decide +kernel
theorem dL_define_19 : decode cL_define 19 = .ok (.iconst 3, 1) := by decide +kernel
theorem dL_define_20 : decode cL_define 20 = .ok (.ireturn, 1) := by decide +kernel
theorem dL_define_21 : decode cL_define 21 = .ok (.iconst 0, 1) := by decide +kernel
theorem dL_define_22 : decode cL_define 22 = .ok (.ireturn, 1) := by decide +kernel
theorem dL_unite_0 : decode cL_unite 0 = .ok (.aload 4, 2) := by decide +kernel
theorem dL_unite_2 : decode cL_unite 2 = .ok (.iconst 0, 1) := by decide +kernel
theorem dL_unite_3 : decode cL_unite 3 = .ok (.aload_n 0, 1) := by decide +kernel
theorem dL_unite_4 : decode cL_unite 4 = .ok (.iload_n 1, 1) := by decide +kernel
theorem dL_unite_5 : decode cL_unite 5 = .ok (.iload_n 2, 1) := by decide +kernel
theorem dL_unite_6 : decode cL_unite 6 = .ok (.iload_n 3, 1) := by decide +kernel
theorem dL_unite_7 : decode cL_unite 7 = .ok (.invokevirtual 19, 3) := by decide +kernel
theorem dL_unite_10 : decode cL_unite 10 = .ok (.i2l, 1) := by decide +kernel
theorem dL_unite_11 : decode cL_unite 11 = .ok (.lastore, 1) := by decide +kernel
theorem dL_unite_12 : decode cL_unite 12 = .ok (.goto 15, 3) := by decide +kernel
theorem dL_unite_15 : decode cL_unite 15 = .ok (.astore 5, 2) := by decide +kernel
theorem dL_unite_17 : decode cL_unite 17 = .ok (.iconst 1, 1) := by decide +kernel
theorem dL_unite_18 : decode cL_unite 18 = .ok (.ireturn, 1) := by decide +kernel
theorem dL_unite_19 : decode cL_unite 19 = .ok (.astore 5, 2) := by decide +kernel
theorem dL_unite_21 : decode cL_unite 21 = .ok (.iconst 2, 1) := by decide +kernel
theorem dL_unite_22 : decode cL_unite 22 = .ok (.ireturn, 1) := by decide +kernel
theorem dL_unite_23 : decode cL_unite 23 = .ok (.astore 5, 2) := by decide +kernel
theorem dL_unite_25 : decode cL_unite 25 = .ok (.iconst 3, 1) := by decide +kernel
theorem dL_unite_26 : decode cL_unite 26 = .ok (.ireturn, 1) := by decide +kernel
theorem dL_unite_27 : decode cL_unite 27 = .ok (.iconst 0, 1) := by decide +kernel
theorem dL_unite_28 : decode cL_unite 28 = .ok (.ireturn, 1) := by decide +kernel
theorem dL_concatenate_0 : decode cL_concatenate 0 = .ok (.aload 4, 2) := by decide +kernel
theorem dL_concatenate_2 : decode cL_concatenate 2 = .ok (.iconst 0, 1) := by decide +kernel
theorem dL_concatenate_3 : decode cL_concatenate 3 = .ok (.aload_n 0, 1) := by decide +kernel
theorem dL_concatenate_4 : decode cL_concatenate 4 = .ok (.iload_n 1, 1) := by decide +kernel
theorem dL_concatenate_5 : decode cL_concatenate 5 = .ok (.iload_n 2, 1) := by decide +kernel
theorem dL_concatenate_6 : decode cL_concatenate 6 = .ok (.iload_n 3, 1) := by decide +kernel
theorem dL_concatenate_7 : decode cL_concatenate 7 = .ok (.invokevirtual 25, 3) := by decide +kernel
theorem dL_concatenate_10 : decode cL_concatenate 10 = .ok (.i2l, 1) := by decide +kernel
theorem dL_concatenate_11 : decode cL_concatenate 11 = .ok (.lastore, 1) := by decide +kernel
theorem dL_concatenate_12 : decode cL_concatenate 12 = .ok (.goto 15, 3) := by decide +kernel
theorem dL_concatenate_15 : decode cL_concatenate 15 = .ok (.astore 5, 2) := by decide +kernel
theorem dL_concatenate_17 : decode cL_concatenate 17 = .ok (.iconst 1, 1) := by decide +kernel
theorem dL_concatenate_18 : decode cL_concatenate 18 = .ok (.ireturn, 1) := by decide +kernel
theorem dL_concatenate_19 : decode cL_concatenate 19 = .ok (.astore 5, 2) := by decide +kernel
theorem dL_concatenate_21 : decode cL_concatenate 21 = .ok (.iconst 2, 1) := by decide +kernel
theorem dL_concatenate_22 : decode cL_concatenate 22 = .ok (.ireturn, 1) := by decide +kernel
theorem dL_concatenate_23 : decode cL_concatenate 23 = .ok (.astore 5, 2) := by decide +kernel
theorem dL_concatenate_25 : decode cL_concatenate 25 = .ok (.iconst 3, 1) := by decide +kernel
theorem dL_concatenate_26 : decode cL_concatenate 26 = .ok (.ireturn, 1) := by decide +kernel
theorem dL_concatenate_27 : decode cL_concatenate 27 = .ok (.iconst 0, 1) := by decide +kernel
theorem dL_concatenate_28 : decode cL_concatenate 28 = .ok (.ireturn, 1) := by decide +kernel
theorem dL_repeat_0 : decode cL_repeat 0 = .ok (.aload_n 3, 1) := by decide +kernel
theorem dL_repeat_1 : decode cL_repeat 1 = .ok (.iconst 0, 1) := by decide +kernel
theorem dL_repeat_2 : decode cL_repeat 2 = .ok (.aload_n 0, 1) := by decide +kernel
theorem dL_repeat_3 : decode cL_repeat 3 = .ok (.iload_n 1, 1) := by decide +kernel
theorem dL_repeat_4 : decode cL_repeat 4 = .ok (.iload_n 2, 1) := by decide +kernel
theorem dL_repeat_5 : decode cL_repeat 5 = .ok (.invokevirtual 28, 3) := by decide +kernel
theorem dL_repeat_8 : decode cL_repeat 8 = .ok (.i2l, 1) := by decide +kernel
theorem dL_repeat_9 : decode cL_repeat 9 = .ok (.lastore, 1) := by decide +kernel
theorem dL_repeat_10 : decode cL_repeat 10 = .ok (.goto 15, 3) := by decide +kernel
theorem dL_repeat_13 : decode cL_repeat 13 = .ok (.astore 4, 2) := by decide +kernel
theorem dL_repeat_15 : decode cL_repeat 15 = .ok (.iconst 1, 1) := by decide +kernel
theorem dL_repeat_16 : decode cL_repeat 16 = .ok (.ireturn, 1) := by decide +kernel
theorem dL_repeat_17 : decode cL_repeat 17 = .ok (.astore 4, 2) := by decide +kernel
theorem dL_repeat_19 : decode cL_repeat 19 = .ok (.iconst 2, 1) := by decide +kernel
theorem dL_repeat_20 : decode cL_repeat 20 = .ok (.ireturn, 1) := by decide +kernel
theorem dL_repeat_21 : decode cL_repeat 21 = .ok (.astore 4, 2) := by decide +kernel
theorem dL_repeat_23 : decode cL_repeat 23 = .ok (.iconst 3, 1) := by decide +kernel
theorem dL_repeat_24 : decode cL_repeat 24 = .ok (.ireturn, 1) := by decide +kernel
theorem dL_repeat_25 : decode cL_repeat 25 = .ok (.iconst 0, 1) := by decide +kernel
theorem dL_repeat_26 : decode cL_repeat 26 = .ok (.ireturn, 1) := by decide +kernel
theorem dL_remove_0 : decode cL_remove 0 = .ok (.aload_n 2, 1) := by decide +kernel
theorem dL_remove_1 : decode cL_remove 1 = .ok (.iconst 0, 1) := by decide +kernel
theorem dL_remove_2 : decode cL_remove 2 = .ok (.aload_n 0, 1) := by decide +kernel
theorem dL_remove_3 : decode cL_remove 3 = .ok (.iload_n 1, 1) := by decide +kernel
theorem dL_remove_4 : decode cL_remove 4 = .ok (.invokevirtual 32, 3) := by decide +kernel
theorem dL_remove_7 : decode cL_remove 7 = .ok (.i2l, 1) := by decide +kernel
theorem dL_remove_8 : decode cL_remove 8 = .ok (.lastore, 1) := by decide +kernel
theorem dL_remove_9 : decode cL_remove 9 = .ok (.goto 9, 3) := by decide +kernel
theorem dL_remove_12 : decode cL_remove 12 = .ok (.astore_n 3, 1) := by decide +kernel
theorem dL_remove_13 : decode cL_remove 13 = .ok (.iconst 1, 1) := by decide +kernel
theorem dL_remove_14 : decode cL_remove 14 = .ok (.ireturn, 1) := by decide +kernel
theorem dL_remove_15 : decode cL_remove 15 = .ok (.astore_n 3, 1) := by decide +kernel
theorem dL_remove_16 : decode cL_remove 16 = .ok (.iconst 2, 1) := by decide +kernel
theorem dL_remove_17 : decode cL_remove 17 = .ok (.ireturn, 1) := by decide +kernel
theorem dL_remove_18 : decode cL_remove 18 = .ok (.iconst 0, 1) := by decide +kernel
theorem dL_remove_19 : decode cL_remove 19 = .ok (.ireturn, 1) := by decide +kernel
theorem dL_addWord_0 : decode cL_addWord 0 = .ok (.aload_n 1, 1) := by decide +kernel
theorem dL_addWord_1 : decode cL_addWord 1 = .ok (.iconst 0, 1) := by decide +kernel
theorem dL_addWord_2 : decode cL_addWord 2 = .ok (.aload_n 0, 1) := by decide +kernel
theorem dL_addWord_3 : decode cL_addWord 3 = .ok (.invokevirtual 35, 3) := by decide +kernel
theorem dL_addWord_6 : decode cL_addWord 6 = .ok (.i2l, 1) := by decide +kernel
theorem dL_addWord_7 : decode cL_addWord 7 = .ok (.lastore, 1) := by decide +kernel
theorem dL_addWord_8 : decode cL_addWord 8 = .ok (.goto 9, 3) := by decide +kernel
theorem dL_addWord_11 : decode cL_addWord 11 = .ok (.astore_n 2, 1) := by decide +kernel
theorem dL_addWord_12 : decode cL_addWord 12 = .ok (.iconst 1, 1) := by decide +kernel
theorem dL_addWord_13 : decode cL_addWord 13 = .ok (.ireturn, 1) := by decide +kernel
theorem dL_addWord_14 : decode cL_addWord 14 = .ok (.astore_n 2, 1) := by decide +kernel
theorem dL_addWord_15 : decode cL_addWord 15 = .ok (.iconst 2, 1) := by decide +kernel
theorem dL_addWord_16 : decode cL_addWord 16 = .ok (.ireturn, 1) := by decide +kernel
theorem dL_addWord_17 : decode cL_addWord 17 = .ok (.iconst 0, 1) := by decide +kernel
theorem dL_addWord_18 : decode cL_addWord 18 = .ok (.ireturn, 1) := by decide +kernel
theorem dL_removeWord_0 : decode cL_removeWord 0 = .ok (.aload_n 2, 1) := by decide +kernel
theorem dL_removeWord_1 : decode cL_removeWord 1 = .ok (.iconst 0, 1) := by decide +kernel
theorem dL_removeWord_2 : decode cL_removeWord 2 = .ok (.aload_n 0, 1) := by decide +kernel
theorem dL_removeWord_3 : decode cL_removeWord 3 = .ok (.iload_n 1, 1) := by decide +kernel
theorem dL_removeWord_4 : decode cL_removeWord 4 = .ok (.invokevirtual 39, 3) := by decide +kernel
theorem dL_removeWord_7 : decode cL_removeWord 7 = .ok (.i2l, 1) := by decide +kernel
theorem dL_removeWord_8 : decode cL_removeWord 8 = .ok (.lastore, 1) := by decide +kernel
theorem dL_removeWord_9 : decode cL_removeWord 9 = .ok (.goto 6, 3) := by decide +kernel
theorem dL_removeWord_12 : decode cL_removeWord 12 = .ok (.astore_n 3, 1) := by decide +kernel
theorem dL_removeWord_13 : decode cL_removeWord 13 = .ok (.iconst 1, 1) := by decide +kernel
theorem dL_removeWord_14 : decode cL_removeWord 14 = .ok (.ireturn, 1) := by decide +kernel
theorem dL_removeWord_15 : decode cL_removeWord 15 = .ok (.iconst 0, 1) := by decide +kernel
theorem dL_removeWord_16 : decode cL_removeWord 16 = .ok (.ireturn, 1) := by decide +kernel
theorem dL_hasPattern_0 : decode cL_hasPattern 0 = .ok (.aload_n 2, 1) := by decide +kernel
theorem dL_hasPattern_1 : decode cL_hasPattern 1 = .ok (.iconst 0, 1) := by decide +kernel
theorem dL_hasPattern_2 : decode cL_hasPattern 2 = .ok (.aload_n 0, 1) := by decide +kernel
theorem dL_hasPattern_3 : decode cL_hasPattern 3 = .ok (.iload_n 1, 1) := by decide +kernel
theorem dL_hasPattern_4 : decode cL_hasPattern 4 = .ok (.invokevirtual 42, 3) := by decide +kernel
theorem dL_hasPattern_7 : decode cL_hasPattern 7 = .ok (.ifCond .eq 7, 3) := by decide +kernel
theorem dL_hasPattern_10 : decode cL_hasPattern 10 = .ok (.lconst 1, 1) := by decide +kernel
theorem dL_hasPattern_11 : decode cL_hasPattern 11 = .ok (.goto 4, 3) := by decide +kernel
theorem dL_hasPattern_14 : decode cL_hasPattern 14 = .ok (.lconst 0, 1) := by decide +kernel
theorem dL_hasPattern_15 : decode cL_hasPattern 15 = .ok (.lastore, 1) := by decide +kernel
theorem dL_hasPattern_16 : decode cL_hasPattern 16 = .ok (.goto 6, 3) := by decide +kernel
theorem dL_hasPattern_19 : decode cL_hasPattern 19 = .ok (.astore_n 3, 1) := by decide +kernel
theorem dL_hasPattern_20 : decode cL_hasPattern 20 = .ok (.iconst 1, 1) := by decide +kernel
theorem dL_hasPattern_21 : decode cL_hasPattern 21 = .ok (.ireturn, 1) := by decide +kernel
theorem dL_hasPattern_22 : decode cL_hasPattern 22 = .ok (.iconst 0, 1) := by decide +kernel
theorem dL_hasPattern_23 : decode cL_hasPattern 23 = .ok (.ireturn, 1) := by decide +kernel
theorem dL_letterCount_0 : decode cL_letterCount 0 = .ok (.aload_n 2, 1) := by decide +kernel
theorem dL_letterCount_1 : decode cL_letterCount 1 = .ok (.iconst 0, 1) := by decide +kernel
theorem dL_letterCount_2 : decode cL_letterCount 2 = .ok (.aload_n 0, 1) := by decide +kernel
theorem dL_letterCount_3 : decode cL_letterCount 3 = .ok (.iload_n 1, 1) := by decide +kernel
theorem dL_letterCount_4 : decode cL_letterCount 4 = .ok (.invokevirtual 46, 3) := by decide +kernel
theorem dL_letterCount_7 : decode cL_letterCount 7 = .ok (.i2l, 1) := by decide +kernel
theorem dL_letterCount_8 : decode cL_letterCount 8 = .ok (.lastore, 1) := by decide +kernel
theorem dL_letterCount_9 : decode cL_letterCount 9 = .ok (.goto 6, 3) := by decide +kernel
theorem dL_letterCount_12 : decode cL_letterCount 12 = .ok (.astore_n 3, 1) := by decide +kernel
theorem dL_letterCount_13 : decode cL_letterCount 13 = .ok (.iconst 1, 1) := by decide +kernel
theorem dL_letterCount_14 : decode cL_letterCount 14 = .ok (.ireturn, 1) := by decide +kernel
theorem dL_letterCount_15 : decode cL_letterCount 15 = .ok (.iconst 0, 1) := by decide +kernel
theorem dL_letterCount_16 : decode cL_letterCount 16 = .ok (.ireturn, 1) := by decide +kernel
theorem dL_acceptsEmpty_0 : decode cL_acceptsEmpty 0 = .ok (.aload_n 2, 1) := by decide +kernel
theorem dL_acceptsEmpty_1 : decode cL_acceptsEmpty 1 = .ok (.iconst 0, 1) := by decide +kernel
theorem dL_acceptsEmpty_2 : decode cL_acceptsEmpty 2 = .ok (.aload_n 0, 1) := by decide +kernel
theorem dL_acceptsEmpty_3 : decode cL_acceptsEmpty 3 = .ok (.iload_n 1, 1) := by decide +kernel
theorem dL_acceptsEmpty_4 : decode cL_acceptsEmpty 4 = .ok (.invokevirtual 49, 3) := by decide +kernel
theorem dL_acceptsEmpty_7 : decode cL_acceptsEmpty 7 = .ok (.ifCond .eq 7, 3) := by decide +kernel
theorem dL_acceptsEmpty_10 : decode cL_acceptsEmpty 10 = .ok (.lconst 1, 1) := by decide +kernel
theorem dL_acceptsEmpty_11 : decode cL_acceptsEmpty 11 = .ok (.goto 4, 3) := by decide +kernel
theorem dL_acceptsEmpty_14 : decode cL_acceptsEmpty 14 = .ok (.lconst 0, 1) := by decide +kernel
theorem dL_acceptsEmpty_15 : decode cL_acceptsEmpty 15 = .ok (.lastore, 1) := by decide +kernel
theorem dL_acceptsEmpty_16 : decode cL_acceptsEmpty 16 = .ok (.goto 6, 3) := by decide +kernel
theorem dL_acceptsEmpty_19 : decode cL_acceptsEmpty 19 = .ok (.astore_n 3, 1) := by decide +kernel
theorem dL_acceptsEmpty_20 : decode cL_acceptsEmpty 20 = .ok (.iconst 1, 1) := by decide +kernel
theorem dL_acceptsEmpty_21 : decode cL_acceptsEmpty 21 = .ok (.ireturn, 1) := by decide +kernel
theorem dL_acceptsEmpty_22 : decode cL_acceptsEmpty 22 = .ok (.iconst 0, 1) := by decide +kernel
theorem dL_acceptsEmpty_23 : decode cL_acceptsEmpty 23 = .ok (.ireturn, 1) := by decide +kernel
theorem dL_canBegin_0 : decode cL_canBegin 0 = .ok (.aload_n 3, 1) := by decide +kernel
theorem dL_canBegin_1 : decode cL_canBegin 1 = .ok (.iconst 0, 1) := by decide +kernel
theorem dL_canBegin_2 : decode cL_canBegin 2 = .ok (.aload_n 0, 1) := by decide +kernel
theorem dL_canBegin_3 : decode cL_canBegin 3 = .ok (.iload_n 1, 1) := by decide +kernel
theorem dL_canBegin_4 : decode cL_canBegin 4 = .ok (.iload_n 2, 1) := by decide +kernel
theorem dL_canBegin_5 : decode cL_canBegin 5 = .ok (.invokevirtual 52, 3) := by decide +kernel
theorem dL_canBegin_8 : decode cL_canBegin 8 = .ok (.ifCond .eq 7, 3) := by decide +kernel
theorem dL_canBegin_11 : decode cL_canBegin 11 = .ok (.lconst 1, 1) := by decide +kernel
theorem dL_canBegin_12 : decode cL_canBegin 12 = .ok (.goto 4, 3) := by decide +kernel
theorem dL_canBegin_15 : decode cL_canBegin 15 = .ok (.lconst 0, 1) := by decide +kernel
theorem dL_canBegin_16 : decode cL_canBegin 16 = .ok (.lastore, 1) := by decide +kernel
theorem dL_canBegin_17 : decode cL_canBegin 17 = .ok (.goto 11, 3) := by decide +kernel
theorem dL_canBegin_20 : decode cL_canBegin 20 = .ok (.astore 4, 2) := by decide +kernel
theorem dL_canBegin_22 : decode cL_canBegin 22 = .ok (.iconst 1, 1) := by decide +kernel
theorem dL_canBegin_23 : decode cL_canBegin 23 = .ok (.ireturn, 1) := by decide +kernel
theorem dL_canBegin_24 : decode cL_canBegin 24 = .ok (.astore 4, 2) := by decide +kernel
theorem dL_canBegin_26 : decode cL_canBegin 26 = .ok (.iconst 2, 1) := by decide +kernel
theorem dL_canBegin_27 : decode cL_canBegin 27 = .ok (.ireturn, 1) := by decide +kernel
theorem dL_canBegin_28 : decode cL_canBegin 28 = .ok (.iconst 0, 1) := by decide +kernel
theorem dL_canBegin_29 : decode cL_canBegin 29 = .ok (.ireturn, 1) := by decide +kernel
theorem dL_canEnd_0 : decode cL_canEnd 0 = .ok (.aload_n 3, 1) := by decide +kernel
theorem dL_canEnd_1 : decode cL_canEnd 1 = .ok (.iconst 0, 1) := by decide +kernel
theorem dL_canEnd_2 : decode cL_canEnd 2 = .ok (.aload_n 0, 1) := by decide +kernel
theorem dL_canEnd_3 : decode cL_canEnd 3 = .ok (.iload_n 1, 1) := by decide +kernel
theorem dL_canEnd_4 : decode cL_canEnd 4 = .ok (.iload_n 2, 1) := by decide +kernel
theorem dL_canEnd_5 : decode cL_canEnd 5 = .ok (.invokevirtual 56, 3) := by decide +kernel
theorem dL_canEnd_8 : decode cL_canEnd 8 = .ok (.ifCond .eq 7, 3) := by decide +kernel
theorem dL_canEnd_11 : decode cL_canEnd 11 = .ok (.lconst 1, 1) := by decide +kernel
theorem dL_canEnd_12 : decode cL_canEnd 12 = .ok (.goto 4, 3) := by decide +kernel
theorem dL_canEnd_15 : decode cL_canEnd 15 = .ok (.lconst 0, 1) := by decide +kernel
theorem dL_canEnd_16 : decode cL_canEnd 16 = .ok (.lastore, 1) := by decide +kernel
theorem dL_canEnd_17 : decode cL_canEnd 17 = .ok (.goto 11, 3) := by decide +kernel
theorem dL_canEnd_20 : decode cL_canEnd 20 = .ok (.astore 4, 2) := by decide +kernel
theorem dL_canEnd_22 : decode cL_canEnd 22 = .ok (.iconst 1, 1) := by decide +kernel
theorem dL_canEnd_23 : decode cL_canEnd 23 = .ok (.ireturn, 1) := by decide +kernel
theorem dL_canEnd_24 : decode cL_canEnd 24 = .ok (.astore 4, 2) := by decide +kernel
theorem dL_canEnd_26 : decode cL_canEnd 26 = .ok (.iconst 2, 1) := by decide +kernel
theorem dL_canEnd_27 : decode cL_canEnd 27 = .ok (.ireturn, 1) := by decide +kernel
theorem dL_canEnd_28 : decode cL_canEnd 28 = .ok (.iconst 0, 1) := by decide +kernel
theorem dL_canEnd_29 : decode cL_canEnd 29 = .ok (.ireturn, 1) := by decide +kernel
theorem dL_canBeAdjacent_0 : decode cL_canBeAdjacent 0 = .ok (.aload 4, 2) := by decide +kernel
theorem dL_canBeAdjacent_2 : decode cL_canBeAdjacent 2 = .ok (.iconst 0, 1) := by decide +kernel
theorem dL_canBeAdjacent_3 : decode cL_canBeAdjacent 3 = .ok (.aload_n 0, 1) := by decide +kernel
theorem dL_canBeAdjacent_4 : decode cL_canBeAdjacent 4 = .ok (.iload_n 1, 1) := by decide +kernel
theorem dL_canBeAdjacent_5 : decode cL_canBeAdjacent 5 = .ok (.iload_n 2, 1) := by decide +kernel
theorem dL_canBeAdjacent_6 : decode cL_canBeAdjacent 6 = .ok (.iload_n 3, 1) := by decide +kernel
theorem dL_canBeAdjacent_7 : decode cL_canBeAdjacent 7 = .ok (.invokevirtual 59, 3) := by decide +kernel
theorem dL_canBeAdjacent_10 : decode cL_canBeAdjacent 10 = .ok (.ifCond .eq 7, 3) := by decide +kernel
theorem dL_canBeAdjacent_13 : decode cL_canBeAdjacent 13 = .ok (.lconst 1, 1) := by decide +kernel
theorem dL_canBeAdjacent_14 : decode cL_canBeAdjacent 14 = .ok (.goto 4, 3) := by decide +kernel
theorem dL_canBeAdjacent_17 : decode cL_canBeAdjacent 17 = .ok (.lconst 0, 1) := by decide +kernel
theorem dL_canBeAdjacent_18 : decode cL_canBeAdjacent 18 = .ok (.lastore, 1) := by decide +kernel
theorem dL_canBeAdjacent_19 : decode cL_canBeAdjacent 19 = .ok (.goto 11, 3) := by decide +kernel
theorem dL_canBeAdjacent_22 : decode cL_canBeAdjacent 22 = .ok (.astore 5, 2) := by decide +kernel
theorem dL_canBeAdjacent_24 : decode cL_canBeAdjacent 24 = .ok (.iconst 1, 1) := by decide +kernel
theorem dL_canBeAdjacent_25 : decode cL_canBeAdjacent 25 = .ok (.ireturn, 1) := by decide +kernel
theorem dL_canBeAdjacent_26 : decode cL_canBeAdjacent 26 = .ok (.astore 5, 2) := by decide +kernel
theorem dL_canBeAdjacent_28 : decode cL_canBeAdjacent 28 = .ok (.iconst 2, 1) := by decide +kernel
theorem dL_canBeAdjacent_29 : decode cL_canBeAdjacent 29 = .ok (.ireturn, 1) := by decide +kernel
theorem dL_canBeAdjacent_30 : decode cL_canBeAdjacent 30 = .ok (.iconst 0, 1) := by decide +kernel
theorem dL_canBeAdjacent_31 : decode cL_canBeAdjacent 31 = .ok (.ireturn, 1) := by decide +kernel
theorem dL_matches_0 : decode cL_matches 0 = .ok (.aload_n 2, 1) := by decide +kernel
theorem dL_matches_1 : decode cL_matches 1 = .ok (.iconst 0, 1) := by decide +kernel
theorem dL_matches_2 : decode cL_matches 2 = .ok (.aload_n 0, 1) := by decide +kernel
theorem dL_matches_3 : decode cL_matches 3 = .ok (.iload_n 1, 1) := by decide +kernel
theorem dL_matches_4 : decode cL_matches 4 = .ok (.invokevirtual 63, 3) := by decide +kernel
theorem dL_matches_7 : decode cL_matches 7 = .ok (.ifCond .eq 7, 3) := by decide +kernel
theorem dL_matches_10 : decode cL_matches 10 = .ok (.lconst 1, 1) := by decide +kernel
theorem dL_matches_11 : decode cL_matches 11 = .ok (.goto 4, 3) := by decide +kernel
theorem dL_matches_14 : decode cL_matches 14 = .ok (.lconst 0, 1) := by decide +kernel
theorem dL_matches_15 : decode cL_matches 15 = .ok (.lastore, 1) := by decide +kernel
theorem dL_matches_16 : decode cL_matches 16 = .ok (.goto 9, 3) := by decide +kernel
theorem dL_matches_19 : decode cL_matches 19 = .ok (.astore_n 3, 1) := by decide +kernel
theorem dL_matches_20 : decode cL_matches 20 = .ok (.iconst 1, 1) := by decide +kernel
theorem dL_matches_21 : decode cL_matches 21 = .ok (.ireturn, 1) := by decide +kernel
theorem dL_matches_22 : decode cL_matches 22 = .ok (.astore_n 3, 1) := by decide +kernel
theorem dL_matches_23 : decode cL_matches 23 = .ok (.iconst 2, 1) := by decide +kernel
theorem dL_matches_24 : decode cL_matches 24 = .ok (.ireturn, 1) := by decide +kernel
theorem dL_matches_25 : decode cL_matches 25 = .ok (.iconst 0, 1) := by decide +kernel
theorem dL_matches_26 : decode cL_matches 26 = .ok (.ireturn, 1) := by decide +kernel
theorem dL_matchesBySpans_0 : decode cL_matchesBySpans 0 = .ok (.aload_n 2, 1) := by decide +kernel
theorem dL_matchesBySpans_1 : decode cL_matchesBySpans 1 = .ok (.iconst 0, 1) := by decide +kernel
theorem dL_matchesBySpans_2 : decode cL_matchesBySpans 2 = .ok (.aload_n 0, 1) := by decide +kernel
theorem dL_matchesBySpans_3 : decode cL_matchesBySpans 3 = .ok (.iload_n 1, 1) := by decide +kernel
theorem dL_matchesBySpans_4 : decode cL_matchesBySpans 4 = .ok (.invokevirtual 66, 3) := by decide +kernel
theorem dL_matchesBySpans_7 : decode cL_matchesBySpans 7 = .ok (.ifCond .eq 7, 3) := by decide +kernel
theorem dL_matchesBySpans_10 : decode cL_matchesBySpans 10 = .ok (.lconst 1, 1) := by decide +kernel
theorem dL_matchesBySpans_11 : decode cL_matchesBySpans 11 = .ok (.goto 4, 3) := by decide +kernel
theorem dL_matchesBySpans_14 : decode cL_matchesBySpans 14 = .ok (.lconst 0, 1) := by decide +kernel
theorem dL_matchesBySpans_15 : decode cL_matchesBySpans 15 = .ok (.lastore, 1) := by decide +kernel
theorem dL_matchesBySpans_16 : decode cL_matchesBySpans 16 = .ok (.goto 9, 3) := by decide +kernel
theorem dL_matchesBySpans_19 : decode cL_matchesBySpans 19 = .ok (.astore_n 3, 1) := by decide +kernel
theorem dL_matchesBySpans_20 : decode cL_matchesBySpans 20 = .ok (.iconst 1, 1) := by decide +kernel
theorem dL_matchesBySpans_21 : decode cL_matchesBySpans 21 = .ok (.ireturn, 1) := by decide +kernel
theorem dL_matchesBySpans_22 : decode cL_matchesBySpans 22 = .ok (.astore_n 3, 1) := by decide +kernel
theorem dL_matchesBySpans_23 : decode cL_matchesBySpans 23 = .ok (.iconst 2, 1) := by decide +kernel
theorem dL_matchesBySpans_24 : decode cL_matchesBySpans 24 = .ok (.ireturn, 1) := by decide +kernel
theorem dL_matchesBySpans_25 : decode cL_matchesBySpans 25 = .ok (.iconst 0, 1) := by decide +kernel
theorem dL_matchesBySpans_26 : decode cL_matchesBySpans 26 = .ok (.ireturn, 1) := by decide +kernel
theorem dL_longestPrefix_0 : decode cL_longestPrefix 0 = .ok (.aload_n 2, 1) := by decide +kernel
theorem dL_longestPrefix_1 : decode cL_longestPrefix 1 = .ok (.iconst 0, 1) := by decide +kernel
theorem dL_longestPrefix_2 : decode cL_longestPrefix 2 = .ok (.aload_n 0, 1) := by decide +kernel
theorem dL_longestPrefix_3 : decode cL_longestPrefix 3 = .ok (.iload_n 1, 1) := by decide +kernel
theorem dL_longestPrefix_4 : decode cL_longestPrefix 4 = .ok (.invokevirtual 69, 3) := by decide +kernel
theorem dL_longestPrefix_7 : decode cL_longestPrefix 7 = .ok (.i2l, 1) := by decide +kernel
theorem dL_longestPrefix_8 : decode cL_longestPrefix 8 = .ok (.lastore, 1) := by decide +kernel
theorem dL_longestPrefix_9 : decode cL_longestPrefix 9 = .ok (.goto 9, 3) := by decide +kernel
theorem dL_longestPrefix_12 : decode cL_longestPrefix 12 = .ok (.astore_n 3, 1) := by decide +kernel
theorem dL_longestPrefix_13 : decode cL_longestPrefix 13 = .ok (.iconst 1, 1) := by decide +kernel
theorem dL_longestPrefix_14 : decode cL_longestPrefix 14 = .ok (.ireturn, 1) := by decide +kernel
theorem dL_longestPrefix_15 : decode cL_longestPrefix 15 = .ok (.astore_n 3, 1) := by decide +kernel
theorem dL_longestPrefix_16 : decode cL_longestPrefix 16 = .ok (.iconst 2, 1) := by decide +kernel
theorem dL_longestPrefix_17 : decode cL_longestPrefix 17 = .ok (.ireturn, 1) := by decide +kernel
theorem dL_longestPrefix_18 : decode cL_longestPrefix 18 = .ok (.iconst 0, 1) := by decide +kernel
theorem dL_longestPrefix_19 : decode cL_longestPrefix 19 = .ok (.ireturn, 1) := by decide +kernel
theorem dL_acceptsWord_0 : decode cL_acceptsWord 0 = .ok (.aload_n 3, 1) := by decide +kernel
theorem dL_acceptsWord_1 : decode cL_acceptsWord 1 = .ok (.iconst 0, 1) := by decide +kernel
theorem dL_acceptsWord_2 : decode cL_acceptsWord 2 = .ok (.aload_n 0, 1) := by decide +kernel
theorem dL_acceptsWord_3 : decode cL_acceptsWord 3 = .ok (.iload_n 1, 1) := by decide +kernel
theorem dL_acceptsWord_4 : decode cL_acceptsWord 4 = .ok (.iload_n 2, 1) := by decide +kernel
theorem dL_acceptsWord_5 : decode cL_acceptsWord 5 = .ok (.invokevirtual 72, 3) := by decide +kernel
theorem dL_acceptsWord_8 : decode cL_acceptsWord 8 = .ok (.ifCond .eq 7, 3) := by decide +kernel
theorem dL_acceptsWord_11 : decode cL_acceptsWord 11 = .ok (.lconst 1, 1) := by decide +kernel
theorem dL_acceptsWord_12 : decode cL_acceptsWord 12 = .ok (.goto 4, 3) := by decide +kernel
theorem dL_acceptsWord_15 : decode cL_acceptsWord 15 = .ok (.lconst 0, 1) := by decide +kernel
theorem dL_acceptsWord_16 : decode cL_acceptsWord 16 = .ok (.lastore, 1) := by decide +kernel
theorem dL_acceptsWord_17 : decode cL_acceptsWord 17 = .ok (.goto 11, 3) := by decide +kernel
theorem dL_acceptsWord_20 : decode cL_acceptsWord 20 = .ok (.astore 4, 2) := by decide +kernel
theorem dL_acceptsWord_22 : decode cL_acceptsWord 22 = .ok (.iconst 1, 1) := by decide +kernel
theorem dL_acceptsWord_23 : decode cL_acceptsWord 23 = .ok (.ireturn, 1) := by decide +kernel
theorem dL_acceptsWord_24 : decode cL_acceptsWord 24 = .ok (.astore 4, 2) := by decide +kernel
theorem dL_acceptsWord_26 : decode cL_acceptsWord 26 = .ok (.iconst 2, 1) := by decide +kernel
theorem dL_acceptsWord_27 : decode cL_acceptsWord 27 = .ok (.ireturn, 1) := by decide +kernel
theorem dL_acceptsWord_28 : decode cL_acceptsWord 28 = .ok (.iconst 0, 1) := by decide +kernel
theorem dL_acceptsWord_29 : decode cL_acceptsWord 29 = .ok (.ireturn, 1) := by decide +kernel
theorem dL_acceptedWords_0 : decode cL_acceptedWords 0 = .ok (.aload_n 2, 1) := by decide +kernel
theorem dL_acceptedWords_1 : decode cL_acceptedWords 1 = .ok (.iconst 0, 1) := by decide +kernel
theorem dL_acceptedWords_2 : decode cL_acceptedWords 2 = .ok (.aload_n 0, 1) := by decide +kernel
theorem dL_acceptedWords_3 : decode cL_acceptedWords 3 = .ok (.iload_n 1, 1) := by decide +kernel
theorem dL_acceptedWords_4 : decode cL_acceptedWords 4 = .ok (.invokevirtual 76, 3) := by decide +kernel
theorem dL_acceptedWords_7 : decode cL_acceptedWords 7 = .ok (.i2l, 1) := by decide +kernel
theorem dL_acceptedWords_8 : decode cL_acceptedWords 8 = .ok (.lastore, 1) := by decide +kernel
theorem dL_acceptedWords_9 : decode cL_acceptedWords 9 = .ok (.goto 6, 3) := by decide +kernel
theorem dL_acceptedWords_12 : decode cL_acceptedWords 12 = .ok (.astore_n 3, 1) := by decide +kernel
theorem dL_acceptedWords_13 : decode cL_acceptedWords 13 = .ok (.iconst 1, 1) := by decide +kernel
theorem dL_acceptedWords_14 : decode cL_acceptedWords 14 = .ok (.ireturn, 1) := by decide +kernel
theorem dL_acceptedWords_15 : decode cL_acceptedWords 15 = .ok (.iconst 0, 1) := by decide +kernel
theorem dL_acceptedWords_16 : decode cL_acceptedWords 16 = .ok (.ireturn, 1) := by decide +kernel
theorem dL_countWords_0 : decode cL_countWords 0 = .ok (.aload_n 3, 1) := by decide +kernel
theorem dL_countWords_1 : decode cL_countWords 1 = .ok (.iconst 0, 1) := by decide +kernel
theorem dL_countWords_2 : decode cL_countWords 2 = .ok (.aload_n 0, 1) := by decide +kernel
theorem dL_countWords_3 : decode cL_countWords 3 = .ok (.iload_n 1, 1) := by decide +kernel
theorem dL_countWords_4 : decode cL_countWords 4 = .ok (.iload_n 2, 1) := by decide +kernel
theorem dL_countWords_5 : decode cL_countWords 5 = .ok (.invokevirtual 79, 3) := by decide +kernel
theorem dL_countWords_8 : decode cL_countWords 8 = .ok (.i2l, 1) := by decide +kernel
theorem dL_countWords_9 : decode cL_countWords 9 = .ok (.lastore, 1) := by decide +kernel
theorem dL_countWords_10 : decode cL_countWords 10 = .ok (.goto 11, 3) := by decide +kernel
theorem dL_countWords_13 : decode cL_countWords 13 = .ok (.astore 4, 2) := by decide +kernel
theorem dL_countWords_15 : decode cL_countWords 15 = .ok (.iconst 1, 1) := by decide +kernel
theorem dL_countWords_16 : decode cL_countWords 16 = .ok (.ireturn, 1) := by decide +kernel
theorem dL_countWords_17 : decode cL_countWords 17 = .ok (.astore 4, 2) := by decide +kernel
theorem dL_countWords_19 : decode cL_countWords 19 = .ok (.iconst 2, 1) := by decide +kernel
theorem dL_countWords_20 : decode cL_countWords 20 = .ok (.ireturn, 1) := by decide +kernel
theorem dL_countWords_21 : decode cL_countWords 21 = .ok (.iconst 0, 1) := by decide +kernel
theorem dL_countWords_22 : decode cL_countWords 22 = .ok (.ireturn, 1) := by decide +kernel
theorem dL_countWordsByListing_0 : decode cL_countWordsByListing 0 = .ok (.aload_n 3, 1) := by decide +kernel
theorem dL_countWordsByListing_1 : decode cL_countWordsByListing 1 = .ok (.iconst 0, 1) := by decide +kernel
theorem dL_countWordsByListing_2 : decode cL_countWordsByListing 2 = .ok (.aload_n 0, 1) := by decide +kernel
theorem dL_countWordsByListing_3 : decode cL_countWordsByListing 3 = .ok (.iload_n 1, 1) := by decide +kernel
theorem dL_countWordsByListing_4 : decode cL_countWordsByListing 4 = .ok (.iload_n 2, 1) := by decide +kernel
theorem dL_countWordsByListing_5 : decode cL_countWordsByListing 5 = .ok (.invokevirtual 82, 3) := by decide +kernel
theorem dL_countWordsByListing_8 : decode cL_countWordsByListing 8 = .ok (.i2l, 1) := by decide +kernel
theorem dL_countWordsByListing_9 : decode cL_countWordsByListing 9 = .ok (.lastore, 1) := by decide +kernel
theorem dL_countWordsByListing_10 : decode cL_countWordsByListing 10 = .ok (.goto 11, 3) := by decide +kernel
theorem dL_countWordsByListing_13 : decode cL_countWordsByListing 13 = .ok (.astore 4, 2) := by decide +kernel
theorem dL_countWordsByListing_15 : decode cL_countWordsByListing 15 = .ok (.iconst 1, 1) := by decide +kernel
theorem dL_countWordsByListing_16 : decode cL_countWordsByListing 16 = .ok (.ireturn, 1) := by decide +kernel
theorem dL_countWordsByListing_17 : decode cL_countWordsByListing 17 = .ok (.astore 4, 2) := by decide +kernel
theorem dL_countWordsByListing_19 : decode cL_countWordsByListing 19 = .ok (.iconst 2, 1) := by decide +kernel
theorem dL_countWordsByListing_20 : decode cL_countWordsByListing 20 = .ok (.ireturn, 1) := by decide +kernel
theorem dL_countWordsByListing_21 : decode cL_countWordsByListing 21 = .ok (.iconst 0, 1) := by decide +kernel
theorem dL_countWordsByListing_22 : decode cL_countWordsByListing 22 = .ok (.ireturn, 1) := by decide +kernel
theorem dL_shortestLength_0 : decode cL_shortestLength 0 = .ok (.aload_n 2, 1) := by decide +kernel
theorem dL_shortestLength_1 : decode cL_shortestLength 1 = .ok (.iconst 0, 1) := by decide +kernel
theorem dL_shortestLength_2 : decode cL_shortestLength 2 = .ok (.aload_n 0, 1) := by decide +kernel
theorem dL_shortestLength_3 : decode cL_shortestLength 3 = .ok (.iload_n 1, 1) := by decide +kernel
theorem dL_shortestLength_4 : decode cL_shortestLength 4 = .ok (.invokevirtual 85, 3) := by decide +kernel
theorem dL_shortestLength_7 : decode cL_shortestLength 7 = .ok (.i2l, 1) := by decide +kernel
theorem dL_shortestLength_8 : decode cL_shortestLength 8 = .ok (.lastore, 1) := by decide +kernel
theorem dL_shortestLength_9 : decode cL_shortestLength 9 = .ok (.goto 6, 3) := by decide +kernel
theorem dL_shortestLength_12 : decode cL_shortestLength 12 = .ok (.astore_n 3, 1) := by decide +kernel
theorem dL_shortestLength_13 : decode cL_shortestLength 13 = .ok (.iconst 1, 1) := by decide +kernel
theorem dL_shortestLength_14 : decode cL_shortestLength 14 = .ok (.ireturn, 1) := by decide +kernel
theorem dL_shortestLength_15 : decode cL_shortestLength 15 = .ok (.iconst 0, 1) := by decide +kernel
theorem dL_shortestLength_16 : decode cL_shortestLength 16 = .ok (.ireturn, 1) := by decide +kernel
theorem dL_stateCount_0 : decode cL_stateCount 0 = .ok (.aload_n 2, 1) := by decide +kernel
theorem dL_stateCount_1 : decode cL_stateCount 1 = .ok (.iconst 0, 1) := by decide +kernel
theorem dL_stateCount_2 : decode cL_stateCount 2 = .ok (.aload_n 0, 1) := by decide +kernel
theorem dL_stateCount_3 : decode cL_stateCount 3 = .ok (.iload_n 1, 1) := by decide +kernel
theorem dL_stateCount_4 : decode cL_stateCount 4 = .ok (.invokevirtual 88, 3) := by decide +kernel
theorem dL_stateCount_7 : decode cL_stateCount 7 = .ok (.i2l, 1) := by decide +kernel
theorem dL_stateCount_8 : decode cL_stateCount 8 = .ok (.lastore, 1) := by decide +kernel
theorem dL_stateCount_9 : decode cL_stateCount 9 = .ok (.goto 6, 3) := by decide +kernel
theorem dL_stateCount_12 : decode cL_stateCount 12 = .ok (.astore_n 3, 1) := by decide +kernel
theorem dL_stateCount_13 : decode cL_stateCount 13 = .ok (.iconst 1, 1) := by decide +kernel
theorem dL_stateCount_14 : decode cL_stateCount 14 = .ok (.ireturn, 1) := by decide +kernel
theorem dL_stateCount_15 : decode cL_stateCount 15 = .ok (.iconst 0, 1) := by decide +kernel
theorem dL_stateCount_16 : decode cL_stateCount 16 = .ok (.ireturn, 1) := by decide +kernel
theorem dL_acceptingCount_0 : decode cL_acceptingCount 0 = .ok (.aload_n 2, 1) := by decide +kernel
theorem dL_acceptingCount_1 : decode cL_acceptingCount 1 = .ok (.iconst 0, 1) := by decide +kernel
theorem dL_acceptingCount_2 : decode cL_acceptingCount 2 = .ok (.aload_n 0, 1) := by decide +kernel
theorem dL_acceptingCount_3 : decode cL_acceptingCount 3 = .ok (.iload_n 1, 1) := by decide +kernel
theorem dL_acceptingCount_4 : decode cL_acceptingCount 4 = .ok (.invokevirtual 91, 3) := by decide +kernel
theorem dL_acceptingCount_7 : decode cL_acceptingCount 7 = .ok (.i2l, 1) := by decide +kernel
theorem dL_acceptingCount_8 : decode cL_acceptingCount 8 = .ok (.lastore, 1) := by decide +kernel
theorem dL_acceptingCount_9 : decode cL_acceptingCount 9 = .ok (.goto 6, 3) := by decide +kernel
theorem dL_acceptingCount_12 : decode cL_acceptingCount 12 = .ok (.astore_n 3, 1) := by decide +kernel
theorem dL_acceptingCount_13 : decode cL_acceptingCount 13 = .ok (.iconst 1, 1) := by decide +kernel
theorem dL_acceptingCount_14 : decode cL_acceptingCount 14 = .ok (.ireturn, 1) := by decide +kernel
theorem dL_acceptingCount_15 : decode cL_acceptingCount 15 = .ok (.iconst 0, 1) := by decide +kernel
theorem dL_acceptingCount_16 : decode cL_acceptingCount 16 = .ok (.ireturn, 1) := by decide +kernel
theorem dL_smallestCount_0 : decode cL_smallestCount 0 = .ok (.aload_n 2, 1) := by decide +kernel
theorem dL_smallestCount_1 : decode cL_smallestCount 1 = .ok (.iconst 0, 1) := by decide +kernel
theorem dL_smallestCount_2 : decode cL_smallestCount 2 = .ok (.aload_n 0, 1) := by decide +kernel
theorem dL_smallestCount_3 : decode cL_smallestCount 3 = .ok (.iload_n 1, 1) := by decide +kernel
theorem dL_smallestCount_4 : decode cL_smallestCount 4 = .ok (.invokevirtual 94, 3) := by decide +kernel
theorem dL_smallestCount_7 : decode cL_smallestCount 7 = .ok (.i2l, 1) := by decide +kernel
theorem dL_smallestCount_8 : decode cL_smallestCount 8 = .ok (.lastore, 1) := by decide +kernel
theorem dL_smallestCount_9 : decode cL_smallestCount 9 = .ok (.goto 6, 3) := by decide +kernel
theorem dL_smallestCount_12 : decode cL_smallestCount 12 = .ok (.astore_n 3, 1) := by decide +kernel
theorem dL_smallestCount_13 : decode cL_smallestCount 13 = .ok (.iconst 1, 1) := by decide +kernel
theorem dL_smallestCount_14 : decode cL_smallestCount 14 = .ok (.ireturn, 1) := by decide +kernel
theorem dL_smallestCount_15 : decode cL_smallestCount 15 = .ok (.iconst 0, 1) := by decide +kernel
theorem dL_smallestCount_16 : decode cL_smallestCount 16 = .ok (.ireturn, 1) := by decide +kernel
theorem dL_smallestCountByPairs_0 : decode cL_smallestCountByPairs 0 = .ok (.aload_n 2, 1) := by decide +kernel
theorem dL_smallestCountByPairs_1 : decode cL_smallestCountByPairs 1 = .ok (.iconst 0, 1) := by decide +kernel
theorem dL_smallestCountByPairs_2 : decode cL_smallestCountByPairs 2 = .ok (.aload_n 0, 1) := by decide +kernel
theorem dL_smallestCountByPairs_3 : decode cL_smallestCountByPairs 3 = .ok (.iload_n 1, 1) := by decide +kernel
theorem dL_smallestCountByPairs_4 : decode cL_smallestCountByPairs 4 = .ok (.invokevirtual 97, 3) := by decide +kernel
theorem dL_smallestCountByPairs_7 : decode cL_smallestCountByPairs 7 = .ok (.i2l, 1) := by decide +kernel
theorem dL_smallestCountByPairs_8 : decode cL_smallestCountByPairs 8 = .ok (.lastore, 1) := by decide +kernel
theorem dL_smallestCountByPairs_9 : decode cL_smallestCountByPairs 9 = .ok (.goto 6, 3) := by decide +kernel
theorem dL_smallestCountByPairs_12 : decode cL_smallestCountByPairs 12 = .ok (.astore_n 3, 1) := by decide +kernel
theorem dL_smallestCountByPairs_13 : decode cL_smallestCountByPairs 13 = .ok (.iconst 1, 1) := by decide +kernel
theorem dL_smallestCountByPairs_14 : decode cL_smallestCountByPairs 14 = .ok (.ireturn, 1) := by decide +kernel
theorem dL_smallestCountByPairs_15 : decode cL_smallestCountByPairs 15 = .ok (.iconst 0, 1) := by decide +kernel
theorem dL_smallestCountByPairs_16 : decode cL_smallestCountByPairs 16 = .ok (.ireturn, 1) := by decide +kernel
theorem dL_isFinite_0 : decode cL_isFinite 0 = .ok (.aload_n 2, 1) := by decide +kernel
theorem dL_isFinite_1 : decode cL_isFinite 1 = .ok (.iconst 0, 1) := by decide +kernel
theorem dL_isFinite_2 : decode cL_isFinite 2 = .ok (.aload_n 0, 1) := by decide +kernel
theorem dL_isFinite_3 : decode cL_isFinite 3 = .ok (.iload_n 1, 1) := by decide +kernel
theorem dL_isFinite_4 : decode cL_isFinite 4 = .ok (.invokevirtual 100, 3) := by decide +kernel
theorem dL_isFinite_7 : decode cL_isFinite 7 = .ok (.ifCond .eq 7, 3) := by decide +kernel
theorem dL_isFinite_10 : decode cL_isFinite 10 = .ok (.lconst 1, 1) := by decide +kernel
theorem dL_isFinite_11 : decode cL_isFinite 11 = .ok (.goto 4, 3) := by decide +kernel
theorem dL_isFinite_14 : decode cL_isFinite 14 = .ok (.lconst 0, 1) := by decide +kernel
theorem dL_isFinite_15 : decode cL_isFinite 15 = .ok (.lastore, 1) := by decide +kernel
theorem dL_isFinite_16 : decode cL_isFinite 16 = .ok (.goto 6, 3) := by decide +kernel
theorem dL_isFinite_19 : decode cL_isFinite 19 = .ok (.astore_n 3, 1) := by decide +kernel
theorem dL_isFinite_20 : decode cL_isFinite 20 = .ok (.iconst 1, 1) := by decide +kernel
theorem dL_isFinite_21 : decode cL_isFinite 21 = .ok (.ireturn, 1) := by decide +kernel
theorem dL_isFinite_22 : decode cL_isFinite 22 = .ok (.iconst 0, 1) := by decide +kernel
theorem dL_isFinite_23 : decode cL_isFinite 23 = .ok (.ireturn, 1) := by decide +kernel
theorem dL_isUniversal_0 : decode cL_isUniversal 0 = .ok (.aload_n 2, 1) := by decide +kernel
theorem dL_isUniversal_1 : decode cL_isUniversal 1 = .ok (.iconst 0, 1) := by decide +kernel
theorem dL_isUniversal_2 : decode cL_isUniversal 2 = .ok (.aload_n 0, 1) := by decide +kernel
theorem dL_isUniversal_3 : decode cL_isUniversal 3 = .ok (.iload_n 1, 1) := by decide +kernel
theorem dL_isUniversal_4 : decode cL_isUniversal 4 = .ok (.invokevirtual 103, 3) := by decide +kernel
theorem dL_isUniversal_7 : decode cL_isUniversal 7 = .ok (.ifCond .eq 7, 3) := by decide +kernel
theorem dL_isUniversal_10 : decode cL_isUniversal 10 = .ok (.lconst 1, 1) := by decide +kernel
theorem dL_isUniversal_11 : decode cL_isUniversal 11 = .ok (.goto 4, 3) := by decide +kernel
theorem dL_isUniversal_14 : decode cL_isUniversal 14 = .ok (.lconst 0, 1) := by decide +kernel
theorem dL_isUniversal_15 : decode cL_isUniversal 15 = .ok (.lastore, 1) := by decide +kernel
theorem dL_isUniversal_16 : decode cL_isUniversal 16 = .ok (.goto 6, 3) := by decide +kernel
theorem dL_isUniversal_19 : decode cL_isUniversal 19 = .ok (.astore_n 3, 1) := by decide +kernel
theorem dL_isUniversal_20 : decode cL_isUniversal 20 = .ok (.iconst 1, 1) := by decide +kernel
theorem dL_isUniversal_21 : decode cL_isUniversal 21 = .ok (.ireturn, 1) := by decide +kernel
theorem dL_isUniversal_22 : decode cL_isUniversal 22 = .ok (.iconst 0, 1) := by decide +kernel
theorem dL_isUniversal_23 : decode cL_isUniversal 23 = .ok (.ireturn, 1) := by decide +kernel
theorem dL_areEquivalent_0 : decode cL_areEquivalent 0 = .ok (.aload_n 3, 1) := by decide +kernel
theorem dL_areEquivalent_1 : decode cL_areEquivalent 1 = .ok (.iconst 0, 1) := by decide +kernel
theorem dL_areEquivalent_2 : decode cL_areEquivalent 2 = .ok (.aload_n 0, 1) := by decide +kernel
theorem dL_areEquivalent_3 : decode cL_areEquivalent 3 = .ok (.iload_n 1, 1) := by decide +kernel
theorem dL_areEquivalent_4 : decode cL_areEquivalent 4 = .ok (.iload_n 2, 1) := by decide +kernel
theorem dL_areEquivalent_5 : decode cL_areEquivalent 5 = .ok (.invokevirtual 106, 3) := by decide +kernel
theorem dL_areEquivalent_8 : decode cL_areEquivalent 8 = .ok (.ifCond .eq 7, 3) := by decide +kernel
theorem dL_areEquivalent_11 : decode cL_areEquivalent 11 = .ok (.lconst 1, 1) := by decide +kernel
theorem dL_areEquivalent_12 : decode cL_areEquivalent 12 = .ok (.goto 4, 3) := by decide +kernel
theorem dL_areEquivalent_15 : decode cL_areEquivalent 15 = .ok (.lconst 0, 1) := by decide +kernel
theorem dL_areEquivalent_16 : decode cL_areEquivalent 16 = .ok (.lastore, 1) := by decide +kernel
theorem dL_areEquivalent_17 : decode cL_areEquivalent 17 = .ok (.goto 7, 3) := by decide +kernel
theorem dL_areEquivalent_20 : decode cL_areEquivalent 20 = .ok (.astore 4, 2) := by decide +kernel
theorem dL_areEquivalent_22 : decode cL_areEquivalent 22 = .ok (.iconst 1, 1) := by decide +kernel
theorem dL_areEquivalent_23 : decode cL_areEquivalent 23 = .ok (.ireturn, 1) := by decide +kernel
theorem dL_areEquivalent_24 : decode cL_areEquivalent 24 = .ok (.iconst 0, 1) := by decide +kernel
theorem dL_areEquivalent_25 : decode cL_areEquivalent 25 = .ok (.ireturn, 1) := by decide +kernel
theorem dL_areEquivalentBySmallest_0 : decode cL_areEquivalentBySmallest 0 = .ok (.aload_n 3, 1) := by decide +kernel
theorem dL_areEquivalentBySmallest_1 : decode cL_areEquivalentBySmallest 1 = .ok (.iconst 0, 1) := by decide +kernel
theorem dL_areEquivalentBySmallest_2 : decode cL_areEquivalentBySmallest 2 = .ok (.aload_n 0, 1) := by decide +kernel
theorem dL_areEquivalentBySmallest_3 : decode cL_areEquivalentBySmallest 3 = .ok (.iload_n 1, 1) := by decide +kernel
theorem dL_areEquivalentBySmallest_4 : decode cL_areEquivalentBySmallest 4 = .ok (.iload_n 2, 1) := by decide +kernel
theorem dL_areEquivalentBySmallest_5 : decode cL_areEquivalentBySmallest 5 = .ok (.invokevirtual 109, 3) := by decide +kernel
theorem dL_areEquivalentBySmallest_8 : decode cL_areEquivalentBySmallest 8 = .ok (.ifCond .eq 7, 3) := by decide +kernel
theorem dL_areEquivalentBySmallest_11 : decode cL_areEquivalentBySmallest 11 = .ok (.lconst 1, 1) := by decide +kernel
theorem dL_areEquivalentBySmallest_12 : decode cL_areEquivalentBySmallest 12 = .ok (.goto 4, 3) := by decide +kernel
theorem dL_areEquivalentBySmallest_15 : decode cL_areEquivalentBySmallest 15 = .ok (.lconst 0, 1) := by decide +kernel
theorem dL_areEquivalentBySmallest_16 : decode cL_areEquivalentBySmallest 16 = .ok (.lastore, 1) := by decide +kernel
theorem dL_areEquivalentBySmallest_17 : decode cL_areEquivalentBySmallest 17 = .ok (.goto 7, 3) := by decide +kernel
theorem dL_areEquivalentBySmallest_20 : decode cL_areEquivalentBySmallest 20 = .ok (.astore 4, 2) := by decide +kernel
theorem dL_areEquivalentBySmallest_22 : decode cL_areEquivalentBySmallest 22 = .ok (.iconst 1, 1) := by decide +kernel
theorem dL_areEquivalentBySmallest_23 : decode cL_areEquivalentBySmallest 23 = .ok (.ireturn, 1) := by decide +kernel
theorem dL_areEquivalentBySmallest_24 : decode cL_areEquivalentBySmallest 24 = .ok (.iconst 0, 1) := by decide +kernel
theorem dL_areEquivalentBySmallest_25 : decode cL_areEquivalentBySmallest 25 = .ok (.ireturn, 1) := by decide +kernel
theorem dL_isIncluded_0 : decode cL_isIncluded 0 = .ok (.aload_n 3, 1) := by decide +kernel
theorem dL_isIncluded_1 : decode cL_isIncluded 1 = .ok (.iconst 0, 1) := by decide +kernel
theorem dL_isIncluded_2 : decode cL_isIncluded 2 = .ok (.aload_n 0, 1) := by decide +kernel
theorem dL_isIncluded_3 : decode cL_isIncluded 3 = .ok (.iload_n 1, 1) := by decide +kernel
theorem dL_isIncluded_4 : decode cL_isIncluded 4 = .ok (.iload_n 2, 1) := by decide +kernel
theorem dL_isIncluded_5 : decode cL_isIncluded 5 = .ok (.invokevirtual 112, 3) := by decide +kernel
theorem dL_isIncluded_8 : decode cL_isIncluded 8 = .ok (.ifCond .eq 7, 3) := by decide +kernel
theorem dL_isIncluded_11 : decode cL_isIncluded 11 = .ok (.lconst 1, 1) := by decide +kernel
theorem dL_isIncluded_12 : decode cL_isIncluded 12 = .ok (.goto 4, 3) := by decide +kernel
theorem dL_isIncluded_15 : decode cL_isIncluded 15 = .ok (.lconst 0, 1) := by decide +kernel
theorem dL_isIncluded_16 : decode cL_isIncluded 16 = .ok (.lastore, 1) := by decide +kernel
theorem dL_isIncluded_17 : decode cL_isIncluded 17 = .ok (.goto 7, 3) := by decide +kernel
theorem dL_isIncluded_20 : decode cL_isIncluded 20 = .ok (.astore 4, 2) := by decide +kernel
theorem dL_isIncluded_22 : decode cL_isIncluded 22 = .ok (.iconst 1, 1) := by decide +kernel
theorem dL_isIncluded_23 : decode cL_isIncluded 23 = .ok (.ireturn, 1) := by decide +kernel
theorem dL_isIncluded_24 : decode cL_isIncluded 24 = .ok (.iconst 0, 1) := by decide +kernel
theorem dL_isIncluded_25 : decode cL_isIncluded 25 = .ok (.ireturn, 1) := by decide +kernel
theorem dL_differenceLength_0 : decode cL_differenceLength 0 = .ok (.aload_n 3, 1) := by decide +kernel
theorem dL_differenceLength_1 : decode cL_differenceLength 1 = .ok (.iconst 0, 1) := by decide +kernel
theorem dL_differenceLength_2 : decode cL_differenceLength 2 = .ok (.aload_n 0, 1) := by decide +kernel
theorem dL_differenceLength_3 : decode cL_differenceLength 3 = .ok (.iload_n 1, 1) := by decide +kernel
theorem dL_differenceLength_4 : decode cL_differenceLength 4 = .ok (.iload_n 2, 1) := by decide +kernel
theorem dL_differenceLength_5 : decode cL_differenceLength 5 = .ok (.invokevirtual 115, 3) := by decide +kernel
theorem dL_differenceLength_8 : decode cL_differenceLength 8 = .ok (.i2l, 1) := by decide +kernel
theorem dL_differenceLength_9 : decode cL_differenceLength 9 = .ok (.lastore, 1) := by decide +kernel
theorem dL_differenceLength_10 : decode cL_differenceLength 10 = .ok (.goto 7, 3) := by decide +kernel
theorem dL_differenceLength_13 : decode cL_differenceLength 13 = .ok (.astore 4, 2) := by decide +kernel
theorem dL_differenceLength_15 : decode cL_differenceLength 15 = .ok (.iconst 1, 1) := by decide +kernel
theorem dL_differenceLength_16 : decode cL_differenceLength 16 = .ok (.ireturn, 1) := by decide +kernel
theorem dL_differenceLength_17 : decode cL_differenceLength 17 = .ok (.iconst 0, 1) := by decide +kernel
theorem dL_differenceLength_18 : decode cL_differenceLength 18 = .ok (.ireturn, 1) := by decide +kernel
theorem dL_slotByStates_0 : decode cL_slotByStates 0 = .ok (.aload_n 2, 1) := by decide +kernel
theorem dL_slotByStates_1 : decode cL_slotByStates 1 = .ok (.iconst 0, 1) := by decide +kernel
theorem dL_slotByStates_2 : decode cL_slotByStates 2 = .ok (.aload_n 0, 1) := by decide +kernel
theorem dL_slotByStates_3 : decode cL_slotByStates 3 = .ok (.iload_n 1, 1) := by decide +kernel
theorem dL_slotByStates_4 : decode cL_slotByStates 4 = .ok (.invokevirtual 118, 3) := by decide +kernel
theorem dL_slotByStates_7 : decode cL_slotByStates 7 = .ok (.i2l, 1) := by decide +kernel
theorem dL_slotByStates_8 : decode cL_slotByStates 8 = .ok (.lastore, 1) := by decide +kernel
theorem dL_slotByStates_9 : decode cL_slotByStates 9 = .ok (.goto 6, 3) := by decide +kernel
theorem dL_slotByStates_12 : decode cL_slotByStates 12 = .ok (.astore_n 3, 1) := by decide +kernel
theorem dL_slotByStates_13 : decode cL_slotByStates 13 = .ok (.iconst 1, 1) := by decide +kernel
theorem dL_slotByStates_14 : decode cL_slotByStates 14 = .ok (.ireturn, 1) := by decide +kernel
theorem dL_slotByStates_15 : decode cL_slotByStates 15 = .ok (.iconst 0, 1) := by decide +kernel
theorem dL_slotByStates_16 : decode cL_slotByStates 16 = .ok (.ireturn, 1) := by decide +kernel
theorem dL_wordLength_0 : decode cL_wordLength 0 = .ok (.aload_n 2, 1) := by decide +kernel
theorem dL_wordLength_1 : decode cL_wordLength 1 = .ok (.iconst 0, 1) := by decide +kernel
theorem dL_wordLength_2 : decode cL_wordLength 2 = .ok (.aload_n 0, 1) := by decide +kernel
theorem dL_wordLength_3 : decode cL_wordLength 3 = .ok (.iload_n 1, 1) := by decide +kernel
theorem dL_wordLength_4 : decode cL_wordLength 4 = .ok (.invokevirtual 121, 3) := by decide +kernel
theorem dL_wordLength_7 : decode cL_wordLength 7 = .ok (.i2l, 1) := by decide +kernel
theorem dL_wordLength_8 : decode cL_wordLength 8 = .ok (.lastore, 1) := by decide +kernel
theorem dL_wordLength_9 : decode cL_wordLength 9 = .ok (.goto 6, 3) := by decide +kernel
theorem dL_wordLength_12 : decode cL_wordLength 12 = .ok (.astore_n 3, 1) := by decide +kernel
theorem dL_wordLength_13 : decode cL_wordLength 13 = .ok (.iconst 1, 1) := by decide +kernel
theorem dL_wordLength_14 : decode cL_wordLength 14 = .ok (.ireturn, 1) := by decide +kernel
theorem dL_wordLength_15 : decode cL_wordLength 15 = .ok (.iconst 0, 1) := by decide +kernel
theorem dL_wordLength_16 : decode cL_wordLength 16 = .ok (.ireturn, 1) := by decide +kernel
theorem dL_wordLetter_0 : decode cL_wordLetter 0 = .ok (.aload_n 3, 1) := by decide +kernel
theorem dL_wordLetter_1 : decode cL_wordLetter 1 = .ok (.iconst 0, 1) := by decide +kernel
theorem dL_wordLetter_2 : decode cL_wordLetter 2 = .ok (.aload_n 0, 1) := by decide +kernel
theorem dL_wordLetter_3 : decode cL_wordLetter 3 = .ok (.iload_n 1, 1) := by decide +kernel
theorem dL_wordLetter_4 : decode cL_wordLetter 4 = .ok (.iload_n 2, 1) := by decide +kernel
theorem dL_wordLetter_5 : decode cL_wordLetter 5 = .ok (.invokevirtual 124, 3) := by decide +kernel
theorem dL_wordLetter_8 : decode cL_wordLetter 8 = .ok (.i2l, 1) := by decide +kernel
theorem dL_wordLetter_9 : decode cL_wordLetter 9 = .ok (.lastore, 1) := by decide +kernel
theorem dL_wordLetter_10 : decode cL_wordLetter 10 = .ok (.goto 7, 3) := by decide +kernel
theorem dL_wordLetter_13 : decode cL_wordLetter 13 = .ok (.astore 4, 2) := by decide +kernel
theorem dL_wordLetter_15 : decode cL_wordLetter 15 = .ok (.iconst 1, 1) := by decide +kernel
theorem dL_wordLetter_16 : decode cL_wordLetter 16 = .ok (.ireturn, 1) := by decide +kernel
theorem dL_wordLetter_17 : decode cL_wordLetter 17 = .ok (.iconst 0, 1) := by decide +kernel
theorem dL_wordLetter_18 : decode cL_wordLetter 18 = .ok (.ireturn, 1) := by decide +kernel
theorem dL_meanLetters_0 : decode cL_meanLetters 0 = .ok (.aload_n 1, 1) := by decide +kernel
theorem dL_meanLetters_1 : decode cL_meanLetters 1 = .ok (.iconst 0, 1) := by decide +kernel
theorem dL_meanLetters_2 : decode cL_meanLetters 2 = .ok (.aload_n 0, 1) := by decide +kernel
theorem dL_meanLetters_3 : decode cL_meanLetters 3 = .ok (.invokevirtual 128, 3) := by decide +kernel
theorem dL_meanLetters_6 : decode cL_meanLetters 6 = .ok (.dastore, 1) := by decide +kernel
theorem dL_meanLetters_7 : decode cL_meanLetters 7 = .ok (.goto 6, 3) := by decide +kernel
theorem dL_meanLetters_10 : decode cL_meanLetters 10 = .ok (.astore_n 2, 1) := by decide +kernel
theorem dL_meanLetters_11 : decode cL_meanLetters 11 = .ok (.iconst 1, 1) := by decide +kernel
theorem dL_meanLetters_12 : decode cL_meanLetters 12 = .ok (.ireturn, 1) := by decide +kernel
theorem dL_meanLetters_13 : decode cL_meanLetters 13 = .ok (.iconst 0, 1) := by decide +kernel
theorem dL_meanLetters_14 : decode cL_meanLetters 14 = .ok (.ireturn, 1) := by decide +kernel
theorem dL_acceptedShare_0 : decode cL_acceptedShare 0 = .ok (.aload_n 2, 1) := by decide +kernel
theorem dL_acceptedShare_1 : decode cL_acceptedShare 1 = .ok (.iconst 0, 1) := by decide +kernel
theorem dL_acceptedShare_2 : decode cL_acceptedShare 2 = .ok (.aload_n 0, 1) := by decide +kernel
theorem dL_acceptedShare_3 : decode cL_acceptedShare 3 = .ok (.iload_n 1, 1) := by decide +kernel
theorem dL_acceptedShare_4 : decode cL_acceptedShare 4 = .ok (.invokevirtual 134, 3) := by decide +kernel
theorem dL_acceptedShare_7 : decode cL_acceptedShare 7 = .ok (.f2d, 1) := by decide +kernel
theorem dL_acceptedShare_8 : decode cL_acceptedShare 8 = .ok (.dastore, 1) := by decide +kernel
theorem dL_acceptedShare_9 : decode cL_acceptedShare 9 = .ok (.goto 9, 3) := by decide +kernel
theorem dL_acceptedShare_12 : decode cL_acceptedShare 12 = .ok (.astore_n 3, 1) := by decide +kernel
theorem dL_acceptedShare_13 : decode cL_acceptedShare 13 = .ok (.iconst 1, 1) := by decide +kernel
theorem dL_acceptedShare_14 : decode cL_acceptedShare 14 = .ok (.ireturn, 1) := by decide +kernel
theorem dL_acceptedShare_15 : decode cL_acceptedShare 15 = .ok (.astore_n 3, 1) := by decide +kernel
theorem dL_acceptedShare_16 : decode cL_acceptedShare 16 = .ok (.iconst 2, 1) := by decide +kernel
theorem dL_acceptedShare_17 : decode cL_acceptedShare 17 = .ok (.ireturn, 1) := by decide +kernel
theorem dL_acceptedShare_18 : decode cL_acceptedShare 18 = .ok (.iconst 0, 1) := by decide +kernel
theorem dL_acceptedShare_19 : decode cL_acceptedShare 19 = .ok (.ireturn, 1) := by decide +kernel
theorem dL_formatPattern_0 : decode cL_formatPattern 0 = .ok (.aload_n 2, 1) := by decide +kernel
theorem dL_formatPattern_1 : decode cL_formatPattern 1 = .ok (.iconst 0, 1) := by decide +kernel
theorem dL_formatPattern_2 : decode cL_formatPattern 2 = .ok (.aload_n 0, 1) := by decide +kernel
theorem dL_formatPattern_3 : decode cL_formatPattern 3 = .ok (.iload_n 1, 1) := by decide +kernel
theorem dL_formatPattern_4 : decode cL_formatPattern 4 = .ok (.invokevirtual 138, 3) := by decide +kernel
theorem dL_formatPattern_7 : decode cL_formatPattern 7 = .ok (.i2l, 1) := by decide +kernel
theorem dL_formatPattern_8 : decode cL_formatPattern 8 = .ok (.lastore, 1) := by decide +kernel
theorem dL_formatPattern_9 : decode cL_formatPattern 9 = .ok (.goto 6, 3) := by decide +kernel
theorem dL_formatPattern_12 : decode cL_formatPattern 12 = .ok (.astore_n 3, 1) := by decide +kernel
theorem dL_formatPattern_13 : decode cL_formatPattern 13 = .ok (.iconst 1, 1) := by decide +kernel
theorem dL_formatPattern_14 : decode cL_formatPattern 14 = .ok (.ireturn, 1) := by decide +kernel
theorem dL_formatPattern_15 : decode cL_formatPattern 15 = .ok (.iconst 0, 1) := by decide +kernel
theorem dL_formatPattern_16 : decode cL_formatPattern 16 = .ok (.ireturn, 1) := by decide +kernel
theorem dL_formatShortest_0 : decode cL_formatShortest 0 = .ok (.aload_n 2, 1) := by decide +kernel
theorem dL_formatShortest_1 : decode cL_formatShortest 1 = .ok (.iconst 0, 1) := by decide +kernel
theorem dL_formatShortest_2 : decode cL_formatShortest 2 = .ok (.aload_n 0, 1) := by decide +kernel
theorem dL_formatShortest_3 : decode cL_formatShortest 3 = .ok (.iload_n 1, 1) := by decide +kernel
theorem dL_formatShortest_4 : decode cL_formatShortest 4 = .ok (.invokevirtual 141, 3) := by decide +kernel
theorem dL_formatShortest_7 : decode cL_formatShortest 7 = .ok (.i2l, 1) := by decide +kernel
theorem dL_formatShortest_8 : decode cL_formatShortest 8 = .ok (.lastore, 1) := by decide +kernel
theorem dL_formatShortest_9 : decode cL_formatShortest 9 = .ok (.goto 6, 3) := by decide +kernel
theorem dL_formatShortest_12 : decode cL_formatShortest 12 = .ok (.astore_n 3, 1) := by decide +kernel
theorem dL_formatShortest_13 : decode cL_formatShortest 13 = .ok (.iconst 1, 1) := by decide +kernel
theorem dL_formatShortest_14 : decode cL_formatShortest 14 = .ok (.ireturn, 1) := by decide +kernel
theorem dL_formatShortest_15 : decode cL_formatShortest 15 = .ok (.iconst 0, 1) := by decide +kernel
theorem dL_formatShortest_16 : decode cL_formatShortest 16 = .ok (.ireturn, 1) := by decide +kernel
theorem dL_formatDifference_0 : decode cL_formatDifference 0 = .ok (.aload_n 3, 1) := by decide +kernel
theorem dL_formatDifference_1 : decode cL_formatDifference 1 = .ok (.iconst 0, 1) := by decide +kernel
theorem dL_formatDifference_2 : decode cL_formatDifference 2 = .ok (.aload_n 0, 1) := by decide +kernel
theorem dL_formatDifference_3 : decode cL_formatDifference 3 = .ok (.iload_n 1, 1) := by decide +kernel
theorem dL_formatDifference_4 : decode cL_formatDifference 4 = .ok (.iload_n 2, 1) := by decide +kernel
theorem dL_formatDifference_5 : decode cL_formatDifference 5 = .ok (.invokevirtual 144, 3) := by decide +kernel
theorem dL_formatDifference_8 : decode cL_formatDifference 8 = .ok (.i2l, 1) := by decide +kernel
theorem dL_formatDifference_9 : decode cL_formatDifference 9 = .ok (.lastore, 1) := by decide +kernel
theorem dL_formatDifference_10 : decode cL_formatDifference 10 = .ok (.goto 7, 3) := by decide +kernel
theorem dL_formatDifference_13 : decode cL_formatDifference 13 = .ok (.astore 4, 2) := by decide +kernel
theorem dL_formatDifference_15 : decode cL_formatDifference 15 = .ok (.iconst 1, 1) := by decide +kernel
theorem dL_formatDifference_16 : decode cL_formatDifference 16 = .ok (.ireturn, 1) := by decide +kernel
theorem dL_formatDifference_17 : decode cL_formatDifference 17 = .ok (.iconst 0, 1) := by decide +kernel
theorem dL_formatDifference_18 : decode cL_formatDifference 18 = .ok (.ireturn, 1) := by decide +kernel
theorem dL_lineChar_0 : decode cL_lineChar 0 = .ok (.aload_n 2, 1) := by decide +kernel
theorem dL_lineChar_1 : decode cL_lineChar 1 = .ok (.iconst 0, 1) := by decide +kernel
theorem dL_lineChar_2 : decode cL_lineChar 2 = .ok (.aload_n 0, 1) := by decide +kernel
theorem dL_lineChar_3 : decode cL_lineChar 3 = .ok (.iload_n 1, 1) := by decide +kernel
theorem dL_lineChar_4 : decode cL_lineChar 4 = .ok (.invokevirtual 147, 3) := by decide +kernel
theorem dL_lineChar_7 : decode cL_lineChar 7 = .ok (.i2l, 1) := by decide +kernel
theorem dL_lineChar_8 : decode cL_lineChar 8 = .ok (.lastore, 1) := by decide +kernel
theorem dL_lineChar_9 : decode cL_lineChar 9 = .ok (.goto 6, 3) := by decide +kernel
theorem dL_lineChar_12 : decode cL_lineChar 12 = .ok (.astore_n 3, 1) := by decide +kernel
theorem dL_lineChar_13 : decode cL_lineChar 13 = .ok (.iconst 1, 1) := by decide +kernel
theorem dL_lineChar_14 : decode cL_lineChar 14 = .ok (.ireturn, 1) := by decide +kernel
theorem dL_lineChar_15 : decode cL_lineChar 15 = .ok (.iconst 0, 1) := by decide +kernel
theorem dL_lineChar_16 : decode cL_lineChar 16 = .ok (.ireturn, 1) := by decide +kernel
theorem dL_append_0 : decode cL_append 0 = .ok (.aload_n 2, 1) := by decide +kernel
theorem dL_append_1 : decode cL_append 1 = .ok (.iconst 0, 1) := by decide +kernel
theorem dL_append_2 : decode cL_append 2 = .ok (.aload_n 0, 1) := by decide +kernel
theorem dL_append_3 : decode cL_append 3 = .ok (.iload_n 1, 1) := by decide +kernel
theorem dL_append_4 : decode cL_append 4 = .ok (.invokevirtual 151, 3) := by decide +kernel
theorem dL_append_7 : decode cL_append 7 = .ok (.i2l, 1) := by decide +kernel
theorem dL_append_8 : decode cL_append 8 = .ok (.lastore, 1) := by decide +kernel
theorem dL_append_9 : decode cL_append 9 = .ok (.goto 9, 3) := by decide +kernel
theorem dL_append_12 : decode cL_append 12 = .ok (.astore_n 3, 1) := by decide +kernel
theorem dL_append_13 : decode cL_append 13 = .ok (.iconst 1, 1) := by decide +kernel
theorem dL_append_14 : decode cL_append 14 = .ok (.ireturn, 1) := by decide +kernel
theorem dL_append_15 : decode cL_append 15 = .ok (.astore_n 3, 1) := by decide +kernel
theorem dL_append_16 : decode cL_append 16 = .ok (.iconst 2, 1) := by decide +kernel
theorem dL_append_17 : decode cL_append 17 = .ok (.ireturn, 1) := by decide +kernel
theorem dL_append_18 : decode cL_append 18 = .ok (.iconst 0, 1) := by decide +kernel
theorem dL_append_19 : decode cL_append 19 = .ok (.ireturn, 1) := by decide +kernel
theorem dL_run_0 : decode cL_run 0 = .ok (.aload_n 1, 1) := by decide +kernel
theorem dL_run_1 : decode cL_run 1 = .ok (.iconst 0, 1) := by decide +kernel
theorem dL_run_2 : decode cL_run 2 = .ok (.aload_n 0, 1) := by decide +kernel
theorem dL_run_3 : decode cL_run 3 = .ok (.invokevirtual 155, 3) := by decide +kernel
theorem dL_run_6 : decode cL_run 6 = .ok (.i2l, 1) := by decide +kernel
theorem dL_run_7 : decode cL_run 7 = .ok (.lastore, 1) := by decide +kernel
theorem dL_run_8 : decode cL_run 8 = .ok (.goto 9, 3) := by decide +kernel
theorem dL_run_11 : decode cL_run 11 = .ok (.astore_n 2, 1) := by decide +kernel
theorem dL_run_12 : decode cL_run 12 = .ok (.iconst 1, 1) := by decide +kernel
theorem dL_run_13 : decode cL_run 13 = .ok (.ireturn, 1) := by decide +kernel
theorem dL_run_14 : decode cL_run 14 = .ok (.astore_n 2, 1) := by decide +kernel
theorem dL_run_15 : decode cL_run 15 = .ok (.iconst 2, 1) := by decide +kernel
theorem dL_run_16 : decode cL_run 16 = .ok (.ireturn, 1) := by decide +kernel
theorem dL_run_17 : decode cL_run 17 = .ok (.iconst 0, 1) := by decide +kernel
theorem dL_run_18 : decode cL_run 18 = .ok (.ireturn, 1) := by decide +kernel
theorem dL_errorPosition_0 : decode cL_errorPosition 0 = .ok (.aload_n 1, 1) := by decide +kernel
theorem dL_errorPosition_1 : decode cL_errorPosition 1 = .ok (.iconst 0, 1) := by decide +kernel
theorem dL_errorPosition_2 : decode cL_errorPosition 2 = .ok (.aload_n 0, 1) := by decide +kernel
theorem dL_errorPosition_3 : decode cL_errorPosition 3 = .ok (.invokevirtual 158, 3) := by decide +kernel
theorem dL_errorPosition_6 : decode cL_errorPosition 6 = .ok (.i2l, 1) := by decide +kernel
theorem dL_errorPosition_7 : decode cL_errorPosition 7 = .ok (.lastore, 1) := by decide +kernel
theorem dL_errorPosition_8 : decode cL_errorPosition 8 = .ok (.goto 6, 3) := by decide +kernel
theorem dL_errorPosition_11 : decode cL_errorPosition 11 = .ok (.astore_n 2, 1) := by decide +kernel
theorem dL_errorPosition_12 : decode cL_errorPosition 12 = .ok (.iconst 1, 1) := by decide +kernel
theorem dL_errorPosition_13 : decode cL_errorPosition 13 = .ok (.ireturn, 1) := by decide +kernel
theorem dL_errorPosition_14 : decode cL_errorPosition 14 = .ok (.iconst 0, 1) := by decide +kernel
theorem dL_errorPosition_15 : decode cL_errorPosition 15 = .ok (.ireturn, 1) := by decide +kernel
theorem dL_failedCommand_0 : decode cL_failedCommand 0 = .ok (.aload_n 1, 1) := by decide +kernel
theorem dL_failedCommand_1 : decode cL_failedCommand 1 = .ok (.iconst 0, 1) := by decide +kernel
theorem dL_failedCommand_2 : decode cL_failedCommand 2 = .ok (.aload_n 0, 1) := by decide +kernel
theorem dL_failedCommand_3 : decode cL_failedCommand 3 = .ok (.invokevirtual 161, 3) := by decide +kernel
theorem dL_failedCommand_6 : decode cL_failedCommand 6 = .ok (.i2l, 1) := by decide +kernel
theorem dL_failedCommand_7 : decode cL_failedCommand 7 = .ok (.lastore, 1) := by decide +kernel
theorem dL_failedCommand_8 : decode cL_failedCommand 8 = .ok (.goto 6, 3) := by decide +kernel
theorem dL_failedCommand_11 : decode cL_failedCommand 11 = .ok (.astore_n 2, 1) := by decide +kernel
theorem dL_failedCommand_12 : decode cL_failedCommand 12 = .ok (.iconst 1, 1) := by decide +kernel
theorem dL_failedCommand_13 : decode cL_failedCommand 13 = .ok (.ireturn, 1) := by decide +kernel
theorem dL_failedCommand_14 : decode cL_failedCommand 14 = .ok (.iconst 0, 1) := by decide +kernel
theorem dL_failedCommand_15 : decode cL_failedCommand 15 = .ok (.ireturn, 1) := by decide +kernel
theorem dL_undo_0 : decode cL_undo 0 = .ok (.aload_n 1, 1) := by decide +kernel
theorem dL_undo_1 : decode cL_undo 1 = .ok (.iconst 0, 1) := by decide +kernel
theorem dL_undo_2 : decode cL_undo 2 = .ok (.aload_n 0, 1) := by decide +kernel
theorem dL_undo_3 : decode cL_undo 3 = .ok (.invokevirtual 164, 3) := by decide +kernel
theorem dL_undo_6 : decode cL_undo 6 = .ok (.i2l, 1) := by decide +kernel
theorem dL_undo_7 : decode cL_undo 7 = .ok (.lastore, 1) := by decide +kernel
theorem dL_undo_8 : decode cL_undo 8 = .ok (.goto 6, 3) := by decide +kernel
theorem dL_undo_11 : decode cL_undo 11 = .ok (.astore_n 2, 1) := by decide +kernel
theorem dL_undo_12 : decode cL_undo 12 = .ok (.iconst 1, 1) := by decide +kernel
theorem dL_undo_13 : decode cL_undo 13 = .ok (.ireturn, 1) := by decide +kernel
theorem dL_undo_14 : decode cL_undo 14 = .ok (.iconst 0, 1) := by decide +kernel
theorem dL_undo_15 : decode cL_undo 15 = .ok (.ireturn, 1) := by decide +kernel
theorem dL_restore_0 : decode cL_restore 0 = .ok (.aload_n 1, 1) := by decide +kernel
theorem dL_restore_1 : decode cL_restore 1 = .ok (.iconst 0, 1) := by decide +kernel
theorem dL_restore_2 : decode cL_restore 2 = .ok (.aload_n 0, 1) := by decide +kernel
theorem dL_restore_3 : decode cL_restore 3 = .ok (.invokevirtual 167, 3) := by decide +kernel
theorem dL_restore_6 : decode cL_restore 6 = .ok (.i2l, 1) := by decide +kernel
theorem dL_restore_7 : decode cL_restore 7 = .ok (.lastore, 1) := by decide +kernel
theorem dL_restore_8 : decode cL_restore 8 = .ok (.goto 6, 3) := by decide +kernel
theorem dL_restore_11 : decode cL_restore 11 = .ok (.astore_n 2, 1) := by decide +kernel
theorem dL_restore_12 : decode cL_restore 12 = .ok (.iconst 1, 1) := by decide +kernel
theorem dL_restore_13 : decode cL_restore 13 = .ok (.ireturn, 1) := by decide +kernel
theorem dL_restore_14 : decode cL_restore 14 = .ok (.iconst 0, 1) := by decide +kernel
theorem dL_restore_15 : decode cL_restore 15 = .ok (.ireturn, 1) := by decide +kernel
