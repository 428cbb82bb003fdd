theorem dX11_copy_81 : decode cX11_copy 81 = .ok (.aload 6, 2) := by decide +kernel
theorem dX11_copy_83 : decode cX11_copy 83 = .ok (.iload_n 2, 1) := by decide +kernel
theorem dX11_copy_84 : decode cX11_copy 84 = .ok (.iload 5, 2) := by decide +kernel
theorem dX11_copy_86 : decode cX11_copy 86 = .ok (.invokevirtual 250, 3) := by decide +kernel
theorem dX11_copy_89 : decode cX11_copy 89 = .ok (.ifCond .eq 15, 3) := by decide +kernel
theorem dX11_copy_92 : decode cX11_copy 92 = .ok (.aload 7, 2) := by decide +kernel
theorem dX11_copy_94 : decode cX11_copy 94 = .ok (.iload 4, 2) := by decide +kernel
theorem dX11_copy_96 : decode cX11_copy 96 = .ok (.iload 5, 2) := by decide +kernel
theorem dX11_copy_98 : decode cX11_copy 98 = .ok (.invokevirtual 250, 3) := by decide +kernel
theorem dX11_copy_101 : decode cX11_copy 101 = .ok (.ifCond .ne 6, 3) := by decide +kernel
theorem dX11_copy_104 : decode cX11_copy 104 = .ok (.bipush (-13), 2) := by decide +kernel
theorem dX11_copy_106 : decode cX11_copy 106 = .ok (.ireturn, 1) := by decide +kernel
theorem dX11_copy_107 : decode cX11_copy 107 = .ok (.aload 7, 2) := by decide +kernel
theorem dX11_copy_109 : decode cX11_copy 109 = .ok (.aload 6, 2) := by decide +kernel
theorem dX11_copy_111 : decode cX11_copy 111 = .ok (.iload_n 2, 1) := by decide +kernel
theorem dX11_copy_112 : decode cX11_copy 112 = .ok (.iload 4, 2) := by decide +kernel
theorem dX11_copy_114 : decode cX11_copy 114 = .ok (.iload 5, 2) := by decide +kernel
theorem dX11_copy_116 : decode cX11_copy 116 = .ok (.invokevirtual 277, 3) := by decide +kernel
theorem dX11_copy_119 : decode cX11_copy 119 = .ok (.iload 5, 2) := by decide +kernel
theorem dX11_copy_121 : decode cX11_copy 121 = .ok (.ireturn, 1) := by decide +kernel
theorem dX11_minutes_0 : decode cX11_minutes 0 = .ok (.aload_n 0, 1) := by decide +kernel
theorem dX11_minutes_1 : decode cX11_minutes 1 = .ok (.iload_n 1, 1) := by decide +kernel
theorem dX11_minutes_2 : decode cX11_minutes 2 = .ok (.invokevirtual 117, 3) := by decide +kernel
theorem dX11_minutes_5 : decode cX11_minutes 5 = .ok (.istore_n 2, 1) := by decide +kernel
theorem dX11_minutes_6 : decode cX11_minutes 6 = .ok (.iload_n 2, 1) := by decide +kernel
theorem dX11_minutes_7 : decode cX11_minutes 7 = .ok (.ifCond .eq 5, 3) := by decide +kernel
theorem dX11_minutes_10 : decode cX11_minutes 10 = .ok (.iload_n 2, 1) := by decide +kernel
theorem dX11_minutes_11 : decode cX11_minutes 11 = .ok (.ireturn, 1) := by decide +kernel
theorem dX11_minutes_12 : decode cX11_minutes 12 = .ok (.aload_n 0, 1) := by decide +kernel
theorem dX11_minutes_13 : decode cX11_minutes 13 = .ok (.iload_n 1, 1) := by decide +kernel
theorem dX11_minutes_14 : decode cX11_minutes 14 = .ok (.invokevirtual 76, 3) := by decide +kernel
theorem dX11_minutes_17 : decode cX11_minutes 17 = .ok (.astore_n 3, 1) := by decide +kernel
theorem dX11_minutes_18 : decode cX11_minutes 18 = .ok (.aload_n 0, 1) := by decide +kernel
theorem dX11_minutes_19 : decode cX11_minutes 19 = .ok (.aload_n 3, 1) := by decide +kernel
theorem dX11_minutes_20 : decode cX11_minutes 20 = .ok (.getfield 121, 3) := by decide +kernel
theorem dX11_minutes_23 : decode cX11_minutes 23 = .ok (.invokevirtual 124, 3) := by decide +kernel
theorem dX11_minutes_26 : decode cX11_minutes 26 = .ok (.aload_n 3, 1) := by decide +kernel
theorem dX11_minutes_27 : decode cX11_minutes 27 = .ok (.getfield 128, 3) := by decide +kernel
theorem dX11_minutes_30 : decode cX11_minutes 30 = .ok (.invokevirtual 152, 3) := by decide +kernel
theorem dX11_minutes_33 : decode cX11_minutes 33 = .ok (.ireturn, 1) := by decide +kernel
theorem dX11_toss_0 : decode cX11_toss 0 = .ok (.aload_n 0, 1) := by decide +kernel
theorem dX11_toss_1 : decode cX11_toss 1 = .ok (.iload_n 1, 1) := by decide +kernel
theorem dX11_toss_2 : decode cX11_toss 2 = .ok (.invokevirtual 117, 3) := by decide +kernel
theorem dX11_toss_5 : decode cX11_toss 5 = .ok (.istore_n 2, 1) := by decide +kernel
theorem dX11_toss_6 : decode cX11_toss 6 = .ok (.iload_n 2, 1) := by decide +kernel
theorem dX11_toss_7 : decode cX11_toss 7 = .ok (.ifCond .eq 5, 3) := by decide +kernel
theorem dX11_toss_10 : decode cX11_toss 10 = .ok (.iload_n 2, 1) := by decide +kernel
theorem dX11_toss_11 : decode cX11_toss 11 = .ok (.ireturn, 1) := by decide +kernel
theorem dX11_toss_12 : decode cX11_toss 12 = .ok (.aload_n 0, 1) := by decide +kernel
theorem dX11_toss_13 : decode cX11_toss 13 = .ok (.iload_n 1, 1) := by decide +kernel
theorem dX11_toss_14 : decode cX11_toss 14 = .ok (.invokevirtual 76, 3) := by decide +kernel
theorem dX11_toss_17 : decode cX11_toss 17 = .ok (.astore_n 3, 1) := by decide +kernel
theorem dX11_toss_18 : decode cX11_toss 18 = .ok (.aload_n 0, 1) := by decide +kernel
theorem dX11_toss_19 : decode cX11_toss 19 = .ok (.aload_n 3, 1) := by decide +kernel
theorem dX11_toss_20 : decode cX11_toss 20 = .ok (.getfield 121, 3) := by decide +kernel
theorem dX11_toss_23 : decode cX11_toss 23 = .ok (.invokevirtual 124, 3) := by decide +kernel
theorem dX11_toss_26 : decode cX11_toss 26 = .ok (.astore 4, 2) := by decide +kernel
theorem dX11_toss_28 : decode cX11_toss 28 = .ok (.aload_n 3, 1) := by decide +kernel
theorem dX11_toss_29 : decode cX11_toss 29 = .ok (.getfield 128, 3) := by decide +kernel
theorem dX11_toss_32 : decode cX11_toss 32 = .ok (.istore 5, 2) := by decide +kernel
theorem dX11_toss_34 : decode cX11_toss 34 = .ok (.aload 4, 2) := by decide +kernel
theorem dX11_toss_36 : decode cX11_toss 36 = .ok (.iload 5, 2) := by decide +kernel
theorem dX11_toss_38 : decode cX11_toss 38 = .ok (.invokevirtual 281, 3) := by decide +kernel
theorem dX11_toss_41 : decode cX11_toss 41 = .ok (.bipush (-15), 2) := by decide +kernel
theorem dX11_toss_43 : decode cX11_toss 43 = .ok (.ireturn, 1) := by decide +kernel
theorem dX11_toss_44 : decode cX11_toss 44 = .ok (.astore 6, 2) := by decide +kernel
theorem dX11_toss_46 : decode cX11_toss 46 = .ok (.sipush 200, 3) := by decide +kernel
theorem dX11_toss_49 : decode cX11_toss 49 = .ok (.aload 4, 2) := by decide +kernel
theorem dX11_toss_51 : decode cX11_toss 51 = .ok (.iload 5, 2) := by decide +kernel
theorem dX11_toss_53 : decode cX11_toss 53 = .ok (.invokevirtual 152, 3) := by decide +kernel
theorem dX11_toss_56 : decode cX11_toss 56 = .ok (.iadd, 1) := by decide +kernel
theorem dX11_toss_57 : decode cX11_toss 57 = .ok (.ireturn, 1) := by decide +kernel
theorem dX11_toss_58 : decode cX11_toss 58 = .ok (.astore 6, 2) := by decide +kernel
theorem dX11_toss_60 : decode cX11_toss 60 = .ok (.bipush 100, 2) := by decide +kernel
theorem dX11_toss_62 : decode cX11_toss 62 = .ok (.iload 5, 2) := by decide +kernel
theorem dX11_toss_64 : decode cX11_toss 64 = .ok (.iadd, 1) := by decide +kernel
theorem dX11_toss_65 : decode cX11_toss 65 = .ok (.ireturn, 1) := by decide +kernel
theorem dX11_toss_66 : decode cX11_toss 66 = .ok (.astore 6, 2) := by decide +kernel
theorem dX11_toss_68 : decode cX11_toss 68 = .ok (.iload 5, 2) := by decide +kernel
theorem dX11_toss_70 : decode cX11_toss 70 = .ok (.ireturn, 1) := by decide +kernel
theorem dX11_within_0 : decode cX11_within 0 = .ok (.iload_n 0, 1) := by decide +kernel
theorem dX11_within_1 : decode cX11_within 1 = .ok (.iload_n 1, 1) := by decide +kernel
theorem dX11_within_2 : decode cX11_within 2 = .ok (.if_icmp .lt 12, 3) := by decide +kernel
theorem dX11_within_5 : decode cX11_within 5 = .ok (.iload_n 0, 1) := by decide +kernel
theorem dX11_within_6 : decode cX11_within 6 = .ok (.iload_n 2, 1) := by decide +kernel
theorem dX11_within_7 : decode cX11_within 7 = .ok (.if_icmp .gt 7, 3) := by decide +kernel
theorem dX11_within_10 : decode cX11_within 10 = .ok (.iconst 1, 1) := by decide +kernel
theorem dX11_within_11 : decode cX11_within 11 = .ok (.goto 4, 3) := by decide +kernel
theorem dX11_within_14 : decode cX11_within 14 = .ok (.iconst 0, 1) := by decide +kernel
theorem dX11_within_15 : decode cX11_within 15 = .ok (.ireturn, 1) := by decide +kernel
theorem dX11_isShelf_0 : decode cX11_isShelf 0 = .ok (.iload_n 0, 1) := by decide +kernel
theorem dX11_isShelf_1 : decode cX11_isShelf 1 = .ok (.iconst 0, 1) := by decide +kernel
theorem dX11_isShelf_2 : decode cX11_isShelf 2 = .ok (.bipush 7, 2) := by decide +kernel
theorem dX11_isShelf_4 : decode cX11_isShelf 4 = .ok (.invokestatic 104, 3) := by decide +kernel
theorem dX11_isShelf_7 : decode cX11_isShelf 7 = .ok (.ireturn, 1) := by decide +kernel
theorem dX11_shelfAt_0 : decode cX11_shelfAt 0 = .ok (.iload_n 1, 1) := by decide +kernel
theorem dX11_shelfAt_1 : decode cX11_shelfAt 1 = .ok (.ifCond .lt 21, 3) := by decide +kernel
theorem dX11_shelfAt_4 : decode cX11_shelfAt 4 = .ok (.iload_n 1, 1) := by decide +kernel
theorem dX11_shelfAt_5 : decode cX11_shelfAt 5 = .ok (.aload_n 0, 1) := by decide +kernel
theorem dX11_shelfAt_6 : decode cX11_shelfAt 6 = .ok (.getfield 24, 3) := by decide +kernel
theorem dX11_shelfAt_9 : decode cX11_shelfAt 9 = .ok (.arraylength, 1) := by decide +kernel
theorem dX11_shelfAt_10 : decode cX11_shelfAt 10 = .ok (.if_icmp .ge 12, 3) := by decide +kernel
theorem dX11_shelfAt_13 : decode cX11_shelfAt 13 = .ok (.aload_n 0, 1) := by decide +kernel
theorem dX11_shelfAt_14 : decode cX11_shelfAt 14 = .ok (.getfield 24, 3) := by decide +kernel
theorem dX11_shelfAt_17 : decode cX11_shelfAt 17 = .ok (.iload_n 1, 1) := by decide +kernel
theorem dX11_shelfAt_18 : decode cX11_shelfAt 18 = .ok (.aaload, 1) := by decide +kernel
theorem dX11_shelfAt_19 : decode cX11_shelfAt 19 = .ok (.goto 4, 3) := by decide +kernel
theorem dX11_shelfAt_22 : decode cX11_shelfAt 22 = .ok (.aconst_null, 1) := by decide +kernel
theorem dX11_shelfAt_23 : decode cX11_shelfAt 23 = .ok (.astore_n 2, 1) := by decide +kernel
theorem dX11_shelfAt_24 : decode cX11_shelfAt 24 = .ok (.aload_n 2, 1) := by decide +kernel
theorem dX11_shelfAt_25 : decode cX11_shelfAt 25 = .ok (.ifnonnull 10, 3) := by decide +kernel
theorem dX11_shelfAt_28 : decode cX11_shelfAt 28 = .ok (.aload_n 0, 1) := by decide +kernel
theorem dX11_shelfAt_29 : decode cX11_shelfAt 29 = .ok (.getfield 29, 3) := by decide +kernel
theorem dX11_shelfAt_32 : decode cX11_shelfAt 32 = .ok (.goto 4, 3) := by decide +kernel
theorem dX11_shelfAt_35 : decode cX11_shelfAt 35 = .ok (.aload_n 2, 1) := by decide +kernel
theorem dX11_shelfAt_36 : decode cX11_shelfAt 36 = .ok (.areturn, 1) := by decide +kernel
theorem dX11_kindAt_0 : decode cX11_kindAt 0 = .ok (.iload_n 1, 1) := by decide +kernel
theorem dX11_kindAt_1 : decode cX11_kindAt 1 = .ok (.ifCond .lt 21, 3) := by decide +kernel
theorem dX11_kindAt_4 : decode cX11_kindAt 4 = .ok (.iload_n 1, 1) := by decide +kernel
theorem dX11_kindAt_5 : decode cX11_kindAt 5 = .ok (.aload_n 0, 1) := by decide +kernel
theorem dX11_kindAt_6 : decode cX11_kindAt 6 = .ok (.getfield 35, 3) := by decide +kernel
theorem dX11_kindAt_9 : decode cX11_kindAt 9 = .ok (.arraylength, 1) := by decide +kernel
theorem dX11_kindAt_10 : decode cX11_kindAt 10 = .ok (.if_icmp .ge 12, 3) := by decide +kernel
theorem dX11_kindAt_13 : decode cX11_kindAt 13 = .ok (.aload_n 0, 1) := by decide +kernel
theorem dX11_kindAt_14 : decode cX11_kindAt 14 = .ok (.getfield 35, 3) := by decide +kernel
theorem dX11_kindAt_17 : decode cX11_kindAt 17 = .ok (.iload_n 1, 1) := by decide +kernel
theorem dX11_kindAt_18 : decode cX11_kindAt 18 = .ok (.aaload, 1) := by decide +kernel
theorem dX11_kindAt_19 : decode cX11_kindAt 19 = .ok (.goto 4, 3) := by decide +kernel
theorem dX11_kindAt_22 : decode cX11_kindAt 22 = .ok (.aconst_null, 1) := by decide +kernel
theorem dX11_kindAt_23 : decode cX11_kindAt 23 = .ok (.astore_n 2, 1) := by decide +kernel
theorem dX11_kindAt_24 : decode cX11_kindAt 24 = .ok (.aload_n 2, 1) := by decide +kernel
theorem dX11_kindAt_25 : decode cX11_kindAt 25 = .ok (.ifnonnull 10, 3) := by decide +kernel
theorem dX11_kindAt_28 : decode cX11_kindAt 28 = .ok (.aload_n 0, 1) := by decide +kernel
theorem dX11_kindAt_29 : decode cX11_kindAt 29 = .ok (.getfield 40, 3) := by decide +kernel
theorem dX11_kindAt_32 : decode cX11_kindAt 32 = .ok (.goto 4, 3) := by decide +kernel
theorem dX11_kindAt_35 : decode cX11_kindAt 35 = .ok (.aload_n 2, 1) := by decide +kernel
theorem dX11_kindAt_36 : decode cX11_kindAt 36 = .ok (.areturn, 1) := by decide +kernel
theorem dX11_pinRefusal_0 : decode cX11_pinRefusal 0 = .ok (.iload_n 1, 1) := by decide +kernel
theorem dX11_pinRefusal_1 : decode cX11_pinRefusal 1 = .ok (.invokestatic 190, 3) := by decide +kernel
theorem dX11_pinRefusal_4 : decode cX11_pinRefusal 4 = .ok (.ifCond .eq 14, 3) := by decide +kernel
theorem dX11_pinRefusal_7 : decode cX11_pinRefusal 7 = .ok (.aload_n 0, 1) := by decide +kernel
theorem dX11_pinRefusal_8 : decode cX11_pinRefusal 8 = .ok (.iload_n 1, 1) := by decide +kernel
theorem dX11_pinRefusal_9 : decode cX11_pinRefusal 9 = .ok (.invokevirtual 76, 3) := by decide +kernel
theorem dX11_pinRefusal_12 : decode cX11_pinRefusal 12 = .ok (.invokevirtual 287, 3) := by decide +kernel
theorem dX11_pinRefusal_15 : decode cX11_pinRefusal 15 = .ok (.goto 4, 3) := by decide +kernel
theorem dX11_pinRefusal_18 : decode cX11_pinRefusal 18 = .ok (.iconst (-1), 1) := by decide +kernel
theorem dX11_pinRefusal_19 : decode cX11_pinRefusal 19 = .ok (.ireturn, 1) := by decide +kernel
theorem dX11_rowRefusal_0 : decode cX11_rowRefusal 0 = .ok (.iload_n 1, 1) := by decide +kernel
theorem dX11_rowRefusal_1 : decode cX11_rowRefusal 1 = .ok (.invokestatic 190, 3) := by decide +kernel
theorem dX11_rowRefusal_4 : decode cX11_rowRefusal 4 = .ok (.ifCond .ne 5, 3) := by decide +kernel
theorem dX11_rowRefusal_7 : decode cX11_rowRefusal 7 = .ok (.iconst (-1), 1) := by decide +kernel
theorem dX11_rowRefusal_8 : decode cX11_rowRefusal 8 = .ok (.ireturn, 1) := by decide +kernel
theorem dX11_rowRefusal_9 : decode cX11_rowRefusal 9 = .ok (.aload_n 0, 1) := by decide +kernel
theorem dX11_rowRefusal_10 : decode cX11_rowRefusal 10 = .ok (.iload_n 1, 1) := by decide +kernel
theorem dX11_rowRefusal_11 : decode cX11_rowRefusal 11 = .ok (.invokevirtual 76, 3) := by decide +kernel
theorem dX11_rowRefusal_14 : decode cX11_rowRefusal 14 = .ok (.astore_n 3, 1) := by decide +kernel
theorem dX11_rowRefusal_15 : decode cX11_rowRefusal 15 = .ok (.aload_n 3, 1) := by decide +kernel
theorem dX11_rowRefusal_16 : decode cX11_rowRefusal 16 = .ok (.invokevirtual 222, 3) := by decide +kernel
theorem dX11_rowRefusal_19 : decode cX11_rowRefusal 19 = .ok (.istore 4, 2) := by decide +kernel
theorem dX11_rowRefusal_21 : decode cX11_rowRefusal 21 = .ok (.iload 4, 2) := by decide +kernel
theorem dX11_rowRefusal_23 : decode cX11_rowRefusal 23 = .ok (.ifCond .ne 16, 3) := by decide +kernel
theorem dX11_rowRefusal_26 : decode cX11_rowRefusal 26 = .ok (.aload_n 3, 1) := by decide +kernel
theorem dX11_rowRefusal_27 : decode cX11_rowRefusal 27 = .ok (.getfield 274, 3) := by decide +kernel
theorem dX11_rowRefusal_30 : decode cX11_rowRefusal 30 = .ok (.iload_n 2, 1) := by decide +kernel
theorem dX11_rowRefusal_31 : decode cX11_rowRefusal 31 = .ok (.if_icmp .eq 8, 3) := by decide +kernel
theorem dX11_rowRefusal_34 : decode cX11_rowRefusal 34 = .ok (.bipush (-12), 2) := by decide +kernel
theorem dX11_rowRefusal_36 : decode cX11_rowRefusal 36 = .ok (.goto 5, 3) := by decide +kernel
theorem dX11_rowRefusal_39 : decode cX11_rowRefusal 39 = .ok (.iload 4, 2) := by decide +kernel
theorem dX11_rowRefusal_41 : decode cX11_rowRefusal 41 = .ok (.ireturn, 1) := by decide +kernel
theorem dX11_pinsRefusal_0 : decode cX11_pinsRefusal 0 = .ok (.aload_n 0, 1) := by decide +kernel
theorem dX11_pinsRefusal_1 : decode cX11_pinsRefusal 1 = .ok (.iload_n 1, 1) := by decide +kernel
theorem dX11_pinsRefusal_2 : decode cX11_pinsRefusal 2 = .ok (.iconst 0, 1) := by decide +kernel
theorem dX11_pinsRefusal_3 : decode cX11_pinsRefusal 3 = .ok (.invokevirtual 72, 3) := by decide +kernel
theorem dX11_pinsRefusal_6 : decode cX11_pinsRefusal 6 = .ok (.istore_n 2, 1) := by decide +kernel
theorem dX11_pinsRefusal_7 : decode cX11_pinsRefusal 7 = .ok (.iload_n 2, 1) := by decide +kernel
theorem dX11_pinsRefusal_8 : decode cX11_pinsRefusal 8 = .ok (.ifCond .ne 20, 3) := by decide +kernel
theorem dX11_pinsRefusal_11 : decode cX11_pinsRefusal 11 = .ok (.aload_n 0, 1) := by decide +kernel
theorem dX11_pinsRefusal_12 : decode cX11_pinsRefusal 12 = .ok (.aload_n 0, 1) := by decide +kernel
theorem dX11_pinsRefusal_13 : decode cX11_pinsRefusal 13 = .ok (.iload_n 1, 1) := by decide +kernel
theorem dX11_pinsRefusal_14 : decode cX11_pinsRefusal 14 = .ok (.invokevirtual 76, 3) := by decide +kernel
theorem dX11_pinsRefusal_17 : decode cX11_pinsRefusal 17 = .ok (.invokevirtual 289, 3) := by decide +kernel
theorem dX11_pinsRefusal_20 : decode cX11_pinsRefusal 20 = .ok (.ifCond .ne 8, 3) := by decide +kernel
theorem dX11_pinsRefusal_23 : decode cX11_pinsRefusal 23 = .ok (.bipush (-13), 2) := by decide +kernel
theorem dX11_pinsRefusal_25 : decode cX11_pinsRefusal 25 = .ok (.goto 4, 3) := by decide +kernel
theorem dX11_pinsRefusal_28 : decode cX11_pinsRefusal 28 = .ok (.iload_n 2, 1) := by decide +kernel
theorem dX11_pinsRefusal_29 : decode cX11_pinsRefusal 29 = .ok (.ireturn, 1) := by decide +kernel
theorem dX11_lengthsRefusal_0 : decode cX11_lengthsRefusal 0 = .ok (.aload_n 0, 1) := by decide +kernel
theorem dX11_lengthsRefusal_1 : decode cX11_lengthsRefusal 1 = .ok (.iload_n 1, 1) := by decide +kernel
theorem dX11_lengthsRefusal_2 : decode cX11_lengthsRefusal 2 = .ok (.iconst 0, 1) := by decide +kernel
theorem dX11_lengthsRefusal_3 : decode cX11_lengthsRefusal 3 = .ok (.invokevirtual 72, 3) := by decide +kernel
theorem dX11_lengthsRefusal_6 : decode cX11_lengthsRefusal 6 = .ok (.istore_n 3, 1) := by decide +kernel
theorem dX11_lengthsRefusal_7 : decode cX11_lengthsRefusal 7 = .ok (.iload_n 3, 1) := by decide +kernel
theorem dX11_lengthsRefusal_8 : decode cX11_lengthsRefusal 8 = .ok (.ifCond .ne 20, 3) := by decide +kernel
theorem dX11_lengthsRefusal_11 : decode cX11_lengthsRefusal 11 = .ok (.aload_n 0, 1) := by decide +kernel
theorem dX11_lengthsRefusal_12 : decode cX11_lengthsRefusal 12 = .ok (.iload_n 1, 1) := by decide +kernel
theorem dX11_lengthsRefusal_13 : decode cX11_lengthsRefusal 13 = .ok (.invokevirtual 76, 3) := by decide +kernel
theorem dX11_lengthsRefusal_16 : decode cX11_lengthsRefusal 16 = .ok (.iload_n 2, 1) := by decide +kernel
theorem dX11_lengthsRefusal_17 : decode cX11_lengthsRefusal 17 = .ok (.invokestatic 292, 3) := by decide +kernel
theorem dX11_lengthsRefusal_20 : decode cX11_lengthsRefusal 20 = .ok (.ifCond .ne 8, 3) := by decide +kernel
theorem dX11_lengthsRefusal_23 : decode cX11_lengthsRefusal 23 = .ok (.bipush (-13), 2) := by decide +kernel
theorem dX11_lengthsRefusal_25 : decode cX11_lengthsRefusal 25 = .ok (.goto 4, 3) := by decide +kernel
theorem dX11_lengthsRefusal_28 : decode cX11_lengthsRefusal 28 = .ok (.iload_n 3, 1) := by decide +kernel
theorem dX11_lengthsRefusal_29 : decode cX11_lengthsRefusal 29 = .ok (.ireturn, 1) := by decide +kernel
theorem dX11_statementsOf_0 : decode cX11_statementsOf 0 = .ok (.aload_n 0, 1) := by decide +kernel
theorem dX11_statementsOf_1 : decode cX11_statementsOf 1 = .ok (.getfield 47, 3) := by decide +kernel
theorem dX11_statementsOf_4 : decode cX11_statementsOf 4 = .ok (.iconst 0, 1) := by decide +kernel
theorem dX11_statementsOf_5 : decode cX11_statementsOf 5 = .ok (.putfield 88, 3) := by decide +kernel
theorem dX11_statementsOf_8 : decode cX11_statementsOf 8 = .ok (.iconst 0, 1) := by decide +kernel
theorem dX11_statementsOf_9 : decode cX11_statementsOf 9 = .ok (.istore_n 2, 1) := by decide +kernel
theorem dX11_statementsOf_10 : decode cX11_statementsOf 10 = .ok (.iconst 0, 1) := by decide +kernel
theorem dX11_statementsOf_11 : decode cX11_statementsOf 11 = .ok (.istore_n 3, 1) := by decide +kernel
theorem dX11_statementsOf_12 : decode cX11_statementsOf 12 = .ok (.iload_n 3, 1) := by decide +kernel
theorem dX11_statementsOf_13 : decode cX11_statementsOf 13 = .ok (.ifCond .eq 23, 3) := by decide +kernel
theorem dX11_statementsOf_16 : decode cX11_statementsOf 16 = .ok (.iload_n 3, 1) := by decide +kernel
theorem dX11_statementsOf_17 : decode cX11_statementsOf 17 = .ok (.bipush 100, 2) := by decide +kernel
theorem dX11_statementsOf_19 : decode cX11_statementsOf 19 = .ok (.if_icmp .ge 49, 3) := by decide +kernel
theorem dX11_statementsOf_22 : decode cX11_statementsOf 22 = .ok (.aload_n 0, 1) := by decide +kernel
theorem dX11_statementsOf_23 : decode cX11_statementsOf 23 = .ok (.getfield 47, 3) := by decide +kernel
theorem dX11_statementsOf_26 : decode cX11_statementsOf 26 = .ok (.getfield 88, 3) := by decide +kernel
theorem dX11_statementsOf_29 : decode cX11_statementsOf 29 = .ok (.aload_n 1, 1) := by decide +kernel
theorem dX11_statementsOf_30 : decode cX11_statementsOf 30 = .ok (.getfield 207, 3) := by decide +kernel
theorem dX11_statementsOf_33 : decode cX11_statementsOf 33 = .ok (.if_icmp .ge 35, 3) := by decide +kernel
theorem dX11_statementsOf_36 : decode cX11_statementsOf 36 = .ok (.aload_n 0, 1) := by decide +kernel
theorem dX11_statementsOf_37 : decode cX11_statementsOf 37 = .ok (.getfield 47, 3) := by decide +kernel
theorem dX11_statementsOf_40 : decode cX11_statementsOf 40 = .ok (.aload_n 1, 1) := by decide +kernel
theorem dX11_statementsOf_41 : decode cX11_statementsOf 41 = .ok (.invokevirtual 92, 3) := by decide +kernel
theorem dX11_statementsOf_44 : decode cX11_statementsOf 44 = .ok (.ifCond .ne 15, 3) := by decide +kernel
theorem dX11_statementsOf_47 : decode cX11_statementsOf 47 = .ok (.sipush (-1000), 3) := by decide +kernel
theorem dX11_statementsOf_50 : decode cX11_statementsOf 50 = .ok (.aload_n 0, 1) := by decide +kernel
theorem dX11_statementsOf_51 : decode cX11_statementsOf 51 = .ok (.getfield 47, 3) := by decide +kernel
theorem dX11_statementsOf_54 : decode cX11_statementsOf 54 = .ok (.getfield 88, 3) := by decide +kernel
theorem dX11_statementsOf_57 : decode cX11_statementsOf 57 = .ok (.isub, 1) := by decide +kernel
theorem dX11_statementsOf_58 : decode cX11_statementsOf 58 = .ok (.ireturn, 1) := by decide +kernel
theorem dX11_statementsOf_59 : decode cX11_statementsOf 59 = .ok (.iinc 2 1, 3) := by decide +kernel
theorem dX11_statementsOf_62 : decode cX11_statementsOf 62 = .ok (.iinc 3 1, 3) := by decide +kernel
theorem dX11_statementsOf_65 : decode cX11_statementsOf 65 = .ok (.goto (-53), 3) := by decide +kernel
theorem dX11_statementsOf_68 : decode cX11_statementsOf 68 = .ok (.iload_n 2, 1) := by decide +kernel
theorem dX11_statementsOf_69 : decode cX11_statementsOf 69 = .ok (.ireturn, 1) := by decide +kernel
theorem dX11_carryOut_0 : decode cX11_carryOut 0 = .ok (.aload_n 0, 1) := by decide +kernel
theorem dX11_carryOut_1 : decode cX11_carryOut 1 = .ok (.getfield 47, 3) := by decide +kernel
theorem dX11_carryOut_4 : decode cX11_carryOut 4 = .ok (.iconst 0, 1) := by decide +kernel
theorem dX11_carryOut_5 : decode cX11_carryOut 5 = .ok (.invokevirtual 295, 3) := by decide +kernel
theorem dX11_carryOut_8 : decode cX11_carryOut 8 = .ok (.istore_n 2, 1) := by decide +kernel
theorem dX11_carryOut_9 : decode cX11_carryOut 9 = .ok (.aload_n 0, 1) := by decide +kernel
theorem dX11_carryOut_10 : decode cX11_carryOut 10 = .ok (.getfield 47, 3) := by decide +kernel
theorem dX11_carryOut_13 : decode cX11_carryOut 13 = .ok (.getfield 298, 3) := by decide +kernel
theorem dX11_carryOut_16 : decode cX11_carryOut 16 = .ok (.lookupswitch 88 #[(108, 73), (114, 36), (116, 66)], 36) := by decide +kernel
theorem dX11_carryOut_52 : decode cX11_carryOut 52 = .ok (.aload_n 1, 1) := by decide +kernel
theorem dX11_carryOut_53 : decode cX11_carryOut 53 = .ok (.iload_n 2, 1) := by decide +kernel
theorem dX11_carryOut_54 : decode cX11_carryOut 54 = .ok (.aload_n 0, 1) := by decide +kernel
theorem dX11_carryOut_55 : decode cX11_carryOut 55 = .ok (.getfield 47, 3) := by decide +kernel
theorem dX11_carryOut_58 : decode cX11_carryOut 58 = .ok (.iconst 1, 1) := by decide +kernel
theorem dX11_carryOut_59 : decode cX11_carryOut 59 = .ok (.invokevirtual 295, 3) := by decide +kernel
theorem dX11_carryOut_62 : decode cX11_carryOut 62 = .ok (.aload_n 0, 1) := by decide +kernel
theorem dX11_carryOut_63 : decode cX11_carryOut 63 = .ok (.getfield 47, 3) := by decide +kernel
theorem dX11_carryOut_66 : decode cX11_carryOut 66 = .ok (.iconst 2, 1) := by decide +kernel
theorem dX11_carryOut_67 : decode cX11_carryOut 67 = .ok (.invokevirtual 295, 3) := by decide +kernel
theorem dX11_carryOut_70 : decode cX11_carryOut 70 = .ok (.aload_n 0, 1) := by decide +kernel
theorem dX11_carryOut_71 : decode cX11_carryOut 71 = .ok (.getfield 47, 3) := by decide +kernel
theorem dX11_carryOut_74 : decode cX11_carryOut 74 = .ok (.iconst 3, 1) := by decide +kernel
theorem dX11_carryOut_75 : decode cX11_carryOut 75 = .ok (.invokevirtual 295, 3) := by decide +kernel
theorem dX11_carryOut_78 : decode cX11_carryOut 78 = .ok (.invokevirtual 301, 3) := by decide +kernel
theorem dX11_carryOut_81 : decode cX11_carryOut 81 = .ok (.ireturn, 1) := by decide +kernel
theorem dX11_carryOut_82 : decode cX11_carryOut 82 = .ok (.aload_n 1, 1) := by decide +kernel
theorem dX11_carryOut_83 : decode cX11_carryOut 83 = .ok (.iload_n 2, 1) := by decide +kernel
theorem dX11_carryOut_84 : decode cX11_carryOut 84 = .ok (.putfield 111, 3) := by decide +kernel
theorem dX11_carryOut_87 : decode cX11_carryOut 87 = .ok (.iconst 1, 1) := by decide +kernel
theorem dX11_carryOut_88 : decode cX11_carryOut 88 = .ok (.ireturn, 1) := by decide +kernel
theorem dX11_carryOut_89 : decode cX11_carryOut 89 = .ok (.iload_n 2, 1) := by decide +kernel
theorem dX11_carryOut_90 : decode cX11_carryOut 90 = .ok (.bipush 30, 2) := by decide +kernel
theorem dX11_carryOut_92 : decode cX11_carryOut 92 = .ok (.if_icmp .le 5, 3) := by decide +kernel
theorem dX11_carryOut_95 : decode cX11_carryOut 95 = .ok (.iconst 0, 1) := by decide +kernel
theorem dX11_carryOut_96 : decode cX11_carryOut 96 = .ok (.ireturn, 1) := by decide +kernel
theorem dX11_carryOut_97 : decode cX11_carryOut 97 = .ok (.aload_n 1, 1) := by decide +kernel
theorem dX11_carryOut_98 : decode cX11_carryOut 98 = .ok (.iload_n 2, 1) := by decide +kernel
theorem dX11_carryOut_99 : decode cX11_carryOut 99 = .ok (.putfield 114, 3) := by decide +kernel
theorem dX11_carryOut_102 : decode cX11_carryOut 102 = .ok (.iconst 1, 1) := by decide +kernel
theorem dX11_carryOut_103 : decode cX11_carryOut 103 = .ok (.ireturn, 1) := by decide +kernel
theorem dX11_carryOut_104 : decode cX11_carryOut 104 = .ok (.iload_n 2, 1) := by decide +kernel
theorem dX11_carryOut_105 : decode cX11_carryOut 105 = .ok (.bipush 8, 2) := by decide +kernel
theorem dX11_carryOut_107 : decode cX11_carryOut 107 = .ok (.if_icmp .ge 35, 3) := by decide +kernel
theorem dX11_carryOut_110 : decode cX11_carryOut 110 = .ok (.aload_n 1, 1) := by decide +kernel
theorem dX11_carryOut_111 : decode cX11_carryOut 111 = .ok (.aload_n 0, 1) := by decide +kernel
theorem dX11_carryOut_112 : decode cX11_carryOut 112 = .ok (.iload_n 2, 1) := by decide +kernel
theorem dX11_carryOut_113 : decode cX11_carryOut 113 = .ok (.invokevirtual 124, 3) := by decide +kernel
theorem dX11_carryOut_116 : decode cX11_carryOut 116 = .ok (.aload_n 0, 1) := by decide +kernel
theorem dX11_carryOut_117 : decode cX11_carryOut 117 = .ok (.getfield 47, 3) := by decide +kernel
theorem dX11_carryOut_120 : decode cX11_carryOut 120 = .ok (.iconst 1, 1) := by decide +kernel
theorem dX11_carryOut_121 : decode cX11_carryOut 121 = .ok (.invokevirtual 295, 3) := by decide +kernel
theorem dX11_carryOut_124 : decode cX11_carryOut 124 = .ok (.aload_n 0, 1) := by decide +kernel
theorem dX11_carryOut_125 : decode cX11_carryOut 125 = .ok (.getfield 47, 3) := by decide +kernel
theorem dX11_carryOut_128 : decode cX11_carryOut 128 = .ok (.iconst 2, 1) := by decide +kernel
theorem dX11_carryOut_129 : decode cX11_carryOut 129 = .ok (.invokevirtual 295, 3) := by decide +kernel
theorem dX11_carryOut_132 : decode cX11_carryOut 132 = .ok (.invokevirtual 135, 3) := by decide +kernel
theorem dX11_carryOut_135 : decode cX11_carryOut 135 = .ok (.ifCond .eq 7, 3) := by decide +kernel
theorem dX11_carryOut_138 : decode cX11_carryOut 138 = .ok (.iconst 1, 1) := by decide +kernel
theorem dX11_carryOut_139 : decode cX11_carryOut 139 = .ok (.goto 4, 3) := by decide +kernel
theorem dX11_carryOut_142 : decode cX11_carryOut 142 = .ok (.iconst 0, 1) := by decide +kernel
theorem dX11_carryOut_143 : decode cX11_carryOut 143 = .ok (.ireturn, 1) := by decide +kernel
theorem dX11_tellsPins_0 : decode cX11_tellsPins 0 = .ok (.aload_n 1, 1) := by decide +kernel
theorem dX11_tellsPins_1 : decode cX11_tellsPins 1 = .ok (.getfield 207, 3) := by decide +kernel
theorem dX11_tellsPins_4 : decode cX11_tellsPins 4 = .ok (.iconst 3, 1) := by decide +kernel
theorem dX11_tellsPins_5 : decode cX11_tellsPins 5 = .ok (.irem, 1) := by decide +kernel
theorem dX11_tellsPins_6 : decode cX11_tellsPins 6 = .ok (.ifCond .ne 12, 3) := by decide +kernel
theorem dX11_tellsPins_9 : decode cX11_tellsPins 9 = .ok (.aload_n 1, 1) := by decide +kernel
theorem dX11_tellsPins_10 : decode cX11_tellsPins 10 = .ok (.getfield 207, 3) := by decide +kernel
theorem dX11_tellsPins_13 : decode cX11_tellsPins 13 = .ok (.bipush 18, 2) := by decide +kernel
theorem dX11_tellsPins_15 : decode cX11_tellsPins 15 = .ok (.if_icmp .le 5, 3) := by decide +kernel
theorem dX11_tellsPins_18 : decode cX11_tellsPins 18 = .ok (.iconst 0, 1) := by decide +kernel
theorem dX11_tellsPins_19 : decode cX11_tellsPins 19 = .ok (.ireturn, 1) := by decide +kernel
theorem dX11_tellsPins_20 : decode cX11_tellsPins 20 = .ok (.iconst 0, 1) := by decide +kernel
theorem dX11_tellsPins_21 : decode cX11_tellsPins 21 = .ok (.istore_n 2, 1) := by decide +kernel
theorem dX11_tellsPins_22 : decode cX11_tellsPins 22 = .ok (.iload_n 2, 1) := by decide +kernel
theorem dX11_tellsPins_23 : decode cX11_tellsPins 23 = .ok (.aload_n 1, 1) := by decide +kernel
theorem dX11_tellsPins_24 : decode cX11_tellsPins 24 = .ok (.getfield 207, 3) := by decide +kernel
theorem dX11_tellsPins_27 : decode cX11_tellsPins 27 = .ok (.if_icmp .ge 68, 3) := by decide +kernel
theorem dX11_tellsPins_30 : decode cX11_tellsPins 30 = .ok (.aload_n 1, 1) := by decide +kernel
theorem dX11_tellsPins_31 : decode cX11_tellsPins 31 = .ok (.iload_n 2, 1) := by decide +kernel
theorem dX11_tellsPins_32 : decode cX11_tellsPins 32 = .ok (.invokevirtual 210, 3) := by decide +kernel
theorem dX11_tellsPins_35 : decode cX11_tellsPins 35 = .ok (.iconst 0, 1) := by decide +kernel
theorem dX11_tellsPins_36 : decode cX11_tellsPins 36 = .ok (.bipush 7, 2) := by decide +kernel
theorem dX11_tellsPins_38 : decode cX11_tellsPins 38 = .ok (.invokestatic 104, 3) := by decide +kernel
theorem dX11_tellsPins_41 : decode cX11_tellsPins 41 = .ok (.ifCond .eq 23, 3) := by decide +kernel
theorem dX11_tellsPins_44 : decode cX11_tellsPins 44 = .ok (.aload_n 1, 1) := by decide +kernel
theorem dX11_tellsPins_45 : decode cX11_tellsPins 45 = .ok (.iload_n 2, 1) := by decide +kernel
theorem dX11_tellsPins_46 : decode cX11_tellsPins 46 = .ok (.iconst 1, 1) := by decide +kernel
theorem dX11_tellsPins_47 : decode cX11_tellsPins 47 = .ok (.iadd, 1) := by decide +kernel
theorem dX11_tellsPins_48 : decode cX11_tellsPins 48 = .ok (.invokevirtual 210, 3) := by decide +kernel
theorem dX11_tellsPins_51 : decode cX11_tellsPins 51 = .ok (.iconst 0, 1) := by decide +kernel
theorem dX11_tellsPins_52 : decode cX11_tellsPins 52 = .ok (.bipush 9, 2) := by decide +kernel
theorem dX11_tellsPins_54 : decode cX11_tellsPins 54 = .ok (.invokestatic 104, 3) := by decide +kernel
theorem dX11_tellsPins_57 : decode cX11_tellsPins 57 = .ok (.ifCond .eq 7, 3) := by decide +kernel
theorem dX11_tellsPins_60 : decode cX11_tellsPins 60 = .ok (.iconst 1, 1) := by decide +kernel
theorem dX11_tellsPins_61 : decode cX11_tellsPins 61 = .ok (.goto 4, 3) := by decide +kernel
theorem dX11_tellsPins_64 : decode cX11_tellsPins 64 = .ok (.iconst 0, 1) := by decide +kernel
theorem dX11_tellsPins_65 : decode cX11_tellsPins 65 = .ok (.istore_n 3, 1) := by decide +kernel
theorem dX11_tellsPins_66 : decode cX11_tellsPins 66 = .ok (.iload_n 3, 1) := by decide +kernel
theorem dX11_tellsPins_67 : decode cX11_tellsPins 67 = .ok (.ifCond .eq 20, 3) := by decide +kernel
theorem dX11_tellsPins_70 : decode cX11_tellsPins 70 = .ok (.aload_n 0, 1) := by decide +kernel
theorem dX11_tellsPins_71 : decode cX11_tellsPins 71 = .ok (.getfield 10, 3) := by decide +kernel
theorem dX11_tellsPins_74 : decode cX11_tellsPins 74 = .ok (.aload_n 1, 1) := by decide +kernel
theorem dX11_tellsPins_75 : decode cX11_tellsPins 75 = .ok (.iload_n 2, 1) := by decide +kernel
theorem dX11_tellsPins_76 : decode cX11_tellsPins 76 = .ok (.iconst 2, 1) := by decide +kernel
theorem dX11_tellsPins_77 : decode cX11_tellsPins 77 = .ok (.iadd, 1) := by decide +kernel
theorem dX11_tellsPins_78 : decode cX11_tellsPins 78 = .ok (.invokevirtual 210, 3) := by decide +kernel
theorem dX11_tellsPins_81 : decode cX11_tellsPins 81 = .ok (.invokevirtual 100, 3) := by decide +kernel
theorem dX11_tellsPins_84 : decode cX11_tellsPins 84 = .ok (.ifCond .ne 5, 3) := by decide +kernel
theorem dX11_tellsPins_87 : decode cX11_tellsPins 87 = .ok (.iconst 0, 1) := by decide +kernel
theorem dX11_tellsPins_88 : decode cX11_tellsPins 88 = .ok (.ireturn, 1) := by decide +kernel
theorem dX11_tellsPins_89 : decode cX11_tellsPins 89 = .ok (.iinc 2 3, 3) := by decide +kernel
theorem dX11_tellsPins_92 : decode cX11_tellsPins 92 = .ok (.goto (-70), 3) := by decide +kernel
theorem dX11_tellsPins_95 : decode cX11_tellsPins 95 = .ok (.iconst 1, 1) := by decide +kernel
theorem dX11_tellsPins_96 : decode cX11_tellsPins 96 = .ok (.ireturn, 1) := by decide +kernel
theorem dX11_pinsIn_0 : decode cX11_pinsIn 0 = .ok (.aload_n 0, 1) := by decide +kernel
theorem dX11_pinsIn_1 : decode cX11_pinsIn 1 = .ok (.getfield 207, 3) := by decide +kernel
theorem dX11_pinsIn_4 : decode cX11_pinsIn 4 = .ok (.iconst 3, 1) := by decide +kernel
theorem dX11_pinsIn_5 : decode cX11_pinsIn 5 = .ok (.idiv, 1) := by decide +kernel
theorem dX11_pinsIn_6 : decode cX11_pinsIn 6 = .ok (.ireturn, 1) := by decide +kernel
theorem dX11_sewPinOfRow_0 : decode cX11_sewPinOfRow 0 = .ok (.aload_n 1, 1) := by decide +kernel
theorem dX11_sewPinOfRow_1 : decode cX11_sewPinOfRow 1 = .ok (.aload_n 0, 1) := by decide +kernel
theorem dX11_sewPinOfRow_2 : decode cX11_sewPinOfRow 2 = .ok (.aload_n 2, 1) := by decide +kernel
theorem dX11_sewPinOfRow_3 : decode cX11_sewPinOfRow 3 = .ok (.iconst 3, 1) := by decide +kernel
theorem dX11_sewPinOfRow_4 : decode cX11_sewPinOfRow 4 = .ok (.iload_n 3, 1) := by decide +kernel
theorem dX11_sewPinOfRow_5 : decode cX11_sewPinOfRow 5 = .ok (.imul, 1) := by decide +kernel
theorem dX11_sewPinOfRow_6 : decode cX11_sewPinOfRow 6 = .ok (.invokevirtual 210, 3) := by decide +kernel
theorem dX11_sewPinOfRow_9 : decode cX11_sewPinOfRow 9 = .ok (.invokevirtual 124, 3) := by decide +kernel
theorem dX11_sewPinOfRow_12 : decode cX11_sewPinOfRow 12 = .ok (.aload_n 2, 1) := by decide +kernel
theorem dX11_sewPinOfRow_13 : decode cX11_sewPinOfRow 13 = .ok (.iconst 3, 1) := by decide +kernel
theorem dX11_sewPinOfRow_14 : decode cX11_sewPinOfRow 14 = .ok (.iload_n 3, 1) := by decide +kernel
theorem dX11_sewPinOfRow_15 : decode cX11_sewPinOfRow 15 = .ok (.imul, 1) := by decide +kernel
theorem dX11_sewPinOfRow_16 : decode cX11_sewPinOfRow 16 = .ok (.iconst 1, 1) := by decide +kernel
theorem dX11_sewPinOfRow_17 : decode cX11_sewPinOfRow 17 = .ok (.iadd, 1) := by decide +kernel
theorem dX11_sewPinOfRow_18 : decode cX11_sewPinOfRow 18 = .ok (.invokevirtual 210, 3) := by decide +kernel
theorem dX11_sewPinOfRow_21 : decode cX11_sewPinOfRow 21 = .ok (.aload_n 2, 1) := by decide +kernel
theorem dX11_sewPinOfRow_22 : decode cX11_sewPinOfRow 22 = .ok (.iconst 3, 1) := by decide +kernel
theorem dX11_sewPinOfRow_23 : decode cX11_sewPinOfRow 23 = .ok (.iload_n 3, 1) := by decide +kernel
theorem dX11_sewPinOfRow_24 : decode cX11_sewPinOfRow 24 = .ok (.imul, 1) := by decide +kernel
theorem dX11_sewPinOfRow_25 : decode cX11_sewPinOfRow 25 = .ok (.iconst 2, 1) := by decide +kernel
theorem dX11_sewPinOfRow_26 : decode cX11_sewPinOfRow 26 = .ok (.iadd, 1) := by decide +kernel
theorem dX11_sewPinOfRow_27 : decode cX11_sewPinOfRow 27 = .ok (.invokevirtual 210, 3) := by decide +kernel
theorem dX11_sewPinOfRow_30 : decode cX11_sewPinOfRow 30 = .ok (.invokevirtual 135, 3) := by decide +kernel
theorem dX11_sewPinOfRow_33 : decode cX11_sewPinOfRow 33 = .ok (.ireturn, 1) := by decide +kernel
theorem dX11_sewSetInMind_0 : decode cX11_sewSetInMind 0 = .ok (.aload_n 1, 1) := by decide +kernel
theorem dX11_sewSetInMind_1 : decode cX11_sewSetInMind 1 = .ok (.invokestatic 158, 3) := by decide +kernel
theorem dX11_sewSetInMind_4 : decode cX11_sewSetInMind 4 = .ok (.istore_n 3, 1) := by decide +kernel
theorem dX11_sewSetInMind_5 : decode cX11_sewSetInMind 5 = .ok (.aload_n 0, 1) := by decide +kernel
theorem dX11_sewSetInMind_6 : decode cX11_sewSetInMind 6 = .ok (.getfield 19, 3) := by decide +kernel
theorem dX11_sewSetInMind_9 : decode cX11_sewSetInMind 9 = .ok (.aload_n 0, 1) := by decide +kernel
theorem dX11_sewSetInMind_10 : decode cX11_sewSetInMind 10 = .ok (.getfield 10, 3) := by decide +kernel
theorem dX11_sewSetInMind_13 : decode cX11_sewSetInMind 13 = .ok (.invokevirtual 84, 3) := by decide +kernel
theorem dX11_sewSetInMind_16 : decode cX11_sewSetInMind 16 = .ok (.iconst 0, 1) := by decide +kernel
theorem dX11_sewSetInMind_17 : decode cX11_sewSetInMind 17 = .ok (.istore 4, 2) := by decide +kernel
theorem dX11_sewSetInMind_19 : decode cX11_sewSetInMind 19 = .ok (.iload 4, 2) := by decide +kernel
theorem dX11_sewSetInMind_21 : decode cX11_sewSetInMind 21 = .ok (.iload_n 3, 1) := by decide +kernel
theorem dX11_sewSetInMind_22 : decode cX11_sewSetInMind 22 = .ok (.if_icmp .ge 34, 3) := by decide +kernel
theorem dX11_sewSetInMind_25 : decode cX11_sewSetInMind 25 = .ok (.iload_n 2, 1) := by decide +kernel
theorem dX11_sewSetInMind_26 : decode cX11_sewSetInMind 26 = .ok (.iload 4, 2) := by decide +kernel
theorem dX11_sewSetInMind_28 : decode cX11_sewSetInMind 28 = .ok (.ishr, 1) := by decide +kernel
theorem dX11_sewSetInMind_29 : decode cX11_sewSetInMind 29 = .ok (.iconst 1, 1) := by decide +kernel
theorem dX11_sewSetInMind_30 : decode cX11_sewSetInMind 30 = .ok (.iand, 1) := by decide +kernel
theorem dX11_sewSetInMind_31 : decode cX11_sewSetInMind 31 = .ok (.ifCond .eq 19, 3) := by decide +kernel
theorem dX11_sewSetInMind_34 : decode cX11_sewSetInMind 34 = .ok (.aload_n 0, 1) := by decide +kernel
theorem dX11_sewSetInMind_35 : decode cX11_sewSetInMind 35 = .ok (.aload_n 0, 1) := by decide +kernel
theorem dX11_sewSetInMind_36 : decode cX11_sewSetInMind 36 = .ok (.getfield 19, 3) := by decide +kernel
theorem dX11_sewSetInMind_39 : decode cX11_sewSetInMind 39 = .ok (.aload_n 1, 1) := by decide +kernel
theorem dX11_sewSetInMind_40 : decode cX11_sewSetInMind 40 = .ok (.iload 4, 2) := by decide +kernel
theorem dX11_sewSetInMind_42 : decode cX11_sewSetInMind 42 = .ok (.invokevirtual 169, 3) := by decide +kernel
theorem dX11_sewSetInMind_45 : decode cX11_sewSetInMind 45 = .ok (.ifCond .ne 5, 3) := by decide +kernel
theorem dX11_sewSetInMind_48 : decode cX11_sewSetInMind 48 = .ok (.iconst 0, 1) := by decide +kernel
theorem dX11_sewSetInMind_49 : decode cX11_sewSetInMind 49 = .ok (.ireturn, 1) := by decide +kernel
theorem dX11_sewSetInMind_50 : decode cX11_sewSetInMind 50 = .ok (.iinc 4 1, 3) := by decide +kernel
theorem dX11_sewSetInMind_53 : decode cX11_sewSetInMind 53 = .ok (.goto (-34), 3) := by decide +kernel
theorem dX11_sewSetInMind_56 : decode cX11_sewSetInMind 56 = .ok (.iconst 1, 1) := by decide +kernel
theorem dX11_sewSetInMind_57 : decode cX11_sewSetInMind 57 = .ok (.ireturn, 1) := by decide +kernel
theorem dX11_costOfSet_0 : decode cX11_costOfSet 0 = .ok (.aload_n 1, 1) := by decide +kernel
theorem dX11_costOfSet_1 : decode cX11_costOfSet 1 = .ok (.invokestatic 158, 3) := by decide +kernel
theorem dX11_costOfSet_4 : decode cX11_costOfSet 4 = .ok (.istore_n 3, 1) := by decide +kernel
theorem dX11_costOfSet_5 : decode cX11_costOfSet 5 = .ok (.iconst 0, 1) := by decide +kernel
theorem dX11_costOfSet_6 : decode cX11_costOfSet 6 = .ok (.istore 4, 2) := by decide +kernel
theorem dX11_costOfSet_8 : decode cX11_costOfSet 8 = .ok (.iconst 0, 1) := by decide +kernel
theorem dX11_costOfSet_9 : decode cX11_costOfSet 9 = .ok (.istore 5, 2) := by decide +kernel
theorem dX11_costOfSet_11 : decode cX11_costOfSet 11 = .ok (.iload 5, 2) := by decide +kernel
theorem dX11_costOfSet_13 : decode cX11_costOfSet 13 = .ok (.iload_n 3, 1) := by decide +kernel
theorem dX11_costOfSet_14 : decode cX11_costOfSet 14 = .ok (.if_icmp .ge 48, 3) := by decide +kernel
theorem dX11_costOfSet_17 : decode cX11_costOfSet 17 = .ok (.iload_n 2, 1) := by decide +kernel
theorem dX11_costOfSet_18 : decode cX11_costOfSet 18 = .ok (.iload 5, 2) := by decide +kernel
theorem dX11_costOfSet_20 : decode cX11_costOfSet 20 = .ok (.ishr, 1) := by decide +kernel
theorem dX11_costOfSet_21 : decode cX11_costOfSet 21 = .ok (.iconst 1, 1) := by decide +kernel
theorem dX11_costOfSet_22 : decode cX11_costOfSet 22 = .ok (.iand, 1) := by decide +kernel
theorem dX11_costOfSet_23 : decode cX11_costOfSet 23 = .ok (.ifCond .eq 33, 3) := by decide +kernel
theorem dX11_costOfSet_26 : decode cX11_costOfSet 26 = .ok (.iload 4, 2) := by decide +kernel
theorem dX11_costOfSet_28 : decode cX11_costOfSet 28 = .ok (.aload_n 0, 1) := by decide +kernel
theorem dX11_costOfSet_29 : decode cX11_costOfSet 29 = .ok (.aload_n 1, 1) := by decide +kernel
theorem dX11_costOfSet_30 : decode cX11_costOfSet 30 = .ok (.iconst 3, 1) := by decide +kernel
theorem dX11_costOfSet_31 : decode cX11_costOfSet 31 = .ok (.iload 5, 2) := by decide +kernel
theorem dX11_costOfSet_33 : decode cX11_costOfSet 33 = .ok (.imul, 1) := by decide +kernel
theorem dX11_costOfSet_34 : decode cX11_costOfSet 34 = .ok (.invokevirtual 210, 3) := by decide +kernel
theorem dX11_costOfSet_37 : decode cX11_costOfSet 37 = .ok (.invokevirtual 124, 3) := by decide +kernel
theorem dX11_costOfSet_40 : decode cX11_costOfSet 40 = .ok (.aload_n 1, 1) := by decide +kernel
theorem dX11_costOfSet_41 : decode cX11_costOfSet 41 = .ok (.iconst 3, 1) := by decide +kernel
theorem dX11_costOfSet_42 : decode cX11_costOfSet 42 = .ok (.iload 5, 2) := by decide +kernel
theorem dX11_costOfSet_44 : decode cX11_costOfSet 44 = .ok (.imul, 1) := by decide +kernel
theorem dX11_costOfSet_45 : decode cX11_costOfSet 45 = .ok (.iconst 1, 1) := by decide +kernel
theorem dX11_costOfSet_46 : decode cX11_costOfSet 46 = .ok (.iadd, 1) := by decide +kernel
theorem dX11_costOfSet_47 : decode cX11_costOfSet 47 = .ok (.invokevirtual 210, 3) := by decide +kernel
theorem dX11_costOfSet_50 : decode cX11_costOfSet 50 = .ok (.invokevirtual 152, 3) := by decide +kernel
theorem dX11_costOfSet_53 : decode cX11_costOfSet 53 = .ok (.iadd, 1) := by decide +kernel
theorem dX11_costOfSet_54 : decode cX11_costOfSet 54 = .ok (.istore 4, 2) := by decide +kernel
theorem dX11_costOfSet_56 : decode cX11_costOfSet 56 = .ok (.iinc 5 1, 3) := by decide +kernel
theorem dX11_costOfSet_59 : decode cX11_costOfSet 59 = .ok (.goto (-48), 3) := by decide +kernel
theorem dX11_costOfSet_62 : decode cX11_costOfSet 62 = .ok (.iload 4, 2) := by decide +kernel
theorem dX11_costOfSet_64 : decode cX11_costOfSet 64 = .ok (.ireturn, 1) := by decide +kernel
theorem dX11_sewOrderInMind_0 : decode cX11_sewOrderInMind 0 = .ok (.iload_n 2, 1) := by decide +kernel
theorem dX11_sewOrderInMind_1 : decode cX11_sewOrderInMind 1 = .ok (.istore_n 3, 1) := by decide +kernel
theorem dX11_sewOrderInMind_2 : decode cX11_sewOrderInMind 2 = .ok (.iconst 0, 1) := by decide +kernel
theorem dX11_sewOrderInMind_3 : decode cX11_sewOrderInMind 3 = .ok (.istore 4, 2) := by decide +kernel
theorem dX11_sewOrderInMind_5 : decode cX11_sewOrderInMind 5 = .ok (.aload_n 0, 1) := by decide +kernel
theorem dX11_sewOrderInMind_6 : decode cX11_sewOrderInMind 6 = .ok (.getfield 19, 3) := by decide +kernel
theorem dX11_sewOrderInMind_9 : decode cX11_sewOrderInMind 9 = .ok (.aload_n 0, 1) := by decide +kernel
theorem dX11_sewOrderInMind_10 : decode cX11_sewOrderInMind 10 = .ok (.getfield 10, 3) := by decide +kernel
theorem dX11_sewOrderInMind_13 : decode cX11_sewOrderInMind 13 = .ok (.invokevirtual 84, 3) := by decide +kernel
theorem dX11_sewOrderInMind_16 : decode cX11_sewOrderInMind 16 = .ok (.aload_n 1, 1) := by decide +kernel
theorem dX11_sewOrderInMind_17 : decode cX11_sewOrderInMind 17 = .ok (.invokestatic 158, 3) := by decide +kernel
theorem dX11_sewOrderInMind_20 : decode cX11_sewOrderInMind 20 = .ok (.istore 5, 2) := by decide +kernel
theorem dX11_sewOrderInMind_22 : decode cX11_sewOrderInMind 22 = .ok (.iload 5, 2) := by decide +kernel
theorem dX11_sewOrderInMind_24 : decode cX11_sewOrderInMind 24 = .ok (.ifCond .le 50, 3) := by decide +kernel
theorem dX11_sewOrderInMind_27 : decode cX11_sewOrderInMind 27 = .ok (.iload 4, 2) := by decide +kernel
theorem dX11_sewOrderInMind_29 : decode cX11_sewOrderInMind 29 = .ok (.iload_n 3, 1) := by decide +kernel
theorem dX11_sewOrderInMind_30 : decode cX11_sewOrderInMind 30 = .ok (.iload 5, 2) := by decide +kernel
theorem dX11_sewOrderInMind_32 : decode cX11_sewOrderInMind 32 = .ok (.irem, 1) := by decide +kernel
theorem dX11_sewOrderInMind_33 : decode cX11_sewOrderInMind 33 = .ok (.invokestatic 305, 3) := by decide +kernel
theorem dX11_sewOrderInMind_36 : decode cX11_sewOrderInMind 36 = .ok (.istore 6, 2) := by decide +kernel
theorem dX11_sewOrderInMind_38 : decode cX11_sewOrderInMind 38 = .ok (.iload_n 3, 1) := by decide +kernel
theorem dX11_sewOrderInMind_39 : decode cX11_sewOrderInMind 39 = .ok (.iload 5, 2) := by decide +kernel
theorem dX11_sewOrderInMind_41 : decode cX11_sewOrderInMind 41 = .ok (.idiv, 1) := by decide +kernel
theorem dX11_sewOrderInMind_42 : decode cX11_sewOrderInMind 42 = .ok (.istore_n 3, 1) := by decide +kernel
theorem dX11_sewOrderInMind_43 : decode cX11_sewOrderInMind 43 = .ok (.iload 4, 2) := by decide +kernel
theorem dX11_sewOrderInMind_45 : decode cX11_sewOrderInMind 45 = .ok (.iconst 1, 1) := by decide +kernel
theorem dX11_sewOrderInMind_46 : decode cX11_sewOrderInMind 46 = .ok (.iload 6, 2) := by decide +kernel
theorem dX11_sewOrderInMind_48 : decode cX11_sewOrderInMind 48 = .ok (.ishl, 1) := by decide +kernel
theorem dX11_sewOrderInMind_49 : decode cX11_sewOrderInMind 49 = .ok (.ior, 1) := by decide +kernel
theorem dX11_sewOrderInMind_50 : decode cX11_sewOrderInMind 50 = .ok (.istore 4, 2) := by decide +kernel
theorem dX11_sewOrderInMind_52 : decode cX11_sewOrderInMind 52 = .ok (.aload_n 0, 1) := by decide +kernel
theorem dX11_sewOrderInMind_53 : decode cX11_sewOrderInMind 53 = .ok (.aload_n 0, 1) := by decide +kernel
theorem dX11_sewOrderInMind_54 : decode cX11_sewOrderInMind 54 = .ok (.getfield 19, 3) := by decide +kernel
theorem dX11_sewOrderInMind_57 : decode cX11_sewOrderInMind 57 = .ok (.aload_n 1, 1) := by decide +kernel
theorem dX11_sewOrderInMind_58 : decode cX11_sewOrderInMind 58 = .ok (.iload 6, 2) := by decide +kernel
theorem dX11_sewOrderInMind_60 : decode cX11_sewOrderInMind 60 = .ok (.invokevirtual 169, 3) := by decide +kernel
theorem dX11_sewOrderInMind_63 : decode cX11_sewOrderInMind 63 = .ok (.ifCond .ne 5, 3) := by decide +kernel
theorem dX11_sewOrderInMind_66 : decode cX11_sewOrderInMind 66 = .ok (.iconst 0, 1) := by decide +kernel
theorem dX11_sewOrderInMind_67 : decode cX11_sewOrderInMind 67 = .ok (.ireturn, 1) := by decide +kernel
theorem dX11_sewOrderInMind_68 : decode cX11_sewOrderInMind 68 = .ok (.iinc 5 (-1), 3) := by decide +kernel
theorem dX11_sewOrderInMind_71 : decode cX11_sewOrderInMind 71 = .ok (.goto (-49), 3) := by decide +kernel
theorem dX11_sewOrderInMind_74 : decode cX11_sewOrderInMind 74 = .ok (.iconst 1, 1) := by decide +kernel
theorem dX11_sewOrderInMind_75 : decode cX11_sewOrderInMind 75 = .ok (.ireturn, 1) := by decide +kernel
theorem dX11_unusedPlace_0 : decode cX11_unusedPlace 0 = .ok (.iconst 0, 1) := by decide +kernel
theorem dX11_unusedPlace_1 : decode cX11_unusedPlace 1 = .ok (.istore_n 2, 1) := by decide +kernel
theorem dX11_unusedPlace_2 : decode cX11_unusedPlace 2 = .ok (.iconst 0, 1) := by decide +kernel
theorem dX11_unusedPlace_3 : decode cX11_unusedPlace 3 = .ok (.istore_n 3, 1) := by decide +kernel
theorem dX11_unusedPlace_4 : decode cX11_unusedPlace 4 = .ok (.iload_n 3, 1) := by decide +kernel
theorem dX11_unusedPlace_5 : decode cX11_unusedPlace 5 = .ok (.bipush 6, 2) := by decide +kernel
theorem dX11_unusedPlace_7 : decode cX11_unusedPlace 7 = .ok (.if_icmp .ge 27, 3) := by decide +kernel
theorem dX11_unusedPlace_10 : decode cX11_unusedPlace 10 = .ok (.iload_n 0, 1) := by decide +kernel
theorem dX11_unusedPlace_11 : decode cX11_unusedPlace 11 = .ok (.iload_n 3, 1) := by decide +kernel
theorem dX11_unusedPlace_12 : decode cX11_unusedPlace 12 = .ok (.ishr, 1) := by decide +kernel
theorem dX11_unusedPlace_13 : decode cX11_unusedPlace 13 = .ok (.iconst 1, 1) := by decide +kernel
theorem dX11_unusedPlace_14 : decode cX11_unusedPlace 14 = .ok (.iand, 1) := by decide +kernel
theorem dX11_unusedPlace_15 : decode cX11_unusedPlace 15 = .ok (.ifCond .ne 13, 3) := by decide +kernel
theorem dX11_unusedPlace_18 : decode cX11_unusedPlace 18 = .ok (.iload_n 2, 1) := by decide +kernel
theorem dX11_unusedPlace_19 : decode cX11_unusedPlace 19 = .ok (.iload_n 1, 1) := by decide +kernel
theorem dX11_unusedPlace_20 : decode cX11_unusedPlace 20 = .ok (.if_icmp .ne 5, 3) := by decide +kernel
theorem dX11_unusedPlace_23 : decode cX11_unusedPlace 23 = .ok (.iload_n 3, 1) := by decide +kernel
theorem dX11_unusedPlace_24 : decode cX11_unusedPlace 24 = .ok (.ireturn, 1) := by decide +kernel
theorem dX11_unusedPlace_25 : decode cX11_unusedPlace 25 = .ok (.iinc 2 1, 3) := by decide +kernel
theorem dX11_unusedPlace_28 : decode cX11_unusedPlace 28 = .ok (.iinc 3 1, 3) := by decide +kernel
theorem dX11_unusedPlace_31 : decode cX11_unusedPlace 31 = .ok (.goto (-27), 3) := by decide +kernel
theorem dX11_unusedPlace_34 : decode cX11_unusedPlace 34 = .ok (.iconst 0, 1) := by decide +kernel
theorem dX11_unusedPlace_35 : decode cX11_unusedPlace 35 = .ok (.ireturn, 1) := by decide +kernel
theorem dX11_fitting_0 : decode cX11_fitting 0 = .ok (.iconst 0, 1) := by decide +kernel
theorem dX11_fitting_1 : decode cX11_fitting 1 = .ok (.istore_n 2, 1) := by decide +kernel
theorem dX11_fitting_2 : decode cX11_fitting 2 = .ok (.iconst 0, 1) := by decide +kernel
theorem dX11_fitting_3 : decode cX11_fitting 3 = .ok (.istore_n 3, 1) := by decide +kernel
theorem dX11_fitting_4 : decode cX11_fitting 4 = .ok (.iload_n 3, 1) := by decide +kernel
theorem dX11_fitting_5 : decode cX11_fitting 5 = .ok (.aload_n 0, 1) := by decide +kernel
theorem dX11_fitting_6 : decode cX11_fitting 6 = .ok (.getfield 10, 3) := by decide +kernel
theorem dX11_fitting_9 : decode cX11_fitting 9 = .ok (.getfield 149, 3) := by decide +kernel
theorem dX11_fitting_12 : decode cX11_fitting 12 = .ok (.if_icmp .ge 27, 3) := by decide +kernel
theorem dX11_fitting_15 : decode cX11_fitting 15 = .ok (.aload_n 0, 1) := by decide +kernel
theorem dX11_fitting_16 : decode cX11_fitting 16 = .ok (.getfield 10, 3) := by decide +kernel
theorem dX11_fitting_19 : decode cX11_fitting 19 = .ok (.iload_n 3, 1) := by decide +kernel
theorem dX11_fitting_20 : decode cX11_fitting 20 = .ok (.iload_n 1, 1) := by decide +kernel
theorem dX11_fitting_21 : decode cX11_fitting 21 = .ok (.invokevirtual 308, 3) := by decide +kernel
theorem dX11_fitting_24 : decode cX11_fitting 24 = .ok (.ifCond .eq 9, 3) := by decide +kernel
theorem dX11_fitting_27 : decode cX11_fitting 27 = .ok (.iload_n 2, 1) := by decide +kernel
theorem dX11_fitting_28 : decode cX11_fitting 28 = .ok (.iconst 1, 1) := by decide +kernel
theorem dX11_fitting_29 : decode cX11_fitting 29 = .ok (.iload_n 3, 1) := by decide +kernel
theorem dX11_fitting_30 : decode cX11_fitting 30 = .ok (.ishl, 1) := by decide +kernel
theorem dX11_fitting_31 : decode cX11_fitting 31 = .ok (.ior, 1) := by decide +kernel
theorem dX11_fitting_32 : decode cX11_fitting 32 = .ok (.istore_n 2, 1) := by decide +kernel
theorem dX11_fitting_33 : decode cX11_fitting 33 = .ok (.iinc 3 1, 3) := by decide +kernel
theorem dX11_fitting_36 : decode cX11_fitting 36 = .ok (.goto (-32), 3) := by decide +kernel
theorem dX11_fitting_39 : decode cX11_fitting 39 = .ok (.iload_n 2, 1) := by decide +kernel
theorem dX11_fitting_40 : decode cX11_fitting 40 = .ok (.ireturn, 1) := by decide +kernel
theorem dX11_tellsMeasures_0 : decode cX11_tellsMeasures 0 = .ok (.aload_n 1, 1) := by decide +kernel
theorem dX11_tellsMeasures_1 : decode cX11_tellsMeasures 1 = .ok (.getfield 207, 3) := by decide +kernel
theorem dX11_tellsMeasures_4 : decode cX11_tellsMeasures 4 = .ok (.iconst 3, 1) := by decide +kernel
theorem dX11_tellsMeasures_5 : decode cX11_tellsMeasures 5 = .ok (.irem, 1) := by decide +kernel
theorem dX11_tellsMeasures_6 : decode cX11_tellsMeasures 6 = .ok (.ifCond .eq 5, 3) := by decide +kernel
theorem dX11_tellsMeasures_9 : decode cX11_tellsMeasures 9 = .ok (.iconst 0, 1) := by decide +kernel
theorem dX11_tellsMeasures_10 : decode cX11_tellsMeasures 10 = .ok (.ireturn, 1) := by decide +kernel
theorem dX11_tellsMeasures_11 : decode cX11_tellsMeasures 11 = .ok (.iconst 0, 1) := by decide +kernel
theorem dX11_tellsMeasures_12 : decode cX11_tellsMeasures 12 = .ok (.istore_n 2, 1) := by decide +kernel
theorem dX11_tellsMeasures_13 : decode cX11_tellsMeasures 13 = .ok (.iload_n 2, 1) := by decide +kernel
theorem dX11_tellsMeasures_14 : decode cX11_tellsMeasures 14 = .ok (.aload_n 1, 1) := by decide +kernel
theorem dX11_tellsMeasures_15 : decode cX11_tellsMeasures 15 = .ok (.getfield 207, 3) := by decide +kernel
theorem dX11_tellsMeasures_18 : decode cX11_tellsMeasures 18 = .ok (.if_icmp .ge 55, 3) := by decide +kernel
theorem dX11_tellsMeasures_21 : decode cX11_tellsMeasures 21 = .ok (.aload_n 1, 1) := by decide +kernel
theorem dX11_tellsMeasures_22 : decode cX11_tellsMeasures 22 = .ok (.iload_n 2, 1) := by decide +kernel
theorem dX11_tellsMeasures_23 : decode cX11_tellsMeasures 23 = .ok (.invokevirtual 210, 3) := by decide +kernel
theorem dX11_tellsMeasures_26 : decode cX11_tellsMeasures 26 = .ok (.istore_n 3, 1) := by decide +kernel
theorem dX11_tellsMeasures_27 : decode cX11_tellsMeasures 27 = .ok (.aload_n 1, 1) := by decide +kernel
theorem dX11_tellsMeasures_28 : decode cX11_tellsMeasures 28 = .ok (.iload_n 2, 1) := by decide +kernel
theorem dX11_tellsMeasures_29 : decode cX11_tellsMeasures 29 = .ok (.iconst 1, 1) := by decide +kernel
theorem dX11_tellsMeasures_30 : decode cX11_tellsMeasures 30 = .ok (.iadd, 1) := by decide +kernel
theorem dX11_tellsMeasures_31 : decode cX11_tellsMeasures 31 = .ok (.invokevirtual 210, 3) := by decide +kernel
theorem dX11_tellsMeasures_34 : decode cX11_tellsMeasures 34 = .ok (.istore 4, 2) := by decide +kernel
theorem dX11_tellsMeasures_36 : decode cX11_tellsMeasures 36 = .ok (.aload_n 0, 1) := by decide +kernel
theorem dX11_tellsMeasures_37 : decode cX11_tellsMeasures 37 = .ok (.getfield 10, 3) := by decide +kernel
theorem dX11_tellsMeasures_40 : decode cX11_tellsMeasures 40 = .ok (.iload_n 3, 1) := by decide +kernel
theorem dX11_tellsMeasures_41 : decode cX11_tellsMeasures 41 = .ok (.invokevirtual 100, 3) := by decide +kernel
theorem dX11_tellsMeasures_44 : decode cX11_tellsMeasures 44 = .ok (.ifCond .eq 21, 3) := by decide +kernel
theorem dX11_tellsMeasures_47 : decode cX11_tellsMeasures 47 = .ok (.aload_n 0, 1) := by decide +kernel
theorem dX11_tellsMeasures_48 : decode cX11_tellsMeasures 48 = .ok (.getfield 10, 3) := by decide +kernel
theorem dX11_tellsMeasures_51 : decode cX11_tellsMeasures 51 = .ok (.iload 4, 2) := by decide +kernel
theorem dX11_tellsMeasures_53 : decode cX11_tellsMeasures 53 = .ok (.invokevirtual 100, 3) := by decide +kernel
theorem dX11_tellsMeasures_56 : decode cX11_tellsMeasures 56 = .ok (.ifCond .eq 9, 3) := by decide +kernel
theorem dX11_tellsMeasures_59 : decode cX11_tellsMeasures 59 = .ok (.iload_n 3, 1) := by decide +kernel
theorem dX11_tellsMeasures_60 : decode cX11_tellsMeasures 60 = .ok (.iload 4, 2) := by decide +kernel
theorem dX11_tellsMeasures_62 : decode cX11_tellsMeasures 62 = .ok (.if_icmp .ne 5, 3) := by decide +kernel
theorem dX11_tellsMeasures_65 : decode cX11_tellsMeasures 65 = .ok (.iconst 0, 1) := by decide +kernel
theorem dX11_tellsMeasures_66 : decode cX11_tellsMeasures 66 = .ok (.ireturn, 1) := by decide +kernel
theorem dX11_tellsMeasures_67 : decode cX11_tellsMeasures 67 = .ok (.iinc 2 3, 3) := by decide +kernel
theorem dX11_tellsMeasures_70 : decode cX11_tellsMeasures 70 = .ok (.goto (-57), 3) := by decide +kernel
theorem dX11_tellsMeasures_73 : decode cX11_tellsMeasures 73 = .ok (.iconst 1, 1) := by decide +kernel
theorem dX11_tellsMeasures_74 : decode cX11_tellsMeasures 74 = .ok (.ireturn, 1) := by decide +kernel
theorem dX11_isWrongMeasure_0 : decode cX11_isWrongMeasure 0 = .ok (.aload_n 0, 1) := by decide +kernel
theorem dX11_isWrongMeasure_1 : decode cX11_isWrongMeasure 1 = .ok (.getfield 10, 3) := by decide +kernel
theorem dX11_isWrongMeasure_4 : decode cX11_isWrongMeasure 4 = .ok (.aload_n 1, 1) := by decide +kernel
theorem dX11_isWrongMeasure_5 : decode cX11_isWrongMeasure 5 = .ok (.iload_n 2, 1) := by decide +kernel
theorem dX11_isWrongMeasure_6 : decode cX11_isWrongMeasure 6 = .ok (.invokevirtual 210, 3) := by decide +kernel
theorem dX11_isWrongMeasure_9 : decode cX11_isWrongMeasure 9 = .ok (.iconst 0, 1) := by decide +kernel
theorem dX11_isWrongMeasure_10 : decode cX11_isWrongMeasure 10 = .ok (.invokevirtual 108, 3) := by decide +kernel
theorem dX11_isWrongMeasure_13 : decode cX11_isWrongMeasure 13 = .ok (.aload_n 0, 1) := by decide +kernel
theorem dX11_isWrongMeasure_14 : decode cX11_isWrongMeasure 14 = .ok (.getfield 10, 3) := by decide +kernel
theorem dX11_isWrongMeasure_17 : decode cX11_isWrongMeasure 17 = .ok (.aload_n 1, 1) := by decide +kernel
theorem dX11_isWrongMeasure_18 : decode cX11_isWrongMeasure 18 = .ok (.iload_n 2, 1) := by decide +kernel
theorem dX11_isWrongMeasure_19 : decode cX11_isWrongMeasure 19 = .ok (.iconst 1, 1) := by decide +kernel
theorem dX11_isWrongMeasure_20 : decode cX11_isWrongMeasure 20 = .ok (.iadd, 1) := by decide +kernel
theorem dX11_isWrongMeasure_21 : decode cX11_isWrongMeasure 21 = .ok (.invokevirtual 210, 3) := by decide +kernel
theorem dX11_isWrongMeasure_24 : decode cX11_isWrongMeasure 24 = .ok (.iconst 0, 1) := by decide +kernel
theorem dX11_isWrongMeasure_25 : decode cX11_isWrongMeasure 25 = .ok (.invokevirtual 108, 3) := by decide +kernel
theorem dX11_isWrongMeasure_28 : decode cX11_isWrongMeasure 28 = .ok (.isub, 1) := by decide +kernel
theorem dX11_isWrongMeasure_29 : decode cX11_isWrongMeasure 29 = .ok (.aload_n 1, 1) := by decide +kernel
theorem dX11_isWrongMeasure_30 : decode cX11_isWrongMeasure 30 = .ok (.iload_n 2, 1) := by decide +kernel
theorem dX11_isWrongMeasure_31 : decode cX11_isWrongMeasure 31 = .ok (.iconst 2, 1) := by decide +kernel
theorem dX11_isWrongMeasure_32 : decode cX11_isWrongMeasure 32 = .ok (.iadd, 1) := by decide +kernel
theorem dX11_isWrongMeasure_33 : decode cX11_isWrongMeasure 33 = .ok (.invokevirtual 210, 3) := by decide +kernel
theorem dX11_isWrongMeasure_36 : decode cX11_isWrongMeasure 36 = .ok (.if_icmp .eq 7, 3) := by decide +kernel
theorem dX11_isWrongMeasure_39 : decode cX11_isWrongMeasure 39 = .ok (.iconst 1, 1) := by decide +kernel
theorem dX11_isWrongMeasure_40 : decode cX11_isWrongMeasure 40 = .ok (.goto 4, 3) := by decide +kernel
theorem dX11_isWrongMeasure_43 : decode cX11_isWrongMeasure 43 = .ok (.iconst 0, 1) := by decide +kernel
theorem dX11_isWrongMeasure_44 : decode cX11_isWrongMeasure 44 = .ok (.ireturn, 1) := by decide +kernel
theorem dX11_firstWrongMeasure_0 : decode cX11_firstWrongMeasure 0 = .ok (.iconst 0, 1) := by decide +kernel
theorem dX11_firstWrongMeasure_1 : decode cX11_firstWrongMeasure 1 = .ok (.istore_n 2, 1) := by decide +kernel
theorem dX11_firstWrongMeasure_2 : decode cX11_firstWrongMeasure 2 = .ok (.iload_n 2, 1) := by decide +kernel
theorem dX11_firstWrongMeasure_3 : decode cX11_firstWrongMeasure 3 = .ok (.aload_n 1, 1) := by decide +kernel
theorem dX11_firstWrongMeasure_4 : decode cX11_firstWrongMeasure 4 = .ok (.getfield 207, 3) := by decide +kernel
theorem dX11_firstWrongMeasure_7 : decode cX11_firstWrongMeasure 7 = .ok (.if_icmp .ge 20, 3) := by decide +kernel
theorem dX11_firstWrongMeasure_10 : decode cX11_firstWrongMeasure 10 = .ok (.aload_n 0, 1) := by decide +kernel
theorem dX11_firstWrongMeasure_11 : decode cX11_firstWrongMeasure 11 = .ok (.aload_n 1, 1) := by decide +kernel
theorem dX11_firstWrongMeasure_12 : decode cX11_firstWrongMeasure 12 = .ok (.iload_n 2, 1) := by decide +kernel
theorem dX11_firstWrongMeasure_13 : decode cX11_firstWrongMeasure 13 = .ok (.invokevirtual 311, 3) := by decide +kernel
theorem dX11_firstWrongMeasure_16 : decode cX11_firstWrongMeasure 16 = .ok (.ifCond .eq 5, 3) := by decide +kernel
theorem dX11_firstWrongMeasure_19 : decode cX11_firstWrongMeasure 19 = .ok (.iload_n 2, 1) := by decide +kernel
theorem dX11_firstWrongMeasure_20 : decode cX11_firstWrongMeasure 20 = .ok (.ireturn, 1) := by decide +kernel
theorem dX11_firstWrongMeasure_21 : decode cX11_firstWrongMeasure 21 = .ok (.iinc 2 3, 3) := by decide +kernel
theorem dX11_firstWrongMeasure_24 : decode cX11_firstWrongMeasure 24 = .ok (.goto (-22), 3) := by decide +kernel
theorem dX11_firstWrongMeasure_27 : decode cX11_firstWrongMeasure 27 = .ok (.bipush (-4), 2) := by decide +kernel
theorem dX11_firstWrongMeasure_29 : decode cX11_firstWrongMeasure 29 = .ok (.ireturn, 1) := by decide +kernel
theorem dX11_ringMostWrong_0 : decode cX11_ringMostWrong 0 = .ok (.bipush (-4), 2) := by decide +kernel
theorem dX11_ringMostWrong_2 : decode cX11_ringMostWrong 2 = .ok (.istore_n 2, 1) := by decide +kernel
theorem dX11_ringMostWrong_3 : decode cX11_ringMostWrong 3 = .ok (.iconst 0, 1) := by decide +kernel
theorem dX11_ringMostWrong_4 : decode cX11_ringMostWrong 4 = .ok (.istore_n 3, 1) := by decide +kernel
theorem dX11_ringMostWrong_5 : decode cX11_ringMostWrong 5 = .ok (.iconst 0, 1) := by decide +kernel
theorem dX11_ringMostWrong_6 : decode cX11_ringMostWrong 6 = .ok (.istore 4, 2) := by decide +kernel
theorem dX11_ringMostWrong_8 : decode cX11_ringMostWrong 8 = .ok (.iload 4, 2) := by decide +kernel
theorem dX11_ringMostWrong_10 : decode cX11_ringMostWrong 10 = .ok (.aload_n 0, 1) := by decide +kernel
theorem dX11_ringMostWrong_11 : decode cX11_ringMostWrong 11 = .ok (.getfield 10, 3) := by decide +kernel
theorem dX11_ringMostWrong_14 : decode cX11_ringMostWrong 14 = .ok (.getfield 149, 3) := by decide +kernel
theorem dX11_ringMostWrong_17 : decode cX11_ringMostWrong 17 = .ok (.if_icmp .ge 30, 3) := by decide +kernel
theorem dX11_ringMostWrong_20 : decode cX11_ringMostWrong 20 = .ok (.aload_n 0, 1) := by decide +kernel
theorem dX11_ringMostWrong_21 : decode cX11_ringMostWrong 21 = .ok (.aload_n 1, 1) := by decide +kernel
theorem dX11_ringMostWrong_22 : decode cX11_ringMostWrong 22 = .ok (.iload 4, 2) := by decide +kernel
theorem dX11_ringMostWrong_24 : decode cX11_ringMostWrong 24 = .ok (.invokevirtual 314, 3) := by decide +kernel
theorem dX11_ringMostWrong_27 : decode cX11_ringMostWrong 27 = .ok (.istore 5, 2) := by decide +kernel
theorem dX11_ringMostWrong_29 : decode cX11_ringMostWrong 29 = .ok (.iload 5, 2) := by decide +kernel
theorem dX11_ringMostWrong_31 : decode cX11_ringMostWrong 31 = .ok (.iload_n 3, 1) := by decide +kernel
theorem dX11_ringMostWrong_32 : decode cX11_ringMostWrong 32 = .ok (.if_icmp .le 9, 3) := by decide +kernel
theorem dX11_ringMostWrong_35 : decode cX11_ringMostWrong 35 = .ok (.iload 4, 2) := by decide +kernel
theorem dX11_ringMostWrong_37 : decode cX11_ringMostWrong 37 = .ok (.istore_n 2, 1) := by decide +kernel
theorem dX11_ringMostWrong_38 : decode cX11_ringMostWrong 38 = .ok (.iload 5, 2) := by decide +kernel
theorem dX11_ringMostWrong_40 : decode cX11_ringMostWrong 40 = .ok (.istore_n 3, 1) := by decide +kernel
theorem dX11_ringMostWrong_41 : decode cX11_ringMostWrong 41 = .ok (.iinc 4 1, 3) := by decide +kernel
theorem dX11_ringMostWrong_44 : decode cX11_ringMostWrong 44 = .ok (.goto (-36), 3) := by decide +kernel
theorem dX11_ringMostWrong_47 : decode cX11_ringMostWrong 47 = .ok (.iload_n 2, 1) := by decide +kernel
theorem dX11_ringMostWrong_48 : decode cX11_ringMostWrong 48 = .ok (.ireturn, 1) := by decide +kernel
theorem dX11_timesWrong_0 : decode cX11_timesWrong 0 = .ok (.iconst 0, 1) := by decide +kernel
theorem dX11_timesWrong_1 : decode cX11_timesWrong 1 = .ok (.istore_n 3, 1) := by decide +kernel
theorem dX11_timesWrong_2 : decode cX11_timesWrong 2 = .ok (.iconst 0, 1) := by decide +kernel
theorem dX11_timesWrong_3 : decode cX11_timesWrong 3 = .ok (.istore 4, 2) := by decide +kernel
theorem dX11_timesWrong_5 : decode cX11_timesWrong 5 = .ok (.iload 4, 2) := by decide +kernel
theorem dX11_timesWrong_7 : decode cX11_timesWrong 7 = .ok (.aload_n 1, 1) := by decide +kernel
theorem dX11_timesWrong_8 : decode cX11_timesWrong 8 = .ok (.getfield 207, 3) := by decide +kernel
theorem dX11_timesWrong_11 : decode cX11_timesWrong 11 = .ok (.if_icmp .ge 44, 3) := by decide +kernel
theorem dX11_timesWrong_14 : decode cX11_timesWrong 14 = .ok (.aload_n 1, 1) := by decide +kernel
theorem dX11_timesWrong_15 : decode cX11_timesWrong 15 = .ok (.iload 4, 2) := by decide +kernel
theorem dX11_timesWrong_17 : decode cX11_timesWrong 17 = .ok (.invokevirtual 210, 3) := by decide +kernel
theorem dX11_timesWrong_20 : decode cX11_timesWrong 20 = .ok (.iload_n 2, 1) := by decide +kernel
theorem dX11_timesWrong_21 : decode cX11_timesWrong 21 = .ok (.if_icmp .eq 15, 3) := by decide +kernel
theorem dX11_timesWrong_24 : decode cX11_timesWrong 24 = .ok (.aload_n 1, 1) := by decide +kernel
theorem dX11_timesWrong_25 : decode cX11_timesWrong 25 = .ok (.iload 4, 2) := by decide +kernel
theorem dX11_timesWrong_27 : decode cX11_timesWrong 27 = .ok (.iconst 1, 1) := by decide +kernel
theorem dX11_timesWrong_28 : decode cX11_timesWrong 28 = .ok (.iadd, 1) := by decide +kernel
theorem dX11_timesWrong_29 : decode cX11_timesWrong 29 = .ok (.invokevirtual 210, 3) := by decide +kernel
theorem dX11_timesWrong_32 : decode cX11_timesWrong 32 = .ok (.iload_n 2, 1) := by decide +kernel
theorem dX11_timesWrong_33 : decode cX11_timesWrong 33 = .ok (.if_icmp .ne 16, 3) := by decide +kernel
theorem dX11_timesWrong_36 : decode cX11_timesWrong 36 = .ok (.aload_n 0, 1) := by decide +kernel
theorem dX11_timesWrong_37 : decode cX11_timesWrong 37 = .ok (.aload_n 1, 1) := by decide +kernel
theorem dX11_timesWrong_38 : decode cX11_timesWrong 38 = .ok (.iload 4, 2) := by decide +kernel
theorem dX11_timesWrong_40 : decode cX11_timesWrong 40 = .ok (.invokevirtual 311, 3) := by decide +kernel
theorem dX11_timesWrong_43 : decode cX11_timesWrong 43 = .ok (.ifCond .eq 6, 3) := by decide +kernel
theorem dX11_timesWrong_46 : decode cX11_timesWrong 46 = .ok (.iinc 3 1, 3) := by decide +kernel
theorem dX11_timesWrong_49 : decode cX11_timesWrong 49 = .ok (.iinc 4 3, 3) := by decide +kernel
theorem dX11_timesWrong_52 : decode cX11_timesWrong 52 = .ok (.goto (-47), 3) := by decide +kernel
theorem dX11_timesWrong_55 : decode cX11_timesWrong 55 = .ok (.iload_n 3, 1) := by decide +kernel
theorem dX11_timesWrong_56 : decode cX11_timesWrong 56 = .ok (.ireturn, 1) := by decide +kernel
theorem dX11_tellsLengths_0 : decode cX11_tellsLengths 0 = .ok (.aload_n 0, 1) := by decide +kernel
theorem dX11_tellsLengths_1 : decode cX11_tellsLengths 1 = .ok (.getfield 207, 3) := by decide +kernel
theorem dX11_tellsLengths_4 : decode cX11_tellsLengths 4 = .ok (.iconst 1, 1) := by decide +kernel
theorem dX11_tellsLengths_5 : decode cX11_tellsLengths 5 = .ok (.iload_n 1, 1) := by decide +kernel
theorem dX11_tellsLengths_6 : decode cX11_tellsLengths 6 = .ok (.invokestatic 104, 3) := by decide +kernel
theorem dX11_tellsLengths_9 : decode cX11_tellsLengths 9 = .ok (.ifCond .ne 5, 3) := by decide +kernel
theorem dX11_tellsLengths_12 : decode cX11_tellsLengths 12 = .ok (.iconst 0, 1) := by decide +kernel
theorem dX11_tellsLengths_13 : decode cX11_tellsLengths 13 = .ok (.ireturn, 1) := by decide +kernel
theorem dX11_tellsLengths_14 : decode cX11_tellsLengths 14 = .ok (.iconst 0, 1) := by decide +kernel
theorem dX11_tellsLengths_15 : decode cX11_tellsLengths 15 = .ok (.istore_n 2, 1) := by decide +kernel
theorem dX11_tellsLengths_16 : decode cX11_tellsLengths 16 = .ok (.iload_n 2, 1) := by decide +kernel
theorem dX11_tellsLengths_17 : decode cX11_tellsLengths 17 = .ok (.aload_n 0, 1) := by decide +kernel
theorem dX11_tellsLengths_18 : decode cX11_tellsLengths 18 = .ok (.getfield 207, 3) := by decide +kernel
theorem dX11_tellsLengths_21 : decode cX11_tellsLengths 21 = .ok (.if_icmp .ge 25, 3) := by decide +kernel
theorem dX11_tellsLengths_24 : decode cX11_tellsLengths 24 = .ok (.aload_n 0, 1) := by decide +kernel
theorem dX11_tellsLengths_25 : decode cX11_tellsLengths 25 = .ok (.iload_n 2, 1) := by decide +kernel
theorem dX11_tellsLengths_26 : decode cX11_tellsLengths 26 = .ok (.invokevirtual 210, 3) := by decide +kernel
theorem dX11_tellsLengths_29 : decode cX11_tellsLengths 29 = .ok (.iconst 1, 1) := by decide +kernel
theorem dX11_tellsLengths_30 : decode cX11_tellsLengths 30 = .ok (.bipush 99, 2) := by decide +kernel
theorem dX11_tellsLengths_32 : decode cX11_tellsLengths 32 = .ok (.invokestatic 104, 3) := by decide +kernel
theorem dX11_tellsLengths_35 : decode cX11_tellsLengths 35 = .ok (.ifCond .ne 5, 3) := by decide +kernel
theorem dX11_tellsLengths_38 : decode cX11_tellsLengths 38 = .ok (.iconst 0, 1) := by decide +kernel
theorem dX11_tellsLengths_39 : decode cX11_tellsLengths 39 = .ok (.ireturn, 1) := by decide +kernel
theorem dX11_tellsLengths_40 : decode cX11_tellsLengths 40 = .ok (.iinc 2 1, 3) := by decide +kernel
theorem dX11_tellsLengths_43 : decode cX11_tellsLengths 43 = .ok (.goto (-27), 3) := by decide +kernel
theorem dX11_tellsLengths_46 : decode cX11_tellsLengths 46 = .ok (.iconst 1, 1) := by decide +kernel
theorem dX11_tellsLengths_47 : decode cX11_tellsLengths 47 = .ok (.ireturn, 1) := by decide +kernel
theorem dX11_sizeTaken_0 : decode cX11_sizeTaken 0 = .ok (.iload_n 1, 1) := by decide +kernel
theorem dX11_sizeTaken_1 : decode cX11_sizeTaken 1 = .ok (.iload_n 2, 1) := by decide +kernel
theorem dX11_sizeTaken_2 : decode cX11_sizeTaken 2 = .ok (.if_icmp .lt 7, 3) := by decide +kernel
theorem dX11_sizeTaken_5 : decode cX11_sizeTaken 5 = .ok (.iload_n 1, 1) := by decide +kernel
theorem dX11_sizeTaken_6 : decode cX11_sizeTaken 6 = .ok (.goto 4, 3) := by decide +kernel
theorem dX11_sizeTaken_9 : decode cX11_sizeTaken 9 = .ok (.iconst 0, 1) := by decide +kernel
theorem dX11_sizeTaken_10 : decode cX11_sizeTaken 10 = .ok (.istore_n 3, 1) := by decide +kernel
theorem dX11_sizeTaken_11 : decode cX11_sizeTaken 11 = .ok (.iconst 0, 1) := by decide +kernel
theorem dX11_sizeTaken_12 : decode cX11_sizeTaken 12 = .ok (.istore 4, 2) := by decide +kernel
theorem dX11_sizeTaken_14 : decode cX11_sizeTaken 14 = .ok (.iload 4, 2) := by decide +kernel
theorem dX11_sizeTaken_16 : decode cX11_sizeTaken 16 = .ok (.aload_n 0, 1) := by decide +kernel
theorem dX11_sizeTaken_17 : decode cX11_sizeTaken 17 = .ok (.getfield 207, 3) := by decide +kernel
theorem dX11_sizeTaken_20 : decode cX11_sizeTaken 20 = .ok (.if_icmp .ge 36, 3) := by decide +kernel
theorem dX11_sizeTaken_23 : decode cX11_sizeTaken 23 = .ok (.aload_n 0, 1) := by decide +kernel
theorem dX11_sizeTaken_24 : decode cX11_sizeTaken 24 = .ok (.iload 4, 2) := by decide +kernel
theorem dX11_sizeTaken_26 : decode cX11_sizeTaken 26 = .ok (.invokevirtual 210, 3) := by decide +kernel
theorem dX11_sizeTaken_29 : decode cX11_sizeTaken 29 = .ok (.istore 5, 2) := by decide +kernel
theorem dX11_sizeTaken_31 : decode cX11_sizeTaken 31 = .ok (.iload 5, 2) := by decide +kernel
theorem dX11_sizeTaken_33 : decode cX11_sizeTaken 33 = .ok (.iload_n 2, 1) := by decide +kernel
theorem dX11_sizeTaken_34 : decode cX11_sizeTaken 34 = .ok (.if_icmp .lt 16, 3) := by decide +kernel
theorem dX11_sizeTaken_37 : decode cX11_sizeTaken 37 = .ok (.iload_n 3, 1) := by decide +kernel
theorem dX11_sizeTaken_38 : decode cX11_sizeTaken 38 = .ok (.ifCond .eq 9, 3) := by decide +kernel
theorem dX11_sizeTaken_41 : decode cX11_sizeTaken 41 = .ok (.iload 5, 2) := by decide +kernel
theorem dX11_sizeTaken_43 : decode cX11_sizeTaken 43 = .ok (.iload_n 3, 1) := by decide +kernel
theorem dX11_sizeTaken_44 : decode cX11_sizeTaken 44 = .ok (.if_icmp .ge 6, 3) := by decide +kernel
theorem dX11_sizeTaken_47 : decode cX11_sizeTaken 47 = .ok (.iload 5, 2) := by decide +kernel
theorem dX11_sizeTaken_49 : decode cX11_sizeTaken 49 = .ok (.istore_n 3, 1) := by decide +kernel
theorem dX11_sizeTaken_50 : decode cX11_sizeTaken 50 = .ok (.iinc 4 1, 3) := by decide +kernel
theorem dX11_sizeTaken_53 : decode cX11_sizeTaken 53 = .ok (.goto (-39), 3) := by decide +kernel
theorem dX11_sizeTaken_56 : decode cX11_sizeTaken 56 = .ok (.iload_n 3, 1) := by decide +kernel
theorem dX11_sizeTaken_57 : decode cX11_sizeTaken 57 = .ok (.ireturn, 1) := by decide +kernel
theorem dX11_girlsWithoutSize_0 : decode cX11_girlsWithoutSize 0 = .ok (.iconst 0, 1) := by decide +kernel
theorem dX11_girlsWithoutSize_1 : decode cX11_girlsWithoutSize 1 = .ok (.istore 4, 2) := by decide +kernel
theorem dX11_girlsWithoutSize_3 : decode cX11_girlsWithoutSize 3 = .ok (.iconst 0, 1) := by decide +kernel
theorem dX11_girlsWithoutSize_4 : decode cX11_girlsWithoutSize 4 = .ok (.istore 5, 2) := by decide +kernel
theorem dX11_girlsWithoutSize_6 : decode cX11_girlsWithoutSize 6 = .ok (.iload 5, 2) := by decide +kernel
theorem dX11_girlsWithoutSize_8 : decode cX11_girlsWithoutSize 8 = .ok (.aload_n 3, 1) := by decide +kernel
theorem dX11_girlsWithoutSize_9 : decode cX11_girlsWithoutSize 9 = .ok (.getfield 207, 3) := by decide +kernel
theorem dX11_girlsWithoutSize_12 : decode cX11_girlsWithoutSize 12 = .ok (.if_icmp .ge 34, 3) := by decide +kernel
theorem dX11_girlsWithoutSize_15 : decode cX11_girlsWithoutSize 15 = .ok (.aload_n 1, 1) := by decide +kernel
theorem dX11_girlsWithoutSize_16 : decode cX11_girlsWithoutSize 16 = .ok (.iload_n 2, 1) := by decide +kernel
theorem dX11_girlsWithoutSize_17 : decode cX11_girlsWithoutSize 17 = .ok (.aload_n 3, 1) := by decide +kernel
theorem dX11_girlsWithoutSize_18 : decode cX11_girlsWithoutSize 18 = .ok (.iload 5, 2) := by decide +kernel
theorem dX11_girlsWithoutSize_20 : decode cX11_girlsWithoutSize 20 = .ok (.invokevirtual 210, 3) := by decide +kernel
theorem dX11_girlsWithoutSize_23 : decode cX11_girlsWithoutSize 23 = .ok (.aload_n 0, 1) := by decide +kernel
theorem dX11_girlsWithoutSize_24 : decode cX11_girlsWithoutSize 24 = .ok (.getfield 10, 3) := by decide +kernel
theorem dX11_girlsWithoutSize_27 : decode cX11_girlsWithoutSize 27 = .ok (.getfield 111, 3) := by decide +kernel
theorem dX11_girlsWithoutSize_30 : decode cX11_girlsWithoutSize 30 = .ok (.iadd, 1) := by decide +kernel
theorem dX11_girlsWithoutSize_31 : decode cX11_girlsWithoutSize 31 = .ok (.invokestatic 317, 3) := by decide +kernel
theorem dX11_girlsWithoutSize_34 : decode cX11_girlsWithoutSize 34 = .ok (.ifCond .ne 6, 3) := by decide +kernel
theorem dX11_girlsWithoutSize_37 : decode cX11_girlsWithoutSize 37 = .ok (.iinc 4 1, 3) := by decide +kernel
theorem dX11_girlsWithoutSize_40 : decode cX11_girlsWithoutSize 40 = .ok (.iinc 5 1, 3) := by decide +kernel
theorem dX11_girlsWithoutSize_43 : decode cX11_girlsWithoutSize 43 = .ok (.goto (-37), 3) := by decide +kernel
theorem dX11_girlsWithoutSize_46 : decode cX11_girlsWithoutSize 46 = .ok (.iload 4, 2) := by decide +kernel
theorem dX11_girlsWithoutSize_48 : decode cX11_girlsWithoutSize 48 = .ok (.ireturn, 1) := by decide +kernel
theorem dX11_spareOfSizes_0 : decode cX11_spareOfSizes 0 = .ok (.iconst 0, 1) := by decide +kernel
theorem dX11_spareOfSizes_1 : decode cX11_spareOfSizes 1 = .ok (.istore 4, 2) := by decide +kernel
theorem dX11_spareOfSizes_3 : decode cX11_spareOfSizes 3 = .ok (.iconst 0, 1) := by decide +kernel
theorem dX11_spareOfSizes_4 : decode cX11_spareOfSizes 4 = .ok (.istore 5, 2) := by decide +kernel
theorem dX11_spareOfSizes_6 : decode cX11_spareOfSizes 6 = .ok (.iload 5, 2) := by decide +kernel
theorem dX11_spareOfSizes_8 : decode cX11_spareOfSizes 8 = .ok (.aload_n 3, 1) := by decide +kernel
theorem dX11_spareOfSizes_9 : decode cX11_spareOfSizes 9 = .ok (.getfield 207, 3) := by decide +kernel
theorem dX11_spareOfSizes_12 : decode cX11_spareOfSizes 12 = .ok (.if_icmp .ge 49, 3) := by decide +kernel
theorem dX11_spareOfSizes_15 : decode cX11_spareOfSizes 15 = .ok (.aload_n 3, 1) := by decide +kernel
theorem dX11_spareOfSizes_16 : decode cX11_spareOfSizes 16 = .ok (.iload 5, 2) := by decide +kernel
theorem dX11_spareOfSizes_18 : decode cX11_spareOfSizes 18 = .ok (.invokevirtual 210, 3) := by decide +kernel
theorem dX11_spareOfSizes_21 : decode cX11_spareOfSizes 21 = .ok (.aload_n 0, 1) := by decide +kernel
theorem dX11_spareOfSizes_22 : decode cX11_spareOfSizes 22 = .ok (.getfield 10, 3) := by decide +kernel
theorem dX11_spareOfSizes_25 : decode cX11_spareOfSizes 25 = .ok (.getfield 111, 3) := by decide +kernel
theorem dX11_spareOfSizes_28 : decode cX11_spareOfSizes 28 = .ok (.iadd, 1) := by decide +kernel
theorem dX11_spareOfSizes_29 : decode cX11_spareOfSizes 29 = .ok (.istore 6, 2) := by decide +kernel
theorem dX11_spareOfSizes_31 : decode cX11_spareOfSizes 31 = .ok (.aload_n 1, 1) := by decide +kernel
theorem dX11_spareOfSizes_32 : decode cX11_spareOfSizes 32 = .ok (.iload_n 2, 1) := by decide +kernel
theorem dX11_spareOfSizes_33 : decode cX11_spareOfSizes 33 = .ok (.iload 6, 2) := by decide +kernel
theorem dX11_spareOfSizes_35 : decode cX11_spareOfSizes 35 = .ok (.invokestatic 317, 3) := by decide +kernel
theorem dX11_spareOfSizes_38 : decode cX11_spareOfSizes 38 = .ok (.istore 7, 2) := by decide +kernel
theorem dX11_spareOfSizes_40 : decode cX11_spareOfSizes 40 = .ok (.iload 7, 2) := by decide +kernel
theorem dX11_spareOfSizes_42 : decode cX11_spareOfSizes 42 = .ok (.ifCond .eq 13, 3) := by decide +kernel
theorem dX11_spareOfSizes_45 : decode cX11_spareOfSizes 45 = .ok (.iload 4, 2) := by decide +kernel
theorem dX11_spareOfSizes_47 : decode cX11_spareOfSizes 47 = .ok (.iload 7, 2) := by decide +kernel
theorem dX11_spareOfSizes_49 : decode cX11_spareOfSizes 49 = .ok (.iload 6, 2) := by decide +kernel
theorem dX11_spareOfSizes_51 : decode cX11_spareOfSizes 51 = .ok (.isub, 1) := by decide +kernel
theorem dX11_spareOfSizes_52 : decode cX11_spareOfSizes 52 = .ok (.iadd, 1) := by decide +kernel
theorem dX11_spareOfSizes_53 : decode cX11_spareOfSizes 53 = .ok (.istore 4, 2) := by decide +kernel
theorem dX11_spareOfSizes_55 : decode cX11_spareOfSizes 55 = .ok (.iinc 5 1, 3) := by decide +kernel
theorem dX11_spareOfSizes_58 : decode cX11_spareOfSizes 58 = .ok (.goto (-52), 3) := by decide +kernel
theorem dX11_spareOfSizes_61 : decode cX11_spareOfSizes 61 = .ok (.iload 4, 2) := by decide +kernel
theorem dX11_spareOfSizes_63 : decode cX11_spareOfSizes 63 = .ok (.ireturn, 1) := by decide +kernel
theorem dX11_oneMoreSize_0 : decode cX11_oneMoreSize 0 = .ok (.iconst 0, 1) := by decide +kernel
theorem dX11_oneMoreSize_1 : decode cX11_oneMoreSize 1 = .ok (.istore_n 3, 1) := by decide +kernel
theorem dX11_oneMoreSize_2 : decode cX11_oneMoreSize 2 = .ok (.iconst 0, 1) := by decide +kernel
theorem dX11_oneMoreSize_3 : decode cX11_oneMoreSize 3 = .ok (.istore 4, 2) := by decide +kernel
theorem dX11_oneMoreSize_5 : decode cX11_oneMoreSize 5 = .ok (.iconst 0, 1) := by decide +kernel
theorem dX11_oneMoreSize_6 : decode cX11_oneMoreSize 6 = .ok (.istore 5, 2) := by decide +kernel
theorem dX11_oneMoreSize_8 : decode cX11_oneMoreSize 8 = .ok (.iconst 1, 1) := by decide +kernel
theorem dX11_oneMoreSize_9 : decode cX11_oneMoreSize 9 = .ok (.istore 6, 2) := by decide +kernel
theorem dX11_oneMoreSize_11 : decode cX11_oneMoreSize 11 = .ok (.iload 6, 2) := by decide +kernel
theorem dX11_oneMoreSize_13 : decode cX11_oneMoreSize 13 = .ok (.bipush 99, 2) := by decide +kernel
theorem dX11_oneMoreSize_15 : decode cX11_oneMoreSize 15 = .ok (.if_icmp .gt 77, 3) := by decide +kernel
theorem dX11_oneMoreSize_18 : decode cX11_oneMoreSize 18 = .ok (.aload_n 0, 1) := by decide +kernel
theorem dX11_oneMoreSize_19 : decode cX11_oneMoreSize 19 = .ok (.aload_n 1, 1) := by decide +kernel
theorem dX11_oneMoreSize_20 : decode cX11_oneMoreSize 20 = .ok (.iload 6, 2) := by decide +kernel
theorem dX11_oneMoreSize_22 : decode cX11_oneMoreSize 22 = .ok (.aload_n 2, 1) := by decide +kernel
theorem dX11_oneMoreSize_23 : decode cX11_oneMoreSize 23 = .ok (.invokevirtual 196, 3) := by decide +kernel
theorem dX11_oneMoreSize_26 : decode cX11_oneMoreSize 26 = .ok (.istore 7, 2) := by decide +kernel
theorem dX11_oneMoreSize_28 : decode cX11_oneMoreSize 28 = .ok (.aload_n 0, 1) := by decide +kernel
theorem dX11_oneMoreSize_29 : decode cX11_oneMoreSize 29 = .ok (.aload_n 1, 1) := by decide +kernel
theorem dX11_oneMoreSize_30 : decode cX11_oneMoreSize 30 = .ok (.iload 6, 2) := by decide +kernel
theorem dX11_oneMoreSize_32 : decode cX11_oneMoreSize 32 = .ok (.aload_n 2, 1) := by decide +kernel
theorem dX11_oneMoreSize_33 : decode cX11_oneMoreSize 33 = .ok (.invokevirtual 200, 3) := by decide +kernel
theorem dX11_oneMoreSize_36 : decode cX11_oneMoreSize 36 = .ok (.istore 8, 2) := by decide +kernel
theorem dX11_oneMoreSize_38 : decode cX11_oneMoreSize 38 = .ok (.iload 7, 2) := by decide +kernel
theorem dX11_oneMoreSize_40 : decode cX11_oneMoreSize 40 = .ok (.iload 4, 2) := by decide +kernel
theorem dX11_oneMoreSize_42 : decode cX11_oneMoreSize 42 = .ok (.if_icmp .lt 17, 3) := by decide +kernel
theorem dX11_oneMoreSize_45 : decode cX11_oneMoreSize 45 = .ok (.iload 7, 2) := by decide +kernel
theorem dX11_oneMoreSize_47 : decode cX11_oneMoreSize 47 = .ok (.iload 4, 2) := by decide +kernel
theorem dX11_oneMoreSize_49 : decode cX11_oneMoreSize 49 = .ok (.if_icmp .ne 14, 3) := by decide +kernel
theorem dX11_oneMoreSize_52 : decode cX11_oneMoreSize 52 = .ok (.iload 8, 2) := by decide +kernel
theorem dX11_oneMoreSize_54 : decode cX11_oneMoreSize 54 = .ok (.iload 5, 2) := by decide +kernel
theorem dX11_oneMoreSize_56 : decode cX11_oneMoreSize 56 = .ok (.if_icmp .ge 7, 3) := by decide +kernel
theorem dX11_oneMoreSize_59 : decode cX11_oneMoreSize 59 = .ok (.iconst 1, 1) := by decide +kernel
theorem dX11_oneMoreSize_60 : decode cX11_oneMoreSize 60 = .ok (.goto 4, 3) := by decide +kernel
theorem dX11_oneMoreSize_63 : decode cX11_oneMoreSize 63 = .ok (.iconst 0, 1) := by decide +kernel
theorem dX11_oneMoreSize_64 : decode cX11_oneMoreSize 64 = .ok (.istore 9, 2) := by decide +kernel
theorem dX11_oneMoreSize_66 : decode cX11_oneMoreSize 66 = .ok (.iload_n 3, 1) := by decide +kernel
theorem dX11_oneMoreSize_67 : decode cX11_oneMoreSize 67 = .ok (.ifCond .eq 8, 3) := by decide +kernel
theorem dX11_oneMoreSize_70 : decode cX11_oneMoreSize 70 = .ok (.iload 9, 2) := by decide +kernel
theorem dX11_oneMoreSize_72 : decode cX11_oneMoreSize 72 = .ok (.ifCond .eq 14, 3) := by decide +kernel
theorem dX11_oneMoreSize_75 : decode cX11_oneMoreSize 75 = .ok (.iload 6, 2) := by decide +kernel
theorem dX11_oneMoreSize_77 : decode cX11_oneMoreSize 77 = .ok (.istore_n 3, 1) := by decide +kernel
theorem dX11_oneMoreSize_78 : decode cX11_oneMoreSize 78 = .ok (.iload 7, 2) := by decide +kernel
theorem dX11_oneMoreSize_80 : decode cX11_oneMoreSize 80 = .ok (.istore 4, 2) := by decide +kernel
theorem dX11_oneMoreSize_82 : decode cX11_oneMoreSize 82 = .ok (.iload 8, 2) := by decide +kernel
theorem dX11_oneMoreSize_84 : decode cX11_oneMoreSize 84 = .ok (.istore 5, 2) := by decide +kernel
theorem dX11_oneMoreSize_86 : decode cX11_oneMoreSize 86 = .ok (.iinc 6 1, 3) := by decide +kernel
theorem dX11_oneMoreSize_89 : decode cX11_oneMoreSize 89 = .ok (.goto (-78), 3) := by decide +kernel
theorem dX11_oneMoreSize_92 : decode cX11_oneMoreSize 92 = .ok (.iload_n 3, 1) := by decide +kernel
theorem dX11_oneMoreSize_93 : decode cX11_oneMoreSize 93 = .ok (.ireturn, 1) := by decide +kernel
theorem dX11_tightestSource_0 : decode cX11_tightestSource 0 = .ok (.bipush (-4), 2) := by decide +kernel
theorem dX11_tightestSource_2 : decode cX11_tightestSource 2 = .ok (.istore_n 3, 1) := by decide +kernel
theorem dX11_tightestSource_3 : decode cX11_tightestSource 3 = .ok (.iconst 0, 1) := by decide +kernel
theorem dX11_tightestSource_4 : decode cX11_tightestSource 4 = .ok (.istore 4, 2) := by decide +kernel
theorem dX11_tightestSource_6 : decode cX11_tightestSource 6 = .ok (.iconst 0, 1) := by decide +kernel
theorem dX11_tightestSource_7 : decode cX11_tightestSource 7 = .ok (.istore 5, 2) := by decide +kernel
theorem dX11_tightestSource_9 : decode cX11_tightestSource 9 = .ok (.iload 5, 2) := by decide +kernel
theorem dX11_tightestSource_11 : decode cX11_tightestSource 11 = .ok (.aload_n 0, 1) := by decide +kernel
theorem dX11_tightestSource_12 : decode cX11_tightestSource 12 = .ok (.getfield 10, 3) := by decide +kernel
theorem dX11_tightestSource_15 : decode cX11_tightestSource 15 = .ok (.getfield 149, 3) := by decide +kernel
theorem dX11_tightestSource_18 : decode cX11_tightestSource 18 = .ok (.if_icmp .ge 79, 3) := by decide +kernel
theorem dX11_tightestSource_21 : decode cX11_tightestSource 21 = .ok (.aload_n 0, 1) := by decide +kernel
theorem dX11_tightestSource_22 : decode cX11_tightestSource 22 = .ok (.getfield 10, 3) := by decide +kernel
theorem dX11_tightestSource_25 : decode cX11_tightestSource 25 = .ok (.iload 5, 2) := by decide +kernel
theorem dX11_tightestSource_27 : decode cX11_tightestSource 27 = .ok (.iconst 1, 1) := by decide +kernel
theorem dX11_tightestSource_28 : decode cX11_tightestSource 28 = .ok (.invokevirtual 108, 3) := by decide +kernel
theorem dX11_tightestSource_31 : decode cX11_tightestSource 31 = .ok (.aload_n 0, 1) := by decide +kernel
theorem dX11_tightestSource_32 : decode cX11_tightestSource 32 = .ok (.getfield 10, 3) := by decide +kernel
theorem dX11_tightestSource_35 : decode cX11_tightestSource 35 = .ok (.iload 5, 2) := by decide +kernel
theorem dX11_tightestSource_37 : decode cX11_tightestSource 37 = .ok (.iconst 2, 1) := by decide +kernel
theorem dX11_tightestSource_38 : decode cX11_tightestSource 38 = .ok (.invokevirtual 108, 3) := by decide +kernel
theorem dX11_tightestSource_41 : decode cX11_tightestSource 41 = .ok (.iadd, 1) := by decide +kernel
theorem dX11_tightestSource_42 : decode cX11_tightestSource 42 = .ok (.istore 6, 2) := by decide +kernel
theorem dX11_tightestSource_44 : decode cX11_tightestSource 44 = .ok (.iload_n 2, 1) := by decide +kernel
theorem dX11_tightestSource_45 : decode cX11_tightestSource 45 = .ok (.iload 5, 2) := by decide +kernel
theorem dX11_tightestSource_47 : decode cX11_tightestSource 47 = .ok (.ishr, 1) := by decide +kernel
theorem dX11_tightestSource_48 : decode cX11_tightestSource 48 = .ok (.iconst 1, 1) := by decide +kernel
theorem dX11_tightestSource_49 : decode cX11_tightestSource 49 = .ok (.iand, 1) := by decide +kernel
theorem dX11_tightestSource_50 : decode cX11_tightestSource 50 = .ok (.ifCond .ne 7, 3) := by decide +kernel
theorem dX11_tightestSource_53 : decode cX11_tightestSource 53 = .ok (.iconst 1, 1) := by decide +kernel
theorem dX11_tightestSource_54 : decode cX11_tightestSource 54 = .ok (.goto 4, 3) := by decide +kernel
theorem dX11_tightestSource_57 : decode cX11_tightestSource 57 = .ok (.iconst 0, 1) := by decide +kernel
theorem dX11_tightestSource_58 : decode cX11_tightestSource 58 = .ok (.istore 7, 2) := by decide +kernel
theorem dX11_tightestSource_60 : decode cX11_tightestSource 60 = .ok (.iload 7, 2) := by decide +kernel
theorem dX11_tightestSource_62 : decode cX11_tightestSource 62 = .ok (.ifCond .eq 29, 3) := by decide +kernel
theorem dX11_tightestSource_65 : decode cX11_tightestSource 65 = .ok (.iload 6, 2) := by decide +kernel
theorem dX11_tightestSource_67 : decode cX11_tightestSource 67 = .ok (.iload_n 1, 1) := by decide +kernel
theorem dX11_tightestSource_68 : decode cX11_tightestSource 68 = .ok (.if_icmp .lt 23, 3) := by decide +kernel
theorem dX11_tightestSource_71 : decode cX11_tightestSource 71 = .ok (.iload_n 3, 1) := by decide +kernel
theorem dX11_tightestSource_72 : decode cX11_tightestSource 72 = .ok (.bipush (-4), 2) := by decide +kernel
theorem dX11_tightestSource_74 : decode cX11_tightestSource 74 = .ok (.if_icmp .eq 10, 3) := by decide +kernel
theorem dX11_tightestSource_77 : decode cX11_tightestSource 77 = .ok (.iload 6, 2) := by decide +kernel
theorem dX11_tightestSource_79 : decode cX11_tightestSource 79 = .ok (.iload 4, 2) := by decide +kernel
theorem dX11_tightestSource_81 : decode cX11_tightestSource 81 = .ok (.if_icmp .ge 10, 3) := by decide +kernel
theorem dX11_tightestSource_84 : decode cX11_tightestSource 84 = .ok (.iload 5, 2) := by decide +kernel
theorem dX11_tightestSource_86 : decode cX11_tightestSource 86 = .ok (.istore_n 3, 1) := by decide +kernel
theorem dX11_tightestSource_87 : decode cX11_tightestSource 87 = .ok (.iload 6, 2) := by decide +kernel
theorem dX11_tightestSource_89 : decode cX11_tightestSource 89 = .ok (.istore 4, 2) := by decide +kernel
theorem dX11_tightestSource_91 : decode cX11_tightestSource 91 = .ok (.iinc 5 1, 3) := by decide +kernel
theorem dX11_tightestSource_94 : decode cX11_tightestSource 94 = .ok (.goto (-85), 3) := by decide +kernel
theorem dX11_tightestSource_97 : decode cX11_tightestSource 97 = .ok (.iload_n 3, 1) := by decide +kernel
theorem dX11_tightestSource_98 : decode cX11_tightestSource 98 = .ok (.ireturn, 1) := by decide +kernel
theorem dX11_nextSeed_0 : decode cX11_nextSeed 0 = .ok (.iload_n 0, 1) := by decide +kernel
theorem dX11_nextSeed_1 : decode cX11_nextSeed 1 = .ok (.ldc_w 321, 3) := by decide +kernel
theorem dX11_nextSeed_4 : decode cX11_nextSeed 4 = .ok (.imul, 1) := by decide +kernel
theorem dX11_nextSeed_5 : decode cX11_nextSeed 5 = .ok (.sipush 12345, 3) := by decide +kernel
theorem dX11_nextSeed_8 : decode cX11_nextSeed 8 = .ok (.iadd, 1) := by decide +kernel
theorem dX11_nextSeed_9 : decode cX11_nextSeed 9 = .ok (.ireturn, 1) := by decide +kernel
theorem dX11_drawBelow_0 : decode cX11_drawBelow 0 = .ok (.iload_n 1, 1) := by decide +kernel
theorem dX11_drawBelow_1 : decode cX11_drawBelow 1 = .ok (.ifCond .le 16, 3) := by decide +kernel
theorem dX11_drawBelow_4 : decode cX11_drawBelow 4 = .ok (.iload_n 0, 1) := by decide +kernel
theorem dX11_drawBelow_5 : decode cX11_drawBelow 5 = .ok (.ldc_w 322, 3) := by decide +kernel
theorem dX11_drawBelow_8 : decode cX11_drawBelow 8 = .ok (.iand, 1) := by decide +kernel
theorem dX11_drawBelow_9 : decode cX11_drawBelow 9 = .ok (.bipush 16, 2) := by decide +kernel
theorem dX11_drawBelow_11 : decode cX11_drawBelow 11 = .ok (.ishr, 1) := by decide +kernel
theorem dX11_drawBelow_12 : decode cX11_drawBelow 12 = .ok (.iload_n 1, 1) := by decide +kernel
theorem dX11_drawBelow_13 : decode cX11_drawBelow 13 = .ok (.irem, 1) := by decide +kernel
theorem dX11_drawBelow_14 : decode cX11_drawBelow 14 = .ok (.goto 4, 3) := by decide +kernel
theorem dX11_drawBelow_17 : decode cX11_drawBelow 17 = .ok (.iconst 0, 1) := by decide +kernel
theorem dX11_drawBelow_18 : decode cX11_drawBelow 18 = .ok (.ireturn, 1) := by decide +kernel
theorem dX12_init_0 : decode cX12_init 0 = .ok (.aload_n 0, 1) := by decide +kernel
theorem dX12_init_1 : decode cX12_init 1 = .ok (.invokespecial 1, 3) := by decide +kernel
theorem dX12_init_4 : decode cX12_init 4 = .ok (.aload_n 0, 1) := by decide +kernel
theorem dX12_init_5 : decode cX12_init 5 = .ok (.iconst 1, 1) := by decide +kernel
theorem dX12_init_6 : decode cX12_init 6 = .ok (.putfield 7, 3) := by decide +kernel
theorem dX12_init_9 : decode cX12_init 9 = .ok (.aload_n 0, 1) := by decide +kernel
theorem dX12_init_10 : decode cX12_init 10 = .ok (.bipush 8, 2) := by decide +kernel
theorem dX12_init_12 : decode cX12_init 12 = .ok (.putfield 13, 3) := by decide +kernel
theorem dX12_init_15 : decode cX12_init 15 = .ok (.aload_n 0, 1) := by decide +kernel
theorem dX12_init_16 : decode cX12_init 16 = .ok (.bipush 6, 2) := by decide +kernel
theorem dX12_init_18 : decode cX12_init 18 = .ok (.newarray .int, 2) := by decide +kernel
theorem dX12_init_20 : decode cX12_init 20 = .ok (.putfield 16, 3) := by decide +kernel
theorem dX12_init_23 : decode cX12_init 23 = .ok (.aload_n 0, 1) := by decide +kernel
theorem dX12_init_24 : decode cX12_init 24 = .ok (.bipush 6, 2) := by decide +kernel
theorem dX12_init_26 : decode cX12_init 26 = .ok (.newarray .int, 2) := by decide +kernel
theorem dX12_init_28 : decode cX12_init 28 = .ok (.putfield 20, 3) := by decide +kernel
theorem dX12_init_31 : decode cX12_init 31 = .ok (.aload_n 0, 1) := by decide +kernel
theorem dX12_init_32 : decode cX12_init 32 = .ok (.bipush 6, 2) := by decide +kernel
theorem dX12_init_34 : decode cX12_init 34 = .ok (.newarray .int, 2) := by decide +kernel
theorem dX12_init_36 : decode cX12_init 36 = .ok (.putfield 23, 3) := by decide +kernel
theorem dX12_init_39 : decode cX12_init 39 = .ok (.aload_n 0, 1) := by decide +kernel
theorem dX12_init_40 : decode cX12_init 40 = .ok (.bipush 6, 2) := by decide +kernel
theorem dX12_init_42 : decode cX12_init 42 = .ok (.newarray .int, 2) := by decide +kernel
theorem dX12_init_44 : decode cX12_init 44 = .ok (.putfield 26, 3) := by decide +kernel
theorem dX12_init_47 : decode cX12_init 47 = .ok (.aload_n 0, 1) := by decide +kernel
theorem dX12_init_48 : decode cX12_init 48 = .ok (.bipush 29, 2) := by decide +kernel
theorem dX12_init_50 : decode cX12_init 50 = .ok (.newarray .int, 2) := by decide +kernel
theorem dX12_init_52 : decode cX12_init 52 = .ok (.putfield 29, 3) := by decide +kernel
theorem dX12_init_55 : decode cX12_init 55 = .ok (.aload_n 0, 1) := by decide +kernel
theorem dX12_init_56 : decode cX12_init 56 = .ok (.bipush 29, 2) := by decide +kernel
theorem dX12_init_58 : decode cX12_init 58 = .ok (.newarray .int, 2) := by decide +kernel
theorem dX12_init_60 : decode cX12_init 60 = .ok (.putfield 32, 3) := by decide +kernel
theorem dX12_init_63 : decode cX12_init 63 = .ok (.aload_n 0, 1) := by decide +kernel
theorem dX12_init_64 : decode cX12_init 64 = .ok (.bipush 51, 2) := by decide +kernel
theorem dX12_init_66 : decode cX12_init 66 = .ok (.newarray .int, 2) := by decide +kernel
theorem dX12_init_68 : decode cX12_init 68 = .ok (.putfield 35, 3) := by decide +kernel
theorem dX12_init_71 : decode cX12_init 71 = .ok (.aload_n 0, 1) := by decide +kernel
theorem dX12_init_72 : decode cX12_init 72 = .ok (.bipush 51, 2) := by decide +kernel
theorem dX12_init_74 : decode cX12_init 74 = .ok (.newarray .int, 2) := by decide +kernel
theorem dX12_init_76 : decode cX12_init 76 = .ok (.putfield 38, 3) := by decide +kernel
theorem dX12_init_79 : decode cX12_init 79 = .ok (.aload_n 0, 1) := by decide +kernel
theorem dX12_init_80 : decode cX12_init 80 = .ok (.bipush 51, 2) := by decide +kernel
theorem dX12_init_82 : decode cX12_init 82 = .ok (.newarray .int, 2) := by decide +kernel
theorem dX12_init_84 : decode cX12_init 84 = .ok (.putfield 41, 3) := by decide +kernel
theorem dX12_init_87 : decode cX12_init 87 = .ok (.aload_n 0, 1) := by decide +kernel
theorem dX12_init_88 : decode cX12_init 88 = .ok (.bipush 51, 2) := by decide +kernel
theorem dX12_init_90 : decode cX12_init 90 = .ok (.newarray .int, 2) := by decide +kernel
theorem dX12_init_92 : decode cX12_init 92 = .ok (.putfield 44, 3) := by decide +kernel
theorem dX12_init_95 : decode cX12_init 95 = .ok (.aload_n 0, 1) := by decide +kernel
theorem dX12_init_96 : decode cX12_init 96 = .ok (.bipush 51, 2) := by decide +kernel
theorem dX12_init_98 : decode cX12_init 98 = .ok (.newarray .int, 2) := by decide +kernel
theorem dX12_init_100 : decode cX12_init 100 = .ok (.putfield 47, 3) := by decide +kernel
theorem dX12_init_103 : decode cX12_init 103 = .ok (.aload_n 0, 1) := by decide +kernel
theorem dX12_init_104 : decode cX12_init 104 = .ok (.bipush 51, 2) := by decide +kernel
theorem dX12_init_106 : decode cX12_init 106 = .ok (.newarray .int, 2) := by decide +kernel
theorem dX12_init_108 : decode cX12_init 108 = .ok (.putfield 50, 3) := by decide +kernel
theorem dX12_init_111 : decode cX12_init 111 = .ok (.aload_n 0, 1) := by decide +kernel
theorem dX12_init_112 : decode cX12_init 112 = .ok (.bipush 6, 2) := by decide +kernel
theorem dX12_init_114 : decode cX12_init 114 = .ok (.newarray .int, 2) := by decide +kernel
theorem dX12_init_116 : decode cX12_init 116 = .ok (.putfield 53, 3) := by decide +kernel
theorem dX12_init_119 : decode cX12_init 119 = .ok (.aload_n 0, 1) := by decide +kernel
theorem dX12_init_120 : decode cX12_init 120 = .ok (.bipush 8, 2) := by decide +kernel
theorem dX12_init_122 : decode cX12_init 122 = .ok (.newarray .int, 2) := by decide +kernel
theorem dX12_init_124 : decode cX12_init 124 = .ok (.putfield 56, 3) := by decide +kernel
theorem dX12_init_127 : decode cX12_init 127 = .ok (.aload_n 0, 1) := by decide +kernel
theorem dX12_init_128 : decode cX12_init 128 = .ok (.bipush 8, 2) := by decide +kernel
theorem dX12_init_130 : decode cX12_init 130 = .ok (.newarray .int, 2) := by decide +kernel
theorem dX12_init_132 : decode cX12_init 132 = .ok (.putfield 59, 3) := by decide +kernel
theorem dX12_init_135 : decode cX12_init 135 = .ok (.aload_n 0, 1) := by decide +kernel
theorem dX12_init_136 : decode cX12_init 136 = .ok (.bipush 8, 2) := by decide +kernel
theorem dX12_init_138 : decode cX12_init 138 = .ok (.newarray .int, 2) := by decide +kernel
theorem dX12_init_140 : decode cX12_init 140 = .ok (.putfield 62, 3) := by decide +kernel
theorem dX12_init_143 : decode cX12_init 143 = .ok (.aload_n 0, 1) := by decide +kernel
theorem dX12_init_144 : decode cX12_init 144 = .ok (.bipush 8, 2) := by decide +kernel
theorem dX12_init_146 : decode cX12_init 146 = .ok (.newarray .int, 2) := by decide +kernel
theorem dX12_init_148 : decode cX12_init 148 = .ok (.putfield 65, 3) := by decide +kernel
theorem dX12_init_151 : decode cX12_init 151 = .ok (.aload_n 0, 1) := by decide +kernel
theorem dX12_init_152 : decode cX12_init 152 = .ok (.bipush 8, 2) := by decide +kernel
theorem dX12_init_154 : decode cX12_init 154 = .ok (.newarray .int, 2) := by decide +kernel
theorem dX12_init_156 : decode cX12_init 156 = .ok (.putfield 68, 3) := by decide +kernel
theorem dX12_init_159 : decode cX12_init 159 = .ok (.aload_n 0, 1) := by decide +kernel
theorem dX12_init_160 : decode cX12_init 160 = .ok (.sipush 800, 3) := by decide +kernel
theorem dX12_init_163 : decode cX12_init 163 = .ok (.newarray .long, 2) := by decide +kernel
theorem dX12_init_165 : decode cX12_init 165 = .ok (.putfield 71, 3) := by decide +kernel
theorem dX12_init_168 : decode cX12_init 168 = .ok (.aload_n 0, 1) := by decide +kernel
theorem dX12_init_169 : decode cX12_init 169 = .ok (.bipush 100, 2) := by decide +kernel
theorem dX12_init_171 : decode cX12_init 171 = .ok (.newarray .long, 2) := by decide +kernel
theorem dX12_init_173 : decode cX12_init 173 = .ok (.putfield 75, 3) := by decide +kernel
theorem dX12_init_176 : decode cX12_init 176 = .ok (.aload_n 0, 1) := by decide +kernel
theorem dX12_init_177 : decode cX12_init 177 = .ok (.iconst 0, 1) := by decide +kernel
theorem dX12_init_178 : decode cX12_init 178 = .ok (.putfield 78, 3) := by decide +kernel
theorem dX12_init_181 : decode cX12_init 181 = .ok (.return_, 1) := by decide +kernel
theorem dX12_thrown_0 : decode cX12_thrown 0 = .ok (.aload_n 0, 1) := by decide +kernel
theorem dX12_thrown_1 : decode cX12_thrown 1 = .ok (.getfield 78, 3) := by decide +kernel
theorem dX12_thrown_4 : decode cX12_thrown 4 = .ok (.ireturn, 1) := by decide +kernel
theorem dX12_in_0 : decode cX12_in 0 = .ok (.lload_n 0, 1) := by decide +kernel
theorem dX12_in_1 : decode cX12_in 1 = .ok (.lload_n 2, 1) := by decide +kernel
theorem dX12_in_2 : decode cX12_in 2 = .ok (.lcmp, 1) := by decide +kernel
theorem dX12_in_3 : decode cX12_in 3 = .ok (.ifCond .lt 14, 3) := by decide +kernel
theorem dX12_in_6 : decode cX12_in 6 = .ok (.lload_n 0, 1) := by decide +kernel
theorem dX12_in_7 : decode cX12_in 7 = .ok (.lload 4, 2) := by decide +kernel
theorem dX12_in_9 : decode cX12_in 9 = .ok (.lcmp, 1) := by decide +kernel
theorem dX12_in_10 : decode cX12_in 10 = .ok (.ifCond .gt 7, 3) := by decide +kernel
theorem dX12_in_13 : decode cX12_in 13 = .ok (.iconst 1, 1) := by decide +kernel
theorem dX12_in_14 : decode cX12_in 14 = .ok (.goto 4, 3) := by decide +kernel
theorem dX12_in_17 : decode cX12_in 17 = .ok (.iconst 0, 1) := by decide +kernel
theorem dX12_in_18 : decode cX12_in 18 = .ok (.ireturn, 1) := by decide +kernel
theorem dX12_isRing_0 : decode cX12_isRing 0 = .ok (.iload_n 1, 1) := by decide +kernel
theorem dX12_isRing_1 : decode cX12_isRing 1 = .ok (.i2l, 1) := by decide +kernel
theorem dX12_isRing_2 : decode cX12_isRing 2 = .ok (.lconst 0, 1) := by decide +kernel
theorem dX12_isRing_3 : decode cX12_isRing 3 = .ok (.aload_n 0, 1) := by decide +kernel
theorem dX12_isRing_4 : decode cX12_isRing 4 = .ok (.getfield 81, 3) := by decide +kernel
theorem dX12_isRing_7 : decode cX12_isRing 7 = .ok (.iconst 1, 1) := by decide +kernel
theorem dX12_isRing_8 : decode cX12_isRing 8 = .ok (.isub, 1) := by decide +kernel
theorem dX12_isRing_9 : decode cX12_isRing 9 = .ok (.i2l, 1) := by decide +kernel
theorem dX12_isRing_10 : decode cX12_isRing 10 = .ok (.invokestatic 84, 3) := by decide +kernel
theorem dX12_isRing_13 : decode cX12_isRing 13 = .ok (.ireturn, 1) := by decide +kernel
theorem dX12_easeOf_0 : decode cX12_easeOf 0 = .ok (.iconst 0, 1) := by decide +kernel
theorem dX12_easeOf_1 : decode cX12_easeOf 1 = .ok (.istore_n 3, 1) := by decide +kernel
theorem dX12_easeOf_2 : decode cX12_easeOf 2 = .ok (.iload_n 2, 1) := by decide +kernel
theorem dX12_easeOf_3 : decode cX12_easeOf 3 = .ok (.iconst 1, 1) := by decide +kernel
theorem dX12_easeOf_4 : decode cX12_easeOf 4 = .ok (.if_icmp .ne 10, 3) := by decide +kernel
theorem dX12_easeOf_7 : decode cX12_easeOf 7 = .ok (.aload_n 0, 1) := by decide +kernel
theorem dX12_easeOf_8 : decode cX12_easeOf 8 = .ok (.getfield 26, 3) := by decide +kernel
theorem dX12_easeOf_11 : decode cX12_easeOf 11 = .ok (.iload_n 1, 1) := by decide +kernel
theorem dX12_easeOf_12 : decode cX12_easeOf 12 = .ok (.iaload, 1) := by decide +kernel
theorem dX12_easeOf_13 : decode cX12_easeOf 13 = .ok (.istore_n 3, 1) := by decide +kernel
theorem dX12_easeOf_14 : decode cX12_easeOf 14 = .ok (.iload_n 2, 1) := by decide +kernel
theorem dX12_easeOf_15 : decode cX12_easeOf 15 = .ok (.iconst 2, 1) := by decide +kernel
theorem dX12_easeOf_16 : decode cX12_easeOf 16 = .ok (.if_icmp .ne 29, 3) := by decide +kernel
theorem dX12_easeOf_19 : decode cX12_easeOf 19 = .ok (.iload_n 1, 1) := by decide +kernel
theorem dX12_easeOf_20 : decode cX12_easeOf 20 = .ok (.ifCond .ne 16, 3) := by decide +kernel
theorem dX12_easeOf_23 : decode cX12_easeOf 23 = .ok (.aload_n 0, 1) := by decide +kernel
theorem dX12_easeOf_24 : decode cX12_easeOf 24 = .ok (.getfield 26, 3) := by decide +kernel
theorem dX12_easeOf_27 : decode cX12_easeOf 27 = .ok (.iload_n 1, 1) := by decide +kernel
theorem dX12_easeOf_28 : decode cX12_easeOf 28 = .ok (.iaload, 1) := by decide +kernel
theorem dX12_easeOf_29 : decode cX12_easeOf 29 = .ok (.iconst 2, 1) := by decide +kernel
theorem dX12_easeOf_30 : decode cX12_easeOf 30 = .ok (.idiv, 1) := by decide +kernel
theorem dX12_easeOf_31 : decode cX12_easeOf 31 = .ok (.iconst 2, 1) := by decide +kernel
theorem dX12_easeOf_32 : decode cX12_easeOf 32 = .ok (.iadd, 1) := by decide +kernel
theorem dX12_easeOf_33 : decode cX12_easeOf 33 = .ok (.goto 11, 3) := by decide +kernel
theorem dX12_easeOf_36 : decode cX12_easeOf 36 = .ok (.aload_n 0, 1) := by decide +kernel
theorem dX12_easeOf_37 : decode cX12_easeOf 37 = .ok (.getfield 26, 3) := by decide +kernel
theorem dX12_easeOf_40 : decode cX12_easeOf 40 = .ok (.iload_n 1, 1) := by decide +kernel
theorem dX12_easeOf_41 : decode cX12_easeOf 41 = .ok (.iaload, 1) := by decide +kernel
theorem dX12_easeOf_42 : decode cX12_easeOf 42 = .ok (.iconst 2, 1) := by decide +kernel
theorem dX12_easeOf_43 : decode cX12_easeOf 43 = .ok (.idiv, 1) := by decide +kernel
theorem dX12_easeOf_44 : decode cX12_easeOf 44 = .ok (.istore_n 3, 1) := by decide +kernel
theorem dX12_easeOf_45 : decode cX12_easeOf 45 = .ok (.iload_n 2, 1) := by decide +kernel
theorem dX12_easeOf_46 : decode cX12_easeOf 46 = .ok (.iconst 3, 1) := by decide +kernel
theorem dX12_easeOf_47 : decode cX12_easeOf 47 = .ok (.if_icmp .ne 15, 3) := by decide +kernel
theorem dX12_easeOf_50 : decode cX12_easeOf 50 = .ok (.iload_n 1, 1) := by decide +kernel
theorem dX12_easeOf_51 : decode cX12_easeOf 51 = .ok (.iconst 2, 1) := by decide +kernel
theorem dX12_easeOf_52 : decode cX12_easeOf 52 = .ok (.irem, 1) := by decide +kernel
theorem dX12_easeOf_53 : decode cX12_easeOf 53 = .ok (.ifCond .ne 7, 3) := by decide +kernel
theorem dX12_easeOf_56 : decode cX12_easeOf 56 = .ok (.iconst 1, 1) := by decide +kernel
theorem dX12_easeOf_57 : decode cX12_easeOf 57 = .ok (.goto 4, 3) := by decide +kernel
theorem dX12_easeOf_60 : decode cX12_easeOf 60 = .ok (.iconst 0, 1) := by decide +kernel
theorem dX12_easeOf_61 : decode cX12_easeOf 61 = .ok (.istore_n 3, 1) := by decide +kernel
theorem dX12_easeOf_62 : decode cX12_easeOf 62 = .ok (.aload_n 0, 1) := by decide +kernel
theorem dX12_easeOf_63 : decode cX12_easeOf 63 = .ok (.getfield 20, 3) := by decide +kernel
theorem dX12_easeOf_66 : decode cX12_easeOf 66 = .ok (.iload_n 1, 1) := by decide +kernel
theorem dX12_easeOf_67 : decode cX12_easeOf 67 = .ok (.iaload, 1) := by decide +kernel
theorem dX12_easeOf_68 : decode cX12_easeOf 68 = .ok (.aload_n 0, 1) := by decide +kernel
theorem dX12_easeOf_69 : decode cX12_easeOf 69 = .ok (.getfield 16, 3) := by decide +kernel
theorem dX12_easeOf_72 : decode cX12_easeOf 72 = .ok (.iload_n 1, 1) := by decide +kernel
theorem dX12_easeOf_73 : decode cX12_easeOf 73 = .ok (.iaload, 1) := by decide +kernel
theorem dX12_easeOf_74 : decode cX12_easeOf 74 = .ok (.isub, 1) := by decide +kernel
theorem dX12_easeOf_75 : decode cX12_easeOf 75 = .ok (.iload_n 3, 1) := by decide +kernel
theorem dX12_easeOf_76 : decode cX12_easeOf 76 = .ok (.isub, 1) := by decide +kernel
theorem dX12_easeOf_77 : decode cX12_easeOf 77 = .ok (.ireturn, 1) := by decide +kernel
theorem dX12_fits_0 : decode cX12_fits 0 = .ok (.aload_n 0, 1) := by decide +kernel
theorem dX12_fits_1 : decode cX12_fits 1 = .ok (.iload_n 1, 1) := by decide +kernel
theorem dX12_fits_2 : decode cX12_fits 2 = .ok (.iload_n 2, 1) := by decide +kernel
theorem dX12_fits_3 : decode cX12_fits 3 = .ok (.invokevirtual 88, 3) := by decide +kernel
theorem dX12_fits_6 : decode cX12_fits 6 = .ok (.istore_n 3, 1) := by decide +kernel
theorem dX12_fits_7 : decode cX12_fits 7 = .ok (.iload_n 3, 1) := by decide +kernel
theorem dX12_fits_8 : decode cX12_fits 8 = .ok (.aload_n 0, 1) := by decide +kernel
theorem dX12_fits_9 : decode cX12_fits 9 = .ok (.getfield 7, 3) := by decide +kernel
theorem dX12_fits_12 : decode cX12_fits 12 = .ok (.if_icmp .lt 19, 3) := by decide +kernel
theorem dX12_fits_15 : decode cX12_fits 15 = .ok (.iload_n 2, 1) := by decide +kernel
theorem dX12_fits_16 : decode cX12_fits 16 = .ok (.ifCond .gt 11, 3) := by decide +kernel
theorem dX12_fits_19 : decode cX12_fits 19 = .ok (.iload_n 3, 1) := by decide +kernel
theorem dX12_fits_20 : decode cX12_fits 20 = .ok (.aload_n 0, 1) := by decide +kernel
theorem dX12_fits_21 : decode cX12_fits 21 = .ok (.getfield 13, 3) := by decide +kernel
theorem dX12_fits_24 : decode cX12_fits 24 = .ok (.if_icmp .gt 7, 3) := by decide +kernel
theorem dX12_fits_27 : decode cX12_fits 27 = .ok (.iconst 1, 1) := by decide +kernel
theorem dX12_fits_28 : decode cX12_fits 28 = .ok (.goto 4, 3) := by decide +kernel
theorem dX12_fits_31 : decode cX12_fits 31 = .ok (.iconst 0, 1) := by decide +kernel
theorem dX12_fits_32 : decode cX12_fits 32 = .ok (.ireturn, 1) := by decide +kernel
theorem dX12_lacksNow_0 : decode cX12_lacksNow 0 = .ok (.iconst 0, 1) := by decide +kernel
theorem dX12_lacksNow_1 : decode cX12_lacksNow 1 = .ok (.istore_n 1, 1) := by decide +kernel
theorem dX12_lacksNow_2 : decode cX12_lacksNow 2 = .ok (.iconst 0, 1) := by decide +kernel
theorem dX12_lacksNow_3 : decode cX12_lacksNow 3 = .ok (.istore_n 2, 1) := by decide +kernel
theorem dX12_lacksNow_4 : decode cX12_lacksNow 4 = .ok (.iload_n 2, 1) := by decide +kernel
theorem dX12_lacksNow_5 : decode cX12_lacksNow 5 = .ok (.aload_n 0, 1) := by decide +kernel
theorem dX12_lacksNow_6 : decode cX12_lacksNow 6 = .ok (.getfield 81, 3) := by decide +kernel
theorem dX12_lacksNow_9 : decode cX12_lacksNow 9 = .ok (.if_icmp .ge 73, 3) := by decide +kernel
theorem dX12_lacksNow_12 : decode cX12_lacksNow 12 = .ok (.iconst 0, 1) := by decide +kernel
theorem dX12_lacksNow_13 : decode cX12_lacksNow 13 = .ok (.istore_n 3, 1) := by decide +kernel
theorem dX12_lacksNow_14 : decode cX12_lacksNow 14 = .ok (.iload_n 3, 1) := by decide +kernel
theorem dX12_lacksNow_15 : decode cX12_lacksNow 15 = .ok (.iconst 4, 1) := by decide +kernel
theorem dX12_lacksNow_16 : decode cX12_lacksNow 16 = .ok (.if_icmp .ge 36, 3) := by decide +kernel
theorem dX12_lacksNow_19 : decode cX12_lacksNow 19 = .ok (.aload_n 0, 1) := by decide +kernel
theorem dX12_lacksNow_20 : decode cX12_lacksNow 20 = .ok (.getfield 7, 3) := by decide +kernel
theorem dX12_lacksNow_23 : decode cX12_lacksNow 23 = .ok (.aload_n 0, 1) := by decide +kernel
theorem dX12_lacksNow_24 : decode cX12_lacksNow 24 = .ok (.iload_n 2, 1) := by decide +kernel
theorem dX12_lacksNow_25 : decode cX12_lacksNow 25 = .ok (.iload_n 3, 1) := by decide +kernel
theorem dX12_lacksNow_26 : decode cX12_lacksNow 26 = .ok (.invokevirtual 88, 3) := by decide +kernel
theorem dX12_lacksNow_29 : decode cX12_lacksNow 29 = .ok (.isub, 1) := by decide +kernel
theorem dX12_lacksNow_30 : decode cX12_lacksNow 30 = .ok (.istore 4, 2) := by decide +kernel
theorem dX12_lacksNow_32 : decode cX12_lacksNow 32 = .ok (.iload_n 1, 1) := by decide +kernel
theorem dX12_lacksNow_33 : decode cX12_lacksNow 33 = .ok (.iload 4, 2) := by decide +kernel
theorem dX12_lacksNow_35 : decode cX12_lacksNow 35 = .ok (.ifCond .le 8, 3) := by decide +kernel
theorem dX12_lacksNow_38 : decode cX12_lacksNow 38 = .ok (.iload 4, 2) := by decide +kernel
theorem dX12_lacksNow_40 : decode cX12_lacksNow 40 = .ok (.goto 4, 3) := by decide +kernel
theorem dX12_lacksNow_43 : decode cX12_lacksNow 43 = .ok (.iconst 0, 1) := by decide +kernel
theorem dX12_lacksNow_44 : decode cX12_lacksNow 44 = .ok (.iadd, 1) := by decide +kernel
theorem dX12_lacksNow_45 : decode cX12_lacksNow 45 = .ok (.istore_n 1, 1) := by decide +kernel
theorem dX12_lacksNow_46 : decode cX12_lacksNow 46 = .ok (.iinc 3 1, 3) := by decide +kernel
theorem dX12_lacksNow_49 : decode cX12_lacksNow 49 = .ok (.goto (-35), 3) := by decide +kernel
theorem dX12_lacksNow_52 : decode cX12_lacksNow 52 = .ok (.aload_n 0, 1) := by decide +kernel
theorem dX12_lacksNow_53 : decode cX12_lacksNow 53 = .ok (.iload_n 2, 1) := by decide +kernel
theorem dX12_lacksNow_54 : decode cX12_lacksNow 54 = .ok (.iconst 0, 1) := by decide +kernel
theorem dX12_lacksNow_55 : decode cX12_lacksNow 55 = .ok (.invokevirtual 88, 3) := by decide +kernel
theorem dX12_lacksNow_58 : decode cX12_lacksNow 58 = .ok (.aload_n 0, 1) := by decide +kernel
theorem dX12_lacksNow_59 : decode cX12_lacksNow 59 = .ok (.getfield 13, 3) := by decide +kernel
theorem dX12_lacksNow_62 : decode cX12_lacksNow 62 = .ok (.isub, 1) := by decide +kernel
theorem dX12_lacksNow_63 : decode cX12_lacksNow 63 = .ok (.istore_n 3, 1) := by decide +kernel
theorem dX12_lacksNow_64 : decode cX12_lacksNow 64 = .ok (.iload_n 1, 1) := by decide +kernel
theorem dX12_lacksNow_65 : decode cX12_lacksNow 65 = .ok (.iload_n 3, 1) := by decide +kernel
theorem dX12_lacksNow_66 : decode cX12_lacksNow 66 = .ok (.ifCond .le 7, 3) := by decide +kernel
theorem dX12_lacksNow_69 : decode cX12_lacksNow 69 = .ok (.iload_n 3, 1) := by decide +kernel
theorem dX12_lacksNow_70 : decode cX12_lacksNow 70 = .ok (.goto 4, 3) := by decide +kernel
theorem dX12_lacksNow_73 : decode cX12_lacksNow 73 = .ok (.iconst 0, 1) := by decide +kernel
theorem dX12_lacksNow_74 : decode cX12_lacksNow 74 = .ok (.iadd, 1) := by decide +kernel
theorem dX12_lacksNow_75 : decode cX12_lacksNow 75 = .ok (.istore_n 1, 1) := by decide +kernel
theorem dX12_lacksNow_76 : decode cX12_lacksNow 76 = .ok (.iinc 2 1, 3) := by decide +kernel
theorem dX12_lacksNow_79 : decode cX12_lacksNow 79 = .ok (.goto (-75), 3) := by decide +kernel
theorem dX12_lacksNow_82 : decode cX12_lacksNow 82 = .ok (.iload_n 1, 1) := by decide +kernel
theorem dX12_lacksNow_83 : decode cX12_lacksNow 83 = .ok (.ireturn, 1) := by decide +kernel
theorem dX12_minutesOf_0 : decode cX12_minutesOf 0 = .ok (.iload_n 0, 1) := by decide +kernel
theorem dX12_minutesOf_1 : decode cX12_minutesOf 1 = .ok (.tableswitch 74 0 6 #[43, 45, 49, 55, 61, 68, 70], 43) := by decide +kernel
theorem dX12_minutesOf_44 : decode cX12_minutesOf 44 = .ok (.iconst 1, 1) := by decide +kernel
theorem dX12_minutesOf_45 : decode cX12_minutesOf 45 = .ok (.ireturn, 1) := by decide +kernel
theorem dX12_minutesOf_46 : decode cX12_minutesOf 46 = .ok (.iconst 1, 1) := by decide +kernel
theorem dX12_minutesOf_47 : decode cX12_minutesOf 47 = .ok (.iload_n 1, 1) := by decide +kernel
theorem dX12_minutesOf_48 : decode cX12_minutesOf 48 = .ok (.iadd, 1) := by decide +kernel
theorem dX12_minutesOf_49 : decode cX12_minutesOf 49 = .ok (.ireturn, 1) := by decide +kernel
theorem dX12_minutesOf_50 : decode cX12_minutesOf 50 = .ok (.iconst 1, 1) := by decide +kernel
theorem dX12_minutesOf_51 : decode cX12_minutesOf 51 = .ok (.iconst 2, 1) := by decide +kernel
theorem dX12_minutesOf_52 : decode cX12_minutesOf 52 = .ok (.iload_n 1, 1) := by decide +kernel
theorem dX12_minutesOf_53 : decode cX12_minutesOf 53 = .ok (.imul, 1) := by decide +kernel
theorem dX12_minutesOf_54 : decode cX12_minutesOf 54 = .ok (.iadd, 1) := by decide +kernel
theorem dX12_minutesOf_55 : decode cX12_minutesOf 55 = .ok (.ireturn, 1) := by decide +kernel
theorem dX12_minutesOf_56 : decode cX12_minutesOf 56 = .ok (.iconst 3, 1) := by decide +kernel
theorem dX12_minutesOf_57 : decode cX12_minutesOf 57 = .ok (.iconst 3, 1) := by decide +kernel
theorem dX12_minutesOf_58 : decode cX12_minutesOf 58 = .ok (.iload_n 1, 1) := by decide +kernel
theorem dX12_minutesOf_59 : decode cX12_minutesOf 59 = .ok (.imul, 1) := by decide +kernel
theorem dX12_minutesOf_60 : decode cX12_minutesOf 60 = .ok (.iadd, 1) := by decide +kernel
theorem dX12_minutesOf_61 : decode cX12_minutesOf 61 = .ok (.ireturn, 1) := by decide +kernel
theorem dX12_minutesOf_62 : decode cX12_minutesOf 62 = .ok (.bipush 10, 2) := by decide +kernel
theorem dX12_minutesOf_64 : decode cX12_minutesOf 64 = .ok (.iconst 2, 1) := by decide +kernel
theorem dX12_minutesOf_65 : decode cX12_minutesOf 65 = .ok (.iload_n 1, 1) := by decide +kernel
theorem dX12_minutesOf_66 : decode cX12_minutesOf 66 = .ok (.imul, 1) := by decide +kernel
theorem dX12_minutesOf_67 : decode cX12_minutesOf 67 = .ok (.iadd, 1) := by decide +kernel
theorem dX12_minutesOf_68 : decode cX12_minutesOf 68 = .ok (.ireturn, 1) := by decide +kernel
theorem dX12_minutesOf_69 : decode cX12_minutesOf 69 = .ok (.iconst 0, 1) := by decide +kernel
theorem dX12_minutesOf_70 : decode cX12_minutesOf 70 = .ok (.ireturn, 1) := by decide +kernel
theorem dX12_minutesOf_71 : decode cX12_minutesOf 71 = .ok (.iconst 1, 1) := by decide +kernel
theorem dX12_minutesOf_72 : decode cX12_minutesOf 72 = .ok (.iload_n 1, 1) := by decide +kernel
theorem dX12_minutesOf_73 : decode cX12_minutesOf 73 = .ok (.iadd, 1) := by decide +kernel
theorem dX12_minutesOf_74 : decode cX12_minutesOf 74 = .ok (.ireturn, 1) := by decide +kernel
theorem dX12_minutesOf_75 : decode cX12_minutesOf 75 = .ok (.iconst 5, 1) := by decide +kernel
theorem dX12_minutesOf_76 : decode cX12_minutesOf 76 = .ok (.iload_n 1, 1) := by decide +kernel
theorem dX12_minutesOf_77 : decode cX12_minutesOf 77 = .ok (.iadd, 1) := by decide +kernel
theorem dX12_minutesOf_78 : decode cX12_minutesOf 78 = .ok (.ireturn, 1) := by decide +kernel
theorem dX12_mayBe_0 : decode cX12_mayBe 0 = .ok (.iload_n 1, 1) := by decide +kernel
theorem dX12_mayBe_1 : decode cX12_mayBe 1 = .ok (.tableswitch 140 1 7 #[43, 59, 75, 140, 101, 59, 114], 43) := by decide +kernel
theorem dX12_mayBe_44 : decode cX12_mayBe 44 = .ok (.aload_n 0, 1) := by decide +kernel
theorem dX12_mayBe_45 : decode cX12_mayBe 45 = .ok (.getfield 20, 3) := by decide +kernel
theorem dX12_mayBe_48 : decode cX12_mayBe 48 = .ok (.iload_n 3, 1) := by decide +kernel
theorem dX12_mayBe_49 : decode cX12_mayBe 49 = .ok (.iaload, 1) := by decide +kernel
theorem dX12_mayBe_50 : decode cX12_mayBe 50 = .ok (.iload_n 2, 1) := by decide +kernel
theorem dX12_mayBe_51 : decode cX12_mayBe 51 = .ok (.if_icmp .le 7, 3) := by decide +kernel
theorem dX12_mayBe_54 : decode cX12_mayBe 54 = .ok (.iconst 1, 1) := by decide +kernel
theorem dX12_mayBe_55 : decode cX12_mayBe 55 = .ok (.goto 4, 3) := by decide +kernel
theorem dX12_mayBe_58 : decode cX12_mayBe 58 = .ok (.iconst 0, 1) := by decide +kernel
theorem dX12_mayBe_59 : decode cX12_mayBe 59 = .ok (.ireturn, 1) := by decide +kernel
theorem dX12_mayBe_60 : decode cX12_mayBe 60 = .ok (.aload_n 0, 1) := by decide +kernel
theorem dX12_mayBe_61 : decode cX12_mayBe 61 = .ok (.getfield 23, 3) := by decide +kernel
theorem dX12_mayBe_64 : decode cX12_mayBe 64 = .ok (.iload_n 3, 1) := by decide +kernel
theorem dX12_mayBe_65 : decode cX12_mayBe 65 = .ok (.iaload, 1) := by decide +kernel
theorem dX12_mayBe_66 : decode cX12_mayBe 66 = .ok (.iload_n 2, 1) := by decide +kernel
theorem dX12_mayBe_67 : decode cX12_mayBe 67 = .ok (.if_icmp .lt 7, 3) := by decide +kernel
theorem dX12_mayBe_70 : decode cX12_mayBe 70 = .ok (.iconst 1, 1) := by decide +kernel
theorem dX12_mayBe_71 : decode cX12_mayBe 71 = .ok (.goto 4, 3) := by decide +kernel
theorem dX12_mayBe_74 : decode cX12_mayBe 74 = .ok (.iconst 0, 1) := by decide +kernel
theorem dX12_mayBe_75 : decode cX12_mayBe 75 = .ok (.ireturn, 1) := by decide +kernel
theorem dX12_mayBe_76 : decode cX12_mayBe 76 = .ok (.aload_n 0, 1) := by decide +kernel
theorem dX12_mayBe_77 : decode cX12_mayBe 77 = .ok (.getfield 20, 3) := by decide +kernel
theorem dX12_mayBe_80 : decode cX12_mayBe 80 = .ok (.iload_n 3, 1) := by decide +kernel
theorem dX12_mayBe_81 : decode cX12_mayBe 81 = .ok (.iaload, 1) := by decide +kernel
theorem dX12_mayBe_82 : decode cX12_mayBe 82 = .ok (.iload_n 2, 1) := by decide +kernel
theorem dX12_mayBe_83 : decode cX12_mayBe 83 = .ok (.if_icmp .le 17, 3) := by decide +kernel
theorem dX12_mayBe_86 : decode cX12_mayBe 86 = .ok (.iload_n 3, 1) := by decide +kernel
theorem dX12_mayBe_87 : decode cX12_mayBe 87 = .ok (.iconst 1, 1) := by decide +kernel
theorem dX12_mayBe_88 : decode cX12_mayBe 88 = .ok (.iadd, 1) := by decide +kernel
theorem dX12_mayBe_89 : decode cX12_mayBe 89 = .ok (.aload_n 0, 1) := by decide +kernel
theorem dX12_mayBe_90 : decode cX12_mayBe 90 = .ok (.getfield 81, 3) := by decide +kernel
theorem dX12_mayBe_93 : decode cX12_mayBe 93 = .ok (.if_icmp .ge 7, 3) := by decide +kernel
theorem dX12_mayBe_96 : decode cX12_mayBe 96 = .ok (.iconst 1, 1) := by decide +kernel
theorem dX12_mayBe_97 : decode cX12_mayBe 97 = .ok (.goto 4, 3) := by decide +kernel
theorem dX12_mayBe_100 : decode cX12_mayBe 100 = .ok (.iconst 0, 1) := by decide +kernel
theorem dX12_mayBe_101 : decode cX12_mayBe 101 = .ok (.ireturn, 1) := by decide +kernel
theorem dX12_mayBe_102 : decode cX12_mayBe 102 = .ok (.aload_n 0, 1) := by decide +kernel
theorem dX12_mayBe_103 : decode cX12_mayBe 103 = .ok (.getfield 92, 3) := by decide +kernel
theorem dX12_mayBe_106 : decode cX12_mayBe 106 = .ok (.ifCond .le 7, 3) := by decide +kernel
theorem dX12_mayBe_109 : decode cX12_mayBe 109 = .ok (.iconst 1, 1) := by decide +kernel
theorem dX12_mayBe_110 : decode cX12_mayBe 110 = .ok (.goto 4, 3) := by decide +kernel
theorem dX12_mayBe_113 : decode cX12_mayBe 113 = .ok (.iconst 0, 1) := by decide +kernel
theorem dX12_mayBe_114 : decode cX12_mayBe 114 = .ok (.ireturn, 1) := by decide +kernel
theorem dX12_mayBe_115 : decode cX12_mayBe 115 = .ok (.aload_n 0, 1) := by decide +kernel
theorem dX12_mayBe_116 : decode cX12_mayBe 116 = .ok (.getfield 20, 3) := by decide +kernel
theorem dX12_mayBe_119 : decode cX12_mayBe 119 = .ok (.iload_n 3, 1) := by decide +kernel
theorem dX12_mayBe_120 : decode cX12_mayBe 120 = .ok (.iaload, 1) := by decide +kernel
theorem dX12_mayBe_121 : decode cX12_mayBe 121 = .ok (.iload_n 2, 1) := by decide +kernel
theorem dX12_mayBe_122 : decode cX12_mayBe 122 = .ok (.if_icmp .le 17, 3) := by decide +kernel
theorem dX12_mayBe_125 : decode cX12_mayBe 125 = .ok (.iload_n 3, 1) := by decide +kernel
theorem dX12_mayBe_126 : decode cX12_mayBe 126 = .ok (.iconst 1, 1) := by decide +kernel
theorem dX12_mayBe_127 : decode cX12_mayBe 127 = .ok (.iadd, 1) := by decide +kernel
theorem dX12_mayBe_128 : decode cX12_mayBe 128 = .ok (.aload_n 0, 1) := by decide +kernel
theorem dX12_mayBe_129 : decode cX12_mayBe 129 = .ok (.getfield 81, 3) := by decide +kernel
theorem dX12_mayBe_132 : decode cX12_mayBe 132 = .ok (.if_icmp .ne 7, 3) := by decide +kernel
theorem dX12_mayBe_135 : decode cX12_mayBe 135 = .ok (.iconst 1, 1) := by decide +kernel
theorem dX12_mayBe_136 : decode cX12_mayBe 136 = .ok (.goto 4, 3) := by decide +kernel
theorem dX12_mayBe_139 : decode cX12_mayBe 139 = .ok (.iconst 0, 1) := by decide +kernel
theorem dX12_mayBe_140 : decode cX12_mayBe 140 = .ok (.ireturn, 1) := by decide +kernel
theorem dX12_mayBe_141 : decode cX12_mayBe 141 = .ok (.iconst 1, 1) := by decide +kernel
theorem dX12_mayBe_142 : decode cX12_mayBe 142 = .ok (.ireturn, 1) := by decide +kernel
theorem dX12_most_0 : decode cX12_most 0 = .ok (.iload_n 0, 1) := by decide +kernel
theorem dX12_most_1 : decode cX12_most 1 = .ok (.iload_n 1, 1) := by decide +kernel
theorem dX12_most_2 : decode cX12_most 2 = .ok (.if_icmp .le 7, 3) := by decide +kernel
theorem dX12_most_5 : decode cX12_most 5 = .ok (.iload_n 1, 1) := by decide +kernel
theorem dX12_most_6 : decode cX12_most 6 = .ok (.goto 4, 3) := by decide +kernel
theorem dX12_most_9 : decode cX12_most 9 = .ok (.iload_n 0, 1) := by decide +kernel
theorem dX12_most_10 : decode cX12_most 10 = .ok (.ireturn, 1) := by decide +kernel
theorem dX12_widen_0 : decode cX12_widen 0 = .ok (.aload_n 0, 1) := by decide +kernel
theorem dX12_widen_1 : decode cX12_widen 1 = .ok (.getfield 20, 3) := by decide +kernel
theorem dX12_widen_4 : decode cX12_widen 4 = .ok (.iload_n 1, 1) := by decide +kernel
theorem dX12_widen_5 : decode cX12_widen 5 = .ok (.aload_n 0, 1) := by decide +kernel
theorem dX12_widen_6 : decode cX12_widen 6 = .ok (.getfield 20, 3) := by decide +kernel
theorem dX12_widen_9 : decode cX12_widen 9 = .ok (.iload_n 1, 1) := by decide +kernel
theorem dX12_widen_10 : decode cX12_widen 10 = .ok (.iaload, 1) := by decide +kernel
theorem dX12_widen_11 : decode cX12_widen 11 = .ok (.iload_n 2, 1) := by decide +kernel
theorem dX12_widen_12 : decode cX12_widen 12 = .ok (.iadd, 1) := by decide +kernel
theorem dX12_widen_13 : decode cX12_widen 13 = .ok (.bipush 99, 2) := by decide +kernel
theorem dX12_widen_15 : decode cX12_widen 15 = .ok (.invokestatic 95, 3) := by decide +kernel
theorem dX12_widen_18 : decode cX12_widen 18 = .ok (.iastore, 1) := by decide +kernel
theorem dX12_widen_19 : decode cX12_widen 19 = .ok (.return_, 1) := by decide +kernel
theorem dX12_does_0 : decode cX12_does 0 = .ok (.iload_n 1, 1) := by decide +kernel
theorem dX12_does_1 : decode cX12_does 1 = .ok (.iconst 1, 1) := by decide +kernel
theorem dX12_does_2 : decode cX12_does 2 = .ok (.if_icmp .eq 14, 3) := by decide +kernel
theorem dX12_does_5 : decode cX12_does 5 = .ok (.iload_n 1, 1) := by decide +kernel
theorem dX12_does_6 : decode cX12_does 6 = .ok (.iconst 3, 1) := by decide +kernel
theorem dX12_does_7 : decode cX12_does 7 = .ok (.if_icmp .eq 9, 3) := by decide +kernel
theorem dX12_does_10 : decode cX12_does 10 = .ok (.iload_n 1, 1) := by decide +kernel
theorem dX12_does_11 : decode cX12_does 11 = .ok (.bipush 7, 2) := by decide +kernel
theorem dX12_does_13 : decode cX12_does 13 = .ok (.if_icmp .ne 34, 3) := by decide +kernel
theorem dX12_does_16 : decode cX12_does 16 = .ok (.aload_n 0, 1) := by decide +kernel
theorem dX12_does_17 : decode cX12_does 17 = .ok (.getfield 20, 3) := by decide +kernel
theorem dX12_does_20 : decode cX12_does 20 = .ok (.iload_n 3, 1) := by decide +kernel
theorem dX12_does_21 : decode cX12_does 21 = .ok (.dup2, 1) := by decide +kernel
theorem dX12_does_22 : decode cX12_does 22 = .ok (.iaload, 1) := by decide +kernel
theorem dX12_does_23 : decode cX12_does 23 = .ok (.iload_n 2, 1) := by decide +kernel
theorem dX12_does_24 : decode cX12_does 24 = .ok (.isub, 1) := by decide +kernel
theorem dX12_does_25 : decode cX12_does 25 = .ok (.iastore, 1) := by decide +kernel
theorem dX12_does_26 : decode cX12_does 26 = .ok (.aload_n 0, 1) := by decide +kernel
theorem dX12_does_27 : decode cX12_does 27 = .ok (.getfield 23, 3) := by decide +kernel
theorem dX12_does_30 : decode cX12_does 30 = .ok (.iload_n 3, 1) := by decide +kernel
theorem dX12_does_31 : decode cX12_does 31 = .ok (.aload_n 0, 1) := by decide +kernel
theorem dX12_does_32 : decode cX12_does 32 = .ok (.getfield 23, 3) := by decide +kernel
theorem dX12_does_35 : decode cX12_does 35 = .ok (.iload_n 3, 1) := by decide +kernel
theorem dX12_does_36 : decode cX12_does 36 = .ok (.iaload, 1) := by decide +kernel
theorem dX12_does_37 : decode cX12_does 37 = .ok (.iload_n 2, 1) := by decide +kernel
theorem dX12_does_38 : decode cX12_does 38 = .ok (.iconst 2, 1) := by decide +kernel
theorem dX12_does_39 : decode cX12_does 39 = .ok (.idiv, 1) := by decide +kernel
theorem dX12_does_40 : decode cX12_does 40 = .ok (.iadd, 1) := by decide +kernel
theorem dX12_does_41 : decode cX12_does 41 = .ok (.bipush 9, 2) := by decide +kernel
theorem dX12_does_43 : decode cX12_does 43 = .ok (.invokestatic 95, 3) := by decide +kernel
theorem dX12_does_46 : decode cX12_does 46 = .ok (.iastore, 1) := by decide +kernel
theorem dX12_does_47 : decode cX12_does 47 = .ok (.iload_n 1, 1) := by decide +kernel
theorem dX12_does_48 : decode cX12_does 48 = .ok (.iconst 2, 1) := by decide +kernel
theorem dX12_does_49 : decode cX12_does 49 = .ok (.if_icmp .eq 9, 3) := by decide +kernel
theorem dX12_does_52 : decode cX12_does 52 = .ok (.iload_n 1, 1) := by decide +kernel
theorem dX12_does_53 : decode cX12_does 53 = .ok (.bipush 6, 2) := by decide +kernel
theorem dX12_does_55 : decode cX12_does 55 = .ok (.if_icmp .ne 19, 3) := by decide +kernel
theorem dX12_does_58 : decode cX12_does 58 = .ok (.aload_n 0, 1) := by decide +kernel
theorem dX12_does_59 : decode cX12_does 59 = .ok (.iload_n 3, 1) := by decide +kernel
theorem dX12_does_60 : decode cX12_does 60 = .ok (.iload_n 2, 1) := by decide +kernel
theorem dX12_does_61 : decode cX12_does 61 = .ok (.invokevirtual 98, 3) := by decide +kernel
theorem dX12_does_64 : decode cX12_does 64 = .ok (.aload_n 0, 1) := by decide +kernel
theorem dX12_does_65 : decode cX12_does 65 = .ok (.getfield 23, 3) := by decide +kernel
theorem dX12_does_68 : decode cX12_does 68 = .ok (.iload_n 3, 1) := by decide +kernel
theorem dX12_does_69 : decode cX12_does 69 = .ok (.dup2, 1) := by decide +kernel
theorem dX12_does_70 : decode cX12_does 70 = .ok (.iaload, 1) := by decide +kernel
theorem dX12_does_71 : decode cX12_does 71 = .ok (.iload_n 2, 1) := by decide +kernel
theorem dX12_does_72 : decode cX12_does 72 = .ok (.isub, 1) := by decide +kernel
theorem dX12_does_73 : decode cX12_does 73 = .ok (.iastore, 1) := by decide +kernel
theorem dX12_does_74 : decode cX12_does 74 = .ok (.iload_n 1, 1) := by decide +kernel
theorem dX12_does_75 : decode cX12_does 75 = .ok (.iconst 3, 1) := by decide +kernel
theorem dX12_does_76 : decode cX12_does 76 = .ok (.if_icmp .ne 11, 3) := by decide +kernel
theorem dX12_does_79 : decode cX12_does 79 = .ok (.aload_n 0, 1) := by decide +kernel
theorem dX12_does_80 : decode cX12_does 80 = .ok (.iload_n 3, 1) := by decide +kernel
theorem dX12_does_81 : decode cX12_does 81 = .ok (.iconst 1, 1) := by decide +kernel
theorem dX12_does_82 : decode cX12_does 82 = .ok (.iadd, 1) := by decide +kernel
theorem dX12_does_83 : decode cX12_does 83 = .ok (.iload_n 2, 1) := by decide +kernel
theorem dX12_does_84 : decode cX12_does 84 = .ok (.invokevirtual 98, 3) := by decide +kernel
theorem dX12_does_87 : decode cX12_does 87 = .ok (.iload_n 1, 1) := by decide +kernel
theorem dX12_does_88 : decode cX12_does 88 = .ok (.iconst 4, 1) := by decide +kernel
theorem dX12_does_89 : decode cX12_does 89 = .ok (.if_icmp .ne 11, 3) := by decide +kernel
theorem dX12_does_92 : decode cX12_does 92 = .ok (.aload_n 0, 1) := by decide +kernel
theorem dX12_does_93 : decode cX12_does 93 = .ok (.iload_n 3, 1) := by decide +kernel
theorem dX12_does_94 : decode cX12_does 94 = .ok (.iconst 2, 1) := by decide +kernel
theorem dX12_does_95 : decode cX12_does 95 = .ok (.iload_n 2, 1) := by decide +kernel
theorem dX12_does_96 : decode cX12_does 96 = .ok (.imul, 1) := by decide +kernel
theorem dX12_does_97 : decode cX12_does 97 = .ok (.invokevirtual 98, 3) := by decide +kernel
theorem dX12_does_100 : decode cX12_does 100 = .ok (.aload_n 0, 1) := by decide +kernel
theorem dX12_does_101 : decode cX12_does 101 = .ok (.iload_n 1, 1) := by decide +kernel
theorem dX12_does_102 : decode cX12_does 102 = .ok (.iconst 5, 1) := by decide +kernel
theorem dX12_does_103 : decode cX12_does 103 = .ok (.if_icmp .ne 12, 3) := by decide +kernel
theorem dX12_does_106 : decode cX12_does 106 = .ok (.aload_n 0, 1) := by decide +kernel
theorem dX12_does_107 : decode cX12_does 107 = .ok (.getfield 92, 3) := by decide +kernel
theorem dX12_does_110 : decode cX12_does 110 = .ok (.iconst 1, 1) := by decide +kernel
theorem dX12_does_111 : decode cX12_does 111 = .ok (.isub, 1) := by decide +kernel
theorem dX12_does_112 : decode cX12_does 112 = .ok (.goto 27, 3) := by decide +kernel
theorem dX12_does_115 : decode cX12_does 115 = .ok (.iload_n 1, 1) := by decide +kernel
theorem dX12_does_116 : decode cX12_does 116 = .ok (.bipush 6, 2) := by decide +kernel
theorem dX12_does_118 : decode cX12_does 118 = .ok (.if_icmp .ne 17, 3) := by decide +kernel
theorem dX12_does_121 : decode cX12_does 121 = .ok (.aload_n 0, 1) := by decide +kernel
theorem dX12_does_122 : decode cX12_does 122 = .ok (.getfield 92, 3) := by decide +kernel
theorem dX12_does_125 : decode cX12_does 125 = .ok (.iload_n 2, 1) := by decide +kernel
theorem dX12_does_126 : decode cX12_does 126 = .ok (.iadd, 1) := by decide +kernel
theorem dX12_does_127 : decode cX12_does 127 = .ok (.bipush 99, 2) := by decide +kernel
theorem dX12_does_129 : decode cX12_does 129 = .ok (.invokestatic 95, 3) := by decide +kernel
theorem dX12_does_132 : decode cX12_does 132 = .ok (.goto 7, 3) := by decide +kernel
theorem dX12_does_135 : decode cX12_does 135 = .ok (.aload_n 0, 1) := by decide +kernel
theorem dX12_does_136 : decode cX12_does 136 = .ok (.getfield 92, 3) := by decide +kernel
theorem dX12_does_139 : decode cX12_does 139 = .ok (.putfield 92, 3) := by decide +kernel
theorem dX12_does_142 : decode cX12_does 142 = .ok (.iconst 0, 1) := by decide +kernel
theorem dX12_does_143 : decode cX12_does 143 = .ok (.istore 4, 2) := by decide +kernel
theorem dX12_does_145 : decode cX12_does 145 = .ok (.iload 4, 2) := by decide +kernel
theorem dX12_does_147 : decode cX12_does 147 = .ok (.iload_n 3, 1) := by decide +kernel
theorem dX12_does_148 : decode cX12_does 148 = .ok (.if_icmp .ge 41, 3) := by decide +kernel
theorem dX12_does_151 : decode cX12_does 151 = .ok (.iload_n 1, 1) := by decide +kernel
theorem dX12_does_152 : decode cX12_does 152 = .ok (.bipush 7, 2) := by decide +kernel
theorem dX12_does_154 : decode cX12_does 154 = .ok (.if_icmp .ne 35, 3) := by decide +kernel
theorem dX12_does_157 : decode cX12_does 157 = .ok (.aload_n 0, 1) := by decide +kernel
theorem dX12_does_158 : decode cX12_does 158 = .ok (.getfield 20, 3) := by decide +kernel
theorem dX12_does_161 : decode cX12_does 161 = .ok (.iload 4, 2) := by decide +kernel
theorem dX12_does_163 : decode cX12_does 163 = .ok (.dup2, 1) := by decide +kernel
theorem dX12_does_164 : decode cX12_does 164 = .ok (.iaload, 1) := by decide +kernel
theorem dX12_does_165 : decode cX12_does 165 = .ok (.aload_n 0, 1) := by decide +kernel
theorem dX12_does_166 : decode cX12_does 166 = .ok (.getfield 20, 3) := by decide +kernel
theorem dX12_does_169 : decode cX12_does 169 = .ok (.iload 4, 2) := by decide +kernel
theorem dX12_does_171 : decode cX12_does 171 = .ok (.iaload, 1) := by decide +kernel
theorem dX12_does_172 : decode cX12_does 172 = .ok (.iconst 1, 1) := by decide +kernel
theorem dX12_does_173 : decode cX12_does 173 = .ok (.if_icmp .le 7, 3) := by decide +kernel
theorem dX12_does_176 : decode cX12_does 176 = .ok (.iconst 1, 1) := by decide +kernel
theorem dX12_does_177 : decode cX12_does 177 = .ok (.goto 4, 3) := by decide +kernel
theorem dX12_does_180 : decode cX12_does 180 = .ok (.iconst 0, 1) := by decide +kernel
theorem dX12_does_181 : decode cX12_does 181 = .ok (.isub, 1) := by decide +kernel
theorem dX12_does_182 : decode cX12_does 182 = .ok (.iastore, 1) := by decide +kernel
theorem dX12_does_183 : decode cX12_does 183 = .ok (.iinc 4 1, 3) := by decide +kernel
theorem dX12_does_186 : decode cX12_does 186 = .ok (.goto (-41), 3) := by decide +kernel
theorem dX12_does_189 : decode cX12_does 189 = .ok (.aload_n 0, 1) := by decide +kernel
theorem dX12_does_190 : decode cX12_does 190 = .ok (.aload_n 0, 1) := by decide +kernel
theorem dX12_does_191 : decode cX12_does 191 = .ok (.getfield 102, 3) := by decide +kernel
theorem dX12_does_194 : decode cX12_does 194 = .ok (.iload_n 1, 1) := by decide +kernel
theorem dX12_does_195 : decode cX12_does 195 = .ok (.iload_n 2, 1) := by decide +kernel
theorem dX12_does_196 : decode cX12_does 196 = .ok (.invokestatic 105, 3) := by decide +kernel
theorem dX12_does_199 : decode cX12_does 199 = .ok (.iadd, 1) := by decide +kernel
theorem dX12_does_200 : decode cX12_does 200 = .ok (.sipush 9999, 3) := by decide +kernel
theorem dX12_does_203 : decode cX12_does 203 = .ok (.invokestatic 95, 3) := by decide +kernel
theorem dX12_does_206 : decode cX12_does 206 = .ok (.putfield 102, 3) := by decide +kernel
theorem dX12_does_209 : decode cX12_does 209 = .ok (.return_, 1) := by decide +kernel
theorem dX12_carry_0 : decode cX12_carry 0 = .ok (.aload_n 0, 1) := by decide +kernel
theorem dX12_carry_1 : decode cX12_carry 1 = .ok (.getfield 108, 3) := by decide +kernel
theorem dX12_carry_4 : decode cX12_carry 4 = .ok (.ifCond .eq 13, 3) := by decide +kernel
theorem dX12_carry_7 : decode cX12_carry 7 = .ok (.aload_n 0, 1) := by decide +kernel
theorem dX12_carry_8 : decode cX12_carry 8 = .ok (.getfield 112, 3) := by decide +kernel
theorem dX12_carry_11 : decode cX12_carry 11 = .ok (.aload_n 0, 1) := by decide +kernel
theorem dX12_carry_12 : decode cX12_carry 12 = .ok (.getfield 115, 3) := by decide +kernel
theorem dX12_carry_15 : decode cX12_carry 15 = .ok (.iload_n 1, 1) := by decide +kernel
theorem dX12_carry_16 : decode cX12_carry 16 = .ok (.iastore, 1) := by decide +kernel
theorem dX12_carry_17 : decode cX12_carry 17 = .ok (.aload_n 0, 1) := by decide +kernel
theorem dX12_carry_18 : decode cX12_carry 18 = .ok (.dup, 1) := by decide +kernel
theorem dX12_carry_19 : decode cX12_carry 19 = .ok (.getfield 115, 3) := by decide +kernel
theorem dX12_carry_22 : decode cX12_carry 22 = .ok (.iconst 1, 1) := by decide +kernel
theorem dX12_carry_23 : decode cX12_carry 23 = .ok (.iadd, 1) := by decide +kernel
theorem dX12_carry_24 : decode cX12_carry 24 = .ok (.putfield 115, 3) := by decide +kernel
theorem dX12_carry_27 : decode cX12_carry 27 = .ok (.aload_n 0, 1) := by decide +kernel
theorem dX12_carry_28 : decode cX12_carry 28 = .ok (.getfield 112, 3) := by decide +kernel
theorem dX12_carry_31 : decode cX12_carry 31 = .ok (.aload_n 0, 1) := by decide +kernel
theorem dX12_carry_32 : decode cX12_carry 32 = .ok (.getfield 115, 3) := by decide +kernel
theorem dX12_carry_35 : decode cX12_carry 35 = .ok (.iconst 1, 1) := by decide +kernel
theorem dX12_carry_36 : decode cX12_carry 36 = .ok (.isub, 1) := by decide +kernel
theorem dX12_carry_37 : decode cX12_carry 37 = .ok (.iaload, 1) := by decide +kernel
theorem dX12_carry_38 : decode cX12_carry 38 = .ok (.ireturn, 1) := by decide +kernel
theorem dX12_carryAll_0 : decode cX12_carryAll 0 = .ok (.aload_n 0, 1) := by decide +kernel
theorem dX12_carryAll_1 : decode cX12_carryAll 1 = .ok (.aload_n 1, 1) := by decide +kernel
theorem dX12_carryAll_2 : decode cX12_carryAll 2 = .ok (.putfield 112, 3) := by decide +kernel
theorem dX12_carryAll_5 : decode cX12_carryAll 5 = .ok (.aload_n 0, 1) := by decide +kernel
theorem dX12_carryAll_6 : decode cX12_carryAll 6 = .ok (.iload_n 2, 1) := by decide +kernel
theorem dX12_carryAll_7 : decode cX12_carryAll 7 = .ok (.putfield 108, 3) := by decide +kernel
theorem dX12_carryAll_10 : decode cX12_carryAll 10 = .ok (.aload_n 0, 1) := by decide +kernel
theorem dX12_carryAll_11 : decode cX12_carryAll 11 = .ok (.iconst 0, 1) := by decide +kernel
theorem dX12_carryAll_12 : decode cX12_carryAll 12 = .ok (.putfield 115, 3) := by decide +kernel
theorem dX12_carryAll_15 : decode cX12_carryAll 15 = .ok (.aload_n 0, 1) := by decide +kernel
theorem dX12_carryAll_16 : decode cX12_carryAll 16 = .ok (.aload_n 0, 1) := by decide +kernel
theorem dX12_carryAll_17 : decode cX12_carryAll 17 = .ok (.aload_n 0, 1) := by decide +kernel
theorem dX12_carryAll_18 : decode cX12_carryAll 18 = .ok (.getfield 81, 3) := by decide +kernel
theorem dX12_carryAll_21 : decode cX12_carryAll 21 = .ok (.invokevirtual 118, 3) := by decide +kernel
theorem dX12_carryAll_24 : decode cX12_carryAll 24 = .ok (.putfield 81, 3) := by decide +kernel
theorem dX12_carryAll_27 : decode cX12_carryAll 27 = .ok (.aload_n 0, 1) := by decide +kernel
theorem dX12_carryAll_28 : decode cX12_carryAll 28 = .ok (.aload_n 0, 1) := by decide +kernel
theorem dX12_carryAll_29 : decode cX12_carryAll 29 = .ok (.aload_n 0, 1) := by decide +kernel
theorem dX12_carryAll_30 : decode cX12_carryAll 30 = .ok (.getfield 92, 3) := by decide +kernel
theorem dX12_carryAll_33 : decode cX12_carryAll 33 = .ok (.invokevirtual 118, 3) := by decide +kernel
theorem dX12_carryAll_36 : decode cX12_carryAll 36 = .ok (.putfield 92, 3) := by decide +kernel
theorem dX12_carryAll_39 : decode cX12_carryAll 39 = .ok (.aload_n 0, 1) := by decide +kernel
theorem dX12_carryAll_40 : decode cX12_carryAll 40 = .ok (.aload_n 0, 1) := by decide +kernel
theorem dX12_carryAll_41 : decode cX12_carryAll 41 = .ok (.aload_n 0, 1) := by decide +kernel
theorem dX12_carryAll_42 : decode cX12_carryAll 42 = .ok (.getfield 102, 3) := by decide +kernel
theorem dX12_carryAll_45 : decode cX12_carryAll 45 = .ok (.invokevirtual 118, 3) := by decide +kernel
theorem dX12_carryAll_48 : decode cX12_carryAll 48 = .ok (.putfield 102, 3) := by decide +kernel
theorem dX12_carryAll_51 : decode cX12_carryAll 51 = .ok (.aload_n 0, 1) := by decide +kernel
theorem dX12_carryAll_52 : decode cX12_carryAll 52 = .ok (.aload_n 0, 1) := by decide +kernel
theorem dX12_carryAll_53 : decode cX12_carryAll 53 = .ok (.aload_n 0, 1) := by decide +kernel
theorem dX12_carryAll_54 : decode cX12_carryAll 54 = .ok (.getfield 7, 3) := by decide +kernel
theorem dX12_carryAll_57 : decode cX12_carryAll 57 = .ok (.invokevirtual 118, 3) := by decide +kernel
theorem dX12_carryAll_60 : decode cX12_carryAll 60 = .ok (.putfield 7, 3) := by decide +kernel
theorem dX12_carryAll_63 : decode cX12_carryAll 63 = .ok (.aload_n 0, 1) := by decide +kernel
theorem dX12_carryAll_64 : decode cX12_carryAll 64 = .ok (.aload_n 0, 1) := by decide +kernel
theorem dX12_carryAll_65 : decode cX12_carryAll 65 = .ok (.aload_n 0, 1) := by decide +kernel
theorem dX12_carryAll_66 : decode cX12_carryAll 66 = .ok (.getfield 13, 3) := by decide +kernel
theorem dX12_carryAll_69 : decode cX12_carryAll 69 = .ok (.invokevirtual 118, 3) := by decide +kernel
theorem dX12_carryAll_72 : decode cX12_carryAll 72 = .ok (.putfield 13, 3) := by decide +kernel
theorem dX12_carryAll_75 : decode cX12_carryAll 75 = .ok (.iconst 0, 1) := by decide +kernel
theorem dX12_carryAll_76 : decode cX12_carryAll 76 = .ok (.istore_n 3, 1) := by decide +kernel
theorem dX12_carryAll_77 : decode cX12_carryAll 77 = .ok (.iload_n 3, 1) := by decide +kernel
theorem dX12_carryAll_78 : decode cX12_carryAll 78 = .ok (.bipush 6, 2) := by decide +kernel
theorem dX12_carryAll_80 : decode cX12_carryAll 80 = .ok (.if_icmp .ge 73, 3) := by decide +kernel
theorem dX12_carryAll_83 : decode cX12_carryAll 83 = .ok (.aload_n 0, 1) := by decide +kernel
theorem dX12_carryAll_84 : decode cX12_carryAll 84 = .ok (.getfield 16, 3) := by decide +kernel
theorem dX12_carryAll_87 : decode cX12_carryAll 87 = .ok (.iload_n 3, 1) := by decide +kernel
theorem dX12_carryAll_88 : decode cX12_carryAll 88 = .ok (.aload_n 0, 1) := by decide +kernel
theorem dX12_carryAll_89 : decode cX12_carryAll 89 = .ok (.aload_n 0, 1) := by decide +kernel
theorem dX12_carryAll_90 : decode cX12_carryAll 90 = .ok (.getfield 16, 3) := by decide +kernel
theorem dX12_carryAll_93 : decode cX12_carryAll 93 = .ok (.iload_n 3, 1) := by decide +kernel
theorem dX12_carryAll_94 : decode cX12_carryAll 94 = .ok (.iaload, 1) := by decide +kernel
theorem dX12_carryAll_95 : decode cX12_carryAll 95 = .ok (.invokevirtual 118, 3) := by decide +kernel
theorem dX12_carryAll_98 : decode cX12_carryAll 98 = .ok (.iastore, 1) := by decide +kernel
theorem dX12_carryAll_99 : decode cX12_carryAll 99 = .ok (.aload_n 0, 1) := by decide +kernel
theorem dX12_carryAll_100 : decode cX12_carryAll 100 = .ok (.getfield 20, 3) := by decide +kernel
theorem dX12_carryAll_103 : decode cX12_carryAll 103 = .ok (.iload_n 3, 1) := by decide +kernel
theorem dX12_carryAll_104 : decode cX12_carryAll 104 = .ok (.aload_n 0, 1) := by decide +kernel
theorem dX12_carryAll_105 : decode cX12_carryAll 105 = .ok (.aload_n 0, 1) := by decide +kernel
theorem dX12_carryAll_106 : decode cX12_carryAll 106 = .ok (.getfield 20, 3) := by decide +kernel
theorem dX12_carryAll_109 : decode cX12_carryAll 109 = .ok (.iload_n 3, 1) := by decide +kernel
theorem dX12_carryAll_110 : decode cX12_carryAll 110 = .ok (.iaload, 1) := by decide +kernel
theorem dX12_carryAll_111 : decode cX12_carryAll 111 = .ok (.invokevirtual 118, 3) := by decide +kernel
theorem dX12_carryAll_114 : decode cX12_carryAll 114 = .ok (.iastore, 1) := by decide +kernel
theorem dX12_carryAll_115 : decode cX12_carryAll 115 = .ok (.aload_n 0, 1) := by decide +kernel
theorem dX12_carryAll_116 : decode cX12_carryAll 116 = .ok (.getfield 23, 3) := by decide +kernel
theorem dX12_carryAll_119 : decode cX12_carryAll 119 = .ok (.iload_n 3, 1) := by decide +kernel
theorem dX12_carryAll_120 : decode cX12_carryAll 120 = .ok (.aload_n 0, 1) := by decide +kernel
theorem dX12_carryAll_121 : decode cX12_carryAll 121 = .ok (.aload_n 0, 1) := by decide +kernel
theorem dX12_carryAll_122 : decode cX12_carryAll 122 = .ok (.getfield 23, 3) := by decide +kernel
theorem dX12_carryAll_125 : decode cX12_carryAll 125 = .ok (.iload_n 3, 1) := by decide +kernel
theorem dX12_carryAll_126 : decode cX12_carryAll 126 = .ok (.iaload, 1) := by decide +kernel
theorem dX12_carryAll_127 : decode cX12_carryAll 127 = .ok (.invokevirtual 118, 3) := by decide +kernel
theorem dX12_carryAll_130 : decode cX12_carryAll 130 = .ok (.iastore, 1) := by decide +kernel
theorem dX12_carryAll_131 : decode cX12_carryAll 131 = .ok (.aload_n 0, 1) := by decide +kernel
theorem dX12_carryAll_132 : decode cX12_carryAll 132 = .ok (.getfield 26, 3) := by decide +kernel
theorem dX12_carryAll_135 : decode cX12_carryAll 135 = .ok (.iload_n 3, 1) := by decide +kernel
theorem dX12_carryAll_136 : decode cX12_carryAll 136 = .ok (.aload_n 0, 1) := by decide +kernel
theorem dX12_carryAll_137 : decode cX12_carryAll 137 = .ok (.aload_n 0, 1) := by decide +kernel
theorem dX12_carryAll_138 : decode cX12_carryAll 138 = .ok (.getfield 26, 3) := by decide +kernel
theorem dX12_carryAll_141 : decode cX12_carryAll 141 = .ok (.iload_n 3, 1) := by decide +kernel
theorem dX12_carryAll_142 : decode cX12_carryAll 142 = .ok (.iaload, 1) := by decide +kernel
theorem dX12_carryAll_143 : decode cX12_carryAll 143 = .ok (.invokevirtual 118, 3) := by decide +kernel
theorem dX12_carryAll_146 : decode cX12_carryAll 146 = .ok (.iastore, 1) := by decide +kernel
theorem dX12_carryAll_147 : decode cX12_carryAll 147 = .ok (.iinc 3 1, 3) := by decide +kernel
theorem dX12_carryAll_150 : decode cX12_carryAll 150 = .ok (.goto (-73), 3) := by decide +kernel
theorem dX12_carryAll_153 : decode cX12_carryAll 153 = .ok (.return_, 1) := by decide +kernel
theorem dX12_open_0 : decode cX12_open 0 = .ok (.aload_n 0, 1) := by decide +kernel
theorem dX12_open_1 : decode cX12_open 1 = .ok (.aload_n 0, 1) := by decide +kernel
theorem dX12_open_2 : decode cX12_open 2 = .ok (.getfield 32, 3) := by decide +kernel
theorem dX12_open_5 : decode cX12_open 5 = .ok (.iconst 1, 1) := by decide +kernel
theorem dX12_open_6 : decode cX12_open 6 = .ok (.invokevirtual 122, 3) := by decide +kernel
theorem dX12_open_9 : decode cX12_open 9 = .ok (.return_, 1) := by decide +kernel
theorem dX12_close_0 : decode cX12_close 0 = .ok (.aload_n 0, 1) := by decide +kernel
theorem dX12_close_1 : decode cX12_close 1 = .ok (.aload_n 0, 1) := by decide +kernel
theorem dX12_close_2 : decode cX12_close 2 = .ok (.getfield 32, 3) := by decide +kernel
theorem dX12_close_5 : decode cX12_close 5 = .ok (.iconst 0, 1) := by decide +kernel
theorem dX12_close_6 : decode cX12_close 6 = .ok (.invokevirtual 122, 3) := by decide +kernel
theorem dX12_close_9 : decode cX12_close 9 = .ok (.return_, 1) := by decide +kernel
theorem dX12_image_0 : decode cX12_image 0 = .ok (.aload_n 0, 1) := by decide +kernel
theorem dX12_image_1 : decode cX12_image 1 = .ok (.iconst 0, 1) := by decide +kernel
theorem dX12_image_2 : decode cX12_image 2 = .ok (.putfield 78, 3) := by decide +kernel
theorem dX12_image_5 : decode cX12_image 5 = .ok (.aload_n 0, 1) := by decide +kernel
theorem dX12_image_6 : decode cX12_image 6 = .ok (.iconst 1, 1) := by decide +kernel
theorem dX12_image_7 : decode cX12_image 7 = .ok (.putfield 126, 3) := by decide +kernel
theorem dX12_image_10 : decode cX12_image 10 = .ok (.aload_n 0, 1) := by decide +kernel
theorem dX12_image_11 : decode cX12_image 11 = .ok (.aload_n 0, 1) := by decide +kernel
theorem dX12_image_12 : decode cX12_image 12 = .ok (.getfield 29, 3) := by decide +kernel
theorem dX12_image_15 : decode cX12_image 15 = .ok (.iconst 1, 1) := by decide +kernel
theorem dX12_image_16 : decode cX12_image 16 = .ok (.invokevirtual 122, 3) := by decide +kernel
theorem dX12_image_19 : decode cX12_image 19 = .ok (.aload_n 0, 1) := by decide +kernel
theorem dX12_image_20 : decode cX12_image 20 = .ok (.getfield 81, 3) := by decide +kernel
theorem dX12_image_23 : decode cX12_image 23 = .ok (.ireturn, 1) := by decide +kernel
theorem dX12_restore_0 : decode cX12_restore 0 = .ok (.aload_n 0, 1) := by decide +kernel
theorem dX12_restore_1 : decode cX12_restore 1 = .ok (.iconst 0, 1) := by decide +kernel
theorem dX12_restore_2 : decode cX12_restore 2 = .ok (.putfield 78, 3) := by decide +kernel
theorem dX12_restore_5 : decode cX12_restore 5 = .ok (.aload_n 0, 1) := by decide +kernel
theorem dX12_restore_6 : decode cX12_restore 6 = .ok (.getfield 126, 3) := by decide +kernel
theorem dX12_restore_9 : decode cX12_restore 9 = .ok (.ifCond .ne 6, 3) := by decide +kernel
theorem dX12_restore_12 : decode cX12_restore 12 = .ok (.bipush (-3), 2) := by decide +kernel
theorem dX12_restore_14 : decode cX12_restore 14 = .ok (.ireturn, 1) := by decide +kernel
theorem dX12_restore_15 : decode cX12_restore 15 = .ok (.aload_n 0, 1) := by decide +kernel
theorem dX12_restore_16 : decode cX12_restore 16 = .ok (.aload_n 0, 1) := by decide +kernel
theorem dX12_restore_17 : decode cX12_restore 17 = .ok (.getfield 29, 3) := by decide +kernel
theorem dX12_restore_20 : decode cX12_restore 20 = .ok (.iconst 0, 1) := by decide +kernel
theorem dX12_restore_21 : decode cX12_restore 21 = .ok (.invokevirtual 122, 3) := by decide +kernel
theorem dX12_restore_24 : decode cX12_restore 24 = .ok (.aload_n 0, 1) := by decide +kernel
theorem dX12_restore_25 : decode cX12_restore 25 = .ok (.getfield 81, 3) := by decide +kernel
theorem dX12_restore_28 : decode cX12_restore 28 = .ok (.ireturn, 1) := by decide +kernel
theorem dX12_here_0 : decode cX12_here 0 = .ok (.aload_n 0, 1) := by decide +kernel
theorem dX12_here_1 : decode cX12_here 1 = .ok (.getfield 129, 3) := by decide +kernel
theorem dX12_here_4 : decode cX12_here 4 = .ok (.aload_n 0, 1) := by decide +kernel
theorem dX12_here_5 : decode cX12_here 5 = .ok (.getfield 132, 3) := by decide +kernel
theorem dX12_here_8 : decode cX12_here 8 = .ok (.if_icmp .lt 7, 3) := by decide +kernel
theorem dX12_here_11 : decode cX12_here 11 = .ok (.iconst (-1), 1) := by decide +kernel
theorem dX12_here_12 : decode cX12_here 12 = .ok (.goto 22, 3) := by decide +kernel
theorem dX12_here_15 : decode cX12_here 15 = .ok (.aload_n 0, 1) := by decide +kernel
theorem dX12_here_16 : decode cX12_here 16 = .ok (.getfield 71, 3) := by decide +kernel
theorem dX12_here_19 : decode cX12_here 19 = .ok (.aload_n 0, 1) := by decide +kernel
theorem dX12_here_20 : decode cX12_here 20 = .ok (.getfield 135, 3) := by decide +kernel
theorem dX12_here_23 : decode cX12_here 23 = .ok (.aload_n 0, 1) := by decide +kernel
theorem dX12_here_24 : decode cX12_here 24 = .ok (.getfield 129, 3) := by decide +kernel
theorem dX12_here_27 : decode cX12_here 27 = .ok (.iadd, 1) := by decide +kernel
theorem dX12_here_28 : decode cX12_here 28 = .ok (.laload, 1) := by decide +kernel
theorem dX12_here_29 : decode cX12_here 29 = .ok (.l2i, 1) := by decide +kernel
theorem dX12_here_30 : decode cX12_here 30 = .ok (.sipush 255, 3) := by decide +kernel
theorem dX12_here_33 : decode cX12_here 33 = .ok (.iand, 1) := by decide +kernel
theorem dX12_here_34 : decode cX12_here 34 = .ok (.ireturn, 1) := by decide +kernel
theorem dX12_take_0 : decode cX12_take 0 = .ok (.aload_n 0, 1) := by decide +kernel
theorem dX12_take_1 : decode cX12_take 1 = .ok (.aload_n 0, 1) := by decide +kernel
theorem dX12_take_2 : decode cX12_take 2 = .ok (.getfield 138, 3) := by decide +kernel
theorem dX12_take_5 : decode cX12_take 5 = .ok (.ifCond .ne 11, 3) := by decide +kernel
theorem dX12_take_8 : decode cX12_take 8 = .ok (.aload_n 0, 1) := by decide +kernel
theorem dX12_take_9 : decode cX12_take 9 = .ok (.invokevirtual 141, 3) := by decide +kernel
theorem dX12_take_12 : decode cX12_take 12 = .ok (.iload_n 1, 1) := by decide +kernel
theorem dX12_take_13 : decode cX12_take 13 = .ok (.if_icmp .eq 7, 3) := by decide +kernel
theorem dX12_take_16 : decode cX12_take 16 = .ok (.iconst 1, 1) := by decide +kernel
theorem dX12_take_17 : decode cX12_take 17 = .ok (.goto 4, 3) := by decide +kernel
theorem dX12_take_20 : decode cX12_take 20 = .ok (.iconst 0, 1) := by decide +kernel
theorem dX12_take_21 : decode cX12_take 21 = .ok (.putfield 138, 3) := by decide +kernel
theorem dX12_take_24 : decode cX12_take 24 = .ok (.aload_n 0, 1) := by decide +kernel
theorem dX12_take_25 : decode cX12_take 25 = .ok (.dup, 1) := by decide +kernel
theorem dX12_take_26 : decode cX12_take 26 = .ok (.getfield 129, 3) := by decide +kernel
theorem dX12_take_29 : decode cX12_take 29 = .ok (.aload_n 0, 1) := by decide +kernel
theorem dX12_take_30 : decode cX12_take 30 = .ok (.getfield 138, 3) := by decide +kernel
theorem dX12_take_33 : decode cX12_take 33 = .ok (.ifCond .eq 7, 3) := by decide +kernel
theorem dX12_take_36 : decode cX12_take 36 = .ok (.iconst 0, 1) := by decide +kernel
theorem dX12_take_37 : decode cX12_take 37 = .ok (.goto 4, 3) := by decide +kernel
theorem dX12_take_40 : decode cX12_take 40 = .ok (.iconst 1, 1) := by decide +kernel
theorem dX12_take_41 : decode cX12_take 41 = .ok (.iadd, 1) := by decide +kernel
theorem dX12_take_42 : decode cX12_take 42 = .ok (.putfield 129, 3) := by decide +kernel
theorem dX12_take_45 : decode cX12_take 45 = .ok (.return_, 1) := by decide +kernel
theorem dX12_readDigit_0 : decode cX12_readDigit 0 = .ok (.aload_n 0, 1) := by decide +kernel
theorem dX12_readDigit_1 : decode cX12_readDigit 1 = .ok (.aload_n 0, 1) := by decide +kernel
theorem dX12_readDigit_2 : decode cX12_readDigit 2 = .ok (.getfield 138, 3) := by decide +kernel
theorem dX12_readDigit_5 : decode cX12_readDigit 5 = .ok (.ifCond .ne 20, 3) := by decide +kernel
theorem dX12_readDigit_8 : decode cX12_readDigit 8 = .ok (.aload_n 0, 1) := by decide +kernel
theorem dX12_readDigit_9 : decode cX12_readDigit 9 = .ok (.invokevirtual 141, 3) := by decide +kernel
theorem dX12_readDigit_12 : decode cX12_readDigit 12 = .ok (.i2l, 1) := by decide +kernel
theorem dX12_readDigit_13 : decode cX12_readDigit 13 = .ok (.ldc2_w 145, 3) := by decide +kernel
theorem dX12_readDigit_16 : decode cX12_readDigit 16 = .ok (.ldc2_w 147, 3) := by decide +kernel
theorem dX12_readDigit_19 : decode cX12_readDigit 19 = .ok (.invokestatic 84, 3) := by decide +kernel
theorem dX12_readDigit_22 : decode cX12_readDigit 22 = .ok (.ifCond .ne 7, 3) := by decide +kernel
theorem dX12_readDigit_25 : decode cX12_readDigit 25 = .ok (.iconst 1, 1) := by decide +kernel
theorem dX12_readDigit_26 : decode cX12_readDigit 26 = .ok (.goto 4, 3) := by decide +kernel
theorem dX12_readDigit_29 : decode cX12_readDigit 29 = .ok (.iconst 0, 1) := by decide +kernel
theorem dX12_readDigit_30 : decode cX12_readDigit 30 = .ok (.putfield 138, 3) := by decide +kernel
theorem dX12_readDigit_33 : decode cX12_readDigit 33 = .ok (.aload_n 0, 1) := by decide +kernel
theorem dX12_readDigit_34 : decode cX12_readDigit 34 = .ok (.getfield 138, 3) := by decide +kernel
theorem dX12_readDigit_37 : decode cX12_readDigit 37 = .ok (.ifCond .eq 5, 3) := by decide +kernel
theorem dX12_readDigit_40 : decode cX12_readDigit 40 = .ok (.iconst 0, 1) := by decide +kernel
theorem dX12_readDigit_41 : decode cX12_readDigit 41 = .ok (.ireturn, 1) := by decide +kernel
theorem dX12_readDigit_42 : decode cX12_readDigit 42 = .ok (.aload_n 0, 1) := by decide +kernel
theorem dX12_readDigit_43 : decode cX12_readDigit 43 = .ok (.dup, 1) := by decide +kernel
theorem dX12_readDigit_44 : decode cX12_readDigit 44 = .ok (.getfield 129, 3) := by decide +kernel
theorem dX12_readDigit_47 : decode cX12_readDigit 47 = .ok (.iconst 1, 1) := by decide +kernel
theorem dX12_readDigit_48 : decode cX12_readDigit 48 = .ok (.iadd, 1) := by decide +kernel
theorem dX12_readDigit_49 : decode cX12_readDigit 49 = .ok (.putfield 129, 3) := by decide +kernel
theorem dX12_readDigit_52 : decode cX12_readDigit 52 = .ok (.aload_n 0, 1) := by decide +kernel
theorem dX12_readDigit_53 : decode cX12_readDigit 53 = .ok (.getfield 71, 3) := by decide +kernel
theorem dX12_readDigit_56 : decode cX12_readDigit 56 = .ok (.aload_n 0, 1) := by decide +kernel
theorem dX12_readDigit_57 : decode cX12_readDigit 57 = .ok (.getfield 135, 3) := by decide +kernel
theorem dX12_readDigit_60 : decode cX12_readDigit 60 = .ok (.aload_n 0, 1) := by decide +kernel
theorem dX12_readDigit_61 : decode cX12_readDigit 61 = .ok (.getfield 129, 3) := by decide +kernel
theorem dX12_readDigit_64 : decode cX12_readDigit 64 = .ok (.iadd, 1) := by decide +kernel
theorem dX12_readDigit_65 : decode cX12_readDigit 65 = .ok (.iconst 1, 1) := by decide +kernel
theorem dX12_readDigit_66 : decode cX12_readDigit 66 = .ok (.isub, 1) := by decide +kernel
theorem dX12_readDigit_67 : decode cX12_readDigit 67 = .ok (.laload, 1) := by decide +kernel
theorem dX12_readDigit_68 : decode cX12_readDigit 68 = .ok (.l2i, 1) := by decide +kernel
theorem dX12_readDigit_69 : decode cX12_readDigit 69 = .ok (.bipush 48, 2) := by decide +kernel
theorem dX12_readDigit_71 : decode cX12_readDigit 71 = .ok (.isub, 1) := by decide +kernel
theorem dX12_readDigit_72 : decode cX12_readDigit 72 = .ok (.ireturn, 1) := by decide +kernel
theorem dX12_readNumber_0 : decode cX12_readNumber 0 = .ok (.aload_n 0, 1) := by decide +kernel
theorem dX12_readNumber_1 : decode cX12_readNumber 1 = .ok (.invokevirtual 149, 3) := by decide +kernel
theorem dX12_readNumber_4 : decode cX12_readNumber 4 = .ok (.istore_n 1, 1) := by decide +kernel
theorem dX12_readNumber_5 : decode cX12_readNumber 5 = .ok (.aload_n 0, 1) := by decide +kernel
theorem dX12_readNumber_6 : decode cX12_readNumber 6 = .ok (.getfield 138, 3) := by decide +kernel
theorem dX12_readNumber_9 : decode cX12_readNumber 9 = .ok (.ifCond .ne 36, 3) := by decide +kernel
theorem dX12_readNumber_12 : decode cX12_readNumber 12 = .ok (.iload_n 1, 1) := by decide +kernel
theorem dX12_readNumber_13 : decode cX12_readNumber 13 = .ok (.ifCond .le 32, 3) := by decide +kernel
theorem dX12_readNumber_16 : decode cX12_readNumber 16 = .ok (.aload_n 0, 1) := by decide +kernel
theorem dX12_readNumber_17 : decode cX12_readNumber 17 = .ok (.invokevirtual 141, 3) := by decide +kernel
theorem dX12_readNumber_20 : decode cX12_readNumber 20 = .ok (.i2l, 1) := by decide +kernel
theorem dX12_readNumber_21 : decode cX12_readNumber 21 = .ok (.ldc2_w 145, 3) := by decide +kernel
theorem dX12_readNumber_24 : decode cX12_readNumber 24 = .ok (.ldc2_w 147, 3) := by decide +kernel
theorem dX12_readNumber_27 : decode cX12_readNumber 27 = .ok (.invokestatic 84, 3) := by decide +kernel
theorem dX12_readNumber_30 : decode cX12_readNumber 30 = .ok (.ifCond .eq 15, 3) := by decide +kernel
theorem dX12_readNumber_33 : decode cX12_readNumber 33 = .ok (.bipush 10, 2) := by decide +kernel
theorem dX12_readNumber_35 : decode cX12_readNumber 35 = .ok (.iload_n 1, 1) := by decide +kernel
theorem dX12_readNumber_36 : decode cX12_readNumber 36 = .ok (.imul, 1) := by decide +kernel
theorem dX12_readNumber_37 : decode cX12_readNumber 37 = .ok (.aload_n 0, 1) := by decide +kernel
theorem dX12_readNumber_38 : decode cX12_readNumber 38 = .ok (.invokevirtual 149, 3) := by decide +kernel
theorem dX12_readNumber_41 : decode cX12_readNumber 41 = .ok (.iadd, 1) := by decide +kernel
theorem dX12_readNumber_42 : decode cX12_readNumber 42 = .ok (.goto 4, 3) := by decide +kernel
theorem dX12_readNumber_45 : decode cX12_readNumber 45 = .ok (.iload_n 1, 1) := by decide +kernel
theorem dX12_readNumber_46 : decode cX12_readNumber 46 = .ok (.ireturn, 1) := by decide +kernel
theorem dX12_readStatement_0 : decode cX12_readStatement 0 = .ok (.aload_n 0, 1) := by decide +kernel
theorem dX12_readStatement_1 : decode cX12_readStatement 1 = .ok (.getfield 152, 3) := by decide +kernel
theorem dX12_readStatement_4 : decode cX12_readStatement 4 = .ok (.istore_n 1, 1) := by decide +kernel
theorem dX12_readStatement_5 : decode cX12_readStatement 5 = .ok (.aload_n 0, 1) := by decide +kernel
theorem dX12_readStatement_6 : decode cX12_readStatement 6 = .ok (.invokevirtual 141, 3) := by decide +kernel
theorem dX12_readStatement_9 : decode cX12_readStatement 9 = .ok (.istore_n 2, 1) := by decide +kernel
theorem dX12_readStatement_10 : decode cX12_readStatement 10 = .ok (.aload_n 0, 1) := by decide +kernel
theorem dX12_readStatement_11 : decode cX12_readStatement 11 = .ok (.getfield 35, 3) := by decide +kernel
theorem dX12_readStatement_14 : decode cX12_readStatement 14 = .ok (.iload_n 1, 1) := by decide +kernel
theorem dX12_readStatement_15 : decode cX12_readStatement 15 = .ok (.aload_n 0, 1) := by decide +kernel
theorem dX12_readStatement_16 : decode cX12_readStatement 16 = .ok (.getfield 129, 3) := by decide +kernel
theorem dX12_readStatement_19 : decode cX12_readStatement 19 = .ok (.iastore, 1) := by decide +kernel
theorem dX12_readStatement_20 : decode cX12_readStatement 20 = .ok (.aload_n 0, 1) := by decide +kernel
theorem dX12_readStatement_21 : decode cX12_readStatement 21 = .ok (.getfield 38, 3) := by decide +kernel
theorem dX12_readStatement_24 : decode cX12_readStatement 24 = .ok (.iload_n 1, 1) := by decide +kernel
theorem dX12_readStatement_25 : decode cX12_readStatement 25 = .ok (.iload_n 2, 1) := by decide +kernel
theorem dX12_readStatement_26 : decode cX12_readStatement 26 = .ok (.iastore, 1) := by decide +kernel
theorem dX12_readStatement_27 : decode cX12_readStatement 27 = .ok (.aload_n 0, 1) := by decide +kernel
theorem dX12_readStatement_28 : decode cX12_readStatement 28 = .ok (.aload_n 0, 1) := by decide +kernel
theorem dX12_readStatement_29 : decode cX12_readStatement 29 = .ok (.getfield 138, 3) := by decide +kernel
theorem dX12_readStatement_32 : decode cX12_readStatement 32 = .ok (.ifCond .ne 27, 3) := by decide +kernel
theorem dX12_readStatement_35 : decode cX12_readStatement 35 = .ok (.iload_n 2, 1) := by decide +kernel
theorem dX12_readStatement_36 : decode cX12_readStatement 36 = .ok (.bipush 114, 2) := by decide +kernel
theorem dX12_readStatement_38 : decode cX12_readStatement 38 = .ok (.if_icmp .eq 25, 3) := by decide +kernel
theorem dX12_readStatement_41 : decode cX12_readStatement 41 = .ok (.iload_n 2, 1) := by decide +kernel
theorem dX12_readStatement_42 : decode cX12_readStatement 42 = .ok (.bipush 116, 2) := by decide +kernel
theorem dX12_readStatement_44 : decode cX12_readStatement 44 = .ok (.if_icmp .eq 19, 3) := by decide +kernel
theorem dX12_readStatement_47 : decode cX12_readStatement 47 = .ok (.iload_n 2, 1) := by decide +kernel
theorem dX12_readStatement_48 : decode cX12_readStatement 48 = .ok (.bipush 108, 2) := by decide +kernel
theorem dX12_readStatement_50 : decode cX12_readStatement 50 = .ok (.if_icmp .eq 13, 3) := by decide +kernel
theorem dX12_readStatement_53 : decode cX12_readStatement 53 = .ok (.iload_n 2, 1) := by decide +kernel
theorem dX12_readStatement_54 : decode cX12_readStatement 54 = .ok (.bipush 112, 2) := by decide +kernel
theorem dX12_readStatement_56 : decode cX12_readStatement 56 = .ok (.if_icmp .eq 7, 3) := by decide +kernel
theorem dX12_readStatement_59 : decode cX12_readStatement 59 = .ok (.iconst 1, 1) := by decide +kernel
theorem dX12_readStatement_60 : decode cX12_readStatement 60 = .ok (.goto 4, 3) := by decide +kernel
theorem dX12_readStatement_63 : decode cX12_readStatement 63 = .ok (.iconst 0, 1) := by decide +kernel
theorem dX12_readStatement_64 : decode cX12_readStatement 64 = .ok (.putfield 138, 3) := by decide +kernel
theorem dX12_readStatement_67 : decode cX12_readStatement 67 = .ok (.aload_n 0, 1) := by decide +kernel
theorem dX12_readStatement_68 : decode cX12_readStatement 68 = .ok (.dup, 1) := by decide +kernel
theorem dX12_readStatement_69 : decode cX12_readStatement 69 = .ok (.getfield 129, 3) := by decide +kernel
theorem dX12_readStatement_72 : decode cX12_readStatement 72 = .ok (.aload_n 0, 1) := by decide +kernel
theorem dX12_readStatement_73 : decode cX12_readStatement 73 = .ok (.getfield 138, 3) := by decide +kernel
theorem dX12_readStatement_76 : decode cX12_readStatement 76 = .ok (.ifCond .eq 7, 3) := by decide +kernel
theorem dX12_readStatement_79 : decode cX12_readStatement 79 = .ok (.iconst 0, 1) := by decide +kernel
theorem dX12_readStatement_80 : decode cX12_readStatement 80 = .ok (.goto 4, 3) := by decide +kernel
theorem dX12_readStatement_83 : decode cX12_readStatement 83 = .ok (.iconst 1, 1) := by decide +kernel
theorem dX12_readStatement_84 : decode cX12_readStatement 84 = .ok (.iadd, 1) := by decide +kernel
theorem dX12_readStatement_85 : decode cX12_readStatement 85 = .ok (.putfield 129, 3) := by decide +kernel
theorem dX12_readStatement_88 : decode cX12_readStatement 88 = .ok (.aload_n 0, 1) := by decide +kernel
theorem dX12_readStatement_89 : decode cX12_readStatement 89 = .ok (.getfield 41, 3) := by decide +kernel
theorem dX12_readStatement_92 : decode cX12_readStatement 92 = .ok (.iload_n 1, 1) := by decide +kernel
theorem dX12_readStatement_93 : decode cX12_readStatement 93 = .ok (.iload_n 2, 1) := by decide +kernel
theorem dX12_readStatement_94 : decode cX12_readStatement 94 = .ok (.bipush 114, 2) := by decide +kernel
theorem dX12_readStatement_96 : decode cX12_readStatement 96 = .ok (.if_icmp .eq 9, 3) := by decide +kernel
theorem dX12_readStatement_99 : decode cX12_readStatement 99 = .ok (.iload_n 2, 1) := by decide +kernel
theorem dX12_readStatement_100 : decode cX12_readStatement 100 = .ok (.bipush 108, 2) := by decide +kernel
theorem dX12_readStatement_102 : decode cX12_readStatement 102 = .ok (.if_icmp .ne 10, 3) := by decide +kernel
theorem dX12_readStatement_105 : decode cX12_readStatement 105 = .ok (.aload_n 0, 1) := by decide +kernel
theorem dX12_readStatement_106 : decode cX12_readStatement 106 = .ok (.invokevirtual 155, 3) := by decide +kernel
theorem dX12_readStatement_109 : decode cX12_readStatement 109 = .ok (.goto 7, 3) := by decide +kernel
theorem dX12_readStatement_112 : decode cX12_readStatement 112 = .ok (.aload_n 0, 1) := by decide +kernel
theorem dX12_readStatement_113 : decode cX12_readStatement 113 = .ok (.invokevirtual 149, 3) := by decide +kernel
theorem dX12_readStatement_116 : decode cX12_readStatement 116 = .ok (.iastore, 1) := by decide +kernel
theorem dX12_readStatement_117 : decode cX12_readStatement 117 = .ok (.iload_n 2, 1) := by decide +kernel
theorem dX12_readStatement_118 : decode cX12_readStatement 118 = .ok (.bipush 114, 2) := by decide +kernel
theorem dX12_readStatement_120 : decode cX12_readStatement 120 = .ok (.if_icmp .ne 45, 3) := by decide +kernel
theorem dX12_readStatement_123 : decode cX12_readStatement 123 = .ok (.aload_n 0, 1) := by decide +kernel
theorem dX12_readStatement_124 : decode cX12_readStatement 124 = .ok (.bipush 32, 2) := by decide +kernel
theorem dX12_readStatement_126 : decode cX12_readStatement 126 = .ok (.invokevirtual 158, 3) := by decide +kernel
theorem dX12_readStatement_129 : decode cX12_readStatement 129 = .ok (.aload_n 0, 1) := by decide +kernel
theorem dX12_readStatement_130 : decode cX12_readStatement 130 = .ok (.getfield 44, 3) := by decide +kernel
theorem dX12_readStatement_133 : decode cX12_readStatement 133 = .ok (.iload_n 1, 1) := by decide +kernel
theorem dX12_readStatement_134 : decode cX12_readStatement 134 = .ok (.aload_n 0, 1) := by decide +kernel
theorem dX12_readStatement_135 : decode cX12_readStatement 135 = .ok (.invokevirtual 155, 3) := by decide +kernel
theorem dX12_readStatement_138 : decode cX12_readStatement 138 = .ok (.iastore, 1) := by decide +kernel
theorem dX12_readStatement_139 : decode cX12_readStatement 139 = .ok (.aload_n 0, 1) := by decide +kernel
theorem dX12_readStatement_140 : decode cX12_readStatement 140 = .ok (.bipush 32, 2) := by decide +kernel
theorem dX12_readStatement_142 : decode cX12_readStatement 142 = .ok (.invokevirtual 158, 3) := by decide +kernel
theorem dX12_readStatement_145 : decode cX12_readStatement 145 = .ok (.aload_n 0, 1) := by decide +kernel
theorem dX12_readStatement_146 : decode cX12_readStatement 146 = .ok (.getfield 47, 3) := by decide +kernel
theorem dX12_readStatement_149 : decode cX12_readStatement 149 = .ok (.iload_n 1, 1) := by decide +kernel
theorem dX12_readStatement_150 : decode cX12_readStatement 150 = .ok (.aload_n 0, 1) := by decide +kernel
theorem dX12_readStatement_151 : decode cX12_readStatement 151 = .ok (.invokevirtual 149, 3) := by decide +kernel
theorem dX12_readStatement_154 : decode cX12_readStatement 154 = .ok (.iastore, 1) := by decide +kernel
theorem dX12_readStatement_155 : decode cX12_readStatement 155 = .ok (.aload_n 0, 1) := by decide +kernel
theorem dX12_readStatement_156 : decode cX12_readStatement 156 = .ok (.getfield 50, 3) := by decide +kernel
theorem dX12_readStatement_159 : decode cX12_readStatement 159 = .ok (.iload_n 1, 1) := by decide +kernel
theorem dX12_readStatement_160 : decode cX12_readStatement 160 = .ok (.aload_n 0, 1) := by decide +kernel
theorem dX12_readStatement_161 : decode cX12_readStatement 161 = .ok (.invokevirtual 149, 3) := by decide +kernel
theorem dX12_readStatement_164 : decode cX12_readStatement 164 = .ok (.iastore, 1) := by decide +kernel
theorem dX12_readStatement_165 : decode cX12_readStatement 165 = .ok (.iload_n 2, 1) := by decide +kernel
theorem dX12_readStatement_166 : decode cX12_readStatement 166 = .ok (.bipush 112, 2) := by decide +kernel
theorem dX12_readStatement_168 : decode cX12_readStatement 168 = .ok (.if_icmp .ne 23, 3) := by decide +kernel
theorem dX12_readStatement_171 : decode cX12_readStatement 171 = .ok (.aload_n 0, 1) := by decide +kernel
theorem dX12_readStatement_172 : decode cX12_readStatement 172 = .ok (.getfield 44, 3) := by decide +kernel
theorem dX12_readStatement_175 : decode cX12_readStatement 175 = .ok (.iload_n 1, 1) := by decide +kernel
theorem dX12_readStatement_176 : decode cX12_readStatement 176 = .ok (.aload_n 0, 1) := by decide +kernel
theorem dX12_readStatement_177 : decode cX12_readStatement 177 = .ok (.invokevirtual 149, 3) := by decide +kernel
theorem dX12_readStatement_180 : decode cX12_readStatement 180 = .ok (.iastore, 1) := by decide +kernel
theorem dX12_readStatement_181 : decode cX12_readStatement 181 = .ok (.aload_n 0, 1) := by decide +kernel
theorem dX12_readStatement_182 : decode cX12_readStatement 182 = .ok (.getfield 47, 3) := by decide +kernel
theorem dX12_readStatement_185 : decode cX12_readStatement 185 = .ok (.iload_n 1, 1) := by decide +kernel
theorem dX12_readStatement_186 : decode cX12_readStatement 186 = .ok (.aload_n 0, 1) := by decide +kernel
theorem dX12_readStatement_187 : decode cX12_readStatement 187 = .ok (.invokevirtual 149, 3) := by decide +kernel
theorem dX12_readStatement_190 : decode cX12_readStatement 190 = .ok (.iastore, 1) := by decide +kernel
theorem dX12_readStatement_191 : decode cX12_readStatement 191 = .ok (.aload_n 0, 1) := by decide +kernel
theorem dX12_readStatement_192 : decode cX12_readStatement 192 = .ok (.bipush 59, 2) := by decide +kernel
theorem dX12_readStatement_194 : decode cX12_readStatement 194 = .ok (.invokevirtual 158, 3) := by decide +kernel
theorem dX12_readStatement_197 : decode cX12_readStatement 197 = .ok (.aload_n 0, 1) := by decide +kernel
theorem dX12_readStatement_198 : decode cX12_readStatement 198 = .ok (.dup, 1) := by decide +kernel
theorem dX12_readStatement_199 : decode cX12_readStatement 199 = .ok (.getfield 152, 3) := by decide +kernel
theorem dX12_readStatement_202 : decode cX12_readStatement 202 = .ok (.iconst 1, 1) := by decide +kernel
theorem dX12_readStatement_203 : decode cX12_readStatement 203 = .ok (.iadd, 1) := by decide +kernel
theorem dX12_readStatement_204 : decode cX12_readStatement 204 = .ok (.putfield 152, 3) := by decide +kernel
theorem dX12_readStatement_207 : decode cX12_readStatement 207 = .ok (.return_, 1) := by decide +kernel
theorem dX12_ringComes_0 : decode cX12_ringComes 0 = .ok (.aload_n 0, 1) := by decide +kernel
theorem dX12_ringComes_1 : decode cX12_ringComes 1 = .ok (.getfield 41, 3) := by decide +kernel
theorem dX12_ringComes_4 : decode cX12_ringComes 4 = .ok (.iload_n 1, 1) := by decide +kernel
theorem dX12_ringComes_5 : decode cX12_ringComes 5 = .ok (.iaload, 1) := by decide +kernel
theorem dX12_ringComes_6 : decode cX12_ringComes 6 = .ok (.iconst 1, 1) := by decide +kernel
theorem dX12_ringComes_7 : decode cX12_ringComes 7 = .ok (.if_icmp .lt 22, 3) := by decide +kernel
theorem dX12_ringComes_10 : decode cX12_ringComes 10 = .ok (.aload_n 0, 1) := by decide +kernel
theorem dX12_ringComes_11 : decode cX12_ringComes 11 = .ok (.getfield 44, 3) := by decide +kernel
theorem dX12_ringComes_14 : decode cX12_ringComes 14 = .ok (.iload_n 1, 1) := by decide +kernel
theorem dX12_ringComes_15 : decode cX12_ringComes 15 = .ok (.iaload, 1) := by decide +kernel
theorem dX12_ringComes_16 : decode cX12_ringComes 16 = .ok (.iconst 1, 1) := by decide +kernel
theorem dX12_ringComes_17 : decode cX12_ringComes 17 = .ok (.if_icmp .lt 12, 3) := by decide +kernel
theorem dX12_ringComes_20 : decode cX12_ringComes 20 = .ok (.aload_n 0, 1) := by decide +kernel
theorem dX12_ringComes_21 : decode cX12_ringComes 21 = .ok (.getfield 81, 3) := by decide +kernel
theorem dX12_ringComes_24 : decode cX12_ringComes 24 = .ok (.bipush 6, 2) := by decide +kernel
theorem dX12_ringComes_26 : decode cX12_ringComes 26 = .ok (.if_icmp .ne 5, 3) := by decide +kernel
theorem dX12_ringComes_29 : decode cX12_ringComes 29 = .ok (.iconst 0, 1) := by decide +kernel
theorem dX12_ringComes_30 : decode cX12_ringComes 30 = .ok (.ireturn, 1) := by decide +kernel
theorem dX12_ringComes_31 : decode cX12_ringComes 31 = .ok (.aload_n 0, 1) := by decide +kernel
theorem dX12_ringComes_32 : decode cX12_ringComes 32 = .ok (.getfield 16, 3) := by decide +kernel
theorem dX12_ringComes_35 : decode cX12_ringComes 35 = .ok (.aload_n 0, 1) := by decide +kernel
theorem dX12_ringComes_36 : decode cX12_ringComes 36 = .ok (.getfield 81, 3) := by decide +kernel
theorem dX12_ringComes_39 : decode cX12_ringComes 39 = .ok (.aload_n 0, 1) := by decide +kernel
theorem dX12_ringComes_40 : decode cX12_ringComes 40 = .ok (.getfield 41, 3) := by decide +kernel
theorem dX12_ringComes_43 : decode cX12_ringComes 43 = .ok (.iload_n 1, 1) := by decide +kernel
theorem dX12_ringComes_44 : decode cX12_ringComes 44 = .ok (.iaload, 1) := by decide +kernel
theorem dX12_ringComes_45 : decode cX12_ringComes 45 = .ok (.iastore, 1) := by decide +kernel
theorem dX12_ringComes_46 : decode cX12_ringComes 46 = .ok (.aload_n 0, 1) := by decide +kernel
theorem dX12_ringComes_47 : decode cX12_ringComes 47 = .ok (.getfield 20, 3) := by decide +kernel
theorem dX12_ringComes_50 : decode cX12_ringComes 50 = .ok (.aload_n 0, 1) := by decide +kernel
theorem dX12_ringComes_51 : decode cX12_ringComes 51 = .ok (.getfield 81, 3) := by decide +kernel
theorem dX12_ringComes_54 : decode cX12_ringComes 54 = .ok (.aload_n 0, 1) := by decide +kernel
theorem dX12_ringComes_55 : decode cX12_ringComes 55 = .ok (.getfield 44, 3) := by decide +kernel
theorem dX12_ringComes_58 : decode cX12_ringComes 58 = .ok (.iload_n 1, 1) := by decide +kernel
theorem dX12_ringComes_59 : decode cX12_ringComes 59 = .ok (.iaload, 1) := by decide +kernel
theorem dX12_ringComes_60 : decode cX12_ringComes 60 = .ok (.iastore, 1) := by decide +kernel
theorem dX12_ringComes_61 : decode cX12_ringComes 61 = .ok (.aload_n 0, 1) := by decide +kernel
theorem dX12_ringComes_62 : decode cX12_ringComes 62 = .ok (.getfield 23, 3) := by decide +kernel
theorem dX12_ringComes_65 : decode cX12_ringComes 65 = .ok (.aload_n 0, 1) := by decide +kernel
theorem dX12_ringComes_66 : decode cX12_ringComes 66 = .ok (.getfield 81, 3) := by decide +kernel
theorem dX12_ringComes_69 : decode cX12_ringComes 69 = .ok (.aload_n 0, 1) := by decide +kernel
theorem dX12_ringComes_70 : decode cX12_ringComes 70 = .ok (.getfield 47, 3) := by decide +kernel
theorem dX12_ringComes_73 : decode cX12_ringComes 73 = .ok (.iload_n 1, 1) := by decide +kernel
theorem dX12_ringComes_74 : decode cX12_ringComes 74 = .ok (.iaload, 1) := by decide +kernel
theorem dX12_ringComes_75 : decode cX12_ringComes 75 = .ok (.iastore, 1) := by decide +kernel
theorem dX12_ringComes_76 : decode cX12_ringComes 76 = .ok (.aload_n 0, 1) := by decide +kernel
theorem dX12_ringComes_77 : decode cX12_ringComes 77 = .ok (.getfield 26, 3) := by decide +kernel
theorem dX12_ringComes_80 : decode cX12_ringComes 80 = .ok (.aload_n 0, 1) := by decide +kernel
theorem dX12_ringComes_81 : decode cX12_ringComes 81 = .ok (.getfield 81, 3) := by decide +kernel
theorem dX12_ringComes_84 : decode cX12_ringComes 84 = .ok (.aload_n 0, 1) := by decide +kernel
theorem dX12_ringComes_85 : decode cX12_ringComes 85 = .ok (.getfield 50, 3) := by decide +kernel
theorem dX12_ringComes_88 : decode cX12_ringComes 88 = .ok (.iload_n 1, 1) := by decide +kernel
theorem dX12_ringComes_89 : decode cX12_ringComes 89 = .ok (.iaload, 1) := by decide +kernel
theorem dX12_ringComes_90 : decode cX12_ringComes 90 = .ok (.iastore, 1) := by decide +kernel
theorem dX12_ringComes_91 : decode cX12_ringComes 91 = .ok (.aload_n 0, 1) := by decide +kernel
theorem dX12_ringComes_92 : decode cX12_ringComes 92 = .ok (.dup, 1) := by decide +kernel
theorem dX12_ringComes_93 : decode cX12_ringComes 93 = .ok (.getfield 81, 3) := by decide +kernel
theorem dX12_ringComes_96 : decode cX12_ringComes 96 = .ok (.iconst 1, 1) := by decide +kernel
theorem dX12_ringComes_97 : decode cX12_ringComes 97 = .ok (.iadd, 1) := by decide +kernel
theorem dX12_ringComes_98 : decode cX12_ringComes 98 = .ok (.putfield 81, 3) := by decide +kernel
theorem dX12_ringComes_101 : decode cX12_ringComes 101 = .ok (.iconst 1, 1) := by decide +kernel
theorem dX12_ringComes_102 : decode cX12_ringComes 102 = .ok (.ireturn, 1) := by decide +kernel
theorem dX12_comes_0 : decode cX12_comes 0 = .ok (.aload_n 0, 1) := by decide +kernel
theorem dX12_comes_1 : decode cX12_comes 1 = .ok (.getfield 38, 3) := by decide +kernel
theorem dX12_comes_4 : decode cX12_comes 4 = .ok (.iload_n 1, 1) := by decide +kernel
theorem dX12_comes_5 : decode cX12_comes 5 = .ok (.iaload, 1) := by decide +kernel
theorem dX12_comes_6 : decode cX12_comes 6 = .ok (.bipush 114, 2) := by decide +kernel
theorem dX12_comes_8 : decode cX12_comes 8 = .ok (.if_icmp .ne 9, 3) := by decide +kernel
theorem dX12_comes_11 : decode cX12_comes 11 = .ok (.aload_n 0, 1) := by decide +kernel
theorem dX12_comes_12 : decode cX12_comes 12 = .ok (.iload_n 1, 1) := by decide +kernel
theorem dX12_comes_13 : decode cX12_comes 13 = .ok (.invokevirtual 162, 3) := by decide +kernel
theorem dX12_comes_16 : decode cX12_comes 16 = .ok (.ireturn, 1) := by decide +kernel
theorem dX12_comes_17 : decode cX12_comes 17 = .ok (.aload_n 0, 1) := by decide +kernel
theorem dX12_comes_18 : decode cX12_comes 18 = .ok (.getfield 38, 3) := by decide +kernel
theorem dX12_comes_21 : decode cX12_comes 21 = .ok (.iload_n 1, 1) := by decide +kernel
theorem dX12_comes_22 : decode cX12_comes 22 = .ok (.iaload, 1) := by decide +kernel
theorem dX12_comes_23 : decode cX12_comes 23 = .ok (.bipush 116, 2) := by decide +kernel
theorem dX12_comes_25 : decode cX12_comes 25 = .ok (.if_icmp .ne 15, 3) := by decide +kernel
theorem dX12_comes_28 : decode cX12_comes 28 = .ok (.aload_n 0, 1) := by decide +kernel
theorem dX12_comes_29 : decode cX12_comes 29 = .ok (.aload_n 0, 1) := by decide +kernel
theorem dX12_comes_30 : decode cX12_comes 30 = .ok (.getfield 41, 3) := by decide +kernel
theorem dX12_comes_33 : decode cX12_comes 33 = .ok (.iload_n 1, 1) := by decide +kernel
theorem dX12_comes_34 : decode cX12_comes 34 = .ok (.iaload, 1) := by decide +kernel
theorem dX12_comes_35 : decode cX12_comes 35 = .ok (.putfield 7, 3) := by decide +kernel
theorem dX12_comes_38 : decode cX12_comes 38 = .ok (.iconst 1, 1) := by decide +kernel
theorem dX12_comes_39 : decode cX12_comes 39 = .ok (.ireturn, 1) := by decide +kernel
theorem dX12_comes_40 : decode cX12_comes 40 = .ok (.aload_n 0, 1) := by decide +kernel
theorem dX12_comes_41 : decode cX12_comes 41 = .ok (.getfield 38, 3) := by decide +kernel
theorem dX12_comes_44 : decode cX12_comes 44 = .ok (.iload_n 1, 1) := by decide +kernel
theorem dX12_comes_45 : decode cX12_comes 45 = .ok (.iaload, 1) := by decide +kernel
theorem dX12_comes_46 : decode cX12_comes 46 = .ok (.bipush 108, 2) := by decide +kernel
theorem dX12_comes_48 : decode cX12_comes 48 = .ok (.if_icmp .ne 30, 3) := by decide +kernel
theorem dX12_comes_51 : decode cX12_comes 51 = .ok (.aload_n 0, 1) := by decide +kernel
theorem dX12_comes_52 : decode cX12_comes 52 = .ok (.aload_n 0, 1) := by decide +kernel
theorem dX12_comes_53 : decode cX12_comes 53 = .ok (.getfield 41, 3) := by decide +kernel
theorem dX12_comes_56 : decode cX12_comes 56 = .ok (.iload_n 1, 1) := by decide +kernel
theorem dX12_comes_57 : decode cX12_comes 57 = .ok (.iaload, 1) := by decide +kernel
theorem dX12_comes_58 : decode cX12_comes 58 = .ok (.putfield 13, 3) := by decide +kernel
theorem dX12_comes_61 : decode cX12_comes 61 = .ok (.aload_n 0, 1) := by decide +kernel
theorem dX12_comes_62 : decode cX12_comes 62 = .ok (.getfield 41, 3) := by decide +kernel
theorem dX12_comes_65 : decode cX12_comes 65 = .ok (.iload_n 1, 1) := by decide +kernel
theorem dX12_comes_66 : decode cX12_comes 66 = .ok (.iaload, 1) := by decide +kernel
theorem dX12_comes_67 : decode cX12_comes 67 = .ok (.bipush 30, 2) := by decide +kernel
theorem dX12_comes_69 : decode cX12_comes 69 = .ok (.if_icmp .gt 7, 3) := by decide +kernel
theorem dX12_comes_72 : decode cX12_comes 72 = .ok (.iconst 1, 1) := by decide +kernel
theorem dX12_comes_73 : decode cX12_comes 73 = .ok (.goto 4, 3) := by decide +kernel
theorem dX12_comes_76 : decode cX12_comes 76 = .ok (.iconst 0, 1) := by decide +kernel
theorem dX12_comes_77 : decode cX12_comes 77 = .ok (.ireturn, 1) := by decide +kernel
theorem dX12_comes_78 : decode cX12_comes 78 = .ok (.aload_n 0, 1) := by decide +kernel
theorem dX12_comes_79 : decode cX12_comes 79 = .ok (.getfield 41, 3) := by decide +kernel
theorem dX12_comes_82 : decode cX12_comes 82 = .ok (.iload_n 1, 1) := by decide +kernel
theorem dX12_comes_83 : decode cX12_comes 83 = .ok (.iaload, 1) := by decide +kernel
theorem dX12_comes_84 : decode cX12_comes 84 = .ok (.bipush 8, 2) := by decide +kernel
theorem dX12_comes_86 : decode cX12_comes 86 = .ok (.if_icmp .ge 45, 3) := by decide +kernel
theorem dX12_comes_89 : decode cX12_comes 89 = .ok (.aload_n 0, 1) := by decide +kernel
theorem dX12_comes_90 : decode cX12_comes 90 = .ok (.aload_n 0, 1) := by decide +kernel
theorem dX12_comes_91 : decode cX12_comes 91 = .ok (.getfield 47, 3) := by decide +kernel
theorem dX12_comes_94 : decode cX12_comes 94 = .ok (.iload_n 1, 1) := by decide +kernel
theorem dX12_comes_95 : decode cX12_comes 95 = .ok (.iaload, 1) := by decide +kernel
theorem dX12_comes_96 : decode cX12_comes 96 = .ok (.invokevirtual 166, 3) := by decide +kernel
theorem dX12_comes_99 : decode cX12_comes 99 = .ok (.ifCond .eq 32, 3) := by decide +kernel
theorem dX12_comes_102 : decode cX12_comes 102 = .ok (.aload_n 0, 1) := by decide +kernel
theorem dX12_comes_103 : decode cX12_comes 103 = .ok (.aload_n 0, 1) := by decide +kernel
theorem dX12_comes_104 : decode cX12_comes 104 = .ok (.getfield 41, 3) := by decide +kernel
theorem dX12_comes_107 : decode cX12_comes 107 = .ok (.iload_n 1, 1) := by decide +kernel
theorem dX12_comes_108 : decode cX12_comes 108 = .ok (.iaload, 1) := by decide +kernel
theorem dX12_comes_109 : decode cX12_comes 109 = .ok (.aload_n 0, 1) := by decide +kernel
theorem dX12_comes_110 : decode cX12_comes 110 = .ok (.getfield 44, 3) := by decide +kernel
theorem dX12_comes_113 : decode cX12_comes 113 = .ok (.iload_n 1, 1) := by decide +kernel
theorem dX12_comes_114 : decode cX12_comes 114 = .ok (.iaload, 1) := by decide +kernel
theorem dX12_comes_115 : decode cX12_comes 115 = .ok (.aload_n 0, 1) := by decide +kernel
theorem dX12_comes_116 : decode cX12_comes 116 = .ok (.getfield 47, 3) := by decide +kernel
theorem dX12_comes_119 : decode cX12_comes 119 = .ok (.iload_n 1, 1) := by decide +kernel
theorem dX12_comes_120 : decode cX12_comes 120 = .ok (.iaload, 1) := by decide +kernel
theorem dX12_comes_121 : decode cX12_comes 121 = .ok (.invokevirtual 169, 3) := by decide +kernel
theorem dX12_comes_124 : decode cX12_comes 124 = .ok (.ifCond .eq 7, 3) := by decide +kernel
theorem dX12_comes_127 : decode cX12_comes 127 = .ok (.iconst 1, 1) := by decide +kernel
theorem dX12_comes_128 : decode cX12_comes 128 = .ok (.goto 4, 3) := by decide +kernel
theorem dX12_comes_131 : decode cX12_comes 131 = .ok (.iconst 0, 1) := by decide +kernel
theorem dX12_comes_132 : decode cX12_comes 132 = .ok (.istore_n 2, 1) := by decide +kernel
theorem dX12_comes_133 : decode cX12_comes 133 = .ok (.iload_n 2, 1) := by decide +kernel
theorem dX12_comes_134 : decode cX12_comes 134 = .ok (.ifCond .eq 25, 3) := by decide +kernel
theorem dX12_comes_137 : decode cX12_comes 137 = .ok (.aload_n 0, 1) := by decide +kernel
theorem dX12_comes_138 : decode cX12_comes 138 = .ok (.aload_n 0, 1) := by decide +kernel
theorem dX12_comes_139 : decode cX12_comes 139 = .ok (.getfield 41, 3) := by decide +kernel
theorem dX12_comes_142 : decode cX12_comes 142 = .ok (.iload_n 1, 1) := by decide +kernel
theorem dX12_comes_143 : decode cX12_comes 143 = .ok (.iaload, 1) := by decide +kernel
theorem dX12_comes_144 : decode cX12_comes 144 = .ok (.aload_n 0, 1) := by decide +kernel
theorem dX12_comes_145 : decode cX12_comes 145 = .ok (.getfield 44, 3) := by decide +kernel
theorem dX12_comes_148 : decode cX12_comes 148 = .ok (.iload_n 1, 1) := by decide +kernel
theorem dX12_comes_149 : decode cX12_comes 149 = .ok (.iaload, 1) := by decide +kernel
theorem dX12_comes_150 : decode cX12_comes 150 = .ok (.aload_n 0, 1) := by decide +kernel
theorem dX12_comes_151 : decode cX12_comes 151 = .ok (.getfield 47, 3) := by decide +kernel
theorem dX12_comes_154 : decode cX12_comes 154 = .ok (.iload_n 1, 1) := by decide +kernel
theorem dX12_comes_155 : decode cX12_comes 155 = .ok (.iaload, 1) := by decide +kernel
theorem dX12_comes_156 : decode cX12_comes 156 = .ok (.invokevirtual 173, 3) := by decide +kernel
theorem dX12_comes_159 : decode cX12_comes 159 = .ok (.iload_n 2, 1) := by decide +kernel
theorem dX12_comes_160 : decode cX12_comes 160 = .ok (.ireturn, 1) := by decide +kernel
theorem dX12_dress_0 : decode cX12_dress 0 = .ok (.aload_n 0, 1) := by decide +kernel
theorem dX12_dress_1 : decode cX12_dress 1 = .ok (.iconst 0, 1) := by decide +kernel
theorem dX12_dress_2 : decode cX12_dress 2 = .ok (.putfield 78, 3) := by decide +kernel
theorem dX12_dress_5 : decode cX12_dress 5 = .ok (.aload_n 0, 1) := by decide +kernel
theorem dX12_dress_6 : decode cX12_dress 6 = .ok (.iload_n 1, 1) := by decide +kernel
theorem dX12_dress_7 : decode cX12_dress 7 = .ok (.iconst 0, 1) := by decide +kernel
theorem dX12_dress_8 : decode cX12_dress 8 = .ok (.invokevirtual 177, 3) := by decide +kernel
theorem dX12_dress_11 : decode cX12_dress 11 = .ok (.istore_n 2, 1) := by decide +kernel
theorem dX12_dress_12 : decode cX12_dress 12 = .ok (.iload_n 2, 1) := by decide +kernel
theorem dX12_dress_13 : decode cX12_dress 13 = .ok (.ifCond .ge 5, 3) := by decide +kernel
theorem dX12_dress_16 : decode cX12_dress 16 = .ok (.iload_n 2, 1) := by decide +kernel
theorem dX12_dress_17 : decode cX12_dress 17 = .ok (.ireturn, 1) := by decide +kernel
theorem dX12_dress_18 : decode cX12_dress 18 = .ok (.aload_n 0, 1) := by decide +kernel
theorem dX12_dress_19 : decode cX12_dress 19 = .ok (.bipush 100, 2) := by decide +kernel
theorem dX12_dress_21 : decode cX12_dress 21 = .ok (.iload_n 1, 1) := by decide +kernel
theorem dX12_dress_22 : decode cX12_dress 22 = .ok (.imul, 1) := by decide +kernel
theorem dX12_dress_23 : decode cX12_dress 23 = .ok (.putfield 135, 3) := by decide +kernel
theorem dX12_dress_26 : decode cX12_dress 26 = .ok (.aload_n 0, 1) := by decide +kernel
theorem dX12_dress_27 : decode cX12_dress 27 = .ok (.aload_n 0, 1) := by decide +kernel
theorem dX12_dress_28 : decode cX12_dress 28 = .ok (.getfield 68, 3) := by decide +kernel
theorem dX12_dress_31 : decode cX12_dress 31 = .ok (.iload_n 1, 1) := by decide +kernel
theorem dX12_dress_32 : decode cX12_dress 32 = .ok (.iaload, 1) := by decide +kernel
theorem dX12_dress_33 : decode cX12_dress 33 = .ok (.putfield 132, 3) := by decide +kernel
theorem dX12_dress_36 : decode cX12_dress 36 = .ok (.aload_n 0, 1) := by decide +kernel
theorem dX12_dress_37 : decode cX12_dress 37 = .ok (.iconst 0, 1) := by decide +kernel
theorem dX12_dress_38 : decode cX12_dress 38 = .ok (.putfield 129, 3) := by decide +kernel
theorem dX12_dress_41 : decode cX12_dress 41 = .ok (.aload_n 0, 1) := by decide +kernel
theorem dX12_dress_42 : decode cX12_dress 42 = .ok (.iconst 0, 1) := by decide +kernel
theorem dX12_dress_43 : decode cX12_dress 43 = .ok (.putfield 138, 3) := by decide +kernel
theorem dX12_dress_46 : decode cX12_dress 46 = .ok (.aload_n 0, 1) := by decide +kernel
theorem dX12_dress_47 : decode cX12_dress 47 = .ok (.iconst 0, 1) := by decide +kernel
theorem dX12_dress_48 : decode cX12_dress 48 = .ok (.putfield 152, 3) := by decide +kernel
theorem dX12_dress_51 : decode cX12_dress 51 = .ok (.aload_n 0, 1) := by decide +kernel
theorem dX12_dress_52 : decode cX12_dress 52 = .ok (.getfield 138, 3) := by decide +kernel
theorem dX12_dress_55 : decode cX12_dress 55 = .ok (.ifCond .ne 28, 3) := by decide +kernel
theorem dX12_dress_58 : decode cX12_dress 58 = .ok (.aload_n 0, 1) := by decide +kernel
theorem dX12_dress_59 : decode cX12_dress 59 = .ok (.getfield 152, 3) := by decide +kernel
theorem dX12_dress_62 : decode cX12_dress 62 = .ok (.ifCond .eq 14, 3) := by decide +kernel
theorem dX12_dress_65 : decode cX12_dress 65 = .ok (.aload_n 0, 1) := by decide +kernel
theorem dX12_dress_66 : decode cX12_dress 66 = .ok (.getfield 129, 3) := by decide +kernel
theorem dX12_dress_69 : decode cX12_dress 69 = .ok (.aload_n 0, 1) := by decide +kernel
theorem dX12_dress_70 : decode cX12_dress 70 = .ok (.getfield 132, 3) := by decide +kernel
theorem dX12_dress_73 : decode cX12_dress 73 = .ok (.if_icmp .ge 10, 3) := by decide +kernel
theorem dX12_dress_76 : decode cX12_dress 76 = .ok (.aload_n 0, 1) := by decide +kernel
theorem dX12_dress_77 : decode cX12_dress 77 = .ok (.invokevirtual 180, 3) := by decide +kernel
theorem dX12_dress_80 : decode cX12_dress 80 = .ok (.goto (-29), 3) := by decide +kernel
theorem dX12_dress_83 : decode cX12_dress 83 = .ok (.aload_n 0, 1) := by decide +kernel
theorem dX12_dress_84 : decode cX12_dress 84 = .ok (.getfield 138, 3) := by decide +kernel
theorem dX12_dress_87 : decode cX12_dress 87 = .ok (.ifCond .eq 12, 3) := by decide +kernel
theorem dX12_dress_90 : decode cX12_dress 90 = .ok (.sipush (-1000), 3) := by decide +kernel
theorem dX12_dress_93 : decode cX12_dress 93 = .ok (.aload_n 0, 1) := by decide +kernel
theorem dX12_dress_94 : decode cX12_dress 94 = .ok (.getfield 129, 3) := by decide +kernel
theorem dX12_dress_97 : decode cX12_dress 97 = .ok (.isub, 1) := by decide +kernel
theorem dX12_dress_98 : decode cX12_dress 98 = .ok (.ireturn, 1) := by decide +kernel
theorem dX12_dress_99 : decode cX12_dress 99 = .ok (.aload_n 0, 1) := by decide +kernel
theorem dX12_dress_100 : decode cX12_dress 100 = .ok (.invokevirtual 183, 3) := by decide +kernel
theorem dX12_dress_103 : decode cX12_dress 103 = .ok (.iconst 0, 1) := by decide +kernel
theorem dX12_dress_104 : decode cX12_dress 104 = .ok (.istore_n 3, 1) := by decide +kernel
theorem dX12_dress_105 : decode cX12_dress 105 = .ok (.iload_n 3, 1) := by decide +kernel
theorem dX12_dress_106 : decode cX12_dress 106 = .ok (.aload_n 0, 1) := by decide +kernel
theorem dX12_dress_107 : decode cX12_dress 107 = .ok (.getfield 152, 3) := by decide +kernel
theorem dX12_dress_110 : decode cX12_dress 110 = .ok (.if_icmp .ge 32, 3) := by decide +kernel
theorem dX12_dress_113 : decode cX12_dress 113 = .ok (.aload_n 0, 1) := by decide +kernel
theorem dX12_dress_114 : decode cX12_dress 114 = .ok (.iload_n 3, 1) := by decide +kernel
theorem dX12_dress_115 : decode cX12_dress 115 = .ok (.invokevirtual 186, 3) := by decide +kernel
theorem dX12_dress_118 : decode cX12_dress 118 = .ok (.ifCond .ne 18, 3) := by decide +kernel
theorem dX12_dress_121 : decode cX12_dress 121 = .ok (.aload_n 0, 1) := by decide +kernel
theorem dX12_dress_122 : decode cX12_dress 122 = .ok (.invokevirtual 189, 3) := by decide +kernel
theorem dX12_dress_125 : decode cX12_dress 125 = .ok (.sipush (-2000), 3) := by decide +kernel
theorem dX12_dress_128 : decode cX12_dress 128 = .ok (.aload_n 0, 1) := by decide +kernel
theorem dX12_dress_129 : decode cX12_dress 129 = .ok (.getfield 35, 3) := by decide +kernel
theorem dX12_dress_132 : decode cX12_dress 132 = .ok (.iload_n 3, 1) := by decide +kernel
theorem dX12_dress_133 : decode cX12_dress 133 = .ok (.iaload, 1) := by decide +kernel
theorem dX12_dress_134 : decode cX12_dress 134 = .ok (.isub, 1) := by decide +kernel
theorem dX12_dress_135 : decode cX12_dress 135 = .ok (.ireturn, 1) := by decide +kernel
theorem dX12_dress_136 : decode cX12_dress 136 = .ok (.iinc 3 1, 3) := by decide +kernel
theorem dX12_dress_139 : decode cX12_dress 139 = .ok (.goto (-34), 3) := by decide +kernel
theorem dX12_dress_142 : decode cX12_dress 142 = .ok (.aload_n 0, 1) := by decide +kernel
theorem dX12_dress_143 : decode cX12_dress 143 = .ok (.getfield 152, 3) := by decide +kernel
theorem dX12_dress_146 : decode cX12_dress 146 = .ok (.ireturn, 1) := by decide +kernel
theorem dX12_ring_0 : decode cX12_ring 0 = .ok (.aload_n 0, 1) := by decide +kernel
theorem dX12_ring_1 : decode cX12_ring 1 = .ok (.iconst 0, 1) := by decide +kernel
theorem dX12_ring_2 : decode cX12_ring 2 = .ok (.putfield 78, 3) := by decide +kernel
theorem dX12_ring_5 : decode cX12_ring 5 = .ok (.aload_n 0, 1) := by decide +kernel
theorem dX12_ring_6 : decode cX12_ring 6 = .ok (.iload_n 1, 1) := by decide +kernel
theorem dX12_ring_7 : decode cX12_ring 7 = .ok (.invokevirtual 166, 3) := by decide +kernel
theorem dX12_ring_10 : decode cX12_ring 10 = .ok (.ifCond .eq 15, 3) := by decide +kernel
theorem dX12_ring_13 : decode cX12_ring 13 = .ok (.iload_n 2, 1) := by decide +kernel
theorem dX12_ring_14 : decode cX12_ring 14 = .ok (.i2l, 1) := by decide +kernel
theorem dX12_ring_15 : decode cX12_ring 15 = .ok (.lconst 0, 1) := by decide +kernel
theorem dX12_ring_16 : decode cX12_ring 16 = .ok (.ldc2_w 192, 3) := by decide +kernel
theorem dX12_ring_19 : decode cX12_ring 19 = .ok (.invokestatic 84, 3) := by decide +kernel
theorem dX12_ring_22 : decode cX12_ring 22 = .ok (.ifCond .ne 5, 3) := by decide +kernel
theorem dX12_ring_25 : decode cX12_ring 25 = .ok (.iconst (-1), 1) := by decide +kernel
theorem dX12_ring_26 : decode cX12_ring 26 = .ok (.ireturn, 1) := by decide +kernel
theorem dX12_ring_27 : decode cX12_ring 27 = .ok (.iload_n 2, 1) := by decide +kernel
theorem dX12_ring_28 : decode cX12_ring 28 = .ok (.ifCond .ne 12, 3) := by decide +kernel
theorem dX12_ring_31 : decode cX12_ring 31 = .ok (.aload_n 0, 1) := by decide +kernel
theorem dX12_ring_32 : decode cX12_ring 32 = .ok (.getfield 16, 3) := by decide +kernel
theorem dX12_ring_35 : decode cX12_ring 35 = .ok (.iload_n 1, 1) := by decide +kernel
theorem dX12_ring_36 : decode cX12_ring 36 = .ok (.iaload, 1) := by decide +kernel
theorem dX12_ring_37 : decode cX12_ring 37 = .ok (.goto 37, 3) := by decide +kernel
theorem dX12_ring_40 : decode cX12_ring 40 = .ok (.iload_n 2, 1) := by decide +kernel
theorem dX12_ring_41 : decode cX12_ring 41 = .ok (.iconst 1, 1) := by decide +kernel
theorem dX12_ring_42 : decode cX12_ring 42 = .ok (.if_icmp .ne 12, 3) := by decide +kernel
theorem dX12_ring_45 : decode cX12_ring 45 = .ok (.aload_n 0, 1) := by decide +kernel
theorem dX12_ring_46 : decode cX12_ring 46 = .ok (.getfield 20, 3) := by decide +kernel
theorem dX12_ring_49 : decode cX12_ring 49 = .ok (.iload_n 1, 1) := by decide +kernel
theorem dX12_ring_50 : decode cX12_ring 50 = .ok (.iaload, 1) := by decide +kernel
theorem dX12_ring_51 : decode cX12_ring 51 = .ok (.goto 23, 3) := by decide +kernel
theorem dX12_ring_54 : decode cX12_ring 54 = .ok (.iload_n 2, 1) := by decide +kernel
theorem dX12_ring_55 : decode cX12_ring 55 = .ok (.iconst 2, 1) := by decide +kernel
theorem dX12_ring_56 : decode cX12_ring 56 = .ok (.if_icmp .ne 12, 3) := by decide +kernel
theorem dX12_ring_59 : decode cX12_ring 59 = .ok (.aload_n 0, 1) := by decide +kernel
theorem dX12_ring_60 : decode cX12_ring 60 = .ok (.getfield 23, 3) := by decide +kernel
theorem dX12_ring_63 : decode cX12_ring 63 = .ok (.iload_n 1, 1) := by decide +kernel
theorem dX12_ring_64 : decode cX12_ring 64 = .ok (.iaload, 1) := by decide +kernel
theorem dX12_ring_65 : decode cX12_ring 65 = .ok (.goto 9, 3) := by decide +kernel
theorem dX12_ring_68 : decode cX12_ring 68 = .ok (.aload_n 0, 1) := by decide +kernel
theorem dX12_ring_69 : decode cX12_ring 69 = .ok (.getfield 26, 3) := by decide +kernel
theorem dX12_ring_72 : decode cX12_ring 72 = .ok (.iload_n 1, 1) := by decide +kernel
theorem dX12_ring_73 : decode cX12_ring 73 = .ok (.iaload, 1) := by decide +kernel
theorem dX12_ring_74 : decode cX12_ring 74 = .ok (.ireturn, 1) := by decide +kernel
theorem dX12_line_0 : decode cX12_line 0 = .ok (.aload_n 0, 1) := by decide +kernel
theorem dX12_line_1 : decode cX12_line 1 = .ok (.iconst 0, 1) := by decide +kernel
theorem dX12_line_2 : decode cX12_line 2 = .ok (.putfield 78, 3) := by decide +kernel
theorem dX12_line_5 : decode cX12_line 5 = .ok (.iload_n 1, 1) := by decide +kernel
theorem dX12_line_6 : decode cX12_line 6 = .ok (.i2l, 1) := by decide +kernel
theorem dX12_line_7 : decode cX12_line 7 = .ok (.lconst 0, 1) := by decide +kernel
theorem dX12_line_8 : decode cX12_line 8 = .ok (.lconst 1, 1) := by decide +kernel
theorem dX12_line_9 : decode cX12_line 9 = .ok (.invokestatic 84, 3) := by decide +kernel
theorem dX12_line_12 : decode cX12_line 12 = .ok (.ifCond .eq 25, 3) := by decide +kernel
theorem dX12_line_15 : decode cX12_line 15 = .ok (.iload_n 2, 1) := by decide +kernel
theorem dX12_line_16 : decode cX12_line 16 = .ok (.i2l, 1) := by decide +kernel
theorem dX12_line_17 : decode cX12_line 17 = .ok (.lconst 0, 1) := by decide +kernel
theorem dX12_line_18 : decode cX12_line 18 = .ok (.iload_n 1, 1) := by decide +kernel
theorem dX12_line_19 : decode cX12_line 19 = .ok (.ifCond .ne 9, 3) := by decide +kernel
theorem dX12_line_22 : decode cX12_line 22 = .ok (.ldc2_w 194, 3) := by decide +kernel
theorem dX12_line_25 : decode cX12_line 25 = .ok (.goto 6, 3) := by decide +kernel
theorem dX12_line_28 : decode cX12_line 28 = .ok (.ldc2_w 196, 3) := by decide +kernel
theorem dX12_line_31 : decode cX12_line 31 = .ok (.invokestatic 84, 3) := by decide +kernel
theorem dX12_line_34 : decode cX12_line 34 = .ok (.ifCond .ne 5, 3) := by decide +kernel
theorem dX12_line_37 : decode cX12_line 37 = .ok (.iconst (-1), 1) := by decide +kernel
theorem dX12_line_38 : decode cX12_line 38 = .ok (.ireturn, 1) := by decide +kernel
theorem dX12_line_39 : decode cX12_line 39 = .ok (.iload_n 1, 1) := by decide +kernel
theorem dX12_line_40 : decode cX12_line 40 = .ok (.ifCond .ne 10, 3) := by decide +kernel
theorem dX12_line_43 : decode cX12_line 43 = .ok (.aload_n 0, 1) := by decide +kernel
theorem dX12_line_44 : decode cX12_line 44 = .ok (.getfield 7, 3) := by decide +kernel
theorem dX12_line_47 : decode cX12_line 47 = .ok (.goto 7, 3) := by decide +kernel
theorem dX12_line_50 : decode cX12_line 50 = .ok (.aload_n 0, 1) := by decide +kernel
theorem dX12_line_51 : decode cX12_line 51 = .ok (.getfield 13, 3) := by decide +kernel
theorem dX12_line_54 : decode cX12_line 54 = .ok (.istore_n 3, 1) := by decide +kernel
theorem dX12_line_55 : decode cX12_line 55 = .ok (.aload_n 0, 1) := by decide +kernel
theorem dX12_line_56 : decode cX12_line 56 = .ok (.iload_n 1, 1) := by decide +kernel
theorem dX12_line_57 : decode cX12_line 57 = .ok (.ifCond .ne 7, 3) := by decide +kernel
theorem dX12_line_60 : decode cX12_line 60 = .ok (.iload_n 2, 1) := by decide +kernel
theorem dX12_line_61 : decode cX12_line 61 = .ok (.goto 7, 3) := by decide +kernel
theorem dX12_line_64 : decode cX12_line 64 = .ok (.aload_n 0, 1) := by decide +kernel
theorem dX12_line_65 : decode cX12_line 65 = .ok (.getfield 7, 3) := by decide +kernel
theorem dX12_line_68 : decode cX12_line 68 = .ok (.putfield 7, 3) := by decide +kernel
theorem dX12_line_71 : decode cX12_line 71 = .ok (.aload_n 0, 1) := by decide +kernel
theorem dX12_line_72 : decode cX12_line 72 = .ok (.iload_n 1, 1) := by decide +kernel
theorem dX12_line_73 : decode cX12_line 73 = .ok (.iconst 1, 1) := by decide +kernel
theorem dX12_line_74 : decode cX12_line 74 = .ok (.if_icmp .ne 7, 3) := by decide +kernel
theorem dX12_line_77 : decode cX12_line 77 = .ok (.iload_n 2, 1) := by decide +kernel
theorem dX12_line_78 : decode cX12_line 78 = .ok (.goto 7, 3) := by decide +kernel
theorem dX12_line_81 : decode cX12_line 81 = .ok (.aload_n 0, 1) := by decide +kernel
theorem dX12_line_82 : decode cX12_line 82 = .ok (.getfield 13, 3) := by decide +kernel
theorem dX12_line_85 : decode cX12_line 85 = .ok (.putfield 13, 3) := by decide +kernel
theorem dX12_line_88 : decode cX12_line 88 = .ok (.iload_n 3, 1) := by decide +kernel
theorem dX12_line_89 : decode cX12_line 89 = .ok (.ireturn, 1) := by decide +kernel
theorem dX12_wrongPin_0 : decode cX12_wrongPin 0 = .ok (.iload_n 1, 1) := by decide +kernel
theorem dX12_wrongPin_1 : decode cX12_wrongPin 1 = .ok (.i2l, 1) := by decide +kernel
theorem dX12_wrongPin_2 : decode cX12_wrongPin 2 = .ok (.lconst 0, 1) := by decide +kernel
theorem dX12_wrongPin_3 : decode cX12_wrongPin 3 = .ok (.ldc2_w 198, 3) := by decide +kernel
theorem dX12_wrongPin_6 : decode cX12_wrongPin 6 = .ok (.invokestatic 84, 3) := by decide +kernel
theorem dX12_wrongPin_9 : decode cX12_wrongPin 9 = .ok (.ifCond .ne 7, 3) := by decide +kernel
theorem dX12_wrongPin_12 : decode cX12_wrongPin 12 = .ok (.iconst (-1), 1) := by decide +kernel
theorem dX12_wrongPin_13 : decode cX12_wrongPin 13 = .ok (.goto 33, 3) := by decide +kernel
theorem dX12_wrongPin_16 : decode cX12_wrongPin 16 = .ok (.aload_n 0, 1) := by decide +kernel
theorem dX12_wrongPin_17 : decode cX12_wrongPin 17 = .ok (.getfield 56, 3) := by decide +kernel
theorem dX12_wrongPin_20 : decode cX12_wrongPin 20 = .ok (.iload_n 1, 1) := by decide +kernel
theorem dX12_wrongPin_21 : decode cX12_wrongPin 21 = .ok (.iaload, 1) := by decide +kernel
theorem dX12_wrongPin_22 : decode cX12_wrongPin 22 = .ok (.ifCond .ne 8, 3) := by decide +kernel
theorem dX12_wrongPin_25 : decode cX12_wrongPin 25 = .ok (.bipush (-11), 2) := by decide +kernel
theorem dX12_wrongPin_27 : decode cX12_wrongPin 27 = .ok (.goto 19, 3) := by decide +kernel
theorem dX12_wrongPin_30 : decode cX12_wrongPin 30 = .ok (.aload_n 0, 1) := by decide +kernel
theorem dX12_wrongPin_31 : decode cX12_wrongPin 31 = .ok (.getfield 56, 3) := by decide +kernel
theorem dX12_wrongPin_34 : decode cX12_wrongPin 34 = .ok (.iload_n 1, 1) := by decide +kernel
theorem dX12_wrongPin_35 : decode cX12_wrongPin 35 = .ok (.iaload, 1) := by decide +kernel
theorem dX12_wrongPin_36 : decode cX12_wrongPin 36 = .ok (.iconst 1, 1) := by decide +kernel
theorem dX12_wrongPin_37 : decode cX12_wrongPin 37 = .ok (.if_icmp .eq 8, 3) := by decide +kernel
theorem dX12_wrongPin_40 : decode cX12_wrongPin 40 = .ok (.bipush (-12), 2) := by decide +kernel
theorem dX12_wrongPin_42 : decode cX12_wrongPin 42 = .ok (.goto 4, 3) := by decide +kernel
theorem dX12_wrongPin_45 : decode cX12_wrongPin 45 = .ok (.iconst 0, 1) := by decide +kernel
theorem dX12_wrongPin_46 : decode cX12_wrongPin 46 = .ok (.ireturn, 1) := by decide +kernel
theorem dX12_may_0 : decode cX12_may 0 = .ok (.aload_n 0, 1) := by decide +kernel
theorem dX12_may_1 : decode cX12_may 1 = .ok (.iconst 0, 1) := by decide +kernel
theorem dX12_may_2 : decode cX12_may 2 = .ok (.putfield 78, 3) := by decide +kernel
theorem dX12_may_5 : decode cX12_may 5 = .ok (.aload_n 0, 1) := by decide +kernel
theorem dX12_may_6 : decode cX12_may 6 = .ok (.iload_n 2, 1) := by decide +kernel
theorem dX12_may_7 : decode cX12_may 7 = .ok (.invokevirtual 166, 3) := by decide +kernel
theorem dX12_may_10 : decode cX12_may 10 = .ok (.ifCond .eq 11, 3) := by decide +kernel
theorem dX12_may_13 : decode cX12_may 13 = .ok (.aload_n 0, 1) := by decide +kernel
theorem dX12_may_14 : decode cX12_may 14 = .ok (.iload_n 1, 1) := by decide +kernel
theorem dX12_may_15 : decode cX12_may 15 = .ok (.invokevirtual 200, 3) := by decide +kernel
theorem dX12_may_18 : decode cX12_may 18 = .ok (.goto 4, 3) := by decide +kernel
theorem dX12_may_21 : decode cX12_may 21 = .ok (.iconst (-1), 1) := by decide +kernel
theorem dX12_may_22 : decode cX12_may 22 = .ok (.istore_n 3, 1) := by decide +kernel
theorem dX12_may_23 : decode cX12_may 23 = .ok (.iload_n 3, 1) := by decide +kernel
theorem dX12_may_24 : decode cX12_may 24 = .ok (.ifCond .ge 5, 3) := by decide +kernel
theorem dX12_may_27 : decode cX12_may 27 = .ok (.iload_n 3, 1) := by decide +kernel
theorem dX12_may_28 : decode cX12_may 28 = .ok (.ireturn, 1) := by decide +kernel
theorem dX12_may_29 : decode cX12_may 29 = .ok (.aload_n 0, 1) := by decide +kernel
theorem dX12_may_30 : decode cX12_may 30 = .ok (.aload_n 0, 1) := by decide +kernel
theorem dX12_may_31 : decode cX12_may 31 = .ok (.getfield 59, 3) := by decide +kernel
theorem dX12_may_34 : decode cX12_may 34 = .ok (.iload_n 1, 1) := by decide +kernel
theorem dX12_may_35 : decode cX12_may 35 = .ok (.iaload, 1) := by decide +kernel
theorem dX12_may_36 : decode cX12_may 36 = .ok (.aload_n 0, 1) := by decide +kernel
theorem dX12_may_37 : decode cX12_may 37 = .ok (.getfield 62, 3) := by decide +kernel
theorem dX12_may_40 : decode cX12_may 40 = .ok (.iload_n 1, 1) := by decide +kernel
theorem dX12_may_41 : decode cX12_may 41 = .ok (.iaload, 1) := by decide +kernel
theorem dX12_may_42 : decode cX12_may 42 = .ok (.iload_n 2, 1) := by decide +kernel
theorem dX12_may_43 : decode cX12_may 43 = .ok (.invokevirtual 169, 3) := by decide +kernel
theorem dX12_may_46 : decode cX12_may 46 = .ok (.ifCond .eq 7, 3) := by decide +kernel
theorem dX12_may_49 : decode cX12_may 49 = .ok (.iconst 1, 1) := by decide +kernel
theorem dX12_may_50 : decode cX12_may 50 = .ok (.goto 4, 3) := by decide +kernel
theorem dX12_may_53 : decode cX12_may 53 = .ok (.iconst 0, 1) := by decide +kernel
theorem dX12_may_54 : decode cX12_may 54 = .ok (.ireturn, 1) := by decide +kernel
theorem dX12_pin_0 : decode cX12_pin 0 = .ok (.aload_n 0, 1) := by decide +kernel
theorem dX12_pin_1 : decode cX12_pin 1 = .ok (.iconst 0, 1) := by decide +kernel
theorem dX12_pin_2 : decode cX12_pin 2 = .ok (.putfield 78, 3) := by decide +kernel
theorem dX12_pin_5 : decode cX12_pin 5 = .ok (.aload_n 0, 1) := by decide +kernel
theorem dX12_pin_6 : decode cX12_pin 6 = .ok (.iload_n 2, 1) := by decide +kernel
theorem dX12_pin_7 : decode cX12_pin 7 = .ok (.invokevirtual 166, 3) := by decide +kernel
theorem dX12_pin_10 : decode cX12_pin 10 = .ok (.ifCond .eq 11, 3) := by decide +kernel
theorem dX12_pin_13 : decode cX12_pin 13 = .ok (.aload_n 0, 1) := by decide +kernel
theorem dX12_pin_14 : decode cX12_pin 14 = .ok (.iload_n 1, 1) := by decide +kernel
theorem dX12_pin_15 : decode cX12_pin 15 = .ok (.invokevirtual 200, 3) := by decide +kernel
theorem dX12_pin_18 : decode cX12_pin 18 = .ok (.goto 4, 3) := by decide +kernel
theorem dX12_pin_21 : decode cX12_pin 21 = .ok (.iconst (-1), 1) := by decide +kernel
theorem dX12_pin_22 : decode cX12_pin 22 = .ok (.istore_n 3, 1) := by decide +kernel
theorem dX12_pin_23 : decode cX12_pin 23 = .ok (.iload_n 3, 1) := by decide +kernel
theorem dX12_pin_24 : decode cX12_pin 24 = .ok (.ifCond .ge 5, 3) := by decide +kernel
theorem dX12_pin_27 : decode cX12_pin 27 = .ok (.iload_n 3, 1) := by decide +kernel
theorem dX12_pin_28 : decode cX12_pin 28 = .ok (.ireturn, 1) := by decide +kernel
theorem dX12_pin_29 : decode cX12_pin 29 = .ok (.aload_n 0, 1) := by decide +kernel
theorem dX12_pin_30 : decode cX12_pin 30 = .ok (.aload_n 0, 1) := by decide +kernel
theorem dX12_pin_31 : decode cX12_pin 31 = .ok (.getfield 59, 3) := by decide +kernel
theorem dX12_pin_34 : decode cX12_pin 34 = .ok (.iload_n 1, 1) := by decide +kernel
theorem dX12_pin_35 : decode cX12_pin 35 = .ok (.iaload, 1) := by decide +kernel
theorem dX12_pin_36 : decode cX12_pin 36 = .ok (.aload_n 0, 1) := by decide +kernel
theorem dX12_pin_37 : decode cX12_pin 37 = .ok (.getfield 62, 3) := by decide +kernel
theorem dX12_pin_40 : decode cX12_pin 40 = .ok (.iload_n 1, 1) := by decide +kernel
theorem dX12_pin_41 : decode cX12_pin 41 = .ok (.iaload, 1) := by decide +kernel
theorem dX12_pin_42 : decode cX12_pin 42 = .ok (.iload_n 2, 1) := by decide +kernel
theorem dX12_pin_43 : decode cX12_pin 43 = .ok (.invokevirtual 169, 3) := by decide +kernel
theorem dX12_pin_46 : decode cX12_pin 46 = .ok (.ifCond .ne 6, 3) := by decide +kernel
theorem dX12_pin_49 : decode cX12_pin 49 = .ok (.bipush (-3), 2) := by decide +kernel
theorem dX12_pin_51 : decode cX12_pin 51 = .ok (.ireturn, 1) := by decide +kernel
theorem dX12_pin_52 : decode cX12_pin 52 = .ok (.aload_n 0, 1) := by decide +kernel
theorem dX12_pin_53 : decode cX12_pin 53 = .ok (.aload_n 0, 1) := by decide +kernel
theorem dX12_pin_54 : decode cX12_pin 54 = .ok (.getfield 59, 3) := by decide +kernel
theorem dX12_pin_57 : decode cX12_pin 57 = .ok (.iload_n 1, 1) := by decide +kernel
theorem dX12_pin_58 : decode cX12_pin 58 = .ok (.iaload, 1) := by decide +kernel
theorem dX12_pin_59 : decode cX12_pin 59 = .ok (.aload_n 0, 1) := by decide +kernel
theorem dX12_pin_60 : decode cX12_pin 60 = .ok (.getfield 62, 3) := by decide +kernel
theorem dX12_pin_63 : decode cX12_pin 63 = .ok (.iload_n 1, 1) := by decide +kernel
theorem dX12_pin_64 : decode cX12_pin 64 = .ok (.iaload, 1) := by decide +kernel
theorem dX12_pin_65 : decode cX12_pin 65 = .ok (.iload_n 2, 1) := by decide +kernel
theorem dX12_pin_66 : decode cX12_pin 66 = .ok (.invokevirtual 173, 3) := by decide +kernel
theorem dX12_pin_69 : decode cX12_pin 69 = .ok (.aload_n 0, 1) := by decide +kernel
theorem dX12_pin_70 : decode cX12_pin 70 = .ok (.invokevirtual 203, 3) := by decide +kernel
theorem dX12_pin_73 : decode cX12_pin 73 = .ok (.ireturn, 1) := by decide +kernel
theorem dX12_ease_0 : decode cX12_ease 0 = .ok (.aload_n 0, 1) := by decide +kernel
theorem dX12_ease_1 : decode cX12_ease 1 = .ok (.iconst 0, 1) := by decide +kernel
theorem dX12_ease_2 : decode cX12_ease 2 = .ok (.putfield 78, 3) := by decide +kernel
theorem dX12_ease_5 : decode cX12_ease 5 = .ok (.aload_n 0, 1) := by decide +kernel
theorem dX12_ease_6 : decode cX12_ease 6 = .ok (.iload_n 1, 1) := by decide +kernel
theorem dX12_ease_7 : decode cX12_ease 7 = .ok (.invokevirtual 166, 3) := by decide +kernel
theorem dX12_ease_10 : decode cX12_ease 10 = .ok (.ifCond .eq 24, 3) := by decide +kernel
theorem dX12_ease_13 : decode cX12_ease 13 = .ok (.iload_n 2, 1) := by decide +kernel
theorem dX12_ease_14 : decode cX12_ease 14 = .ok (.i2l, 1) := by decide +kernel
theorem dX12_ease_15 : decode cX12_ease 15 = .ok (.lconst 0, 1) := by decide +kernel
theorem dX12_ease_16 : decode cX12_ease 16 = .ok (.ldc2_w 192, 3) := by decide +kernel
theorem dX12_ease_19 : decode cX12_ease 19 = .ok (.invokestatic 84, 3) := by decide +kernel
theorem dX12_ease_22 : decode cX12_ease 22 = .ok (.ifCond .eq 12, 3) := by decide +kernel
theorem dX12_ease_25 : decode cX12_ease 25 = .ok (.aload_n 0, 1) := by decide +kernel
theorem dX12_ease_26 : decode cX12_ease 26 = .ok (.iload_n 1, 1) := by decide +kernel
theorem dX12_ease_27 : decode cX12_ease 27 = .ok (.iload_n 2, 1) := by decide +kernel
theorem dX12_ease_28 : decode cX12_ease 28 = .ok (.invokevirtual 88, 3) := by decide +kernel
theorem dX12_ease_31 : decode cX12_ease 31 = .ok (.goto 5, 3) := by decide +kernel
theorem dX12_ease_34 : decode cX12_ease 34 = .ok (.ldc 206, 2) := by decide +kernel
theorem dX12_ease_36 : decode cX12_ease 36 = .ok (.ireturn, 1) := by decide +kernel
theorem dX12_fit_0 : decode cX12_fit 0 = .ok (.aload_n 0, 1) := by decide +kernel
theorem dX12_fit_1 : decode cX12_fit 1 = .ok (.iconst 0, 1) := by decide +kernel
theorem dX12_fit_2 : decode cX12_fit 2 = .ok (.putfield 78, 3) := by decide +kernel
theorem dX12_fit_5 : decode cX12_fit 5 = .ok (.iload_n 1, 1) := by decide +kernel
theorem dX12_fit_6 : decode cX12_fit 6 = .ok (.i2l, 1) := by decide +kernel
theorem dX12_fit_7 : decode cX12_fit 7 = .ok (.ldc2_w 207, 3) := by decide +kernel
theorem dX12_fit_10 : decode cX12_fit 10 = .ok (.ldc2_w 192, 3) := by decide +kernel
theorem dX12_fit_13 : decode cX12_fit 13 = .ok (.invokestatic 84, 3) := by decide +kernel
theorem dX12_fit_16 : decode cX12_fit 16 = .ok (.ifCond .ne 5, 3) := by decide +kernel
theorem dX12_fit_19 : decode cX12_fit 19 = .ok (.iconst (-1), 1) := by decide +kernel
theorem dX12_fit_20 : decode cX12_fit 20 = .ok (.ireturn, 1) := by decide +kernel
theorem dX12_fit_21 : decode cX12_fit 21 = .ok (.iconst 0, 1) := by decide +kernel
theorem dX12_fit_22 : decode cX12_fit 22 = .ok (.istore_n 2, 1) := by decide +kernel
theorem dX12_fit_23 : decode cX12_fit 23 = .ok (.iconst 0, 1) := by decide +kernel
theorem dX12_fit_24 : decode cX12_fit 24 = .ok (.istore_n 3, 1) := by decide +kernel
theorem dX12_fit_25 : decode cX12_fit 25 = .ok (.iload_n 3, 1) := by decide +kernel
theorem dX12_fit_26 : decode cX12_fit 26 = .ok (.aload_n 0, 1) := by decide +kernel
