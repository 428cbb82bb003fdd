theorem dX12_fit_27 : decode cX12_fit 27 = .ok (.getfield 81, 3) := by decide +kernel
theorem dX12_fit_30 : decode cX12_fit 30 = .ok (.if_icmp .ge 74, 3) := by decide +kernel
theorem dX12_fit_33 : decode cX12_fit 33 = .ok (.iconst 1, 1) := by decide +kernel
theorem dX12_fit_34 : decode cX12_fit 34 = .ok (.istore 4, 2) := by decide +kernel
theorem dX12_fit_36 : decode cX12_fit 36 = .ok (.iconst 0, 1) := by decide +kernel
theorem dX12_fit_37 : decode cX12_fit 37 = .ok (.istore 5, 2) := by decide +kernel
theorem dX12_fit_39 : decode cX12_fit 39 = .ok (.iload 5, 2) := by decide +kernel
theorem dX12_fit_41 : decode cX12_fit 41 = .ok (.iconst 4, 1) := by decide +kernel
theorem dX12_fit_42 : decode cX12_fit 42 = .ok (.if_icmp .ge 41, 3) := by decide +kernel
theorem dX12_fit_45 : decode cX12_fit 45 = .ok (.iload 4, 2) := by decide +kernel
theorem dX12_fit_47 : decode cX12_fit 47 = .ok (.ifCond .eq 27, 3) := by decide +kernel
theorem dX12_fit_50 : decode cX12_fit 50 = .ok (.iload_n 1, 1) := by decide +kernel
theorem dX12_fit_51 : decode cX12_fit 51 = .ok (.ifCond .lt 9, 3) := by decide +kernel
theorem dX12_fit_54 : decode cX12_fit 54 = .ok (.iload 5, 2) := by decide +kernel
theorem dX12_fit_56 : decode cX12_fit 56 = .ok (.iload_n 1, 1) := by decide +kernel
theorem dX12_fit_57 : decode cX12_fit 57 = .ok (.if_icmp .ne 13, 3) := by decide +kernel
theorem dX12_fit_60 : decode cX12_fit 60 = .ok (.aload_n 0, 1) := by decide +kernel
theorem dX12_fit_61 : decode cX12_fit 61 = .ok (.iload_n 3, 1) := by decide +kernel
theorem dX12_fit_62 : decode cX12_fit 62 = .ok (.iload 5, 2) := by decide +kernel
theorem dX12_fit_64 : decode cX12_fit 64 = .ok (.invokevirtual 209, 3) := by decide +kernel
theorem dX12_fit_67 : decode cX12_fit 67 = .ok (.ifCond .eq 7, 3) := by decide +kernel
theorem dX12_fit_70 : decode cX12_fit 70 = .ok (.iconst 1, 1) := by decide +kernel
theorem dX12_fit_71 : decode cX12_fit 71 = .ok (.goto 4, 3) := by decide +kernel
theorem dX12_fit_74 : decode cX12_fit 74 = .ok (.iconst 0, 1) := by decide +kernel
theorem dX12_fit_75 : decode cX12_fit 75 = .ok (.istore 4, 2) := by decide +kernel
theorem dX12_fit_77 : decode cX12_fit 77 = .ok (.iinc 5 1, 3) := by decide +kernel
theorem dX12_fit_80 : decode cX12_fit 80 = .ok (.goto (-41), 3) := by decide +kernel
theorem dX12_fit_83 : decode cX12_fit 83 = .ok (.iload_n 2, 1) := by decide +kernel
theorem dX12_fit_84 : decode cX12_fit 84 = .ok (.iload 4, 2) := by decide +kernel
theorem dX12_fit_86 : decode cX12_fit 86 = .ok (.ifCond .eq 9, 3) := by decide +kernel
theorem dX12_fit_89 : decode cX12_fit 89 = .ok (.iconst 1, 1) := by decide +kernel
theorem dX12_fit_90 : decode cX12_fit 90 = .ok (.iload_n 3, 1) := by decide +kernel
theorem dX12_fit_91 : decode cX12_fit 91 = .ok (.ishl, 1) := by decide +kernel
theorem dX12_fit_92 : decode cX12_fit 92 = .ok (.goto 4, 3) := by decide +kernel
theorem dX12_fit_95 : decode cX12_fit 95 = .ok (.iconst 0, 1) := by decide +kernel
theorem dX12_fit_96 : decode cX12_fit 96 = .ok (.ior, 1) := by decide +kernel
theorem dX12_fit_97 : decode cX12_fit 97 = .ok (.istore_n 2, 1) := by decide +kernel
theorem dX12_fit_98 : decode cX12_fit 98 = .ok (.iinc 3 1, 3) := by decide +kernel
theorem dX12_fit_101 : decode cX12_fit 101 = .ok (.goto (-76), 3) := by decide +kernel
theorem dX12_fit_104 : decode cX12_fit 104 = .ok (.iload_n 2, 1) := by decide +kernel
theorem dX12_fit_105 : decode cX12_fit 105 = .ok (.ireturn, 1) := by decide +kernel
theorem dX12_lacks_0 : decode cX12_lacks 0 = .ok (.aload_n 0, 1) := by decide +kernel
theorem dX12_lacks_1 : decode cX12_lacks 1 = .ok (.iconst 0, 1) := by decide +kernel
theorem dX12_lacks_2 : decode cX12_lacks 2 = .ok (.putfield 78, 3) := by decide +kernel
theorem dX12_lacks_5 : decode cX12_lacks 5 = .ok (.aload_n 0, 1) := by decide +kernel
theorem dX12_lacks_6 : decode cX12_lacks 6 = .ok (.invokevirtual 203, 3) := by decide +kernel
theorem dX12_lacks_9 : decode cX12_lacks 9 = .ok (.ireturn, 1) := by decide +kernel
theorem dX12_bestPin_0 : decode cX12_bestPin 0 = .ok (.aload_n 0, 1) := by decide +kernel
theorem dX12_bestPin_1 : decode cX12_bestPin 1 = .ok (.iconst 0, 1) := by decide +kernel
theorem dX12_bestPin_2 : decode cX12_bestPin 2 = .ok (.putfield 78, 3) := by decide +kernel
theorem dX12_bestPin_5 : decode cX12_bestPin 5 = .ok (.iload_n 1, 1) := by decide +kernel
theorem dX12_bestPin_6 : decode cX12_bestPin 6 = .ok (.i2l, 1) := by decide +kernel
theorem dX12_bestPin_7 : decode cX12_bestPin 7 = .ok (.lconst 0, 1) := by decide +kernel
theorem dX12_bestPin_8 : decode cX12_bestPin 8 = .ok (.lconst 1, 1) := by decide +kernel
theorem dX12_bestPin_9 : decode cX12_bestPin 9 = .ok (.invokestatic 84, 3) := by decide +kernel
theorem dX12_bestPin_12 : decode cX12_bestPin 12 = .ok (.ifCond .eq 13, 3) := by decide +kernel
theorem dX12_bestPin_15 : decode cX12_bestPin 15 = .ok (.iload_n 2, 1) := by decide +kernel
theorem dX12_bestPin_16 : decode cX12_bestPin 16 = .ok (.i2l, 1) := by decide +kernel
theorem dX12_bestPin_17 : decode cX12_bestPin 17 = .ok (.lconst 0, 1) := by decide +kernel
theorem dX12_bestPin_18 : decode cX12_bestPin 18 = .ok (.lconst 1, 1) := by decide +kernel
theorem dX12_bestPin_19 : decode cX12_bestPin 19 = .ok (.invokestatic 84, 3) := by decide +kernel
theorem dX12_bestPin_22 : decode cX12_bestPin 22 = .ok (.ifCond .ne 5, 3) := by decide +kernel
theorem dX12_bestPin_25 : decode cX12_bestPin 25 = .ok (.iconst (-1), 1) := by decide +kernel
theorem dX12_bestPin_26 : decode cX12_bestPin 26 = .ok (.ireturn, 1) := by decide +kernel
theorem dX12_bestPin_27 : decode cX12_bestPin 27 = .ok (.bipush (-4), 2) := by decide +kernel
theorem dX12_bestPin_29 : decode cX12_bestPin 29 = .ok (.istore_n 3, 1) := by decide +kernel
theorem dX12_bestPin_30 : decode cX12_bestPin 30 = .ok (.aload_n 0, 1) := by decide +kernel
theorem dX12_bestPin_31 : decode cX12_bestPin 31 = .ok (.invokevirtual 203, 3) := by decide +kernel
theorem dX12_bestPin_34 : decode cX12_bestPin 34 = .ok (.istore 4, 2) := by decide +kernel
theorem dX12_bestPin_36 : decode cX12_bestPin 36 = .ok (.iconst 0, 1) := by decide +kernel
theorem dX12_bestPin_37 : decode cX12_bestPin 37 = .ok (.istore 5, 2) := by decide +kernel
theorem dX12_bestPin_39 : decode cX12_bestPin 39 = .ok (.iconst 0, 1) := by decide +kernel
theorem dX12_bestPin_40 : decode cX12_bestPin 40 = .ok (.istore 6, 2) := by decide +kernel
theorem dX12_bestPin_42 : decode cX12_bestPin 42 = .ok (.iload 6, 2) := by decide +kernel
theorem dX12_bestPin_44 : decode cX12_bestPin 44 = .ok (.bipush 100, 2) := by decide +kernel
theorem dX12_bestPin_46 : decode cX12_bestPin 46 = .ok (.aload_n 0, 1) := by decide +kernel
theorem dX12_bestPin_47 : decode cX12_bestPin 47 = .ok (.getfield 81, 3) := by decide +kernel
theorem dX12_bestPin_50 : decode cX12_bestPin 50 = .ok (.imul, 1) := by decide +kernel
theorem dX12_bestPin_51 : decode cX12_bestPin 51 = .ok (.if_icmp .ge 146, 3) := by decide +kernel
theorem dX12_bestPin_54 : decode cX12_bestPin 54 = .ok (.iload 6, 2) := by decide +kernel
theorem dX12_bestPin_56 : decode cX12_bestPin 56 = .ok (.bipush 10, 2) := by decide +kernel
theorem dX12_bestPin_58 : decode cX12_bestPin 58 = .ok (.idiv, 1) := by decide +kernel
theorem dX12_bestPin_59 : decode cX12_bestPin 59 = .ok (.bipush 10, 2) := by decide +kernel
theorem dX12_bestPin_61 : decode cX12_bestPin 61 = .ok (.irem, 1) := by decide +kernel
theorem dX12_bestPin_62 : decode cX12_bestPin 62 = .ok (.istore 7, 2) := by decide +kernel
theorem dX12_bestPin_64 : decode cX12_bestPin 64 = .ok (.iload 7, 2) := by decide +kernel
theorem dX12_bestPin_66 : decode cX12_bestPin 66 = .ok (.bipush 8, 2) := by decide +kernel
theorem dX12_bestPin_68 : decode cX12_bestPin 68 = .ok (.if_icmp .ge 37, 3) := by decide +kernel
theorem dX12_bestPin_71 : decode cX12_bestPin 71 = .ok (.iload 7, 2) := by decide +kernel
theorem dX12_bestPin_73 : decode cX12_bestPin 73 = .ok (.iconst 4, 1) := by decide +kernel
theorem dX12_bestPin_74 : decode cX12_bestPin 74 = .ok (.if_icmp .ne 8, 3) := by decide +kernel
theorem dX12_bestPin_77 : decode cX12_bestPin 77 = .ok (.iload_n 1, 1) := by decide +kernel
theorem dX12_bestPin_78 : decode cX12_bestPin 78 = .ok (.iconst 1, 1) := by decide +kernel
theorem dX12_bestPin_79 : decode cX12_bestPin 79 = .ok (.if_icmp .ne 26, 3) := by decide +kernel
theorem dX12_bestPin_82 : decode cX12_bestPin 82 = .ok (.aload_n 0, 1) := by decide +kernel
theorem dX12_bestPin_83 : decode cX12_bestPin 83 = .ok (.iload 7, 2) := by decide +kernel
theorem dX12_bestPin_85 : decode cX12_bestPin 85 = .ok (.iload 6, 2) := by decide +kernel
theorem dX12_bestPin_87 : decode cX12_bestPin 87 = .ok (.bipush 10, 2) := by decide +kernel
theorem dX12_bestPin_89 : decode cX12_bestPin 89 = .ok (.irem, 1) := by decide +kernel
theorem dX12_bestPin_90 : decode cX12_bestPin 90 = .ok (.iload 6, 2) := by decide +kernel
theorem dX12_bestPin_92 : decode cX12_bestPin 92 = .ok (.bipush 100, 2) := by decide +kernel
theorem dX12_bestPin_94 : decode cX12_bestPin 94 = .ok (.idiv, 1) := by decide +kernel
theorem dX12_bestPin_95 : decode cX12_bestPin 95 = .ok (.invokevirtual 169, 3) := by decide +kernel
theorem dX12_bestPin_98 : decode cX12_bestPin 98 = .ok (.ifCond .eq 7, 3) := by decide +kernel
theorem dX12_bestPin_101 : decode cX12_bestPin 101 = .ok (.iconst 1, 1) := by decide +kernel
theorem dX12_bestPin_102 : decode cX12_bestPin 102 = .ok (.goto 4, 3) := by decide +kernel
theorem dX12_bestPin_105 : decode cX12_bestPin 105 = .ok (.iconst 0, 1) := by decide +kernel
theorem dX12_bestPin_106 : decode cX12_bestPin 106 = .ok (.istore 8, 2) := by decide +kernel
theorem dX12_bestPin_108 : decode cX12_bestPin 108 = .ok (.iload 8, 2) := by decide +kernel
theorem dX12_bestPin_110 : decode cX12_bestPin 110 = .ok (.ifCond .eq 81, 3) := by decide +kernel
theorem dX12_bestPin_113 : decode cX12_bestPin 113 = .ok (.aload_n 0, 1) := by decide +kernel
theorem dX12_bestPin_114 : decode cX12_bestPin 114 = .ok (.invokevirtual 183, 3) := by decide +kernel
theorem dX12_bestPin_117 : decode cX12_bestPin 117 = .ok (.aload_n 0, 1) := by decide +kernel
theorem dX12_bestPin_118 : decode cX12_bestPin 118 = .ok (.iload 7, 2) := by decide +kernel
theorem dX12_bestPin_120 : decode cX12_bestPin 120 = .ok (.iload 6, 2) := by decide +kernel
theorem dX12_bestPin_122 : decode cX12_bestPin 122 = .ok (.bipush 10, 2) := by decide +kernel
theorem dX12_bestPin_124 : decode cX12_bestPin 124 = .ok (.irem, 1) := by decide +kernel
theorem dX12_bestPin_125 : decode cX12_bestPin 125 = .ok (.iload 6, 2) := by decide +kernel
theorem dX12_bestPin_127 : decode cX12_bestPin 127 = .ok (.bipush 100, 2) := by decide +kernel
theorem dX12_bestPin_129 : decode cX12_bestPin 129 = .ok (.idiv, 1) := by decide +kernel
theorem dX12_bestPin_130 : decode cX12_bestPin 130 = .ok (.invokevirtual 173, 3) := by decide +kernel
theorem dX12_bestPin_133 : decode cX12_bestPin 133 = .ok (.aload_n 0, 1) := by decide +kernel
theorem dX12_bestPin_134 : decode cX12_bestPin 134 = .ok (.invokevirtual 203, 3) := by decide +kernel
theorem dX12_bestPin_137 : decode cX12_bestPin 137 = .ok (.istore 9, 2) := by decide +kernel
theorem dX12_bestPin_139 : decode cX12_bestPin 139 = .ok (.aload_n 0, 1) := by decide +kernel
theorem dX12_bestPin_140 : decode cX12_bestPin 140 = .ok (.invokevirtual 189, 3) := by decide +kernel
theorem dX12_bestPin_143 : decode cX12_bestPin 143 = .ok (.iload 7, 2) := by decide +kernel
theorem dX12_bestPin_145 : decode cX12_bestPin 145 = .ok (.iload 6, 2) := by decide +kernel
theorem dX12_bestPin_147 : decode cX12_bestPin 147 = .ok (.bipush 10, 2) := by decide +kernel
theorem dX12_bestPin_149 : decode cX12_bestPin 149 = .ok (.irem, 1) := by decide +kernel
theorem dX12_bestPin_150 : decode cX12_bestPin 150 = .ok (.invokestatic 105, 3) := by decide +kernel
theorem dX12_bestPin_153 : decode cX12_bestPin 153 = .ok (.istore 10, 2) := by decide +kernel
theorem dX12_bestPin_155 : decode cX12_bestPin 155 = .ok (.iload 9, 2) := by decide +kernel
theorem dX12_bestPin_157 : decode cX12_bestPin 157 = .ok (.iload 4, 2) := by decide +kernel
theorem dX12_bestPin_159 : decode cX12_bestPin 159 = .ok (.if_icmp .lt 21, 3) := by decide +kernel
theorem dX12_bestPin_162 : decode cX12_bestPin 162 = .ok (.iload_n 3, 1) := by decide +kernel
theorem dX12_bestPin_163 : decode cX12_bestPin 163 = .ok (.ifCond .lt 28, 3) := by decide +kernel
theorem dX12_bestPin_166 : decode cX12_bestPin 166 = .ok (.iload 9, 2) := by decide +kernel
theorem dX12_bestPin_168 : decode cX12_bestPin 168 = .ok (.iload 4, 2) := by decide +kernel
theorem dX12_bestPin_170 : decode cX12_bestPin 170 = .ok (.if_icmp .ne 21, 3) := by decide +kernel
theorem dX12_bestPin_173 : decode cX12_bestPin 173 = .ok (.iload 10, 2) := by decide +kernel
theorem dX12_bestPin_175 : decode cX12_bestPin 175 = .ok (.iload 5, 2) := by decide +kernel
theorem dX12_bestPin_177 : decode cX12_bestPin 177 = .ok (.if_icmp .ge 14, 3) := by decide +kernel
theorem dX12_bestPin_180 : decode cX12_bestPin 180 = .ok (.iload 6, 2) := by decide +kernel
theorem dX12_bestPin_182 : decode cX12_bestPin 182 = .ok (.istore_n 3, 1) := by decide +kernel
theorem dX12_bestPin_183 : decode cX12_bestPin 183 = .ok (.iload 9, 2) := by decide +kernel
theorem dX12_bestPin_185 : decode cX12_bestPin 185 = .ok (.istore 4, 2) := by decide +kernel
theorem dX12_bestPin_187 : decode cX12_bestPin 187 = .ok (.iload 10, 2) := by decide +kernel
theorem dX12_bestPin_189 : decode cX12_bestPin 189 = .ok (.istore 5, 2) := by decide +kernel
theorem dX12_bestPin_191 : decode cX12_bestPin 191 = .ok (.iinc 6 1, 3) := by decide +kernel
theorem dX12_bestPin_194 : decode cX12_bestPin 194 = .ok (.goto (-152), 3) := by decide +kernel
theorem dX12_bestPin_197 : decode cX12_bestPin 197 = .ok (.iload_n 2, 1) := by decide +kernel
theorem dX12_bestPin_198 : decode cX12_bestPin 198 = .ok (.ifCond .ne 7, 3) := by decide +kernel
theorem dX12_bestPin_201 : decode cX12_bestPin 201 = .ok (.iload_n 3, 1) := by decide +kernel
theorem dX12_bestPin_202 : decode cX12_bestPin 202 = .ok (.goto 5, 3) := by decide +kernel
theorem dX12_bestPin_205 : decode cX12_bestPin 205 = .ok (.iload 4, 2) := by decide +kernel
theorem dX12_bestPin_207 : decode cX12_bestPin 207 = .ok (.ireturn, 1) := by decide +kernel
theorem dX12_wrongPins_0 : decode cX12_wrongPins 0 = .ok (.aload_n 0, 1) := by decide +kernel
theorem dX12_wrongPins_1 : decode cX12_wrongPins 1 = .ok (.iload_n 1, 1) := by decide +kernel
theorem dX12_wrongPins_2 : decode cX12_wrongPins 2 = .ok (.iconst 0, 1) := by decide +kernel
theorem dX12_wrongPins_3 : decode cX12_wrongPins 3 = .ok (.invokevirtual 177, 3) := by decide +kernel
theorem dX12_wrongPins_6 : decode cX12_wrongPins 6 = .ok (.istore_n 2, 1) := by decide +kernel
theorem dX12_wrongPins_7 : decode cX12_wrongPins 7 = .ok (.iload_n 2, 1) := by decide +kernel
theorem dX12_wrongPins_8 : decode cX12_wrongPins 8 = .ok (.ifCond .ge 5, 3) := by decide +kernel
theorem dX12_wrongPins_11 : decode cX12_wrongPins 11 = .ok (.iload_n 2, 1) := by decide +kernel
theorem dX12_wrongPins_12 : decode cX12_wrongPins 12 = .ok (.ireturn, 1) := by decide +kernel
theorem dX12_wrongPins_13 : decode cX12_wrongPins 13 = .ok (.aload_n 0, 1) := by decide +kernel
theorem dX12_wrongPins_14 : decode cX12_wrongPins 14 = .ok (.getfield 68, 3) := by decide +kernel
theorem dX12_wrongPins_17 : decode cX12_wrongPins 17 = .ok (.iload_n 1, 1) := by decide +kernel
theorem dX12_wrongPins_18 : decode cX12_wrongPins 18 = .ok (.iaload, 1) := by decide +kernel
theorem dX12_wrongPins_19 : decode cX12_wrongPins 19 = .ok (.iconst 3, 1) := by decide +kernel
theorem dX12_wrongPins_20 : decode cX12_wrongPins 20 = .ok (.irem, 1) := by decide +kernel
theorem dX12_wrongPins_21 : decode cX12_wrongPins 21 = .ok (.ifCond .ne 18, 3) := by decide +kernel
theorem dX12_wrongPins_24 : decode cX12_wrongPins 24 = .ok (.aload_n 0, 1) := by decide +kernel
theorem dX12_wrongPins_25 : decode cX12_wrongPins 25 = .ok (.getfield 68, 3) := by decide +kernel
theorem dX12_wrongPins_28 : decode cX12_wrongPins 28 = .ok (.iload_n 1, 1) := by decide +kernel
theorem dX12_wrongPins_29 : decode cX12_wrongPins 29 = .ok (.iaload, 1) := by decide +kernel
theorem dX12_wrongPins_30 : decode cX12_wrongPins 30 = .ok (.bipush 19, 2) := by decide +kernel
theorem dX12_wrongPins_32 : decode cX12_wrongPins 32 = .ok (.if_icmp .ge 7, 3) := by decide +kernel
theorem dX12_wrongPins_35 : decode cX12_wrongPins 35 = .ok (.iconst 1, 1) := by decide +kernel
theorem dX12_wrongPins_36 : decode cX12_wrongPins 36 = .ok (.goto 4, 3) := by decide +kernel
theorem dX12_wrongPins_39 : decode cX12_wrongPins 39 = .ok (.iconst 0, 1) := by decide +kernel
theorem dX12_wrongPins_40 : decode cX12_wrongPins 40 = .ok (.istore_n 3, 1) := by decide +kernel
theorem dX12_wrongPins_41 : decode cX12_wrongPins 41 = .ok (.iconst 0, 1) := by decide +kernel
theorem dX12_wrongPins_42 : decode cX12_wrongPins 42 = .ok (.istore 4, 2) := by decide +kernel
theorem dX12_wrongPins_44 : decode cX12_wrongPins 44 = .ok (.iload 4, 2) := by decide +kernel
theorem dX12_wrongPins_46 : decode cX12_wrongPins 46 = .ok (.aload_n 0, 1) := by decide +kernel
theorem dX12_wrongPins_47 : decode cX12_wrongPins 47 = .ok (.getfield 68, 3) := by decide +kernel
theorem dX12_wrongPins_50 : decode cX12_wrongPins 50 = .ok (.iload_n 1, 1) := by decide +kernel
theorem dX12_wrongPins_51 : decode cX12_wrongPins 51 = .ok (.iaload, 1) := by decide +kernel
theorem dX12_wrongPins_52 : decode cX12_wrongPins 52 = .ok (.if_icmp .ge 68, 3) := by decide +kernel
theorem dX12_wrongPins_55 : decode cX12_wrongPins 55 = .ok (.iload_n 3, 1) := by decide +kernel
theorem dX12_wrongPins_56 : decode cX12_wrongPins 56 = .ok (.ifCond .eq 64, 3) := by decide +kernel
theorem dX12_wrongPins_59 : decode cX12_wrongPins 59 = .ok (.aload_n 0, 1) := by decide +kernel
theorem dX12_wrongPins_60 : decode cX12_wrongPins 60 = .ok (.getfield 71, 3) := by decide +kernel
theorem dX12_wrongPins_63 : decode cX12_wrongPins 63 = .ok (.bipush 100, 2) := by decide +kernel
theorem dX12_wrongPins_65 : decode cX12_wrongPins 65 = .ok (.iload_n 1, 1) := by decide +kernel
theorem dX12_wrongPins_66 : decode cX12_wrongPins 66 = .ok (.imul, 1) := by decide +kernel
theorem dX12_wrongPins_67 : decode cX12_wrongPins 67 = .ok (.iload 4, 2) := by decide +kernel
theorem dX12_wrongPins_69 : decode cX12_wrongPins 69 = .ok (.iadd, 1) := by decide +kernel
theorem dX12_wrongPins_70 : decode cX12_wrongPins 70 = .ok (.laload, 1) := by decide +kernel
theorem dX12_wrongPins_71 : decode cX12_wrongPins 71 = .ok (.lstore 5, 2) := by decide +kernel
theorem dX12_wrongPins_73 : decode cX12_wrongPins 73 = .ok (.lload 5, 2) := by decide +kernel
theorem dX12_wrongPins_75 : decode cX12_wrongPins 75 = .ok (.lconst 0, 1) := by decide +kernel
theorem dX12_wrongPins_76 : decode cX12_wrongPins 76 = .ok (.iload 4, 2) := by decide +kernel
theorem dX12_wrongPins_78 : decode cX12_wrongPins 78 = .ok (.iconst 3, 1) := by decide +kernel
theorem dX12_wrongPins_79 : decode cX12_wrongPins 79 = .ok (.irem, 1) := by decide +kernel
theorem dX12_wrongPins_80 : decode cX12_wrongPins 80 = .ok (.ifCond .ne 9, 3) := by decide +kernel
theorem dX12_wrongPins_83 : decode cX12_wrongPins 83 = .ok (.ldc2_w 198, 3) := by decide +kernel
theorem dX12_wrongPins_86 : decode cX12_wrongPins 86 = .ok (.goto 24, 3) := by decide +kernel
theorem dX12_wrongPins_89 : decode cX12_wrongPins 89 = .ok (.iload 4, 2) := by decide +kernel
theorem dX12_wrongPins_91 : decode cX12_wrongPins 91 = .ok (.iconst 3, 1) := by decide +kernel
theorem dX12_wrongPins_92 : decode cX12_wrongPins 92 = .ok (.irem, 1) := by decide +kernel
theorem dX12_wrongPins_93 : decode cX12_wrongPins 93 = .ok (.iconst 1, 1) := by decide +kernel
theorem dX12_wrongPins_94 : decode cX12_wrongPins 94 = .ok (.if_icmp .ne 9, 3) := by decide +kernel
theorem dX12_wrongPins_97 : decode cX12_wrongPins 97 = .ok (.ldc2_w 194, 3) := by decide +kernel
theorem dX12_wrongPins_100 : decode cX12_wrongPins 100 = .ok (.goto 10, 3) := by decide +kernel
theorem dX12_wrongPins_103 : decode cX12_wrongPins 103 = .ok (.aload_n 0, 1) := by decide +kernel
theorem dX12_wrongPins_104 : decode cX12_wrongPins 104 = .ok (.getfield 81, 3) := by decide +kernel
theorem dX12_wrongPins_107 : decode cX12_wrongPins 107 = .ok (.iconst 1, 1) := by decide +kernel
theorem dX12_wrongPins_108 : decode cX12_wrongPins 108 = .ok (.isub, 1) := by decide +kernel
theorem dX12_wrongPins_109 : decode cX12_wrongPins 109 = .ok (.i2l, 1) := by decide +kernel
theorem dX12_wrongPins_110 : decode cX12_wrongPins 110 = .ok (.invokestatic 84, 3) := by decide +kernel
theorem dX12_wrongPins_113 : decode cX12_wrongPins 113 = .ok (.istore_n 3, 1) := by decide +kernel
theorem dX12_wrongPins_114 : decode cX12_wrongPins 114 = .ok (.iinc 4 1, 3) := by decide +kernel
theorem dX12_wrongPins_117 : decode cX12_wrongPins 117 = .ok (.goto (-73), 3) := by decide +kernel
theorem dX12_wrongPins_120 : decode cX12_wrongPins 120 = .ok (.iload_n 3, 1) := by decide +kernel
theorem dX12_wrongPins_121 : decode cX12_wrongPins 121 = .ok (.ifCond .eq 7, 3) := by decide +kernel
theorem dX12_wrongPins_124 : decode cX12_wrongPins 124 = .ok (.iconst 0, 1) := by decide +kernel
theorem dX12_wrongPins_125 : decode cX12_wrongPins 125 = .ok (.goto 5, 3) := by decide +kernel
theorem dX12_wrongPins_128 : decode cX12_wrongPins 128 = .ok (.bipush (-13), 2) := by decide +kernel
theorem dX12_wrongPins_130 : decode cX12_wrongPins 130 = .ok (.ireturn, 1) := by decide +kernel
theorem dX12_told_0 : decode cX12_told 0 = .ok (.aload_n 0, 1) := by decide +kernel
theorem dX12_told_1 : decode cX12_told 1 = .ok (.getfield 71, 3) := by decide +kernel
theorem dX12_told_4 : decode cX12_told 4 = .ok (.bipush 100, 2) := by decide +kernel
theorem dX12_told_6 : decode cX12_told 6 = .ok (.iload_n 1, 1) := by decide +kernel
theorem dX12_told_7 : decode cX12_told 7 = .ok (.imul, 1) := by decide +kernel
theorem dX12_told_8 : decode cX12_told 8 = .ok (.iload_n 2, 1) := by decide +kernel
theorem dX12_told_9 : decode cX12_told 9 = .ok (.iadd, 1) := by decide +kernel
theorem dX12_told_10 : decode cX12_told 10 = .ok (.laload, 1) := by decide +kernel
theorem dX12_told_11 : decode cX12_told 11 = .ok (.l2i, 1) := by decide +kernel
theorem dX12_told_12 : decode cX12_told 12 = .ok (.ireturn, 1) := by decide +kernel
theorem dX12_puts_0 : decode cX12_puts 0 = .ok (.aload_n 0, 1) := by decide +kernel
theorem dX12_puts_1 : decode cX12_puts 1 = .ok (.iload_n 1, 1) := by decide +kernel
theorem dX12_puts_2 : decode cX12_puts 2 = .ok (.iconst 3, 1) := by decide +kernel
theorem dX12_puts_3 : decode cX12_puts 3 = .ok (.iload_n 2, 1) := by decide +kernel
theorem dX12_puts_4 : decode cX12_puts 4 = .ok (.imul, 1) := by decide +kernel
theorem dX12_puts_5 : decode cX12_puts 5 = .ok (.invokevirtual 213, 3) := by decide +kernel
theorem dX12_puts_8 : decode cX12_puts 8 = .ok (.istore_n 3, 1) := by decide +kernel
theorem dX12_puts_9 : decode cX12_puts 9 = .ok (.aload_n 0, 1) := by decide +kernel
theorem dX12_puts_10 : decode cX12_puts 10 = .ok (.iload_n 1, 1) := by decide +kernel
theorem dX12_puts_11 : decode cX12_puts 11 = .ok (.iconst 3, 1) := by decide +kernel
theorem dX12_puts_12 : decode cX12_puts 12 = .ok (.iload_n 2, 1) := by decide +kernel
theorem dX12_puts_13 : decode cX12_puts 13 = .ok (.imul, 1) := by decide +kernel
theorem dX12_puts_14 : decode cX12_puts 14 = .ok (.iconst 1, 1) := by decide +kernel
theorem dX12_puts_15 : decode cX12_puts 15 = .ok (.iadd, 1) := by decide +kernel
theorem dX12_puts_16 : decode cX12_puts 16 = .ok (.invokevirtual 213, 3) := by decide +kernel
theorem dX12_puts_19 : decode cX12_puts 19 = .ok (.istore 4, 2) := by decide +kernel
theorem dX12_puts_21 : decode cX12_puts 21 = .ok (.aload_n 0, 1) := by decide +kernel
theorem dX12_puts_22 : decode cX12_puts 22 = .ok (.iload_n 1, 1) := by decide +kernel
theorem dX12_puts_23 : decode cX12_puts 23 = .ok (.iconst 3, 1) := by decide +kernel
theorem dX12_puts_24 : decode cX12_puts 24 = .ok (.iload_n 2, 1) := by decide +kernel
theorem dX12_puts_25 : decode cX12_puts 25 = .ok (.imul, 1) := by decide +kernel
theorem dX12_puts_26 : decode cX12_puts 26 = .ok (.iconst 2, 1) := by decide +kernel
theorem dX12_puts_27 : decode cX12_puts 27 = .ok (.iadd, 1) := by decide +kernel
theorem dX12_puts_28 : decode cX12_puts 28 = .ok (.invokevirtual 213, 3) := by decide +kernel
theorem dX12_puts_31 : decode cX12_puts 31 = .ok (.istore 5, 2) := by decide +kernel
theorem dX12_puts_33 : decode cX12_puts 33 = .ok (.aload_n 0, 1) := by decide +kernel
theorem dX12_puts_34 : decode cX12_puts 34 = .ok (.iload_n 3, 1) := by decide +kernel
theorem dX12_puts_35 : decode cX12_puts 35 = .ok (.iload 4, 2) := by decide +kernel
theorem dX12_puts_37 : decode cX12_puts 37 = .ok (.iload 5, 2) := by decide +kernel
theorem dX12_puts_39 : decode cX12_puts 39 = .ok (.invokevirtual 169, 3) := by decide +kernel
theorem dX12_puts_42 : decode cX12_puts 42 = .ok (.istore 6, 2) := by decide +kernel
theorem dX12_puts_44 : decode cX12_puts 44 = .ok (.iload 6, 2) := by decide +kernel
theorem dX12_puts_46 : decode cX12_puts 46 = .ok (.ifCond .eq 12, 3) := by decide +kernel
theorem dX12_puts_49 : decode cX12_puts 49 = .ok (.aload_n 0, 1) := by decide +kernel
theorem dX12_puts_50 : decode cX12_puts 50 = .ok (.iload_n 3, 1) := by decide +kernel
theorem dX12_puts_51 : decode cX12_puts 51 = .ok (.iload 4, 2) := by decide +kernel
theorem dX12_puts_53 : decode cX12_puts 53 = .ok (.iload 5, 2) := by decide +kernel
theorem dX12_puts_55 : decode cX12_puts 55 = .ok (.invokevirtual 173, 3) := by decide +kernel
theorem dX12_puts_58 : decode cX12_puts 58 = .ok (.iload 6, 2) := by decide +kernel
theorem dX12_puts_60 : decode cX12_puts 60 = .ok (.ireturn, 1) := by decide +kernel
theorem dX12_least_0 : decode cX12_least 0 = .ok (.aload_n 0, 1) := by decide +kernel
theorem dX12_least_1 : decode cX12_least 1 = .ok (.iconst 0, 1) := by decide +kernel
theorem dX12_least_2 : decode cX12_least 2 = .ok (.putfield 78, 3) := by decide +kernel
theorem dX12_least_5 : decode cX12_least 5 = .ok (.iload_n 2, 1) := by decide +kernel
theorem dX12_least_6 : decode cX12_least 6 = .ok (.i2l, 1) := by decide +kernel
theorem dX12_least_7 : decode cX12_least 7 = .ok (.lconst 0, 1) := by decide +kernel
theorem dX12_least_8 : decode cX12_least 8 = .ok (.lconst 1, 1) := by decide +kernel
theorem dX12_least_9 : decode cX12_least 9 = .ok (.invokestatic 84, 3) := by decide +kernel
theorem dX12_least_12 : decode cX12_least 12 = .ok (.ifCond .eq 11, 3) := by decide +kernel
theorem dX12_least_15 : decode cX12_least 15 = .ok (.aload_n 0, 1) := by decide +kernel
theorem dX12_least_16 : decode cX12_least 16 = .ok (.iload_n 1, 1) := by decide +kernel
theorem dX12_least_17 : decode cX12_least 17 = .ok (.invokevirtual 216, 3) := by decide +kernel
theorem dX12_least_20 : decode cX12_least 20 = .ok (.goto 4, 3) := by decide +kernel
theorem dX12_least_23 : decode cX12_least 23 = .ok (.iconst (-1), 1) := by decide +kernel
theorem dX12_least_24 : decode cX12_least 24 = .ok (.istore_n 3, 1) := by decide +kernel
theorem dX12_least_25 : decode cX12_least 25 = .ok (.iload_n 3, 1) := by decide +kernel
theorem dX12_least_26 : decode cX12_least 26 = .ok (.ifCond .ge 5, 3) := by decide +kernel
theorem dX12_least_29 : decode cX12_least 29 = .ok (.iload_n 3, 1) := by decide +kernel
theorem dX12_least_30 : decode cX12_least 30 = .ok (.ireturn, 1) := by decide +kernel
theorem dX12_least_31 : decode cX12_least 31 = .ok (.aload_n 0, 1) := by decide +kernel
theorem dX12_least_32 : decode cX12_least 32 = .ok (.getfield 68, 3) := by decide +kernel
theorem dX12_least_35 : decode cX12_least 35 = .ok (.iload_n 1, 1) := by decide +kernel
theorem dX12_least_36 : decode cX12_least 36 = .ok (.iaload, 1) := by decide +kernel
theorem dX12_least_37 : decode cX12_least 37 = .ok (.iconst 3, 1) := by decide +kernel
theorem dX12_least_38 : decode cX12_least 38 = .ok (.idiv, 1) := by decide +kernel
theorem dX12_least_39 : decode cX12_least 39 = .ok (.istore 4, 2) := by decide +kernel
theorem dX12_least_41 : decode cX12_least 41 = .ok (.iconst 0, 1) := by decide +kernel
theorem dX12_least_42 : decode cX12_least 42 = .ok (.istore 5, 2) := by decide +kernel
theorem dX12_least_44 : decode cX12_least 44 = .ok (.aload_n 0, 1) := by decide +kernel
theorem dX12_least_45 : decode cX12_least 45 = .ok (.invokevirtual 203, 3) := by decide +kernel
theorem dX12_least_48 : decode cX12_least 48 = .ok (.istore 6, 2) := by decide +kernel
theorem dX12_least_50 : decode cX12_least 50 = .ok (.iconst 0, 1) := by decide +kernel
theorem dX12_least_51 : decode cX12_least 51 = .ok (.istore 7, 2) := by decide +kernel
theorem dX12_least_53 : decode cX12_least 53 = .ok (.iconst 1, 1) := by decide +kernel
theorem dX12_least_54 : decode cX12_least 54 = .ok (.istore 8, 2) := by decide +kernel
theorem dX12_least_56 : decode cX12_least 56 = .ok (.iload 8, 2) := by decide +kernel
theorem dX12_least_58 : decode cX12_least 58 = .ok (.iconst 1, 1) := by decide +kernel
theorem dX12_least_59 : decode cX12_least 59 = .ok (.iload 4, 2) := by decide +kernel
theorem dX12_least_61 : decode cX12_least 61 = .ok (.ishl, 1) := by decide +kernel
theorem dX12_least_62 : decode cX12_least 62 = .ok (.if_icmp .ge 136, 3) := by decide +kernel
theorem dX12_least_65 : decode cX12_least 65 = .ok (.aload_n 0, 1) := by decide +kernel
theorem dX12_least_66 : decode cX12_least 66 = .ok (.invokevirtual 183, 3) := by decide +kernel
theorem dX12_least_69 : decode cX12_least 69 = .ok (.iconst 1, 1) := by decide +kernel
theorem dX12_least_70 : decode cX12_least 70 = .ok (.istore 9, 2) := by decide +kernel
theorem dX12_least_72 : decode cX12_least 72 = .ok (.iconst 0, 1) := by decide +kernel
theorem dX12_least_73 : decode cX12_least 73 = .ok (.istore 10, 2) := by decide +kernel
theorem dX12_least_75 : decode cX12_least 75 = .ok (.iconst 0, 1) := by decide +kernel
theorem dX12_least_76 : decode cX12_least 76 = .ok (.istore 11, 2) := by decide +kernel
theorem dX12_least_78 : decode cX12_least 78 = .ok (.iload 11, 2) := by decide +kernel
theorem dX12_least_80 : decode cX12_least 80 = .ok (.iload 4, 2) := by decide +kernel
theorem dX12_least_82 : decode cX12_least 82 = .ok (.if_icmp .ge 62, 3) := by decide +kernel
theorem dX12_least_85 : decode cX12_least 85 = .ok (.iload 9, 2) := by decide +kernel
theorem dX12_least_87 : decode cX12_least 87 = .ok (.ifCond .eq 57, 3) := by decide +kernel
theorem dX12_least_90 : decode cX12_least 90 = .ok (.iload 8, 2) := by decide +kernel
theorem dX12_least_92 : decode cX12_least 92 = .ok (.iload 11, 2) := by decide +kernel
theorem dX12_least_94 : decode cX12_least 94 = .ok (.ishr, 1) := by decide +kernel
theorem dX12_least_95 : decode cX12_least 95 = .ok (.iconst 1, 1) := by decide +kernel
theorem dX12_least_96 : decode cX12_least 96 = .ok (.iand, 1) := by decide +kernel
theorem dX12_least_97 : decode cX12_least 97 = .ok (.iconst 1, 1) := by decide +kernel
theorem dX12_least_98 : decode cX12_least 98 = .ok (.if_icmp .ne 40, 3) := by decide +kernel
theorem dX12_least_101 : decode cX12_least 101 = .ok (.iload 10, 2) := by decide +kernel
theorem dX12_least_103 : decode cX12_least 103 = .ok (.aload_n 0, 1) := by decide +kernel
theorem dX12_least_104 : decode cX12_least 104 = .ok (.iload_n 1, 1) := by decide +kernel
theorem dX12_least_105 : decode cX12_least 105 = .ok (.iconst 3, 1) := by decide +kernel
theorem dX12_least_106 : decode cX12_least 106 = .ok (.iload 11, 2) := by decide +kernel
theorem dX12_least_108 : decode cX12_least 108 = .ok (.imul, 1) := by decide +kernel
theorem dX12_least_109 : decode cX12_least 109 = .ok (.invokevirtual 213, 3) := by decide +kernel
theorem dX12_least_112 : decode cX12_least 112 = .ok (.aload_n 0, 1) := by decide +kernel
theorem dX12_least_113 : decode cX12_least 113 = .ok (.iload_n 1, 1) := by decide +kernel
theorem dX12_least_114 : decode cX12_least 114 = .ok (.iconst 3, 1) := by decide +kernel
theorem dX12_least_115 : decode cX12_least 115 = .ok (.iload 11, 2) := by decide +kernel
theorem dX12_least_117 : decode cX12_least 117 = .ok (.imul, 1) := by decide +kernel
theorem dX12_least_118 : decode cX12_least 118 = .ok (.iconst 1, 1) := by decide +kernel
theorem dX12_least_119 : decode cX12_least 119 = .ok (.iadd, 1) := by decide +kernel
theorem dX12_least_120 : decode cX12_least 120 = .ok (.invokevirtual 213, 3) := by decide +kernel
theorem dX12_least_123 : decode cX12_least 123 = .ok (.invokestatic 105, 3) := by decide +kernel
theorem dX12_least_126 : decode cX12_least 126 = .ok (.iadd, 1) := by decide +kernel
theorem dX12_least_127 : decode cX12_least 127 = .ok (.istore 10, 2) := by decide +kernel
theorem dX12_least_129 : decode cX12_least 129 = .ok (.aload_n 0, 1) := by decide +kernel
theorem dX12_least_130 : decode cX12_least 130 = .ok (.iload_n 1, 1) := by decide +kernel
theorem dX12_least_131 : decode cX12_least 131 = .ok (.iload 11, 2) := by decide +kernel
theorem dX12_least_133 : decode cX12_least 133 = .ok (.invokevirtual 219, 3) := by decide +kernel
theorem dX12_least_136 : decode cX12_least 136 = .ok (.istore 9, 2) := by decide +kernel
theorem dX12_least_138 : decode cX12_least 138 = .ok (.iinc 11 1, 3) := by decide +kernel
theorem dX12_least_141 : decode cX12_least 141 = .ok (.goto (-63), 3) := by decide +kernel
theorem dX12_least_144 : decode cX12_least 144 = .ok (.aload_n 0, 1) := by decide +kernel
theorem dX12_least_145 : decode cX12_least 145 = .ok (.invokevirtual 203, 3) := by decide +kernel
theorem dX12_least_148 : decode cX12_least 148 = .ok (.istore 11, 2) := by decide +kernel
theorem dX12_least_150 : decode cX12_least 150 = .ok (.aload_n 0, 1) := by decide +kernel
theorem dX12_least_151 : decode cX12_least 151 = .ok (.invokevirtual 189, 3) := by decide +kernel
theorem dX12_least_154 : decode cX12_least 154 = .ok (.iload 9, 2) := by decide +kernel
theorem dX12_least_156 : decode cX12_least 156 = .ok (.ifCond .eq 36, 3) := by decide +kernel
theorem dX12_least_159 : decode cX12_least 159 = .ok (.iload 11, 2) := by decide +kernel
theorem dX12_least_161 : decode cX12_least 161 = .ok (.iload 6, 2) := by decide +kernel
theorem dX12_least_163 : decode cX12_least 163 = .ok (.if_icmp .lt 17, 3) := by decide +kernel
theorem dX12_least_166 : decode cX12_least 166 = .ok (.iload 11, 2) := by decide +kernel
theorem dX12_least_168 : decode cX12_least 168 = .ok (.iload 6, 2) := by decide +kernel
theorem dX12_least_170 : decode cX12_least 170 = .ok (.if_icmp .ne 22, 3) := by decide +kernel
theorem dX12_least_173 : decode cX12_least 173 = .ok (.iload 10, 2) := by decide +kernel
theorem dX12_least_175 : decode cX12_least 175 = .ok (.iload 7, 2) := by decide +kernel
theorem dX12_least_177 : decode cX12_least 177 = .ok (.if_icmp .ge 15, 3) := by decide +kernel
theorem dX12_least_180 : decode cX12_least 180 = .ok (.iload 8, 2) := by decide +kernel
theorem dX12_least_182 : decode cX12_least 182 = .ok (.istore 5, 2) := by decide +kernel
theorem dX12_least_184 : decode cX12_least 184 = .ok (.iload 11, 2) := by decide +kernel
theorem dX12_least_186 : decode cX12_least 186 = .ok (.istore 6, 2) := by decide +kernel
theorem dX12_least_188 : decode cX12_least 188 = .ok (.iload 10, 2) := by decide +kernel
theorem dX12_least_190 : decode cX12_least 190 = .ok (.istore 7, 2) := by decide +kernel
theorem dX12_least_192 : decode cX12_least 192 = .ok (.iinc 8 1, 3) := by decide +kernel
theorem dX12_least_195 : decode cX12_least 195 = .ok (.goto (-139), 3) := by decide +kernel
theorem dX12_least_198 : decode cX12_least 198 = .ok (.iload_n 2, 1) := by decide +kernel
theorem dX12_least_199 : decode cX12_least 199 = .ok (.ifCond .ne 8, 3) := by decide +kernel
theorem dX12_least_202 : decode cX12_least 202 = .ok (.iload 5, 2) := by decide +kernel
theorem dX12_least_204 : decode cX12_least 204 = .ok (.goto 5, 3) := by decide +kernel
theorem dX12_least_207 : decode cX12_least 207 = .ok (.iload 6, 2) := by decide +kernel
theorem dX12_least_209 : decode cX12_least 209 = .ok (.ireturn, 1) := by decide +kernel
theorem dX12_first_0 : decode cX12_first 0 = .ok (.aload_n 0, 1) := by decide +kernel
theorem dX12_first_1 : decode cX12_first 1 = .ok (.iconst 0, 1) := by decide +kernel
theorem dX12_first_2 : decode cX12_first 2 = .ok (.putfield 78, 3) := by decide +kernel
theorem dX12_first_5 : decode cX12_first 5 = .ok (.aload_n 0, 1) := by decide +kernel
theorem dX12_first_6 : decode cX12_first 6 = .ok (.iload_n 1, 1) := by decide +kernel
theorem dX12_first_7 : decode cX12_first 7 = .ok (.invokevirtual 216, 3) := by decide +kernel
theorem dX12_first_10 : decode cX12_first 10 = .ok (.istore_n 2, 1) := by decide +kernel
theorem dX12_first_11 : decode cX12_first 11 = .ok (.iload_n 2, 1) := by decide +kernel
theorem dX12_first_12 : decode cX12_first 12 = .ok (.ifCond .ge 5, 3) := by decide +kernel
theorem dX12_first_15 : decode cX12_first 15 = .ok (.iload_n 2, 1) := by decide +kernel
theorem dX12_first_16 : decode cX12_first 16 = .ok (.ireturn, 1) := by decide +kernel
theorem dX12_first_17 : decode cX12_first 17 = .ok (.aload_n 0, 1) := by decide +kernel
theorem dX12_first_18 : decode cX12_first 18 = .ok (.invokevirtual 183, 3) := by decide +kernel
theorem dX12_first_21 : decode cX12_first 21 = .ok (.bipush (-4), 2) := by decide +kernel
theorem dX12_first_23 : decode cX12_first 23 = .ok (.istore_n 3, 1) := by decide +kernel
theorem dX12_first_24 : decode cX12_first 24 = .ok (.iconst 0, 1) := by decide +kernel
theorem dX12_first_25 : decode cX12_first 25 = .ok (.istore 4, 2) := by decide +kernel
theorem dX12_first_27 : decode cX12_first 27 = .ok (.iload 4, 2) := by decide +kernel
theorem dX12_first_29 : decode cX12_first 29 = .ok (.aload_n 0, 1) := by decide +kernel
theorem dX12_first_30 : decode cX12_first 30 = .ok (.getfield 68, 3) := by decide +kernel
theorem dX12_first_33 : decode cX12_first 33 = .ok (.iload_n 1, 1) := by decide +kernel
theorem dX12_first_34 : decode cX12_first 34 = .ok (.iaload, 1) := by decide +kernel
theorem dX12_first_35 : decode cX12_first 35 = .ok (.iconst 3, 1) := by decide +kernel
theorem dX12_first_36 : decode cX12_first 36 = .ok (.idiv, 1) := by decide +kernel
theorem dX12_first_37 : decode cX12_first 37 = .ok (.if_icmp .ge 31, 3) := by decide +kernel
theorem dX12_first_40 : decode cX12_first 40 = .ok (.iload_n 3, 1) := by decide +kernel
theorem dX12_first_41 : decode cX12_first 41 = .ok (.ifCond .ge 27, 3) := by decide +kernel
theorem dX12_first_44 : decode cX12_first 44 = .ok (.aload_n 0, 1) := by decide +kernel
theorem dX12_first_45 : decode cX12_first 45 = .ok (.iload_n 1, 1) := by decide +kernel
theorem dX12_first_46 : decode cX12_first 46 = .ok (.iload 4, 2) := by decide +kernel
theorem dX12_first_48 : decode cX12_first 48 = .ok (.invokevirtual 219, 3) := by decide +kernel
theorem dX12_first_51 : decode cX12_first 51 = .ok (.ifCond .eq 8, 3) := by decide +kernel
theorem dX12_first_54 : decode cX12_first 54 = .ok (.bipush (-4), 2) := by decide +kernel
theorem dX12_first_56 : decode cX12_first 56 = .ok (.goto 5, 3) := by decide +kernel
theorem dX12_first_59 : decode cX12_first 59 = .ok (.iload 4, 2) := by decide +kernel
theorem dX12_first_61 : decode cX12_first 61 = .ok (.istore_n 3, 1) := by decide +kernel
theorem dX12_first_62 : decode cX12_first 62 = .ok (.iinc 4 1, 3) := by decide +kernel
theorem dX12_first_65 : decode cX12_first 65 = .ok (.goto (-38), 3) := by decide +kernel
theorem dX12_first_68 : decode cX12_first 68 = .ok (.aload_n 0, 1) := by decide +kernel
theorem dX12_first_69 : decode cX12_first 69 = .ok (.invokevirtual 189, 3) := by decide +kernel
theorem dX12_first_72 : decode cX12_first 72 = .ok (.iload_n 3, 1) := by decide +kernel
theorem dX12_first_73 : decode cX12_first 73 = .ok (.ireturn, 1) := by decide +kernel
theorem dX12_power_0 : decode cX12_power 0 = .ok (.iconst 1, 1) := by decide +kernel
theorem dX12_power_1 : decode cX12_power 1 = .ok (.istore_n 2, 1) := by decide +kernel
theorem dX12_power_2 : decode cX12_power 2 = .ok (.iconst 0, 1) := by decide +kernel
theorem dX12_power_3 : decode cX12_power 3 = .ok (.istore_n 3, 1) := by decide +kernel
theorem dX12_power_4 : decode cX12_power 4 = .ok (.iload_n 3, 1) := by decide +kernel
theorem dX12_power_5 : decode cX12_power 5 = .ok (.iload_n 1, 1) := by decide +kernel
theorem dX12_power_6 : decode cX12_power 6 = .ok (.if_icmp .ge 13, 3) := by decide +kernel
theorem dX12_power_9 : decode cX12_power 9 = .ok (.iload_n 2, 1) := by decide +kernel
theorem dX12_power_10 : decode cX12_power 10 = .ok (.iload_n 1, 1) := by decide +kernel
theorem dX12_power_11 : decode cX12_power 11 = .ok (.imul, 1) := by decide +kernel
theorem dX12_power_12 : decode cX12_power 12 = .ok (.istore_n 2, 1) := by decide +kernel
theorem dX12_power_13 : decode cX12_power 13 = .ok (.iinc 3 1, 3) := by decide +kernel
theorem dX12_power_16 : decode cX12_power 16 = .ok (.goto (-12), 3) := by decide +kernel
theorem dX12_power_19 : decode cX12_power 19 = .ok (.iload_n 2, 1) := by decide +kernel
theorem dX12_power_20 : decode cX12_power 20 = .ok (.ireturn, 1) := by decide +kernel
theorem dX12_orders_0 : decode cX12_orders 0 = .ok (.aload_n 0, 1) := by decide +kernel
theorem dX12_orders_1 : decode cX12_orders 1 = .ok (.iconst 0, 1) := by decide +kernel
theorem dX12_orders_2 : decode cX12_orders 2 = .ok (.putfield 78, 3) := by decide +kernel
theorem dX12_orders_5 : decode cX12_orders 5 = .ok (.iload_n 2, 1) := by decide +kernel
theorem dX12_orders_6 : decode cX12_orders 6 = .ok (.i2l, 1) := by decide +kernel
theorem dX12_orders_7 : decode cX12_orders 7 = .ok (.lconst 0, 1) := by decide +kernel
theorem dX12_orders_8 : decode cX12_orders 8 = .ok (.lconst 1, 1) := by decide +kernel
theorem dX12_orders_9 : decode cX12_orders 9 = .ok (.invokestatic 84, 3) := by decide +kernel
theorem dX12_orders_12 : decode cX12_orders 12 = .ok (.ifCond .eq 11, 3) := by decide +kernel
theorem dX12_orders_15 : decode cX12_orders 15 = .ok (.aload_n 0, 1) := by decide +kernel
theorem dX12_orders_16 : decode cX12_orders 16 = .ok (.iload_n 1, 1) := by decide +kernel
theorem dX12_orders_17 : decode cX12_orders 17 = .ok (.invokevirtual 216, 3) := by decide +kernel
theorem dX12_orders_20 : decode cX12_orders 20 = .ok (.goto 4, 3) := by decide +kernel
theorem dX12_orders_23 : decode cX12_orders 23 = .ok (.iconst (-1), 1) := by decide +kernel
theorem dX12_orders_24 : decode cX12_orders 24 = .ok (.istore_n 3, 1) := by decide +kernel
theorem dX12_orders_25 : decode cX12_orders 25 = .ok (.iload_n 3, 1) := by decide +kernel
theorem dX12_orders_26 : decode cX12_orders 26 = .ok (.ifCond .ge 5, 3) := by decide +kernel
theorem dX12_orders_29 : decode cX12_orders 29 = .ok (.iload_n 3, 1) := by decide +kernel
theorem dX12_orders_30 : decode cX12_orders 30 = .ok (.ireturn, 1) := by decide +kernel
theorem dX12_orders_31 : decode cX12_orders 31 = .ok (.aload_n 0, 1) := by decide +kernel
theorem dX12_orders_32 : decode cX12_orders 32 = .ok (.getfield 68, 3) := by decide +kernel
theorem dX12_orders_35 : decode cX12_orders 35 = .ok (.iload_n 1, 1) := by decide +kernel
theorem dX12_orders_36 : decode cX12_orders 36 = .ok (.iaload, 1) := by decide +kernel
theorem dX12_orders_37 : decode cX12_orders 37 = .ok (.iconst 3, 1) := by decide +kernel
theorem dX12_orders_38 : decode cX12_orders 38 = .ok (.idiv, 1) := by decide +kernel
theorem dX12_orders_39 : decode cX12_orders 39 = .ok (.istore 4, 2) := by decide +kernel
theorem dX12_orders_41 : decode cX12_orders 41 = .ok (.iload 4, 2) := by decide +kernel
theorem dX12_orders_43 : decode cX12_orders 43 = .ok (.iconst 5, 1) := by decide +kernel
theorem dX12_orders_44 : decode cX12_orders 44 = .ok (.if_icmp .le 6, 3) := by decide +kernel
theorem dX12_orders_47 : decode cX12_orders 47 = .ok (.bipush (-2), 2) := by decide +kernel
theorem dX12_orders_49 : decode cX12_orders 49 = .ok (.ireturn, 1) := by decide +kernel
theorem dX12_orders_50 : decode cX12_orders 50 = .ok (.iconst 0, 1) := by decide +kernel
theorem dX12_orders_51 : decode cX12_orders 51 = .ok (.istore 5, 2) := by decide +kernel
theorem dX12_orders_53 : decode cX12_orders 53 = .ok (.bipush (-4), 2) := by decide +kernel
theorem dX12_orders_55 : decode cX12_orders 55 = .ok (.istore 6, 2) := by decide +kernel
theorem dX12_orders_57 : decode cX12_orders 57 = .ok (.iconst 0, 1) := by decide +kernel
theorem dX12_orders_58 : decode cX12_orders 58 = .ok (.istore 7, 2) := by decide +kernel
theorem dX12_orders_60 : decode cX12_orders 60 = .ok (.iload 7, 2) := by decide +kernel
theorem dX12_orders_62 : decode cX12_orders 62 = .ok (.aload_n 0, 1) := by decide +kernel
theorem dX12_orders_63 : decode cX12_orders 63 = .ok (.iload 4, 2) := by decide +kernel
theorem dX12_orders_65 : decode cX12_orders 65 = .ok (.invokevirtual 222, 3) := by decide +kernel
theorem dX12_orders_68 : decode cX12_orders 68 = .ok (.if_icmp .ge 133, 3) := by decide +kernel
theorem dX12_orders_71 : decode cX12_orders 71 = .ok (.aload_n 0, 1) := by decide +kernel
theorem dX12_orders_72 : decode cX12_orders 72 = .ok (.invokevirtual 183, 3) := by decide +kernel
theorem dX12_orders_75 : decode cX12_orders 75 = .ok (.iconst 0, 1) := by decide +kernel
theorem dX12_orders_76 : decode cX12_orders 76 = .ok (.istore 8, 2) := by decide +kernel
theorem dX12_orders_78 : decode cX12_orders 78 = .ok (.iload 7, 2) := by decide +kernel
theorem dX12_orders_80 : decode cX12_orders 80 = .ok (.istore 9, 2) := by decide +kernel
theorem dX12_orders_82 : decode cX12_orders 82 = .ok (.iconst 1, 1) := by decide +kernel
theorem dX12_orders_83 : decode cX12_orders 83 = .ok (.istore 10, 2) := by decide +kernel
theorem dX12_orders_85 : decode cX12_orders 85 = .ok (.iconst 0, 1) := by decide +kernel
theorem dX12_orders_86 : decode cX12_orders 86 = .ok (.istore 11, 2) := by decide +kernel
theorem dX12_orders_88 : decode cX12_orders 88 = .ok (.iload 11, 2) := by decide +kernel
theorem dX12_orders_90 : decode cX12_orders 90 = .ok (.iload 4, 2) := by decide +kernel
theorem dX12_orders_92 : decode cX12_orders 92 = .ok (.if_icmp .ge 64, 3) := by decide +kernel
theorem dX12_orders_95 : decode cX12_orders 95 = .ok (.iload 10, 2) := by decide +kernel
theorem dX12_orders_97 : decode cX12_orders 97 = .ok (.ifCond .eq 59, 3) := by decide +kernel
theorem dX12_orders_100 : decode cX12_orders 100 = .ok (.iload 9, 2) := by decide +kernel
theorem dX12_orders_102 : decode cX12_orders 102 = .ok (.iload 4, 2) := by decide +kernel
theorem dX12_orders_104 : decode cX12_orders 104 = .ok (.irem, 1) := by decide +kernel
theorem dX12_orders_105 : decode cX12_orders 105 = .ok (.istore 12, 2) := by decide +kernel
theorem dX12_orders_107 : decode cX12_orders 107 = .ok (.iload 9, 2) := by decide +kernel
theorem dX12_orders_109 : decode cX12_orders 109 = .ok (.iload 4, 2) := by decide +kernel
theorem dX12_orders_111 : decode cX12_orders 111 = .ok (.idiv, 1) := by decide +kernel
theorem dX12_orders_112 : decode cX12_orders 112 = .ok (.istore 9, 2) := by decide +kernel
theorem dX12_orders_114 : decode cX12_orders 114 = .ok (.iload 8, 2) := by decide +kernel
theorem dX12_orders_116 : decode cX12_orders 116 = .ok (.iload 12, 2) := by decide +kernel
theorem dX12_orders_118 : decode cX12_orders 118 = .ok (.ishr, 1) := by decide +kernel
theorem dX12_orders_119 : decode cX12_orders 119 = .ok (.iconst 1, 1) := by decide +kernel
theorem dX12_orders_120 : decode cX12_orders 120 = .ok (.iand, 1) := by decide +kernel
theorem dX12_orders_121 : decode cX12_orders 121 = .ok (.ifCond .ne 17, 3) := by decide +kernel
theorem dX12_orders_124 : decode cX12_orders 124 = .ok (.aload_n 0, 1) := by decide +kernel
theorem dX12_orders_125 : decode cX12_orders 125 = .ok (.iload_n 1, 1) := by decide +kernel
theorem dX12_orders_126 : decode cX12_orders 126 = .ok (.iload 12, 2) := by decide +kernel
theorem dX12_orders_128 : decode cX12_orders 128 = .ok (.invokevirtual 219, 3) := by decide +kernel
theorem dX12_orders_131 : decode cX12_orders 131 = .ok (.ifCond .eq 7, 3) := by decide +kernel
theorem dX12_orders_134 : decode cX12_orders 134 = .ok (.iconst 1, 1) := by decide +kernel
theorem dX12_orders_135 : decode cX12_orders 135 = .ok (.goto 4, 3) := by decide +kernel
theorem dX12_orders_138 : decode cX12_orders 138 = .ok (.iconst 0, 1) := by decide +kernel
theorem dX12_orders_139 : decode cX12_orders 139 = .ok (.istore 10, 2) := by decide +kernel
theorem dX12_orders_141 : decode cX12_orders 141 = .ok (.iload 8, 2) := by decide +kernel
theorem dX12_orders_143 : decode cX12_orders 143 = .ok (.iconst 1, 1) := by decide +kernel
theorem dX12_orders_144 : decode cX12_orders 144 = .ok (.iload 12, 2) := by decide +kernel
theorem dX12_orders_146 : decode cX12_orders 146 = .ok (.ishl, 1) := by decide +kernel
theorem dX12_orders_147 : decode cX12_orders 147 = .ok (.ior, 1) := by decide +kernel
theorem dX12_orders_148 : decode cX12_orders 148 = .ok (.istore 8, 2) := by decide +kernel
theorem dX12_orders_150 : decode cX12_orders 150 = .ok (.iinc 11 1, 3) := by decide +kernel
theorem dX12_orders_153 : decode cX12_orders 153 = .ok (.goto (-65), 3) := by decide +kernel
theorem dX12_orders_156 : decode cX12_orders 156 = .ok (.aload_n 0, 1) := by decide +kernel
theorem dX12_orders_157 : decode cX12_orders 157 = .ok (.invokevirtual 203, 3) := by decide +kernel
theorem dX12_orders_160 : decode cX12_orders 160 = .ok (.istore 11, 2) := by decide +kernel
theorem dX12_orders_162 : decode cX12_orders 162 = .ok (.aload_n 0, 1) := by decide +kernel
theorem dX12_orders_163 : decode cX12_orders 163 = .ok (.invokevirtual 189, 3) := by decide +kernel
theorem dX12_orders_166 : decode cX12_orders 166 = .ok (.iload 10, 2) := by decide +kernel
theorem dX12_orders_168 : decode cX12_orders 168 = .ok (.ifCond .eq 27, 3) := by decide +kernel
theorem dX12_orders_171 : decode cX12_orders 171 = .ok (.iinc 5 1, 3) := by decide +kernel
theorem dX12_orders_174 : decode cX12_orders 174 = .ok (.iload 6, 2) := by decide +kernel
theorem dX12_orders_176 : decode cX12_orders 176 = .ok (.ifCond .lt 10, 3) := by decide +kernel
theorem dX12_orders_179 : decode cX12_orders 179 = .ok (.iload 11, 2) := by decide +kernel
theorem dX12_orders_181 : decode cX12_orders 181 = .ok (.iload 6, 2) := by decide +kernel
theorem dX12_orders_183 : decode cX12_orders 183 = .ok (.if_icmp .ge 8, 3) := by decide +kernel
theorem dX12_orders_186 : decode cX12_orders 186 = .ok (.iload 11, 2) := by decide +kernel
theorem dX12_orders_188 : decode cX12_orders 188 = .ok (.goto 5, 3) := by decide +kernel
theorem dX12_orders_191 : decode cX12_orders 191 = .ok (.iload 6, 2) := by decide +kernel
theorem dX12_orders_193 : decode cX12_orders 193 = .ok (.istore 6, 2) := by decide +kernel
theorem dX12_orders_195 : decode cX12_orders 195 = .ok (.iinc 7 1, 3) := by decide +kernel
theorem dX12_orders_198 : decode cX12_orders 198 = .ok (.goto (-138), 3) := by decide +kernel
theorem dX12_orders_201 : decode cX12_orders 201 = .ok (.iload_n 2, 1) := by decide +kernel
theorem dX12_orders_202 : decode cX12_orders 202 = .ok (.ifCond .ne 8, 3) := by decide +kernel
theorem dX12_orders_205 : decode cX12_orders 205 = .ok (.iload 5, 2) := by decide +kernel
theorem dX12_orders_207 : decode cX12_orders 207 = .ok (.goto 5, 3) := by decide +kernel
theorem dX12_orders_210 : decode cX12_orders 210 = .ok (.iload 6, 2) := by decide +kernel
theorem dX12_orders_212 : decode cX12_orders 212 = .ok (.ireturn, 1) := by decide +kernel
theorem dX12_hem_0 : decode cX12_hem 0 = .ok (.aload_n 0, 1) := by decide +kernel
theorem dX12_hem_1 : decode cX12_hem 1 = .ok (.iconst 0, 1) := by decide +kernel
theorem dX12_hem_2 : decode cX12_hem 2 = .ok (.putfield 78, 3) := by decide +kernel
theorem dX12_hem_5 : decode cX12_hem 5 = .ok (.iload_n 1, 1) := by decide +kernel
theorem dX12_hem_6 : decode cX12_hem 6 = .ok (.i2l, 1) := by decide +kernel
theorem dX12_hem_7 : decode cX12_hem 7 = .ok (.lconst 1, 1) := by decide +kernel
theorem dX12_hem_8 : decode cX12_hem 8 = .ok (.ldc2_w 225, 3) := by decide +kernel
theorem dX12_hem_11 : decode cX12_hem 11 = .ok (.invokestatic 84, 3) := by decide +kernel
theorem dX12_hem_14 : decode cX12_hem 14 = .ok (.ifCond .eq 27, 3) := by decide +kernel
theorem dX12_hem_17 : decode cX12_hem 17 = .ok (.iload_n 2, 1) := by decide +kernel
theorem dX12_hem_18 : decode cX12_hem 18 = .ok (.i2l, 1) := by decide +kernel
theorem dX12_hem_19 : decode cX12_hem 19 = .ok (.lconst 0, 1) := by decide +kernel
theorem dX12_hem_20 : decode cX12_hem 20 = .ok (.ldc2_w 225, 3) := by decide +kernel
theorem dX12_hem_23 : decode cX12_hem 23 = .ok (.invokestatic 84, 3) := by decide +kernel
theorem dX12_hem_26 : decode cX12_hem 26 = .ok (.ifCond .eq 15, 3) := by decide +kernel
theorem dX12_hem_29 : decode cX12_hem 29 = .ok (.iload_n 3, 1) := by decide +kernel
theorem dX12_hem_30 : decode cX12_hem 30 = .ok (.i2l, 1) := by decide +kernel
theorem dX12_hem_31 : decode cX12_hem 31 = .ok (.lconst 0, 1) := by decide +kernel
theorem dX12_hem_32 : decode cX12_hem 32 = .ok (.ldc2_w 227, 3) := by decide +kernel
theorem dX12_hem_35 : decode cX12_hem 35 = .ok (.invokestatic 84, 3) := by decide +kernel
theorem dX12_hem_38 : decode cX12_hem 38 = .ok (.ifCond .ne 5, 3) := by decide +kernel
theorem dX12_hem_41 : decode cX12_hem 41 = .ok (.iconst (-1), 1) := by decide +kernel
theorem dX12_hem_42 : decode cX12_hem 42 = .ok (.ireturn, 1) := by decide +kernel
theorem dX12_hem_43 : decode cX12_hem 43 = .ok (.iload_n 1, 1) := by decide +kernel
theorem dX12_hem_44 : decode cX12_hem 44 = .ok (.istore 4, 2) := by decide +kernel
theorem dX12_hem_46 : decode cX12_hem 46 = .ok (.iconst 0, 1) := by decide +kernel
theorem dX12_hem_47 : decode cX12_hem 47 = .ok (.istore 5, 2) := by decide +kernel
theorem dX12_hem_49 : decode cX12_hem 49 = .ok (.iload 5, 2) := by decide +kernel
theorem dX12_hem_51 : decode cX12_hem 51 = .ok (.iload_n 3, 1) := by decide +kernel
theorem dX12_hem_52 : decode cX12_hem 52 = .ok (.if_icmp .ge 26, 3) := by decide +kernel
theorem dX12_hem_55 : decode cX12_hem 55 = .ok (.iload 4, 2) := by decide +kernel
theorem dX12_hem_57 : decode cX12_hem 57 = .ok (.iload_n 2, 1) := by decide +kernel
theorem dX12_hem_58 : decode cX12_hem 58 = .ok (.iload 4, 2) := by decide +kernel
theorem dX12_hem_60 : decode cX12_hem 60 = .ok (.imul, 1) := by decide +kernel
theorem dX12_hem_61 : decode cX12_hem 61 = .ok (.bipush 100, 2) := by decide +kernel
theorem dX12_hem_63 : decode cX12_hem 63 = .ok (.idiv, 1) := by decide +kernel
theorem dX12_hem_64 : decode cX12_hem 64 = .ok (.iadd, 1) := by decide +kernel
theorem dX12_hem_65 : decode cX12_hem 65 = .ok (.bipush 99, 2) := by decide +kernel
theorem dX12_hem_67 : decode cX12_hem 67 = .ok (.invokestatic 95, 3) := by decide +kernel
theorem dX12_hem_70 : decode cX12_hem 70 = .ok (.istore 4, 2) := by decide +kernel
theorem dX12_hem_72 : decode cX12_hem 72 = .ok (.iinc 5 1, 3) := by decide +kernel
theorem dX12_hem_75 : decode cX12_hem 75 = .ok (.goto (-26), 3) := by decide +kernel
theorem dX12_hem_78 : decode cX12_hem 78 = .ok (.iload 4, 2) := by decide +kernel
theorem dX12_hem_80 : decode cX12_hem 80 = .ok (.ireturn, 1) := by decide +kernel
theorem dX12_darts_0 : decode cX12_darts 0 = .ok (.aload_n 0, 1) := by decide +kernel
theorem dX12_darts_1 : decode cX12_darts 1 = .ok (.iconst 0, 1) := by decide +kernel
theorem dX12_darts_2 : decode cX12_darts 2 = .ok (.putfield 78, 3) := by decide +kernel
theorem dX12_darts_5 : decode cX12_darts 5 = .ok (.iload_n 1, 1) := by decide +kernel
theorem dX12_darts_6 : decode cX12_darts 6 = .ok (.i2l, 1) := by decide +kernel
theorem dX12_darts_7 : decode cX12_darts 7 = .ok (.lconst 0, 1) := by decide +kernel
theorem dX12_darts_8 : decode cX12_darts 8 = .ok (.ldc2_w 225, 3) := by decide +kernel
theorem dX12_darts_11 : decode cX12_darts 11 = .ok (.invokestatic 84, 3) := by decide +kernel
theorem dX12_darts_14 : decode cX12_darts 14 = .ok (.ifCond .eq 40, 3) := by decide +kernel
theorem dX12_darts_17 : decode cX12_darts 17 = .ok (.iload_n 2, 1) := by decide +kernel
theorem dX12_darts_18 : decode cX12_darts 18 = .ok (.i2l, 1) := by decide +kernel
theorem dX12_darts_19 : decode cX12_darts 19 = .ok (.lconst 1, 1) := by decide +kernel
theorem dX12_darts_20 : decode cX12_darts 20 = .ok (.ldc2_w 225, 3) := by decide +kernel
theorem dX12_darts_23 : decode cX12_darts 23 = .ok (.invokestatic 84, 3) := by decide +kernel
theorem dX12_darts_26 : decode cX12_darts 26 = .ok (.ifCond .eq 28, 3) := by decide +kernel
theorem dX12_darts_29 : decode cX12_darts 29 = .ok (.iload_n 3, 1) := by decide +kernel
theorem dX12_darts_30 : decode cX12_darts 30 = .ok (.i2l, 1) := by decide +kernel
theorem dX12_darts_31 : decode cX12_darts 31 = .ok (.lconst 0, 1) := by decide +kernel
theorem dX12_darts_32 : decode cX12_darts 32 = .ok (.ldc2_w 225, 3) := by decide +kernel
theorem dX12_darts_35 : decode cX12_darts 35 = .ok (.invokestatic 84, 3) := by decide +kernel
theorem dX12_darts_38 : decode cX12_darts 38 = .ok (.ifCond .eq 16, 3) := by decide +kernel
theorem dX12_darts_41 : decode cX12_darts 41 = .ok (.iload 4, 2) := by decide +kernel
theorem dX12_darts_43 : decode cX12_darts 43 = .ok (.i2l, 1) := by decide +kernel
theorem dX12_darts_44 : decode cX12_darts 44 = .ok (.lconst 1, 1) := by decide +kernel
theorem dX12_darts_45 : decode cX12_darts 45 = .ok (.ldc2_w 225, 3) := by decide +kernel
theorem dX12_darts_48 : decode cX12_darts 48 = .ok (.invokestatic 84, 3) := by decide +kernel
theorem dX12_darts_51 : decode cX12_darts 51 = .ok (.ifCond .ne 5, 3) := by decide +kernel
theorem dX12_darts_54 : decode cX12_darts 54 = .ok (.iconst (-1), 1) := by decide +kernel
theorem dX12_darts_55 : decode cX12_darts 55 = .ok (.ireturn, 1) := by decide +kernel
theorem dX12_darts_56 : decode cX12_darts 56 = .ok (.iload_n 1, 1) := by decide +kernel
theorem dX12_darts_57 : decode cX12_darts 57 = .ok (.iload 4, 2) := by decide +kernel
theorem dX12_darts_59 : decode cX12_darts 59 = .ok (.imul, 1) := by decide +kernel
theorem dX12_darts_60 : decode cX12_darts 60 = .ok (.iload_n 3, 1) := by decide +kernel
theorem dX12_darts_61 : decode cX12_darts 61 = .ok (.iload_n 2, 1) := by decide +kernel
theorem dX12_darts_62 : decode cX12_darts 62 = .ok (.imul, 1) := by decide +kernel
theorem dX12_darts_63 : decode cX12_darts 63 = .ok (.if_icmp .ne 7, 3) := by decide +kernel
theorem dX12_darts_66 : decode cX12_darts 66 = .ok (.iconst 1, 1) := by decide +kernel
theorem dX12_darts_67 : decode cX12_darts 67 = .ok (.goto 4, 3) := by decide +kernel
theorem dX12_darts_70 : decode cX12_darts 70 = .ok (.iconst 0, 1) := by decide +kernel
theorem dX12_darts_71 : decode cX12_darts 71 = .ok (.ireturn, 1) := by decide +kernel
theorem dX12_stripes_0 : decode cX12_stripes 0 = .ok (.aload_n 0, 1) := by decide +kernel
theorem dX12_stripes_1 : decode cX12_stripes 1 = .ok (.iconst 0, 1) := by decide +kernel
theorem dX12_stripes_2 : decode cX12_stripes 2 = .ok (.putfield 78, 3) := by decide +kernel
theorem dX12_stripes_5 : decode cX12_stripes 5 = .ok (.iload_n 1, 1) := by decide +kernel
theorem dX12_stripes_6 : decode cX12_stripes 6 = .ok (.i2l, 1) := by decide +kernel
theorem dX12_stripes_7 : decode cX12_stripes 7 = .ok (.lconst 1, 1) := by decide +kernel
theorem dX12_stripes_8 : decode cX12_stripes 8 = .ok (.ldc2_w 229, 3) := by decide +kernel
theorem dX12_stripes_11 : decode cX12_stripes 11 = .ok (.invokestatic 84, 3) := by decide +kernel
theorem dX12_stripes_14 : decode cX12_stripes 14 = .ok (.ifCond .eq 42, 3) := by decide +kernel
theorem dX12_stripes_17 : decode cX12_stripes 17 = .ok (.iload_n 3, 1) := by decide +kernel
theorem dX12_stripes_18 : decode cX12_stripes 18 = .ok (.i2l, 1) := by decide +kernel
theorem dX12_stripes_19 : decode cX12_stripes 19 = .ok (.lconst 1, 1) := by decide +kernel
theorem dX12_stripes_20 : decode cX12_stripes 20 = .ok (.ldc2_w 229, 3) := by decide +kernel
theorem dX12_stripes_23 : decode cX12_stripes 23 = .ok (.invokestatic 84, 3) := by decide +kernel
theorem dX12_stripes_26 : decode cX12_stripes 26 = .ok (.ifCond .eq 30, 3) := by decide +kernel
theorem dX12_stripes_29 : decode cX12_stripes 29 = .ok (.iload_n 2, 1) := by decide +kernel
theorem dX12_stripes_30 : decode cX12_stripes 30 = .ok (.i2l, 1) := by decide +kernel
theorem dX12_stripes_31 : decode cX12_stripes 31 = .ok (.lconst 0, 1) := by decide +kernel
theorem dX12_stripes_32 : decode cX12_stripes 32 = .ok (.iload_n 1, 1) := by decide +kernel
theorem dX12_stripes_33 : decode cX12_stripes 33 = .ok (.iconst 1, 1) := by decide +kernel
theorem dX12_stripes_34 : decode cX12_stripes 34 = .ok (.isub, 1) := by decide +kernel
theorem dX12_stripes_35 : decode cX12_stripes 35 = .ok (.i2l, 1) := by decide +kernel
theorem dX12_stripes_36 : decode cX12_stripes 36 = .ok (.invokestatic 84, 3) := by decide +kernel
theorem dX12_stripes_39 : decode cX12_stripes 39 = .ok (.ifCond .eq 17, 3) := by decide +kernel
theorem dX12_stripes_42 : decode cX12_stripes 42 = .ok (.iload 4, 2) := by decide +kernel
theorem dX12_stripes_44 : decode cX12_stripes 44 = .ok (.i2l, 1) := by decide +kernel
theorem dX12_stripes_45 : decode cX12_stripes 45 = .ok (.lconst 0, 1) := by decide +kernel
theorem dX12_stripes_46 : decode cX12_stripes 46 = .ok (.iload_n 3, 1) := by decide +kernel
theorem dX12_stripes_47 : decode cX12_stripes 47 = .ok (.iconst 1, 1) := by decide +kernel
theorem dX12_stripes_48 : decode cX12_stripes 48 = .ok (.isub, 1) := by decide +kernel
theorem dX12_stripes_49 : decode cX12_stripes 49 = .ok (.i2l, 1) := by decide +kernel
theorem dX12_stripes_50 : decode cX12_stripes 50 = .ok (.invokestatic 84, 3) := by decide +kernel
theorem dX12_stripes_53 : decode cX12_stripes 53 = .ok (.ifCond .ne 5, 3) := by decide +kernel
theorem dX12_stripes_56 : decode cX12_stripes 56 = .ok (.iconst (-1), 1) := by decide +kernel
theorem dX12_stripes_57 : decode cX12_stripes 57 = .ok (.ireturn, 1) := by decide +kernel
theorem dX12_stripes_58 : decode cX12_stripes 58 = .ok (.iconst 0, 1) := by decide +kernel
theorem dX12_stripes_59 : decode cX12_stripes 59 = .ok (.istore 5, 2) := by decide +kernel
theorem dX12_stripes_61 : decode cX12_stripes 61 = .ok (.iload 5, 2) := by decide +kernel
theorem dX12_stripes_63 : decode cX12_stripes 63 = .ok (.iload_n 1, 1) := by decide +kernel
theorem dX12_stripes_64 : decode cX12_stripes 64 = .ok (.iload_n 3, 1) := by decide +kernel
theorem dX12_stripes_65 : decode cX12_stripes 65 = .ok (.imul, 1) := by decide +kernel
theorem dX12_stripes_66 : decode cX12_stripes 66 = .ok (.if_icmp .ge 29, 3) := by decide +kernel
theorem dX12_stripes_69 : decode cX12_stripes 69 = .ok (.iload 5, 2) := by decide +kernel
theorem dX12_stripes_71 : decode cX12_stripes 71 = .ok (.iload_n 1, 1) := by decide +kernel
theorem dX12_stripes_72 : decode cX12_stripes 72 = .ok (.irem, 1) := by decide +kernel
theorem dX12_stripes_73 : decode cX12_stripes 73 = .ok (.iload_n 2, 1) := by decide +kernel
theorem dX12_stripes_74 : decode cX12_stripes 74 = .ok (.if_icmp .ne 15, 3) := by decide +kernel
theorem dX12_stripes_77 : decode cX12_stripes 77 = .ok (.iload 5, 2) := by decide +kernel
theorem dX12_stripes_79 : decode cX12_stripes 79 = .ok (.iload_n 3, 1) := by decide +kernel
theorem dX12_stripes_80 : decode cX12_stripes 80 = .ok (.irem, 1) := by decide +kernel
theorem dX12_stripes_81 : decode cX12_stripes 81 = .ok (.iload 4, 2) := by decide +kernel
theorem dX12_stripes_83 : decode cX12_stripes 83 = .ok (.if_icmp .ne 6, 3) := by decide +kernel
theorem dX12_stripes_86 : decode cX12_stripes 86 = .ok (.iload 5, 2) := by decide +kernel
theorem dX12_stripes_88 : decode cX12_stripes 88 = .ok (.ireturn, 1) := by decide +kernel
theorem dX12_stripes_89 : decode cX12_stripes 89 = .ok (.iinc 5 1, 3) := by decide +kernel
theorem dX12_stripes_92 : decode cX12_stripes 92 = .ok (.goto (-31), 3) := by decide +kernel
theorem dX12_stripes_95 : decode cX12_stripes 95 = .ok (.bipush (-4), 2) := by decide +kernel
theorem dX12_stripes_97 : decode cX12_stripes 97 = .ok (.ireturn, 1) := by decide +kernel
theorem dX12_measures_0 : decode cX12_measures 0 = .ok (.aload_n 0, 1) := by decide +kernel
theorem dX12_measures_1 : decode cX12_measures 1 = .ok (.iconst 0, 1) := by decide +kernel
theorem dX12_measures_2 : decode cX12_measures 2 = .ok (.putfield 78, 3) := by decide +kernel
theorem dX12_measures_5 : decode cX12_measures 5 = .ok (.iload_n 2, 1) := by decide +kernel
theorem dX12_measures_6 : decode cX12_measures 6 = .ok (.i2l, 1) := by decide +kernel
theorem dX12_measures_7 : decode cX12_measures 7 = .ok (.lconst 0, 1) := by decide +kernel
theorem dX12_measures_8 : decode cX12_measures 8 = .ok (.lconst 1, 1) := by decide +kernel
theorem dX12_measures_9 : decode cX12_measures 9 = .ok (.invokestatic 84, 3) := by decide +kernel
theorem dX12_measures_12 : decode cX12_measures 12 = .ok (.ifCond .eq 12, 3) := by decide +kernel
theorem dX12_measures_15 : decode cX12_measures 15 = .ok (.aload_n 0, 1) := by decide +kernel
theorem dX12_measures_16 : decode cX12_measures 16 = .ok (.iload_n 1, 1) := by decide +kernel
theorem dX12_measures_17 : decode cX12_measures 17 = .ok (.iconst 1, 1) := by decide +kernel
theorem dX12_measures_18 : decode cX12_measures 18 = .ok (.invokevirtual 177, 3) := by decide +kernel
theorem dX12_measures_21 : decode cX12_measures 21 = .ok (.goto 4, 3) := by decide +kernel
theorem dX12_measures_24 : decode cX12_measures 24 = .ok (.iconst (-1), 1) := by decide +kernel
theorem dX12_measures_25 : decode cX12_measures 25 = .ok (.istore_n 3, 1) := by decide +kernel
theorem dX12_measures_26 : decode cX12_measures 26 = .ok (.iload_n 3, 1) := by decide +kernel
theorem dX12_measures_27 : decode cX12_measures 27 = .ok (.ifCond .ge 5, 3) := by decide +kernel
theorem dX12_measures_30 : decode cX12_measures 30 = .ok (.iload_n 3, 1) := by decide +kernel
theorem dX12_measures_31 : decode cX12_measures 31 = .ok (.ireturn, 1) := by decide +kernel
theorem dX12_measures_32 : decode cX12_measures 32 = .ok (.aload_n 0, 1) := by decide +kernel
theorem dX12_measures_33 : decode cX12_measures 33 = .ok (.getfield 68, 3) := by decide +kernel
theorem dX12_measures_36 : decode cX12_measures 36 = .ok (.iload_n 1, 1) := by decide +kernel
theorem dX12_measures_37 : decode cX12_measures 37 = .ok (.iaload, 1) := by decide +kernel
theorem dX12_measures_38 : decode cX12_measures 38 = .ok (.iconst 3, 1) := by decide +kernel
theorem dX12_measures_39 : decode cX12_measures 39 = .ok (.irem, 1) := by decide +kernel
theorem dX12_measures_40 : decode cX12_measures 40 = .ok (.ifCond .eq 6, 3) := by decide +kernel
theorem dX12_measures_43 : decode cX12_measures 43 = .ok (.bipush (-13), 2) := by decide +kernel
theorem dX12_measures_45 : decode cX12_measures 45 = .ok (.ireturn, 1) := by decide +kernel
theorem dX12_measures_46 : decode cX12_measures 46 = .ok (.bipush (-4), 2) := by decide +kernel
theorem dX12_measures_48 : decode cX12_measures 48 = .ok (.istore 4, 2) := by decide +kernel
theorem dX12_measures_50 : decode cX12_measures 50 = .ok (.iconst 0, 1) := by decide +kernel
theorem dX12_measures_51 : decode cX12_measures 51 = .ok (.istore 5, 2) := by decide +kernel
theorem dX12_measures_53 : decode cX12_measures 53 = .ok (.iload 5, 2) := by decide +kernel
theorem dX12_measures_55 : decode cX12_measures 55 = .ok (.bipush 6, 2) := by decide +kernel
theorem dX12_measures_57 : decode cX12_measures 57 = .ok (.if_icmp .ge 17, 3) := by decide +kernel
theorem dX12_measures_60 : decode cX12_measures 60 = .ok (.aload_n 0, 1) := by decide +kernel
theorem dX12_measures_61 : decode cX12_measures 61 = .ok (.getfield 53, 3) := by decide +kernel
theorem dX12_measures_64 : decode cX12_measures 64 = .ok (.iload 5, 2) := by decide +kernel
theorem dX12_measures_66 : decode cX12_measures 66 = .ok (.iconst 0, 1) := by decide +kernel
theorem dX12_measures_67 : decode cX12_measures 67 = .ok (.iastore, 1) := by decide +kernel
theorem dX12_measures_68 : decode cX12_measures 68 = .ok (.iinc 5 1, 3) := by decide +kernel
theorem dX12_measures_71 : decode cX12_measures 71 = .ok (.goto (-18), 3) := by decide +kernel
theorem dX12_measures_74 : decode cX12_measures 74 = .ok (.iconst 0, 1) := by decide +kernel
theorem dX12_measures_75 : decode cX12_measures 75 = .ok (.istore 5, 2) := by decide +kernel
theorem dX12_measures_77 : decode cX12_measures 77 = .ok (.iload 5, 2) := by decide +kernel
theorem dX12_measures_79 : decode cX12_measures 79 = .ok (.aload_n 0, 1) := by decide +kernel
theorem dX12_measures_80 : decode cX12_measures 80 = .ok (.getfield 68, 3) := by decide +kernel
theorem dX12_measures_83 : decode cX12_measures 83 = .ok (.iload_n 1, 1) := by decide +kernel
theorem dX12_measures_84 : decode cX12_measures 84 = .ok (.iaload, 1) := by decide +kernel
theorem dX12_measures_85 : decode cX12_measures 85 = .ok (.if_icmp .ge 120, 3) := by decide +kernel
theorem dX12_measures_88 : decode cX12_measures 88 = .ok (.aload_n 0, 1) := by decide +kernel
theorem dX12_measures_89 : decode cX12_measures 89 = .ok (.iload_n 1, 1) := by decide +kernel
theorem dX12_measures_90 : decode cX12_measures 90 = .ok (.iload 5, 2) := by decide +kernel
theorem dX12_measures_92 : decode cX12_measures 92 = .ok (.invokevirtual 213, 3) := by decide +kernel
theorem dX12_measures_95 : decode cX12_measures 95 = .ok (.istore 6, 2) := by decide +kernel
theorem dX12_measures_97 : decode cX12_measures 97 = .ok (.aload_n 0, 1) := by decide +kernel
theorem dX12_measures_98 : decode cX12_measures 98 = .ok (.iload_n 1, 1) := by decide +kernel
theorem dX12_measures_99 : decode cX12_measures 99 = .ok (.iload 5, 2) := by decide +kernel
theorem dX12_measures_101 : decode cX12_measures 101 = .ok (.iconst 1, 1) := by decide +kernel
theorem dX12_measures_102 : decode cX12_measures 102 = .ok (.iadd, 1) := by decide +kernel
theorem dX12_measures_103 : decode cX12_measures 103 = .ok (.invokevirtual 213, 3) := by decide +kernel
theorem dX12_measures_106 : decode cX12_measures 106 = .ok (.istore 7, 2) := by decide +kernel
theorem dX12_measures_108 : decode cX12_measures 108 = .ok (.aload_n 0, 1) := by decide +kernel
theorem dX12_measures_109 : decode cX12_measures 109 = .ok (.iload 6, 2) := by decide +kernel
theorem dX12_measures_111 : decode cX12_measures 111 = .ok (.invokevirtual 166, 3) := by decide +kernel
theorem dX12_measures_114 : decode cX12_measures 114 = .ok (.ifCond .eq 19, 3) := by decide +kernel
theorem dX12_measures_117 : decode cX12_measures 117 = .ok (.aload_n 0, 1) := by decide +kernel
theorem dX12_measures_118 : decode cX12_measures 118 = .ok (.iload 7, 2) := by decide +kernel
theorem dX12_measures_120 : decode cX12_measures 120 = .ok (.invokevirtual 166, 3) := by decide +kernel
theorem dX12_measures_123 : decode cX12_measures 123 = .ok (.ifCond .eq 10, 3) := by decide +kernel
theorem dX12_measures_126 : decode cX12_measures 126 = .ok (.iload 6, 2) := by decide +kernel
theorem dX12_measures_128 : decode cX12_measures 128 = .ok (.iload 7, 2) := by decide +kernel
theorem dX12_measures_130 : decode cX12_measures 130 = .ok (.if_icmp .ne 6, 3) := by decide +kernel
theorem dX12_measures_133 : decode cX12_measures 133 = .ok (.bipush (-13), 2) := by decide +kernel
theorem dX12_measures_135 : decode cX12_measures 135 = .ok (.ireturn, 1) := by decide +kernel
theorem dX12_measures_136 : decode cX12_measures 136 = .ok (.aload_n 0, 1) := by decide +kernel
theorem dX12_measures_137 : decode cX12_measures 137 = .ok (.getfield 16, 3) := by decide +kernel
theorem dX12_measures_140 : decode cX12_measures 140 = .ok (.iload 6, 2) := by decide +kernel
theorem dX12_measures_142 : decode cX12_measures 142 = .ok (.iaload, 1) := by decide +kernel
theorem dX12_measures_143 : decode cX12_measures 143 = .ok (.aload_n 0, 1) := by decide +kernel
theorem dX12_measures_144 : decode cX12_measures 144 = .ok (.getfield 16, 3) := by decide +kernel
theorem dX12_measures_147 : decode cX12_measures 147 = .ok (.iload 7, 2) := by decide +kernel
theorem dX12_measures_149 : decode cX12_measures 149 = .ok (.iaload, 1) := by decide +kernel
theorem dX12_measures_150 : decode cX12_measures 150 = .ok (.isub, 1) := by decide +kernel
theorem dX12_measures_151 : decode cX12_measures 151 = .ok (.aload_n 0, 1) := by decide +kernel
theorem dX12_measures_152 : decode cX12_measures 152 = .ok (.iload_n 1, 1) := by decide +kernel
theorem dX12_measures_153 : decode cX12_measures 153 = .ok (.iload 5, 2) := by decide +kernel
theorem dX12_measures_155 : decode cX12_measures 155 = .ok (.iconst 2, 1) := by decide +kernel
theorem dX12_measures_156 : decode cX12_measures 156 = .ok (.iadd, 1) := by decide +kernel
theorem dX12_measures_157 : decode cX12_measures 157 = .ok (.invokevirtual 213, 3) := by decide +kernel
theorem dX12_measures_160 : decode cX12_measures 160 = .ok (.if_icmp .eq 39, 3) := by decide +kernel
theorem dX12_measures_163 : decode cX12_measures 163 = .ok (.iload 4, 2) := by decide +kernel
theorem dX12_measures_165 : decode cX12_measures 165 = .ok (.ifCond .ge 8, 3) := by decide +kernel
theorem dX12_measures_168 : decode cX12_measures 168 = .ok (.iload 5, 2) := by decide +kernel
theorem dX12_measures_170 : decode cX12_measures 170 = .ok (.goto 5, 3) := by decide +kernel
theorem dX12_measures_173 : decode cX12_measures 173 = .ok (.iload 4, 2) := by decide +kernel
theorem dX12_measures_175 : decode cX12_measures 175 = .ok (.istore 4, 2) := by decide +kernel
theorem dX12_measures_177 : decode cX12_measures 177 = .ok (.aload_n 0, 1) := by decide +kernel
theorem dX12_measures_178 : decode cX12_measures 178 = .ok (.getfield 53, 3) := by decide +kernel
theorem dX12_measures_181 : decode cX12_measures 181 = .ok (.iload 6, 2) := by decide +kernel
theorem dX12_measures_183 : decode cX12_measures 183 = .ok (.dup2, 1) := by decide +kernel
theorem dX12_measures_184 : decode cX12_measures 184 = .ok (.iaload, 1) := by decide +kernel
theorem dX12_measures_185 : decode cX12_measures 185 = .ok (.iconst 1, 1) := by decide +kernel
theorem dX12_measures_186 : decode cX12_measures 186 = .ok (.iadd, 1) := by decide +kernel
theorem dX12_measures_187 : decode cX12_measures 187 = .ok (.iastore, 1) := by decide +kernel
theorem dX12_measures_188 : decode cX12_measures 188 = .ok (.aload_n 0, 1) := by decide +kernel
theorem dX12_measures_189 : decode cX12_measures 189 = .ok (.getfield 53, 3) := by decide +kernel
theorem dX12_measures_192 : decode cX12_measures 192 = .ok (.iload 7, 2) := by decide +kernel
theorem dX12_measures_194 : decode cX12_measures 194 = .ok (.dup2, 1) := by decide +kernel
theorem dX12_measures_195 : decode cX12_measures 195 = .ok (.iaload, 1) := by decide +kernel
theorem dX12_measures_196 : decode cX12_measures 196 = .ok (.iconst 1, 1) := by decide +kernel
theorem dX12_measures_197 : decode cX12_measures 197 = .ok (.iadd, 1) := by decide +kernel
theorem dX12_measures_198 : decode cX12_measures 198 = .ok (.iastore, 1) := by decide +kernel
theorem dX12_measures_199 : decode cX12_measures 199 = .ok (.iinc 5 3, 3) := by decide +kernel
theorem dX12_measures_202 : decode cX12_measures 202 = .ok (.goto (-125), 3) := by decide +kernel
theorem dX12_measures_205 : decode cX12_measures 205 = .ok (.bipush (-4), 2) := by decide +kernel
theorem dX12_measures_207 : decode cX12_measures 207 = .ok (.istore 5, 2) := by decide +kernel
theorem dX12_measures_209 : decode cX12_measures 209 = .ok (.iconst 0, 1) := by decide +kernel
theorem dX12_measures_210 : decode cX12_measures 210 = .ok (.istore 6, 2) := by decide +kernel
theorem dX12_measures_212 : decode cX12_measures 212 = .ok (.iload 6, 2) := by decide +kernel
theorem dX12_measures_214 : decode cX12_measures 214 = .ok (.aload_n 0, 1) := by decide +kernel
theorem dX12_measures_215 : decode cX12_measures 215 = .ok (.getfield 81, 3) := by decide +kernel
theorem dX12_measures_218 : decode cX12_measures 218 = .ok (.if_icmp .ge 50, 3) := by decide +kernel
theorem dX12_measures_221 : decode cX12_measures 221 = .ok (.aload_n 0, 1) := by decide +kernel
theorem dX12_measures_222 : decode cX12_measures 222 = .ok (.getfield 53, 3) := by decide +kernel
theorem dX12_measures_225 : decode cX12_measures 225 = .ok (.iload 6, 2) := by decide +kernel
theorem dX12_measures_227 : decode cX12_measures 227 = .ok (.iaload, 1) := by decide +kernel
theorem dX12_measures_228 : decode cX12_measures 228 = .ok (.ifCond .le 30, 3) := by decide +kernel
theorem dX12_measures_231 : decode cX12_measures 231 = .ok (.iload 5, 2) := by decide +kernel
theorem dX12_measures_233 : decode cX12_measures 233 = .ok (.ifCond .lt 20, 3) := by decide +kernel
theorem dX12_measures_236 : decode cX12_measures 236 = .ok (.aload_n 0, 1) := by decide +kernel
theorem dX12_measures_237 : decode cX12_measures 237 = .ok (.getfield 53, 3) := by decide +kernel
theorem dX12_measures_240 : decode cX12_measures 240 = .ok (.iload 6, 2) := by decide +kernel
theorem dX12_measures_242 : decode cX12_measures 242 = .ok (.iaload, 1) := by decide +kernel
theorem dX12_measures_243 : decode cX12_measures 243 = .ok (.aload_n 0, 1) := by decide +kernel
theorem dX12_measures_244 : decode cX12_measures 244 = .ok (.getfield 53, 3) := by decide +kernel
theorem dX12_measures_247 : decode cX12_measures 247 = .ok (.iload 5, 2) := by decide +kernel
theorem dX12_measures_249 : decode cX12_measures 249 = .ok (.iaload, 1) := by decide +kernel
theorem dX12_measures_250 : decode cX12_measures 250 = .ok (.if_icmp .le 8, 3) := by decide +kernel
theorem dX12_measures_253 : decode cX12_measures 253 = .ok (.iload 6, 2) := by decide +kernel
theorem dX12_measures_255 : decode cX12_measures 255 = .ok (.goto 5, 3) := by decide +kernel
theorem dX12_measures_258 : decode cX12_measures 258 = .ok (.iload 5, 2) := by decide +kernel
theorem dX12_measures_260 : decode cX12_measures 260 = .ok (.istore 5, 2) := by decide +kernel
theorem dX12_measures_262 : decode cX12_measures 262 = .ok (.iinc 6 1, 3) := by decide +kernel
theorem dX12_measures_265 : decode cX12_measures 265 = .ok (.goto (-53), 3) := by decide +kernel
theorem dX12_measures_268 : decode cX12_measures 268 = .ok (.iload_n 2, 1) := by decide +kernel
theorem dX12_measures_269 : decode cX12_measures 269 = .ok (.ifCond .ne 8, 3) := by decide +kernel
theorem dX12_measures_272 : decode cX12_measures 272 = .ok (.iload 4, 2) := by decide +kernel
theorem dX12_measures_274 : decode cX12_measures 274 = .ok (.goto 5, 3) := by decide +kernel
theorem dX12_measures_277 : decode cX12_measures 277 = .ok (.iload 5, 2) := by decide +kernel
theorem dX12_measures_279 : decode cX12_measures 279 = .ok (.ireturn, 1) := by decide +kernel
theorem dX12_wrongList_0 : decode cX12_wrongList 0 = .ok (.aload_n 0, 1) := by decide +kernel
theorem dX12_wrongList_1 : decode cX12_wrongList 1 = .ok (.iload_n 1, 1) := by decide +kernel
theorem dX12_wrongList_2 : decode cX12_wrongList 2 = .ok (.iconst 0, 1) := by decide +kernel
theorem dX12_wrongList_3 : decode cX12_wrongList 3 = .ok (.invokevirtual 177, 3) := by decide +kernel
theorem dX12_wrongList_6 : decode cX12_wrongList 6 = .ok (.istore_n 3, 1) := by decide +kernel
theorem dX12_wrongList_7 : decode cX12_wrongList 7 = .ok (.iload_n 3, 1) := by decide +kernel
theorem dX12_wrongList_8 : decode cX12_wrongList 8 = .ok (.ifCond .ge 5, 3) := by decide +kernel
theorem dX12_wrongList_11 : decode cX12_wrongList 11 = .ok (.iload_n 3, 1) := by decide +kernel
theorem dX12_wrongList_12 : decode cX12_wrongList 12 = .ok (.ireturn, 1) := by decide +kernel
theorem dX12_wrongList_13 : decode cX12_wrongList 13 = .ok (.aload_n 0, 1) := by decide +kernel
theorem dX12_wrongList_14 : decode cX12_wrongList 14 = .ok (.getfield 68, 3) := by decide +kernel
theorem dX12_wrongList_17 : decode cX12_wrongList 17 = .ok (.iload_n 1, 1) := by decide +kernel
theorem dX12_wrongList_18 : decode cX12_wrongList 18 = .ok (.iaload, 1) := by decide +kernel
theorem dX12_wrongList_19 : decode cX12_wrongList 19 = .ok (.i2l, 1) := by decide +kernel
theorem dX12_wrongList_20 : decode cX12_wrongList 20 = .ok (.lconst 1, 1) := by decide +kernel
theorem dX12_wrongList_21 : decode cX12_wrongList 21 = .ok (.iload_n 2, 1) := by decide +kernel
theorem dX12_wrongList_22 : decode cX12_wrongList 22 = .ok (.i2l, 1) := by decide +kernel
theorem dX12_wrongList_23 : decode cX12_wrongList 23 = .ok (.invokestatic 84, 3) := by decide +kernel
theorem dX12_wrongList_26 : decode cX12_wrongList 26 = .ok (.istore 4, 2) := by decide +kernel
theorem dX12_wrongList_28 : decode cX12_wrongList 28 = .ok (.iconst 0, 1) := by decide +kernel
theorem dX12_wrongList_29 : decode cX12_wrongList 29 = .ok (.istore 5, 2) := by decide +kernel
theorem dX12_wrongList_31 : decode cX12_wrongList 31 = .ok (.iload 5, 2) := by decide +kernel
theorem dX12_wrongList_33 : decode cX12_wrongList 33 = .ok (.aload_n 0, 1) := by decide +kernel
theorem dX12_wrongList_34 : decode cX12_wrongList 34 = .ok (.getfield 68, 3) := by decide +kernel
theorem dX12_wrongList_37 : decode cX12_wrongList 37 = .ok (.iload_n 1, 1) := by decide +kernel
theorem dX12_wrongList_38 : decode cX12_wrongList 38 = .ok (.iaload, 1) := by decide +kernel
theorem dX12_wrongList_39 : decode cX12_wrongList 39 = .ok (.if_icmp .ge 35, 3) := by decide +kernel
theorem dX12_wrongList_42 : decode cX12_wrongList 42 = .ok (.iload 4, 2) := by decide +kernel
theorem dX12_wrongList_44 : decode cX12_wrongList 44 = .ok (.ifCond .eq 30, 3) := by decide +kernel
theorem dX12_wrongList_47 : decode cX12_wrongList 47 = .ok (.aload_n 0, 1) := by decide +kernel
theorem dX12_wrongList_48 : decode cX12_wrongList 48 = .ok (.getfield 71, 3) := by decide +kernel
theorem dX12_wrongList_51 : decode cX12_wrongList 51 = .ok (.bipush 100, 2) := by decide +kernel
theorem dX12_wrongList_53 : decode cX12_wrongList 53 = .ok (.iload_n 1, 1) := by decide +kernel
theorem dX12_wrongList_54 : decode cX12_wrongList 54 = .ok (.imul, 1) := by decide +kernel
theorem dX12_wrongList_55 : decode cX12_wrongList 55 = .ok (.iload 5, 2) := by decide +kernel
theorem dX12_wrongList_57 : decode cX12_wrongList 57 = .ok (.iadd, 1) := by decide +kernel
theorem dX12_wrongList_58 : decode cX12_wrongList 58 = .ok (.laload, 1) := by decide +kernel
theorem dX12_wrongList_59 : decode cX12_wrongList 59 = .ok (.lconst 1, 1) := by decide +kernel
theorem dX12_wrongList_60 : decode cX12_wrongList 60 = .ok (.ldc2_w 225, 3) := by decide +kernel
theorem dX12_wrongList_63 : decode cX12_wrongList 63 = .ok (.invokestatic 84, 3) := by decide +kernel
theorem dX12_wrongList_66 : decode cX12_wrongList 66 = .ok (.istore 4, 2) := by decide +kernel
theorem dX12_wrongList_68 : decode cX12_wrongList 68 = .ok (.iinc 5 1, 3) := by decide +kernel
theorem dX12_wrongList_71 : decode cX12_wrongList 71 = .ok (.goto (-40), 3) := by decide +kernel
theorem dX12_wrongList_74 : decode cX12_wrongList 74 = .ok (.iload 4, 2) := by decide +kernel
theorem dX12_wrongList_76 : decode cX12_wrongList 76 = .ok (.ifCond .eq 7, 3) := by decide +kernel
theorem dX12_wrongList_79 : decode cX12_wrongList 79 = .ok (.iconst 0, 1) := by decide +kernel
theorem dX12_wrongList_80 : decode cX12_wrongList 80 = .ok (.goto 5, 3) := by decide +kernel
theorem dX12_wrongList_83 : decode cX12_wrongList 83 = .ok (.bipush (-13), 2) := by decide +kernel
theorem dX12_wrongList_85 : decode cX12_wrongList 85 = .ok (.ireturn, 1) := by decide +kernel
theorem dX12_dressGirls_0 : decode cX12_dressGirls 0 = .ok (.aload_n 0, 1) := by decide +kernel
theorem dX12_dressGirls_1 : decode cX12_dressGirls 1 = .ok (.iconst 0, 1) := by decide +kernel
theorem dX12_dressGirls_2 : decode cX12_dressGirls 2 = .ok (.putfield 231, 3) := by decide +kernel
theorem dX12_dressGirls_5 : decode cX12_dressGirls 5 = .ok (.aload_n 0, 1) := by decide +kernel
theorem dX12_dressGirls_6 : decode cX12_dressGirls 6 = .ok (.iconst 0, 1) := by decide +kernel
theorem dX12_dressGirls_7 : decode cX12_dressGirls 7 = .ok (.putfield 234, 3) := by decide +kernel
theorem dX12_dressGirls_10 : decode cX12_dressGirls 10 = .ok (.iconst 0, 1) := by decide +kernel
theorem dX12_dressGirls_11 : decode cX12_dressGirls 11 = .ok (.istore 4, 2) := by decide +kernel
theorem dX12_dressGirls_13 : decode cX12_dressGirls 13 = .ok (.iload 4, 2) := by decide +kernel
theorem dX12_dressGirls_15 : decode cX12_dressGirls 15 = .ok (.aload_n 0, 1) := by decide +kernel
theorem dX12_dressGirls_16 : decode cX12_dressGirls 16 = .ok (.getfield 68, 3) := by decide +kernel
theorem dX12_dressGirls_19 : decode cX12_dressGirls 19 = .ok (.iload_n 2, 1) := by decide +kernel
theorem dX12_dressGirls_20 : decode cX12_dressGirls 20 = .ok (.iaload, 1) := by decide +kernel
theorem dX12_dressGirls_21 : decode cX12_dressGirls 21 = .ok (.if_icmp .ge 138, 3) := by decide +kernel
theorem dX12_dressGirls_24 : decode cX12_dressGirls 24 = .ok (.aload_n 0, 1) := by decide +kernel
theorem dX12_dressGirls_25 : decode cX12_dressGirls 25 = .ok (.iload_n 2, 1) := by decide +kernel
theorem dX12_dressGirls_26 : decode cX12_dressGirls 26 = .ok (.iload 4, 2) := by decide +kernel
theorem dX12_dressGirls_28 : decode cX12_dressGirls 28 = .ok (.invokevirtual 213, 3) := by decide +kernel
theorem dX12_dressGirls_31 : decode cX12_dressGirls 31 = .ok (.aload_n 0, 1) := by decide +kernel
theorem dX12_dressGirls_32 : decode cX12_dressGirls 32 = .ok (.getfield 7, 3) := by decide +kernel
theorem dX12_dressGirls_35 : decode cX12_dressGirls 35 = .ok (.iadd, 1) := by decide +kernel
theorem dX12_dressGirls_36 : decode cX12_dressGirls 36 = .ok (.istore 5, 2) := by decide +kernel
theorem dX12_dressGirls_38 : decode cX12_dressGirls 38 = .ok (.iload_n 3, 1) := by decide +kernel
theorem dX12_dressGirls_39 : decode cX12_dressGirls 39 = .ok (.iload 5, 2) := by decide +kernel
theorem dX12_dressGirls_41 : decode cX12_dressGirls 41 = .ok (.if_icmp .lt 7, 3) := by decide +kernel
theorem dX12_dressGirls_44 : decode cX12_dressGirls 44 = .ok (.iload_n 3, 1) := by decide +kernel
theorem dX12_dressGirls_45 : decode cX12_dressGirls 45 = .ok (.goto 6, 3) := by decide +kernel
theorem dX12_dressGirls_48 : decode cX12_dressGirls 48 = .ok (.sipush 1000, 3) := by decide +kernel
theorem dX12_dressGirls_51 : decode cX12_dressGirls 51 = .ok (.istore 6, 2) := by decide +kernel
theorem dX12_dressGirls_53 : decode cX12_dressGirls 53 = .ok (.iconst 0, 1) := by decide +kernel
theorem dX12_dressGirls_54 : decode cX12_dressGirls 54 = .ok (.istore 7, 2) := by decide +kernel
theorem dX12_dressGirls_56 : decode cX12_dressGirls 56 = .ok (.iload 7, 2) := by decide +kernel
theorem dX12_dressGirls_58 : decode cX12_dressGirls 58 = .ok (.aload_n 0, 1) := by decide +kernel
theorem dX12_dressGirls_59 : decode cX12_dressGirls 59 = .ok (.getfield 68, 3) := by decide +kernel
theorem dX12_dressGirls_62 : decode cX12_dressGirls 62 = .ok (.iload_n 1, 1) := by decide +kernel
theorem dX12_dressGirls_63 : decode cX12_dressGirls 63 = .ok (.iaload, 1) := by decide +kernel
theorem dX12_dressGirls_64 : decode cX12_dressGirls 64 = .ok (.if_icmp .ge 41, 3) := by decide +kernel
theorem dX12_dressGirls_67 : decode cX12_dressGirls 67 = .ok (.aload_n 0, 1) := by decide +kernel
theorem dX12_dressGirls_68 : decode cX12_dressGirls 68 = .ok (.iload_n 1, 1) := by decide +kernel
theorem dX12_dressGirls_69 : decode cX12_dressGirls 69 = .ok (.iload 7, 2) := by decide +kernel
theorem dX12_dressGirls_71 : decode cX12_dressGirls 71 = .ok (.invokevirtual 213, 3) := by decide +kernel
theorem dX12_dressGirls_74 : decode cX12_dressGirls 74 = .ok (.istore 8, 2) := by decide +kernel
theorem dX12_dressGirls_76 : decode cX12_dressGirls 76 = .ok (.iload 8, 2) := by decide +kernel
theorem dX12_dressGirls_78 : decode cX12_dressGirls 78 = .ok (.iload 5, 2) := by decide +kernel
theorem dX12_dressGirls_80 : decode cX12_dressGirls 80 = .ok (.if_icmp .lt 15, 3) := by decide +kernel
theorem dX12_dressGirls_83 : decode cX12_dressGirls 83 = .ok (.iload 8, 2) := by decide +kernel
theorem dX12_dressGirls_85 : decode cX12_dressGirls 85 = .ok (.iload 6, 2) := by decide +kernel
theorem dX12_dressGirls_87 : decode cX12_dressGirls 87 = .ok (.if_icmp .ge 8, 3) := by decide +kernel
theorem dX12_dressGirls_90 : decode cX12_dressGirls 90 = .ok (.iload 8, 2) := by decide +kernel
theorem dX12_dressGirls_92 : decode cX12_dressGirls 92 = .ok (.goto 5, 3) := by decide +kernel
theorem dX12_dressGirls_95 : decode cX12_dressGirls 95 = .ok (.iload 6, 2) := by decide +kernel
theorem dX12_dressGirls_97 : decode cX12_dressGirls 97 = .ok (.istore 6, 2) := by decide +kernel
theorem dX12_dressGirls_99 : decode cX12_dressGirls 99 = .ok (.iinc 7 1, 3) := by decide +kernel
theorem dX12_dressGirls_102 : decode cX12_dressGirls 102 = .ok (.goto (-46), 3) := by decide +kernel
theorem dX12_dressGirls_105 : decode cX12_dressGirls 105 = .ok (.aload_n 0, 1) := by decide +kernel
theorem dX12_dressGirls_106 : decode cX12_dressGirls 106 = .ok (.dup, 1) := by decide +kernel
theorem dX12_dressGirls_107 : decode cX12_dressGirls 107 = .ok (.getfield 231, 3) := by decide +kernel
theorem dX12_dressGirls_110 : decode cX12_dressGirls 110 = .ok (.iload 6, 2) := by decide +kernel
theorem dX12_dressGirls_112 : decode cX12_dressGirls 112 = .ok (.sipush 1000, 3) := by decide +kernel
theorem dX12_dressGirls_115 : decode cX12_dressGirls 115 = .ok (.if_icmp .ne 7, 3) := by decide +kernel
theorem dX12_dressGirls_118 : decode cX12_dressGirls 118 = .ok (.iconst 1, 1) := by decide +kernel
theorem dX12_dressGirls_119 : decode cX12_dressGirls 119 = .ok (.goto 4, 3) := by decide +kernel
theorem dX12_dressGirls_122 : decode cX12_dressGirls 122 = .ok (.iconst 0, 1) := by decide +kernel
theorem dX12_dressGirls_123 : decode cX12_dressGirls 123 = .ok (.iadd, 1) := by decide +kernel
theorem dX12_dressGirls_124 : decode cX12_dressGirls 124 = .ok (.putfield 231, 3) := by decide +kernel
theorem dX12_dressGirls_127 : decode cX12_dressGirls 127 = .ok (.aload_n 0, 1) := by decide +kernel
theorem dX12_dressGirls_128 : decode cX12_dressGirls 128 = .ok (.dup, 1) := by decide +kernel
theorem dX12_dressGirls_129 : decode cX12_dressGirls 129 = .ok (.getfield 234, 3) := by decide +kernel
theorem dX12_dressGirls_132 : decode cX12_dressGirls 132 = .ok (.iload 6, 2) := by decide +kernel
theorem dX12_dressGirls_134 : decode cX12_dressGirls 134 = .ok (.sipush 1000, 3) := by decide +kernel
theorem dX12_dressGirls_137 : decode cX12_dressGirls 137 = .ok (.if_icmp .ne 7, 3) := by decide +kernel
theorem dX12_dressGirls_140 : decode cX12_dressGirls 140 = .ok (.iconst 0, 1) := by decide +kernel
theorem dX12_dressGirls_141 : decode cX12_dressGirls 141 = .ok (.goto 8, 3) := by decide +kernel
theorem dX12_dressGirls_144 : decode cX12_dressGirls 144 = .ok (.iload 6, 2) := by decide +kernel
theorem dX12_dressGirls_146 : decode cX12_dressGirls 146 = .ok (.iload 5, 2) := by decide +kernel
theorem dX12_dressGirls_148 : decode cX12_dressGirls 148 = .ok (.isub, 1) := by decide +kernel
theorem dX12_dressGirls_149 : decode cX12_dressGirls 149 = .ok (.iadd, 1) := by decide +kernel
theorem dX12_dressGirls_150 : decode cX12_dressGirls 150 = .ok (.putfield 234, 3) := by decide +kernel
theorem dX12_dressGirls_153 : decode cX12_dressGirls 153 = .ok (.iinc 4 1, 3) := by decide +kernel
theorem dX12_dressGirls_156 : decode cX12_dressGirls 156 = .ok (.goto (-143), 3) := by decide +kernel
theorem dX12_dressGirls_159 : decode cX12_dressGirls 159 = .ok (.return_, 1) := by decide +kernel
theorem dX12_sizes_0 : decode cX12_sizes 0 = .ok (.aload_n 0, 1) := by decide +kernel
theorem dX12_sizes_1 : decode cX12_sizes 1 = .ok (.iconst 0, 1) := by decide +kernel
theorem dX12_sizes_2 : decode cX12_sizes 2 = .ok (.putfield 78, 3) := by decide +kernel
theorem dX12_sizes_5 : decode cX12_sizes 5 = .ok (.iload_n 1, 1) := by decide +kernel
theorem dX12_sizes_6 : decode cX12_sizes 6 = .ok (.i2l, 1) := by decide +kernel
theorem dX12_sizes_7 : decode cX12_sizes 7 = .ok (.lconst 0, 1) := by decide +kernel
theorem dX12_sizes_8 : decode cX12_sizes 8 = .ok (.ldc2_w 198, 3) := by decide +kernel
theorem dX12_sizes_11 : decode cX12_sizes 11 = .ok (.invokestatic 84, 3) := by decide +kernel
theorem dX12_sizes_14 : decode cX12_sizes 14 = .ok (.ifCond .eq 27, 3) := by decide +kernel
theorem dX12_sizes_17 : decode cX12_sizes 17 = .ok (.iload_n 2, 1) := by decide +kernel
theorem dX12_sizes_18 : decode cX12_sizes 18 = .ok (.i2l, 1) := by decide +kernel
theorem dX12_sizes_19 : decode cX12_sizes 19 = .ok (.lconst 0, 1) := by decide +kernel
theorem dX12_sizes_20 : decode cX12_sizes 20 = .ok (.ldc2_w 198, 3) := by decide +kernel
theorem dX12_sizes_23 : decode cX12_sizes 23 = .ok (.invokestatic 84, 3) := by decide +kernel
theorem dX12_sizes_26 : decode cX12_sizes 26 = .ok (.ifCond .eq 15, 3) := by decide +kernel
theorem dX12_sizes_29 : decode cX12_sizes 29 = .ok (.iload_n 3, 1) := by decide +kernel
theorem dX12_sizes_30 : decode cX12_sizes 30 = .ok (.i2l, 1) := by decide +kernel
theorem dX12_sizes_31 : decode cX12_sizes 31 = .ok (.lconst 0, 1) := by decide +kernel
theorem dX12_sizes_32 : decode cX12_sizes 32 = .ok (.ldc2_w 237, 3) := by decide +kernel
theorem dX12_sizes_35 : decode cX12_sizes 35 = .ok (.invokestatic 84, 3) := by decide +kernel
theorem dX12_sizes_38 : decode cX12_sizes 38 = .ok (.ifCond .ne 7, 3) := by decide +kernel
theorem dX12_sizes_41 : decode cX12_sizes 41 = .ok (.iconst (-1), 1) := by decide +kernel
theorem dX12_sizes_42 : decode cX12_sizes 42 = .ok (.goto 10, 3) := by decide +kernel
theorem dX12_sizes_45 : decode cX12_sizes 45 = .ok (.aload_n 0, 1) := by decide +kernel
theorem dX12_sizes_46 : decode cX12_sizes 46 = .ok (.iload_n 1, 1) := by decide +kernel
theorem dX12_sizes_47 : decode cX12_sizes 47 = .ok (.bipush 6, 2) := by decide +kernel
theorem dX12_sizes_49 : decode cX12_sizes 49 = .ok (.invokevirtual 239, 3) := by decide +kernel
theorem dX12_sizes_52 : decode cX12_sizes 52 = .ok (.istore 4, 2) := by decide +kernel
theorem dX12_sizes_54 : decode cX12_sizes 54 = .ok (.iload 4, 2) := by decide +kernel
theorem dX12_sizes_56 : decode cX12_sizes 56 = .ok (.ifCond .ge 8, 3) := by decide +kernel
theorem dX12_sizes_59 : decode cX12_sizes 59 = .ok (.iload 4, 2) := by decide +kernel
theorem dX12_sizes_61 : decode cX12_sizes 61 = .ok (.goto 10, 3) := by decide +kernel
theorem dX12_sizes_64 : decode cX12_sizes 64 = .ok (.aload_n 0, 1) := by decide +kernel
theorem dX12_sizes_65 : decode cX12_sizes 65 = .ok (.iload_n 2, 1) := by decide +kernel
theorem dX12_sizes_66 : decode cX12_sizes 66 = .ok (.bipush 20, 2) := by decide +kernel
theorem dX12_sizes_68 : decode cX12_sizes 68 = .ok (.invokevirtual 239, 3) := by decide +kernel
theorem dX12_sizes_71 : decode cX12_sizes 71 = .ok (.istore 4, 2) := by decide +kernel
theorem dX12_sizes_73 : decode cX12_sizes 73 = .ok (.iload 4, 2) := by decide +kernel
theorem dX12_sizes_75 : decode cX12_sizes 75 = .ok (.ifCond .ge 6, 3) := by decide +kernel
theorem dX12_sizes_78 : decode cX12_sizes 78 = .ok (.iload 4, 2) := by decide +kernel
theorem dX12_sizes_80 : decode cX12_sizes 80 = .ok (.ireturn, 1) := by decide +kernel
theorem dX12_sizes_81 : decode cX12_sizes 81 = .ok (.iconst 0, 1) := by decide +kernel
theorem dX12_sizes_82 : decode cX12_sizes 82 = .ok (.istore 5, 2) := by decide +kernel
theorem dX12_sizes_84 : decode cX12_sizes 84 = .ok (.iconst 0, 1) := by decide +kernel
theorem dX12_sizes_85 : decode cX12_sizes 85 = .ok (.istore 6, 2) := by decide +kernel
theorem dX12_sizes_87 : decode cX12_sizes 87 = .ok (.iconst 0, 1) := by decide +kernel
theorem dX12_sizes_88 : decode cX12_sizes 88 = .ok (.istore 7, 2) := by decide +kernel
theorem dX12_sizes_90 : decode cX12_sizes 90 = .ok (.iconst 1, 1) := by decide +kernel
theorem dX12_sizes_91 : decode cX12_sizes 91 = .ok (.istore 8, 2) := by decide +kernel
theorem dX12_sizes_93 : decode cX12_sizes 93 = .ok (.iload 8, 2) := by decide +kernel
theorem dX12_sizes_95 : decode cX12_sizes 95 = .ok (.bipush 100, 2) := by decide +kernel
theorem dX12_sizes_97 : decode cX12_sizes 97 = .ok (.if_icmp .ge 65, 3) := by decide +kernel
theorem dX12_sizes_100 : decode cX12_sizes 100 = .ok (.aload_n 0, 1) := by decide +kernel
theorem dX12_sizes_101 : decode cX12_sizes 101 = .ok (.iload_n 1, 1) := by decide +kernel
theorem dX12_sizes_102 : decode cX12_sizes 102 = .ok (.iload_n 2, 1) := by decide +kernel
theorem dX12_sizes_103 : decode cX12_sizes 103 = .ok (.iload 8, 2) := by decide +kernel
theorem dX12_sizes_105 : decode cX12_sizes 105 = .ok (.invokevirtual 242, 3) := by decide +kernel
theorem dX12_sizes_108 : decode cX12_sizes 108 = .ok (.iload 5, 2) := by decide +kernel
theorem dX12_sizes_110 : decode cX12_sizes 110 = .ok (.ifCond .eq 30, 3) := by decide +kernel
theorem dX12_sizes_113 : decode cX12_sizes 113 = .ok (.aload_n 0, 1) := by decide +kernel
theorem dX12_sizes_114 : decode cX12_sizes 114 = .ok (.getfield 231, 3) := by decide +kernel
theorem dX12_sizes_117 : decode cX12_sizes 117 = .ok (.iload 6, 2) := by decide +kernel
theorem dX12_sizes_119 : decode cX12_sizes 119 = .ok (.if_icmp .lt 21, 3) := by decide +kernel
theorem dX12_sizes_122 : decode cX12_sizes 122 = .ok (.aload_n 0, 1) := by decide +kernel
theorem dX12_sizes_123 : decode cX12_sizes 123 = .ok (.getfield 231, 3) := by decide +kernel
theorem dX12_sizes_126 : decode cX12_sizes 126 = .ok (.iload 6, 2) := by decide +kernel
theorem dX12_sizes_128 : decode cX12_sizes 128 = .ok (.if_icmp .ne 28, 3) := by decide +kernel
theorem dX12_sizes_131 : decode cX12_sizes 131 = .ok (.aload_n 0, 1) := by decide +kernel
theorem dX12_sizes_132 : decode cX12_sizes 132 = .ok (.getfield 234, 3) := by decide +kernel
theorem dX12_sizes_135 : decode cX12_sizes 135 = .ok (.iload 7, 2) := by decide +kernel
theorem dX12_sizes_137 : decode cX12_sizes 137 = .ok (.if_icmp .ge 19, 3) := by decide +kernel
theorem dX12_sizes_140 : decode cX12_sizes 140 = .ok (.iload 8, 2) := by decide +kernel
theorem dX12_sizes_142 : decode cX12_sizes 142 = .ok (.istore 5, 2) := by decide +kernel
theorem dX12_sizes_144 : decode cX12_sizes 144 = .ok (.aload_n 0, 1) := by decide +kernel
theorem dX12_sizes_145 : decode cX12_sizes 145 = .ok (.getfield 231, 3) := by decide +kernel
theorem dX12_sizes_148 : decode cX12_sizes 148 = .ok (.istore 6, 2) := by decide +kernel
theorem dX12_sizes_150 : decode cX12_sizes 150 = .ok (.aload_n 0, 1) := by decide +kernel
theorem dX12_sizes_151 : decode cX12_sizes 151 = .ok (.getfield 234, 3) := by decide +kernel
theorem dX12_sizes_154 : decode cX12_sizes 154 = .ok (.istore 7, 2) := by decide +kernel
theorem dX12_sizes_156 : decode cX12_sizes 156 = .ok (.iinc 8 1, 3) := by decide +kernel
theorem dX12_sizes_159 : decode cX12_sizes 159 = .ok (.goto (-66), 3) := by decide +kernel
theorem dX12_sizes_162 : decode cX12_sizes 162 = .ok (.aload_n 0, 1) := by decide +kernel
theorem dX12_sizes_163 : decode cX12_sizes 163 = .ok (.iload_n 1, 1) := by decide +kernel
theorem dX12_sizes_164 : decode cX12_sizes 164 = .ok (.iload_n 2, 1) := by decide +kernel
theorem dX12_sizes_165 : decode cX12_sizes 165 = .ok (.iconst 0, 1) := by decide +kernel
theorem dX12_sizes_166 : decode cX12_sizes 166 = .ok (.invokevirtual 242, 3) := by decide +kernel
theorem dX12_sizes_169 : decode cX12_sizes 169 = .ok (.iload_n 3, 1) := by decide +kernel
theorem dX12_sizes_170 : decode cX12_sizes 170 = .ok (.ifCond .ne 10, 3) := by decide +kernel
theorem dX12_sizes_173 : decode cX12_sizes 173 = .ok (.aload_n 0, 1) := by decide +kernel
theorem dX12_sizes_174 : decode cX12_sizes 174 = .ok (.getfield 231, 3) := by decide +kernel
theorem dX12_sizes_177 : decode cX12_sizes 177 = .ok (.goto 17, 3) := by decide +kernel
theorem dX12_sizes_180 : decode cX12_sizes 180 = .ok (.iload_n 3, 1) := by decide +kernel
theorem dX12_sizes_181 : decode cX12_sizes 181 = .ok (.iconst 1, 1) := by decide +kernel
theorem dX12_sizes_182 : decode cX12_sizes 182 = .ok (.if_icmp .ne 10, 3) := by decide +kernel
theorem dX12_sizes_185 : decode cX12_sizes 185 = .ok (.aload_n 0, 1) := by decide +kernel
theorem dX12_sizes_186 : decode cX12_sizes 186 = .ok (.getfield 234, 3) := by decide +kernel
theorem dX12_sizes_189 : decode cX12_sizes 189 = .ok (.goto 5, 3) := by decide +kernel
theorem dX12_sizes_192 : decode cX12_sizes 192 = .ok (.iload 5, 2) := by decide +kernel
theorem dX12_sizes_194 : decode cX12_sizes 194 = .ok (.ireturn, 1) := by decide +kernel
theorem dX12_old_0 : decode cX12_old 0 = .ok (.aload_n 0, 1) := by decide +kernel
theorem dX12_old_1 : decode cX12_old 1 = .ok (.iconst 0, 1) := by decide +kernel
theorem dX12_old_2 : decode cX12_old 2 = .ok (.putfield 78, 3) := by decide +kernel
theorem dX12_old_5 : decode cX12_old 5 = .ok (.aload_n 0, 1) := by decide +kernel
theorem dX12_old_6 : decode cX12_old 6 = .ok (.iload_n 1, 1) := by decide +kernel
theorem dX12_old_7 : decode cX12_old 7 = .ok (.bipush 6, 2) := by decide +kernel
theorem dX12_old_9 : decode cX12_old 9 = .ok (.invokevirtual 239, 3) := by decide +kernel
theorem dX12_old_12 : decode cX12_old 12 = .ok (.istore_n 2, 1) := by decide +kernel
theorem dX12_old_13 : decode cX12_old 13 = .ok (.iload_n 2, 1) := by decide +kernel
theorem dX12_old_14 : decode cX12_old 14 = .ok (.ifCond .ge 5, 3) := by decide +kernel
theorem dX12_old_17 : decode cX12_old 17 = .ok (.iload_n 2, 1) := by decide +kernel
theorem dX12_old_18 : decode cX12_old 18 = .ok (.ireturn, 1) := by decide +kernel
theorem dX12_old_19 : decode cX12_old 19 = .ok (.iconst 0, 1) := by decide +kernel
theorem dX12_old_20 : decode cX12_old 20 = .ok (.istore_n 3, 1) := by decide +kernel
theorem dX12_old_21 : decode cX12_old 21 = .ok (.iconst 0, 1) := by decide +kernel
theorem dX12_old_22 : decode cX12_old 22 = .ok (.istore 4, 2) := by decide +kernel
theorem dX12_old_24 : decode cX12_old 24 = .ok (.iconst 0, 1) := by decide +kernel
theorem dX12_old_25 : decode cX12_old 25 = .ok (.istore 5, 2) := by decide +kernel
theorem dX12_old_27 : decode cX12_old 27 = .ok (.iconst 0, 1) := by decide +kernel
theorem dX12_old_28 : decode cX12_old 28 = .ok (.istore 6, 2) := by decide +kernel
theorem dX12_old_30 : decode cX12_old 30 = .ok (.iload 6, 2) := by decide +kernel
theorem dX12_old_32 : decode cX12_old 32 = .ok (.aload_n 0, 1) := by decide +kernel
theorem dX12_old_33 : decode cX12_old 33 = .ok (.getfield 68, 3) := by decide +kernel
theorem dX12_old_36 : decode cX12_old 36 = .ok (.iload_n 1, 1) := by decide +kernel
theorem dX12_old_37 : decode cX12_old 37 = .ok (.iaload, 1) := by decide +kernel
theorem dX12_old_38 : decode cX12_old 38 = .ok (.if_icmp .ge 230, 3) := by decide +kernel
theorem dX12_old_41 : decode cX12_old 41 = .ok (.iconst (-1), 1) := by decide +kernel
theorem dX12_old_42 : decode cX12_old 42 = .ok (.istore 7, 2) := by decide +kernel
theorem dX12_old_44 : decode cX12_old 44 = .ok (.iconst 0, 1) := by decide +kernel
theorem dX12_old_45 : decode cX12_old 45 = .ok (.istore 8, 2) := by decide +kernel
theorem dX12_old_47 : decode cX12_old 47 = .ok (.iload 8, 2) := by decide +kernel
theorem dX12_old_49 : decode cX12_old 49 = .ok (.aload_n 0, 1) := by decide +kernel
theorem dX12_old_50 : decode cX12_old 50 = .ok (.getfield 68, 3) := by decide +kernel
theorem dX12_old_53 : decode cX12_old 53 = .ok (.iload_n 1, 1) := by decide +kernel
theorem dX12_old_54 : decode cX12_old 54 = .ok (.iaload, 1) := by decide +kernel
theorem dX12_old_55 : decode cX12_old 55 = .ok (.if_icmp .ge 62, 3) := by decide +kernel
theorem dX12_old_58 : decode cX12_old 58 = .ok (.iload 4, 2) := by decide +kernel
theorem dX12_old_60 : decode cX12_old 60 = .ok (.iload 8, 2) := by decide +kernel
theorem dX12_old_62 : decode cX12_old 62 = .ok (.ishr, 1) := by decide +kernel
theorem dX12_old_63 : decode cX12_old 63 = .ok (.iconst 1, 1) := by decide +kernel
theorem dX12_old_64 : decode cX12_old 64 = .ok (.iand, 1) := by decide +kernel
theorem dX12_old_65 : decode cX12_old 65 = .ok (.ifCond .ne 29, 3) := by decide +kernel
theorem dX12_old_68 : decode cX12_old 68 = .ok (.iload 7, 2) := by decide +kernel
theorem dX12_old_70 : decode cX12_old 70 = .ok (.ifCond .lt 20, 3) := by decide +kernel
theorem dX12_old_73 : decode cX12_old 73 = .ok (.aload_n 0, 1) := by decide +kernel
theorem dX12_old_74 : decode cX12_old 74 = .ok (.iload_n 1, 1) := by decide +kernel
theorem dX12_old_75 : decode cX12_old 75 = .ok (.iload 8, 2) := by decide +kernel
theorem dX12_old_77 : decode cX12_old 77 = .ok (.invokevirtual 213, 3) := by decide +kernel
theorem dX12_old_80 : decode cX12_old 80 = .ok (.aload_n 0, 1) := by decide +kernel
theorem dX12_old_81 : decode cX12_old 81 = .ok (.iload_n 1, 1) := by decide +kernel
theorem dX12_old_82 : decode cX12_old 82 = .ok (.iload 7, 2) := by decide +kernel
theorem dX12_old_84 : decode cX12_old 84 = .ok (.invokevirtual 213, 3) := by decide +kernel
theorem dX12_old_87 : decode cX12_old 87 = .ok (.if_icmp .ge 7, 3) := by decide +kernel
theorem dX12_old_90 : decode cX12_old 90 = .ok (.iconst 1, 1) := by decide +kernel
theorem dX12_old_91 : decode cX12_old 91 = .ok (.goto 4, 3) := by decide +kernel
theorem dX12_old_94 : decode cX12_old 94 = .ok (.iconst 0, 1) := by decide +kernel
theorem dX12_old_95 : decode cX12_old 95 = .ok (.istore 9, 2) := by decide +kernel
theorem dX12_old_97 : decode cX12_old 97 = .ok (.iload 9, 2) := by decide +kernel
theorem dX12_old_99 : decode cX12_old 99 = .ok (.ifCond .eq 8, 3) := by decide +kernel
theorem dX12_old_102 : decode cX12_old 102 = .ok (.iload 8, 2) := by decide +kernel
theorem dX12_old_104 : decode cX12_old 104 = .ok (.goto 5, 3) := by decide +kernel
theorem dX12_old_107 : decode cX12_old 107 = .ok (.iload 7, 2) := by decide +kernel
theorem dX12_old_109 : decode cX12_old 109 = .ok (.istore 7, 2) := by decide +kernel
theorem dX12_old_111 : decode cX12_old 111 = .ok (.iinc 8 1, 3) := by decide +kernel
theorem dX12_old_114 : decode cX12_old 114 = .ok (.goto (-67), 3) := by decide +kernel
theorem dX12_old_117 : decode cX12_old 117 = .ok (.iload 4, 2) := by decide +kernel
theorem dX12_old_119 : decode cX12_old 119 = .ok (.iconst 1, 1) := by decide +kernel
theorem dX12_old_120 : decode cX12_old 120 = .ok (.iload 7, 2) := by decide +kernel
theorem dX12_old_122 : decode cX12_old 122 = .ok (.ishl, 1) := by decide +kernel
theorem dX12_old_123 : decode cX12_old 123 = .ok (.ior, 1) := by decide +kernel
theorem dX12_old_124 : decode cX12_old 124 = .ok (.istore 4, 2) := by decide +kernel
theorem dX12_old_126 : decode cX12_old 126 = .ok (.iconst (-1), 1) := by decide +kernel
theorem dX12_old_127 : decode cX12_old 127 = .ok (.istore 8, 2) := by decide +kernel
theorem dX12_old_129 : decode cX12_old 129 = .ok (.iconst 0, 1) := by decide +kernel
theorem dX12_old_130 : decode cX12_old 130 = .ok (.istore 9, 2) := by decide +kernel
theorem dX12_old_132 : decode cX12_old 132 = .ok (.iload 9, 2) := by decide +kernel
theorem dX12_old_134 : decode cX12_old 134 = .ok (.aload_n 0, 1) := by decide +kernel
theorem dX12_old_135 : decode cX12_old 135 = .ok (.getfield 81, 3) := by decide +kernel
theorem dX12_old_138 : decode cX12_old 138 = .ok (.if_icmp .ge 93, 3) := by decide +kernel
theorem dX12_old_141 : decode cX12_old 141 = .ok (.aload_n 0, 1) := by decide +kernel
theorem dX12_old_142 : decode cX12_old 142 = .ok (.getfield 20, 3) := by decide +kernel
theorem dX12_old_145 : decode cX12_old 145 = .ok (.iload 9, 2) := by decide +kernel
theorem dX12_old_147 : decode cX12_old 147 = .ok (.iaload, 1) := by decide +kernel
theorem dX12_old_148 : decode cX12_old 148 = .ok (.aload_n 0, 1) := by decide +kernel
theorem dX12_old_149 : decode cX12_old 149 = .ok (.getfield 23, 3) := by decide +kernel
theorem dX12_old_152 : decode cX12_old 152 = .ok (.iload 9, 2) := by decide +kernel
theorem dX12_old_154 : decode cX12_old 154 = .ok (.iaload, 1) := by decide +kernel
theorem dX12_old_155 : decode cX12_old 155 = .ok (.iadd, 1) := by decide +kernel
theorem dX12_old_156 : decode cX12_old 156 = .ok (.istore 10, 2) := by decide +kernel
theorem dX12_old_158 : decode cX12_old 158 = .ok (.iload_n 3, 1) := by decide +kernel
theorem dX12_old_159 : decode cX12_old 159 = .ok (.iload 9, 2) := by decide +kernel
theorem dX12_old_161 : decode cX12_old 161 = .ok (.ishr, 1) := by decide +kernel
theorem dX12_old_162 : decode cX12_old 162 = .ok (.iconst 1, 1) := by decide +kernel
theorem dX12_old_163 : decode cX12_old 163 = .ok (.iand, 1) := by decide +kernel
theorem dX12_old_164 : decode cX12_old 164 = .ok (.ifCond .ne 19, 3) := by decide +kernel
theorem dX12_old_167 : decode cX12_old 167 = .ok (.iload 10, 2) := by decide +kernel
theorem dX12_old_169 : decode cX12_old 169 = .ok (.aload_n 0, 1) := by decide +kernel
theorem dX12_old_170 : decode cX12_old 170 = .ok (.iload_n 1, 1) := by decide +kernel
theorem dX12_old_171 : decode cX12_old 171 = .ok (.iload 7, 2) := by decide +kernel
theorem dX12_old_173 : decode cX12_old 173 = .ok (.invokevirtual 213, 3) := by decide +kernel
theorem dX12_old_176 : decode cX12_old 176 = .ok (.if_icmp .lt 7, 3) := by decide +kernel
theorem dX12_old_179 : decode cX12_old 179 = .ok (.iconst 1, 1) := by decide +kernel
theorem dX12_old_180 : decode cX12_old 180 = .ok (.goto 4, 3) := by decide +kernel
theorem dX12_old_183 : decode cX12_old 183 = .ok (.iconst 0, 1) := by decide +kernel
theorem dX12_old_184 : decode cX12_old 184 = .ok (.istore 11, 2) := by decide +kernel
theorem dX12_old_186 : decode cX12_old 186 = .ok (.iload 11, 2) := by decide +kernel
theorem dX12_old_188 : decode cX12_old 188 = .ok (.ifCond .eq 33, 3) := by decide +kernel
theorem dX12_old_191 : decode cX12_old 191 = .ok (.iload 8, 2) := by decide +kernel
theorem dX12_old_193 : decode cX12_old 193 = .ok (.ifCond .lt 23, 3) := by decide +kernel
theorem dX12_old_196 : decode cX12_old 196 = .ok (.iload 10, 2) := by decide +kernel
theorem dX12_old_198 : decode cX12_old 198 = .ok (.aload_n 0, 1) := by decide +kernel
theorem dX12_old_199 : decode cX12_old 199 = .ok (.getfield 20, 3) := by decide +kernel
theorem dX12_old_202 : decode cX12_old 202 = .ok (.iload 8, 2) := by decide +kernel
theorem dX12_old_204 : decode cX12_old 204 = .ok (.iaload, 1) := by decide +kernel
theorem dX12_old_205 : decode cX12_old 205 = .ok (.aload_n 0, 1) := by decide +kernel
theorem dX12_old_206 : decode cX12_old 206 = .ok (.getfield 23, 3) := by decide +kernel
theorem dX12_old_209 : decode cX12_old 209 = .ok (.iload 8, 2) := by decide +kernel
theorem dX12_old_211 : decode cX12_old 211 = .ok (.iaload, 1) := by decide +kernel
theorem dX12_old_212 : decode cX12_old 212 = .ok (.iadd, 1) := by decide +kernel
theorem dX12_old_213 : decode cX12_old 213 = .ok (.if_icmp .ge 8, 3) := by decide +kernel
theorem dX12_old_216 : decode cX12_old 216 = .ok (.iload 9, 2) := by decide +kernel
theorem dX12_old_218 : decode cX12_old 218 = .ok (.goto 5, 3) := by decide +kernel
theorem dX12_old_221 : decode cX12_old 221 = .ok (.iload 8, 2) := by decide +kernel
theorem dX12_old_223 : decode cX12_old 223 = .ok (.istore 8, 2) := by decide +kernel
theorem dX12_old_225 : decode cX12_old 225 = .ok (.iinc 9 1, 3) := by decide +kernel
theorem dX12_old_228 : decode cX12_old 228 = .ok (.goto (-96), 3) := by decide +kernel
theorem dX12_old_231 : decode cX12_old 231 = .ok (.iload_n 3, 1) := by decide +kernel
theorem dX12_old_232 : decode cX12_old 232 = .ok (.iload 8, 2) := by decide +kernel
theorem dX12_old_234 : decode cX12_old 234 = .ok (.ifCond .ge 7, 3) := by decide +kernel
theorem dX12_old_237 : decode cX12_old 237 = .ok (.iconst 0, 1) := by decide +kernel
theorem dX12_old_238 : decode cX12_old 238 = .ok (.goto 7, 3) := by decide +kernel
theorem dX12_old_241 : decode cX12_old 241 = .ok (.iconst 1, 1) := by decide +kernel
theorem dX12_old_242 : decode cX12_old 242 = .ok (.iload 8, 2) := by decide +kernel
theorem dX12_old_244 : decode cX12_old 244 = .ok (.ishl, 1) := by decide +kernel
theorem dX12_old_245 : decode cX12_old 245 = .ok (.ior, 1) := by decide +kernel
theorem dX12_old_246 : decode cX12_old 246 = .ok (.istore_n 3, 1) := by decide +kernel
theorem dX12_old_247 : decode cX12_old 247 = .ok (.iload 5, 2) := by decide +kernel
theorem dX12_old_249 : decode cX12_old 249 = .ok (.iload 8, 2) := by decide +kernel
theorem dX12_old_251 : decode cX12_old 251 = .ok (.ifCond .ge 7, 3) := by decide +kernel
theorem dX12_old_254 : decode cX12_old 254 = .ok (.iconst 0, 1) := by decide +kernel
theorem dX12_old_255 : decode cX12_old 255 = .ok (.goto 4, 3) := by decide +kernel
theorem dX12_old_258 : decode cX12_old 258 = .ok (.iconst 1, 1) := by decide +kernel
theorem dX12_old_259 : decode cX12_old 259 = .ok (.iadd, 1) := by decide +kernel
theorem dX12_old_260 : decode cX12_old 260 = .ok (.istore 5, 2) := by decide +kernel
theorem dX12_old_262 : decode cX12_old 262 = .ok (.iinc 6 1, 3) := by decide +kernel
theorem dX12_old_265 : decode cX12_old 265 = .ok (.goto (-235), 3) := by decide +kernel
theorem dX12_old_268 : decode cX12_old 268 = .ok (.iload 5, 2) := by decide +kernel
theorem dX12_old_270 : decode cX12_old 270 = .ok (.ireturn, 1) := by decide +kernel
theorem dX12_shape_0 : decode cX12_shape 0 = .ok (.aload_n 0, 1) := by decide +kernel
theorem dX12_shape_1 : decode cX12_shape 1 = .ok (.iconst 0, 1) := by decide +kernel
theorem dX12_shape_2 : decode cX12_shape 2 = .ok (.putfield 78, 3) := by decide +kernel
theorem dX12_shape_5 : decode cX12_shape 5 = .ok (.aload_n 0, 1) := by decide +kernel
theorem dX12_shape_6 : decode cX12_shape 6 = .ok (.iload_n 1, 1) := by decide +kernel
theorem dX12_shape_7 : decode cX12_shape 7 = .ok (.invokevirtual 166, 3) := by decide +kernel
theorem dX12_shape_10 : decode cX12_shape 10 = .ok (.ifCond .eq 38, 3) := by decide +kernel
theorem dX12_shape_13 : decode cX12_shape 13 = .ok (.iload_n 2, 1) := by decide +kernel
theorem dX12_shape_14 : decode cX12_shape 14 = .ok (.i2l, 1) := by decide +kernel
theorem dX12_shape_15 : decode cX12_shape 15 = .ok (.lconst 0, 1) := by decide +kernel
theorem dX12_shape_16 : decode cX12_shape 16 = .ok (.ldc2_w 194, 3) := by decide +kernel
theorem dX12_shape_19 : decode cX12_shape 19 = .ok (.invokestatic 84, 3) := by decide +kernel
theorem dX12_shape_22 : decode cX12_shape 22 = .ok (.ifCond .eq 26, 3) := by decide +kernel
theorem dX12_shape_25 : decode cX12_shape 25 = .ok (.aload_n 0, 1) := by decide +kernel
theorem dX12_shape_26 : decode cX12_shape 26 = .ok (.getfield 20, 3) := by decide +kernel
theorem dX12_shape_29 : decode cX12_shape 29 = .ok (.iload_n 1, 1) := by decide +kernel
theorem dX12_shape_30 : decode cX12_shape 30 = .ok (.iaload, 1) := by decide +kernel
theorem dX12_shape_31 : decode cX12_shape 31 = .ok (.iload_n 2, 1) := by decide +kernel
theorem dX12_shape_32 : decode cX12_shape 32 = .ok (.iadd, 1) := by decide +kernel
theorem dX12_shape_33 : decode cX12_shape 33 = .ok (.aload_n 0, 1) := by decide +kernel
theorem dX12_shape_34 : decode cX12_shape 34 = .ok (.getfield 7, 3) := by decide +kernel
theorem dX12_shape_37 : decode cX12_shape 37 = .ok (.isub, 1) := by decide +kernel
theorem dX12_shape_38 : decode cX12_shape 38 = .ok (.aload_n 0, 1) := by decide +kernel
theorem dX12_shape_39 : decode cX12_shape 39 = .ok (.getfield 16, 3) := by decide +kernel
theorem dX12_shape_42 : decode cX12_shape 42 = .ok (.iload_n 1, 1) := by decide +kernel
theorem dX12_shape_43 : decode cX12_shape 43 = .ok (.iaload, 1) := by decide +kernel
theorem dX12_shape_44 : decode cX12_shape 44 = .ok (.isub, 1) := by decide +kernel
theorem dX12_shape_45 : decode cX12_shape 45 = .ok (.goto 5, 3) := by decide +kernel
theorem dX12_shape_48 : decode cX12_shape 48 = .ok (.ldc 206, 2) := by decide +kernel
theorem dX12_shape_50 : decode cX12_shape 50 = .ok (.ireturn, 1) := by decide +kernel
theorem dX12_draw_0 : decode cX12_draw 0 = .ok (.aload_n 0, 1) := by decide +kernel
theorem dX12_draw_1 : decode cX12_draw 1 = .ok (.aload_n 0, 1) := by decide +kernel
theorem dX12_draw_2 : decode cX12_draw 2 = .ok (.getfield 245, 3) := by decide +kernel
theorem dX12_draw_5 : decode cX12_draw 5 = .ok (.ldc 248, 2) := by decide +kernel
theorem dX12_draw_7 : decode cX12_draw 7 = .ok (.imul, 1) := by decide +kernel
theorem dX12_draw_8 : decode cX12_draw 8 = .ok (.sipush 12345, 3) := by decide +kernel
theorem dX12_draw_11 : decode cX12_draw 11 = .ok (.iadd, 1) := by decide +kernel
theorem dX12_draw_12 : decode cX12_draw 12 = .ok (.putfield 245, 3) := by decide +kernel
theorem dX12_draw_15 : decode cX12_draw 15 = .ok (.aload_n 0, 1) := by decide +kernel
theorem dX12_draw_16 : decode cX12_draw 16 = .ok (.getfield 245, 3) := by decide +kernel
theorem dX12_draw_19 : decode cX12_draw 19 = .ok (.ldc 249, 2) := by decide +kernel
theorem dX12_draw_21 : decode cX12_draw 21 = .ok (.iand, 1) := by decide +kernel
theorem dX12_draw_22 : decode cX12_draw 22 = .ok (.ldc 250, 2) := by decide +kernel
theorem dX12_draw_24 : decode cX12_draw 24 = .ok (.idiv, 1) := by decide +kernel
theorem dX12_draw_25 : decode cX12_draw 25 = .ok (.iload_n 1, 1) := by decide +kernel
theorem dX12_draw_26 : decode cX12_draw 26 = .ok (.irem, 1) := by decide +kernel
theorem dX12_draw_27 : decode cX12_draw 27 = .ok (.ireturn, 1) := by decide +kernel
theorem dX12_seeded_0 : decode cX12_seeded 0 = .ok (.aload_n 0, 1) := by decide +kernel
theorem dX12_seeded_1 : decode cX12_seeded 1 = .ok (.iconst 0, 1) := by decide +kernel
theorem dX12_seeded_2 : decode cX12_seeded 2 = .ok (.putfield 78, 3) := by decide +kernel
theorem dX12_seeded_5 : decode cX12_seeded 5 = .ok (.iload_n 1, 1) := by decide +kernel
theorem dX12_seeded_6 : decode cX12_seeded 6 = .ok (.i2l, 1) := by decide +kernel
theorem dX12_seeded_7 : decode cX12_seeded 7 = .ok (.lconst 1, 1) := by decide +kernel
theorem dX12_seeded_8 : decode cX12_seeded 8 = .ok (.ldc2_w 196, 3) := by decide +kernel
theorem dX12_seeded_11 : decode cX12_seeded 11 = .ok (.invokestatic 84, 3) := by decide +kernel
theorem dX12_seeded_14 : decode cX12_seeded 14 = .ok (.ifCond .eq 13, 3) := by decide +kernel
theorem dX12_seeded_17 : decode cX12_seeded 17 = .ok (.iload_n 3, 1) := by decide +kernel
theorem dX12_seeded_18 : decode cX12_seeded 18 = .ok (.i2l, 1) := by decide +kernel
theorem dX12_seeded_19 : decode cX12_seeded 19 = .ok (.lconst 0, 1) := by decide +kernel
theorem dX12_seeded_20 : decode cX12_seeded 20 = .ok (.lconst 1, 1) := by decide +kernel
theorem dX12_seeded_21 : decode cX12_seeded 21 = .ok (.invokestatic 84, 3) := by decide +kernel
theorem dX12_seeded_24 : decode cX12_seeded 24 = .ok (.ifCond .ne 5, 3) := by decide +kernel
theorem dX12_seeded_27 : decode cX12_seeded 27 = .ok (.iconst (-1), 1) := by decide +kernel
theorem dX12_seeded_28 : decode cX12_seeded 28 = .ok (.ireturn, 1) := by decide +kernel
theorem dX12_seeded_29 : decode cX12_seeded 29 = .ok (.aload_n 0, 1) := by decide +kernel
theorem dX12_seeded_30 : decode cX12_seeded 30 = .ok (.getfield 81, 3) := by decide +kernel
theorem dX12_seeded_33 : decode cX12_seeded 33 = .ok (.ifCond .ne 6, 3) := by decide +kernel
theorem dX12_seeded_36 : decode cX12_seeded 36 = .ok (.bipush (-3), 2) := by decide +kernel
theorem dX12_seeded_38 : decode cX12_seeded 38 = .ok (.ireturn, 1) := by decide +kernel
theorem dX12_seeded_39 : decode cX12_seeded 39 = .ok (.aload_n 0, 1) := by decide +kernel
theorem dX12_seeded_40 : decode cX12_seeded 40 = .ok (.invokevirtual 183, 3) := by decide +kernel
theorem dX12_seeded_43 : decode cX12_seeded 43 = .ok (.aload_n 0, 1) := by decide +kernel
theorem dX12_seeded_44 : decode cX12_seeded 44 = .ok (.iload_n 2, 1) := by decide +kernel
theorem dX12_seeded_45 : decode cX12_seeded 45 = .ok (.putfield 245, 3) := by decide +kernel
theorem dX12_seeded_48 : decode cX12_seeded 48 = .ok (.iconst 0, 1) := by decide +kernel
theorem dX12_seeded_49 : decode cX12_seeded 49 = .ok (.istore 4, 2) := by decide +kernel
theorem dX12_seeded_51 : decode cX12_seeded 51 = .ok (.iconst 0, 1) := by decide +kernel
theorem dX12_seeded_52 : decode cX12_seeded 52 = .ok (.istore 5, 2) := by decide +kernel
theorem dX12_seeded_54 : decode cX12_seeded 54 = .ok (.iload 5, 2) := by decide +kernel
theorem dX12_seeded_56 : decode cX12_seeded 56 = .ok (.iload_n 1, 1) := by decide +kernel
theorem dX12_seeded_57 : decode cX12_seeded 57 = .ok (.if_icmp .ge 61, 3) := by decide +kernel
theorem dX12_seeded_60 : decode cX12_seeded 60 = .ok (.aload_n 0, 1) := by decide +kernel
theorem dX12_seeded_61 : decode cX12_seeded 61 = .ok (.aload_n 0, 1) := by decide +kernel
theorem dX12_seeded_62 : decode cX12_seeded 62 = .ok (.getfield 81, 3) := by decide +kernel
theorem dX12_seeded_65 : decode cX12_seeded 65 = .ok (.invokevirtual 251, 3) := by decide +kernel
theorem dX12_seeded_68 : decode cX12_seeded 68 = .ok (.istore 6, 2) := by decide +kernel
theorem dX12_seeded_70 : decode cX12_seeded 70 = .ok (.aload_n 0, 1) := by decide +kernel
theorem dX12_seeded_71 : decode cX12_seeded 71 = .ok (.bipush 8, 2) := by decide +kernel
theorem dX12_seeded_73 : decode cX12_seeded 73 = .ok (.invokevirtual 251, 3) := by decide +kernel
theorem dX12_seeded_76 : decode cX12_seeded 76 = .ok (.istore 7, 2) := by decide +kernel
theorem dX12_seeded_78 : decode cX12_seeded 78 = .ok (.aload_n 0, 1) := by decide +kernel
theorem dX12_seeded_79 : decode cX12_seeded 79 = .ok (.bipush 10, 2) := by decide +kernel
theorem dX12_seeded_81 : decode cX12_seeded 81 = .ok (.invokevirtual 251, 3) := by decide +kernel
theorem dX12_seeded_84 : decode cX12_seeded 84 = .ok (.istore 8, 2) := by decide +kernel
theorem dX12_seeded_86 : decode cX12_seeded 86 = .ok (.aload_n 0, 1) := by decide +kernel
theorem dX12_seeded_87 : decode cX12_seeded 87 = .ok (.iload 7, 2) := by decide +kernel
theorem dX12_seeded_89 : decode cX12_seeded 89 = .ok (.iload 8, 2) := by decide +kernel
theorem dX12_seeded_91 : decode cX12_seeded 91 = .ok (.iload 6, 2) := by decide +kernel
theorem dX12_seeded_93 : decode cX12_seeded 93 = .ok (.invokevirtual 169, 3) := by decide +kernel
theorem dX12_seeded_96 : decode cX12_seeded 96 = .ok (.ifCond .eq 16, 3) := by decide +kernel
theorem dX12_seeded_99 : decode cX12_seeded 99 = .ok (.aload_n 0, 1) := by decide +kernel
theorem dX12_seeded_100 : decode cX12_seeded 100 = .ok (.iload 7, 2) := by decide +kernel
theorem dX12_seeded_102 : decode cX12_seeded 102 = .ok (.iload 8, 2) := by decide +kernel
theorem dX12_seeded_104 : decode cX12_seeded 104 = .ok (.iload 6, 2) := by decide +kernel
theorem dX12_seeded_106 : decode cX12_seeded 106 = .ok (.invokevirtual 173, 3) := by decide +kernel
theorem dX12_seeded_109 : decode cX12_seeded 109 = .ok (.iinc 4 1, 3) := by decide +kernel
theorem dX12_seeded_112 : decode cX12_seeded 112 = .ok (.iinc 5 1, 3) := by decide +kernel
theorem dX12_seeded_115 : decode cX12_seeded 115 = .ok (.goto (-61), 3) := by decide +kernel
theorem dX12_seeded_118 : decode cX12_seeded 118 = .ok (.aload_n 0, 1) := by decide +kernel
theorem dX12_seeded_119 : decode cX12_seeded 119 = .ok (.invokevirtual 203, 3) := by decide +kernel
theorem dX12_seeded_122 : decode cX12_seeded 122 = .ok (.istore 5, 2) := by decide +kernel
theorem dX12_seeded_124 : decode cX12_seeded 124 = .ok (.aload_n 0, 1) := by decide +kernel
theorem dX12_seeded_125 : decode cX12_seeded 125 = .ok (.invokevirtual 189, 3) := by decide +kernel
theorem dX12_seeded_128 : decode cX12_seeded 128 = .ok (.iload_n 3, 1) := by decide +kernel
theorem dX12_seeded_129 : decode cX12_seeded 129 = .ok (.ifCond .ne 8, 3) := by decide +kernel
theorem dX12_seeded_132 : decode cX12_seeded 132 = .ok (.iload 5, 2) := by decide +kernel
theorem dX12_seeded_134 : decode cX12_seeded 134 = .ok (.goto 5, 3) := by decide +kernel
theorem dX12_seeded_137 : decode cX12_seeded 137 = .ok (.iload 4, 2) := by decide +kernel
theorem dX12_seeded_139 : decode cX12_seeded 139 = .ok (.ireturn, 1) := by decide +kernel
theorem dX12_skippedIn_0 : decode cX12_skippedIn 0 = .ok (.aload_n 0, 1) := by decide +kernel
theorem dX12_skippedIn_1 : decode cX12_skippedIn 1 = .ok (.getfield 65, 3) := by decide +kernel
theorem dX12_skippedIn_4 : decode cX12_skippedIn 4 = .ok (.iload_n 1, 1) := by decide +kernel
theorem dX12_skippedIn_5 : decode cX12_skippedIn 5 = .ok (.iaload, 1) := by decide +kernel
theorem dX12_skippedIn_6 : decode cX12_skippedIn 6 = .ok (.ifCond .ne 9, 3) := by decide +kernel
theorem dX12_skippedIn_9 : decode cX12_skippedIn 9 = .ok (.ldc2_w 254, 3) := by decide +kernel
theorem dX12_skippedIn_12 : decode cX12_skippedIn 12 = .ok (.goto 22, 3) := by decide +kernel
theorem dX12_skippedIn_15 : decode cX12_skippedIn 15 = .ok (.aload_n 0, 1) := by decide +kernel
theorem dX12_skippedIn_16 : decode cX12_skippedIn 16 = .ok (.getfield 65, 3) := by decide +kernel
theorem dX12_skippedIn_19 : decode cX12_skippedIn 19 = .ok (.iload_n 1, 1) := by decide +kernel
theorem dX12_skippedIn_20 : decode cX12_skippedIn 20 = .ok (.iaload, 1) := by decide +kernel
theorem dX12_skippedIn_21 : decode cX12_skippedIn 21 = .ok (.iconst 1, 1) := by decide +kernel
theorem dX12_skippedIn_22 : decode cX12_skippedIn 22 = .ok (.if_icmp .ne 9, 3) := by decide +kernel
theorem dX12_skippedIn_25 : decode cX12_skippedIn 25 = .ok (.ldc2_w 256, 3) := by decide +kernel
theorem dX12_skippedIn_28 : decode cX12_skippedIn 28 = .ok (.goto 6, 3) := by decide +kernel
theorem dX12_skippedIn_31 : decode cX12_skippedIn 31 = .ok (.ldc2_w 258, 3) := by decide +kernel
theorem dX12_skippedIn_34 : decode cX12_skippedIn 34 = .ok (.lreturn, 1) := by decide +kernel
theorem dX12_judge_0 : decode cX12_judge 0 = .ok (.aload_n 0, 1) := by decide +kernel
theorem dX12_judge_1 : decode cX12_judge 1 = .ok (.iconst 0, 1) := by decide +kernel
theorem dX12_judge_2 : decode cX12_judge 2 = .ok (.putfield 78, 3) := by decide +kernel
theorem dX12_judge_5 : decode cX12_judge 5 = .ok (.iload_n 1, 1) := by decide +kernel
theorem dX12_judge_6 : decode cX12_judge 6 = .ok (.i2l, 1) := by decide +kernel
theorem dX12_judge_7 : decode cX12_judge 7 = .ok (.lconst 0, 1) := by decide +kernel
theorem dX12_judge_8 : decode cX12_judge 8 = .ok (.ldc2_w 192, 3) := by decide +kernel
theorem dX12_judge_11 : decode cX12_judge 11 = .ok (.invokestatic 84, 3) := by decide +kernel
theorem dX12_judge_14 : decode cX12_judge 14 = .ok (.ifCond .eq 11, 3) := by decide +kernel
theorem dX12_judge_17 : decode cX12_judge 17 = .ok (.aload_n 0, 1) := by decide +kernel
theorem dX12_judge_18 : decode cX12_judge 18 = .ok (.iload_n 2, 1) := by decide +kernel
theorem dX12_judge_19 : decode cX12_judge 19 = .ok (.invokevirtual 260, 3) := by decide +kernel
theorem dX12_judge_22 : decode cX12_judge 22 = .ok (.goto 4, 3) := by decide +kernel
theorem dX12_judge_25 : decode cX12_judge 25 = .ok (.iconst (-1), 1) := by decide +kernel
theorem dX12_judge_26 : decode cX12_judge 26 = .ok (.istore_n 3, 1) := by decide +kernel
theorem dX12_judge_27 : decode cX12_judge 27 = .ok (.iload_n 3, 1) := by decide +kernel
theorem dX12_judge_28 : decode cX12_judge 28 = .ok (.ifCond .ge 5, 3) := by decide +kernel
theorem dX12_judge_31 : decode cX12_judge 31 = .ok (.iload_n 3, 1) := by decide +kernel
theorem dX12_judge_32 : decode cX12_judge 32 = .ok (.ireturn, 1) := by decide +kernel
theorem dX12_judge_33 : decode cX12_judge 33 = .ok (.iconst 0, 1) := by decide +kernel
theorem dX12_judge_34 : decode cX12_judge 34 = .ok (.istore 4, 2) := by decide +kernel
theorem dX12_judge_36 : decode cX12_judge 36 = .ok (.iload 4, 2) := by decide +kernel
theorem dX12_judge_38 : decode cX12_judge 38 = .ok (.aload_n 0, 1) := by decide +kernel
theorem dX12_judge_39 : decode cX12_judge 39 = .ok (.getfield 81, 3) := by decide +kernel
theorem dX12_judge_42 : decode cX12_judge 42 = .ok (.if_icmp .ge 62, 3) := by decide +kernel
theorem dX12_judge_45 : decode cX12_judge 45 = .ok (.iload 4, 2) := by decide +kernel
theorem dX12_judge_47 : decode cX12_judge 47 = .ok (.aload_n 0, 1) := by decide +kernel
theorem dX12_judge_48 : decode cX12_judge 48 = .ok (.getfield 68, 3) := by decide +kernel
theorem dX12_judge_51 : decode cX12_judge 51 = .ok (.iload_n 2, 1) := by decide +kernel
theorem dX12_judge_52 : decode cX12_judge 52 = .ok (.iaload, 1) := by decide +kernel
theorem dX12_judge_53 : decode cX12_judge 53 = .ok (.if_icmp .ge 51, 3) := by decide +kernel
theorem dX12_judge_56 : decode cX12_judge 56 = .ok (.aload_n 0, 1) := by decide +kernel
theorem dX12_judge_57 : decode cX12_judge 57 = .ok (.getfield 71, 3) := by decide +kernel
theorem dX12_judge_60 : decode cX12_judge 60 = .ok (.bipush 100, 2) := by decide +kernel
theorem dX12_judge_62 : decode cX12_judge 62 = .ok (.iload_n 2, 1) := by decide +kernel
theorem dX12_judge_63 : decode cX12_judge 63 = .ok (.imul, 1) := by decide +kernel
theorem dX12_judge_64 : decode cX12_judge 64 = .ok (.iload 4, 2) := by decide +kernel
theorem dX12_judge_66 : decode cX12_judge 66 = .ok (.iadd, 1) := by decide +kernel
theorem dX12_judge_67 : decode cX12_judge 67 = .ok (.laload, 1) := by decide +kernel
theorem dX12_judge_68 : decode cX12_judge 68 = .ok (.lstore 5, 2) := by decide +kernel
theorem dX12_judge_70 : decode cX12_judge 70 = .ok (.lload 5, 2) := by decide +kernel
theorem dX12_judge_72 : decode cX12_judge 72 = .ok (.aload_n 0, 1) := by decide +kernel
theorem dX12_judge_73 : decode cX12_judge 73 = .ok (.iload_n 2, 1) := by decide +kernel
theorem dX12_judge_74 : decode cX12_judge 74 = .ok (.invokevirtual 263, 3) := by decide +kernel
theorem dX12_judge_77 : decode cX12_judge 77 = .ok (.lcmp, 1) := by decide +kernel
theorem dX12_judge_78 : decode cX12_judge 78 = .ok (.ifCond .eq 20, 3) := by decide +kernel
theorem dX12_judge_81 : decode cX12_judge 81 = .ok (.lload 5, 2) := by decide +kernel
theorem dX12_judge_83 : decode cX12_judge 83 = .ok (.aload_n 0, 1) := by decide +kernel
theorem dX12_judge_84 : decode cX12_judge 84 = .ok (.iload 4, 2) := by decide +kernel
theorem dX12_judge_86 : decode cX12_judge 86 = .ok (.iload_n 1, 1) := by decide +kernel
theorem dX12_judge_87 : decode cX12_judge 87 = .ok (.invokevirtual 88, 3) := by decide +kernel
theorem dX12_judge_90 : decode cX12_judge 90 = .ok (.i2l, 1) := by decide +kernel
theorem dX12_judge_91 : decode cX12_judge 91 = .ok (.lcmp, 1) := by decide +kernel
theorem dX12_judge_92 : decode cX12_judge 92 = .ok (.ifCond .eq 6, 3) := by decide +kernel
theorem dX12_judge_95 : decode cX12_judge 95 = .ok (.iload 4, 2) := by decide +kernel
theorem dX12_judge_97 : decode cX12_judge 97 = .ok (.ireturn, 1) := by decide +kernel
theorem dX12_judge_98 : decode cX12_judge 98 = .ok (.iinc 4 1, 3) := by decide +kernel
theorem dX12_judge_101 : decode cX12_judge 101 = .ok (.goto (-65), 3) := by decide +kernel
theorem dX12_judge_104 : decode cX12_judge 104 = .ok (.aload_n 0, 1) := by decide +kernel
theorem dX12_judge_105 : decode cX12_judge 105 = .ok (.getfield 68, 3) := by decide +kernel
theorem dX12_judge_108 : decode cX12_judge 108 = .ok (.iload_n 2, 1) := by decide +kernel
theorem dX12_judge_109 : decode cX12_judge 109 = .ok (.iaload, 1) := by decide +kernel
theorem dX12_judge_110 : decode cX12_judge 110 = .ok (.aload_n 0, 1) := by decide +kernel
theorem dX12_judge_111 : decode cX12_judge 111 = .ok (.getfield 81, 3) := by decide +kernel
theorem dX12_judge_114 : decode cX12_judge 114 = .ok (.if_icmp .ge 12, 3) := by decide +kernel
theorem dX12_judge_117 : decode cX12_judge 117 = .ok (.aload_n 0, 1) := by decide +kernel
theorem dX12_judge_118 : decode cX12_judge 118 = .ok (.getfield 68, 3) := by decide +kernel
theorem dX12_judge_121 : decode cX12_judge 121 = .ok (.iload_n 2, 1) := by decide +kernel
theorem dX12_judge_122 : decode cX12_judge 122 = .ok (.iaload, 1) := by decide +kernel
theorem dX12_judge_123 : decode cX12_judge 123 = .ok (.goto 25, 3) := by decide +kernel
theorem dX12_judge_126 : decode cX12_judge 126 = .ok (.aload_n 0, 1) := by decide +kernel
theorem dX12_judge_127 : decode cX12_judge 127 = .ok (.getfield 68, 3) := by decide +kernel
theorem dX12_judge_130 : decode cX12_judge 130 = .ok (.iload_n 2, 1) := by decide +kernel
theorem dX12_judge_131 : decode cX12_judge 131 = .ok (.iaload, 1) := by decide +kernel
theorem dX12_judge_132 : decode cX12_judge 132 = .ok (.aload_n 0, 1) := by decide +kernel
theorem dX12_judge_133 : decode cX12_judge 133 = .ok (.getfield 81, 3) := by decide +kernel
theorem dX12_judge_136 : decode cX12_judge 136 = .ok (.if_icmp .le 10, 3) := by decide +kernel
theorem dX12_judge_139 : decode cX12_judge 139 = .ok (.aload_n 0, 1) := by decide +kernel
theorem dX12_judge_140 : decode cX12_judge 140 = .ok (.getfield 81, 3) := by decide +kernel
theorem dX12_judge_143 : decode cX12_judge 143 = .ok (.goto 5, 3) := by decide +kernel
theorem dX12_judge_146 : decode cX12_judge 146 = .ok (.bipush (-4), 2) := by decide +kernel
theorem dX12_judge_148 : decode cX12_judge 148 = .ok (.ireturn, 1) := by decide +kernel
theorem dX12_count_0 : decode cX12_count 0 = .ok (.aload_n 0, 1) := by decide +kernel
theorem dX12_count_1 : decode cX12_count 1 = .ok (.iconst 0, 1) := by decide +kernel
theorem dX12_count_2 : decode cX12_count 2 = .ok (.putfield 78, 3) := by decide +kernel
theorem dX12_count_5 : decode cX12_count 5 = .ok (.iconst 0, 1) := by decide +kernel
theorem dX12_count_6 : decode cX12_count 6 = .ok (.istore_n 2, 1) := by decide +kernel
theorem dX12_count_7 : decode cX12_count 7 = .ok (.iconst 0, 1) := by decide +kernel
theorem dX12_count_8 : decode cX12_count 8 = .ok (.istore_n 3, 1) := by decide +kernel
theorem dX12_count_9 : decode cX12_count 9 = .ok (.iconst 0, 1) := by decide +kernel
theorem dX12_count_10 : decode cX12_count 10 = .ok (.istore 4, 2) := by decide +kernel
theorem dX12_count_12 : decode cX12_count 12 = .ok (.iload 4, 2) := by decide +kernel
theorem dX12_count_14 : decode cX12_count 14 = .ok (.aload_n 0, 1) := by decide +kernel
theorem dX12_count_15 : decode cX12_count 15 = .ok (.getfield 81, 3) := by decide +kernel
theorem dX12_count_18 : decode cX12_count 18 = .ok (.if_icmp .ge 29, 3) := by decide +kernel
theorem dX12_count_21 : decode cX12_count 21 = .ok (.iload_n 2, 1) := by decide +kernel
theorem dX12_count_22 : decode cX12_count 22 = .ok (.aload_n 0, 1) := by decide +kernel
theorem dX12_count_23 : decode cX12_count 23 = .ok (.getfield 23, 3) := by decide +kernel
theorem dX12_count_26 : decode cX12_count 26 = .ok (.iload 4, 2) := by decide +kernel
theorem dX12_count_28 : decode cX12_count 28 = .ok (.iaload, 1) := by decide +kernel
theorem dX12_count_29 : decode cX12_count 29 = .ok (.iadd, 1) := by decide +kernel
theorem dX12_count_30 : decode cX12_count 30 = .ok (.istore_n 2, 1) := by decide +kernel
theorem dX12_count_31 : decode cX12_count 31 = .ok (.iload_n 3, 1) := by decide +kernel
theorem dX12_count_32 : decode cX12_count 32 = .ok (.aload_n 0, 1) := by decide +kernel
theorem dX12_count_33 : decode cX12_count 33 = .ok (.getfield 20, 3) := by decide +kernel
theorem dX12_count_36 : decode cX12_count 36 = .ok (.iload 4, 2) := by decide +kernel
theorem dX12_count_38 : decode cX12_count 38 = .ok (.iaload, 1) := by decide +kernel
theorem dX12_count_39 : decode cX12_count 39 = .ok (.iadd, 1) := by decide +kernel
theorem dX12_count_40 : decode cX12_count 40 = .ok (.istore_n 3, 1) := by decide +kernel
theorem dX12_count_41 : decode cX12_count 41 = .ok (.iinc 4 1, 3) := by decide +kernel
theorem dX12_count_44 : decode cX12_count 44 = .ok (.goto (-32), 3) := by decide +kernel
theorem dX12_count_47 : decode cX12_count 47 = .ok (.iload_n 1, 1) := by decide +kernel
theorem dX12_count_48 : decode cX12_count 48 = .ok (.tableswitch 73 0 6 #[44, 49, 54, 59, 64, 69, 71], 44) := by decide +kernel
theorem dX12_count_92 : decode cX12_count 92 = .ok (.aload_n 0, 1) := by decide +kernel
theorem dX12_count_93 : decode cX12_count 93 = .ok (.getfield 81, 3) := by decide +kernel
theorem dX12_count_96 : decode cX12_count 96 = .ok (.ireturn, 1) := by decide +kernel
theorem dX12_count_97 : decode cX12_count 97 = .ok (.aload_n 0, 1) := by decide +kernel
theorem dX12_count_98 : decode cX12_count 98 = .ok (.getfield 92, 3) := by decide +kernel
theorem dX12_count_101 : decode cX12_count 101 = .ok (.ireturn, 1) := by decide +kernel
theorem dX12_count_102 : decode cX12_count 102 = .ok (.aload_n 0, 1) := by decide +kernel
theorem dX12_count_103 : decode cX12_count 103 = .ok (.getfield 102, 3) := by decide +kernel
theorem dX12_count_106 : decode cX12_count 106 = .ok (.ireturn, 1) := by decide +kernel
theorem dX12_count_107 : decode cX12_count 107 = .ok (.aload_n 0, 1) := by decide +kernel
theorem dX12_count_108 : decode cX12_count 108 = .ok (.getfield 7, 3) := by decide +kernel
theorem dX12_count_111 : decode cX12_count 111 = .ok (.ireturn, 1) := by decide +kernel
theorem dX12_count_112 : decode cX12_count 112 = .ok (.aload_n 0, 1) := by decide +kernel
theorem dX12_count_113 : decode cX12_count 113 = .ok (.getfield 13, 3) := by decide +kernel
theorem dX12_count_116 : decode cX12_count 116 = .ok (.ireturn, 1) := by decide +kernel
theorem dX12_count_117 : decode cX12_count 117 = .ok (.iload_n 2, 1) := by decide +kernel
theorem dX12_count_118 : decode cX12_count 118 = .ok (.ireturn, 1) := by decide +kernel
theorem dX12_count_119 : decode cX12_count 119 = .ok (.iload_n 3, 1) := by decide +kernel
theorem dX12_count_120 : decode cX12_count 120 = .ok (.ireturn, 1) := by decide +kernel
theorem dX12_count_121 : decode cX12_count 121 = .ok (.iconst (-1), 1) := by decide +kernel
theorem dX12_count_122 : decode cX12_count 122 = .ok (.ireturn, 1) := by decide +kernel
theorem dX12_wrongSort_0 : decode cX12_wrongSort 0 = .ok (.aload_n 0, 1) := by decide +kernel
theorem dX12_wrongSort_1 : decode cX12_wrongSort 1 = .ok (.iload_n 1, 1) := by decide +kernel
theorem dX12_wrongSort_2 : decode cX12_wrongSort 2 = .ok (.invokevirtual 260, 3) := by decide +kernel
theorem dX12_wrongSort_5 : decode cX12_wrongSort 5 = .ok (.ifCond .ge 11, 3) := by decide +kernel
theorem dX12_wrongSort_8 : decode cX12_wrongSort 8 = .ok (.aload_n 0, 1) := by decide +kernel
theorem dX12_wrongSort_9 : decode cX12_wrongSort 9 = .ok (.iload_n 1, 1) := by decide +kernel
theorem dX12_wrongSort_10 : decode cX12_wrongSort 10 = .ok (.invokevirtual 260, 3) := by decide +kernel
theorem dX12_wrongSort_13 : decode cX12_wrongSort 13 = .ok (.goto 19, 3) := by decide +kernel
theorem dX12_wrongSort_16 : decode cX12_wrongSort 16 = .ok (.aload_n 0, 1) := by decide +kernel
theorem dX12_wrongSort_17 : decode cX12_wrongSort 17 = .ok (.getfield 65, 3) := by decide +kernel
theorem dX12_wrongSort_20 : decode cX12_wrongSort 20 = .ok (.iload_n 1, 1) := by decide +kernel
theorem dX12_wrongSort_21 : decode cX12_wrongSort 21 = .ok (.iaload, 1) := by decide +kernel
theorem dX12_wrongSort_22 : decode cX12_wrongSort 22 = .ok (.iload_n 2, 1) := by decide +kernel
theorem dX12_wrongSort_23 : decode cX12_wrongSort 23 = .ok (.if_icmp .eq 8, 3) := by decide +kernel
theorem dX12_wrongSort_26 : decode cX12_wrongSort 26 = .ok (.bipush (-12), 2) := by decide +kernel
theorem dX12_wrongSort_28 : decode cX12_wrongSort 28 = .ok (.goto 4, 3) := by decide +kernel
theorem dX12_wrongSort_31 : decode cX12_wrongSort 31 = .ok (.iconst 0, 1) := by decide +kernel
theorem dX12_wrongSort_32 : decode cX12_wrongSort 32 = .ok (.ireturn, 1) := by decide +kernel
theorem dX12_keep_0 : decode cX12_keep 0 = .ok (.aload_n 0, 1) := by decide +kernel
theorem dX12_keep_1 : decode cX12_keep 1 = .ok (.iconst 0, 1) := by decide +kernel
theorem dX12_keep_2 : decode cX12_keep 2 = .ok (.putfield 78, 3) := by decide +kernel
theorem dX12_keep_5 : decode cX12_keep 5 = .ok (.iload_n 1, 1) := by decide +kernel
theorem dX12_keep_6 : decode cX12_keep 6 = .ok (.i2l, 1) := by decide +kernel
theorem dX12_keep_7 : decode cX12_keep 7 = .ok (.lconst 0, 1) := by decide +kernel
theorem dX12_keep_8 : decode cX12_keep 8 = .ok (.ldc2_w 198, 3) := by decide +kernel
theorem dX12_keep_11 : decode cX12_keep 11 = .ok (.invokestatic 84, 3) := by decide +kernel
theorem dX12_keep_14 : decode cX12_keep 14 = .ok (.ifCond .eq 43, 3) := by decide +kernel
theorem dX12_keep_17 : decode cX12_keep 17 = .ok (.iload_n 2, 1) := by decide +kernel
theorem dX12_keep_18 : decode cX12_keep 18 = .ok (.i2l, 1) := by decide +kernel
theorem dX12_keep_19 : decode cX12_keep 19 = .ok (.lconst 0, 1) := by decide +kernel
theorem dX12_keep_20 : decode cX12_keep 20 = .ok (.lconst 1, 1) := by decide +kernel
theorem dX12_keep_21 : decode cX12_keep 21 = .ok (.invokestatic 84, 3) := by decide +kernel
theorem dX12_keep_24 : decode cX12_keep 24 = .ok (.ifCond .eq 33, 3) := by decide +kernel
theorem dX12_keep_27 : decode cX12_keep 27 = .ok (.iload_n 2, 1) := by decide +kernel
theorem dX12_keep_28 : decode cX12_keep 28 = .ok (.iconst 1, 1) := by decide +kernel
theorem dX12_keep_29 : decode cX12_keep 29 = .ok (.if_icmp .ne 30, 3) := by decide +kernel
theorem dX12_keep_32 : decode cX12_keep 32 = .ok (.iload_n 3, 1) := by decide +kernel
theorem dX12_keep_33 : decode cX12_keep 33 = .ok (.i2l, 1) := by decide +kernel
theorem dX12_keep_34 : decode cX12_keep 34 = .ok (.lconst 0, 1) := by decide +kernel
theorem dX12_keep_35 : decode cX12_keep 35 = .ok (.ldc2_w 198, 3) := by decide +kernel
theorem dX12_keep_38 : decode cX12_keep 38 = .ok (.invokestatic 84, 3) := by decide +kernel
theorem dX12_keep_41 : decode cX12_keep 41 = .ok (.ifCond .eq 16, 3) := by decide +kernel
theorem dX12_keep_44 : decode cX12_keep 44 = .ok (.iload 4, 2) := by decide +kernel
theorem dX12_keep_46 : decode cX12_keep 46 = .ok (.i2l, 1) := by decide +kernel
theorem dX12_keep_47 : decode cX12_keep 47 = .ok (.lconst 0, 1) := by decide +kernel
theorem dX12_keep_48 : decode cX12_keep 48 = .ok (.ldc2_w 194, 3) := by decide +kernel
theorem dX12_keep_51 : decode cX12_keep 51 = .ok (.invokestatic 84, 3) := by decide +kernel
theorem dX12_keep_54 : decode cX12_keep 54 = .ok (.ifCond .ne 5, 3) := by decide +kernel
theorem dX12_keep_57 : decode cX12_keep 57 = .ok (.iconst (-1), 1) := by decide +kernel
theorem dX12_keep_58 : decode cX12_keep 58 = .ok (.ireturn, 1) := by decide +kernel
theorem dX12_keep_59 : decode cX12_keep 59 = .ok (.aload_n 0, 1) := by decide +kernel
theorem dX12_keep_60 : decode cX12_keep 60 = .ok (.getfield 56, 3) := by decide +kernel
theorem dX12_keep_63 : decode cX12_keep 63 = .ok (.iload_n 1, 1) := by decide +kernel
theorem dX12_keep_64 : decode cX12_keep 64 = .ok (.iload_n 2, 1) := by decide +kernel
theorem dX12_keep_65 : decode cX12_keep 65 = .ok (.iastore, 1) := by decide +kernel
theorem dX12_keep_66 : decode cX12_keep 66 = .ok (.aload_n 0, 1) := by decide +kernel
theorem dX12_keep_67 : decode cX12_keep 67 = .ok (.getfield 59, 3) := by decide +kernel
theorem dX12_keep_70 : decode cX12_keep 70 = .ok (.iload_n 1, 1) := by decide +kernel
theorem dX12_keep_71 : decode cX12_keep 71 = .ok (.iload_n 2, 1) := by decide +kernel
theorem dX12_keep_72 : decode cX12_keep 72 = .ok (.iconst 1, 1) := by decide +kernel
theorem dX12_keep_73 : decode cX12_keep 73 = .ok (.if_icmp .ne 7, 3) := by decide +kernel
theorem dX12_keep_76 : decode cX12_keep 76 = .ok (.iload_n 3, 1) := by decide +kernel
theorem dX12_keep_77 : decode cX12_keep 77 = .ok (.goto 4, 3) := by decide +kernel
theorem dX12_keep_80 : decode cX12_keep 80 = .ok (.iconst 0, 1) := by decide +kernel
theorem dX12_keep_81 : decode cX12_keep 81 = .ok (.iastore, 1) := by decide +kernel
theorem dX12_keep_82 : decode cX12_keep 82 = .ok (.aload_n 0, 1) := by decide +kernel
theorem dX12_keep_83 : decode cX12_keep 83 = .ok (.getfield 62, 3) := by decide +kernel
theorem dX12_keep_86 : decode cX12_keep 86 = .ok (.iload_n 1, 1) := by decide +kernel
theorem dX12_keep_87 : decode cX12_keep 87 = .ok (.iload_n 2, 1) := by decide +kernel
theorem dX12_keep_88 : decode cX12_keep 88 = .ok (.iconst 1, 1) := by decide +kernel
theorem dX12_keep_89 : decode cX12_keep 89 = .ok (.if_icmp .ne 8, 3) := by decide +kernel
theorem dX12_keep_92 : decode cX12_keep 92 = .ok (.iload 4, 2) := by decide +kernel
theorem dX12_keep_94 : decode cX12_keep 94 = .ok (.goto 4, 3) := by decide +kernel
theorem dX12_keep_97 : decode cX12_keep 97 = .ok (.iconst 0, 1) := by decide +kernel
theorem dX12_keep_98 : decode cX12_keep 98 = .ok (.iastore, 1) := by decide +kernel
theorem dX12_keep_99 : decode cX12_keep 99 = .ok (.iconst 0, 1) := by decide +kernel
theorem dX12_keep_100 : decode cX12_keep 100 = .ok (.ireturn, 1) := by decide +kernel
theorem dX12_wrongRow_0 : decode cX12_wrongRow 0 = .ok (.iload_n 1, 1) := by decide +kernel
theorem dX12_wrongRow_1 : decode cX12_wrongRow 1 = .ok (.i2l, 1) := by decide +kernel
theorem dX12_wrongRow_2 : decode cX12_wrongRow 2 = .ok (.lconst 0, 1) := by decide +kernel
theorem dX12_wrongRow_3 : decode cX12_wrongRow 3 = .ok (.ldc2_w 198, 3) := by decide +kernel
theorem dX12_wrongRow_6 : decode cX12_wrongRow 6 = .ok (.invokestatic 84, 3) := by decide +kernel
theorem dX12_wrongRow_9 : decode cX12_wrongRow 9 = .ok (.ifCond .ne 7, 3) := by decide +kernel
theorem dX12_wrongRow_12 : decode cX12_wrongRow 12 = .ok (.iconst (-1), 1) := by decide +kernel
theorem dX12_wrongRow_13 : decode cX12_wrongRow 13 = .ok (.goto 33, 3) := by decide +kernel
theorem dX12_wrongRow_16 : decode cX12_wrongRow 16 = .ok (.aload_n 0, 1) := by decide +kernel
theorem dX12_wrongRow_17 : decode cX12_wrongRow 17 = .ok (.getfield 56, 3) := by decide +kernel
theorem dX12_wrongRow_20 : decode cX12_wrongRow 20 = .ok (.iload_n 1, 1) := by decide +kernel
theorem dX12_wrongRow_21 : decode cX12_wrongRow 21 = .ok (.iaload, 1) := by decide +kernel
theorem dX12_wrongRow_22 : decode cX12_wrongRow 22 = .ok (.ifCond .ne 8, 3) := by decide +kernel
theorem dX12_wrongRow_25 : decode cX12_wrongRow 25 = .ok (.bipush (-11), 2) := by decide +kernel
theorem dX12_wrongRow_27 : decode cX12_wrongRow 27 = .ok (.goto 19, 3) := by decide +kernel
theorem dX12_wrongRow_30 : decode cX12_wrongRow 30 = .ok (.aload_n 0, 1) := by decide +kernel
theorem dX12_wrongRow_31 : decode cX12_wrongRow 31 = .ok (.getfield 56, 3) := by decide +kernel
theorem dX12_wrongRow_34 : decode cX12_wrongRow 34 = .ok (.iload_n 1, 1) := by decide +kernel
theorem dX12_wrongRow_35 : decode cX12_wrongRow 35 = .ok (.iaload, 1) := by decide +kernel
theorem dX12_wrongRow_36 : decode cX12_wrongRow 36 = .ok (.iconst 2, 1) := by decide +kernel
theorem dX12_wrongRow_37 : decode cX12_wrongRow 37 = .ok (.if_icmp .eq 8, 3) := by decide +kernel
theorem dX12_wrongRow_40 : decode cX12_wrongRow 40 = .ok (.bipush (-12), 2) := by decide +kernel
theorem dX12_wrongRow_42 : decode cX12_wrongRow 42 = .ok (.goto 4, 3) := by decide +kernel
theorem dX12_wrongRow_45 : decode cX12_wrongRow 45 = .ok (.iconst 0, 1) := by decide +kernel
theorem dX12_wrongRow_46 : decode cX12_wrongRow 46 = .ok (.ireturn, 1) := by decide +kernel
theorem dX12_narrowed_0 : decode cX12_narrowed 0 = .ok (.iload_n 1, 1) := by decide +kernel
theorem dX12_narrowed_1 : decode cX12_narrowed 1 = .ok (.ifCond .ne 9, 3) := by decide +kernel
theorem dX12_narrowed_4 : decode cX12_narrowed 4 = .ok (.iload_n 0, 1) := by decide +kernel
theorem dX12_narrowed_5 : decode cX12_narrowed 5 = .ok (.i2b, 1) := by decide +kernel
theorem dX12_narrowed_6 : decode cX12_narrowed 6 = .ok (.i2l, 1) := by decide +kernel
theorem dX12_narrowed_7 : decode cX12_narrowed 7 = .ok (.goto 16, 3) := by decide +kernel
theorem dX12_narrowed_10 : decode cX12_narrowed 10 = .ok (.iload_n 1, 1) := by decide +kernel
theorem dX12_narrowed_11 : decode cX12_narrowed 11 = .ok (.iconst 1, 1) := by decide +kernel
theorem dX12_narrowed_12 : decode cX12_narrowed 12 = .ok (.if_icmp .ne 9, 3) := by decide +kernel
theorem dX12_narrowed_15 : decode cX12_narrowed 15 = .ok (.iload_n 0, 1) := by decide +kernel
theorem dX12_narrowed_16 : decode cX12_narrowed 16 = .ok (.i2s, 1) := by decide +kernel
theorem dX12_narrowed_17 : decode cX12_narrowed 17 = .ok (.i2l, 1) := by decide +kernel
theorem dX12_narrowed_18 : decode cX12_narrowed 18 = .ok (.goto 5, 3) := by decide +kernel
theorem dX12_narrowed_21 : decode cX12_narrowed 21 = .ok (.iload_n 0, 1) := by decide +kernel
theorem dX12_narrowed_22 : decode cX12_narrowed 22 = .ok (.i2l, 1) := by decide +kernel
theorem dX12_narrowed_23 : decode cX12_narrowed 23 = .ok (.lreturn, 1) := by decide +kernel
theorem dX12_row_0 : decode cX12_row 0 = .ok (.aload_n 0, 1) := by decide +kernel
theorem dX12_row_1 : decode cX12_row 1 = .ok (.iconst 0, 1) := by decide +kernel
theorem dX12_row_2 : decode cX12_row 2 = .ok (.putfield 78, 3) := by decide +kernel
theorem dX12_row_5 : decode cX12_row 5 = .ok (.iload_n 1, 1) := by decide +kernel
theorem dX12_row_6 : decode cX12_row 6 = .ok (.i2l, 1) := by decide +kernel
theorem dX12_row_7 : decode cX12_row 7 = .ok (.lconst 0, 1) := by decide +kernel
theorem dX12_row_8 : decode cX12_row 8 = .ok (.ldc2_w 198, 3) := by decide +kernel
theorem dX12_row_11 : decode cX12_row 11 = .ok (.invokestatic 84, 3) := by decide +kernel
theorem dX12_row_14 : decode cX12_row 14 = .ok (.ifCond .eq 21, 3) := by decide +kernel
theorem dX12_row_17 : decode cX12_row 17 = .ok (.iload_n 2, 1) := by decide +kernel
theorem dX12_row_18 : decode cX12_row 18 = .ok (.i2l, 1) := by decide +kernel
theorem dX12_row_19 : decode cX12_row 19 = .ok (.lconst 0, 1) := by decide +kernel
theorem dX12_row_20 : decode cX12_row 20 = .ok (.ldc2_w 237, 3) := by decide +kernel
theorem dX12_row_23 : decode cX12_row 23 = .ok (.invokestatic 84, 3) := by decide +kernel
theorem dX12_row_26 : decode cX12_row 26 = .ok (.ifCond .eq 9, 3) := by decide +kernel
theorem dX12_row_29 : decode cX12_row 29 = .ok (.iload_n 3, 1) := by decide +kernel
theorem dX12_row_30 : decode cX12_row 30 = .ok (.bipush 100, 2) := by decide +kernel
theorem dX12_row_32 : decode cX12_row 32 = .ok (.if_icmp .le 5, 3) := by decide +kernel
theorem dX12_row_35 : decode cX12_row 35 = .ok (.iconst (-1), 1) := by decide +kernel
theorem dX12_row_36 : decode cX12_row 36 = .ok (.ireturn, 1) := by decide +kernel
theorem dX12_row_37 : decode cX12_row 37 = .ok (.iload_n 3, 1) := by decide +kernel
theorem dX12_row_38 : decode cX12_row 38 = .ok (.ifCond .ge 6, 3) := by decide +kernel
theorem dX12_row_41 : decode cX12_row 41 = .ok (.bipush (-14), 2) := by decide +kernel
theorem dX12_row_43 : decode cX12_row 43 = .ok (.ireturn, 1) := by decide +kernel
theorem dX12_row_44 : decode cX12_row 44 = .ok (.aload_n 0, 1) := by decide +kernel
theorem dX12_row_45 : decode cX12_row 45 = .ok (.getfield 56, 3) := by decide +kernel
theorem dX12_row_48 : decode cX12_row 48 = .ok (.iload_n 1, 1) := by decide +kernel
theorem dX12_row_49 : decode cX12_row 49 = .ok (.iconst 2, 1) := by decide +kernel
theorem dX12_row_50 : decode cX12_row 50 = .ok (.iastore, 1) := by decide +kernel
theorem dX12_row_51 : decode cX12_row 51 = .ok (.aload_n 0, 1) := by decide +kernel
theorem dX12_row_52 : decode cX12_row 52 = .ok (.getfield 65, 3) := by decide +kernel
theorem dX12_row_55 : decode cX12_row 55 = .ok (.iload_n 1, 1) := by decide +kernel
theorem dX12_row_56 : decode cX12_row 56 = .ok (.iload_n 2, 1) := by decide +kernel
theorem dX12_row_57 : decode cX12_row 57 = .ok (.iastore, 1) := by decide +kernel
theorem dX12_row_58 : decode cX12_row 58 = .ok (.aload_n 0, 1) := by decide +kernel
theorem dX12_row_59 : decode cX12_row 59 = .ok (.getfield 68, 3) := by decide +kernel
theorem dX12_row_62 : decode cX12_row 62 = .ok (.iload_n 1, 1) := by decide +kernel
theorem dX12_row_63 : decode cX12_row 63 = .ok (.iload_n 3, 1) := by decide +kernel
theorem dX12_row_64 : decode cX12_row 64 = .ok (.iastore, 1) := by decide +kernel
theorem dX12_row_65 : decode cX12_row 65 = .ok (.iconst 0, 1) := by decide +kernel
theorem dX12_row_66 : decode cX12_row 66 = .ok (.istore 4, 2) := by decide +kernel
theorem dX12_row_68 : decode cX12_row 68 = .ok (.iload 4, 2) := by decide +kernel
theorem dX12_row_70 : decode cX12_row 70 = .ok (.bipush 100, 2) := by decide +kernel
theorem dX12_row_72 : decode cX12_row 72 = .ok (.if_icmp .ge 22, 3) := by decide +kernel
theorem dX12_row_75 : decode cX12_row 75 = .ok (.aload_n 0, 1) := by decide +kernel
theorem dX12_row_76 : decode cX12_row 76 = .ok (.getfield 71, 3) := by decide +kernel
theorem dX12_row_79 : decode cX12_row 79 = .ok (.bipush 100, 2) := by decide +kernel
theorem dX12_row_81 : decode cX12_row 81 = .ok (.iload_n 1, 1) := by decide +kernel
theorem dX12_row_82 : decode cX12_row 82 = .ok (.imul, 1) := by decide +kernel
theorem dX12_row_83 : decode cX12_row 83 = .ok (.iload 4, 2) := by decide +kernel
theorem dX12_row_85 : decode cX12_row 85 = .ok (.iadd, 1) := by decide +kernel
theorem dX12_row_86 : decode cX12_row 86 = .ok (.lconst 0, 1) := by decide +kernel
theorem dX12_row_87 : decode cX12_row 87 = .ok (.lastore, 1) := by decide +kernel
theorem dX12_row_88 : decode cX12_row 88 = .ok (.iinc 4 1, 3) := by decide +kernel
theorem dX12_row_91 : decode cX12_row 91 = .ok (.goto (-23), 3) := by decide +kernel
theorem dX12_row_94 : decode cX12_row 94 = .ok (.iconst 0, 1) := by decide +kernel
theorem dX12_row_95 : decode cX12_row 95 = .ok (.ireturn, 1) := by decide +kernel
theorem dX12_put_0 : decode cX12_put 0 = .ok (.aload_n 0, 1) := by decide +kernel
theorem dX12_put_1 : decode cX12_put 1 = .ok (.iconst 0, 1) := by decide +kernel
theorem dX12_put_2 : decode cX12_put 2 = .ok (.putfield 78, 3) := by decide +kernel
theorem dX12_put_5 : decode cX12_put 5 = .ok (.aload_n 0, 1) := by decide +kernel
theorem dX12_put_6 : decode cX12_put 6 = .ok (.iload_n 1, 1) := by decide +kernel
theorem dX12_put_7 : decode cX12_put 7 = .ok (.invokevirtual 260, 3) := by decide +kernel
theorem dX12_put_10 : decode cX12_put 10 = .ok (.istore 4, 2) := by decide +kernel
theorem dX12_put_12 : decode cX12_put 12 = .ok (.iload 4, 2) := by decide +kernel
theorem dX12_put_14 : decode cX12_put 14 = .ok (.ifCond .ge 6, 3) := by decide +kernel
theorem dX12_put_17 : decode cX12_put 17 = .ok (.iload 4, 2) := by decide +kernel
theorem dX12_put_19 : decode cX12_put 19 = .ok (.ireturn, 1) := by decide +kernel
theorem dX12_put_20 : decode cX12_put 20 = .ok (.iload_n 2, 1) := by decide +kernel
theorem dX12_put_21 : decode cX12_put 21 = .ok (.i2l, 1) := by decide +kernel
theorem dX12_put_22 : decode cX12_put 22 = .ok (.lconst 0, 1) := by decide +kernel
theorem dX12_put_23 : decode cX12_put 23 = .ok (.aload_n 0, 1) := by decide +kernel
theorem dX12_put_24 : decode cX12_put 24 = .ok (.getfield 68, 3) := by decide +kernel
theorem dX12_put_27 : decode cX12_put 27 = .ok (.iload_n 1, 1) := by decide +kernel
theorem dX12_put_28 : decode cX12_put 28 = .ok (.iaload, 1) := by decide +kernel
theorem dX12_put_29 : decode cX12_put 29 = .ok (.iconst 1, 1) := by decide +kernel
theorem dX12_put_30 : decode cX12_put 30 = .ok (.isub, 1) := by decide +kernel
theorem dX12_put_31 : decode cX12_put 31 = .ok (.i2l, 1) := by decide +kernel
theorem dX12_put_32 : decode cX12_put 32 = .ok (.invokestatic 84, 3) := by decide +kernel
theorem dX12_put_35 : decode cX12_put 35 = .ok (.ifCond .ne 6, 3) := by decide +kernel
theorem dX12_put_38 : decode cX12_put 38 = .ok (.bipush (-13), 2) := by decide +kernel
theorem dX12_put_40 : decode cX12_put 40 = .ok (.ireturn, 1) := by decide +kernel
theorem dX12_put_41 : decode cX12_put 41 = .ok (.aload_n 0, 1) := by decide +kernel
theorem dX12_put_42 : decode cX12_put 42 = .ok (.getfield 71, 3) := by decide +kernel
theorem dX12_put_45 : decode cX12_put 45 = .ok (.bipush 100, 2) := by decide +kernel
theorem dX12_put_47 : decode cX12_put 47 = .ok (.iload_n 1, 1) := by decide +kernel
theorem dX12_put_48 : decode cX12_put 48 = .ok (.imul, 1) := by decide +kernel
theorem dX12_put_49 : decode cX12_put 49 = .ok (.iload_n 2, 1) := by decide +kernel
theorem dX12_put_50 : decode cX12_put 50 = .ok (.iadd, 1) := by decide +kernel
theorem dX12_put_51 : decode cX12_put 51 = .ok (.iload_n 3, 1) := by decide +kernel
theorem dX12_put_52 : decode cX12_put 52 = .ok (.aload_n 0, 1) := by decide +kernel
theorem dX12_put_53 : decode cX12_put 53 = .ok (.getfield 65, 3) := by decide +kernel
theorem dX12_put_56 : decode cX12_put 56 = .ok (.iload_n 1, 1) := by decide +kernel
theorem dX12_put_57 : decode cX12_put 57 = .ok (.iaload, 1) := by decide +kernel
theorem dX12_put_58 : decode cX12_put 58 = .ok (.invokestatic 267, 3) := by decide +kernel
theorem dX12_put_61 : decode cX12_put 61 = .ok (.lastore, 1) := by decide +kernel
theorem dX12_put_62 : decode cX12_put 62 = .ok (.iconst 0, 1) := by decide +kernel
theorem dX12_put_63 : decode cX12_put 63 = .ok (.ireturn, 1) := by decide +kernel
theorem dX12_element_0 : decode cX12_element 0 = .ok (.aload_n 0, 1) := by decide +kernel
theorem dX12_element_1 : decode cX12_element 1 = .ok (.iload_n 1, 1) := by decide +kernel
theorem dX12_element_2 : decode cX12_element 2 = .ok (.invokevirtual 260, 3) := by decide +kernel
theorem dX12_element_5 : decode cX12_element 5 = .ok (.istore_n 3, 1) := by decide +kernel
theorem dX12_element_6 : decode cX12_element 6 = .ok (.aload_n 0, 1) := by decide +kernel
theorem dX12_element_7 : decode cX12_element 7 = .ok (.iload_n 3, 1) := by decide +kernel
theorem dX12_element_8 : decode cX12_element 8 = .ok (.iconst (-1), 1) := by decide +kernel
theorem dX12_element_9 : decode cX12_element 9 = .ok (.if_icmp .ne 7, 3) := by decide +kernel
theorem dX12_element_12 : decode cX12_element 12 = .ok (.iconst 1, 1) := by decide +kernel
theorem dX12_element_13 : decode cX12_element 13 = .ok (.goto 30, 3) := by decide +kernel
theorem dX12_element_16 : decode cX12_element 16 = .ok (.iload_n 3, 1) := by decide +kernel
theorem dX12_element_17 : decode cX12_element 17 = .ok (.ifCond .lt 21, 3) := by decide +kernel
theorem dX12_element_20 : decode cX12_element 20 = .ok (.iload_n 2, 1) := by decide +kernel
theorem dX12_element_21 : decode cX12_element 21 = .ok (.i2l, 1) := by decide +kernel
theorem dX12_element_22 : decode cX12_element 22 = .ok (.lconst 0, 1) := by decide +kernel
theorem dX12_element_23 : decode cX12_element 23 = .ok (.aload_n 0, 1) := by decide +kernel
theorem dX12_element_24 : decode cX12_element 24 = .ok (.getfield 68, 3) := by decide +kernel
theorem dX12_element_27 : decode cX12_element 27 = .ok (.iload_n 1, 1) := by decide +kernel
theorem dX12_element_28 : decode cX12_element 28 = .ok (.iaload, 1) := by decide +kernel
theorem dX12_element_29 : decode cX12_element 29 = .ok (.iconst 1, 1) := by decide +kernel
theorem dX12_element_30 : decode cX12_element 30 = .ok (.isub, 1) := by decide +kernel
theorem dX12_element_31 : decode cX12_element 31 = .ok (.i2l, 1) := by decide +kernel
theorem dX12_element_32 : decode cX12_element 32 = .ok (.invokestatic 84, 3) := by decide +kernel
theorem dX12_element_35 : decode cX12_element 35 = .ok (.ifCond .ne 7, 3) := by decide +kernel
theorem dX12_element_38 : decode cX12_element 38 = .ok (.iconst 2, 1) := by decide +kernel
theorem dX12_element_39 : decode cX12_element 39 = .ok (.goto 4, 3) := by decide +kernel
theorem dX12_element_42 : decode cX12_element 42 = .ok (.iconst 0, 1) := by decide +kernel
theorem dX12_element_43 : decode cX12_element 43 = .ok (.putfield 78, 3) := by decide +kernel
theorem dX12_element_46 : decode cX12_element 46 = .ok (.aload_n 0, 1) := by decide +kernel
theorem dX12_element_47 : decode cX12_element 47 = .ok (.getfield 78, 3) := by decide +kernel
theorem dX12_element_50 : decode cX12_element 50 = .ok (.ifCond .le 7, 3) := by decide +kernel
theorem dX12_element_53 : decode cX12_element 53 = .ok (.lconst 0, 1) := by decide +kernel
theorem dX12_element_54 : decode cX12_element 54 = .ok (.goto 14, 3) := by decide +kernel
theorem dX12_element_57 : decode cX12_element 57 = .ok (.aload_n 0, 1) := by decide +kernel
theorem dX12_element_58 : decode cX12_element 58 = .ok (.getfield 71, 3) := by decide +kernel
theorem dX12_element_61 : decode cX12_element 61 = .ok (.bipush 100, 2) := by decide +kernel
theorem dX12_element_63 : decode cX12_element 63 = .ok (.iload_n 1, 1) := by decide +kernel
theorem dX12_element_64 : decode cX12_element 64 = .ok (.imul, 1) := by decide +kernel
theorem dX12_element_65 : decode cX12_element 65 = .ok (.iload_n 2, 1) := by decide +kernel
theorem dX12_element_66 : decode cX12_element 66 = .ok (.iadd, 1) := by decide +kernel
theorem dX12_element_67 : decode cX12_element 67 = .ok (.laload, 1) := by decide +kernel
theorem dX12_element_68 : decode cX12_element 68 = .ok (.lreturn, 1) := by decide +kernel
theorem dX12_copy_0 : decode cX12_copy 0 = .ok (.aload_n 0, 1) := by decide +kernel
theorem dX12_copy_1 : decode cX12_copy 1 = .ok (.iconst 0, 1) := by decide +kernel
theorem dX12_copy_2 : decode cX12_copy 2 = .ok (.putfield 78, 3) := by decide +kernel
theorem dX12_copy_5 : decode cX12_copy 5 = .ok (.iload_n 1, 1) := by decide +kernel
theorem dX12_copy_6 : decode cX12_copy 6 = .ok (.i2l, 1) := by decide +kernel
theorem dX12_copy_7 : decode cX12_copy 7 = .ok (.lconst 0, 1) := by decide +kernel
theorem dX12_copy_8 : decode cX12_copy 8 = .ok (.ldc2_w 198, 3) := by decide +kernel
theorem dX12_copy_11 : decode cX12_copy 11 = .ok (.invokestatic 84, 3) := by decide +kernel
theorem dX12_copy_14 : decode cX12_copy 14 = .ok (.ifCond .eq 15, 3) := by decide +kernel
theorem dX12_copy_17 : decode cX12_copy 17 = .ok (.iload_n 3, 1) := by decide +kernel
theorem dX12_copy_18 : decode cX12_copy 18 = .ok (.i2l, 1) := by decide +kernel
theorem dX12_copy_19 : decode cX12_copy 19 = .ok (.lconst 0, 1) := by decide +kernel
theorem dX12_copy_20 : decode cX12_copy 20 = .ok (.ldc2_w 198, 3) := by decide +kernel
theorem dX12_copy_23 : decode cX12_copy 23 = .ok (.invokestatic 84, 3) := by decide +kernel
theorem dX12_copy_26 : decode cX12_copy 26 = .ok (.ifCond .ne 5, 3) := by decide +kernel
theorem dX12_copy_29 : decode cX12_copy 29 = .ok (.iconst (-1), 1) := by decide +kernel
theorem dX12_copy_30 : decode cX12_copy 30 = .ok (.ireturn, 1) := by decide +kernel
theorem dX12_copy_31 : decode cX12_copy 31 = .ok (.aload_n 0, 1) := by decide +kernel
theorem dX12_copy_32 : decode cX12_copy 32 = .ok (.getfield 56, 3) := by decide +kernel
theorem dX12_copy_35 : decode cX12_copy 35 = .ok (.iload_n 1, 1) := by decide +kernel
theorem dX12_copy_36 : decode cX12_copy 36 = .ok (.iaload, 1) := by decide +kernel
theorem dX12_copy_37 : decode cX12_copy 37 = .ok (.ifCond .eq 12, 3) := by decide +kernel
theorem dX12_copy_40 : decode cX12_copy 40 = .ok (.aload_n 0, 1) := by decide +kernel
theorem dX12_copy_41 : decode cX12_copy 41 = .ok (.getfield 56, 3) := by decide +kernel
theorem dX12_copy_44 : decode cX12_copy 44 = .ok (.iload_n 3, 1) := by decide +kernel
theorem dX12_copy_45 : decode cX12_copy 45 = .ok (.iaload, 1) := by decide +kernel
theorem dX12_copy_46 : decode cX12_copy 46 = .ok (.ifCond .ne 6, 3) := by decide +kernel
theorem dX12_copy_49 : decode cX12_copy 49 = .ok (.bipush (-11), 2) := by decide +kernel
theorem dX12_copy_51 : decode cX12_copy 51 = .ok (.ireturn, 1) := by decide +kernel
theorem dX12_copy_52 : decode cX12_copy 52 = .ok (.aload_n 0, 1) := by decide +kernel
theorem dX12_copy_53 : decode cX12_copy 53 = .ok (.getfield 56, 3) := by decide +kernel
theorem dX12_copy_56 : decode cX12_copy 56 = .ok (.iload_n 1, 1) := by decide +kernel
theorem dX12_copy_57 : decode cX12_copy 57 = .ok (.iaload, 1) := by decide +kernel
theorem dX12_copy_58 : decode cX12_copy 58 = .ok (.iconst 2, 1) := by decide +kernel
theorem dX12_copy_59 : decode cX12_copy 59 = .ok (.if_icmp .ne 28, 3) := by decide +kernel
theorem dX12_copy_62 : decode cX12_copy 62 = .ok (.aload_n 0, 1) := by decide +kernel
theorem dX12_copy_63 : decode cX12_copy 63 = .ok (.getfield 56, 3) := by decide +kernel
theorem dX12_copy_66 : decode cX12_copy 66 = .ok (.iload_n 3, 1) := by decide +kernel
theorem dX12_copy_67 : decode cX12_copy 67 = .ok (.iaload, 1) := by decide +kernel
theorem dX12_copy_68 : decode cX12_copy 68 = .ok (.iconst 2, 1) := by decide +kernel
theorem dX12_copy_69 : decode cX12_copy 69 = .ok (.if_icmp .ne 18, 3) := by decide +kernel
theorem dX12_copy_72 : decode cX12_copy 72 = .ok (.aload_n 0, 1) := by decide +kernel
theorem dX12_copy_73 : decode cX12_copy 73 = .ok (.getfield 65, 3) := by decide +kernel
theorem dX12_copy_76 : decode cX12_copy 76 = .ok (.iload_n 1, 1) := by decide +kernel
theorem dX12_copy_77 : decode cX12_copy 77 = .ok (.iaload, 1) := by decide +kernel
theorem dX12_copy_78 : decode cX12_copy 78 = .ok (.aload_n 0, 1) := by decide +kernel
theorem dX12_copy_79 : decode cX12_copy 79 = .ok (.getfield 65, 3) := by decide +kernel
theorem dX12_copy_82 : decode cX12_copy 82 = .ok (.iload_n 3, 1) := by decide +kernel
theorem dX12_copy_83 : decode cX12_copy 83 = .ok (.iaload, 1) := by decide +kernel
theorem dX12_copy_84 : decode cX12_copy 84 = .ok (.if_icmp .eq 6, 3) := by decide +kernel
theorem dX12_copy_87 : decode cX12_copy 87 = .ok (.bipush (-12), 2) := by decide +kernel
theorem dX12_copy_89 : decode cX12_copy 89 = .ok (.ireturn, 1) := by decide +kernel
theorem dX12_copy_90 : decode cX12_copy 90 = .ok (.iload 5, 2) := by decide +kernel
theorem dX12_copy_92 : decode cX12_copy 92 = .ok (.ifCond .lt 39, 3) := by decide +kernel
theorem dX12_copy_95 : decode cX12_copy 95 = .ok (.iload_n 2, 1) := by decide +kernel
theorem dX12_copy_96 : decode cX12_copy 96 = .ok (.ifCond .lt 35, 3) := by decide +kernel
theorem dX12_copy_99 : decode cX12_copy 99 = .ok (.iload 4, 2) := by decide +kernel
theorem dX12_copy_101 : decode cX12_copy 101 = .ok (.ifCond .lt 30, 3) := by decide +kernel
theorem dX12_copy_104 : decode cX12_copy 104 = .ok (.iload_n 2, 1) := by decide +kernel
theorem dX12_copy_105 : decode cX12_copy 105 = .ok (.aload_n 0, 1) := by decide +kernel
theorem dX12_copy_106 : decode cX12_copy 106 = .ok (.getfield 68, 3) := by decide +kernel
theorem dX12_copy_109 : decode cX12_copy 109 = .ok (.iload_n 1, 1) := by decide +kernel
theorem dX12_copy_110 : decode cX12_copy 110 = .ok (.iaload, 1) := by decide +kernel
theorem dX12_copy_111 : decode cX12_copy 111 = .ok (.iload 5, 2) := by decide +kernel
theorem dX12_copy_113 : decode cX12_copy 113 = .ok (.isub, 1) := by decide +kernel
theorem dX12_copy_114 : decode cX12_copy 114 = .ok (.if_icmp .gt 17, 3) := by decide +kernel
theorem dX12_copy_117 : decode cX12_copy 117 = .ok (.iload 4, 2) := by decide +kernel
theorem dX12_copy_119 : decode cX12_copy 119 = .ok (.aload_n 0, 1) := by decide +kernel
theorem dX12_copy_120 : decode cX12_copy 120 = .ok (.getfield 68, 3) := by decide +kernel
theorem dX12_copy_123 : decode cX12_copy 123 = .ok (.iload_n 3, 1) := by decide +kernel
theorem dX12_copy_124 : decode cX12_copy 124 = .ok (.iaload, 1) := by decide +kernel
theorem dX12_copy_125 : decode cX12_copy 125 = .ok (.iload 5, 2) := by decide +kernel
theorem dX12_copy_127 : decode cX12_copy 127 = .ok (.isub, 1) := by decide +kernel
theorem dX12_copy_128 : decode cX12_copy 128 = .ok (.if_icmp .le 6, 3) := by decide +kernel
theorem dX12_copy_131 : decode cX12_copy 131 = .ok (.bipush (-13), 2) := by decide +kernel
theorem dX12_copy_133 : decode cX12_copy 133 = .ok (.ireturn, 1) := by decide +kernel
theorem dX12_copy_134 : decode cX12_copy 134 = .ok (.iconst 0, 1) := by decide +kernel
theorem dX12_copy_135 : decode cX12_copy 135 = .ok (.istore 6, 2) := by decide +kernel
theorem dX12_copy_137 : decode cX12_copy 137 = .ok (.iload 6, 2) := by decide +kernel
theorem dX12_copy_139 : decode cX12_copy 139 = .ok (.iload 5, 2) := by decide +kernel
theorem dX12_copy_141 : decode cX12_copy 141 = .ok (.if_icmp .ge 30, 3) := by decide +kernel
theorem dX12_copy_144 : decode cX12_copy 144 = .ok (.aload_n 0, 1) := by decide +kernel
theorem dX12_copy_145 : decode cX12_copy 145 = .ok (.getfield 75, 3) := by decide +kernel
theorem dX12_copy_148 : decode cX12_copy 148 = .ok (.iload 6, 2) := by decide +kernel
theorem dX12_copy_150 : decode cX12_copy 150 = .ok (.aload_n 0, 1) := by decide +kernel
theorem dX12_copy_151 : decode cX12_copy 151 = .ok (.getfield 71, 3) := by decide +kernel
theorem dX12_copy_154 : decode cX12_copy 154 = .ok (.bipush 100, 2) := by decide +kernel
theorem dX12_copy_156 : decode cX12_copy 156 = .ok (.iload_n 1, 1) := by decide +kernel
theorem dX12_copy_157 : decode cX12_copy 157 = .ok (.imul, 1) := by decide +kernel
theorem dX12_copy_158 : decode cX12_copy 158 = .ok (.iload_n 2, 1) := by decide +kernel
theorem dX12_copy_159 : decode cX12_copy 159 = .ok (.iadd, 1) := by decide +kernel
theorem dX12_copy_160 : decode cX12_copy 160 = .ok (.iload 6, 2) := by decide +kernel
theorem dX12_copy_162 : decode cX12_copy 162 = .ok (.iadd, 1) := by decide +kernel
theorem dX12_copy_163 : decode cX12_copy 163 = .ok (.laload, 1) := by decide +kernel
theorem dX12_copy_164 : decode cX12_copy 164 = .ok (.lastore, 1) := by decide +kernel
theorem dX12_copy_165 : decode cX12_copy 165 = .ok (.iinc 6 1, 3) := by decide +kernel
theorem dX12_copy_168 : decode cX12_copy 168 = .ok (.goto (-31), 3) := by decide +kernel
theorem dX12_copy_171 : decode cX12_copy 171 = .ok (.iconst 0, 1) := by decide +kernel
theorem dX12_copy_172 : decode cX12_copy 172 = .ok (.istore 6, 2) := by decide +kernel
theorem dX12_copy_174 : decode cX12_copy 174 = .ok (.iload 6, 2) := by decide +kernel
theorem dX12_copy_176 : decode cX12_copy 176 = .ok (.iload 5, 2) := by decide +kernel
theorem dX12_copy_178 : decode cX12_copy 178 = .ok (.if_icmp .ge 31, 3) := by decide +kernel
theorem dX12_copy_181 : decode cX12_copy 181 = .ok (.aload_n 0, 1) := by decide +kernel
theorem dX12_copy_182 : decode cX12_copy 182 = .ok (.getfield 71, 3) := by decide +kernel
theorem dX12_copy_185 : decode cX12_copy 185 = .ok (.bipush 100, 2) := by decide +kernel
theorem dX12_copy_187 : decode cX12_copy 187 = .ok (.iload_n 3, 1) := by decide +kernel
theorem dX12_copy_188 : decode cX12_copy 188 = .ok (.imul, 1) := by decide +kernel
theorem dX12_copy_189 : decode cX12_copy 189 = .ok (.iload 4, 2) := by decide +kernel
theorem dX12_copy_191 : decode cX12_copy 191 = .ok (.iadd, 1) := by decide +kernel
theorem dX12_copy_192 : decode cX12_copy 192 = .ok (.iload 6, 2) := by decide +kernel
theorem dX12_copy_194 : decode cX12_copy 194 = .ok (.iadd, 1) := by decide +kernel
theorem dX12_copy_195 : decode cX12_copy 195 = .ok (.aload_n 0, 1) := by decide +kernel
theorem dX12_copy_196 : decode cX12_copy 196 = .ok (.getfield 75, 3) := by decide +kernel
theorem dX12_copy_199 : decode cX12_copy 199 = .ok (.iload 6, 2) := by decide +kernel
theorem dX12_copy_201 : decode cX12_copy 201 = .ok (.laload, 1) := by decide +kernel
theorem dX12_copy_202 : decode cX12_copy 202 = .ok (.lastore, 1) := by decide +kernel
theorem dX12_copy_203 : decode cX12_copy 203 = .ok (.iinc 6 1, 3) := by decide +kernel
theorem dX12_copy_206 : decode cX12_copy 206 = .ok (.goto (-32), 3) := by decide +kernel
theorem dX12_copy_209 : decode cX12_copy 209 = .ok (.iload 5, 2) := by decide +kernel
theorem dX12_copy_211 : decode cX12_copy 211 = .ok (.ireturn, 1) := by decide +kernel
theorem dX12_minutes_0 : decode cX12_minutes 0 = .ok (.aload_n 0, 1) := by decide +kernel
theorem dX12_minutes_1 : decode cX12_minutes 1 = .ok (.iconst 0, 1) := by decide +kernel
theorem dX12_minutes_2 : decode cX12_minutes 2 = .ok (.putfield 78, 3) := by decide +kernel
theorem dX12_minutes_5 : decode cX12_minutes 5 = .ok (.aload_n 0, 1) := by decide +kernel
theorem dX12_minutes_6 : decode cX12_minutes 6 = .ok (.iload_n 1, 1) := by decide +kernel
theorem dX12_minutes_7 : decode cX12_minutes 7 = .ok (.invokevirtual 200, 3) := by decide +kernel
theorem dX12_minutes_10 : decode cX12_minutes 10 = .ok (.ifCond .ge 11, 3) := by decide +kernel
theorem dX12_minutes_13 : decode cX12_minutes 13 = .ok (.aload_n 0, 1) := by decide +kernel
theorem dX12_minutes_14 : decode cX12_minutes 14 = .ok (.iload_n 1, 1) := by decide +kernel
theorem dX12_minutes_15 : decode cX12_minutes 15 = .ok (.invokevirtual 200, 3) := by decide +kernel
theorem dX12_minutes_18 : decode cX12_minutes 18 = .ok (.goto 18, 3) := by decide +kernel
theorem dX12_minutes_21 : decode cX12_minutes 21 = .ok (.aload_n 0, 1) := by decide +kernel
theorem dX12_minutes_22 : decode cX12_minutes 22 = .ok (.getfield 59, 3) := by decide +kernel
theorem dX12_minutes_25 : decode cX12_minutes 25 = .ok (.iload_n 1, 1) := by decide +kernel
theorem dX12_minutes_26 : decode cX12_minutes 26 = .ok (.iaload, 1) := by decide +kernel
theorem dX12_minutes_27 : decode cX12_minutes 27 = .ok (.aload_n 0, 1) := by decide +kernel
theorem dX12_minutes_28 : decode cX12_minutes 28 = .ok (.getfield 62, 3) := by decide +kernel
theorem dX12_minutes_31 : decode cX12_minutes 31 = .ok (.iload_n 1, 1) := by decide +kernel
theorem dX12_minutes_32 : decode cX12_minutes 32 = .ok (.iaload, 1) := by decide +kernel
theorem dX12_minutes_33 : decode cX12_minutes 33 = .ok (.invokestatic 105, 3) := by decide +kernel
theorem dX12_minutes_36 : decode cX12_minutes 36 = .ok (.ireturn, 1) := by decide +kernel
theorem dX12_toss_0 : decode cX12_toss 0 = .ok (.aload_n 0, 1) := by decide +kernel
theorem dX12_toss_1 : decode cX12_toss 1 = .ok (.iconst 0, 1) := by decide +kernel
theorem dX12_toss_2 : decode cX12_toss 2 = .ok (.putfield 78, 3) := by decide +kernel
theorem dX12_toss_5 : decode cX12_toss 5 = .ok (.aload_n 0, 1) := by decide +kernel
theorem dX12_toss_6 : decode cX12_toss 6 = .ok (.iload_n 1, 1) := by decide +kernel
theorem dX12_toss_7 : decode cX12_toss 7 = .ok (.invokevirtual 200, 3) := by decide +kernel
theorem dX12_toss_10 : decode cX12_toss 10 = .ok (.ifCond .ge 9, 3) := by decide +kernel
theorem dX12_toss_13 : decode cX12_toss 13 = .ok (.aload_n 0, 1) := by decide +kernel
theorem dX12_toss_14 : decode cX12_toss 14 = .ok (.iload_n 1, 1) := by decide +kernel
theorem dX12_toss_15 : decode cX12_toss 15 = .ok (.invokevirtual 200, 3) := by decide +kernel
theorem dX12_toss_18 : decode cX12_toss 18 = .ok (.ireturn, 1) := by decide +kernel
theorem dX12_toss_19 : decode cX12_toss 19 = .ok (.aload_n 0, 1) := by decide +kernel
theorem dX12_toss_20 : decode cX12_toss 20 = .ok (.getfield 59, 3) := by decide +kernel
theorem dX12_toss_23 : decode cX12_toss 23 = .ok (.iload_n 1, 1) := by decide +kernel
theorem dX12_toss_24 : decode cX12_toss 24 = .ok (.iaload, 1) := by decide +kernel
theorem dX12_toss_25 : decode cX12_toss 25 = .ok (.istore_n 2, 1) := by decide +kernel
theorem dX12_toss_26 : decode cX12_toss 26 = .ok (.aload_n 0, 1) := by decide +kernel
theorem dX12_toss_27 : decode cX12_toss 27 = .ok (.getfield 62, 3) := by decide +kernel
theorem dX12_toss_30 : decode cX12_toss 30 = .ok (.iload_n 1, 1) := by decide +kernel
theorem dX12_toss_31 : decode cX12_toss 31 = .ok (.iaload, 1) := by decide +kernel
theorem dX12_toss_32 : decode cX12_toss 32 = .ok (.istore_n 3, 1) := by decide +kernel
theorem dX12_toss_33 : decode cX12_toss 33 = .ok (.iload_n 2, 1) := by decide +kernel
theorem dX12_toss_34 : decode cX12_toss 34 = .ok (.iconst 5, 1) := by decide +kernel
theorem dX12_toss_35 : decode cX12_toss 35 = .ok (.if_icmp .eq 7, 3) := by decide +kernel
theorem dX12_toss_38 : decode cX12_toss 38 = .ok (.iload_n 3, 1) := by decide +kernel
theorem dX12_toss_39 : decode cX12_toss 39 = .ok (.ifCond .ne 6, 3) := by decide +kernel
theorem dX12_toss_42 : decode cX12_toss 42 = .ok (.bipush (-15), 2) := by decide +kernel
theorem dX12_toss_44 : decode cX12_toss 44 = .ok (.ireturn, 1) := by decide +kernel
theorem dX12_toss_45 : decode cX12_toss 45 = .ok (.iload_n 2, 1) := by decide +kernel
theorem dX12_toss_46 : decode cX12_toss 46 = .ok (.iconst 3, 1) := by decide +kernel
theorem dX12_toss_47 : decode cX12_toss 47 = .ok (.if_icmp .ne 10, 3) := by decide +kernel
theorem dX12_toss_50 : decode cX12_toss 50 = .ok (.bipush 100, 2) := by decide +kernel
theorem dX12_toss_52 : decode cX12_toss 52 = .ok (.iload_n 3, 1) := by decide +kernel
theorem dX12_toss_53 : decode cX12_toss 53 = .ok (.iadd, 1) := by decide +kernel
theorem dX12_toss_54 : decode cX12_toss 54 = .ok (.goto 21, 3) := by decide +kernel
theorem dX12_toss_57 : decode cX12_toss 57 = .ok (.iload_n 2, 1) := by decide +kernel
theorem dX12_toss_58 : decode cX12_toss 58 = .ok (.iconst 4, 1) := by decide +kernel
theorem dX12_toss_59 : decode cX12_toss 59 = .ok (.if_icmp .ne 15, 3) := by decide +kernel
theorem dX12_toss_62 : decode cX12_toss 62 = .ok (.sipush 200, 3) := by decide +kernel
theorem dX12_toss_65 : decode cX12_toss 65 = .ok (.iload_n 2, 1) := by decide +kernel
theorem dX12_toss_66 : decode cX12_toss 66 = .ok (.iload_n 3, 1) := by decide +kernel
theorem dX12_toss_67 : decode cX12_toss 67 = .ok (.invokestatic 105, 3) := by decide +kernel
theorem dX12_toss_70 : decode cX12_toss 70 = .ok (.iadd, 1) := by decide +kernel
theorem dX12_toss_71 : decode cX12_toss 71 = .ok (.goto 4, 3) := by decide +kernel
theorem dX12_toss_74 : decode cX12_toss 74 = .ok (.iload_n 3, 1) := by decide +kernel
theorem dX12_toss_75 : decode cX12_toss 75 = .ok (.ireturn, 1) := by decide +kernel
theorem dJ9_max_7cf53_0 : decode cJ9_max_7cf53 0 = .ok (.iload_n 0, 1) := by decide +kernel
theorem dJ9_max_7cf53_1 : decode cJ9_max_7cf53 1 = .ok (.iload_n 1, 1) := by decide +kernel
theorem dJ9_max_7cf53_2 : decode cJ9_max_7cf53 2 = .ok (.if_icmp .lt 7, 3) := by decide +kernel
theorem dJ9_max_7cf53_5 : decode cJ9_max_7cf53 5 = .ok (.iload_n 0, 1) := by decide +kernel
theorem dJ9_max_7cf53_6 : decode cJ9_max_7cf53 6 = .ok (.goto 4, 3) := by decide +kernel
theorem dJ9_max_7cf53_9 : decode cJ9_max_7cf53 9 = .ok (.iload_n 1, 1) := by decide +kernel
theorem dJ9_max_7cf53_10 : decode cJ9_max_7cf53 10 = .ok (.ireturn, 1) := by decide +kernel
theorem dJ9_min_7cf53_0 : decode cJ9_min_7cf53 0 = .ok (.iload_n 0, 1) := by decide +kernel
theorem dJ9_min_7cf53_1 : decode cJ9_min_7cf53 1 = .ok (.iload_n 1, 1) := by decide +kernel
theorem dJ9_min_7cf53_2 : decode cJ9_min_7cf53 2 = .ok (.if_icmp .gt 7, 3) := by decide +kernel
theorem dJ9_min_7cf53_5 : decode cJ9_min_7cf53 5 = .ok (.iload_n 0, 1) := by decide +kernel
theorem dJ9_min_7cf53_6 : decode cJ9_min_7cf53 6 = .ok (.goto 4, 3) := by decide +kernel
theorem dJ9_min_7cf53_9 : decode cJ9_min_7cf53 9 = .ok (.iload_n 1, 1) := by decide +kernel
theorem dJ9_min_7cf53_10 : decode cJ9_min_7cf53 10 = .ok (.ireturn, 1) := by decide +kernel
theorem dJ0_length_8abf5_0 : decode cJ0_length_8abf5 0 = .ok (.aload_n 0, 1) := by decide +kernel
theorem dJ0_length_8abf5_1 : decode cJ0_length_8abf5 1 = .ok (.getfield 9, 3) := by decide +kernel
theorem dJ0_length_8abf5_4 : decode cJ0_length_8abf5 4 = .ok (.arraylength, 1) := by decide +kernel
theorem dJ0_length_8abf5_5 : decode cJ0_length_8abf5 5 = .ok (.aload_n 0, 1) := by decide +kernel
theorem dJ0_length_8abf5_6 : decode cJ0_length_8abf5 6 = .ok (.invokevirtual 335, 3) := by decide +kernel
theorem dJ0_length_8abf5_9 : decode cJ0_length_8abf5 9 = .ok (.ishr, 1) := by decide +kernel
theorem dJ0_length_8abf5_10 : decode cJ0_length_8abf5 10 = .ok (.ireturn, 1) := by decide +kernel
theorem dJ0_isEmpty_aae02_0 : decode cJ0_isEmpty_aae02 0 = .ok (.aload_n 0, 1) := by decide +kernel
theorem dJ0_isEmpty_aae02_1 : decode cJ0_isEmpty_aae02 1 = .ok (.getfield 9, 3) := by decide +kernel
theorem dJ0_isEmpty_aae02_4 : decode cJ0_isEmpty_aae02 4 = .ok (.arraylength, 1) := by decide +kernel
theorem dJ0_isEmpty_aae02_5 : decode cJ0_isEmpty_aae02 5 = .ok (.ifCond .ne 7, 3) := by decide +kernel
theorem dJ0_isEmpty_aae02_8 : decode cJ0_isEmpty_aae02 8 = .ok (.iconst 1, 1) := by decide +kernel
theorem dJ0_isEmpty_aae02_9 : decode cJ0_isEmpty_aae02 9 = .ok (.goto 4, 3) := by decide +kernel
theorem dJ0_isEmpty_aae02_12 : decode cJ0_isEmpty_aae02 12 = .ok (.iconst 0, 1) := by decide +kernel
theorem dJ0_isEmpty_aae02_13 : decode cJ0_isEmpty_aae02 13 = .ok (.ireturn, 1) := by decide +kernel
theorem dJ0_charAt_5068e_0 : decode cJ0_charAt_5068e 0 = .ok (.aload_n 0, 1) := by decide +kernel
theorem dJ0_charAt_5068e_1 : decode cJ0_charAt_5068e 1 = .ok (.invokevirtual 492, 3) := by decide +kernel
theorem dJ0_charAt_5068e_4 : decode cJ0_charAt_5068e 4 = .ok (.ifCond .eq 12, 3) := by decide +kernel
theorem dJ0_charAt_5068e_7 : decode cJ0_charAt_5068e 7 = .ok (.aload_n 0, 1) := by decide +kernel
theorem dJ0_charAt_5068e_8 : decode cJ0_charAt_5068e 8 = .ok (.getfield 9, 3) := by decide +kernel
theorem dJ0_charAt_5068e_11 : decode cJ0_charAt_5068e 11 = .ok (.iload_n 1, 1) := by decide +kernel
theorem dJ0_charAt_5068e_12 : decode cJ0_charAt_5068e 12 = .ok (.invokestatic 495, 3) := by decide +kernel
theorem dJ0_charAt_5068e_15 : decode cJ0_charAt_5068e 15 = .ok (.ireturn, 1) := by decide +kernel
theorem dJ0_charAt_5068e_16 : decode cJ0_charAt_5068e 16 = .ok (.aload_n 0, 1) := by decide +kernel
theorem dJ0_charAt_5068e_17 : decode cJ0_charAt_5068e 17 = .ok (.getfield 9, 3) := by decide +kernel
theorem dJ0_charAt_5068e_20 : decode cJ0_charAt_5068e 20 = .ok (.iload_n 1, 1) := by decide +kernel
theorem dJ0_charAt_5068e_21 : decode cJ0_charAt_5068e 21 = .ok (.invokestatic 498, 3) := by decide +kernel
theorem dJ0_charAt_5068e_24 : decode cJ0_charAt_5068e 24 = .ok (.ireturn, 1) := by decide +kernel
theorem dJ0_coder_7d493_0 : decode cJ0_coder_7d493 0 = .ok (.getstatic 38, 3) := by decide +kernel
theorem dJ0_coder_7d493_3 : decode cJ0_coder_7d493 3 = .ok (.ifCond .eq 10, 3) := by decide +kernel
theorem dJ0_coder_7d493_6 : decode cJ0_coder_7d493 6 = .ok (.aload_n 0, 1) := by decide +kernel
theorem dJ0_coder_7d493_7 : decode cJ0_coder_7d493 7 = .ok (.getfield 15, 3) := by decide +kernel
theorem dJ0_coder_7d493_10 : decode cJ0_coder_7d493 10 = .ok (.goto 4, 3) := by decide +kernel
theorem dJ0_coder_7d493_13 : decode cJ0_coder_7d493 13 = .ok (.iconst 1, 1) := by decide +kernel
theorem dJ0_coder_7d493_14 : decode cJ0_coder_7d493 14 = .ok (.ireturn, 1) := by decide +kernel
theorem dJ0_isLatin1_aae02_0 : decode cJ0_isLatin1_aae02 0 = .ok (.getstatic 38, 3) := by decide +kernel
theorem dJ0_isLatin1_aae02_3 : decode cJ0_isLatin1_aae02 3 = .ok (.ifCond .eq 14, 3) := by decide +kernel
theorem dJ0_isLatin1_aae02_6 : decode cJ0_isLatin1_aae02 6 = .ok (.aload_n 0, 1) := by decide +kernel
theorem dJ0_isLatin1_aae02_7 : decode cJ0_isLatin1_aae02 7 = .ok (.getfield 15, 3) := by decide +kernel
theorem dJ0_isLatin1_aae02_10 : decode cJ0_isLatin1_aae02 10 = .ok (.ifCond .ne 7, 3) := by decide +kernel
theorem dJ0_isLatin1_aae02_13 : decode cJ0_isLatin1_aae02 13 = .ok (.iconst 1, 1) := by decide +kernel
theorem dJ0_isLatin1_aae02_14 : decode cJ0_isLatin1_aae02 14 = .ok (.goto 4, 3) := by decide +kernel
theorem dJ0_isLatin1_aae02_17 : decode cJ0_isLatin1_aae02 17 = .ok (.iconst 0, 1) := by decide +kernel
theorem dJ0_isLatin1_aae02_18 : decode cJ0_isLatin1_aae02 18 = .ok (.ireturn, 1) := by decide +kernel
theorem dJ0_checkIndex_df160_0 : decode cJ0_checkIndex_df160 0 = .ok (.iload_n 0, 1) := by decide +kernel
theorem dJ0_checkIndex_df160_1 : decode cJ0_checkIndex_df160 1 = .ok (.iload_n 1, 1) := by decide +kernel
theorem dJ0_checkIndex_df160_2 : decode cJ0_checkIndex_df160 2 = .ok (.getstatic 1053, 3) := by decide +kernel
theorem dJ0_checkIndex_df160_5 : decode cJ0_checkIndex_df160 5 = .ok (.invokestatic 1059, 3) := by decide +kernel
theorem dJ0_checkIndex_df160_8 : decode cJ0_checkIndex_df160 8 = .ok (.pop, 1) := by decide +kernel
theorem dJ0_checkIndex_df160_9 : decode cJ0_checkIndex_df160 9 = .ok (.return_, 1) := by decide +kernel
theorem dJ1_charAt_3b067_0 : decode cJ1_charAt_3b067 0 = .ok (.iload_n 1, 1) := by decide +kernel
theorem dJ1_charAt_3b067_1 : decode cJ1_charAt_3b067 1 = .ok (.aload_n 0, 1) := by decide +kernel
theorem dJ1_charAt_3b067_2 : decode cJ1_charAt_3b067 2 = .ok (.arraylength, 1) := by decide +kernel
theorem dJ1_charAt_3b067_3 : decode cJ1_charAt_3b067 3 = .ok (.invokestatic 9, 3) := by decide +kernel
theorem dJ1_charAt_3b067_6 : decode cJ1_charAt_3b067 6 = .ok (.aload_n 0, 1) := by decide +kernel
theorem dJ1_charAt_3b067_7 : decode cJ1_charAt_3b067 7 = .ok (.iload_n 1, 1) := by decide +kernel
theorem dJ1_charAt_3b067_8 : decode cJ1_charAt_3b067 8 = .ok (.baload, 1) := by decide +kernel
theorem dJ1_charAt_3b067_9 : decode cJ1_charAt_3b067 9 = .ok (.sipush 255, 3) := by decide +kernel
theorem dJ1_charAt_3b067_12 : decode cJ1_charAt_3b067 12 = .ok (.iand, 1) := by decide +kernel
theorem dJ1_charAt_3b067_13 : decode cJ1_charAt_3b067 13 = .ok (.i2c, 1) := by decide +kernel
theorem dJ1_charAt_3b067_14 : decode cJ1_charAt_3b067 14 = .ok (.ireturn, 1) := by decide +kernel
theorem dJ2_getChar_3b067_0 : decode cJ2_getChar_3b067 0 = .ok (.getstatic 44, 3) := by decide +kernel
theorem dJ2_getChar_3b067_3 : decode cJ2_getChar_3b067 3 = .ok (.ifCond .ne 25, 3) := by decide +kernel
theorem dJ2_getChar_3b067_6 : decode cJ2_getChar_3b067 6 = .ok (.iload_n 1, 1) := by decide +kernel
theorem dJ2_getChar_3b067_7 : decode cJ2_getChar_3b067 7 = .ok (.ifCond .lt 11, 3) := by decide +kernel
theorem dJ2_getChar_3b067_10 : decode cJ2_getChar_3b067 10 = .ok (.iload_n 1, 1) := by decide +kernel
theorem dJ2_getChar_3b067_11 : decode cJ2_getChar_3b067 11 = .ok (.aload_n 0, 1) := by decide +kernel
theorem dJ2_getChar_3b067_12 : decode cJ2_getChar_3b067 12 = .ok (.invokestatic 48, 3) := by decide +kernel
theorem dJ2_getChar_3b067_15 : decode cJ2_getChar_3b067 15 = .ok (.if_icmp .lt 13, 3) := by decide +kernel
theorem dJ2_getChar_3b067_18 : decode cJ2_getChar_3b067 18 = .ok (.new 52, 3) := by decide +kernel
theorem dJ2_getChar_3b067_21 : decode cJ2_getChar_3b067 21 = .ok (.dup, 1) := by decide +kernel
theorem dJ2_getChar_3b067_22 : decode cJ2_getChar_3b067 22 = .ok (.ldc 54, 2) := by decide +kernel
theorem dJ2_getChar_3b067_24 : decode cJ2_getChar_3b067 24 = .ok (.invokespecial 56, 3) := by decide +kernel
theorem dJ2_getChar_3b067_27 : decode cJ2_getChar_3b067 27 = .ok (.athrow, 1) := by decide +kernel
theorem dJ2_getChar_3b067_28 : decode cJ2_getChar_3b067 28 = .ok (.iload_n 1, 1) := by decide +kernel
theorem dJ2_getChar_3b067_29 : decode cJ2_getChar_3b067 29 = .ok (.iconst 1, 1) := by decide +kernel
theorem dJ2_getChar_3b067_30 : decode cJ2_getChar_3b067 30 = .ok (.ishl, 1) := by decide +kernel
theorem dJ2_getChar_3b067_31 : decode cJ2_getChar_3b067 31 = .ok (.istore_n 1, 1) := by decide +kernel
theorem dJ2_getChar_3b067_32 : decode cJ2_getChar_3b067 32 = .ok (.aload_n 0, 1) := by decide +kernel
theorem dJ2_getChar_3b067_33 : decode cJ2_getChar_3b067 33 = .ok (.iload_n 1, 1) := by decide +kernel
theorem dJ2_getChar_3b067_34 : decode cJ2_getChar_3b067 34 = .ok (.iinc 1 1, 3) := by decide +kernel
theorem dJ2_getChar_3b067_37 : decode cJ2_getChar_3b067 37 = .ok (.baload, 1) := by decide +kernel
theorem dJ2_getChar_3b067_38 : decode cJ2_getChar_3b067 38 = .ok (.sipush 255, 3) := by decide +kernel
theorem dJ2_getChar_3b067_41 : decode cJ2_getChar_3b067 41 = .ok (.iand, 1) := by decide +kernel
theorem dJ2_getChar_3b067_42 : decode cJ2_getChar_3b067 42 = .ok (.getstatic 59, 3) := by decide +kernel
theorem dJ2_getChar_3b067_45 : decode cJ2_getChar_3b067 45 = .ok (.ishl, 1) := by decide +kernel
theorem dJ2_getChar_3b067_46 : decode cJ2_getChar_3b067 46 = .ok (.aload_n 0, 1) := by decide +kernel
theorem dJ2_getChar_3b067_47 : decode cJ2_getChar_3b067 47 = .ok (.iload_n 1, 1) := by decide +kernel
theorem dJ2_getChar_3b067_48 : decode cJ2_getChar_3b067 48 = .ok (.baload, 1) := by decide +kernel
theorem dJ2_getChar_3b067_49 : decode cJ2_getChar_3b067 49 = .ok (.sipush 255, 3) := by decide +kernel
theorem dJ2_getChar_3b067_52 : decode cJ2_getChar_3b067 52 = .ok (.iand, 1) := by decide +kernel
theorem dJ2_getChar_3b067_53 : decode cJ2_getChar_3b067 53 = .ok (.getstatic 63, 3) := by decide +kernel
theorem dJ2_getChar_3b067_56 : decode cJ2_getChar_3b067 56 = .ok (.ishl, 1) := by decide +kernel
theorem dJ2_getChar_3b067_57 : decode cJ2_getChar_3b067 57 = .ok (.ior, 1) := by decide +kernel
theorem dJ2_getChar_3b067_58 : decode cJ2_getChar_3b067 58 = .ok (.i2c, 1) := by decide +kernel
theorem dJ2_getChar_3b067_59 : decode cJ2_getChar_3b067 59 = .ok (.ireturn, 1) := by decide +kernel
theorem dJ2_length_9d52b_0 : decode cJ2_length_9d52b 0 = .ok (.aload_n 0, 1) := by decide +kernel
theorem dJ2_length_9d52b_1 : decode cJ2_length_9d52b 1 = .ok (.arraylength, 1) := by decide +kernel
theorem dJ2_length_9d52b_2 : decode cJ2_length_9d52b 2 = .ok (.iconst 1, 1) := by decide +kernel
theorem dJ2_length_9d52b_3 : decode cJ2_length_9d52b 3 = .ok (.ishr, 1) := by decide +kernel
theorem dJ2_length_9d52b_4 : decode cJ2_length_9d52b 4 = .ok (.ireturn, 1) := by decide +kernel
theorem dJ2_charAt_3b067_0 : decode cJ2_charAt_3b067 0 = .ok (.iload_n 1, 1) := by decide +kernel
theorem dJ2_charAt_3b067_1 : decode cJ2_charAt_3b067 1 = .ok (.aload_n 0, 1) := by decide +kernel
theorem dJ2_charAt_3b067_2 : decode cJ2_charAt_3b067 2 = .ok (.invokestatic 67, 3) := by decide +kernel
theorem dJ2_charAt_3b067_5 : decode cJ2_charAt_3b067 5 = .ok (.aload_n 0, 1) := by decide +kernel
theorem dJ2_charAt_3b067_6 : decode cJ2_charAt_3b067 6 = .ok (.iload_n 1, 1) := by decide +kernel
theorem dJ2_charAt_3b067_7 : decode cJ2_charAt_3b067 7 = .ok (.invokestatic 71, 3) := by decide +kernel
theorem dJ2_charAt_3b067_10 : decode cJ2_charAt_3b067 10 = .ok (.ireturn, 1) := by decide +kernel
theorem dJ2_checkIndex_2214a_0 : decode cJ2_checkIndex_2214a 0 = .ok (.iload_n 0, 1) := by decide +kernel
theorem dJ2_checkIndex_2214a_1 : decode cJ2_checkIndex_2214a 1 = .ok (.aload_n 1, 1) := by decide +kernel
theorem dJ2_checkIndex_2214a_2 : decode cJ2_checkIndex_2214a 2 = .ok (.invokestatic 48, 3) := by decide +kernel
theorem dJ2_checkIndex_2214a_5 : decode cJ2_checkIndex_2214a 5 = .ok (.invokestatic 414, 3) := by decide +kernel
theorem dJ2_checkIndex_2214a_8 : decode cJ2_checkIndex_2214a 8 = .ok (.return_, 1) := by decide +kernel
theorem dJ3_checkIndex_8e157_0 : decode cJ3_checkIndex_8e157 0 = .ok (.iload_n 0, 1) := by decide +kernel
theorem dJ3_checkIndex_8e157_1 : decode cJ3_checkIndex_8e157 1 = .ok (.ifCond .lt 8, 3) := by decide +kernel
theorem dJ3_checkIndex_8e157_4 : decode cJ3_checkIndex_8e157 4 = .ok (.iload_n 0, 1) := by decide +kernel
theorem dJ3_checkIndex_8e157_5 : decode cJ3_checkIndex_8e157 5 = .ok (.iload_n 1, 1) := by decide +kernel
theorem dJ3_checkIndex_8e157_6 : decode cJ3_checkIndex_8e157 6 = .ok (.if_icmp .lt 10, 3) := by decide +kernel
theorem dJ3_checkIndex_8e157_9 : decode cJ3_checkIndex_8e157 9 = .ok (.aload_n 2, 1) := by decide +kernel
theorem dJ3_checkIndex_8e157_10 : decode cJ3_checkIndex_8e157 10 = .ok (.iload_n 0, 1) := by decide +kernel
theorem dJ3_checkIndex_8e157_11 : decode cJ3_checkIndex_8e157 11 = .ok (.iload_n 1, 1) := by decide +kernel
theorem dJ3_checkIndex_8e157_12 : decode cJ3_checkIndex_8e157 12 = .ok (.invokestatic 95, 3) := by decide +kernel
theorem dJ3_checkIndex_8e157_15 : decode cJ3_checkIndex_8e157 15 = .ok (.athrow, 1) := by decide +kernel
theorem dJ3_checkIndex_8e157_16 : decode cJ3_checkIndex_8e157 16 = .ok (.iload_n 0, 1) := by decide +kernel
theorem dJ3_checkIndex_8e157_17 : decode cJ3_checkIndex_8e157 17 = .ok (.ireturn, 1) := by decide +kernel
