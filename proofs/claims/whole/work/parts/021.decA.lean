abbrev cX20_fillL : ByteArray := prog_20_method_101_code
def yX20_fillL : MethodName := ⟨"java/util/Arrays", "fill", "([JJ)V"⟩
theorem dX20_fillL_0 : decode cX20_fillL 0 = .ok (.iconst 0, 1) := by decide +kernel
theorem dX20_fillL_1 : decode cX20_fillL 1 = .ok (.istore_n 3, 1) := by decide +kernel
theorem dX20_fillL_2 : decode cX20_fillL 2 = .ok (.aload_n 0, 1) := by decide +kernel
theorem dX20_fillL_3 : decode cX20_fillL 3 = .ok (.arraylength, 1) := by decide +kernel
theorem dX20_fillL_4 : decode cX20_fillL 4 = .ok (.istore 4, 2) := by decide +kernel
theorem dX20_fillL_6 : decode cX20_fillL 6 = .ok (.iload_n 3, 1) := by decide +kernel
theorem dX20_fillL_7 : decode cX20_fillL 7 = .ok (.iload 4, 2) := by decide +kernel
theorem dX20_fillL_9 : decode cX20_fillL 9 = .ok (.if_icmp .ge 13, 3) := by decide +kernel
theorem dX20_fillL_12 : decode cX20_fillL 12 = .ok (.aload_n 0, 1) := by decide +kernel
theorem dX20_fillL_13 : decode cX20_fillL 13 = .ok (.iload_n 3, 1) := by decide +kernel
theorem dX20_fillL_14 : decode cX20_fillL 14 = .ok (.lload_n 1, 1) := by decide +kernel
theorem dX20_fillL_15 : decode cX20_fillL 15 = .ok (.lastore, 1) := by decide +kernel
theorem dX20_fillL_16 : decode cX20_fillL 16 = .ok (.iinc 3 1, 3) := by decide +kernel
theorem dX20_fillL_19 : decode cX20_fillL 19 = .ok (.goto (-13), 3) := by decide +kernel
theorem dX20_fillL_22 : decode cX20_fillL 22 = .ok (.return_, 1) := by decide +kernel
theorem dX10_lay_0 : decode cX10_lay 0 = .ok (.aload_n 0, 1) := by decide +kernel
theorem dX10_lay_1 : decode cX10_lay 1 = .ok (.iconst 1, 1) := by decide +kernel
theorem dX10_lay_2 : decode cX10_lay 2 = .ok (.putfield 15, 3) := by decide +kernel
theorem dX10_lay_5 : decode cX10_lay 5 = .ok (.aload_n 0, 1) := by decide +kernel
theorem dX10_lay_6 : decode cX10_lay 6 = .ok (.iload_n 1, 1) := by decide +kernel
theorem dX10_lay_7 : decode cX10_lay 7 = .ok (.putfield 19, 3) := by decide +kernel
theorem dX10_lay_10 : decode cX10_lay 10 = .ok (.aload_n 0, 1) := by decide +kernel
theorem dX10_lay_11 : decode cX10_lay 11 = .ok (.iload_n 2, 1) := by decide +kernel
theorem dX10_lay_12 : decode cX10_lay 12 = .ok (.putfield 23, 3) := by decide +kernel
theorem dX10_lay_15 : decode cX10_lay 15 = .ok (.aload_n 0, 1) := by decide +kernel
theorem dX10_lay_16 : decode cX10_lay 16 = .ok (.getfield 9, 3) := by decide +kernel
theorem dX10_lay_19 : decode cX10_lay 19 = .ok (.lconst 0, 1) := by decide +kernel
theorem dX10_lay_20 : decode cX10_lay 20 = .ok (.invokestatic 26, 3) := by decide +kernel
theorem dX10_lay_23 : decode cX10_lay 23 = .ok (.return_, 1) := by decide +kernel
theorem dX10_hasFrom_0 : decode cX10_hasFrom 0 = .ok (.iload_n 1, 1) := by decide +kernel
theorem dX10_hasFrom_1 : decode cX10_hasFrom 1 = .ok (.ifCond .lt 29, 3) := by decide +kernel
theorem dX10_hasFrom_4 : decode cX10_hasFrom 4 = .ok (.iload_n 2, 1) := by decide +kernel
theorem dX10_hasFrom_5 : decode cX10_hasFrom 5 = .ok (.ifCond .lt 25, 3) := by decide +kernel
theorem dX10_hasFrom_8 : decode cX10_hasFrom 8 = .ok (.iload_n 2, 1) := by decide +kernel
theorem dX10_hasFrom_9 : decode cX10_hasFrom 9 = .ok (.aload_n 0, 1) := by decide +kernel
theorem dX10_hasFrom_10 : decode cX10_hasFrom 10 = .ok (.getfield 23, 3) := by decide +kernel
theorem dX10_hasFrom_13 : decode cX10_hasFrom 13 = .ok (.if_icmp .gt 17, 3) := by decide +kernel
theorem dX10_hasFrom_16 : decode cX10_hasFrom 16 = .ok (.iload_n 1, 1) := by decide +kernel
theorem dX10_hasFrom_17 : decode cX10_hasFrom 17 = .ok (.aload_n 0, 1) := by decide +kernel
theorem dX10_hasFrom_18 : decode cX10_hasFrom 18 = .ok (.getfield 23, 3) := by decide +kernel
theorem dX10_hasFrom_21 : decode cX10_hasFrom 21 = .ok (.iload_n 2, 1) := by decide +kernel
theorem dX10_hasFrom_22 : decode cX10_hasFrom 22 = .ok (.isub, 1) := by decide +kernel
theorem dX10_hasFrom_23 : decode cX10_hasFrom 23 = .ok (.if_icmp .gt 7, 3) := by decide +kernel
theorem dX10_hasFrom_26 : decode cX10_hasFrom 26 = .ok (.iconst 1, 1) := by decide +kernel
theorem dX10_hasFrom_27 : decode cX10_hasFrom 27 = .ok (.goto 4, 3) := by decide +kernel
theorem dX10_hasFrom_30 : decode cX10_hasFrom 30 = .ok (.iconst 0, 1) := by decide +kernel
theorem dX10_hasFrom_31 : decode cX10_hasFrom 31 = .ok (.ireturn, 1) := by decide +kernel
theorem dX10_put_0 : decode cX10_put 0 = .ok (.aload_n 0, 1) := by decide +kernel
theorem dX10_put_1 : decode cX10_put 1 = .ok (.iload_n 1, 1) := by decide +kernel
theorem dX10_put_2 : decode cX10_put 2 = .ok (.iconst 1, 1) := by decide +kernel
theorem dX10_put_3 : decode cX10_put 3 = .ok (.invokevirtual 32, 3) := by decide +kernel
theorem dX10_put_6 : decode cX10_put 6 = .ok (.ifCond .ne 4, 3) := by decide +kernel
theorem dX10_put_9 : decode cX10_put 9 = .ok (.return_, 1) := by decide +kernel
theorem dX10_put_10 : decode cX10_put 10 = .ok (.aload_n 0, 1) := by decide +kernel
theorem dX10_put_11 : decode cX10_put 11 = .ok (.getfield 19, 3) := by decide +kernel
theorem dX10_put_14 : decode cX10_put 14 = .ok (.tableswitch 64 0 2 #[26, 39, 52], 26) := by decide +kernel
theorem dX10_put_40 : decode cX10_put 40 = .ok (.aload_n 0, 1) := by decide +kernel
theorem dX10_put_41 : decode cX10_put 41 = .ok (.getfield 9, 3) := by decide +kernel
theorem dX10_put_44 : decode cX10_put 44 = .ok (.iload_n 1, 1) := by decide +kernel
theorem dX10_put_45 : decode cX10_put 45 = .ok (.lload_n 2, 1) := by decide +kernel
theorem dX10_put_46 : decode cX10_put 46 = .ok (.l2i, 1) := by decide +kernel
theorem dX10_put_47 : decode cX10_put 47 = .ok (.i2b, 1) := by decide +kernel
theorem dX10_put_48 : decode cX10_put 48 = .ok (.i2l, 1) := by decide +kernel
theorem dX10_put_49 : decode cX10_put 49 = .ok (.lastore, 1) := by decide +kernel
theorem dX10_put_50 : decode cX10_put 50 = .ok (.goto 35, 3) := by decide +kernel
theorem dX10_put_53 : decode cX10_put 53 = .ok (.aload_n 0, 1) := by decide +kernel
theorem dX10_put_54 : decode cX10_put 54 = .ok (.getfield 9, 3) := by decide +kernel
theorem dX10_put_57 : decode cX10_put 57 = .ok (.iload_n 1, 1) := by decide +kernel
theorem dX10_put_58 : decode cX10_put 58 = .ok (.lload_n 2, 1) := by decide +kernel
theorem dX10_put_59 : decode cX10_put 59 = .ok (.l2i, 1) := by decide +kernel
theorem dX10_put_60 : decode cX10_put 60 = .ok (.i2s, 1) := by decide +kernel
theorem dX10_put_61 : decode cX10_put 61 = .ok (.i2l, 1) := by decide +kernel
theorem dX10_put_62 : decode cX10_put 62 = .ok (.lastore, 1) := by decide +kernel
theorem dX10_put_63 : decode cX10_put 63 = .ok (.goto 22, 3) := by decide +kernel
theorem dX10_put_66 : decode cX10_put 66 = .ok (.aload_n 0, 1) := by decide +kernel
theorem dX10_put_67 : decode cX10_put 67 = .ok (.getfield 9, 3) := by decide +kernel
theorem dX10_put_70 : decode cX10_put 70 = .ok (.iload_n 1, 1) := by decide +kernel
theorem dX10_put_71 : decode cX10_put 71 = .ok (.lload_n 2, 1) := by decide +kernel
theorem dX10_put_72 : decode cX10_put 72 = .ok (.l2i, 1) := by decide +kernel
theorem dX10_put_73 : decode cX10_put 73 = .ok (.i2l, 1) := by decide +kernel
theorem dX10_put_74 : decode cX10_put 74 = .ok (.lastore, 1) := by decide +kernel
theorem dX10_put_75 : decode cX10_put 75 = .ok (.goto 10, 3) := by decide +kernel
theorem dX10_put_78 : decode cX10_put 78 = .ok (.aload_n 0, 1) := by decide +kernel
theorem dX10_put_79 : decode cX10_put 79 = .ok (.getfield 9, 3) := by decide +kernel
theorem dX10_put_82 : decode cX10_put 82 = .ok (.iload_n 1, 1) := by decide +kernel
theorem dX10_put_83 : decode cX10_put 83 = .ok (.lload_n 2, 1) := by decide +kernel
theorem dX10_put_84 : decode cX10_put 84 = .ok (.lastore, 1) := by decide +kernel
theorem dX10_put_85 : decode cX10_put 85 = .ok (.return_, 1) := by decide +kernel
theorem dX8_append_0 : decode cX8_append 0 = .ok (.bipush 24, 2) := by decide +kernel
theorem dX8_append_2 : decode cX8_append 2 = .ok (.istore_n 2, 1) := by decide +kernel
theorem dX8_append_3 : decode cX8_append 3 = .ok (.iload_n 2, 1) := by decide +kernel
theorem dX8_append_4 : decode cX8_append 4 = .ok (.ifCond .lt 42, 3) := by decide +kernel
theorem dX8_append_7 : decode cX8_append 7 = .ok (.aload_n 0, 1) := by decide +kernel
theorem dX8_append_8 : decode cX8_append 8 = .ok (.getfield 46, 3) := by decide +kernel
theorem dX8_append_11 : decode cX8_append 11 = .ok (.sipush 900, 3) := by decide +kernel
theorem dX8_append_14 : decode cX8_append 14 = .ok (.if_icmp .ge 32, 3) := by decide +kernel
theorem dX8_append_17 : decode cX8_append 17 = .ok (.aload_n 0, 1) := by decide +kernel
theorem dX8_append_18 : decode cX8_append 18 = .ok (.getfield 9, 3) := by decide +kernel
theorem dX8_append_21 : decode cX8_append 21 = .ok (.aload_n 0, 1) := by decide +kernel
theorem dX8_append_22 : decode cX8_append 22 = .ok (.getfield 46, 3) := by decide +kernel
theorem dX8_append_25 : decode cX8_append 25 = .ok (.iload_n 1, 1) := by decide +kernel
theorem dX8_append_26 : decode cX8_append 26 = .ok (.iload_n 2, 1) := by decide +kernel
theorem dX8_append_27 : decode cX8_append 27 = .ok (.ishr, 1) := by decide +kernel
theorem dX8_append_28 : decode cX8_append 28 = .ok (.i2b, 1) := by decide +kernel
theorem dX8_append_29 : decode cX8_append 29 = .ok (.bastore, 1) := by decide +kernel
theorem dX8_append_30 : decode cX8_append 30 = .ok (.aload_n 0, 1) := by decide +kernel
theorem dX8_append_31 : decode cX8_append 31 = .ok (.dup, 1) := by decide +kernel
theorem dX8_append_32 : decode cX8_append 32 = .ok (.getfield 46, 3) := by decide +kernel
theorem dX8_append_35 : decode cX8_append 35 = .ok (.iconst 1, 1) := by decide +kernel
theorem dX8_append_36 : decode cX8_append 36 = .ok (.iadd, 1) := by decide +kernel
theorem dX8_append_37 : decode cX8_append 37 = .ok (.putfield 46, 3) := by decide +kernel
theorem dX8_append_40 : decode cX8_append 40 = .ok (.iinc 2 (-8), 3) := by decide +kernel
theorem dX8_append_43 : decode cX8_append 43 = .ok (.goto (-40), 3) := by decide +kernel
theorem dX8_append_46 : decode cX8_append 46 = .ok (.return_, 1) := by decide +kernel
theorem dX8_isLetter_0 : decode cX8_isLetter 0 = .ok (.iload_n 0, 1) := by decide +kernel
theorem dX8_isLetter_1 : decode cX8_isLetter 1 = .ok (.bipush 97, 2) := by decide +kernel
theorem dX8_isLetter_3 : decode cX8_isLetter 3 = .ok (.if_icmp .lt 13, 3) := by decide +kernel
theorem dX8_isLetter_6 : decode cX8_isLetter 6 = .ok (.iload_n 0, 1) := by decide +kernel
theorem dX8_isLetter_7 : decode cX8_isLetter 7 = .ok (.bipush 122, 2) := by decide +kernel
theorem dX8_isLetter_9 : decode cX8_isLetter 9 = .ok (.if_icmp .gt 7, 3) := by decide +kernel
theorem dX8_isLetter_12 : decode cX8_isLetter 12 = .ok (.iconst 1, 1) := by decide +kernel
theorem dX8_isLetter_13 : decode cX8_isLetter 13 = .ok (.goto 4, 3) := by decide +kernel
theorem dX8_isLetter_16 : decode cX8_isLetter 16 = .ok (.iconst 0, 1) := by decide +kernel
theorem dX8_isLetter_17 : decode cX8_isLetter 17 = .ok (.ireturn, 1) := by decide +kernel
theorem dX8_withLetter_0 : decode cX8_withLetter 0 = .ok (.lload_n 0, 1) := by decide +kernel
theorem dX8_withLetter_1 : decode cX8_withLetter 1 = .ok (.ldc2_w 97, 3) := by decide +kernel
theorem dX8_withLetter_4 : decode cX8_withLetter 4 = .ok (.lmul, 1) := by decide +kernel
theorem dX8_withLetter_5 : decode cX8_withLetter 5 = .ok (.iload_n 2, 1) := by decide +kernel
theorem dX8_withLetter_6 : decode cX8_withLetter 6 = .ok (.bipush 97, 2) := by decide +kernel
theorem dX8_withLetter_8 : decode cX8_withLetter 8 = .ok (.isub, 1) := by decide +kernel
theorem dX8_withLetter_9 : decode cX8_withLetter 9 = .ok (.iconst 1, 1) := by decide +kernel
theorem dX8_withLetter_10 : decode cX8_withLetter 10 = .ok (.iadd, 1) := by decide +kernel
theorem dX8_withLetter_11 : decode cX8_withLetter 11 = .ok (.i2l, 1) := by decide +kernel
theorem dX8_withLetter_12 : decode cX8_withLetter 12 = .ok (.ladd, 1) := by decide +kernel
theorem dX8_withLetter_13 : decode cX8_withLetter 13 = .ok (.lreturn, 1) := by decide +kernel
theorem dX8_scanWord_0 : decode cX8_scanWord 0 = .ok (.lconst 0, 1) := by decide +kernel
theorem dX8_scanWord_1 : decode cX8_scanWord 1 = .ok (.lstore_n 1, 1) := by decide +kernel
theorem dX8_scanWord_2 : decode cX8_scanWord 2 = .ok (.aload_n 0, 1) := by decide +kernel
theorem dX8_scanWord_3 : decode cX8_scanWord 3 = .ok (.getfield 60, 3) := by decide +kernel
theorem dX8_scanWord_6 : decode cX8_scanWord 6 = .ok (.aload_n 0, 1) := by decide +kernel
theorem dX8_scanWord_7 : decode cX8_scanWord 7 = .ok (.getfield 58, 3) := by decide +kernel
theorem dX8_scanWord_10 : decode cX8_scanWord 10 = .ok (.if_icmp .ge 45, 3) := by decide +kernel
theorem dX8_scanWord_13 : decode cX8_scanWord 13 = .ok (.aload_n 0, 1) := by decide +kernel
theorem dX8_scanWord_14 : decode cX8_scanWord 14 = .ok (.getfield 9, 3) := by decide +kernel
theorem dX8_scanWord_17 : decode cX8_scanWord 17 = .ok (.aload_n 0, 1) := by decide +kernel
theorem dX8_scanWord_18 : decode cX8_scanWord 18 = .ok (.getfield 60, 3) := by decide +kernel
theorem dX8_scanWord_21 : decode cX8_scanWord 21 = .ok (.baload, 1) := by decide +kernel
theorem dX8_scanWord_22 : decode cX8_scanWord 22 = .ok (.invokestatic 38, 3) := by decide +kernel
theorem dX8_scanWord_25 : decode cX8_scanWord 25 = .ok (.ifCond .eq 30, 3) := by decide +kernel
theorem dX8_scanWord_28 : decode cX8_scanWord 28 = .ok (.lload_n 1, 1) := by decide +kernel
theorem dX8_scanWord_29 : decode cX8_scanWord 29 = .ok (.aload_n 0, 1) := by decide +kernel
theorem dX8_scanWord_30 : decode cX8_scanWord 30 = .ok (.getfield 9, 3) := by decide +kernel
theorem dX8_scanWord_33 : decode cX8_scanWord 33 = .ok (.aload_n 0, 1) := by decide +kernel
theorem dX8_scanWord_34 : decode cX8_scanWord 34 = .ok (.getfield 60, 3) := by decide +kernel
theorem dX8_scanWord_37 : decode cX8_scanWord 37 = .ok (.baload, 1) := by decide +kernel
theorem dX8_scanWord_38 : decode cX8_scanWord 38 = .ok (.invokestatic 42, 3) := by decide +kernel
theorem dX8_scanWord_41 : decode cX8_scanWord 41 = .ok (.lstore_n 1, 1) := by decide +kernel
theorem dX8_scanWord_42 : decode cX8_scanWord 42 = .ok (.aload_n 0, 1) := by decide +kernel
theorem dX8_scanWord_43 : decode cX8_scanWord 43 = .ok (.dup, 1) := by decide +kernel
theorem dX8_scanWord_44 : decode cX8_scanWord 44 = .ok (.getfield 60, 3) := by decide +kernel
theorem dX8_scanWord_47 : decode cX8_scanWord 47 = .ok (.iconst 1, 1) := by decide +kernel
theorem dX8_scanWord_48 : decode cX8_scanWord 48 = .ok (.iadd, 1) := by decide +kernel
theorem dX8_scanWord_49 : decode cX8_scanWord 49 = .ok (.putfield 60, 3) := by decide +kernel
theorem dX8_scanWord_52 : decode cX8_scanWord 52 = .ok (.goto (-50), 3) := by decide +kernel
theorem dX8_scanWord_55 : decode cX8_scanWord 55 = .ok (.aload_n 0, 1) := by decide +kernel
theorem dX8_scanWord_56 : decode cX8_scanWord 56 = .ok (.iconst 1, 1) := by decide +kernel
theorem dX8_scanWord_57 : decode cX8_scanWord 57 = .ok (.putfield 66, 3) := by decide +kernel
theorem dX8_scanWord_60 : decode cX8_scanWord 60 = .ok (.aload_n 0, 1) := by decide +kernel
theorem dX8_scanWord_61 : decode cX8_scanWord 61 = .ok (.aload_n 0, 1) := by decide +kernel
theorem dX8_scanWord_62 : decode cX8_scanWord 62 = .ok (.getfield 60, 3) := by decide +kernel
theorem dX8_scanWord_65 : decode cX8_scanWord 65 = .ok (.aload_n 0, 1) := by decide +kernel
theorem dX8_scanWord_66 : decode cX8_scanWord 66 = .ok (.getfield 69, 3) := by decide +kernel
theorem dX8_scanWord_69 : decode cX8_scanWord 69 = .ok (.isub, 1) := by decide +kernel
theorem dX8_scanWord_70 : decode cX8_scanWord 70 = .ok (.bipush 8, 2) := by decide +kernel
theorem dX8_scanWord_72 : decode cX8_scanWord 72 = .ok (.if_icmp .le 7, 3) := by decide +kernel
theorem dX8_scanWord_75 : decode cX8_scanWord 75 = .ok (.lconst 0, 1) := by decide +kernel
theorem dX8_scanWord_76 : decode cX8_scanWord 76 = .ok (.goto 4, 3) := by decide +kernel
theorem dX8_scanWord_79 : decode cX8_scanWord 79 = .ok (.lload_n 1, 1) := by decide +kernel
theorem dX8_scanWord_80 : decode cX8_scanWord 80 = .ok (.putfield 75, 3) := by decide +kernel
theorem dX8_scanWord_83 : decode cX8_scanWord 83 = .ok (.iconst 0, 1) := by decide +kernel
theorem dX8_scanWord_84 : decode cX8_scanWord 84 = .ok (.istore_n 3, 1) := by decide +kernel
theorem dX8_scanWord_85 : decode cX8_scanWord 85 = .ok (.iload_n 3, 1) := by decide +kernel
theorem dX8_scanWord_86 : decode cX8_scanWord 86 = .ok (.bipush 30, 2) := by decide +kernel
theorem dX8_scanWord_88 : decode cX8_scanWord 88 = .ok (.if_icmp .ge 28, 3) := by decide +kernel
theorem dX8_scanWord_91 : decode cX8_scanWord 91 = .ok (.aload_n 0, 1) := by decide +kernel
theorem dX8_scanWord_92 : decode cX8_scanWord 92 = .ok (.getfield 22, 3) := by decide +kernel
theorem dX8_scanWord_95 : decode cX8_scanWord 95 = .ok (.iload_n 3, 1) := by decide +kernel
theorem dX8_scanWord_96 : decode cX8_scanWord 96 = .ok (.laload, 1) := by decide +kernel
theorem dX8_scanWord_97 : decode cX8_scanWord 97 = .ok (.aload_n 0, 1) := by decide +kernel
theorem dX8_scanWord_98 : decode cX8_scanWord 98 = .ok (.getfield 75, 3) := by decide +kernel
theorem dX8_scanWord_101 : decode cX8_scanWord 101 = .ok (.lcmp, 1) := by decide +kernel
theorem dX8_scanWord_102 : decode cX8_scanWord 102 = .ok (.ifCond .ne 8, 3) := by decide +kernel
theorem dX8_scanWord_105 : decode cX8_scanWord 105 = .ok (.aload_n 0, 1) := by decide +kernel
theorem dX8_scanWord_106 : decode cX8_scanWord 106 = .ok (.iload_n 3, 1) := by decide +kernel
theorem dX8_scanWord_107 : decode cX8_scanWord 107 = .ok (.putfield 72, 3) := by decide +kernel
theorem dX8_scanWord_110 : decode cX8_scanWord 110 = .ok (.iinc 3 1, 3) := by decide +kernel
theorem dX8_scanWord_113 : decode cX8_scanWord 113 = .ok (.goto (-28), 3) := by decide +kernel
theorem dX8_scanWord_116 : decode cX8_scanWord 116 = .ok (.return_, 1) := by decide +kernel
theorem dX8_isDigit_0 : decode cX8_isDigit 0 = .ok (.iload_n 0, 1) := by decide +kernel
theorem dX8_isDigit_1 : decode cX8_isDigit 1 = .ok (.bipush 48, 2) := by decide +kernel
theorem dX8_isDigit_3 : decode cX8_isDigit 3 = .ok (.if_icmp .lt 13, 3) := by decide +kernel
theorem dX8_isDigit_6 : decode cX8_isDigit 6 = .ok (.iload_n 0, 1) := by decide +kernel
theorem dX8_isDigit_7 : decode cX8_isDigit 7 = .ok (.bipush 57, 2) := by decide +kernel
theorem dX8_isDigit_9 : decode cX8_isDigit 9 = .ok (.if_icmp .gt 7, 3) := by decide +kernel
theorem dX8_isDigit_12 : decode cX8_isDigit 12 = .ok (.iconst 1, 1) := by decide +kernel
theorem dX8_isDigit_13 : decode cX8_isDigit 13 = .ok (.goto 4, 3) := by decide +kernel
theorem dX8_isDigit_16 : decode cX8_isDigit 16 = .ok (.iconst 0, 1) := by decide +kernel
theorem dX8_isDigit_17 : decode cX8_isDigit 17 = .ok (.ireturn, 1) := by decide +kernel
theorem dX8_scanNumber_0 : decode cX8_scanNumber 0 = .ok (.iconst 0, 1) := by decide +kernel
theorem dX8_scanNumber_1 : decode cX8_scanNumber 1 = .ok (.istore_n 1, 1) := by decide +kernel
theorem dX8_scanNumber_2 : decode cX8_scanNumber 2 = .ok (.aload_n 0, 1) := by decide +kernel
theorem dX8_scanNumber_3 : decode cX8_scanNumber 3 = .ok (.getfield 60, 3) := by decide +kernel
theorem dX8_scanNumber_6 : decode cX8_scanNumber 6 = .ok (.aload_n 0, 1) := by decide +kernel
theorem dX8_scanNumber_7 : decode cX8_scanNumber 7 = .ok (.getfield 58, 3) := by decide +kernel
theorem dX8_scanNumber_10 : decode cX8_scanNumber 10 = .ok (.if_icmp .ge 49, 3) := by decide +kernel
theorem dX8_scanNumber_13 : decode cX8_scanNumber 13 = .ok (.aload_n 0, 1) := by decide +kernel
theorem dX8_scanNumber_14 : decode cX8_scanNumber 14 = .ok (.getfield 9, 3) := by decide +kernel
theorem dX8_scanNumber_17 : decode cX8_scanNumber 17 = .ok (.aload_n 0, 1) := by decide +kernel
theorem dX8_scanNumber_18 : decode cX8_scanNumber 18 = .ok (.getfield 60, 3) := by decide +kernel
theorem dX8_scanNumber_21 : decode cX8_scanNumber 21 = .ok (.baload, 1) := by decide +kernel
theorem dX8_scanNumber_22 : decode cX8_scanNumber 22 = .ok (.invokestatic 88, 3) := by decide +kernel
theorem dX8_scanNumber_25 : decode cX8_scanNumber 25 = .ok (.ifCond .eq 34, 3) := by decide +kernel
theorem dX8_scanNumber_28 : decode cX8_scanNumber 28 = .ok (.iload_n 1, 1) := by decide +kernel
theorem dX8_scanNumber_29 : decode cX8_scanNumber 29 = .ok (.bipush 10, 2) := by decide +kernel
theorem dX8_scanNumber_31 : decode cX8_scanNumber 31 = .ok (.imul, 1) := by decide +kernel
theorem dX8_scanNumber_32 : decode cX8_scanNumber 32 = .ok (.aload_n 0, 1) := by decide +kernel
theorem dX8_scanNumber_33 : decode cX8_scanNumber 33 = .ok (.getfield 9, 3) := by decide +kernel
theorem dX8_scanNumber_36 : decode cX8_scanNumber 36 = .ok (.aload_n 0, 1) := by decide +kernel
theorem dX8_scanNumber_37 : decode cX8_scanNumber 37 = .ok (.getfield 60, 3) := by decide +kernel
theorem dX8_scanNumber_40 : decode cX8_scanNumber 40 = .ok (.baload, 1) := by decide +kernel
theorem dX8_scanNumber_41 : decode cX8_scanNumber 41 = .ok (.bipush 48, 2) := by decide +kernel
theorem dX8_scanNumber_43 : decode cX8_scanNumber 43 = .ok (.isub, 1) := by decide +kernel
theorem dX8_scanNumber_44 : decode cX8_scanNumber 44 = .ok (.iadd, 1) := by decide +kernel
theorem dX8_scanNumber_45 : decode cX8_scanNumber 45 = .ok (.istore_n 1, 1) := by decide +kernel
theorem dX8_scanNumber_46 : decode cX8_scanNumber 46 = .ok (.aload_n 0, 1) := by decide +kernel
theorem dX8_scanNumber_47 : decode cX8_scanNumber 47 = .ok (.dup, 1) := by decide +kernel
theorem dX8_scanNumber_48 : decode cX8_scanNumber 48 = .ok (.getfield 60, 3) := by decide +kernel
theorem dX8_scanNumber_51 : decode cX8_scanNumber 51 = .ok (.iconst 1, 1) := by decide +kernel
theorem dX8_scanNumber_52 : decode cX8_scanNumber 52 = .ok (.iadd, 1) := by decide +kernel
theorem dX8_scanNumber_53 : decode cX8_scanNumber 53 = .ok (.putfield 60, 3) := by decide +kernel
theorem dX8_scanNumber_56 : decode cX8_scanNumber 56 = .ok (.goto (-54), 3) := by decide +kernel
theorem dX8_scanNumber_59 : decode cX8_scanNumber 59 = .ok (.aload_n 0, 1) := by decide +kernel
theorem dX8_scanNumber_60 : decode cX8_scanNumber 60 = .ok (.aload_n 0, 1) := by decide +kernel
theorem dX8_scanNumber_61 : decode cX8_scanNumber 61 = .ok (.getfield 60, 3) := by decide +kernel
theorem dX8_scanNumber_64 : decode cX8_scanNumber 64 = .ok (.aload_n 0, 1) := by decide +kernel
theorem dX8_scanNumber_65 : decode cX8_scanNumber 65 = .ok (.getfield 69, 3) := by decide +kernel
theorem dX8_scanNumber_68 : decode cX8_scanNumber 68 = .ok (.isub, 1) := by decide +kernel
theorem dX8_scanNumber_69 : decode cX8_scanNumber 69 = .ok (.iconst 4, 1) := by decide +kernel
theorem dX8_scanNumber_70 : decode cX8_scanNumber 70 = .ok (.if_icmp .le 7, 3) := by decide +kernel
theorem dX8_scanNumber_73 : decode cX8_scanNumber 73 = .ok (.iconst 4, 1) := by decide +kernel
theorem dX8_scanNumber_74 : decode cX8_scanNumber 74 = .ok (.goto 4, 3) := by decide +kernel
theorem dX8_scanNumber_77 : decode cX8_scanNumber 77 = .ok (.iconst 2, 1) := by decide +kernel
theorem dX8_scanNumber_78 : decode cX8_scanNumber 78 = .ok (.putfield 66, 3) := by decide +kernel
theorem dX8_scanNumber_81 : decode cX8_scanNumber 81 = .ok (.aload_n 0, 1) := by decide +kernel
theorem dX8_scanNumber_82 : decode cX8_scanNumber 82 = .ok (.iload_n 1, 1) := by decide +kernel
theorem dX8_scanNumber_83 : decode cX8_scanNumber 83 = .ok (.putfield 79, 3) := by decide +kernel
theorem dX8_scanNumber_86 : decode cX8_scanNumber 86 = .ok (.return_, 1) := by decide +kernel
theorem dX8_isSign_0 : decode cX8_isSign 0 = .ok (.iload_n 0, 1) := by decide +kernel
theorem dX8_isSign_1 : decode cX8_isSign 1 = .ok (.bipush 59, 2) := by decide +kernel
theorem dX8_isSign_3 : decode cX8_isSign 3 = .ok (.if_icmp .eq 21, 3) := by decide +kernel
theorem dX8_isSign_6 : decode cX8_isSign 6 = .ok (.iload_n 0, 1) := by decide +kernel
theorem dX8_isSign_7 : decode cX8_isSign 7 = .ok (.bipush 60, 2) := by decide +kernel
theorem dX8_isSign_9 : decode cX8_isSign 9 = .ok (.if_icmp .eq 15, 3) := by decide +kernel
theorem dX8_isSign_12 : decode cX8_isSign 12 = .ok (.iload_n 0, 1) := by decide +kernel
theorem dX8_isSign_13 : decode cX8_isSign 13 = .ok (.bipush 62, 2) := by decide +kernel
theorem dX8_isSign_15 : decode cX8_isSign 15 = .ok (.if_icmp .eq 9, 3) := by decide +kernel
theorem dX8_isSign_18 : decode cX8_isSign 18 = .ok (.iload_n 0, 1) := by decide +kernel
theorem dX8_isSign_19 : decode cX8_isSign 19 = .ok (.bipush 61, 2) := by decide +kernel
theorem dX8_isSign_21 : decode cX8_isSign 21 = .ok (.if_icmp .ne 7, 3) := by decide +kernel
theorem dX8_isSign_24 : decode cX8_isSign 24 = .ok (.iconst 1, 1) := by decide +kernel
theorem dX8_isSign_25 : decode cX8_isSign 25 = .ok (.goto 4, 3) := by decide +kernel
theorem dX8_isSign_28 : decode cX8_isSign 28 = .ok (.iconst 0, 1) := by decide +kernel
theorem dX8_isSign_29 : decode cX8_isSign 29 = .ok (.ireturn, 1) := by decide +kernel
theorem dX8_advance_0 : decode cX8_advance 0 = .ok (.aload_n 0, 1) := by decide +kernel
theorem dX8_advance_1 : decode cX8_advance 1 = .ok (.getfield 60, 3) := by decide +kernel
theorem dX8_advance_4 : decode cX8_advance 4 = .ok (.aload_n 0, 1) := by decide +kernel
theorem dX8_advance_5 : decode cX8_advance 5 = .ok (.getfield 58, 3) := by decide +kernel
theorem dX8_advance_8 : decode cX8_advance 8 = .ok (.if_icmp .ge 44, 3) := by decide +kernel
theorem dX8_advance_11 : decode cX8_advance 11 = .ok (.aload_n 0, 1) := by decide +kernel
theorem dX8_advance_12 : decode cX8_advance 12 = .ok (.getfield 9, 3) := by decide +kernel
theorem dX8_advance_15 : decode cX8_advance 15 = .ok (.aload_n 0, 1) := by decide +kernel
theorem dX8_advance_16 : decode cX8_advance 16 = .ok (.getfield 60, 3) := by decide +kernel
theorem dX8_advance_19 : decode cX8_advance 19 = .ok (.baload, 1) := by decide +kernel
theorem dX8_advance_20 : decode cX8_advance 20 = .ok (.bipush 10, 2) := by decide +kernel
theorem dX8_advance_22 : decode cX8_advance 22 = .ok (.if_icmp .eq 17, 3) := by decide +kernel
theorem dX8_advance_25 : decode cX8_advance 25 = .ok (.aload_n 0, 1) := by decide +kernel
theorem dX8_advance_26 : decode cX8_advance 26 = .ok (.getfield 9, 3) := by decide +kernel
theorem dX8_advance_29 : decode cX8_advance 29 = .ok (.aload_n 0, 1) := by decide +kernel
theorem dX8_advance_30 : decode cX8_advance 30 = .ok (.getfield 60, 3) := by decide +kernel
theorem dX8_advance_33 : decode cX8_advance 33 = .ok (.baload, 1) := by decide +kernel
theorem dX8_advance_34 : decode cX8_advance 34 = .ok (.bipush 32, 2) := by decide +kernel
theorem dX8_advance_36 : decode cX8_advance 36 = .ok (.if_icmp .ne 16, 3) := by decide +kernel
theorem dX8_advance_39 : decode cX8_advance 39 = .ok (.aload_n 0, 1) := by decide +kernel
theorem dX8_advance_40 : decode cX8_advance 40 = .ok (.dup, 1) := by decide +kernel
theorem dX8_advance_41 : decode cX8_advance 41 = .ok (.getfield 60, 3) := by decide +kernel
theorem dX8_advance_44 : decode cX8_advance 44 = .ok (.iconst 1, 1) := by decide +kernel
theorem dX8_advance_45 : decode cX8_advance 45 = .ok (.iadd, 1) := by decide +kernel
theorem dX8_advance_46 : decode cX8_advance 46 = .ok (.putfield 60, 3) := by decide +kernel
theorem dX8_advance_49 : decode cX8_advance 49 = .ok (.goto (-49), 3) := by decide +kernel
theorem dX8_advance_52 : decode cX8_advance 52 = .ok (.aload_n 0, 1) := by decide +kernel
theorem dX8_advance_53 : decode cX8_advance 53 = .ok (.aload_n 0, 1) := by decide +kernel
theorem dX8_advance_54 : decode cX8_advance 54 = .ok (.getfield 60, 3) := by decide +kernel
theorem dX8_advance_57 : decode cX8_advance 57 = .ok (.putfield 69, 3) := by decide +kernel
theorem dX8_advance_60 : decode cX8_advance 60 = .ok (.aload_n 0, 1) := by decide +kernel
theorem dX8_advance_61 : decode cX8_advance 61 = .ok (.iconst (-1), 1) := by decide +kernel
theorem dX8_advance_62 : decode cX8_advance 62 = .ok (.putfield 72, 3) := by decide +kernel
theorem dX8_advance_65 : decode cX8_advance 65 = .ok (.aload_n 0, 1) := by decide +kernel
theorem dX8_advance_66 : decode cX8_advance 66 = .ok (.lconst 0, 1) := by decide +kernel
theorem dX8_advance_67 : decode cX8_advance 67 = .ok (.putfield 75, 3) := by decide +kernel
theorem dX8_advance_70 : decode cX8_advance 70 = .ok (.aload_n 0, 1) := by decide +kernel
theorem dX8_advance_71 : decode cX8_advance 71 = .ok (.iconst (-1), 1) := by decide +kernel
theorem dX8_advance_72 : decode cX8_advance 72 = .ok (.putfield 79, 3) := by decide +kernel
theorem dX8_advance_75 : decode cX8_advance 75 = .ok (.aload_n 0, 1) := by decide +kernel
theorem dX8_advance_76 : decode cX8_advance 76 = .ok (.iconst (-1), 1) := by decide +kernel
theorem dX8_advance_77 : decode cX8_advance 77 = .ok (.putfield 82, 3) := by decide +kernel
theorem dX8_advance_80 : decode cX8_advance 80 = .ok (.aload_n 0, 1) := by decide +kernel
theorem dX8_advance_81 : decode cX8_advance 81 = .ok (.getfield 60, 3) := by decide +kernel
theorem dX8_advance_84 : decode cX8_advance 84 = .ok (.aload_n 0, 1) := by decide +kernel
theorem dX8_advance_85 : decode cX8_advance 85 = .ok (.getfield 58, 3) := by decide +kernel
theorem dX8_advance_88 : decode cX8_advance 88 = .ok (.if_icmp .lt 11, 3) := by decide +kernel
theorem dX8_advance_91 : decode cX8_advance 91 = .ok (.aload_n 0, 1) := by decide +kernel
theorem dX8_advance_92 : decode cX8_advance 92 = .ok (.iconst 0, 1) := by decide +kernel
theorem dX8_advance_93 : decode cX8_advance 93 = .ok (.putfield 66, 3) := by decide +kernel
theorem dX8_advance_96 : decode cX8_advance 96 = .ok (.goto 98, 3) := by decide +kernel
theorem dX8_advance_99 : decode cX8_advance 99 = .ok (.aload_n 0, 1) := by decide +kernel
theorem dX8_advance_100 : decode cX8_advance 100 = .ok (.getfield 9, 3) := by decide +kernel
theorem dX8_advance_103 : decode cX8_advance 103 = .ok (.aload_n 0, 1) := by decide +kernel
theorem dX8_advance_104 : decode cX8_advance 104 = .ok (.getfield 60, 3) := by decide +kernel
theorem dX8_advance_107 : decode cX8_advance 107 = .ok (.baload, 1) := by decide +kernel
theorem dX8_advance_108 : decode cX8_advance 108 = .ok (.invokestatic 38, 3) := by decide +kernel
theorem dX8_advance_111 : decode cX8_advance 111 = .ok (.ifCond .eq 10, 3) := by decide +kernel
theorem dX8_advance_114 : decode cX8_advance 114 = .ok (.aload_n 0, 1) := by decide +kernel
theorem dX8_advance_115 : decode cX8_advance 115 = .ok (.invokevirtual 85, 3) := by decide +kernel
theorem dX8_advance_118 : decode cX8_advance 118 = .ok (.goto 76, 3) := by decide +kernel
theorem dX8_advance_121 : decode cX8_advance 121 = .ok (.aload_n 0, 1) := by decide +kernel
theorem dX8_advance_122 : decode cX8_advance 122 = .ok (.getfield 9, 3) := by decide +kernel
theorem dX8_advance_125 : decode cX8_advance 125 = .ok (.aload_n 0, 1) := by decide +kernel
theorem dX8_advance_126 : decode cX8_advance 126 = .ok (.getfield 60, 3) := by decide +kernel
theorem dX8_advance_129 : decode cX8_advance 129 = .ok (.baload, 1) := by decide +kernel
theorem dX8_advance_130 : decode cX8_advance 130 = .ok (.invokestatic 88, 3) := by decide +kernel
theorem dX8_advance_133 : decode cX8_advance 133 = .ok (.ifCond .eq 10, 3) := by decide +kernel
theorem dX8_advance_136 : decode cX8_advance 136 = .ok (.aload_n 0, 1) := by decide +kernel
theorem dX8_advance_137 : decode cX8_advance 137 = .ok (.invokevirtual 91, 3) := by decide +kernel
theorem dX8_advance_140 : decode cX8_advance 140 = .ok (.goto 54, 3) := by decide +kernel
theorem dX8_advance_143 : decode cX8_advance 143 = .ok (.aload_n 0, 1) := by decide +kernel
theorem dX8_advance_144 : decode cX8_advance 144 = .ok (.getfield 9, 3) := by decide +kernel
theorem dX8_advance_147 : decode cX8_advance 147 = .ok (.aload_n 0, 1) := by decide +kernel
theorem dX8_advance_148 : decode cX8_advance 148 = .ok (.getfield 60, 3) := by decide +kernel
theorem dX8_advance_151 : decode cX8_advance 151 = .ok (.baload, 1) := by decide +kernel
theorem dX8_advance_152 : decode cX8_advance 152 = .ok (.invokestatic 94, 3) := by decide +kernel
theorem dX8_advance_155 : decode cX8_advance 155 = .ok (.ifCond .eq 34, 3) := by decide +kernel
theorem dX8_advance_158 : decode cX8_advance 158 = .ok (.aload_n 0, 1) := by decide +kernel
theorem dX8_advance_159 : decode cX8_advance 159 = .ok (.iconst 3, 1) := by decide +kernel
theorem dX8_advance_160 : decode cX8_advance 160 = .ok (.putfield 66, 3) := by decide +kernel
theorem dX8_advance_163 : decode cX8_advance 163 = .ok (.aload_n 0, 1) := by decide +kernel
theorem dX8_advance_164 : decode cX8_advance 164 = .ok (.aload_n 0, 1) := by decide +kernel
theorem dX8_advance_165 : decode cX8_advance 165 = .ok (.getfield 9, 3) := by decide +kernel
theorem dX8_advance_168 : decode cX8_advance 168 = .ok (.aload_n 0, 1) := by decide +kernel
theorem dX8_advance_169 : decode cX8_advance 169 = .ok (.getfield 60, 3) := by decide +kernel
theorem dX8_advance_172 : decode cX8_advance 172 = .ok (.baload, 1) := by decide +kernel
theorem dX8_advance_173 : decode cX8_advance 173 = .ok (.putfield 82, 3) := by decide +kernel
theorem dX8_advance_176 : decode cX8_advance 176 = .ok (.aload_n 0, 1) := by decide +kernel
theorem dX8_advance_177 : decode cX8_advance 177 = .ok (.dup, 1) := by decide +kernel
theorem dX8_advance_178 : decode cX8_advance 178 = .ok (.getfield 60, 3) := by decide +kernel
theorem dX8_advance_181 : decode cX8_advance 181 = .ok (.iconst 1, 1) := by decide +kernel
theorem dX8_advance_182 : decode cX8_advance 182 = .ok (.iadd, 1) := by decide +kernel
theorem dX8_advance_183 : decode cX8_advance 183 = .ok (.putfield 60, 3) := by decide +kernel
theorem dX8_advance_186 : decode cX8_advance 186 = .ok (.goto 8, 3) := by decide +kernel
theorem dX8_advance_189 : decode cX8_advance 189 = .ok (.aload_n 0, 1) := by decide +kernel
theorem dX8_advance_190 : decode cX8_advance 190 = .ok (.iconst 4, 1) := by decide +kernel
theorem dX8_advance_191 : decode cX8_advance 191 = .ok (.putfield 66, 3) := by decide +kernel
theorem dX8_advance_194 : decode cX8_advance 194 = .ok (.return_, 1) := by decide +kernel
theorem dX8_begin_0 : decode cX8_begin 0 = .ok (.aload_n 0, 1) := by decide +kernel
theorem dX8_begin_1 : decode cX8_begin 1 = .ok (.iconst 0, 1) := by decide +kernel
theorem dX8_begin_2 : decode cX8_begin 2 = .ok (.iload_n 1, 1) := by decide +kernel
theorem dX8_begin_3 : decode cX8_begin 3 = .ok (.aload_n 0, 1) := by decide +kernel
theorem dX8_begin_4 : decode cX8_begin 4 = .ok (.getfield 46, 3) := by decide +kernel
theorem dX8_begin_7 : decode cX8_begin 7 = .ok (.invokestatic 49, 3) := by decide +kernel
theorem dX8_begin_10 : decode cX8_begin 10 = .ok (.invokestatic 55, 3) := by decide +kernel
theorem dX8_begin_13 : decode cX8_begin 13 = .ok (.putfield 58, 3) := by decide +kernel
theorem dX8_begin_16 : decode cX8_begin 16 = .ok (.aload_n 0, 1) := by decide +kernel
theorem dX8_begin_17 : decode cX8_begin 17 = .ok (.iconst 0, 1) := by decide +kernel
theorem dX8_begin_18 : decode cX8_begin 18 = .ok (.putfield 60, 3) := by decide +kernel
theorem dX8_begin_21 : decode cX8_begin 21 = .ok (.aload_n 0, 1) := by decide +kernel
theorem dX8_begin_22 : decode cX8_begin 22 = .ok (.iconst 0, 1) := by decide +kernel
theorem dX8_begin_23 : decode cX8_begin 23 = .ok (.putfield 15, 3) := by decide +kernel
theorem dX8_begin_26 : decode cX8_begin 26 = .ok (.aload_n 0, 1) := by decide +kernel
theorem dX8_begin_27 : decode cX8_begin 27 = .ok (.iconst (-1), 1) := by decide +kernel
theorem dX8_begin_28 : decode cX8_begin 28 = .ok (.putfield 19, 3) := by decide +kernel
theorem dX8_begin_31 : decode cX8_begin 31 = .ok (.aload_n 0, 1) := by decide +kernel
theorem dX8_begin_32 : decode cX8_begin 32 = .ok (.invokevirtual 63, 3) := by decide +kernel
theorem dX8_begin_35 : decode cX8_begin 35 = .ok (.return_, 1) := by decide +kernel
theorem dX9_clear_0 : decode cX9_clear 0 = .ok (.aload_n 0, 1) := by decide +kernel
theorem dX9_clear_1 : decode cX9_clear 1 = .ok (.bipush 24, 2) := by decide +kernel
theorem dX9_clear_3 : decode cX9_clear 3 = .ok (.putfield 52, 3) := by decide +kernel
theorem dX9_clear_6 : decode cX9_clear 6 = .ok (.aload_n 0, 1) := by decide +kernel
theorem dX9_clear_7 : decode cX9_clear 7 = .ok (.bipush 8, 2) := by decide +kernel
theorem dX9_clear_9 : decode cX9_clear 9 = .ok (.putfield 56, 3) := by decide +kernel
theorem dX9_clear_12 : decode cX9_clear 12 = .ok (.aload_n 0, 1) := by decide +kernel
theorem dX9_clear_13 : decode cX9_clear 13 = .ok (.bipush 12, 2) := by decide +kernel
theorem dX9_clear_15 : decode cX9_clear 15 = .ok (.putfield 59, 3) := by decide +kernel
theorem dX9_clear_18 : decode cX9_clear 18 = .ok (.aload_n 0, 1) := by decide +kernel
theorem dX9_clear_19 : decode cX9_clear 19 = .ok (.iconst 0, 1) := by decide +kernel
theorem dX9_clear_20 : decode cX9_clear 20 = .ok (.putfield 62, 3) := by decide +kernel
theorem dX9_clear_23 : decode cX9_clear 23 = .ok (.aload_n 0, 1) := by decide +kernel
theorem dX9_clear_24 : decode cX9_clear 24 = .ok (.iconst 0, 1) := by decide +kernel
theorem dX9_clear_25 : decode cX9_clear 25 = .ok (.putfield 65, 3) := by decide +kernel
theorem dX9_clear_28 : decode cX9_clear 28 = .ok (.aload_n 0, 1) := by decide +kernel
theorem dX9_clear_29 : decode cX9_clear 29 = .ok (.iconst 0, 1) := by decide +kernel
theorem dX9_clear_30 : decode cX9_clear 30 = .ok (.putfield 68, 3) := by decide +kernel
theorem dX9_clear_33 : decode cX9_clear 33 = .ok (.aload_n 0, 1) := by decide +kernel
theorem dX9_clear_34 : decode cX9_clear 34 = .ok (.iconst 0, 1) := by decide +kernel
theorem dX9_clear_35 : decode cX9_clear 35 = .ok (.putfield 71, 3) := by decide +kernel
theorem dX9_clear_38 : decode cX9_clear 38 = .ok (.aload_n 0, 1) := by decide +kernel
theorem dX9_clear_39 : decode cX9_clear 39 = .ok (.iconst 0, 1) := by decide +kernel
theorem dX9_clear_40 : decode cX9_clear 40 = .ok (.putfield 74, 3) := by decide +kernel
theorem dX9_clear_43 : decode cX9_clear 43 = .ok (.return_, 1) := by decide +kernel
theorem dX8_refuseHere_0 : decode cX8_refuseHere 0 = .ok (.aload_n 0, 1) := by decide +kernel
theorem dX8_refuseHere_1 : decode cX8_refuseHere 1 = .ok (.aload_n 0, 1) := by decide +kernel
theorem dX8_refuseHere_2 : decode cX8_refuseHere 2 = .ok (.getfield 66, 3) := by decide +kernel
theorem dX8_refuseHere_5 : decode cX8_refuseHere 5 = .ok (.iconst 4, 1) := by decide +kernel
theorem dX8_refuseHere_6 : decode cX8_refuseHere 6 = .ok (.if_icmp .ne 7, 3) := by decide +kernel
theorem dX8_refuseHere_9 : decode cX8_refuseHere 9 = .ok (.iconst 1, 1) := by decide +kernel
theorem dX8_refuseHere_10 : decode cX8_refuseHere 10 = .ok (.goto 4, 3) := by decide +kernel
theorem dX8_refuseHere_13 : decode cX8_refuseHere 13 = .ok (.iload_n 1, 1) := by decide +kernel
theorem dX8_refuseHere_14 : decode cX8_refuseHere 14 = .ok (.putfield 15, 3) := by decide +kernel
theorem dX8_refuseHere_17 : decode cX8_refuseHere 17 = .ok (.aload_n 0, 1) := by decide +kernel
theorem dX8_refuseHere_18 : decode cX8_refuseHere 18 = .ok (.aload_n 0, 1) := by decide +kernel
theorem dX8_refuseHere_19 : decode cX8_refuseHere 19 = .ok (.getfield 69, 3) := by decide +kernel
theorem dX8_refuseHere_22 : decode cX8_refuseHere 22 = .ok (.putfield 19, 3) := by decide +kernel
theorem dX8_refuseHere_25 : decode cX8_refuseHere 25 = .ok (.iconst 0, 1) := by decide +kernel
theorem dX8_refuseHere_26 : decode cX8_refuseHere 26 = .ok (.ireturn, 1) := by decide +kernel
theorem dX9_beginOnce_0 : decode cX9_beginOnce 0 = .ok (.iconst 1, 1) := by decide +kernel
theorem dX9_beginOnce_1 : decode cX9_beginOnce 1 = .ok (.iload_n 2, 1) := by decide +kernel
theorem dX9_beginOnce_2 : decode cX9_beginOnce 2 = .ok (.ishl, 1) := by decide +kernel
theorem dX9_beginOnce_3 : decode cX9_beginOnce 3 = .ok (.istore_n 3, 1) := by decide +kernel
theorem dX9_beginOnce_4 : decode cX9_beginOnce 4 = .ok (.aload_n 0, 1) := by decide +kernel
theorem dX9_beginOnce_5 : decode cX9_beginOnce 5 = .ok (.getfield 74, 3) := by decide +kernel
theorem dX9_beginOnce_8 : decode cX9_beginOnce 8 = .ok (.iload_n 3, 1) := by decide +kernel
theorem dX9_beginOnce_9 : decode cX9_beginOnce 9 = .ok (.iand, 1) := by decide +kernel
theorem dX9_beginOnce_10 : decode cX9_beginOnce 10 = .ok (.ifCond .eq 9, 3) := by decide +kernel
theorem dX9_beginOnce_13 : decode cX9_beginOnce 13 = .ok (.aload_n 1, 1) := by decide +kernel
theorem dX9_beginOnce_14 : decode cX9_beginOnce 14 = .ok (.iconst 5, 1) := by decide +kernel
theorem dX9_beginOnce_15 : decode cX9_beginOnce 15 = .ok (.invokevirtual 110, 3) := by decide +kernel
theorem dX9_beginOnce_18 : decode cX9_beginOnce 18 = .ok (.ireturn, 1) := by decide +kernel
theorem dX9_beginOnce_19 : decode cX9_beginOnce 19 = .ok (.aload_n 0, 1) := by decide +kernel
theorem dX9_beginOnce_20 : decode cX9_beginOnce 20 = .ok (.dup, 1) := by decide +kernel
theorem dX9_beginOnce_21 : decode cX9_beginOnce 21 = .ok (.getfield 74, 3) := by decide +kernel
theorem dX9_beginOnce_24 : decode cX9_beginOnce 24 = .ok (.iload_n 3, 1) := by decide +kernel
theorem dX9_beginOnce_25 : decode cX9_beginOnce 25 = .ok (.ior, 1) := by decide +kernel
theorem dX9_beginOnce_26 : decode cX9_beginOnce 26 = .ok (.putfield 74, 3) := by decide +kernel
theorem dX9_beginOnce_29 : decode cX9_beginOnce 29 = .ok (.aload_n 1, 1) := by decide +kernel
theorem dX9_beginOnce_30 : decode cX9_beginOnce 30 = .ok (.invokevirtual 114, 3) := by decide +kernel
theorem dX9_beginOnce_33 : decode cX9_beginOnce 33 = .ok (.iconst 1, 1) := by decide +kernel
theorem dX9_beginOnce_34 : decode cX9_beginOnce 34 = .ok (.ireturn, 1) := by decide +kernel
theorem dX8_takeNumber_0 : decode cX8_takeNumber 0 = .ok (.aload_n 0, 1) := by decide +kernel
theorem dX8_takeNumber_1 : decode cX8_takeNumber 1 = .ok (.getfield 66, 3) := by decide +kernel
theorem dX8_takeNumber_4 : decode cX8_takeNumber 4 = .ok (.iconst 2, 1) := by decide +kernel
theorem dX8_takeNumber_5 : decode cX8_takeNumber 5 = .ok (.if_icmp .eq 9, 3) := by decide +kernel
theorem dX8_takeNumber_8 : decode cX8_takeNumber 8 = .ok (.aload_n 0, 1) := by decide +kernel
theorem dX8_takeNumber_9 : decode cX8_takeNumber 9 = .ok (.iconst 2, 1) := by decide +kernel
theorem dX8_takeNumber_10 : decode cX8_takeNumber 10 = .ok (.invokevirtual 99, 3) := by decide +kernel
theorem dX8_takeNumber_13 : decode cX8_takeNumber 13 = .ok (.ireturn, 1) := by decide +kernel
theorem dX8_takeNumber_14 : decode cX8_takeNumber 14 = .ok (.aload_n 0, 1) := by decide +kernel
theorem dX8_takeNumber_15 : decode cX8_takeNumber 15 = .ok (.getfield 79, 3) := by decide +kernel
theorem dX8_takeNumber_18 : decode cX8_takeNumber 18 = .ok (.iload_n 1, 1) := by decide +kernel
theorem dX8_takeNumber_19 : decode cX8_takeNumber 19 = .ok (.if_icmp .lt 11, 3) := by decide +kernel
theorem dX8_takeNumber_22 : decode cX8_takeNumber 22 = .ok (.aload_n 0, 1) := by decide +kernel
theorem dX8_takeNumber_23 : decode cX8_takeNumber 23 = .ok (.getfield 79, 3) := by decide +kernel
theorem dX8_takeNumber_26 : decode cX8_takeNumber 26 = .ok (.iload_n 2, 1) := by decide +kernel
theorem dX8_takeNumber_27 : decode cX8_takeNumber 27 = .ok (.if_icmp .le 9, 3) := by decide +kernel
theorem dX8_takeNumber_30 : decode cX8_takeNumber 30 = .ok (.aload_n 0, 1) := by decide +kernel
theorem dX8_takeNumber_31 : decode cX8_takeNumber 31 = .ok (.iconst 4, 1) := by decide +kernel
theorem dX8_takeNumber_32 : decode cX8_takeNumber 32 = .ok (.invokevirtual 99, 3) := by decide +kernel
theorem dX8_takeNumber_35 : decode cX8_takeNumber 35 = .ok (.ireturn, 1) := by decide +kernel
theorem dX8_takeNumber_36 : decode cX8_takeNumber 36 = .ok (.aload_n 0, 1) := by decide +kernel
theorem dX8_takeNumber_37 : decode cX8_takeNumber 37 = .ok (.aload_n 0, 1) := by decide +kernel
theorem dX8_takeNumber_38 : decode cX8_takeNumber 38 = .ok (.getfield 79, 3) := by decide +kernel
theorem dX8_takeNumber_41 : decode cX8_takeNumber 41 = .ok (.putfield 102, 3) := by decide +kernel
theorem dX8_takeNumber_44 : decode cX8_takeNumber 44 = .ok (.aload_n 0, 1) := by decide +kernel
theorem dX8_takeNumber_45 : decode cX8_takeNumber 45 = .ok (.invokevirtual 63, 3) := by decide +kernel
theorem dX8_takeNumber_48 : decode cX8_takeNumber 48 = .ok (.iconst 1, 1) := by decide +kernel
theorem dX8_takeNumber_49 : decode cX8_takeNumber 49 = .ok (.ireturn, 1) := by decide +kernel
theorem dX8_skipWord_0 : decode cX8_skipWord 0 = .ok (.aload_n 0, 1) := by decide +kernel
theorem dX8_skipWord_1 : decode cX8_skipWord 1 = .ok (.getfield 72, 3) := by decide +kernel
theorem dX8_skipWord_4 : decode cX8_skipWord 4 = .ok (.iload_n 1, 1) := by decide +kernel
theorem dX8_skipWord_5 : decode cX8_skipWord 5 = .ok (.if_icmp .eq 5, 3) := by decide +kernel
theorem dX8_skipWord_8 : decode cX8_skipWord 8 = .ok (.iconst 0, 1) := by decide +kernel
theorem dX8_skipWord_9 : decode cX8_skipWord 9 = .ok (.ireturn, 1) := by decide +kernel
theorem dX8_skipWord_10 : decode cX8_skipWord 10 = .ok (.aload_n 0, 1) := by decide +kernel
theorem dX8_skipWord_11 : decode cX8_skipWord 11 = .ok (.invokevirtual 63, 3) := by decide +kernel
theorem dX8_skipWord_14 : decode cX8_skipWord 14 = .ok (.iconst 1, 1) := by decide +kernel
theorem dX8_skipWord_15 : decode cX8_skipWord 15 = .ok (.ireturn, 1) := by decide +kernel
theorem dX8_takeWord_0 : decode cX8_takeWord 0 = .ok (.aload_n 0, 1) := by decide +kernel
theorem dX8_takeWord_1 : decode cX8_takeWord 1 = .ok (.iload_n 1, 1) := by decide +kernel
theorem dX8_takeWord_2 : decode cX8_takeWord 2 = .ok (.invokevirtual 105, 3) := by decide +kernel
theorem dX8_takeWord_5 : decode cX8_takeWord 5 = .ok (.ifCond .ne 11, 3) := by decide +kernel
theorem dX8_takeWord_8 : decode cX8_takeWord 8 = .ok (.aload_n 0, 1) := by decide +kernel
theorem dX8_takeWord_9 : decode cX8_takeWord 9 = .ok (.iconst 2, 1) := by decide +kernel
theorem dX8_takeWord_10 : decode cX8_takeWord 10 = .ok (.invokevirtual 99, 3) := by decide +kernel
theorem dX8_takeWord_13 : decode cX8_takeWord 13 = .ok (.ifCond .eq 7, 3) := by decide +kernel
theorem dX8_takeWord_16 : decode cX8_takeWord 16 = .ok (.iconst 1, 1) := by decide +kernel
theorem dX8_takeWord_17 : decode cX8_takeWord 17 = .ok (.goto 4, 3) := by decide +kernel
theorem dX8_takeWord_20 : decode cX8_takeWord 20 = .ok (.iconst 0, 1) := by decide +kernel
theorem dX8_takeWord_21 : decode cX8_takeWord 21 = .ok (.ireturn, 1) := by decide +kernel
theorem dX8_takeSemicolon_0 : decode cX8_takeSemicolon 0 = .ok (.aload_n 0, 1) := by decide +kernel
theorem dX8_takeSemicolon_1 : decode cX8_takeSemicolon 1 = .ok (.getfield 82, 3) := by decide +kernel
theorem dX8_takeSemicolon_4 : decode cX8_takeSemicolon 4 = .ok (.bipush 59, 2) := by decide +kernel
theorem dX8_takeSemicolon_6 : decode cX8_takeSemicolon 6 = .ok (.if_icmp .eq 9, 3) := by decide +kernel
theorem dX8_takeSemicolon_9 : decode cX8_takeSemicolon 9 = .ok (.aload_n 0, 1) := by decide +kernel
theorem dX8_takeSemicolon_10 : decode cX8_takeSemicolon 10 = .ok (.iconst 2, 1) := by decide +kernel
theorem dX8_takeSemicolon_11 : decode cX8_takeSemicolon 11 = .ok (.invokevirtual 99, 3) := by decide +kernel
theorem dX8_takeSemicolon_14 : decode cX8_takeSemicolon 14 = .ok (.ireturn, 1) := by decide +kernel
theorem dX8_takeSemicolon_15 : decode cX8_takeSemicolon 15 = .ok (.aload_n 0, 1) := by decide +kernel
theorem dX8_takeSemicolon_16 : decode cX8_takeSemicolon 16 = .ok (.invokevirtual 63, 3) := by decide +kernel
theorem dX8_takeSemicolon_19 : decode cX8_takeSemicolon 19 = .ok (.iconst 1, 1) := by decide +kernel
theorem dX8_takeSemicolon_20 : decode cX8_takeSemicolon 20 = .ok (.ireturn, 1) := by decide +kernel
theorem dX9_parseTube_0 : decode cX9_parseTube 0 = .ok (.aload_n 0, 1) := by decide +kernel
theorem dX9_parseTube_1 : decode cX9_parseTube 1 = .ok (.aload_n 1, 1) := by decide +kernel
theorem dX9_parseTube_2 : decode cX9_parseTube 2 = .ok (.iconst 0, 1) := by decide +kernel
theorem dX9_parseTube_3 : decode cX9_parseTube 3 = .ok (.invokevirtual 117, 3) := by decide +kernel
theorem dX9_parseTube_6 : decode cX9_parseTube 6 = .ok (.ifCond .eq 14, 3) := by decide +kernel
theorem dX9_parseTube_9 : decode cX9_parseTube 9 = .ok (.aload_n 1, 1) := by decide +kernel
theorem dX9_parseTube_10 : decode cX9_parseTube 10 = .ok (.bipush 12, 2) := by decide +kernel
theorem dX9_parseTube_12 : decode cX9_parseTube 12 = .ok (.bipush 48, 2) := by decide +kernel
theorem dX9_parseTube_14 : decode cX9_parseTube 14 = .ok (.invokevirtual 121, 3) := by decide +kernel
theorem dX9_parseTube_17 : decode cX9_parseTube 17 = .ok (.ifCond .ne 5, 3) := by decide +kernel
theorem dX9_parseTube_20 : decode cX9_parseTube 20 = .ok (.iconst 0, 1) := by decide +kernel
theorem dX9_parseTube_21 : decode cX9_parseTube 21 = .ok (.ireturn, 1) := by decide +kernel
theorem dX9_parseTube_22 : decode cX9_parseTube 22 = .ok (.aload_n 0, 1) := by decide +kernel
theorem dX9_parseTube_23 : decode cX9_parseTube 23 = .ok (.aload_n 1, 1) := by decide +kernel
theorem dX9_parseTube_24 : decode cX9_parseTube 24 = .ok (.getfield 125, 3) := by decide +kernel
theorem dX9_parseTube_27 : decode cX9_parseTube 27 = .ok (.putfield 52, 3) := by decide +kernel
theorem dX9_parseTube_30 : decode cX9_parseTube 30 = .ok (.aload_n 1, 1) := by decide +kernel
theorem dX9_parseTube_31 : decode cX9_parseTube 31 = .ok (.iconst 1, 1) := by decide +kernel
theorem dX9_parseTube_32 : decode cX9_parseTube 32 = .ok (.invokevirtual 128, 3) := by decide +kernel
theorem dX9_parseTube_35 : decode cX9_parseTube 35 = .ok (.ifCond .eq 13, 3) := by decide +kernel
theorem dX9_parseTube_38 : decode cX9_parseTube 38 = .ok (.aload_n 1, 1) := by decide +kernel
theorem dX9_parseTube_39 : decode cX9_parseTube 39 = .ok (.iconst 3, 1) := by decide +kernel
theorem dX9_parseTube_40 : decode cX9_parseTube 40 = .ok (.bipush 12, 2) := by decide +kernel
theorem dX9_parseTube_42 : decode cX9_parseTube 42 = .ok (.invokevirtual 121, 3) := by decide +kernel
theorem dX9_parseTube_45 : decode cX9_parseTube 45 = .ok (.ifCond .ne 5, 3) := by decide +kernel
theorem dX9_parseTube_48 : decode cX9_parseTube 48 = .ok (.iconst 0, 1) := by decide +kernel
theorem dX9_parseTube_49 : decode cX9_parseTube 49 = .ok (.ireturn, 1) := by decide +kernel
theorem dX9_parseTube_50 : decode cX9_parseTube 50 = .ok (.aload_n 0, 1) := by decide +kernel
theorem dX9_parseTube_51 : decode cX9_parseTube 51 = .ok (.aload_n 1, 1) := by decide +kernel
theorem dX9_parseTube_52 : decode cX9_parseTube 52 = .ok (.getfield 125, 3) := by decide +kernel
theorem dX9_parseTube_55 : decode cX9_parseTube 55 = .ok (.putfield 56, 3) := by decide +kernel
theorem dX9_parseTube_58 : decode cX9_parseTube 58 = .ok (.aload_n 1, 1) := by decide +kernel
theorem dX9_parseTube_59 : decode cX9_parseTube 59 = .ok (.invokevirtual 131, 3) := by decide +kernel
theorem dX9_parseTube_62 : decode cX9_parseTube 62 = .ok (.ireturn, 1) := by decide +kernel
theorem dX9_parseFar_0 : decode cX9_parseFar 0 = .ok (.aload_n 0, 1) := by decide +kernel
theorem dX9_parseFar_1 : decode cX9_parseFar 1 = .ok (.aload_n 1, 1) := by decide +kernel
theorem dX9_parseFar_2 : decode cX9_parseFar 2 = .ok (.iconst 2, 1) := by decide +kernel
theorem dX9_parseFar_3 : decode cX9_parseFar 3 = .ok (.invokevirtual 117, 3) := by decide +kernel
theorem dX9_parseFar_6 : decode cX9_parseFar 6 = .ok (.ifCond .eq 13, 3) := by decide +kernel
theorem dX9_parseFar_9 : decode cX9_parseFar 9 = .ok (.aload_n 1, 1) := by decide +kernel
theorem dX9_parseFar_10 : decode cX9_parseFar 10 = .ok (.iconst 4, 1) := by decide +kernel
theorem dX9_parseFar_11 : decode cX9_parseFar 11 = .ok (.bipush 20, 2) := by decide +kernel
theorem dX9_parseFar_13 : decode cX9_parseFar 13 = .ok (.invokevirtual 121, 3) := by decide +kernel
theorem dX9_parseFar_16 : decode cX9_parseFar 16 = .ok (.ifCond .ne 5, 3) := by decide +kernel
theorem dX9_parseFar_19 : decode cX9_parseFar 19 = .ok (.iconst 0, 1) := by decide +kernel
theorem dX9_parseFar_20 : decode cX9_parseFar 20 = .ok (.ireturn, 1) := by decide +kernel
theorem dX9_parseFar_21 : decode cX9_parseFar 21 = .ok (.aload_n 0, 1) := by decide +kernel
theorem dX9_parseFar_22 : decode cX9_parseFar 22 = .ok (.aload_n 1, 1) := by decide +kernel
theorem dX9_parseFar_23 : decode cX9_parseFar 23 = .ok (.getfield 125, 3) := by decide +kernel
theorem dX9_parseFar_26 : decode cX9_parseFar 26 = .ok (.putfield 59, 3) := by decide +kernel
theorem dX9_parseFar_29 : decode cX9_parseFar 29 = .ok (.aload_n 1, 1) := by decide +kernel
theorem dX9_parseFar_30 : decode cX9_parseFar 30 = .ok (.invokevirtual 131, 3) := by decide +kernel
theorem dX9_parseFar_33 : decode cX9_parseFar 33 = .ok (.ireturn, 1) := by decide +kernel
theorem dX9_parseWind_0 : decode cX9_parseWind 0 = .ok (.aload_n 0, 1) := by decide +kernel
theorem dX9_parseWind_1 : decode cX9_parseWind 1 = .ok (.aload_n 1, 1) := by decide +kernel
theorem dX9_parseWind_2 : decode cX9_parseWind 2 = .ok (.iconst 3, 1) := by decide +kernel
theorem dX9_parseWind_3 : decode cX9_parseWind 3 = .ok (.invokevirtual 117, 3) := by decide +kernel
theorem dX9_parseWind_6 : decode cX9_parseWind 6 = .ok (.ifCond .eq 13, 3) := by decide +kernel
theorem dX9_parseWind_9 : decode cX9_parseWind 9 = .ok (.aload_n 1, 1) := by decide +kernel
theorem dX9_parseWind_10 : decode cX9_parseWind 10 = .ok (.iconst 0, 1) := by decide +kernel
theorem dX9_parseWind_11 : decode cX9_parseWind 11 = .ok (.bipush 9, 2) := by decide +kernel
theorem dX9_parseWind_13 : decode cX9_parseWind 13 = .ok (.invokevirtual 121, 3) := by decide +kernel
theorem dX9_parseWind_16 : decode cX9_parseWind 16 = .ok (.ifCond .ne 5, 3) := by decide +kernel
theorem dX9_parseWind_19 : decode cX9_parseWind 19 = .ok (.iconst 0, 1) := by decide +kernel
theorem dX9_parseWind_20 : decode cX9_parseWind 20 = .ok (.ireturn, 1) := by decide +kernel
theorem dX9_parseWind_21 : decode cX9_parseWind 21 = .ok (.aload_n 1, 1) := by decide +kernel
theorem dX9_parseWind_22 : decode cX9_parseWind 22 = .ok (.getfield 125, 3) := by decide +kernel
theorem dX9_parseWind_25 : decode cX9_parseWind 25 = .ok (.istore_n 2, 1) := by decide +kernel
theorem dX9_parseWind_26 : decode cX9_parseWind 26 = .ok (.aload_n 0, 1) := by decide +kernel
theorem dX9_parseWind_27 : decode cX9_parseWind 27 = .ok (.aload_n 1, 1) := by decide +kernel
theorem dX9_parseWind_28 : decode cX9_parseWind 28 = .ok (.iconst 4, 1) := by decide +kernel
theorem dX9_parseWind_29 : decode cX9_parseWind 29 = .ok (.invokevirtual 135, 3) := by decide +kernel
theorem dX9_parseWind_32 : decode cX9_parseWind 32 = .ok (.ifCond .eq 8, 3) := by decide +kernel
theorem dX9_parseWind_35 : decode cX9_parseWind 35 = .ok (.iload_n 2, 1) := by decide +kernel
theorem dX9_parseWind_36 : decode cX9_parseWind 36 = .ok (.ineg, 1) := by decide +kernel
theorem dX9_parseWind_37 : decode cX9_parseWind 37 = .ok (.goto 4, 3) := by decide +kernel
theorem dX9_parseWind_40 : decode cX9_parseWind 40 = .ok (.iload_n 2, 1) := by decide +kernel
theorem dX9_parseWind_41 : decode cX9_parseWind 41 = .ok (.putfield 62, 3) := by decide +kernel
theorem dX9_parseWind_44 : decode cX9_parseWind 44 = .ok (.aload_n 1, 1) := by decide +kernel
theorem dX9_parseWind_45 : decode cX9_parseWind 45 = .ok (.invokevirtual 131, 3) := by decide +kernel
theorem dX9_parseWind_48 : decode cX9_parseWind 48 = .ok (.ireturn, 1) := by decide +kernel
theorem dX9_parseRing_0 : decode cX9_parseRing 0 = .ok (.aload_n 0, 1) := by decide +kernel
theorem dX9_parseRing_1 : decode cX9_parseRing 1 = .ok (.getfield 65, 3) := by decide +kernel
theorem dX9_parseRing_4 : decode cX9_parseRing 4 = .ok (.bipush 6, 2) := by decide +kernel
theorem dX9_parseRing_6 : decode cX9_parseRing 6 = .ok (.if_icmp .lt 10, 3) := by decide +kernel
theorem dX9_parseRing_9 : decode cX9_parseRing 9 = .ok (.aload_n 1, 1) := by decide +kernel
theorem dX9_parseRing_10 : decode cX9_parseRing 10 = .ok (.bipush 6, 2) := by decide +kernel
theorem dX9_parseRing_12 : decode cX9_parseRing 12 = .ok (.invokevirtual 110, 3) := by decide +kernel
theorem dX9_parseRing_15 : decode cX9_parseRing 15 = .ok (.ireturn, 1) := by decide +kernel
theorem dX9_parseRing_16 : decode cX9_parseRing 16 = .ok (.aload_n 0, 1) := by decide +kernel
theorem dX9_parseRing_17 : decode cX9_parseRing 17 = .ok (.getfield 65, 3) := by decide +kernel
theorem dX9_parseRing_20 : decode cX9_parseRing 20 = .ok (.ifCond .ne 8, 3) := by decide +kernel
theorem dX9_parseRing_23 : decode cX9_parseRing 23 = .ok (.bipush 60, 2) := by decide +kernel
theorem dX9_parseRing_25 : decode cX9_parseRing 25 = .ok (.goto 16, 3) := by decide +kernel
theorem dX9_parseRing_28 : decode cX9_parseRing 28 = .ok (.aload_n 0, 1) := by decide +kernel
theorem dX9_parseRing_29 : decode cX9_parseRing 29 = .ok (.getfield 9, 3) := by decide +kernel
theorem dX9_parseRing_32 : decode cX9_parseRing 32 = .ok (.aload_n 0, 1) := by decide +kernel
theorem dX9_parseRing_33 : decode cX9_parseRing 33 = .ok (.getfield 65, 3) := by decide +kernel
theorem dX9_parseRing_36 : decode cX9_parseRing 36 = .ok (.iconst 1, 1) := by decide +kernel
theorem dX9_parseRing_37 : decode cX9_parseRing 37 = .ok (.isub, 1) := by decide +kernel
theorem dX9_parseRing_38 : decode cX9_parseRing 38 = .ok (.iaload, 1) := by decide +kernel
theorem dX9_parseRing_39 : decode cX9_parseRing 39 = .ok (.iconst 1, 1) := by decide +kernel
theorem dX9_parseRing_40 : decode cX9_parseRing 40 = .ok (.isub, 1) := by decide +kernel
theorem dX9_parseRing_41 : decode cX9_parseRing 41 = .ok (.istore_n 2, 1) := by decide +kernel
theorem dX9_parseRing_42 : decode cX9_parseRing 42 = .ok (.aload_n 0, 1) := by decide +kernel
theorem dX9_parseRing_43 : decode cX9_parseRing 43 = .ok (.getfield 65, 3) := by decide +kernel
theorem dX9_parseRing_46 : decode cX9_parseRing 46 = .ok (.ifCond .ne 7, 3) := by decide +kernel
theorem dX9_parseRing_49 : decode cX9_parseRing 49 = .ok (.iconst 1, 1) := by decide +kernel
theorem dX9_parseRing_50 : decode cX9_parseRing 50 = .ok (.goto 16, 3) := by decide +kernel
theorem dX9_parseRing_53 : decode cX9_parseRing 53 = .ok (.aload_n 0, 1) := by decide +kernel
theorem dX9_parseRing_54 : decode cX9_parseRing 54 = .ok (.getfield 15, 3) := by decide +kernel
theorem dX9_parseRing_57 : decode cX9_parseRing 57 = .ok (.aload_n 0, 1) := by decide +kernel
theorem dX9_parseRing_58 : decode cX9_parseRing 58 = .ok (.getfield 65, 3) := by decide +kernel
theorem dX9_parseRing_61 : decode cX9_parseRing 61 = .ok (.iconst 1, 1) := by decide +kernel
theorem dX9_parseRing_62 : decode cX9_parseRing 62 = .ok (.isub, 1) := by decide +kernel
theorem dX9_parseRing_63 : decode cX9_parseRing 63 = .ok (.iaload, 1) := by decide +kernel
theorem dX9_parseRing_64 : decode cX9_parseRing 64 = .ok (.iconst 1, 1) := by decide +kernel
theorem dX9_parseRing_65 : decode cX9_parseRing 65 = .ok (.iadd, 1) := by decide +kernel
theorem dX9_parseRing_66 : decode cX9_parseRing 66 = .ok (.istore_n 3, 1) := by decide +kernel
theorem dX9_parseRing_67 : decode cX9_parseRing 67 = .ok (.aload_n 1, 1) := by decide +kernel
theorem dX9_parseRing_68 : decode cX9_parseRing 68 = .ok (.invokevirtual 114, 3) := by decide +kernel
theorem dX9_parseRing_71 : decode cX9_parseRing 71 = .ok (.aload_n 1, 1) := by decide +kernel
theorem dX9_parseRing_72 : decode cX9_parseRing 72 = .ok (.iconst 1, 1) := by decide +kernel
theorem dX9_parseRing_73 : decode cX9_parseRing 73 = .ok (.iload_n 2, 1) := by decide +kernel
theorem dX9_parseRing_74 : decode cX9_parseRing 74 = .ok (.invokevirtual 121, 3) := by decide +kernel
theorem dX9_parseRing_77 : decode cX9_parseRing 77 = .ok (.ifCond .ne 5, 3) := by decide +kernel
theorem dX9_parseRing_80 : decode cX9_parseRing 80 = .ok (.iconst 0, 1) := by decide +kernel
theorem dX9_parseRing_81 : decode cX9_parseRing 81 = .ok (.ireturn, 1) := by decide +kernel
theorem dX9_parseRing_82 : decode cX9_parseRing 82 = .ok (.aload_n 0, 1) := by decide +kernel
theorem dX9_parseRing_83 : decode cX9_parseRing 83 = .ok (.getfield 9, 3) := by decide +kernel
theorem dX9_parseRing_86 : decode cX9_parseRing 86 = .ok (.aload_n 0, 1) := by decide +kernel
theorem dX9_parseRing_87 : decode cX9_parseRing 87 = .ok (.getfield 65, 3) := by decide +kernel
theorem dX9_parseRing_90 : decode cX9_parseRing 90 = .ok (.aload_n 1, 1) := by decide +kernel
theorem dX9_parseRing_91 : decode cX9_parseRing 91 = .ok (.getfield 125, 3) := by decide +kernel
theorem dX9_parseRing_94 : decode cX9_parseRing 94 = .ok (.iastore, 1) := by decide +kernel
theorem dX9_parseRing_95 : decode cX9_parseRing 95 = .ok (.aload_n 1, 1) := by decide +kernel
theorem dX9_parseRing_96 : decode cX9_parseRing 96 = .ok (.bipush 6, 2) := by decide +kernel
theorem dX9_parseRing_98 : decode cX9_parseRing 98 = .ok (.invokevirtual 128, 3) := by decide +kernel
theorem dX9_parseRing_101 : decode cX9_parseRing 101 = .ok (.ifCond .eq 13, 3) := by decide +kernel
theorem dX9_parseRing_104 : decode cX9_parseRing 104 = .ok (.aload_n 1, 1) := by decide +kernel
theorem dX9_parseRing_105 : decode cX9_parseRing 105 = .ok (.iload_n 3, 1) := by decide +kernel
theorem dX9_parseRing_106 : decode cX9_parseRing 106 = .ok (.bipush 20, 2) := by decide +kernel
theorem dX9_parseRing_108 : decode cX9_parseRing 108 = .ok (.invokevirtual 121, 3) := by decide +kernel
theorem dX9_parseRing_111 : decode cX9_parseRing 111 = .ok (.ifCond .ne 5, 3) := by decide +kernel
theorem dX9_parseRing_114 : decode cX9_parseRing 114 = .ok (.iconst 0, 1) := by decide +kernel
theorem dX9_parseRing_115 : decode cX9_parseRing 115 = .ok (.ireturn, 1) := by decide +kernel
theorem dX9_parseRing_116 : decode cX9_parseRing 116 = .ok (.aload_n 0, 1) := by decide +kernel
theorem dX9_parseRing_117 : decode cX9_parseRing 117 = .ok (.getfield 15, 3) := by decide +kernel
theorem dX9_parseRing_120 : decode cX9_parseRing 120 = .ok (.aload_n 0, 1) := by decide +kernel
theorem dX9_parseRing_121 : decode cX9_parseRing 121 = .ok (.getfield 65, 3) := by decide +kernel
theorem dX9_parseRing_124 : decode cX9_parseRing 124 = .ok (.aload_n 1, 1) := by decide +kernel
theorem dX9_parseRing_125 : decode cX9_parseRing 125 = .ok (.getfield 125, 3) := by decide +kernel
theorem dX9_parseRing_128 : decode cX9_parseRing 128 = .ok (.iastore, 1) := by decide +kernel
theorem dX9_parseRing_129 : decode cX9_parseRing 129 = .ok (.aload_n 0, 1) := by decide +kernel
theorem dX9_parseRing_130 : decode cX9_parseRing 130 = .ok (.dup, 1) := by decide +kernel
theorem dX9_parseRing_131 : decode cX9_parseRing 131 = .ok (.getfield 65, 3) := by decide +kernel
theorem dX9_parseRing_134 : decode cX9_parseRing 134 = .ok (.iconst 1, 1) := by decide +kernel
theorem dX9_parseRing_135 : decode cX9_parseRing 135 = .ok (.iadd, 1) := by decide +kernel
theorem dX9_parseRing_136 : decode cX9_parseRing 136 = .ok (.putfield 65, 3) := by decide +kernel
theorem dX9_parseRing_139 : decode cX9_parseRing 139 = .ok (.aload_n 1, 1) := by decide +kernel
theorem dX9_parseRing_140 : decode cX9_parseRing 140 = .ok (.invokevirtual 131, 3) := by decide +kernel
theorem dX9_parseRing_143 : decode cX9_parseRing 143 = .ok (.ireturn, 1) := by decide +kernel
theorem dX8_atName_0 : decode cX8_atName 0 = .ok (.aload_n 0, 1) := by decide +kernel
theorem dX8_atName_1 : decode cX8_atName 1 = .ok (.getfield 66, 3) := by decide +kernel
theorem dX8_atName_4 : decode cX8_atName 4 = .ok (.iconst 1, 1) := by decide +kernel
theorem dX8_atName_5 : decode cX8_atName 5 = .ok (.if_icmp .ne 24, 3) := by decide +kernel
theorem dX8_atName_8 : decode cX8_atName 8 = .ok (.aload_n 0, 1) := by decide +kernel
theorem dX8_atName_9 : decode cX8_atName 9 = .ok (.getfield 72, 3) := by decide +kernel
theorem dX8_atName_12 : decode cX8_atName 12 = .ok (.iconst (-1), 1) := by decide +kernel
theorem dX8_atName_13 : decode cX8_atName 13 = .ok (.if_icmp .ne 16, 3) := by decide +kernel
theorem dX8_atName_16 : decode cX8_atName 16 = .ok (.aload_n 0, 1) := by decide +kernel
theorem dX8_atName_17 : decode cX8_atName 17 = .ok (.getfield 75, 3) := by decide +kernel
theorem dX8_atName_20 : decode cX8_atName 20 = .ok (.lconst 0, 1) := by decide +kernel
theorem dX8_atName_21 : decode cX8_atName 21 = .ok (.lcmp, 1) := by decide +kernel
theorem dX8_atName_22 : decode cX8_atName 22 = .ok (.ifCond .eq 7, 3) := by decide +kernel
theorem dX8_atName_25 : decode cX8_atName 25 = .ok (.iconst 1, 1) := by decide +kernel
theorem dX8_atName_26 : decode cX8_atName 26 = .ok (.goto 4, 3) := by decide +kernel
theorem dX8_atName_29 : decode cX8_atName 29 = .ok (.iconst 0, 1) := by decide +kernel
theorem dX8_atName_30 : decode cX8_atName 30 = .ok (.ireturn, 1) := by decide +kernel
theorem dX9_findPea_0 : decode cX9_findPea 0 = .ok (.iconst 0, 1) := by decide +kernel
theorem dX9_findPea_1 : decode cX9_findPea 1 = .ok (.istore_n 3, 1) := by decide +kernel
theorem dX9_findPea_2 : decode cX9_findPea 2 = .ok (.iload_n 3, 1) := by decide +kernel
theorem dX9_findPea_3 : decode cX9_findPea 3 = .ok (.aload_n 0, 1) := by decide +kernel
theorem dX9_findPea_4 : decode cX9_findPea 4 = .ok (.getfield 68, 3) := by decide +kernel
theorem dX9_findPea_7 : decode cX9_findPea 7 = .ok (.if_icmp .ge 22, 3) := by decide +kernel
theorem dX9_findPea_10 : decode cX9_findPea 10 = .ok (.aload_n 0, 1) := by decide +kernel
theorem dX9_findPea_11 : decode cX9_findPea 11 = .ok (.getfield 18, 3) := by decide +kernel
theorem dX9_findPea_14 : decode cX9_findPea 14 = .ok (.iload_n 3, 1) := by decide +kernel
theorem dX9_findPea_15 : decode cX9_findPea 15 = .ok (.laload, 1) := by decide +kernel
theorem dX9_findPea_16 : decode cX9_findPea 16 = .ok (.lload_n 1, 1) := by decide +kernel
theorem dX9_findPea_17 : decode cX9_findPea 17 = .ok (.lcmp, 1) := by decide +kernel
theorem dX9_findPea_18 : decode cX9_findPea 18 = .ok (.ifCond .ne 5, 3) := by decide +kernel
theorem dX9_findPea_21 : decode cX9_findPea 21 = .ok (.iload_n 3, 1) := by decide +kernel
theorem dX9_findPea_22 : decode cX9_findPea 22 = .ok (.ireturn, 1) := by decide +kernel
theorem dX9_findPea_23 : decode cX9_findPea 23 = .ok (.iinc 3 1, 3) := by decide +kernel
theorem dX9_findPea_26 : decode cX9_findPea 26 = .ok (.goto (-24), 3) := by decide +kernel
theorem dX9_findPea_29 : decode cX9_findPea 29 = .ok (.iconst (-1), 1) := by decide +kernel
theorem dX9_findPea_30 : decode cX9_findPea 30 = .ok (.ireturn, 1) := by decide +kernel
theorem dX9_findShooter_0 : decode cX9_findShooter 0 = .ok (.iconst 0, 1) := by decide +kernel
theorem dX9_findShooter_1 : decode cX9_findShooter 1 = .ok (.istore_n 3, 1) := by decide +kernel
theorem dX9_findShooter_2 : decode cX9_findShooter 2 = .ok (.iload_n 3, 1) := by decide +kernel
theorem dX9_findShooter_3 : decode cX9_findShooter 3 = .ok (.aload_n 0, 1) := by decide +kernel
theorem dX9_findShooter_4 : decode cX9_findShooter 4 = .ok (.getfield 71, 3) := by decide +kernel
theorem dX9_findShooter_7 : decode cX9_findShooter 7 = .ok (.if_icmp .ge 22, 3) := by decide +kernel
theorem dX9_findShooter_10 : decode cX9_findShooter 10 = .ok (.aload_n 0, 1) := by decide +kernel
theorem dX9_findShooter_11 : decode cX9_findShooter 11 = .ok (.getfield 34, 3) := by decide +kernel
theorem dX9_findShooter_14 : decode cX9_findShooter 14 = .ok (.iload_n 3, 1) := by decide +kernel
theorem dX9_findShooter_15 : decode cX9_findShooter 15 = .ok (.laload, 1) := by decide +kernel
theorem dX9_findShooter_16 : decode cX9_findShooter 16 = .ok (.lload_n 1, 1) := by decide +kernel
theorem dX9_findShooter_17 : decode cX9_findShooter 17 = .ok (.lcmp, 1) := by decide +kernel
theorem dX9_findShooter_18 : decode cX9_findShooter 18 = .ok (.ifCond .ne 5, 3) := by decide +kernel
theorem dX9_findShooter_21 : decode cX9_findShooter 21 = .ok (.iload_n 3, 1) := by decide +kernel
theorem dX9_findShooter_22 : decode cX9_findShooter 22 = .ok (.ireturn, 1) := by decide +kernel
theorem dX9_findShooter_23 : decode cX9_findShooter 23 = .ok (.iinc 3 1, 3) := by decide +kernel
theorem dX9_findShooter_26 : decode cX9_findShooter 26 = .ok (.goto (-24), 3) := by decide +kernel
theorem dX9_findShooter_29 : decode cX9_findShooter 29 = .ok (.iconst (-1), 1) := by decide +kernel
theorem dX9_findShooter_30 : decode cX9_findShooter 30 = .ok (.ireturn, 1) := by decide +kernel
theorem dX9_takeNewName_0 : decode cX9_takeNewName 0 = .ok (.aload_n 1, 1) := by decide +kernel
theorem dX9_takeNewName_1 : decode cX9_takeNewName 1 = .ok (.invokevirtual 148, 3) := by decide +kernel
theorem dX9_takeNewName_4 : decode cX9_takeNewName 4 = .ok (.ifCond .ne 9, 3) := by decide +kernel
theorem dX9_takeNewName_7 : decode cX9_takeNewName 7 = .ok (.aload_n 1, 1) := by decide +kernel
theorem dX9_takeNewName_8 : decode cX9_takeNewName 8 = .ok (.iconst 2, 1) := by decide +kernel
theorem dX9_takeNewName_9 : decode cX9_takeNewName 9 = .ok (.invokevirtual 110, 3) := by decide +kernel
theorem dX9_takeNewName_12 : decode cX9_takeNewName 12 = .ok (.ireturn, 1) := by decide +kernel
theorem dX9_takeNewName_13 : decode cX9_takeNewName 13 = .ok (.aload_n 0, 1) := by decide +kernel
theorem dX9_takeNewName_14 : decode cX9_takeNewName 14 = .ok (.aload_n 1, 1) := by decide +kernel
theorem dX9_takeNewName_15 : decode cX9_takeNewName 15 = .ok (.getfield 138, 3) := by decide +kernel
theorem dX9_takeNewName_18 : decode cX9_takeNewName 18 = .ok (.invokevirtual 151, 3) := by decide +kernel
theorem dX9_takeNewName_21 : decode cX9_takeNewName 21 = .ok (.iconst (-1), 1) := by decide +kernel
theorem dX9_takeNewName_22 : decode cX9_takeNewName 22 = .ok (.if_icmp .ne 15, 3) := by decide +kernel
theorem dX9_takeNewName_25 : decode cX9_takeNewName 25 = .ok (.aload_n 0, 1) := by decide +kernel
theorem dX9_takeNewName_26 : decode cX9_takeNewName 26 = .ok (.aload_n 1, 1) := by decide +kernel
theorem dX9_takeNewName_27 : decode cX9_takeNewName 27 = .ok (.getfield 138, 3) := by decide +kernel
theorem dX9_takeNewName_30 : decode cX9_takeNewName 30 = .ok (.invokevirtual 155, 3) := by decide +kernel
theorem dX9_takeNewName_33 : decode cX9_takeNewName 33 = .ok (.iconst (-1), 1) := by decide +kernel
theorem dX9_takeNewName_34 : decode cX9_takeNewName 34 = .ok (.if_icmp .eq 9, 3) := by decide +kernel
theorem dX9_takeNewName_37 : decode cX9_takeNewName 37 = .ok (.aload_n 1, 1) := by decide +kernel
theorem dX9_takeNewName_38 : decode cX9_takeNewName 38 = .ok (.iconst 3, 1) := by decide +kernel
theorem dX9_takeNewName_39 : decode cX9_takeNewName 39 = .ok (.invokevirtual 110, 3) := by decide +kernel
theorem dX9_takeNewName_42 : decode cX9_takeNewName 42 = .ok (.ireturn, 1) := by decide +kernel
theorem dX9_takeNewName_43 : decode cX9_takeNewName 43 = .ok (.aload_n 1, 1) := by decide +kernel
theorem dX9_takeNewName_44 : decode cX9_takeNewName 44 = .ok (.invokevirtual 114, 3) := by decide +kernel
theorem dX9_takeNewName_47 : decode cX9_takeNewName 47 = .ok (.iconst 1, 1) := by decide +kernel
theorem dX9_takeNewName_48 : decode cX9_takeNewName 48 = .ok (.ireturn, 1) := by decide +kernel
theorem dX9_parsePea_0 : decode cX9_parsePea 0 = .ok (.aload_n 0, 1) := by decide +kernel
theorem dX9_parsePea_1 : decode cX9_parsePea 1 = .ok (.getfield 68, 3) := by decide +kernel
theorem dX9_parsePea_4 : decode cX9_parsePea 4 = .ok (.bipush 8, 2) := by decide +kernel
theorem dX9_parsePea_6 : decode cX9_parsePea 6 = .ok (.if_icmp .lt 10, 3) := by decide +kernel
theorem dX9_parsePea_9 : decode cX9_parsePea 9 = .ok (.aload_n 1, 1) := by decide +kernel
theorem dX9_parsePea_10 : decode cX9_parsePea 10 = .ok (.bipush 6, 2) := by decide +kernel
theorem dX9_parsePea_12 : decode cX9_parsePea 12 = .ok (.invokevirtual 110, 3) := by decide +kernel
theorem dX9_parsePea_15 : decode cX9_parsePea 15 = .ok (.ireturn, 1) := by decide +kernel
theorem dX9_parsePea_16 : decode cX9_parsePea 16 = .ok (.aload_n 1, 1) := by decide +kernel
theorem dX9_parsePea_17 : decode cX9_parsePea 17 = .ok (.invokevirtual 114, 3) := by decide +kernel
theorem dX9_parsePea_20 : decode cX9_parsePea 20 = .ok (.aload_n 0, 1) := by decide +kernel
theorem dX9_parsePea_21 : decode cX9_parsePea 21 = .ok (.getfield 68, 3) := by decide +kernel
theorem dX9_parsePea_24 : decode cX9_parsePea 24 = .ok (.istore_n 2, 1) := by decide +kernel
theorem dX9_parsePea_25 : decode cX9_parsePea 25 = .ok (.aload_n 0, 1) := by decide +kernel
theorem dX9_parsePea_26 : decode cX9_parsePea 26 = .ok (.getfield 18, 3) := by decide +kernel
theorem dX9_parsePea_29 : decode cX9_parsePea 29 = .ok (.iload_n 2, 1) := by decide +kernel
theorem dX9_parsePea_30 : decode cX9_parsePea 30 = .ok (.aload_n 1, 1) := by decide +kernel
theorem dX9_parsePea_31 : decode cX9_parsePea 31 = .ok (.getfield 138, 3) := by decide +kernel
theorem dX9_parsePea_34 : decode cX9_parsePea 34 = .ok (.lastore, 1) := by decide +kernel
theorem dX9_parsePea_35 : decode cX9_parsePea 35 = .ok (.aload_n 0, 1) := by decide +kernel
theorem dX9_parsePea_36 : decode cX9_parsePea 36 = .ok (.aload_n 1, 1) := by decide +kernel
theorem dX9_parsePea_37 : decode cX9_parsePea 37 = .ok (.invokevirtual 142, 3) := by decide +kernel
theorem dX9_parsePea_40 : decode cX9_parsePea 40 = .ok (.ifCond .eq 22, 3) := by decide +kernel
theorem dX9_parsePea_43 : decode cX9_parsePea 43 = .ok (.aload_n 1, 1) := by decide +kernel
theorem dX9_parsePea_44 : decode cX9_parsePea 44 = .ok (.bipush 8, 2) := by decide +kernel
theorem dX9_parsePea_46 : decode cX9_parsePea 46 = .ok (.invokevirtual 128, 3) := by decide +kernel
theorem dX9_parsePea_49 : decode cX9_parsePea 49 = .ok (.ifCond .eq 13, 3) := by decide +kernel
theorem dX9_parsePea_52 : decode cX9_parsePea 52 = .ok (.aload_n 1, 1) := by decide +kernel
theorem dX9_parsePea_53 : decode cX9_parsePea 53 = .ok (.iconst 1, 1) := by decide +kernel
theorem dX9_parsePea_54 : decode cX9_parsePea 54 = .ok (.bipush 12, 2) := by decide +kernel
theorem dX9_parsePea_56 : decode cX9_parsePea 56 = .ok (.invokevirtual 121, 3) := by decide +kernel
theorem dX9_parsePea_59 : decode cX9_parsePea 59 = .ok (.ifCond .ne 5, 3) := by decide +kernel
theorem dX9_parsePea_62 : decode cX9_parsePea 62 = .ok (.iconst 0, 1) := by decide +kernel
theorem dX9_parsePea_63 : decode cX9_parsePea 63 = .ok (.ireturn, 1) := by decide +kernel
theorem dX9_parsePea_64 : decode cX9_parsePea 64 = .ok (.aload_n 0, 1) := by decide +kernel
theorem dX9_parsePea_65 : decode cX9_parsePea 65 = .ok (.getfield 22, 3) := by decide +kernel
theorem dX9_parsePea_68 : decode cX9_parsePea 68 = .ok (.iload_n 2, 1) := by decide +kernel
theorem dX9_parsePea_69 : decode cX9_parsePea 69 = .ok (.aload_n 1, 1) := by decide +kernel
theorem dX9_parsePea_70 : decode cX9_parsePea 70 = .ok (.getfield 125, 3) := by decide +kernel
theorem dX9_parsePea_73 : decode cX9_parsePea 73 = .ok (.iastore, 1) := by decide +kernel
theorem dX9_parsePea_74 : decode cX9_parsePea 74 = .ok (.aload_n 1, 1) := by decide +kernel
theorem dX9_parsePea_75 : decode cX9_parsePea 75 = .ok (.bipush 9, 2) := by decide +kernel
theorem dX9_parsePea_77 : decode cX9_parsePea 77 = .ok (.invokevirtual 128, 3) := by decide +kernel
theorem dX9_parsePea_80 : decode cX9_parsePea 80 = .ok (.ifCond .eq 13, 3) := by decide +kernel
theorem dX9_parsePea_83 : decode cX9_parsePea 83 = .ok (.aload_n 1, 1) := by decide +kernel
theorem dX9_parsePea_84 : decode cX9_parsePea 84 = .ok (.iconst 1, 1) := by decide +kernel
theorem dX9_parsePea_85 : decode cX9_parsePea 85 = .ok (.bipush 20, 2) := by decide +kernel
theorem dX9_parsePea_87 : decode cX9_parsePea 87 = .ok (.invokevirtual 121, 3) := by decide +kernel
theorem dX9_parsePea_90 : decode cX9_parsePea 90 = .ok (.ifCond .ne 5, 3) := by decide +kernel
theorem dX9_parsePea_93 : decode cX9_parsePea 93 = .ok (.iconst 0, 1) := by decide +kernel
theorem dX9_parsePea_94 : decode cX9_parsePea 94 = .ok (.ireturn, 1) := by decide +kernel
theorem dX9_parsePea_95 : decode cX9_parsePea 95 = .ok (.aload_n 0, 1) := by decide +kernel
theorem dX9_parsePea_96 : decode cX9_parsePea 96 = .ok (.getfield 25, 3) := by decide +kernel
theorem dX9_parsePea_99 : decode cX9_parsePea 99 = .ok (.iload_n 2, 1) := by decide +kernel
theorem dX9_parsePea_100 : decode cX9_parsePea 100 = .ok (.aload_n 1, 1) := by decide +kernel
theorem dX9_parsePea_101 : decode cX9_parsePea 101 = .ok (.getfield 125, 3) := by decide +kernel
theorem dX9_parsePea_104 : decode cX9_parsePea 104 = .ok (.iastore, 1) := by decide +kernel
theorem dX9_parsePea_105 : decode cX9_parsePea 105 = .ok (.aload_n 0, 1) := by decide +kernel
theorem dX9_parsePea_106 : decode cX9_parsePea 106 = .ok (.getfield 28, 3) := by decide +kernel
theorem dX9_parsePea_109 : decode cX9_parsePea 109 = .ok (.iload_n 2, 1) := by decide +kernel
theorem dX9_parsePea_110 : decode cX9_parsePea 110 = .ok (.iconst 0, 1) := by decide +kernel
theorem dX9_parsePea_111 : decode cX9_parsePea 111 = .ok (.iastore, 1) := by decide +kernel
theorem dX9_parsePea_112 : decode cX9_parsePea 112 = .ok (.aload_n 1, 1) := by decide +kernel
theorem dX9_parsePea_113 : decode cX9_parsePea 113 = .ok (.bipush 10, 2) := by decide +kernel
theorem dX9_parsePea_115 : decode cX9_parsePea 115 = .ok (.invokevirtual 135, 3) := by decide +kernel
theorem dX9_parsePea_118 : decode cX9_parsePea 118 = .ok (.ifCond .eq 24, 3) := by decide +kernel
theorem dX9_parsePea_121 : decode cX9_parsePea 121 = .ok (.aload_n 1, 1) := by decide +kernel
theorem dX9_parsePea_122 : decode cX9_parsePea 122 = .ok (.iconst 0, 1) := by decide +kernel
theorem dX9_parsePea_123 : decode cX9_parsePea 123 = .ok (.iconst 4, 1) := by decide +kernel
theorem dX9_parsePea_124 : decode cX9_parsePea 124 = .ok (.invokevirtual 121, 3) := by decide +kernel
theorem dX9_parsePea_127 : decode cX9_parsePea 127 = .ok (.ifCond .ne 5, 3) := by decide +kernel
theorem dX9_parsePea_130 : decode cX9_parsePea 130 = .ok (.iconst 0, 1) := by decide +kernel
theorem dX9_parsePea_131 : decode cX9_parsePea 131 = .ok (.ireturn, 1) := by decide +kernel
theorem dX9_parsePea_132 : decode cX9_parsePea 132 = .ok (.aload_n 0, 1) := by decide +kernel
theorem dX9_parsePea_133 : decode cX9_parsePea 133 = .ok (.getfield 28, 3) := by decide +kernel
theorem dX9_parsePea_136 : decode cX9_parsePea 136 = .ok (.iload_n 2, 1) := by decide +kernel
theorem dX9_parsePea_137 : decode cX9_parsePea 137 = .ok (.aload_n 1, 1) := by decide +kernel
theorem dX9_parsePea_138 : decode cX9_parsePea 138 = .ok (.getfield 125, 3) := by decide +kernel
theorem dX9_parsePea_141 : decode cX9_parsePea 141 = .ok (.iastore, 1) := by decide +kernel
theorem dX9_parsePea_142 : decode cX9_parsePea 142 = .ok (.aload_n 0, 1) := by decide +kernel
theorem dX9_parsePea_143 : decode cX9_parsePea 143 = .ok (.getfield 31, 3) := by decide +kernel
theorem dX9_parsePea_146 : decode cX9_parsePea 146 = .ok (.iload_n 2, 1) := by decide +kernel
theorem dX9_parsePea_147 : decode cX9_parsePea 147 = .ok (.aload_n 1, 1) := by decide +kernel
theorem dX9_parsePea_148 : decode cX9_parsePea 148 = .ok (.bipush 11, 2) := by decide +kernel
theorem dX9_parsePea_150 : decode cX9_parsePea 150 = .ok (.invokevirtual 135, 3) := by decide +kernel
theorem dX9_parsePea_153 : decode cX9_parsePea 153 = .ok (.ifCond .eq 7, 3) := by decide +kernel
theorem dX9_parsePea_156 : decode cX9_parsePea 156 = .ok (.iconst 1, 1) := by decide +kernel
theorem dX9_parsePea_157 : decode cX9_parsePea 157 = .ok (.goto 4, 3) := by decide +kernel
theorem dX9_parsePea_160 : decode cX9_parsePea 160 = .ok (.iconst 0, 1) := by decide +kernel
theorem dX9_parsePea_161 : decode cX9_parsePea 161 = .ok (.iastore, 1) := by decide +kernel
theorem dX9_parsePea_162 : decode cX9_parsePea 162 = .ok (.aload_n 0, 1) := by decide +kernel
theorem dX9_parsePea_163 : decode cX9_parsePea 163 = .ok (.dup, 1) := by decide +kernel
theorem dX9_parsePea_164 : decode cX9_parsePea 164 = .ok (.getfield 68, 3) := by decide +kernel
theorem dX9_parsePea_167 : decode cX9_parsePea 167 = .ok (.iconst 1, 1) := by decide +kernel
theorem dX9_parsePea_168 : decode cX9_parsePea 168 = .ok (.iadd, 1) := by decide +kernel
theorem dX9_parsePea_169 : decode cX9_parsePea 169 = .ok (.putfield 68, 3) := by decide +kernel
theorem dX9_parsePea_172 : decode cX9_parsePea 172 = .ok (.aload_n 1, 1) := by decide +kernel
theorem dX9_parsePea_173 : decode cX9_parsePea 173 = .ok (.invokevirtual 131, 3) := by decide +kernel
theorem dX9_parsePea_176 : decode cX9_parsePea 176 = .ok (.ireturn, 1) := by decide +kernel
theorem dX9_parseLean_0 : decode cX9_parseLean 0 = .ok (.aload_n 1, 1) := by decide +kernel
theorem dX9_parseLean_1 : decode cX9_parseLean 1 = .ok (.iconst 0, 1) := by decide +kernel
theorem dX9_parseLean_2 : decode cX9_parseLean 2 = .ok (.bipush 9, 2) := by decide +kernel
theorem dX9_parseLean_4 : decode cX9_parseLean 4 = .ok (.invokevirtual 121, 3) := by decide +kernel
theorem dX9_parseLean_7 : decode cX9_parseLean 7 = .ok (.ifCond .ne 5, 3) := by decide +kernel
theorem dX9_parseLean_10 : decode cX9_parseLean 10 = .ok (.iconst 0, 1) := by decide +kernel
theorem dX9_parseLean_11 : decode cX9_parseLean 11 = .ok (.ireturn, 1) := by decide +kernel
theorem dX9_parseLean_12 : decode cX9_parseLean 12 = .ok (.aload_n 0, 1) := by decide +kernel
theorem dX9_parseLean_13 : decode cX9_parseLean 13 = .ok (.getfield 43, 3) := by decide +kernel
theorem dX9_parseLean_16 : decode cX9_parseLean 16 = .ok (.iload_n 2, 1) := by decide +kernel
theorem dX9_parseLean_17 : decode cX9_parseLean 17 = .ok (.aload_n 1, 1) := by decide +kernel
theorem dX9_parseLean_18 : decode cX9_parseLean 18 = .ok (.getfield 125, 3) := by decide +kernel
theorem dX9_parseLean_21 : decode cX9_parseLean 21 = .ok (.iastore, 1) := by decide +kernel
theorem dX9_parseLean_22 : decode cX9_parseLean 22 = .ok (.aload_n 1, 1) := by decide +kernel
theorem dX9_parseLean_23 : decode cX9_parseLean 23 = .ok (.iconst 0, 1) := by decide +kernel
theorem dX9_parseLean_24 : decode cX9_parseLean 24 = .ok (.bipush 9, 2) := by decide +kernel
theorem dX9_parseLean_26 : decode cX9_parseLean 26 = .ok (.invokevirtual 121, 3) := by decide +kernel
theorem dX9_parseLean_29 : decode cX9_parseLean 29 = .ok (.ifCond .ne 5, 3) := by decide +kernel
theorem dX9_parseLean_32 : decode cX9_parseLean 32 = .ok (.iconst 0, 1) := by decide +kernel
theorem dX9_parseLean_33 : decode cX9_parseLean 33 = .ok (.ireturn, 1) := by decide +kernel
theorem dX9_parseLean_34 : decode cX9_parseLean 34 = .ok (.aload_n 1, 1) := by decide +kernel
theorem dX9_parseLean_35 : decode cX9_parseLean 35 = .ok (.getfield 125, 3) := by decide +kernel
theorem dX9_parseLean_38 : decode cX9_parseLean 38 = .ok (.istore_n 3, 1) := by decide +kernel
theorem dX9_parseLean_39 : decode cX9_parseLean 39 = .ok (.aload_n 0, 1) := by decide +kernel
theorem dX9_parseLean_40 : decode cX9_parseLean 40 = .ok (.getfield 46, 3) := by decide +kernel
theorem dX9_parseLean_43 : decode cX9_parseLean 43 = .ok (.iload_n 2, 1) := by decide +kernel
theorem dX9_parseLean_44 : decode cX9_parseLean 44 = .ok (.aload_n 1, 1) := by decide +kernel
theorem dX9_parseLean_45 : decode cX9_parseLean 45 = .ok (.bipush 16, 2) := by decide +kernel
theorem dX9_parseLean_47 : decode cX9_parseLean 47 = .ok (.invokevirtual 135, 3) := by decide +kernel
theorem dX9_parseLean_50 : decode cX9_parseLean 50 = .ok (.ifCond .eq 8, 3) := by decide +kernel
theorem dX9_parseLean_53 : decode cX9_parseLean 53 = .ok (.iload_n 3, 1) := by decide +kernel
theorem dX9_parseLean_54 : decode cX9_parseLean 54 = .ok (.ineg, 1) := by decide +kernel
theorem dX9_parseLean_55 : decode cX9_parseLean 55 = .ok (.goto 4, 3) := by decide +kernel
theorem dX9_parseLean_58 : decode cX9_parseLean 58 = .ok (.iload_n 3, 1) := by decide +kernel
theorem dX9_parseLean_59 : decode cX9_parseLean 59 = .ok (.iastore, 1) := by decide +kernel
theorem dX9_parseLean_60 : decode cX9_parseLean 60 = .ok (.iconst 1, 1) := by decide +kernel
theorem dX9_parseLean_61 : decode cX9_parseLean 61 = .ok (.ireturn, 1) := by decide +kernel
theorem dX9_parseShooter_0 : decode cX9_parseShooter 0 = .ok (.aload_n 0, 1) := by decide +kernel
theorem dX9_parseShooter_1 : decode cX9_parseShooter 1 = .ok (.getfield 71, 3) := by decide +kernel
theorem dX9_parseShooter_4 : decode cX9_parseShooter 4 = .ok (.bipush 6, 2) := by decide +kernel
theorem dX9_parseShooter_6 : decode cX9_parseShooter 6 = .ok (.if_icmp .lt 10, 3) := by decide +kernel
theorem dX9_parseShooter_9 : decode cX9_parseShooter 9 = .ok (.aload_n 1, 1) := by decide +kernel
theorem dX9_parseShooter_10 : decode cX9_parseShooter 10 = .ok (.bipush 6, 2) := by decide +kernel
theorem dX9_parseShooter_12 : decode cX9_parseShooter 12 = .ok (.invokevirtual 110, 3) := by decide +kernel
theorem dX9_parseShooter_15 : decode cX9_parseShooter 15 = .ok (.ireturn, 1) := by decide +kernel
theorem dX9_parseShooter_16 : decode cX9_parseShooter 16 = .ok (.aload_n 1, 1) := by decide +kernel
theorem dX9_parseShooter_17 : decode cX9_parseShooter 17 = .ok (.invokevirtual 114, 3) := by decide +kernel
theorem dX9_parseShooter_20 : decode cX9_parseShooter 20 = .ok (.aload_n 0, 1) := by decide +kernel
theorem dX9_parseShooter_21 : decode cX9_parseShooter 21 = .ok (.getfield 71, 3) := by decide +kernel
theorem dX9_parseShooter_24 : decode cX9_parseShooter 24 = .ok (.istore_n 2, 1) := by decide +kernel
theorem dX9_parseShooter_25 : decode cX9_parseShooter 25 = .ok (.aload_n 0, 1) := by decide +kernel
theorem dX9_parseShooter_26 : decode cX9_parseShooter 26 = .ok (.getfield 34, 3) := by decide +kernel
theorem dX9_parseShooter_29 : decode cX9_parseShooter 29 = .ok (.iload_n 2, 1) := by decide +kernel
theorem dX9_parseShooter_30 : decode cX9_parseShooter 30 = .ok (.aload_n 1, 1) := by decide +kernel
theorem dX9_parseShooter_31 : decode cX9_parseShooter 31 = .ok (.getfield 138, 3) := by decide +kernel
theorem dX9_parseShooter_34 : decode cX9_parseShooter 34 = .ok (.lastore, 1) := by decide +kernel
theorem dX9_parseShooter_35 : decode cX9_parseShooter 35 = .ok (.aload_n 0, 1) := by decide +kernel
theorem dX9_parseShooter_36 : decode cX9_parseShooter 36 = .ok (.aload_n 1, 1) := by decide +kernel
theorem dX9_parseShooter_37 : decode cX9_parseShooter 37 = .ok (.invokevirtual 142, 3) := by decide +kernel
theorem dX9_parseShooter_40 : decode cX9_parseShooter 40 = .ok (.ifCond .eq 22, 3) := by decide +kernel
theorem dX9_parseShooter_43 : decode cX9_parseShooter 43 = .ok (.aload_n 1, 1) := by decide +kernel
theorem dX9_parseShooter_44 : decode cX9_parseShooter 44 = .ok (.bipush 13, 2) := by decide +kernel
theorem dX9_parseShooter_46 : decode cX9_parseShooter 46 = .ok (.invokevirtual 128, 3) := by decide +kernel
theorem dX9_parseShooter_49 : decode cX9_parseShooter 49 = .ok (.ifCond .eq 13, 3) := by decide +kernel
theorem dX9_parseShooter_52 : decode cX9_parseShooter 52 = .ok (.aload_n 1, 1) := by decide +kernel
theorem dX9_parseShooter_53 : decode cX9_parseShooter 53 = .ok (.iconst 1, 1) := by decide +kernel
theorem dX9_parseShooter_54 : decode cX9_parseShooter 54 = .ok (.bipush 40, 2) := by decide +kernel
theorem dX9_parseShooter_56 : decode cX9_parseShooter 56 = .ok (.invokevirtual 121, 3) := by decide +kernel
theorem dX9_parseShooter_59 : decode cX9_parseShooter 59 = .ok (.ifCond .ne 5, 3) := by decide +kernel
theorem dX9_parseShooter_62 : decode cX9_parseShooter 62 = .ok (.iconst 0, 1) := by decide +kernel
theorem dX9_parseShooter_63 : decode cX9_parseShooter 63 = .ok (.ireturn, 1) := by decide +kernel
theorem dX9_parseShooter_64 : decode cX9_parseShooter 64 = .ok (.aload_n 0, 1) := by decide +kernel
theorem dX9_parseShooter_65 : decode cX9_parseShooter 65 = .ok (.getfield 37, 3) := by decide +kernel
theorem dX9_parseShooter_68 : decode cX9_parseShooter 68 = .ok (.iload_n 2, 1) := by decide +kernel
theorem dX9_parseShooter_69 : decode cX9_parseShooter 69 = .ok (.aload_n 1, 1) := by decide +kernel
theorem dX9_parseShooter_70 : decode cX9_parseShooter 70 = .ok (.getfield 125, 3) := by decide +kernel
theorem dX9_parseShooter_73 : decode cX9_parseShooter 73 = .ok (.iastore, 1) := by decide +kernel
theorem dX9_parseShooter_74 : decode cX9_parseShooter 74 = .ok (.aload_n 1, 1) := by decide +kernel
theorem dX9_parseShooter_75 : decode cX9_parseShooter 75 = .ok (.bipush 14, 2) := by decide +kernel
theorem dX9_parseShooter_77 : decode cX9_parseShooter 77 = .ok (.invokevirtual 128, 3) := by decide +kernel
theorem dX9_parseShooter_80 : decode cX9_parseShooter 80 = .ok (.ifCond .eq 13, 3) := by decide +kernel
theorem dX9_parseShooter_83 : decode cX9_parseShooter 83 = .ok (.aload_n 1, 1) := by decide +kernel
theorem dX9_parseShooter_84 : decode cX9_parseShooter 84 = .ok (.iconst 0, 1) := by decide +kernel
theorem dX9_parseShooter_85 : decode cX9_parseShooter 85 = .ok (.bipush 6, 2) := by decide +kernel
theorem dX9_parseShooter_87 : decode cX9_parseShooter 87 = .ok (.invokevirtual 121, 3) := by decide +kernel
theorem dX9_parseShooter_90 : decode cX9_parseShooter 90 = .ok (.ifCond .ne 5, 3) := by decide +kernel
theorem dX9_parseShooter_93 : decode cX9_parseShooter 93 = .ok (.iconst 0, 1) := by decide +kernel
theorem dX9_parseShooter_94 : decode cX9_parseShooter 94 = .ok (.ireturn, 1) := by decide +kernel
theorem dX9_parseShooter_95 : decode cX9_parseShooter 95 = .ok (.aload_n 0, 1) := by decide +kernel
theorem dX9_parseShooter_96 : decode cX9_parseShooter 96 = .ok (.getfield 40, 3) := by decide +kernel
theorem dX9_parseShooter_99 : decode cX9_parseShooter 99 = .ok (.iload_n 2, 1) := by decide +kernel
theorem dX9_parseShooter_100 : decode cX9_parseShooter 100 = .ok (.aload_n 1, 1) := by decide +kernel
theorem dX9_parseShooter_101 : decode cX9_parseShooter 101 = .ok (.getfield 125, 3) := by decide +kernel
theorem dX9_parseShooter_104 : decode cX9_parseShooter 104 = .ok (.iastore, 1) := by decide +kernel
theorem dX9_parseShooter_105 : decode cX9_parseShooter 105 = .ok (.aload_n 0, 1) := by decide +kernel
theorem dX9_parseShooter_106 : decode cX9_parseShooter 106 = .ok (.getfield 43, 3) := by decide +kernel
theorem dX9_parseShooter_109 : decode cX9_parseShooter 109 = .ok (.iload_n 2, 1) := by decide +kernel
theorem dX9_parseShooter_110 : decode cX9_parseShooter 110 = .ok (.iconst 0, 1) := by decide +kernel
theorem dX9_parseShooter_111 : decode cX9_parseShooter 111 = .ok (.iastore, 1) := by decide +kernel
theorem dX9_parseShooter_112 : decode cX9_parseShooter 112 = .ok (.aload_n 0, 1) := by decide +kernel
theorem dX9_parseShooter_113 : decode cX9_parseShooter 113 = .ok (.getfield 46, 3) := by decide +kernel
theorem dX9_parseShooter_116 : decode cX9_parseShooter 116 = .ok (.iload_n 2, 1) := by decide +kernel
theorem dX9_parseShooter_117 : decode cX9_parseShooter 117 = .ok (.iconst 0, 1) := by decide +kernel
theorem dX9_parseShooter_118 : decode cX9_parseShooter 118 = .ok (.iastore, 1) := by decide +kernel
theorem dX9_parseShooter_119 : decode cX9_parseShooter 119 = .ok (.aload_n 1, 1) := by decide +kernel
theorem dX9_parseShooter_120 : decode cX9_parseShooter 120 = .ok (.bipush 15, 2) := by decide +kernel
theorem dX9_parseShooter_122 : decode cX9_parseShooter 122 = .ok (.invokevirtual 135, 3) := by decide +kernel
theorem dX9_parseShooter_125 : decode cX9_parseShooter 125 = .ok (.ifCond .eq 14, 3) := by decide +kernel
theorem dX9_parseShooter_128 : decode cX9_parseShooter 128 = .ok (.aload_n 0, 1) := by decide +kernel
theorem dX9_parseShooter_129 : decode cX9_parseShooter 129 = .ok (.aload_n 1, 1) := by decide +kernel
theorem dX9_parseShooter_130 : decode cX9_parseShooter 130 = .ok (.iload_n 2, 1) := by decide +kernel
theorem dX9_parseShooter_131 : decode cX9_parseShooter 131 = .ok (.invokevirtual 145, 3) := by decide +kernel
theorem dX9_parseShooter_134 : decode cX9_parseShooter 134 = .ok (.ifCond .ne 5, 3) := by decide +kernel
theorem dX9_parseShooter_137 : decode cX9_parseShooter 137 = .ok (.iconst 0, 1) := by decide +kernel
theorem dX9_parseShooter_138 : decode cX9_parseShooter 138 = .ok (.ireturn, 1) := by decide +kernel
theorem dX9_parseShooter_139 : decode cX9_parseShooter 139 = .ok (.aload_n 0, 1) := by decide +kernel
theorem dX9_parseShooter_140 : decode cX9_parseShooter 140 = .ok (.dup, 1) := by decide +kernel
theorem dX9_parseShooter_141 : decode cX9_parseShooter 141 = .ok (.getfield 71, 3) := by decide +kernel
theorem dX9_parseShooter_144 : decode cX9_parseShooter 144 = .ok (.iconst 1, 1) := by decide +kernel
theorem dX9_parseShooter_145 : decode cX9_parseShooter 145 = .ok (.iadd, 1) := by decide +kernel
theorem dX9_parseShooter_146 : decode cX9_parseShooter 146 = .ok (.putfield 71, 3) := by decide +kernel
theorem dX9_parseShooter_149 : decode cX9_parseShooter 149 = .ok (.aload_n 1, 1) := by decide +kernel
theorem dX9_parseShooter_150 : decode cX9_parseShooter 150 = .ok (.invokevirtual 131, 3) := by decide +kernel
theorem dX9_parseShooter_153 : decode cX9_parseShooter 153 = .ok (.ireturn, 1) := by decide +kernel
theorem dX9_parse_0 : decode cX9_parse 0 = .ok (.aload_n 0, 1) := by decide +kernel
theorem dX9_parse_1 : decode cX9_parse 1 = .ok (.invokevirtual 49, 3) := by decide +kernel
theorem dX9_parse_4 : decode cX9_parse 4 = .ok (.iconst 0, 1) := by decide +kernel
theorem dX9_parse_5 : decode cX9_parse 5 = .ok (.istore_n 2, 1) := by decide +kernel
theorem dX9_parse_6 : decode cX9_parse 6 = .ok (.iload_n 2, 1) := by decide +kernel
theorem dX9_parse_7 : decode cX9_parse 7 = .ok (.sipush 900, 3) := by decide +kernel
theorem dX9_parse_10 : decode cX9_parse 10 = .ok (.if_icmp .ge 154, 3) := by decide +kernel
theorem dX9_parse_13 : decode cX9_parse 13 = .ok (.aload_n 1, 1) := by decide +kernel
theorem dX9_parse_14 : decode cX9_parse 14 = .ok (.getfield 83, 3) := by decide +kernel
theorem dX9_parse_17 : decode cX9_parse 17 = .ok (.ifCond .eq 147, 3) := by decide +kernel
theorem dX9_parse_20 : decode cX9_parse 20 = .ok (.aload_n 1, 1) := by decide +kernel
theorem dX9_parse_21 : decode cX9_parse 21 = .ok (.getfield 88, 3) := by decide +kernel
theorem dX9_parse_24 : decode cX9_parse 24 = .ok (.tableswitch 122 0 12 #[68, 122, 77, 86, 122, 95, 122, 104, 122, 122, 122, 122, 113], 68) := by decide +kernel
theorem dX9_parse_92 : decode cX9_parse 92 = .ok (.aload_n 0, 1) := by decide +kernel
theorem dX9_parse_93 : decode cX9_parse 93 = .ok (.aload_n 1, 1) := by decide +kernel
theorem dX9_parse_94 : decode cX9_parse 94 = .ok (.invokevirtual 91, 3) := by decide +kernel
theorem dX9_parse_97 : decode cX9_parse 97 = .ok (.istore_n 3, 1) := by decide +kernel
theorem dX9_parse_98 : decode cX9_parse 98 = .ok (.goto 54, 3) := by decide +kernel
theorem dX9_parse_101 : decode cX9_parse 101 = .ok (.aload_n 0, 1) := by decide +kernel
theorem dX9_parse_102 : decode cX9_parse 102 = .ok (.aload_n 1, 1) := by decide +kernel
theorem dX9_parse_103 : decode cX9_parse 103 = .ok (.invokevirtual 95, 3) := by decide +kernel
theorem dX9_parse_106 : decode cX9_parse 106 = .ok (.istore_n 3, 1) := by decide +kernel
theorem dX9_parse_107 : decode cX9_parse 107 = .ok (.goto 45, 3) := by decide +kernel
theorem dX9_parse_110 : decode cX9_parse 110 = .ok (.aload_n 0, 1) := by decide +kernel
theorem dX9_parse_111 : decode cX9_parse 111 = .ok (.aload_n 1, 1) := by decide +kernel
theorem dX9_parse_112 : decode cX9_parse 112 = .ok (.invokevirtual 98, 3) := by decide +kernel
theorem dX9_parse_115 : decode cX9_parse 115 = .ok (.istore_n 3, 1) := by decide +kernel
theorem dX9_parse_116 : decode cX9_parse 116 = .ok (.goto 36, 3) := by decide +kernel
theorem dX9_parse_119 : decode cX9_parse 119 = .ok (.aload_n 0, 1) := by decide +kernel
theorem dX9_parse_120 : decode cX9_parse 120 = .ok (.aload_n 1, 1) := by decide +kernel
theorem dX9_parse_121 : decode cX9_parse 121 = .ok (.invokevirtual 101, 3) := by decide +kernel
theorem dX9_parse_124 : decode cX9_parse 124 = .ok (.istore_n 3, 1) := by decide +kernel
theorem dX9_parse_125 : decode cX9_parse 125 = .ok (.goto 27, 3) := by decide +kernel
theorem dX9_parse_128 : decode cX9_parse 128 = .ok (.aload_n 0, 1) := by decide +kernel
theorem dX9_parse_129 : decode cX9_parse 129 = .ok (.aload_n 1, 1) := by decide +kernel
theorem dX9_parse_130 : decode cX9_parse 130 = .ok (.invokevirtual 104, 3) := by decide +kernel
theorem dX9_parse_133 : decode cX9_parse 133 = .ok (.istore_n 3, 1) := by decide +kernel
theorem dX9_parse_134 : decode cX9_parse 134 = .ok (.goto 18, 3) := by decide +kernel
theorem dX9_parse_137 : decode cX9_parse 137 = .ok (.aload_n 0, 1) := by decide +kernel
theorem dX9_parse_138 : decode cX9_parse 138 = .ok (.aload_n 1, 1) := by decide +kernel
theorem dX9_parse_139 : decode cX9_parse 139 = .ok (.invokevirtual 107, 3) := by decide +kernel
theorem dX9_parse_142 : decode cX9_parse 142 = .ok (.istore_n 3, 1) := by decide +kernel
theorem dX9_parse_143 : decode cX9_parse 143 = .ok (.goto 9, 3) := by decide +kernel
theorem dX9_parse_146 : decode cX9_parse 146 = .ok (.aload_n 1, 1) := by decide +kernel
theorem dX9_parse_147 : decode cX9_parse 147 = .ok (.iconst 2, 1) := by decide +kernel
theorem dX9_parse_148 : decode cX9_parse 148 = .ok (.invokevirtual 110, 3) := by decide +kernel
theorem dX9_parse_151 : decode cX9_parse 151 = .ok (.istore_n 3, 1) := by decide +kernel
theorem dX9_parse_152 : decode cX9_parse 152 = .ok (.iload_n 3, 1) := by decide +kernel
theorem dX9_parse_153 : decode cX9_parse 153 = .ok (.ifCond .ne 5, 3) := by decide +kernel
theorem dX9_parse_156 : decode cX9_parse 156 = .ok (.iconst 0, 1) := by decide +kernel
theorem dX9_parse_157 : decode cX9_parse 157 = .ok (.ireturn, 1) := by decide +kernel
theorem dX9_parse_158 : decode cX9_parse 158 = .ok (.iinc 2 1, 3) := by decide +kernel
theorem dX9_parse_161 : decode cX9_parse 161 = .ok (.goto (-155), 3) := by decide +kernel
theorem dX9_parse_164 : decode cX9_parse 164 = .ok (.iconst 1, 1) := by decide +kernel
theorem dX9_parse_165 : decode cX9_parse 165 = .ok (.ireturn, 1) := by decide +kernel
abbrev cX20_fillI : ByteArray := prog_20_method_103_code
def yX20_fillI : MethodName := ⟨"java/util/Arrays", "fill", "([II)V"⟩
theorem dX20_fillI_0 : decode cX20_fillI 0 = .ok (.iconst 0, 1) := by decide +kernel
theorem dX20_fillI_1 : decode cX20_fillI 1 = .ok (.istore_n 2, 1) := by decide +kernel
theorem dX20_fillI_2 : decode cX20_fillI 2 = .ok (.aload_n 0, 1) := by decide +kernel
theorem dX20_fillI_3 : decode cX20_fillI 3 = .ok (.arraylength, 1) := by decide +kernel
theorem dX20_fillI_4 : decode cX20_fillI 4 = .ok (.istore_n 3, 1) := by decide +kernel
theorem dX20_fillI_5 : decode cX20_fillI 5 = .ok (.iload_n 2, 1) := by decide +kernel
theorem dX20_fillI_6 : decode cX20_fillI 6 = .ok (.iload_n 3, 1) := by decide +kernel
theorem dX20_fillI_7 : decode cX20_fillI 7 = .ok (.if_icmp .ge 13, 3) := by decide +kernel
theorem dX20_fillI_10 : decode cX20_fillI 10 = .ok (.aload_n 0, 1) := by decide +kernel
theorem dX20_fillI_11 : decode cX20_fillI 11 = .ok (.iload_n 2, 1) := by decide +kernel
theorem dX20_fillI_12 : decode cX20_fillI 12 = .ok (.iload_n 1, 1) := by decide +kernel
theorem dX20_fillI_13 : decode cX20_fillI 13 = .ok (.iastore, 1) := by decide +kernel
theorem dX20_fillI_14 : decode cX20_fillI 14 = .ok (.iinc 2 1, 3) := by decide +kernel
theorem dX20_fillI_17 : decode cX20_fillI 17 = .ok (.goto (-12), 3) := by decide +kernel
theorem dX20_fillI_20 : decode cX20_fillI 20 = .ok (.return_, 1) := by decide +kernel
theorem dX7_clear_0 : decode cX7_clear 0 = .ok (.aload_n 0, 1) := by decide +kernel
theorem dX7_clear_1 : decode cX7_clear 1 = .ok (.iconst 0, 1) := by decide +kernel
theorem dX7_clear_2 : decode cX7_clear 2 = .ok (.putfield 27, 3) := by decide +kernel
theorem dX7_clear_5 : decode cX7_clear 5 = .ok (.aload_n 0, 1) := by decide +kernel
theorem dX7_clear_6 : decode cX7_clear 6 = .ok (.iconst 0, 1) := by decide +kernel
theorem dX7_clear_7 : decode cX7_clear 7 = .ok (.putfield 31, 3) := by decide +kernel
theorem dX7_clear_10 : decode cX7_clear 10 = .ok (.aload_n 0, 1) := by decide +kernel
theorem dX7_clear_11 : decode cX7_clear 11 = .ok (.getfield 24, 3) := by decide +kernel
theorem dX7_clear_14 : decode cX7_clear 14 = .ok (.iconst 0, 1) := by decide +kernel
theorem dX7_clear_15 : decode cX7_clear 15 = .ok (.invokestatic 34, 3) := by decide +kernel
theorem dX7_clear_18 : decode cX7_clear 18 = .ok (.return_, 1) := by decide +kernel
theorem dX5_clear_0 : decode cX5_clear 0 = .ok (.aload_n 0, 1) := by decide +kernel
theorem dX5_clear_1 : decode cX5_clear 1 = .ok (.iconst 0, 1) := by decide +kernel
theorem dX5_clear_2 : decode cX5_clear 2 = .ok (.putfield 30, 3) := by decide +kernel
theorem dX5_clear_5 : decode cX5_clear 5 = .ok (.aload_n 0, 1) := by decide +kernel
theorem dX5_clear_6 : decode cX5_clear 6 = .ok (.iconst 0, 1) := by decide +kernel
theorem dX5_clear_7 : decode cX5_clear 7 = .ok (.putfield 34, 3) := by decide +kernel
theorem dX5_clear_10 : decode cX5_clear 10 = .ok (.aload_n 0, 1) := by decide +kernel
theorem dX5_clear_11 : decode cX5_clear 11 = .ok (.iconst 0, 1) := by decide +kernel
theorem dX5_clear_12 : decode cX5_clear 12 = .ok (.putfield 38, 3) := by decide +kernel
theorem dX5_clear_15 : decode cX5_clear 15 = .ok (.aload_n 0, 1) := by decide +kernel
theorem dX5_clear_16 : decode cX5_clear 16 = .ok (.iconst 0, 1) := by decide +kernel
theorem dX5_clear_17 : decode cX5_clear 17 = .ok (.putfield 41, 3) := by decide +kernel
theorem dX5_clear_20 : decode cX5_clear 20 = .ok (.return_, 1) := by decide +kernel
theorem dX5_ends_0 : decode cX5_ends 0 = .ok (.aload_n 0, 1) := by decide +kernel
theorem dX5_ends_1 : decode cX5_ends 1 = .ok (.getfield 41, 3) := by decide +kernel
theorem dX5_ends_4 : decode cX5_ends 4 = .ok (.ifCond .le 12, 3) := by decide +kernel
theorem dX5_ends_7 : decode cX5_ends 7 = .ok (.aload_n 0, 1) := by decide +kernel
theorem dX5_ends_8 : decode cX5_ends 8 = .ok (.getfield 38, 3) := by decide +kernel
theorem dX5_ends_11 : decode cX5_ends 11 = .ok (.bipush 60, 2) := by decide +kernel
theorem dX5_ends_13 : decode cX5_ends 13 = .ok (.if_icmp .lt 9, 3) := by decide +kernel
theorem dX5_ends_16 : decode cX5_ends 16 = .ok (.aload_n 1, 1) := by decide +kernel
theorem dX5_ends_17 : decode cX5_ends 17 = .ok (.iconst 2, 1) := by decide +kernel
theorem dX5_ends_18 : decode cX5_ends 18 = .ok (.invokevirtual 77, 3) := by decide +kernel
theorem dX5_ends_21 : decode cX5_ends 21 = .ok (.ireturn, 1) := by decide +kernel
theorem dX5_ends_22 : decode cX5_ends 22 = .ok (.aload_n 0, 1) := by decide +kernel
theorem dX5_ends_23 : decode cX5_ends 23 = .ok (.dup, 1) := by decide +kernel
theorem dX5_ends_24 : decode cX5_ends 24 = .ok (.getfield 41, 3) := by decide +kernel
theorem dX5_ends_27 : decode cX5_ends 27 = .ok (.iconst 1, 1) := by decide +kernel
theorem dX5_ends_28 : decode cX5_ends 28 = .ok (.isub, 1) := by decide +kernel
theorem dX5_ends_29 : decode cX5_ends 29 = .ok (.putfield 41, 3) := by decide +kernel
theorem dX5_ends_32 : decode cX5_ends 32 = .ok (.aload_n 0, 1) := by decide +kernel
theorem dX5_ends_33 : decode cX5_ends 33 = .ok (.getfield 27, 3) := by decide +kernel
theorem dX5_ends_36 : decode cX5_ends 36 = .ok (.aload_n 0, 1) := by decide +kernel
theorem dX5_ends_37 : decode cX5_ends 37 = .ok (.getfield 41, 3) := by decide +kernel
theorem dX5_ends_40 : decode cX5_ends 40 = .ok (.iaload, 1) := by decide +kernel
theorem dX5_ends_41 : decode cX5_ends 41 = .ok (.istore_n 2, 1) := by decide +kernel
theorem dX5_ends_42 : decode cX5_ends 42 = .ok (.aload_n 0, 1) := by decide +kernel
theorem dX5_ends_43 : decode cX5_ends 43 = .ok (.getfield 11, 3) := by decide +kernel
theorem dX5_ends_46 : decode cX5_ends 46 = .ok (.aload_n 0, 1) := by decide +kernel
theorem dX5_ends_47 : decode cX5_ends 47 = .ok (.getfield 38, 3) := by decide +kernel
theorem dX5_ends_50 : decode cX5_ends 50 = .ok (.bipush 28, 2) := by decide +kernel
theorem dX5_ends_52 : decode cX5_ends 52 = .ok (.iastore, 1) := by decide +kernel
theorem dX5_ends_53 : decode cX5_ends 53 = .ok (.aload_n 0, 1) := by decide +kernel
theorem dX5_ends_54 : decode cX5_ends 54 = .ok (.getfield 24, 3) := by decide +kernel
theorem dX5_ends_57 : decode cX5_ends 57 = .ok (.aload_n 0, 1) := by decide +kernel
theorem dX5_ends_58 : decode cX5_ends 58 = .ok (.getfield 38, 3) := by decide +kernel
theorem dX5_ends_61 : decode cX5_ends 61 = .ok (.iload_n 2, 1) := by decide +kernel
theorem dX5_ends_62 : decode cX5_ends 62 = .ok (.iastore, 1) := by decide +kernel
theorem dX5_ends_63 : decode cX5_ends 63 = .ok (.aload_n 0, 1) := by decide +kernel
theorem dX5_ends_64 : decode cX5_ends 64 = .ok (.getfield 24, 3) := by decide +kernel
theorem dX5_ends_67 : decode cX5_ends 67 = .ok (.iload_n 2, 1) := by decide +kernel
theorem dX5_ends_68 : decode cX5_ends 68 = .ok (.aload_n 0, 1) := by decide +kernel
theorem dX5_ends_69 : decode cX5_ends 69 = .ok (.getfield 38, 3) := by decide +kernel
theorem dX5_ends_72 : decode cX5_ends 72 = .ok (.iastore, 1) := by decide +kernel
theorem dX5_ends_73 : decode cX5_ends 73 = .ok (.aload_n 0, 1) := by decide +kernel
theorem dX5_ends_74 : decode cX5_ends 74 = .ok (.dup, 1) := by decide +kernel
theorem dX5_ends_75 : decode cX5_ends 75 = .ok (.getfield 38, 3) := by decide +kernel
theorem dX5_ends_78 : decode cX5_ends 78 = .ok (.iconst 1, 1) := by decide +kernel
theorem dX5_ends_79 : decode cX5_ends 79 = .ok (.iadd, 1) := by decide +kernel
theorem dX5_ends_80 : decode cX5_ends 80 = .ok (.putfield 38, 3) := by decide +kernel
theorem dX5_ends_83 : decode cX5_ends 83 = .ok (.aload_n 1, 1) := by decide +kernel
theorem dX5_ends_84 : decode cX5_ends 84 = .ok (.invokevirtual 81, 3) := by decide +kernel
theorem dX5_ends_87 : decode cX5_ends 87 = .ok (.iconst 1, 1) := by decide +kernel
theorem dX5_ends_88 : decode cX5_ends 88 = .ok (.ireturn, 1) := by decide +kernel
theorem dX5_isStep_0 : decode cX5_isStep 0 = .ok (.iload_n 0, 1) := by decide +kernel
theorem dX5_isStep_1 : decode cX5_isStep 1 = .ok (.bipush 17, 2) := by decide +kernel
theorem dX5_isStep_3 : decode cX5_isStep 3 = .ok (.if_icmp .lt 9, 3) := by decide +kernel
theorem dX5_isStep_6 : decode cX5_isStep 6 = .ok (.iload_n 0, 1) := by decide +kernel
theorem dX5_isStep_7 : decode cX5_isStep 7 = .ok (.bipush 23, 2) := by decide +kernel
theorem dX5_isStep_9 : decode cX5_isStep 9 = .ok (.if_icmp .le 21, 3) := by decide +kernel
theorem dX5_isStep_12 : decode cX5_isStep 12 = .ok (.iload_n 0, 1) := by decide +kernel
theorem dX5_isStep_13 : decode cX5_isStep 13 = .ok (.bipush 27, 2) := by decide +kernel
theorem dX5_isStep_15 : decode cX5_isStep 15 = .ok (.if_icmp .eq 15, 3) := by decide +kernel
theorem dX5_isStep_18 : decode cX5_isStep 18 = .ok (.iload_n 0, 1) := by decide +kernel
theorem dX5_isStep_19 : decode cX5_isStep 19 = .ok (.bipush 29, 2) := by decide +kernel
theorem dX5_isStep_21 : decode cX5_isStep 21 = .ok (.if_icmp .eq 9, 3) := by decide +kernel
theorem dX5_isStep_24 : decode cX5_isStep 24 = .ok (.iload_n 0, 1) := by decide +kernel
theorem dX5_isStep_25 : decode cX5_isStep 25 = .ok (.bipush 13, 2) := by decide +kernel
theorem dX5_isStep_27 : decode cX5_isStep 27 = .ok (.if_icmp .ne 7, 3) := by decide +kernel
theorem dX5_isStep_30 : decode cX5_isStep 30 = .ok (.iconst 1, 1) := by decide +kernel
theorem dX5_isStep_31 : decode cX5_isStep 31 = .ok (.goto 4, 3) := by decide +kernel
theorem dX5_isStep_34 : decode cX5_isStep 34 = .ok (.iconst 0, 1) := by decide +kernel
theorem dX5_isStep_35 : decode cX5_isStep 35 = .ok (.ireturn, 1) := by decide +kernel
theorem dX5_begins_0 : decode cX5_begins 0 = .ok (.iload_n 2, 1) := by decide +kernel
theorem dX5_begins_1 : decode cX5_begins 1 = .ok (.invokestatic 84, 3) := by decide +kernel
theorem dX5_begins_4 : decode cX5_begins 4 = .ok (.ifCond .ne 9, 3) := by decide +kernel
theorem dX5_begins_7 : decode cX5_begins 7 = .ok (.aload_n 1, 1) := by decide +kernel
theorem dX5_begins_8 : decode cX5_begins 8 = .ok (.iconst 2, 1) := by decide +kernel
theorem dX5_begins_9 : decode cX5_begins 9 = .ok (.invokevirtual 77, 3) := by decide +kernel
theorem dX5_begins_12 : decode cX5_begins 12 = .ok (.ireturn, 1) := by decide +kernel
theorem dX5_begins_13 : decode cX5_begins 13 = .ok (.aload_n 0, 1) := by decide +kernel
theorem dX5_begins_14 : decode cX5_begins 14 = .ok (.getfield 34, 3) := by decide +kernel
theorem dX5_begins_17 : decode cX5_begins 17 = .ok (.bipush 30, 2) := by decide +kernel
theorem dX5_begins_19 : decode cX5_begins 19 = .ok (.if_icmp .ge 12, 3) := by decide +kernel
theorem dX5_begins_22 : decode cX5_begins 22 = .ok (.aload_n 0, 1) := by decide +kernel
theorem dX5_begins_23 : decode cX5_begins 23 = .ok (.getfield 38, 3) := by decide +kernel
theorem dX5_begins_26 : decode cX5_begins 26 = .ok (.bipush 60, 2) := by decide +kernel
theorem dX5_begins_28 : decode cX5_begins 28 = .ok (.if_icmp .lt 10, 3) := by decide +kernel
theorem dX5_begins_31 : decode cX5_begins 31 = .ok (.aload_n 1, 1) := by decide +kernel
theorem dX5_begins_32 : decode cX5_begins 32 = .ok (.bipush 6, 2) := by decide +kernel
theorem dX5_begins_34 : decode cX5_begins 34 = .ok (.invokevirtual 77, 3) := by decide +kernel
theorem dX5_begins_37 : decode cX5_begins 37 = .ok (.ireturn, 1) := by decide +kernel
theorem dX5_begins_38 : decode cX5_begins 38 = .ok (.iload_n 2, 1) := by decide +kernel
theorem dX5_begins_39 : decode cX5_begins 39 = .ok (.bipush 23, 2) := by decide +kernel
theorem dX5_begins_41 : decode cX5_begins 41 = .ok (.if_icmp .eq 9, 3) := by decide +kernel
theorem dX5_begins_44 : decode cX5_begins 44 = .ok (.iload_n 2, 1) := by decide +kernel
theorem dX5_begins_45 : decode cX5_begins 45 = .ok (.bipush 27, 2) := by decide +kernel
theorem dX5_begins_47 : decode cX5_begins 47 = .ok (.if_icmp .ne 41, 3) := by decide +kernel
theorem dX5_begins_50 : decode cX5_begins 50 = .ok (.aload_n 0, 1) := by decide +kernel
theorem dX5_begins_51 : decode cX5_begins 51 = .ok (.getfield 41, 3) := by decide +kernel
theorem dX5_begins_54 : decode cX5_begins 54 = .ok (.iconst 3, 1) := by decide +kernel
theorem dX5_begins_55 : decode cX5_begins 55 = .ok (.if_icmp .lt 10, 3) := by decide +kernel
theorem dX5_begins_58 : decode cX5_begins 58 = .ok (.aload_n 1, 1) := by decide +kernel
theorem dX5_begins_59 : decode cX5_begins 59 = .ok (.bipush 7, 2) := by decide +kernel
theorem dX5_begins_61 : decode cX5_begins 61 = .ok (.invokevirtual 77, 3) := by decide +kernel
theorem dX5_begins_64 : decode cX5_begins 64 = .ok (.ireturn, 1) := by decide +kernel
theorem dX5_begins_65 : decode cX5_begins 65 = .ok (.aload_n 0, 1) := by decide +kernel
theorem dX5_begins_66 : decode cX5_begins 66 = .ok (.getfield 27, 3) := by decide +kernel
theorem dX5_begins_69 : decode cX5_begins 69 = .ok (.aload_n 0, 1) := by decide +kernel
theorem dX5_begins_70 : decode cX5_begins 70 = .ok (.getfield 41, 3) := by decide +kernel
theorem dX5_begins_73 : decode cX5_begins 73 = .ok (.aload_n 0, 1) := by decide +kernel
theorem dX5_begins_74 : decode cX5_begins 74 = .ok (.getfield 38, 3) := by decide +kernel
theorem dX5_begins_77 : decode cX5_begins 77 = .ok (.iastore, 1) := by decide +kernel
theorem dX5_begins_78 : decode cX5_begins 78 = .ok (.aload_n 0, 1) := by decide +kernel
theorem dX5_begins_79 : decode cX5_begins 79 = .ok (.dup, 1) := by decide +kernel
theorem dX5_begins_80 : decode cX5_begins 80 = .ok (.getfield 41, 3) := by decide +kernel
theorem dX5_begins_83 : decode cX5_begins 83 = .ok (.iconst 1, 1) := by decide +kernel
theorem dX5_begins_84 : decode cX5_begins 84 = .ok (.iadd, 1) := by decide +kernel
theorem dX5_begins_85 : decode cX5_begins 85 = .ok (.putfield 41, 3) := by decide +kernel
theorem dX5_begins_88 : decode cX5_begins 88 = .ok (.aload_n 0, 1) := by decide +kernel
theorem dX5_begins_89 : decode cX5_begins 89 = .ok (.getfield 11, 3) := by decide +kernel
theorem dX5_begins_92 : decode cX5_begins 92 = .ok (.aload_n 0, 1) := by decide +kernel
theorem dX5_begins_93 : decode cX5_begins 93 = .ok (.getfield 38, 3) := by decide +kernel
theorem dX5_begins_96 : decode cX5_begins 96 = .ok (.iload_n 2, 1) := by decide +kernel
theorem dX5_begins_97 : decode cX5_begins 97 = .ok (.iastore, 1) := by decide +kernel
theorem dX5_begins_98 : decode cX5_begins 98 = .ok (.aload_n 0, 1) := by decide +kernel
theorem dX5_begins_99 : decode cX5_begins 99 = .ok (.dup, 1) := by decide +kernel
theorem dX5_begins_100 : decode cX5_begins 100 = .ok (.getfield 34, 3) := by decide +kernel
theorem dX5_begins_103 : decode cX5_begins 103 = .ok (.iconst 1, 1) := by decide +kernel
theorem dX5_begins_104 : decode cX5_begins 104 = .ok (.iadd, 1) := by decide +kernel
theorem dX5_begins_105 : decode cX5_begins 105 = .ok (.putfield 34, 3) := by decide +kernel
theorem dX5_begins_108 : decode cX5_begins 108 = .ok (.aload_n 0, 1) := by decide +kernel
theorem dX5_begins_109 : decode cX5_begins 109 = .ok (.dup, 1) := by decide +kernel
theorem dX5_begins_110 : decode cX5_begins 110 = .ok (.getfield 38, 3) := by decide +kernel
theorem dX5_begins_113 : decode cX5_begins 113 = .ok (.iconst 1, 1) := by decide +kernel
theorem dX5_begins_114 : decode cX5_begins 114 = .ok (.iadd, 1) := by decide +kernel
theorem dX5_begins_115 : decode cX5_begins 115 = .ok (.putfield 38, 3) := by decide +kernel
theorem dX5_begins_118 : decode cX5_begins 118 = .ok (.aload_n 1, 1) := by decide +kernel
theorem dX5_begins_119 : decode cX5_begins 119 = .ok (.invokevirtual 81, 3) := by decide +kernel
theorem dX5_begins_122 : decode cX5_begins 122 = .ok (.iconst 1, 1) := by decide +kernel
theorem dX5_begins_123 : decode cX5_begins 123 = .ok (.ireturn, 1) := by decide +kernel
theorem dX5_takeKnownName_0 : decode cX5_takeKnownName 0 = .ok (.aload_n 0, 1) := by decide +kernel
theorem dX5_takeKnownName_1 : decode cX5_takeKnownName 1 = .ok (.invokevirtual 114, 3) := by decide +kernel
theorem dX5_takeKnownName_4 : decode cX5_takeKnownName 4 = .ok (.ifCond .ne 9, 3) := by decide +kernel
theorem dX5_takeKnownName_7 : decode cX5_takeKnownName 7 = .ok (.aload_n 0, 1) := by decide +kernel
theorem dX5_takeKnownName_8 : decode cX5_takeKnownName 8 = .ok (.iconst 2, 1) := by decide +kernel
theorem dX5_takeKnownName_9 : decode cX5_takeKnownName 9 = .ok (.invokevirtual 77, 3) := by decide +kernel
theorem dX5_takeKnownName_12 : decode cX5_takeKnownName 12 = .ok (.ireturn, 1) := by decide +kernel
theorem dX5_takeKnownName_13 : decode cX5_takeKnownName 13 = .ok (.iload_n 1, 1) := by decide +kernel
theorem dX5_takeKnownName_14 : decode cX5_takeKnownName 14 = .ok (.iconst (-1), 1) := by decide +kernel
theorem dX5_takeKnownName_15 : decode cX5_takeKnownName 15 = .ok (.if_icmp .ne 9, 3) := by decide +kernel
theorem dX5_takeKnownName_18 : decode cX5_takeKnownName 18 = .ok (.aload_n 0, 1) := by decide +kernel
theorem dX5_takeKnownName_19 : decode cX5_takeKnownName 19 = .ok (.iconst 3, 1) := by decide +kernel
theorem dX5_takeKnownName_20 : decode cX5_takeKnownName 20 = .ok (.invokevirtual 77, 3) := by decide +kernel
theorem dX5_takeKnownName_23 : decode cX5_takeKnownName 23 = .ok (.ireturn, 1) := by decide +kernel
theorem dX5_takeKnownName_24 : decode cX5_takeKnownName 24 = .ok (.aload_n 0, 1) := by decide +kernel
theorem dX5_takeKnownName_25 : decode cX5_takeKnownName 25 = .ok (.invokevirtual 81, 3) := by decide +kernel
theorem dX5_takeKnownName_28 : decode cX5_takeKnownName 28 = .ok (.iconst 1, 1) := by decide +kernel
theorem dX5_takeKnownName_29 : decode cX5_takeKnownName 29 = .ok (.ireturn, 1) := by decide +kernel
theorem dX5_parseAim_0 : decode cX5_parseAim 0 = .ok (.aload_n 1, 1) := by decide +kernel
theorem dX5_parseAim_1 : decode cX5_parseAim 1 = .ok (.iconst 0, 1) := by decide +kernel
theorem dX5_parseAim_2 : decode cX5_parseAim 2 = .ok (.bipush 60, 2) := by decide +kernel
theorem dX5_parseAim_4 : decode cX5_parseAim 4 = .ok (.invokevirtual 117, 3) := by decide +kernel
theorem dX5_parseAim_7 : decode cX5_parseAim 7 = .ok (.ifCond .ne 5, 3) := by decide +kernel
theorem dX5_parseAim_10 : decode cX5_parseAim 10 = .ok (.iconst 0, 1) := by decide +kernel
theorem dX5_parseAim_11 : decode cX5_parseAim 11 = .ok (.ireturn, 1) := by decide +kernel
theorem dX5_parseAim_12 : decode cX5_parseAim 12 = .ok (.aload_n 1, 1) := by decide +kernel
theorem dX5_parseAim_13 : decode cX5_parseAim 13 = .ok (.getfield 121, 3) := by decide +kernel
theorem dX5_parseAim_16 : decode cX5_parseAim 16 = .ok (.istore_n 3, 1) := by decide +kernel
theorem dX5_parseAim_17 : decode cX5_parseAim 17 = .ok (.aload_n 1, 1) := by decide +kernel
theorem dX5_parseAim_18 : decode cX5_parseAim 18 = .ok (.iconst 0, 1) := by decide +kernel
theorem dX5_parseAim_19 : decode cX5_parseAim 19 = .ok (.bipush 60, 2) := by decide +kernel
theorem dX5_parseAim_21 : decode cX5_parseAim 21 = .ok (.invokevirtual 117, 3) := by decide +kernel
theorem dX5_parseAim_24 : decode cX5_parseAim 24 = .ok (.ifCond .ne 5, 3) := by decide +kernel
theorem dX5_parseAim_27 : decode cX5_parseAim 27 = .ok (.iconst 0, 1) := by decide +kernel
theorem dX5_parseAim_28 : decode cX5_parseAim 28 = .ok (.ireturn, 1) := by decide +kernel
theorem dX5_parseAim_29 : decode cX5_parseAim 29 = .ok (.aload_n 1, 1) := by decide +kernel
theorem dX5_parseAim_30 : decode cX5_parseAim 30 = .ok (.getfield 121, 3) := by decide +kernel
theorem dX5_parseAim_33 : decode cX5_parseAim 33 = .ok (.istore 4, 2) := by decide +kernel
theorem dX5_parseAim_35 : decode cX5_parseAim 35 = .ok (.aload_n 0, 1) := by decide +kernel
theorem dX5_parseAim_36 : decode cX5_parseAim 36 = .ok (.getfield 15, 3) := by decide +kernel
theorem dX5_parseAim_39 : decode cX5_parseAim 39 = .ok (.iload_n 2, 1) := by decide +kernel
theorem dX5_parseAim_40 : decode cX5_parseAim 40 = .ok (.aload_n 1, 1) := by decide +kernel
theorem dX5_parseAim_41 : decode cX5_parseAim 41 = .ok (.iconst 4, 1) := by decide +kernel
theorem dX5_parseAim_42 : decode cX5_parseAim 42 = .ok (.invokevirtual 124, 3) := by decide +kernel
theorem dX5_parseAim_45 : decode cX5_parseAim 45 = .ok (.ifCond .eq 8, 3) := by decide +kernel
theorem dX5_parseAim_48 : decode cX5_parseAim 48 = .ok (.iload_n 3, 1) := by decide +kernel
theorem dX5_parseAim_49 : decode cX5_parseAim 49 = .ok (.ineg, 1) := by decide +kernel
theorem dX5_parseAim_50 : decode cX5_parseAim 50 = .ok (.goto 4, 3) := by decide +kernel
theorem dX5_parseAim_53 : decode cX5_parseAim 53 = .ok (.iload_n 3, 1) := by decide +kernel
theorem dX5_parseAim_54 : decode cX5_parseAim 54 = .ok (.iastore, 1) := by decide +kernel
theorem dX5_parseAim_55 : decode cX5_parseAim 55 = .ok (.aload_n 0, 1) := by decide +kernel
theorem dX5_parseAim_56 : decode cX5_parseAim 56 = .ok (.getfield 18, 3) := by decide +kernel
theorem dX5_parseAim_59 : decode cX5_parseAim 59 = .ok (.iload_n 2, 1) := by decide +kernel
theorem dX5_parseAim_60 : decode cX5_parseAim 60 = .ok (.aload_n 1, 1) := by decide +kernel
theorem dX5_parseAim_61 : decode cX5_parseAim 61 = .ok (.bipush 16, 2) := by decide +kernel
theorem dX5_parseAim_63 : decode cX5_parseAim 63 = .ok (.invokevirtual 124, 3) := by decide +kernel
theorem dX5_parseAim_66 : decode cX5_parseAim 66 = .ok (.ifCond .eq 9, 3) := by decide +kernel
theorem dX5_parseAim_69 : decode cX5_parseAim 69 = .ok (.iload 4, 2) := by decide +kernel
theorem dX5_parseAim_71 : decode cX5_parseAim 71 = .ok (.ineg, 1) := by decide +kernel
theorem dX5_parseAim_72 : decode cX5_parseAim 72 = .ok (.goto 5, 3) := by decide +kernel
theorem dX5_parseAim_75 : decode cX5_parseAim 75 = .ok (.iload 4, 2) := by decide +kernel
theorem dX5_parseAim_77 : decode cX5_parseAim 77 = .ok (.iastore, 1) := by decide +kernel
theorem dX5_parseAim_78 : decode cX5_parseAim 78 = .ok (.iconst 1, 1) := by decide +kernel
theorem dX5_parseAim_79 : decode cX5_parseAim 79 = .ok (.ireturn, 1) := by decide +kernel
theorem dX5_parseNumber_0 : decode cX5_parseNumber 0 = .ok (.aload_n 1, 1) := by decide +kernel
theorem dX5_parseNumber_1 : decode cX5_parseNumber 1 = .ok (.iload_n 3, 1) := by decide +kernel
theorem dX5_parseNumber_2 : decode cX5_parseNumber 2 = .ok (.iload 4, 2) := by decide +kernel
theorem dX5_parseNumber_4 : decode cX5_parseNumber 4 = .ok (.invokevirtual 117, 3) := by decide +kernel
theorem dX5_parseNumber_7 : decode cX5_parseNumber 7 = .ok (.ifCond .ne 5, 3) := by decide +kernel
theorem dX5_parseNumber_10 : decode cX5_parseNumber 10 = .ok (.iconst 0, 1) := by decide +kernel
theorem dX5_parseNumber_11 : decode cX5_parseNumber 11 = .ok (.ireturn, 1) := by decide +kernel
theorem dX5_parseNumber_12 : decode cX5_parseNumber 12 = .ok (.aload_n 0, 1) := by decide +kernel
theorem dX5_parseNumber_13 : decode cX5_parseNumber 13 = .ok (.getfield 15, 3) := by decide +kernel
theorem dX5_parseNumber_16 : decode cX5_parseNumber 16 = .ok (.iload_n 2, 1) := by decide +kernel
theorem dX5_parseNumber_17 : decode cX5_parseNumber 17 = .ok (.aload_n 1, 1) := by decide +kernel
theorem dX5_parseNumber_18 : decode cX5_parseNumber 18 = .ok (.getfield 121, 3) := by decide +kernel
theorem dX5_parseNumber_21 : decode cX5_parseNumber 21 = .ok (.iastore, 1) := by decide +kernel
theorem dX5_parseNumber_22 : decode cX5_parseNumber 22 = .ok (.iconst 1, 1) := by decide +kernel
theorem dX5_parseNumber_23 : decode cX5_parseNumber 23 = .ok (.ireturn, 1) := by decide +kernel
theorem dX8_takeCompares_0 : decode cX8_takeCompares 0 = .ok (.aload_n 0, 1) := by decide +kernel
theorem dX8_takeCompares_1 : decode cX8_takeCompares 1 = .ok (.getfield 82, 3) := by decide +kernel
theorem dX8_takeCompares_4 : decode cX8_takeCompares 4 = .ok (.bipush 60, 2) := by decide +kernel
theorem dX8_takeCompares_6 : decode cX8_takeCompares 6 = .ok (.if_icmp .eq 27, 3) := by decide +kernel
theorem dX8_takeCompares_9 : decode cX8_takeCompares 9 = .ok (.aload_n 0, 1) := by decide +kernel
theorem dX8_takeCompares_10 : decode cX8_takeCompares 10 = .ok (.getfield 82, 3) := by decide +kernel
theorem dX8_takeCompares_13 : decode cX8_takeCompares 13 = .ok (.bipush 62, 2) := by decide +kernel
theorem dX8_takeCompares_15 : decode cX8_takeCompares 15 = .ok (.if_icmp .eq 18, 3) := by decide +kernel
theorem dX8_takeCompares_18 : decode cX8_takeCompares 18 = .ok (.aload_n 0, 1) := by decide +kernel
theorem dX8_takeCompares_19 : decode cX8_takeCompares 19 = .ok (.getfield 82, 3) := by decide +kernel
theorem dX8_takeCompares_22 : decode cX8_takeCompares 22 = .ok (.bipush 61, 2) := by decide +kernel
theorem dX8_takeCompares_24 : decode cX8_takeCompares 24 = .ok (.if_icmp .eq 9, 3) := by decide +kernel
theorem dX8_takeCompares_27 : decode cX8_takeCompares 27 = .ok (.aload_n 0, 1) := by decide +kernel
theorem dX8_takeCompares_28 : decode cX8_takeCompares 28 = .ok (.iconst 2, 1) := by decide +kernel
theorem dX8_takeCompares_29 : decode cX8_takeCompares 29 = .ok (.invokevirtual 99, 3) := by decide +kernel
theorem dX8_takeCompares_32 : decode cX8_takeCompares 32 = .ok (.ireturn, 1) := by decide +kernel
theorem dX8_takeCompares_33 : decode cX8_takeCompares 33 = .ok (.aload_n 0, 1) := by decide +kernel
theorem dX8_takeCompares_34 : decode cX8_takeCompares 34 = .ok (.aload_n 0, 1) := by decide +kernel
theorem dX8_takeCompares_35 : decode cX8_takeCompares 35 = .ok (.getfield 82, 3) := by decide +kernel
theorem dX8_takeCompares_38 : decode cX8_takeCompares 38 = .ok (.putfield 102, 3) := by decide +kernel
theorem dX8_takeCompares_41 : decode cX8_takeCompares 41 = .ok (.aload_n 0, 1) := by decide +kernel
theorem dX8_takeCompares_42 : decode cX8_takeCompares 42 = .ok (.invokevirtual 63, 3) := by decide +kernel
theorem dX8_takeCompares_45 : decode cX8_takeCompares 45 = .ok (.iconst 1, 1) := by decide +kernel
theorem dX8_takeCompares_46 : decode cX8_takeCompares 46 = .ok (.ireturn, 1) := by decide +kernel
theorem dX5_parseTest_0 : decode cX5_parseTest 0 = .ok (.aload_n 1, 1) := by decide +kernel
theorem dX5_parseTest_1 : decode cX5_parseTest 1 = .ok (.bipush 24, 2) := by decide +kernel
theorem dX5_parseTest_3 : decode cX5_parseTest 3 = .ok (.invokevirtual 124, 3) := by decide +kernel
theorem dX5_parseTest_6 : decode cX5_parseTest 6 = .ok (.ifCond .eq 37, 3) := by decide +kernel
theorem dX5_parseTest_9 : decode cX5_parseTest 9 = .ok (.sipush 999, 3) := by decide +kernel
theorem dX5_parseTest_12 : decode cX5_parseTest 12 = .ok (.istore 4, 2) := by decide +kernel
theorem dX5_parseTest_14 : decode cX5_parseTest 14 = .ok (.aload_n 0, 1) := by decide +kernel
theorem dX5_parseTest_15 : decode cX5_parseTest 15 = .ok (.getfield 15, 3) := by decide +kernel
theorem dX5_parseTest_18 : decode cX5_parseTest 18 = .ok (.iload_n 3, 1) := by decide +kernel
theorem dX5_parseTest_19 : decode cX5_parseTest 19 = .ok (.aload_n 2, 1) := by decide +kernel
theorem dX5_parseTest_20 : decode cX5_parseTest 20 = .ok (.aload_n 1, 1) := by decide +kernel
theorem dX5_parseTest_21 : decode cX5_parseTest 21 = .ok (.getfield 87, 3) := by decide +kernel
theorem dX5_parseTest_24 : decode cX5_parseTest 24 = .ok (.invokevirtual 100, 3) := by decide +kernel
theorem dX5_parseTest_27 : decode cX5_parseTest 27 = .ok (.iastore, 1) := by decide +kernel
theorem dX5_parseTest_28 : decode cX5_parseTest 28 = .ok (.aload_n 1, 1) := by decide +kernel
theorem dX5_parseTest_29 : decode cX5_parseTest 29 = .ok (.aload_n 0, 1) := by decide +kernel
theorem dX5_parseTest_30 : decode cX5_parseTest 30 = .ok (.getfield 15, 3) := by decide +kernel
theorem dX5_parseTest_33 : decode cX5_parseTest 33 = .ok (.iload_n 3, 1) := by decide +kernel
theorem dX5_parseTest_34 : decode cX5_parseTest 34 = .ok (.iaload, 1) := by decide +kernel
theorem dX5_parseTest_35 : decode cX5_parseTest 35 = .ok (.invokestatic 97, 3) := by decide +kernel
theorem dX5_parseTest_38 : decode cX5_parseTest 38 = .ok (.ifCond .ne 58, 3) := by decide +kernel
theorem dX5_parseTest_41 : decode cX5_parseTest 41 = .ok (.iconst 0, 1) := by decide +kernel
theorem dX5_parseTest_42 : decode cX5_parseTest 42 = .ok (.ireturn, 1) := by decide +kernel
theorem dX5_parseTest_43 : decode cX5_parseTest 43 = .ok (.aload_n 1, 1) := by decide +kernel
theorem dX5_parseTest_44 : decode cX5_parseTest 44 = .ok (.bipush 25, 2) := by decide +kernel
theorem dX5_parseTest_46 : decode cX5_parseTest 46 = .ok (.invokevirtual 124, 3) := by decide +kernel
theorem dX5_parseTest_49 : decode cX5_parseTest 49 = .ok (.ifCond .eq 17, 3) := by decide +kernel
theorem dX5_parseTest_52 : decode cX5_parseTest 52 = .ok (.bipush 60, 2) := by decide +kernel
theorem dX5_parseTest_54 : decode cX5_parseTest 54 = .ok (.istore 4, 2) := by decide +kernel
theorem dX5_parseTest_56 : decode cX5_parseTest 56 = .ok (.aload_n 0, 1) := by decide +kernel
theorem dX5_parseTest_57 : decode cX5_parseTest 57 = .ok (.getfield 15, 3) := by decide +kernel
theorem dX5_parseTest_60 : decode cX5_parseTest 60 = .ok (.iload_n 3, 1) := by decide +kernel
theorem dX5_parseTest_61 : decode cX5_parseTest 61 = .ok (.iconst (-1), 1) := by decide +kernel
theorem dX5_parseTest_62 : decode cX5_parseTest 62 = .ok (.iastore, 1) := by decide +kernel
theorem dX5_parseTest_63 : decode cX5_parseTest 63 = .ok (.goto 33, 3) := by decide +kernel
theorem dX5_parseTest_66 : decode cX5_parseTest 66 = .ok (.aload_n 1, 1) := by decide +kernel
theorem dX5_parseTest_67 : decode cX5_parseTest 67 = .ok (.bipush 26, 2) := by decide +kernel
theorem dX5_parseTest_69 : decode cX5_parseTest 69 = .ok (.invokevirtual 124, 3) := by decide +kernel
theorem dX5_parseTest_72 : decode cX5_parseTest 72 = .ok (.ifCond .eq 18, 3) := by decide +kernel
theorem dX5_parseTest_75 : decode cX5_parseTest 75 = .ok (.bipush 20, 2) := by decide +kernel
theorem dX5_parseTest_77 : decode cX5_parseTest 77 = .ok (.istore 4, 2) := by decide +kernel
theorem dX5_parseTest_79 : decode cX5_parseTest 79 = .ok (.aload_n 0, 1) := by decide +kernel
theorem dX5_parseTest_80 : decode cX5_parseTest 80 = .ok (.getfield 15, 3) := by decide +kernel
theorem dX5_parseTest_83 : decode cX5_parseTest 83 = .ok (.iload_n 3, 1) := by decide +kernel
theorem dX5_parseTest_84 : decode cX5_parseTest 84 = .ok (.bipush (-2), 2) := by decide +kernel
theorem dX5_parseTest_86 : decode cX5_parseTest 86 = .ok (.iastore, 1) := by decide +kernel
theorem dX5_parseTest_87 : decode cX5_parseTest 87 = .ok (.goto 9, 3) := by decide +kernel
theorem dX5_parseTest_90 : decode cX5_parseTest 90 = .ok (.aload_n 1, 1) := by decide +kernel
theorem dX5_parseTest_91 : decode cX5_parseTest 91 = .ok (.iconst 2, 1) := by decide +kernel
theorem dX5_parseTest_92 : decode cX5_parseTest 92 = .ok (.invokevirtual 77, 3) := by decide +kernel
theorem dX5_parseTest_95 : decode cX5_parseTest 95 = .ok (.ireturn, 1) := by decide +kernel
theorem dX5_parseTest_96 : decode cX5_parseTest 96 = .ok (.aload_n 1, 1) := by decide +kernel
theorem dX5_parseTest_97 : decode cX5_parseTest 97 = .ok (.invokevirtual 127, 3) := by decide +kernel
theorem dX5_parseTest_100 : decode cX5_parseTest 100 = .ok (.ifCond .ne 5, 3) := by decide +kernel
theorem dX5_parseTest_103 : decode cX5_parseTest 103 = .ok (.iconst 0, 1) := by decide +kernel
theorem dX5_parseTest_104 : decode cX5_parseTest 104 = .ok (.ireturn, 1) := by decide +kernel
theorem dX5_parseTest_105 : decode cX5_parseTest 105 = .ok (.aload_n 0, 1) := by decide +kernel
theorem dX5_parseTest_106 : decode cX5_parseTest 106 = .ok (.getfield 18, 3) := by decide +kernel
theorem dX5_parseTest_109 : decode cX5_parseTest 109 = .ok (.iload_n 3, 1) := by decide +kernel
theorem dX5_parseTest_110 : decode cX5_parseTest 110 = .ok (.aload_n 1, 1) := by decide +kernel
theorem dX5_parseTest_111 : decode cX5_parseTest 111 = .ok (.getfield 121, 3) := by decide +kernel
theorem dX5_parseTest_114 : decode cX5_parseTest 114 = .ok (.iastore, 1) := by decide +kernel
theorem dX5_parseTest_115 : decode cX5_parseTest 115 = .ok (.aload_n 1, 1) := by decide +kernel
theorem dX5_parseTest_116 : decode cX5_parseTest 116 = .ok (.iconst 0, 1) := by decide +kernel
theorem dX5_parseTest_117 : decode cX5_parseTest 117 = .ok (.iload 4, 2) := by decide +kernel
theorem dX5_parseTest_119 : decode cX5_parseTest 119 = .ok (.invokevirtual 117, 3) := by decide +kernel
theorem dX5_parseTest_122 : decode cX5_parseTest 122 = .ok (.ifCond .ne 5, 3) := by decide +kernel
theorem dX5_parseTest_125 : decode cX5_parseTest 125 = .ok (.iconst 0, 1) := by decide +kernel
theorem dX5_parseTest_126 : decode cX5_parseTest 126 = .ok (.ireturn, 1) := by decide +kernel
theorem dX5_parseTest_127 : decode cX5_parseTest 127 = .ok (.aload_n 0, 1) := by decide +kernel
theorem dX5_parseTest_128 : decode cX5_parseTest 128 = .ok (.getfield 21, 3) := by decide +kernel
theorem dX5_parseTest_131 : decode cX5_parseTest 131 = .ok (.iload_n 3, 1) := by decide +kernel
theorem dX5_parseTest_132 : decode cX5_parseTest 132 = .ok (.aload_n 1, 1) := by decide +kernel
theorem dX5_parseTest_133 : decode cX5_parseTest 133 = .ok (.getfield 121, 3) := by decide +kernel
theorem dX5_parseTest_136 : decode cX5_parseTest 136 = .ok (.iastore, 1) := by decide +kernel
theorem dX5_parseTest_137 : decode cX5_parseTest 137 = .ok (.iconst 1, 1) := by decide +kernel
theorem dX5_parseTest_138 : decode cX5_parseTest 138 = .ok (.ireturn, 1) := by decide +kernel
theorem dX5_parseRest_0 : decode cX5_parseRest 0 = .ok (.iload_n 3, 1) := by decide +kernel
theorem dX5_parseRest_1 : decode cX5_parseRest 1 = .ok (.tableswitch 178 13 27 #[137, 178, 178, 178, 75, 129, 148, 102, 178, 178, 169, 178, 178, 178, 158], 75) := by decide +kernel
theorem dX5_parseRest_76 : decode cX5_parseRest 76 = .ok (.aload_n 0, 1) := by decide +kernel
theorem dX5_parseRest_77 : decode cX5_parseRest 77 = .ok (.getfield 15, 3) := by decide +kernel
theorem dX5_parseRest_80 : decode cX5_parseRest 80 = .ok (.iload 4, 2) := by decide +kernel
theorem dX5_parseRest_82 : decode cX5_parseRest 82 = .ok (.aload_n 2, 1) := by decide +kernel
theorem dX5_parseRest_83 : decode cX5_parseRest 83 = .ok (.aload_n 1, 1) := by decide +kernel
theorem dX5_parseRest_84 : decode cX5_parseRest 84 = .ok (.getfield 87, 3) := by decide +kernel
theorem dX5_parseRest_87 : decode cX5_parseRest 87 = .ok (.invokevirtual 91, 3) := by decide +kernel
theorem dX5_parseRest_90 : decode cX5_parseRest 90 = .ok (.iastore, 1) := by decide +kernel
theorem dX5_parseRest_91 : decode cX5_parseRest 91 = .ok (.aload_n 1, 1) := by decide +kernel
theorem dX5_parseRest_92 : decode cX5_parseRest 92 = .ok (.aload_n 0, 1) := by decide +kernel
theorem dX5_parseRest_93 : decode cX5_parseRest 93 = .ok (.getfield 15, 3) := by decide +kernel
theorem dX5_parseRest_96 : decode cX5_parseRest 96 = .ok (.iload 4, 2) := by decide +kernel
theorem dX5_parseRest_98 : decode cX5_parseRest 98 = .ok (.iaload, 1) := by decide +kernel
theorem dX5_parseRest_99 : decode cX5_parseRest 99 = .ok (.invokestatic 97, 3) := by decide +kernel
theorem dX5_parseRest_102 : decode cX5_parseRest 102 = .ok (.ireturn, 1) := by decide +kernel
theorem dX5_parseRest_103 : decode cX5_parseRest 103 = .ok (.aload_n 0, 1) := by decide +kernel
theorem dX5_parseRest_104 : decode cX5_parseRest 104 = .ok (.getfield 15, 3) := by decide +kernel
theorem dX5_parseRest_107 : decode cX5_parseRest 107 = .ok (.iload 4, 2) := by decide +kernel
theorem dX5_parseRest_109 : decode cX5_parseRest 109 = .ok (.aload_n 2, 1) := by decide +kernel
theorem dX5_parseRest_110 : decode cX5_parseRest 110 = .ok (.aload_n 1, 1) := by decide +kernel
theorem dX5_parseRest_111 : decode cX5_parseRest 111 = .ok (.getfield 87, 3) := by decide +kernel
theorem dX5_parseRest_114 : decode cX5_parseRest 114 = .ok (.invokevirtual 100, 3) := by decide +kernel
theorem dX5_parseRest_117 : decode cX5_parseRest 117 = .ok (.iastore, 1) := by decide +kernel
theorem dX5_parseRest_118 : decode cX5_parseRest 118 = .ok (.aload_n 1, 1) := by decide +kernel
theorem dX5_parseRest_119 : decode cX5_parseRest 119 = .ok (.aload_n 0, 1) := by decide +kernel
theorem dX5_parseRest_120 : decode cX5_parseRest 120 = .ok (.getfield 15, 3) := by decide +kernel
theorem dX5_parseRest_123 : decode cX5_parseRest 123 = .ok (.iload 4, 2) := by decide +kernel
theorem dX5_parseRest_125 : decode cX5_parseRest 125 = .ok (.iaload, 1) := by decide +kernel
theorem dX5_parseRest_126 : decode cX5_parseRest 126 = .ok (.invokestatic 97, 3) := by decide +kernel
theorem dX5_parseRest_129 : decode cX5_parseRest 129 = .ok (.ireturn, 1) := by decide +kernel
theorem dX5_parseRest_130 : decode cX5_parseRest 130 = .ok (.aload_n 0, 1) := by decide +kernel
theorem dX5_parseRest_131 : decode cX5_parseRest 131 = .ok (.aload_n 1, 1) := by decide +kernel
theorem dX5_parseRest_132 : decode cX5_parseRest 132 = .ok (.iload 4, 2) := by decide +kernel
theorem dX5_parseRest_134 : decode cX5_parseRest 134 = .ok (.invokevirtual 103, 3) := by decide +kernel
theorem dX5_parseRest_137 : decode cX5_parseRest 137 = .ok (.ireturn, 1) := by decide +kernel
theorem dX5_parseRest_138 : decode cX5_parseRest 138 = .ok (.aload_n 0, 1) := by decide +kernel
theorem dX5_parseRest_139 : decode cX5_parseRest 139 = .ok (.aload_n 1, 1) := by decide +kernel
theorem dX5_parseRest_140 : decode cX5_parseRest 140 = .ok (.iload 4, 2) := by decide +kernel
theorem dX5_parseRest_142 : decode cX5_parseRest 142 = .ok (.iconst 1, 1) := by decide +kernel
theorem dX5_parseRest_143 : decode cX5_parseRest 143 = .ok (.bipush 40, 2) := by decide +kernel
theorem dX5_parseRest_145 : decode cX5_parseRest 145 = .ok (.invokevirtual 106, 3) := by decide +kernel
theorem dX5_parseRest_148 : decode cX5_parseRest 148 = .ok (.ireturn, 1) := by decide +kernel
theorem dX5_parseRest_149 : decode cX5_parseRest 149 = .ok (.aload_n 0, 1) := by decide +kernel
theorem dX5_parseRest_150 : decode cX5_parseRest 150 = .ok (.aload_n 1, 1) := by decide +kernel
theorem dX5_parseRest_151 : decode cX5_parseRest 151 = .ok (.iload 4, 2) := by decide +kernel
theorem dX5_parseRest_153 : decode cX5_parseRest 153 = .ok (.iconst 0, 1) := by decide +kernel
theorem dX5_parseRest_154 : decode cX5_parseRest 154 = .ok (.iconst 3, 1) := by decide +kernel
theorem dX5_parseRest_155 : decode cX5_parseRest 155 = .ok (.invokevirtual 106, 3) := by decide +kernel
theorem dX5_parseRest_158 : decode cX5_parseRest 158 = .ok (.ireturn, 1) := by decide +kernel
theorem dX5_parseRest_159 : decode cX5_parseRest 159 = .ok (.aload_n 0, 1) := by decide +kernel
theorem dX5_parseRest_160 : decode cX5_parseRest 160 = .ok (.aload_n 1, 1) := by decide +kernel
theorem dX5_parseRest_161 : decode cX5_parseRest 161 = .ok (.iload 4, 2) := by decide +kernel
theorem dX5_parseRest_163 : decode cX5_parseRest 163 = .ok (.iconst 1, 1) := by decide +kernel
theorem dX5_parseRest_164 : decode cX5_parseRest 164 = .ok (.bipush 99, 2) := by decide +kernel
theorem dX5_parseRest_166 : decode cX5_parseRest 166 = .ok (.invokevirtual 106, 3) := by decide +kernel
theorem dX5_parseRest_169 : decode cX5_parseRest 169 = .ok (.ireturn, 1) := by decide +kernel
theorem dX5_parseRest_170 : decode cX5_parseRest 170 = .ok (.aload_n 0, 1) := by decide +kernel
theorem dX5_parseRest_171 : decode cX5_parseRest 171 = .ok (.aload_n 1, 1) := by decide +kernel
theorem dX5_parseRest_172 : decode cX5_parseRest 172 = .ok (.aload_n 2, 1) := by decide +kernel
theorem dX5_parseRest_173 : decode cX5_parseRest 173 = .ok (.iload 4, 2) := by decide +kernel
theorem dX5_parseRest_175 : decode cX5_parseRest 175 = .ok (.invokevirtual 110, 3) := by decide +kernel
theorem dX5_parseRest_178 : decode cX5_parseRest 178 = .ok (.ireturn, 1) := by decide +kernel
theorem dX5_parseRest_179 : decode cX5_parseRest 179 = .ok (.iconst 1, 1) := by decide +kernel
theorem dX5_parseRest_180 : decode cX5_parseRest 180 = .ok (.ireturn, 1) := by decide +kernel
theorem dX5_parse_0 : decode cX5_parse 0 = .ok (.aload_n 0, 1) := by decide +kernel
theorem dX5_parse_1 : decode cX5_parse 1 = .ok (.invokevirtual 50, 3) := by decide +kernel
theorem dX5_parse_4 : decode cX5_parse 4 = .ok (.iconst 0, 1) := by decide +kernel
theorem dX5_parse_5 : decode cX5_parse 5 = .ok (.istore_n 3, 1) := by decide +kernel
theorem dX5_parse_6 : decode cX5_parse 6 = .ok (.iload_n 3, 1) := by decide +kernel
theorem dX5_parse_7 : decode cX5_parse 7 = .ok (.sipush 300, 3) := by decide +kernel
theorem dX5_parse_10 : decode cX5_parse 10 = .ok (.if_icmp .ge 87, 3) := by decide +kernel
theorem dX5_parse_13 : decode cX5_parse 13 = .ok (.aload_n 1, 1) := by decide +kernel
theorem dX5_parse_14 : decode cX5_parse 14 = .ok (.getfield 53, 3) := by decide +kernel
theorem dX5_parse_17 : decode cX5_parse 17 = .ok (.ifCond .eq 80, 3) := by decide +kernel
theorem dX5_parse_20 : decode cX5_parse 20 = .ok (.aload_n 1, 1) := by decide +kernel
theorem dX5_parse_21 : decode cX5_parse 21 = .ok (.getfield 58, 3) := by decide +kernel
theorem dX5_parse_24 : decode cX5_parse 24 = .ok (.istore 4, 2) := by decide +kernel
theorem dX5_parse_26 : decode cX5_parse 26 = .ok (.aload_n 0, 1) := by decide +kernel
theorem dX5_parse_27 : decode cX5_parse 27 = .ok (.getfield 38, 3) := by decide +kernel
theorem dX5_parse_30 : decode cX5_parse 30 = .ok (.istore 5, 2) := by decide +kernel
theorem dX5_parse_32 : decode cX5_parse 32 = .ok (.iload 4, 2) := by decide +kernel
theorem dX5_parse_34 : decode cX5_parse 34 = .ok (.bipush 28, 2) := by decide +kernel
theorem dX5_parse_36 : decode cX5_parse 36 = .ok (.if_icmp .ne 11, 3) := by decide +kernel
theorem dX5_parse_39 : decode cX5_parse 39 = .ok (.aload_n 0, 1) := by decide +kernel
theorem dX5_parse_40 : decode cX5_parse 40 = .ok (.aload_n 1, 1) := by decide +kernel
theorem dX5_parse_41 : decode cX5_parse 41 = .ok (.invokevirtual 61, 3) := by decide +kernel
theorem dX5_parse_44 : decode cX5_parse 44 = .ok (.goto 31, 3) := by decide +kernel
theorem dX5_parse_47 : decode cX5_parse 47 = .ok (.aload_n 0, 1) := by decide +kernel
theorem dX5_parse_48 : decode cX5_parse 48 = .ok (.aload_n 1, 1) := by decide +kernel
theorem dX5_parse_49 : decode cX5_parse 49 = .ok (.iload 4, 2) := by decide +kernel
theorem dX5_parse_51 : decode cX5_parse 51 = .ok (.invokevirtual 65, 3) := by decide +kernel
theorem dX5_parse_54 : decode cX5_parse 54 = .ok (.ifCond .eq 20, 3) := by decide +kernel
theorem dX5_parse_57 : decode cX5_parse 57 = .ok (.aload_n 0, 1) := by decide +kernel
theorem dX5_parse_58 : decode cX5_parse 58 = .ok (.aload_n 1, 1) := by decide +kernel
theorem dX5_parse_59 : decode cX5_parse 59 = .ok (.aload_n 2, 1) := by decide +kernel
theorem dX5_parse_60 : decode cX5_parse 60 = .ok (.iload 4, 2) := by decide +kernel
theorem dX5_parse_62 : decode cX5_parse 62 = .ok (.iload 5, 2) := by decide +kernel
theorem dX5_parse_64 : decode cX5_parse 64 = .ok (.invokevirtual 69, 3) := by decide +kernel
theorem dX5_parse_67 : decode cX5_parse 67 = .ok (.ifCond .eq 7, 3) := by decide +kernel
theorem dX5_parse_70 : decode cX5_parse 70 = .ok (.iconst 1, 1) := by decide +kernel
theorem dX5_parse_71 : decode cX5_parse 71 = .ok (.goto 4, 3) := by decide +kernel
theorem dX5_parse_74 : decode cX5_parse 74 = .ok (.iconst 0, 1) := by decide +kernel
theorem dX5_parse_75 : decode cX5_parse 75 = .ok (.istore 6, 2) := by decide +kernel
theorem dX5_parse_77 : decode cX5_parse 77 = .ok (.iload 6, 2) := by decide +kernel
theorem dX5_parse_79 : decode cX5_parse 79 = .ok (.ifCond .eq 10, 3) := by decide +kernel
theorem dX5_parse_82 : decode cX5_parse 82 = .ok (.aload_n 1, 1) := by decide +kernel
theorem dX5_parse_83 : decode cX5_parse 83 = .ok (.invokevirtual 73, 3) := by decide +kernel
theorem dX5_parse_86 : decode cX5_parse 86 = .ok (.ifCond .ne 5, 3) := by decide +kernel
theorem dX5_parse_89 : decode cX5_parse 89 = .ok (.iconst 0, 1) := by decide +kernel
theorem dX5_parse_90 : decode cX5_parse 90 = .ok (.ireturn, 1) := by decide +kernel
theorem dX5_parse_91 : decode cX5_parse 91 = .ok (.iinc 3 1, 3) := by decide +kernel
theorem dX5_parse_94 : decode cX5_parse 94 = .ok (.goto (-88), 3) := by decide +kernel
theorem dX5_parse_97 : decode cX5_parse 97 = .ok (.aload_n 0, 1) := by decide +kernel
theorem dX5_parse_98 : decode cX5_parse 98 = .ok (.getfield 41, 3) := by decide +kernel
theorem dX5_parse_101 : decode cX5_parse 101 = .ok (.ifCond .eq 11, 3) := by decide +kernel
theorem dX5_parse_104 : decode cX5_parse 104 = .ok (.aload_n 1, 1) := by decide +kernel
theorem dX5_parse_105 : decode cX5_parse 105 = .ok (.iconst 2, 1) := by decide +kernel
theorem dX5_parse_106 : decode cX5_parse 106 = .ok (.invokevirtual 77, 3) := by decide +kernel
theorem dX5_parse_109 : decode cX5_parse 109 = .ok (.ifCond .eq 7, 3) := by decide +kernel
theorem dX5_parse_112 : decode cX5_parse 112 = .ok (.iconst 1, 1) := by decide +kernel
theorem dX5_parse_113 : decode cX5_parse 113 = .ok (.goto 4, 3) := by decide +kernel
theorem dX5_parse_116 : decode cX5_parse 116 = .ok (.iconst 0, 1) := by decide +kernel
theorem dX5_parse_117 : decode cX5_parse 117 = .ok (.ireturn, 1) := by decide +kernel
theorem dX9_fitOf_0 : decode cX9_fitOf 0 = .ok (.aload_n 0, 1) := by decide +kernel
theorem dX9_fitOf_1 : decode cX9_fitOf 1 = .ok (.getfield 56, 3) := by decide +kernel
theorem dX9_fitOf_4 : decode cX9_fitOf 4 = .ok (.aload_n 0, 1) := by decide +kernel
theorem dX9_fitOf_5 : decode cX9_fitOf 5 = .ok (.getfield 22, 3) := by decide +kernel
theorem dX9_fitOf_8 : decode cX9_fitOf 8 = .ok (.iload_n 1, 1) := by decide +kernel
theorem dX9_fitOf_9 : decode cX9_fitOf 9 = .ok (.iaload, 1) := by decide +kernel
theorem dX9_fitOf_10 : decode cX9_fitOf 10 = .ok (.isub, 1) := by decide +kernel
theorem dX9_fitOf_11 : decode cX9_fitOf 11 = .ok (.ireturn, 1) := by decide +kernel
theorem dX9_rattles_0 : decode cX9_rattles 0 = .ok (.aload_n 0, 1) := by decide +kernel
theorem dX9_rattles_1 : decode cX9_rattles 1 = .ok (.iload_n 1, 1) := by decide +kernel
theorem dX9_rattles_2 : decode cX9_rattles 2 = .ok (.invokevirtual 158, 3) := by decide +kernel
theorem dX9_rattles_5 : decode cX9_rattles 5 = .ok (.iconst 3, 1) := by decide +kernel
theorem dX9_rattles_6 : decode cX9_rattles 6 = .ok (.if_icmp .lt 7, 3) := by decide +kernel
theorem dX9_rattles_9 : decode cX9_rattles 9 = .ok (.iconst 1, 1) := by decide +kernel
theorem dX9_rattles_10 : decode cX9_rattles 10 = .ok (.goto 4, 3) := by decide +kernel
theorem dX9_rattles_13 : decode cX9_rattles 13 = .ok (.iconst 0, 1) := by decide +kernel
theorem dX9_rattles_14 : decode cX9_rattles 14 = .ok (.ireturn, 1) := by decide +kernel
theorem dX7_gather_0 : decode cX7_gather 0 = .ok (.aload_n 0, 1) := by decide +kernel
theorem dX7_gather_1 : decode cX7_gather 1 = .ok (.iconst 0, 1) := by decide +kernel
theorem dX7_gather_2 : decode cX7_gather 2 = .ok (.putfield 69, 3) := by decide +kernel
theorem dX7_gather_5 : decode cX7_gather 5 = .ok (.aload_n 0, 1) := by decide +kernel
theorem dX7_gather_6 : decode cX7_gather 6 = .ok (.lconst 0, 1) := by decide +kernel
theorem dX7_gather_7 : decode cX7_gather 7 = .ok (.putfield 72, 3) := by decide +kernel
theorem dX7_gather_10 : decode cX7_gather 10 = .ok (.aload_n 0, 1) := by decide +kernel
theorem dX7_gather_11 : decode cX7_gather 11 = .ok (.lconst 0, 1) := by decide +kernel
theorem dX7_gather_12 : decode cX7_gather 12 = .ok (.putfield 76, 3) := by decide +kernel
theorem dX7_gather_15 : decode cX7_gather 15 = .ok (.aload_n 0, 1) := by decide +kernel
theorem dX7_gather_16 : decode cX7_gather 16 = .ok (.lconst 0, 1) := by decide +kernel
theorem dX7_gather_17 : decode cX7_gather 17 = .ok (.putfield 79, 3) := by decide +kernel
theorem dX7_gather_20 : decode cX7_gather 20 = .ok (.iconst 0, 1) := by decide +kernel
theorem dX7_gather_21 : decode cX7_gather 21 = .ok (.istore_n 3, 1) := by decide +kernel
theorem dX7_gather_22 : decode cX7_gather 22 = .ok (.iload_n 3, 1) := by decide +kernel
theorem dX7_gather_23 : decode cX7_gather 23 = .ok (.aload_n 0, 1) := by decide +kernel
theorem dX7_gather_24 : decode cX7_gather 24 = .ok (.getfield 31, 3) := by decide +kernel
theorem dX7_gather_27 : decode cX7_gather 27 = .ok (.if_icmp .ge 142, 3) := by decide +kernel
theorem dX7_gather_30 : decode cX7_gather 30 = .ok (.iload_n 1, 1) := by decide +kernel
theorem dX7_gather_31 : decode cX7_gather 31 = .ok (.iconst (-1), 1) := by decide +kernel
theorem dX7_gather_32 : decode cX7_gather 32 = .ok (.if_icmp .eq 13, 3) := by decide +kernel
theorem dX7_gather_35 : decode cX7_gather 35 = .ok (.aload_n 0, 1) := by decide +kernel
theorem dX7_gather_36 : decode cX7_gather 36 = .ok (.getfield 18, 3) := by decide +kernel
theorem dX7_gather_39 : decode cX7_gather 39 = .ok (.iload_n 3, 1) := by decide +kernel
theorem dX7_gather_40 : decode cX7_gather 40 = .ok (.iaload, 1) := by decide +kernel
theorem dX7_gather_41 : decode cX7_gather 41 = .ok (.iload_n 1, 1) := by decide +kernel
theorem dX7_gather_42 : decode cX7_gather 42 = .ok (.if_icmp .ne 7, 3) := by decide +kernel
theorem dX7_gather_45 : decode cX7_gather 45 = .ok (.iconst 1, 1) := by decide +kernel
theorem dX7_gather_46 : decode cX7_gather 46 = .ok (.goto 4, 3) := by decide +kernel
theorem dX7_gather_49 : decode cX7_gather 49 = .ok (.iconst 0, 1) := by decide +kernel
theorem dX7_gather_50 : decode cX7_gather 50 = .ok (.istore 4, 2) := by decide +kernel
theorem dX7_gather_52 : decode cX7_gather 52 = .ok (.iload_n 2, 1) := by decide +kernel
theorem dX7_gather_53 : decode cX7_gather 53 = .ok (.iconst (-1), 1) := by decide +kernel
theorem dX7_gather_54 : decode cX7_gather 54 = .ok (.if_icmp .eq 13, 3) := by decide +kernel
theorem dX7_gather_57 : decode cX7_gather 57 = .ok (.aload_n 0, 1) := by decide +kernel
theorem dX7_gather_58 : decode cX7_gather 58 = .ok (.getfield 21, 3) := by decide +kernel
theorem dX7_gather_61 : decode cX7_gather 61 = .ok (.iload_n 3, 1) := by decide +kernel
theorem dX7_gather_62 : decode cX7_gather 62 = .ok (.iaload, 1) := by decide +kernel
theorem dX7_gather_63 : decode cX7_gather 63 = .ok (.iload_n 2, 1) := by decide +kernel
theorem dX7_gather_64 : decode cX7_gather 64 = .ok (.if_icmp .ne 7, 3) := by decide +kernel
theorem dX7_gather_67 : decode cX7_gather 67 = .ok (.iconst 1, 1) := by decide +kernel
theorem dX7_gather_68 : decode cX7_gather 68 = .ok (.goto 4, 3) := by decide +kernel
theorem dX7_gather_71 : decode cX7_gather 71 = .ok (.iconst 0, 1) := by decide +kernel
theorem dX7_gather_72 : decode cX7_gather 72 = .ok (.istore 5, 2) := by decide +kernel
theorem dX7_gather_74 : decode cX7_gather 74 = .ok (.iload 4, 2) := by decide +kernel
theorem dX7_gather_76 : decode cX7_gather 76 = .ok (.ifCond .eq 87, 3) := by decide +kernel
theorem dX7_gather_79 : decode cX7_gather 79 = .ok (.iload 5, 2) := by decide +kernel
theorem dX7_gather_81 : decode cX7_gather 81 = .ok (.ifCond .eq 82, 3) := by decide +kernel
theorem dX7_gather_84 : decode cX7_gather 84 = .ok (.aload_n 0, 1) := by decide +kernel
theorem dX7_gather_85 : decode cX7_gather 85 = .ok (.dup, 1) := by decide +kernel
theorem dX7_gather_86 : decode cX7_gather 86 = .ok (.getfield 69, 3) := by decide +kernel
theorem dX7_gather_89 : decode cX7_gather 89 = .ok (.iconst 1, 1) := by decide +kernel
theorem dX7_gather_90 : decode cX7_gather 90 = .ok (.iadd, 1) := by decide +kernel
theorem dX7_gather_91 : decode cX7_gather 91 = .ok (.putfield 69, 3) := by decide +kernel
theorem dX7_gather_94 : decode cX7_gather 94 = .ok (.aload_n 0, 1) := by decide +kernel
theorem dX7_gather_95 : decode cX7_gather 95 = .ok (.dup, 1) := by decide +kernel
theorem dX7_gather_96 : decode cX7_gather 96 = .ok (.getfield 72, 3) := by decide +kernel
theorem dX7_gather_99 : decode cX7_gather 99 = .ok (.aload_n 0, 1) := by decide +kernel
theorem dX7_gather_100 : decode cX7_gather 100 = .ok (.getfield 9, 3) := by decide +kernel
theorem dX7_gather_103 : decode cX7_gather 103 = .ok (.iload_n 3, 1) := by decide +kernel
theorem dX7_gather_104 : decode cX7_gather 104 = .ok (.iaload, 1) := by decide +kernel
theorem dX7_gather_105 : decode cX7_gather 105 = .ok (.i2l, 1) := by decide +kernel
theorem dX7_gather_106 : decode cX7_gather 106 = .ok (.ladd, 1) := by decide +kernel
theorem dX7_gather_107 : decode cX7_gather 107 = .ok (.putfield 72, 3) := by decide +kernel
theorem dX7_gather_110 : decode cX7_gather 110 = .ok (.aload_n 0, 1) := by decide +kernel
theorem dX7_gather_111 : decode cX7_gather 111 = .ok (.dup, 1) := by decide +kernel
theorem dX7_gather_112 : decode cX7_gather 112 = .ok (.getfield 76, 3) := by decide +kernel
theorem dX7_gather_115 : decode cX7_gather 115 = .ok (.aload_n 0, 1) := by decide +kernel
theorem dX7_gather_116 : decode cX7_gather 116 = .ok (.getfield 15, 3) := by decide +kernel
theorem dX7_gather_119 : decode cX7_gather 119 = .ok (.iload_n 3, 1) := by decide +kernel
theorem dX7_gather_120 : decode cX7_gather 120 = .ok (.iaload, 1) := by decide +kernel
theorem dX7_gather_121 : decode cX7_gather 121 = .ok (.i2l, 1) := by decide +kernel
theorem dX7_gather_122 : decode cX7_gather 122 = .ok (.ladd, 1) := by decide +kernel
theorem dX7_gather_123 : decode cX7_gather 123 = .ok (.putfield 76, 3) := by decide +kernel
theorem dX7_gather_126 : decode cX7_gather 126 = .ok (.aload_n 0, 1) := by decide +kernel
theorem dX7_gather_127 : decode cX7_gather 127 = .ok (.dup, 1) := by decide +kernel
theorem dX7_gather_128 : decode cX7_gather 128 = .ok (.getfield 79, 3) := by decide +kernel
theorem dX7_gather_131 : decode cX7_gather 131 = .ok (.aload_n 0, 1) := by decide +kernel
theorem dX7_gather_132 : decode cX7_gather 132 = .ok (.getfield 9, 3) := by decide +kernel
theorem dX7_gather_135 : decode cX7_gather 135 = .ok (.iload_n 3, 1) := by decide +kernel
theorem dX7_gather_136 : decode cX7_gather 136 = .ok (.iaload, 1) := by decide +kernel
theorem dX7_gather_137 : decode cX7_gather 137 = .ok (.aload_n 0, 1) := by decide +kernel
theorem dX7_gather_138 : decode cX7_gather 138 = .ok (.getfield 9, 3) := by decide +kernel
theorem dX7_gather_141 : decode cX7_gather 141 = .ok (.iload_n 3, 1) := by decide +kernel
theorem dX7_gather_142 : decode cX7_gather 142 = .ok (.iaload, 1) := by decide +kernel
theorem dX7_gather_143 : decode cX7_gather 143 = .ok (.imul, 1) := by decide +kernel
theorem dX7_gather_144 : decode cX7_gather 144 = .ok (.aload_n 0, 1) := by decide +kernel
theorem dX7_gather_145 : decode cX7_gather 145 = .ok (.getfield 15, 3) := by decide +kernel
theorem dX7_gather_148 : decode cX7_gather 148 = .ok (.iload_n 3, 1) := by decide +kernel
theorem dX7_gather_149 : decode cX7_gather 149 = .ok (.iaload, 1) := by decide +kernel
theorem dX7_gather_150 : decode cX7_gather 150 = .ok (.aload_n 0, 1) := by decide +kernel
theorem dX7_gather_151 : decode cX7_gather 151 = .ok (.getfield 15, 3) := by decide +kernel
theorem dX7_gather_154 : decode cX7_gather 154 = .ok (.iload_n 3, 1) := by decide +kernel
theorem dX7_gather_155 : decode cX7_gather 155 = .ok (.iaload, 1) := by decide +kernel
theorem dX7_gather_156 : decode cX7_gather 156 = .ok (.imul, 1) := by decide +kernel
theorem dX7_gather_157 : decode cX7_gather 157 = .ok (.iadd, 1) := by decide +kernel
theorem dX7_gather_158 : decode cX7_gather 158 = .ok (.i2l, 1) := by decide +kernel
theorem dX7_gather_159 : decode cX7_gather 159 = .ok (.ladd, 1) := by decide +kernel
theorem dX7_gather_160 : decode cX7_gather 160 = .ok (.putfield 79, 3) := by decide +kernel
theorem dX7_gather_163 : decode cX7_gather 163 = .ok (.iinc 3 1, 3) := by decide +kernel
theorem dX7_gather_166 : decode cX7_gather 166 = .ok (.goto (-144), 3) := by decide +kernel
theorem dX7_gather_169 : decode cX7_gather 169 = .ok (.return_, 1) := by decide +kernel
theorem dX6_paceOf_0 : decode cX6_paceOf 0 = .ok (.iload_n 1, 1) := by decide +kernel
theorem dX6_paceOf_1 : decode cX6_paceOf 1 = .ok (.ifCond .gt 5, 3) := by decide +kernel
theorem dX6_paceOf_4 : decode cX6_paceOf 4 = .ok (.iconst 0, 1) := by decide +kernel
theorem dX6_paceOf_5 : decode cX6_paceOf 5 = .ok (.ireturn, 1) := by decide +kernel
theorem dX6_paceOf_6 : decode cX6_paceOf 6 = .ok (.aload_n 0, 1) := by decide +kernel
theorem dX6_paceOf_7 : decode cX6_paceOf 7 = .ok (.getfield 45, 3) := by decide +kernel
theorem dX6_paceOf_10 : decode cX6_paceOf 10 = .ok (.aload_n 0, 1) := by decide +kernel
theorem dX6_paceOf_11 : decode cX6_paceOf 11 = .ok (.getfield 48, 3) := by decide +kernel
theorem dX6_paceOf_14 : decode cX6_paceOf 14 = .ok (.imul, 1) := by decide +kernel
theorem dX6_paceOf_15 : decode cX6_paceOf 15 = .ok (.iload_n 1, 1) := by decide +kernel
theorem dX6_paceOf_16 : decode cX6_paceOf 16 = .ok (.idiv, 1) := by decide +kernel
theorem dX6_paceOf_17 : decode cX6_paceOf 17 = .ok (.istore_n 3, 1) := by decide +kernel
theorem dX6_paceOf_18 : decode cX6_paceOf 18 = .ok (.iload_n 2, 1) := by decide +kernel
theorem dX6_paceOf_19 : decode cX6_paceOf 19 = .ok (.ifCond .eq 9, 3) := by decide +kernel
theorem dX6_paceOf_22 : decode cX6_paceOf 22 = .ok (.iload_n 3, 1) := by decide +kernel
theorem dX6_paceOf_23 : decode cX6_paceOf 23 = .ok (.iconst 2, 1) := by decide +kernel
theorem dX6_paceOf_24 : decode cX6_paceOf 24 = .ok (.idiv, 1) := by decide +kernel
theorem dX6_paceOf_25 : decode cX6_paceOf 25 = .ok (.goto 4, 3) := by decide +kernel
theorem dX6_paceOf_28 : decode cX6_paceOf 28 = .ok (.iload_n 3, 1) := by decide +kernel
theorem dX6_paceOf_29 : decode cX6_paceOf 29 = .ok (.ireturn, 1) := by decide +kernel
theorem dX6_fly_0 : decode cX6_fly 0 = .ok (.aload_n 0, 1) := by decide +kernel
theorem dX6_fly_1 : decode cX6_fly 1 = .ok (.getfield 38, 3) := by decide +kernel
theorem dX6_fly_4 : decode cX6_fly 4 = .ok (.ifCond .gt 4, 3) := by decide +kernel
theorem dX6_fly_7 : decode cX6_fly 7 = .ok (.return_, 1) := by decide +kernel
theorem dX6_fly_8 : decode cX6_fly 8 = .ok (.aload_n 0, 1) := by decide +kernel
theorem dX6_fly_9 : decode cX6_fly 9 = .ok (.aload_n 1, 1) := by decide +kernel
theorem dX6_fly_10 : decode cX6_fly 10 = .ok (.getfield 51, 3) := by decide +kernel
theorem dX6_fly_13 : decode cX6_fly 13 = .ok (.sipush 240, 3) := by decide +kernel
theorem dX6_fly_16 : decode cX6_fly 16 = .ok (.imul, 1) := by decide +kernel
theorem dX6_fly_17 : decode cX6_fly 17 = .ok (.aload_n 0, 1) := by decide +kernel
theorem dX6_fly_18 : decode cX6_fly 18 = .ok (.getfield 38, 3) := by decide +kernel
theorem dX6_fly_21 : decode cX6_fly 21 = .ok (.iadd, 1) := by decide +kernel
theorem dX6_fly_22 : decode cX6_fly 22 = .ok (.iconst 1, 1) := by decide +kernel
theorem dX6_fly_23 : decode cX6_fly 23 = .ok (.isub, 1) := by decide +kernel
theorem dX6_fly_24 : decode cX6_fly 24 = .ok (.aload_n 0, 1) := by decide +kernel
theorem dX6_fly_25 : decode cX6_fly 25 = .ok (.getfield 38, 3) := by decide +kernel
theorem dX6_fly_28 : decode cX6_fly 28 = .ok (.idiv, 1) := by decide +kernel
theorem dX6_fly_29 : decode cX6_fly 29 = .ok (.putfield 54, 3) := by decide +kernel
theorem dX6_fly_32 : decode cX6_fly 32 = .ok (.aload_n 0, 1) := by decide +kernel
theorem dX6_fly_33 : decode cX6_fly 33 = .ok (.aload_n 0, 1) := by decide +kernel
theorem dX6_fly_34 : decode cX6_fly 34 = .ok (.getfield 54, 3) := by decide +kernel
theorem dX6_fly_37 : decode cX6_fly 37 = .ok (.aload_n 0, 1) := by decide +kernel
theorem dX6_fly_38 : decode cX6_fly 38 = .ok (.getfield 54, 3) := by decide +kernel
theorem dX6_fly_41 : decode cX6_fly 41 = .ok (.imul, 1) := by decide +kernel
theorem dX6_fly_42 : decode cX6_fly 42 = .ok (.bipush 64, 2) := by decide +kernel
theorem dX6_fly_44 : decode cX6_fly 44 = .ok (.idiv, 1) := by decide +kernel
theorem dX6_fly_45 : decode cX6_fly 45 = .ok (.putfield 57, 3) := by decide +kernel
theorem dX6_fly_48 : decode cX6_fly 48 = .ok (.aload_n 1, 1) := by decide +kernel
theorem dX6_fly_49 : decode cX6_fly 49 = .ok (.getfield 60, 3) := by decide +kernel
theorem dX6_fly_52 : decode cX6_fly 52 = .ok (.invokestatic 63, 3) := by decide +kernel
theorem dX6_fly_55 : decode cX6_fly 55 = .ok (.aload_n 0, 1) := by decide +kernel
theorem dX6_fly_56 : decode cX6_fly 56 = .ok (.getfield 54, 3) := by decide +kernel
theorem dX6_fly_59 : decode cX6_fly 59 = .ok (.imul, 1) := by decide +kernel
theorem dX6_fly_60 : decode cX6_fly 60 = .ok (.bipush 8, 2) := by decide +kernel
theorem dX6_fly_62 : decode cX6_fly 62 = .ok (.idiv, 1) := by decide +kernel
theorem dX6_fly_63 : decode cX6_fly 63 = .ok (.istore_n 2, 1) := by decide +kernel
theorem dX6_fly_64 : decode cX6_fly 64 = .ok (.aload_n 0, 1) := by decide +kernel
theorem dX6_fly_65 : decode cX6_fly 65 = .ok (.aload_n 1, 1) := by decide +kernel
theorem dX6_fly_66 : decode cX6_fly 66 = .ok (.getfield 60, 3) := by decide +kernel
theorem dX6_fly_69 : decode cX6_fly 69 = .ok (.ifCond .ge 8, 3) := by decide +kernel
theorem dX6_fly_72 : decode cX6_fly 72 = .ok (.iload_n 2, 1) := by decide +kernel
theorem dX6_fly_73 : decode cX6_fly 73 = .ok (.ineg, 1) := by decide +kernel
theorem dX6_fly_74 : decode cX6_fly 74 = .ok (.goto 4, 3) := by decide +kernel
theorem dX6_fly_77 : decode cX6_fly 77 = .ok (.iload_n 2, 1) := by decide +kernel
theorem dX6_fly_78 : decode cX6_fly 78 = .ok (.putfield 68, 3) := by decide +kernel
theorem dX6_fly_81 : decode cX6_fly 81 = .ok (.aload_n 1, 1) := by decide +kernel
theorem dX6_fly_82 : decode cX6_fly 82 = .ok (.getfield 71, 3) := by decide +kernel
theorem dX6_fly_85 : decode cX6_fly 85 = .ok (.aload_n 0, 1) := by decide +kernel
theorem dX6_fly_86 : decode cX6_fly 86 = .ok (.getfield 9, 3) := by decide +kernel
theorem dX6_fly_89 : decode cX6_fly 89 = .ok (.iaload, 1) := by decide +kernel
theorem dX6_fly_90 : decode cX6_fly 90 = .ok (.aload_n 0, 1) := by decide +kernel
theorem dX6_fly_91 : decode cX6_fly 91 = .ok (.getfield 54, 3) := by decide +kernel
theorem dX6_fly_94 : decode cX6_fly 94 = .ok (.imul, 1) := by decide +kernel
theorem dX6_fly_95 : decode cX6_fly 95 = .ok (.bipush 16, 2) := by decide +kernel
theorem dX6_fly_97 : decode cX6_fly 97 = .ok (.idiv, 1) := by decide +kernel
theorem dX6_fly_98 : decode cX6_fly 98 = .ok (.istore_n 3, 1) := by decide +kernel
theorem dX6_fly_99 : decode cX6_fly 99 = .ok (.aload_n 0, 1) := by decide +kernel
theorem dX6_fly_100 : decode cX6_fly 100 = .ok (.aload_n 1, 1) := by decide +kernel
theorem dX6_fly_101 : decode cX6_fly 101 = .ok (.aload_n 0, 1) := by decide +kernel
theorem dX6_fly_102 : decode cX6_fly 102 = .ok (.getfield 9, 3) := by decide +kernel
theorem dX6_fly_105 : decode cX6_fly 105 = .ok (.invokevirtual 74, 3) := by decide +kernel
theorem dX6_fly_108 : decode cX6_fly 108 = .ok (.ifCond .eq 9, 3) := by decide +kernel
theorem dX6_fly_111 : decode cX6_fly 111 = .ok (.iconst 2, 1) := by decide +kernel
theorem dX6_fly_112 : decode cX6_fly 112 = .ok (.iload_n 3, 1) := by decide +kernel
theorem dX6_fly_113 : decode cX6_fly 113 = .ok (.imul, 1) := by decide +kernel
theorem dX6_fly_114 : decode cX6_fly 114 = .ok (.goto 4, 3) := by decide +kernel
theorem dX6_fly_117 : decode cX6_fly 117 = .ok (.iload_n 3, 1) := by decide +kernel
theorem dX6_fly_118 : decode cX6_fly 118 = .ok (.putfield 78, 3) := by decide +kernel
theorem dX6_fly_121 : decode cX6_fly 121 = .ok (.return_, 1) := by decide +kernel
theorem dX6_reckon_0 : decode cX6_reckon 0 = .ok (.aload_n 1, 1) := by decide +kernel
theorem dX6_reckon_1 : decode cX6_reckon 1 = .ok (.aload_n 0, 1) := by decide +kernel
theorem dX6_reckon_2 : decode cX6_reckon 2 = .ok (.getfield 9, 3) := by decide +kernel
theorem dX6_reckon_5 : decode cX6_reckon 5 = .ok (.invokevirtual 15, 3) := by decide +kernel
theorem dX6_reckon_8 : decode cX6_reckon 8 = .ok (.istore_n 2, 1) := by decide +kernel
theorem dX6_reckon_9 : decode cX6_reckon 9 = .ok (.iload_n 2, 1) := by decide +kernel
theorem dX6_reckon_10 : decode cX6_reckon 10 = .ok (.ifCond .ge 9, 3) := by decide +kernel
theorem dX6_reckon_13 : decode cX6_reckon 13 = .ok (.aload_n 0, 1) := by decide +kernel
theorem dX6_reckon_14 : decode cX6_reckon 14 = .ok (.iconst 1, 1) := by decide +kernel
theorem dX6_reckon_15 : decode cX6_reckon 15 = .ok (.putfield 21, 3) := by decide +kernel
theorem dX6_reckon_18 : decode cX6_reckon 18 = .ok (.return_, 1) := by decide +kernel
theorem dX6_reckon_19 : decode cX6_reckon 19 = .ok (.aload_n 1, 1) := by decide +kernel
theorem dX6_reckon_20 : decode cX6_reckon 20 = .ok (.getfield 24, 3) := by decide +kernel
theorem dX6_reckon_23 : decode cX6_reckon 23 = .ok (.aload_n 0, 1) := by decide +kernel
theorem dX6_reckon_24 : decode cX6_reckon 24 = .ok (.getfield 9, 3) := by decide +kernel
theorem dX6_reckon_27 : decode cX6_reckon 27 = .ok (.iaload, 1) := by decide +kernel
theorem dX6_reckon_28 : decode cX6_reckon 28 = .ok (.iconst 1, 1) := by decide +kernel
theorem dX6_reckon_29 : decode cX6_reckon 29 = .ok (.if_icmp .ne 7, 3) := by decide +kernel
theorem dX6_reckon_32 : decode cX6_reckon 32 = .ok (.iconst 1, 1) := by decide +kernel
theorem dX6_reckon_33 : decode cX6_reckon 33 = .ok (.goto 4, 3) := by decide +kernel
theorem dX6_reckon_36 : decode cX6_reckon 36 = .ok (.iconst 0, 1) := by decide +kernel
theorem dX6_reckon_37 : decode cX6_reckon 37 = .ok (.istore_n 3, 1) := by decide +kernel
theorem dX6_reckon_38 : decode cX6_reckon 38 = .ok (.aload_n 0, 1) := by decide +kernel
theorem dX6_reckon_39 : decode cX6_reckon 39 = .ok (.aload_n 0, 1) := by decide +kernel
theorem dX6_reckon_40 : decode cX6_reckon 40 = .ok (.aload_n 1, 1) := by decide +kernel
theorem dX6_reckon_41 : decode cX6_reckon 41 = .ok (.getfield 28, 3) := by decide +kernel
theorem dX6_reckon_44 : decode cX6_reckon 44 = .ok (.aload_n 0, 1) := by decide +kernel
theorem dX6_reckon_45 : decode cX6_reckon 45 = .ok (.getfield 9, 3) := by decide +kernel
theorem dX6_reckon_48 : decode cX6_reckon 48 = .ok (.iaload, 1) := by decide +kernel
theorem dX6_reckon_49 : decode cX6_reckon 49 = .ok (.iload_n 2, 1) := by decide +kernel
theorem dX6_reckon_50 : decode cX6_reckon 50 = .ok (.iadd, 1) := by decide +kernel
theorem dX6_reckon_51 : decode cX6_reckon 51 = .ok (.aload_n 0, 1) := by decide +kernel
theorem dX6_reckon_52 : decode cX6_reckon 52 = .ok (.getfield 31, 3) := by decide +kernel
theorem dX6_reckon_55 : decode cX6_reckon 55 = .ok (.iadd, 1) := by decide +kernel
theorem dX6_reckon_56 : decode cX6_reckon 56 = .ok (.iload_n 3, 1) := by decide +kernel
theorem dX6_reckon_57 : decode cX6_reckon 57 = .ok (.invokevirtual 34, 3) := by decide +kernel
theorem dX6_reckon_60 : decode cX6_reckon 60 = .ok (.putfield 38, 3) := by decide +kernel
theorem dX6_reckon_63 : decode cX6_reckon 63 = .ok (.aload_n 0, 1) := by decide +kernel
theorem dX6_reckon_64 : decode cX6_reckon 64 = .ok (.getfield 31, 3) := by decide +kernel
theorem dX6_reckon_67 : decode cX6_reckon 67 = .ok (.bipush 8, 2) := by decide +kernel
theorem dX6_reckon_69 : decode cX6_reckon 69 = .ok (.if_icmp .ge 15, 3) := by decide +kernel
theorem dX6_reckon_72 : decode cX6_reckon 72 = .ok (.iload_n 3, 1) := by decide +kernel
theorem dX6_reckon_73 : decode cX6_reckon 73 = .ok (.ifCond .eq 19, 3) := by decide +kernel
theorem dX6_reckon_76 : decode cX6_reckon 76 = .ok (.aload_n 0, 1) := by decide +kernel
theorem dX6_reckon_77 : decode cX6_reckon 77 = .ok (.getfield 31, 3) := by decide +kernel
theorem dX6_reckon_80 : decode cX6_reckon 80 = .ok (.iconst 3, 1) := by decide +kernel
theorem dX6_reckon_81 : decode cX6_reckon 81 = .ok (.if_icmp .lt 11, 3) := by decide +kernel
theorem dX6_reckon_84 : decode cX6_reckon 84 = .ok (.aload_n 0, 1) := by decide +kernel
theorem dX6_reckon_85 : decode cX6_reckon 85 = .ok (.iconst 2, 1) := by decide +kernel
theorem dX6_reckon_86 : decode cX6_reckon 86 = .ok (.putfield 21, 3) := by decide +kernel
theorem dX6_reckon_89 : decode cX6_reckon 89 = .ok (.goto 30, 3) := by decide +kernel
theorem dX6_reckon_92 : decode cX6_reckon 92 = .ok (.aload_n 0, 1) := by decide +kernel
theorem dX6_reckon_93 : decode cX6_reckon 93 = .ok (.getfield 38, 3) := by decide +kernel
theorem dX6_reckon_96 : decode cX6_reckon 96 = .ok (.bipush 24, 2) := by decide +kernel
theorem dX6_reckon_98 : decode cX6_reckon 98 = .ok (.if_icmp .ge 11, 3) := by decide +kernel
theorem dX6_reckon_101 : decode cX6_reckon 101 = .ok (.aload_n 0, 1) := by decide +kernel
theorem dX6_reckon_102 : decode cX6_reckon 102 = .ok (.iconst 3, 1) := by decide +kernel
theorem dX6_reckon_103 : decode cX6_reckon 103 = .ok (.putfield 21, 3) := by decide +kernel
theorem dX6_reckon_106 : decode cX6_reckon 106 = .ok (.goto 13, 3) := by decide +kernel
theorem dX6_reckon_109 : decode cX6_reckon 109 = .ok (.aload_n 0, 1) := by decide +kernel
theorem dX6_reckon_110 : decode cX6_reckon 110 = .ok (.iconst 0, 1) := by decide +kernel
theorem dX6_reckon_111 : decode cX6_reckon 111 = .ok (.putfield 21, 3) := by decide +kernel
theorem dX6_reckon_114 : decode cX6_reckon 114 = .ok (.aload_n 0, 1) := by decide +kernel
theorem dX6_reckon_115 : decode cX6_reckon 115 = .ok (.aload_n 1, 1) := by decide +kernel
theorem dX6_reckon_116 : decode cX6_reckon 116 = .ok (.invokevirtual 41, 3) := by decide +kernel
theorem dX6_reckon_119 : decode cX6_reckon 119 = .ok (.return_, 1) := by decide +kernel
theorem dX6_strikeX_0 : decode cX6_strikeX 0 = .ok (.aload_n 0, 1) := by decide +kernel
theorem dX6_strikeX_1 : decode cX6_strikeX 1 = .ok (.getfield 81, 3) := by decide +kernel
theorem dX6_strikeX_4 : decode cX6_strikeX 4 = .ok (.aload_n 1, 1) := by decide +kernel
theorem dX6_strikeX_5 : decode cX6_strikeX 5 = .ok (.getfield 84, 3) := by decide +kernel
theorem dX6_strikeX_8 : decode cX6_strikeX 8 = .ok (.aload_n 0, 1) := by decide +kernel
theorem dX6_strikeX_9 : decode cX6_strikeX 9 = .ok (.getfield 87, 3) := by decide +kernel
theorem dX6_strikeX_12 : decode cX6_strikeX 12 = .ok (.iaload, 1) := by decide +kernel
theorem dX6_strikeX_13 : decode cX6_strikeX 13 = .ok (.iadd, 1) := by decide +kernel
theorem dX6_strikeX_14 : decode cX6_strikeX 14 = .ok (.aload_n 0, 1) := by decide +kernel
theorem dX6_strikeX_15 : decode cX6_strikeX 15 = .ok (.getfield 68, 3) := by decide +kernel
theorem dX6_strikeX_18 : decode cX6_strikeX 18 = .ok (.iadd, 1) := by decide +kernel
theorem dX6_strikeX_19 : decode cX6_strikeX 19 = .ok (.iload_n 2, 1) := by decide +kernel
theorem dX6_strikeX_20 : decode cX6_strikeX 20 = .ok (.aload_n 0, 1) := by decide +kernel
theorem dX6_strikeX_21 : decode cX6_strikeX 21 = .ok (.getfield 78, 3) := by decide +kernel
theorem dX6_strikeX_24 : decode cX6_strikeX 24 = .ok (.imul, 1) := by decide +kernel
theorem dX6_strikeX_25 : decode cX6_strikeX 25 = .ok (.iadd, 1) := by decide +kernel
theorem dX6_strikeX_26 : decode cX6_strikeX 26 = .ok (.ireturn, 1) := by decide +kernel
theorem dX6_strikeY_0 : decode cX6_strikeY 0 = .ok (.aload_n 0, 1) := by decide +kernel
theorem dX6_strikeY_1 : decode cX6_strikeY 1 = .ok (.getfield 90, 3) := by decide +kernel
theorem dX6_strikeY_4 : decode cX6_strikeY 4 = .ok (.aload_n 1, 1) := by decide +kernel
theorem dX6_strikeY_5 : decode cX6_strikeY 5 = .ok (.getfield 93, 3) := by decide +kernel
theorem dX6_strikeY_8 : decode cX6_strikeY 8 = .ok (.aload_n 0, 1) := by decide +kernel
theorem dX6_strikeY_9 : decode cX6_strikeY 9 = .ok (.getfield 87, 3) := by decide +kernel
theorem dX6_strikeY_12 : decode cX6_strikeY 12 = .ok (.iaload, 1) := by decide +kernel
theorem dX6_strikeY_13 : decode cX6_strikeY 13 = .ok (.iadd, 1) := by decide +kernel
theorem dX6_strikeY_14 : decode cX6_strikeY 14 = .ok (.aload_n 0, 1) := by decide +kernel
theorem dX6_strikeY_15 : decode cX6_strikeY 15 = .ok (.getfield 57, 3) := by decide +kernel
theorem dX6_strikeY_18 : decode cX6_strikeY 18 = .ok (.isub, 1) := by decide +kernel
theorem dX6_strikeY_19 : decode cX6_strikeY 19 = .ok (.ireturn, 1) := by decide +kernel
theorem dX9_lastRing_0 : decode cX9_lastRing 0 = .ok (.iload_n 1, 1) := by decide +kernel
theorem dX9_lastRing_1 : decode cX9_lastRing 1 = .ok (.iload_n 1, 1) := by decide +kernel
theorem dX9_lastRing_2 : decode cX9_lastRing 2 = .ok (.imul, 1) := by decide +kernel
theorem dX9_lastRing_3 : decode cX9_lastRing 3 = .ok (.iload_n 2, 1) := by decide +kernel
theorem dX9_lastRing_4 : decode cX9_lastRing 4 = .ok (.iload_n 2, 1) := by decide +kernel
theorem dX9_lastRing_5 : decode cX9_lastRing 5 = .ok (.imul, 1) := by decide +kernel
theorem dX9_lastRing_6 : decode cX9_lastRing 6 = .ok (.iadd, 1) := by decide +kernel
theorem dX9_lastRing_7 : decode cX9_lastRing 7 = .ok (.istore_n 3, 1) := by decide +kernel
theorem dX9_lastRing_8 : decode cX9_lastRing 8 = .ok (.iconst (-1), 1) := by decide +kernel
theorem dX9_lastRing_9 : decode cX9_lastRing 9 = .ok (.istore 4, 2) := by decide +kernel
theorem dX9_lastRing_11 : decode cX9_lastRing 11 = .ok (.iconst 0, 1) := by decide +kernel
theorem dX9_lastRing_12 : decode cX9_lastRing 12 = .ok (.istore 5, 2) := by decide +kernel
theorem dX9_lastRing_14 : decode cX9_lastRing 14 = .ok (.iload 5, 2) := by decide +kernel
theorem dX9_lastRing_16 : decode cX9_lastRing 16 = .ok (.aload_n 0, 1) := by decide +kernel
theorem dX9_lastRing_17 : decode cX9_lastRing 17 = .ok (.getfield 65, 3) := by decide +kernel
theorem dX9_lastRing_20 : decode cX9_lastRing 20 = .ok (.if_icmp .ge 32, 3) := by decide +kernel
theorem dX9_lastRing_23 : decode cX9_lastRing 23 = .ok (.iload_n 3, 1) := by decide +kernel
theorem dX9_lastRing_24 : decode cX9_lastRing 24 = .ok (.aload_n 0, 1) := by decide +kernel
theorem dX9_lastRing_25 : decode cX9_lastRing 25 = .ok (.getfield 9, 3) := by decide +kernel
theorem dX9_lastRing_28 : decode cX9_lastRing 28 = .ok (.iload 5, 2) := by decide +kernel
theorem dX9_lastRing_30 : decode cX9_lastRing 30 = .ok (.iaload, 1) := by decide +kernel
theorem dX9_lastRing_31 : decode cX9_lastRing 31 = .ok (.aload_n 0, 1) := by decide +kernel
theorem dX9_lastRing_32 : decode cX9_lastRing 32 = .ok (.getfield 9, 3) := by decide +kernel
theorem dX9_lastRing_35 : decode cX9_lastRing 35 = .ok (.iload 5, 2) := by decide +kernel
theorem dX9_lastRing_37 : decode cX9_lastRing 37 = .ok (.iaload, 1) := by decide +kernel
theorem dX9_lastRing_38 : decode cX9_lastRing 38 = .ok (.imul, 1) := by decide +kernel
theorem dX9_lastRing_39 : decode cX9_lastRing 39 = .ok (.if_icmp .gt 13, 3) := by decide +kernel
theorem dX9_lastRing_42 : decode cX9_lastRing 42 = .ok (.iload 5, 2) := by decide +kernel
theorem dX9_lastRing_44 : decode cX9_lastRing 44 = .ok (.istore 4, 2) := by decide +kernel
theorem dX9_lastRing_46 : decode cX9_lastRing 46 = .ok (.iinc 5 1, 3) := by decide +kernel
theorem dX9_lastRing_49 : decode cX9_lastRing 49 = .ok (.goto (-35), 3) := by decide +kernel
theorem dX9_lastRing_52 : decode cX9_lastRing 52 = .ok (.iload 4, 2) := by decide +kernel
theorem dX9_lastRing_54 : decode cX9_lastRing 54 = .ok (.ireturn, 1) := by decide +kernel
theorem dX9_worthAt_0 : decode cX9_worthAt 0 = .ok (.aload_n 0, 1) := by decide +kernel
theorem dX9_worthAt_1 : decode cX9_worthAt 1 = .ok (.iload_n 1, 1) := by decide +kernel
theorem dX9_worthAt_2 : decode cX9_worthAt 2 = .ok (.iload_n 2, 1) := by decide +kernel
theorem dX9_worthAt_3 : decode cX9_worthAt 3 = .ok (.invokevirtual 168, 3) := by decide +kernel
theorem dX9_worthAt_6 : decode cX9_worthAt 6 = .ok (.istore_n 3, 1) := by decide +kernel
theorem dX9_worthAt_7 : decode cX9_worthAt 7 = .ok (.iload_n 3, 1) := by decide +kernel
theorem dX9_worthAt_8 : decode cX9_worthAt 8 = .ok (.iconst (-1), 1) := by decide +kernel
theorem dX9_worthAt_9 : decode cX9_worthAt 9 = .ok (.if_icmp .ne 7, 3) := by decide +kernel
theorem dX9_worthAt_12 : decode cX9_worthAt 12 = .ok (.iconst 0, 1) := by decide +kernel
theorem dX9_worthAt_13 : decode cX9_worthAt 13 = .ok (.goto 9, 3) := by decide +kernel
theorem dX9_worthAt_16 : decode cX9_worthAt 16 = .ok (.aload_n 0, 1) := by decide +kernel
theorem dX9_worthAt_17 : decode cX9_worthAt 17 = .ok (.getfield 15, 3) := by decide +kernel
theorem dX9_worthAt_20 : decode cX9_worthAt 20 = .ok (.iload_n 3, 1) := by decide +kernel
theorem dX9_worthAt_21 : decode cX9_worthAt 21 = .ok (.iaload, 1) := by decide +kernel
theorem dX9_worthAt_22 : decode cX9_worthAt 22 = .ok (.ireturn, 1) := by decide +kernel
theorem dX9_shakeOn_0 : decode cX9_shakeOn 0 = .ok (.aload_n 0, 1) := by decide +kernel
theorem dX9_shakeOn_1 : decode cX9_shakeOn 1 = .ok (.getfield 40, 3) := by decide +kernel
theorem dX9_shakeOn_4 : decode cX9_shakeOn 4 = .ok (.iload_n 1, 1) := by decide +kernel
theorem dX9_shakeOn_5 : decode cX9_shakeOn 5 = .ok (.iaload, 1) := by decide +kernel
theorem dX9_shakeOn_6 : decode cX9_shakeOn 6 = .ok (.istore_n 3, 1) := by decide +kernel
theorem dX9_shakeOn_7 : decode cX9_shakeOn 7 = .ok (.iload_n 2, 1) := by decide +kernel
theorem dX9_shakeOn_8 : decode cX9_shakeOn 8 = .ok (.tableswitch 42 0 2 #[28, 30, 36], 28) := by decide +kernel
theorem dX9_shakeOn_36 : decode cX9_shakeOn 36 = .ok (.iload_n 3, 1) := by decide +kernel
theorem dX9_shakeOn_37 : decode cX9_shakeOn 37 = .ok (.ireturn, 1) := by decide +kernel
theorem dX9_shakeOn_38 : decode cX9_shakeOn 38 = .ok (.iload_n 3, 1) := by decide +kernel
theorem dX9_shakeOn_39 : decode cX9_shakeOn 39 = .ok (.iconst 1, 1) := by decide +kernel
theorem dX9_shakeOn_40 : decode cX9_shakeOn 40 = .ok (.iadd, 1) := by decide +kernel
theorem dX9_shakeOn_41 : decode cX9_shakeOn 41 = .ok (.iconst 2, 1) := by decide +kernel
theorem dX9_shakeOn_42 : decode cX9_shakeOn 42 = .ok (.idiv, 1) := by decide +kernel
theorem dX9_shakeOn_43 : decode cX9_shakeOn 43 = .ok (.ireturn, 1) := by decide +kernel
theorem dX9_shakeOn_44 : decode cX9_shakeOn 44 = .ok (.iload_n 3, 1) := by decide +kernel
theorem dX9_shakeOn_45 : decode cX9_shakeOn 45 = .ok (.iconst 1, 1) := by decide +kernel
theorem dX9_shakeOn_46 : decode cX9_shakeOn 46 = .ok (.invokestatic 162, 3) := by decide +kernel
theorem dX9_shakeOn_49 : decode cX9_shakeOn 49 = .ok (.ireturn, 1) := by decide +kernel
theorem dX9_shakeOn_50 : decode cX9_shakeOn 50 = .ok (.iconst 0, 1) := by decide +kernel
theorem dX9_shakeOn_51 : decode cX9_shakeOn 51 = .ok (.ireturn, 1) := by decide +kernel
theorem dX2_count_0 : decode cX2_count 0 = .ok (.iload_n 2, 1) := by decide +kernel
theorem dX2_count_1 : decode cX2_count 1 = .ok (.iload 4, 2) := by decide +kernel
theorem dX2_count_3 : decode cX2_count 3 = .ok (.isub, 1) := by decide +kernel
theorem dX2_count_4 : decode cX2_count 4 = .ok (.istore 6, 2) := by decide +kernel
theorem dX2_count_6 : decode cX2_count 6 = .ok (.iload 6, 2) := by decide +kernel
theorem dX2_count_8 : decode cX2_count 8 = .ok (.iload_n 2, 1) := by decide +kernel
theorem dX2_count_9 : decode cX2_count 9 = .ok (.iload 4, 2) := by decide +kernel
theorem dX2_count_11 : decode cX2_count 11 = .ok (.iadd, 1) := by decide +kernel
theorem dX2_count_12 : decode cX2_count 12 = .ok (.if_icmp .gt 48, 3) := by decide +kernel
theorem dX2_count_15 : decode cX2_count 15 = .ok (.iload_n 3, 1) := by decide +kernel
theorem dX2_count_16 : decode cX2_count 16 = .ok (.iload 4, 2) := by decide +kernel
theorem dX2_count_18 : decode cX2_count 18 = .ok (.isub, 1) := by decide +kernel
theorem dX2_count_19 : decode cX2_count 19 = .ok (.istore 7, 2) := by decide +kernel
theorem dX2_count_21 : decode cX2_count 21 = .ok (.iload 7, 2) := by decide +kernel
theorem dX2_count_23 : decode cX2_count 23 = .ok (.iload_n 3, 1) := by decide +kernel
theorem dX2_count_24 : decode cX2_count 24 = .ok (.iload 4, 2) := by decide +kernel
theorem dX2_count_26 : decode cX2_count 26 = .ok (.iadd, 1) := by decide +kernel
theorem dX2_count_27 : decode cX2_count 27 = .ok (.if_icmp .gt 27, 3) := by decide +kernel
theorem dX2_count_30 : decode cX2_count 30 = .ok (.aload_n 0, 1) := by decide +kernel
theorem dX2_count_31 : decode cX2_count 31 = .ok (.getfield 9, 3) := by decide +kernel
theorem dX2_count_34 : decode cX2_count 34 = .ok (.aload_n 1, 1) := by decide +kernel
theorem dX2_count_35 : decode cX2_count 35 = .ok (.iload 6, 2) := by decide +kernel
theorem dX2_count_37 : decode cX2_count 37 = .ok (.iload 7, 2) := by decide +kernel
theorem dX2_count_39 : decode cX2_count 39 = .ok (.invokevirtual 65, 3) := by decide +kernel
theorem dX2_count_42 : decode cX2_count 42 = .ok (.dup2, 1) := by decide +kernel
theorem dX2_count_43 : decode cX2_count 43 = .ok (.iaload, 1) := by decide +kernel
theorem dX2_count_44 : decode cX2_count 44 = .ok (.iload 5, 2) := by decide +kernel
theorem dX2_count_46 : decode cX2_count 46 = .ok (.iadd, 1) := by decide +kernel
theorem dX2_count_47 : decode cX2_count 47 = .ok (.iastore, 1) := by decide +kernel
theorem dX2_count_48 : decode cX2_count 48 = .ok (.iinc 7 1, 3) := by decide +kernel
theorem dX2_count_51 : decode cX2_count 51 = .ok (.goto (-30), 3) := by decide +kernel
theorem dX2_count_54 : decode cX2_count 54 = .ok (.iinc 6 1, 3) := by decide +kernel
theorem dX2_count_57 : decode cX2_count 57 = .ok (.goto (-51), 3) := by decide +kernel
theorem dX2_count_60 : decode cX2_count 60 = .ok (.return_, 1) := by decide +kernel
theorem dX2_reckon_0 : decode cX2_reckon 0 = .ok (.aload_n 0, 1) := by decide +kernel
theorem dX2_reckon_1 : decode cX2_reckon 1 = .ok (.getfield 9, 3) := by decide +kernel
theorem dX2_reckon_4 : decode cX2_reckon 4 = .ok (.iconst 0, 1) := by decide +kernel
theorem dX2_reckon_5 : decode cX2_reckon 5 = .ok (.invokestatic 19, 3) := by decide +kernel
theorem dX2_reckon_8 : decode cX2_reckon 8 = .ok (.aload_n 2, 1) := by decide +kernel
theorem dX2_reckon_9 : decode cX2_reckon 9 = .ok (.aload_n 1, 1) := by decide +kernel
theorem dX2_reckon_10 : decode cX2_reckon 10 = .ok (.invokevirtual 25, 3) := by decide +kernel
theorem dX2_reckon_13 : decode cX2_reckon 13 = .ok (.aload_n 1, 1) := by decide +kernel
theorem dX2_reckon_14 : decode cX2_reckon 14 = .ok (.aload_n 2, 1) := by decide +kernel
theorem dX2_reckon_15 : decode cX2_reckon 15 = .ok (.getfield 31, 3) := by decide +kernel
theorem dX2_reckon_18 : decode cX2_reckon 18 = .ok (.aload_n 2, 1) := by decide +kernel
theorem dX2_reckon_19 : decode cX2_reckon 19 = .ok (.getfield 35, 3) := by decide +kernel
theorem dX2_reckon_22 : decode cX2_reckon 22 = .ok (.invokevirtual 38, 3) := by decide +kernel
theorem dX2_reckon_25 : decode cX2_reckon 25 = .ok (.istore_n 3, 1) := by decide +kernel
theorem dX2_reckon_26 : decode cX2_reckon 26 = .ok (.aload_n 0, 1) := by decide +kernel
theorem dX2_reckon_27 : decode cX2_reckon 27 = .ok (.iconst 2, 1) := by decide +kernel
theorem dX2_reckon_28 : decode cX2_reckon 28 = .ok (.iconst 2, 1) := by decide +kernel
theorem dX2_reckon_29 : decode cX2_reckon 29 = .ok (.iload_n 3, 1) := by decide +kernel
theorem dX2_reckon_30 : decode cX2_reckon 30 = .ok (.imul, 1) := by decide +kernel
theorem dX2_reckon_31 : decode cX2_reckon 31 = .ok (.iconst 1, 1) := by decide +kernel
theorem dX2_reckon_32 : decode cX2_reckon 32 = .ok (.iadd, 1) := by decide +kernel
theorem dX2_reckon_33 : decode cX2_reckon 33 = .ok (.imul, 1) := by decide +kernel
theorem dX2_reckon_34 : decode cX2_reckon 34 = .ok (.iconst 2, 1) := by decide +kernel
theorem dX2_reckon_35 : decode cX2_reckon 35 = .ok (.iload_n 3, 1) := by decide +kernel
theorem dX2_reckon_36 : decode cX2_reckon 36 = .ok (.imul, 1) := by decide +kernel
theorem dX2_reckon_37 : decode cX2_reckon 37 = .ok (.iconst 1, 1) := by decide +kernel
theorem dX2_reckon_38 : decode cX2_reckon 38 = .ok (.iadd, 1) := by decide +kernel
theorem dX2_reckon_39 : decode cX2_reckon 39 = .ok (.imul, 1) := by decide +kernel
theorem dX2_reckon_40 : decode cX2_reckon 40 = .ok (.putfield 44, 3) := by decide +kernel
theorem dX2_reckon_43 : decode cX2_reckon 43 = .ok (.aload_n 2, 1) := by decide +kernel
theorem dX2_reckon_44 : decode cX2_reckon 44 = .ok (.getfield 47, 3) := by decide +kernel
theorem dX2_reckon_47 : decode cX2_reckon 47 = .ok (.ifCond .eq 14, 3) := by decide +kernel
theorem dX2_reckon_50 : decode cX2_reckon 50 = .ok (.aload_n 0, 1) := by decide +kernel
theorem dX2_reckon_51 : decode cX2_reckon 51 = .ok (.getfield 9, 3) := by decide +kernel
theorem dX2_reckon_54 : decode cX2_reckon 54 = .ok (.iconst 0, 1) := by decide +kernel
theorem dX2_reckon_55 : decode cX2_reckon 55 = .ok (.aload_n 0, 1) := by decide +kernel
theorem dX2_reckon_56 : decode cX2_reckon 56 = .ok (.getfield 44, 3) := by decide +kernel
theorem dX2_reckon_59 : decode cX2_reckon 59 = .ok (.iastore, 1) := by decide +kernel
theorem dX2_reckon_60 : decode cX2_reckon 60 = .ok (.return_, 1) := by decide +kernel
theorem dX2_reckon_61 : decode cX2_reckon 61 = .ok (.aload_n 2, 1) := by decide +kernel
theorem dX2_reckon_62 : decode cX2_reckon 62 = .ok (.aload_n 1, 1) := by decide +kernel
theorem dX2_reckon_63 : decode cX2_reckon 63 = .ok (.invokevirtual 50, 3) := by decide +kernel
theorem dX2_reckon_66 : decode cX2_reckon 66 = .ok (.istore 4, 2) := by decide +kernel
theorem dX2_reckon_68 : decode cX2_reckon 68 = .ok (.aload_n 2, 1) := by decide +kernel
theorem dX2_reckon_69 : decode cX2_reckon 69 = .ok (.getfield 54, 3) := by decide +kernel
theorem dX2_reckon_72 : decode cX2_reckon 72 = .ok (.ifCond .ne 21, 3) := by decide +kernel
theorem dX2_reckon_75 : decode cX2_reckon 75 = .ok (.aload_n 0, 1) := by decide +kernel
theorem dX2_reckon_76 : decode cX2_reckon 76 = .ok (.aload_n 1, 1) := by decide +kernel
theorem dX2_reckon_77 : decode cX2_reckon 77 = .ok (.aload_n 2, 1) := by decide +kernel
theorem dX2_reckon_78 : decode cX2_reckon 78 = .ok (.aload_n 1, 1) := by decide +kernel
theorem dX2_reckon_79 : decode cX2_reckon 79 = .ok (.iconst 0, 1) := by decide +kernel
theorem dX2_reckon_80 : decode cX2_reckon 80 = .ok (.invokevirtual 57, 3) := by decide +kernel
theorem dX2_reckon_83 : decode cX2_reckon 83 = .ok (.iload 4, 2) := by decide +kernel
theorem dX2_reckon_85 : decode cX2_reckon 85 = .ok (.iload_n 3, 1) := by decide +kernel
theorem dX2_reckon_86 : decode cX2_reckon 86 = .ok (.iconst 2, 1) := by decide +kernel
theorem dX2_reckon_87 : decode cX2_reckon 87 = .ok (.invokevirtual 61, 3) := by decide +kernel
theorem dX2_reckon_90 : decode cX2_reckon 90 = .ok (.goto 33, 3) := by decide +kernel
theorem dX2_reckon_93 : decode cX2_reckon 93 = .ok (.aload_n 0, 1) := by decide +kernel
theorem dX2_reckon_94 : decode cX2_reckon 94 = .ok (.aload_n 1, 1) := by decide +kernel
theorem dX2_reckon_95 : decode cX2_reckon 95 = .ok (.aload_n 2, 1) := by decide +kernel
theorem dX2_reckon_96 : decode cX2_reckon 96 = .ok (.aload_n 1, 1) := by decide +kernel
theorem dX2_reckon_97 : decode cX2_reckon 97 = .ok (.iconst 1, 1) := by decide +kernel
theorem dX2_reckon_98 : decode cX2_reckon 98 = .ok (.invokevirtual 57, 3) := by decide +kernel
theorem dX2_reckon_101 : decode cX2_reckon 101 = .ok (.iload 4, 2) := by decide +kernel
theorem dX2_reckon_103 : decode cX2_reckon 103 = .ok (.iload_n 3, 1) := by decide +kernel
theorem dX2_reckon_104 : decode cX2_reckon 104 = .ok (.iconst 1, 1) := by decide +kernel
theorem dX2_reckon_105 : decode cX2_reckon 105 = .ok (.invokevirtual 61, 3) := by decide +kernel
theorem dX2_reckon_108 : decode cX2_reckon 108 = .ok (.aload_n 0, 1) := by decide +kernel
theorem dX2_reckon_109 : decode cX2_reckon 109 = .ok (.aload_n 1, 1) := by decide +kernel
theorem dX2_reckon_110 : decode cX2_reckon 110 = .ok (.aload_n 2, 1) := by decide +kernel
theorem dX2_reckon_111 : decode cX2_reckon 111 = .ok (.aload_n 1, 1) := by decide +kernel
theorem dX2_reckon_112 : decode cX2_reckon 112 = .ok (.iconst (-1), 1) := by decide +kernel
theorem dX2_reckon_113 : decode cX2_reckon 113 = .ok (.invokevirtual 57, 3) := by decide +kernel
theorem dX2_reckon_116 : decode cX2_reckon 116 = .ok (.iload 4, 2) := by decide +kernel
theorem dX2_reckon_118 : decode cX2_reckon 118 = .ok (.iload_n 3, 1) := by decide +kernel
theorem dX2_reckon_119 : decode cX2_reckon 119 = .ok (.iconst 1, 1) := by decide +kernel
theorem dX2_reckon_120 : decode cX2_reckon 120 = .ok (.invokevirtual 61, 3) := by decide +kernel
theorem dX2_reckon_123 : decode cX2_reckon 123 = .ok (.return_, 1) := by decide +kernel
theorem dX2_atLeast_0 : decode cX2_atLeast 0 = .ok (.lconst 0, 1) := by decide +kernel
theorem dX2_atLeast_1 : decode cX2_atLeast 1 = .ok (.lstore_n 2, 1) := by decide +kernel
theorem dX2_atLeast_2 : decode cX2_atLeast 2 = .ok (.iconst 0, 1) := by decide +kernel
theorem dX2_atLeast_3 : decode cX2_atLeast 3 = .ok (.iload_n 1, 1) := by decide +kernel
theorem dX2_atLeast_4 : decode cX2_atLeast 4 = .ok (.invokestatic 68, 3) := by decide +kernel
theorem dX2_atLeast_7 : decode cX2_atLeast 7 = .ok (.istore 4, 2) := by decide +kernel
theorem dX2_atLeast_9 : decode cX2_atLeast 9 = .ok (.iload 4, 2) := by decide +kernel
theorem dX2_atLeast_11 : decode cX2_atLeast 11 = .ok (.bipush 20, 2) := by decide +kernel
theorem dX2_atLeast_13 : decode cX2_atLeast 13 = .ok (.if_icmp .gt 20, 3) := by decide +kernel
theorem dX2_atLeast_16 : decode cX2_atLeast 16 = .ok (.lload_n 2, 1) := by decide +kernel
theorem dX2_atLeast_17 : decode cX2_atLeast 17 = .ok (.aload_n 0, 1) := by decide +kernel
theorem dX2_atLeast_18 : decode cX2_atLeast 18 = .ok (.getfield 9, 3) := by decide +kernel
theorem dX2_atLeast_21 : decode cX2_atLeast 21 = .ok (.iload 4, 2) := by decide +kernel
theorem dX2_atLeast_23 : decode cX2_atLeast 23 = .ok (.iaload, 1) := by decide +kernel
theorem dX2_atLeast_24 : decode cX2_atLeast 24 = .ok (.i2l, 1) := by decide +kernel
theorem dX2_atLeast_25 : decode cX2_atLeast 25 = .ok (.ladd, 1) := by decide +kernel
theorem dX2_atLeast_26 : decode cX2_atLeast 26 = .ok (.lstore_n 2, 1) := by decide +kernel
theorem dX2_atLeast_27 : decode cX2_atLeast 27 = .ok (.iinc 4 1, 3) := by decide +kernel
theorem dX2_atLeast_30 : decode cX2_atLeast 30 = .ok (.goto (-21), 3) := by decide +kernel
theorem dX2_atLeast_33 : decode cX2_atLeast 33 = .ok (.lload_n 2, 1) := by decide +kernel
theorem dX2_atLeast_34 : decode cX2_atLeast 34 = .ok (.lreturn, 1) := by decide +kernel
theorem dX2_sum_0 : decode cX2_sum 0 = .ok (.lconst 0, 1) := by decide +kernel
theorem dX2_sum_1 : decode cX2_sum 1 = .ok (.lstore_n 1, 1) := by decide +kernel
theorem dX2_sum_2 : decode cX2_sum 2 = .ok (.iconst 1, 1) := by decide +kernel
theorem dX2_sum_3 : decode cX2_sum 3 = .ok (.istore_n 3, 1) := by decide +kernel
theorem dX2_sum_4 : decode cX2_sum 4 = .ok (.iload_n 3, 1) := by decide +kernel
theorem dX2_sum_5 : decode cX2_sum 5 = .ok (.bipush 20, 2) := by decide +kernel
theorem dX2_sum_7 : decode cX2_sum 7 = .ok (.if_icmp .gt 22, 3) := by decide +kernel
theorem dX2_sum_10 : decode cX2_sum 10 = .ok (.lload_n 1, 1) := by decide +kernel
theorem dX2_sum_11 : decode cX2_sum 11 = .ok (.iload_n 3, 1) := by decide +kernel
theorem dX2_sum_12 : decode cX2_sum 12 = .ok (.i2l, 1) := by decide +kernel
theorem dX2_sum_13 : decode cX2_sum 13 = .ok (.aload_n 0, 1) := by decide +kernel
theorem dX2_sum_14 : decode cX2_sum 14 = .ok (.getfield 9, 3) := by decide +kernel
theorem dX2_sum_17 : decode cX2_sum 17 = .ok (.iload_n 3, 1) := by decide +kernel
theorem dX2_sum_18 : decode cX2_sum 18 = .ok (.iaload, 1) := by decide +kernel
theorem dX2_sum_19 : decode cX2_sum 19 = .ok (.i2l, 1) := by decide +kernel
theorem dX2_sum_20 : decode cX2_sum 20 = .ok (.lmul, 1) := by decide +kernel
theorem dX2_sum_21 : decode cX2_sum 21 = .ok (.ladd, 1) := by decide +kernel
theorem dX2_sum_22 : decode cX2_sum 22 = .ok (.lstore_n 1, 1) := by decide +kernel
theorem dX2_sum_23 : decode cX2_sum 23 = .ok (.iinc 3 1, 3) := by decide +kernel
theorem dX2_sum_26 : decode cX2_sum 26 = .ok (.goto (-22), 3) := by decide +kernel
theorem dX2_sum_29 : decode cX2_sum 29 = .ok (.lload_n 1, 1) := by decide +kernel
theorem dX2_sum_30 : decode cX2_sum 30 = .ok (.lreturn, 1) := by decide +kernel
theorem dX1_begin_0 : decode cX1_begin 0 = .ok (.aload_n 0, 1) := by decide +kernel
theorem dX1_begin_1 : decode cX1_begin 1 = .ok (.iconst 0, 1) := by decide +kernel
theorem dX1_begin_2 : decode cX1_begin 2 = .ok (.putfield 9, 3) := by decide +kernel
theorem dX1_begin_5 : decode cX1_begin 5 = .ok (.aload_n 0, 1) := by decide +kernel
theorem dX1_begin_6 : decode cX1_begin 6 = .ok (.iconst (-1), 1) := by decide +kernel
theorem dX1_begin_7 : decode cX1_begin 7 = .ok (.putfield 15, 3) := by decide +kernel
theorem dX1_begin_10 : decode cX1_begin 10 = .ok (.aload_n 0, 1) := by decide +kernel
theorem dX1_begin_11 : decode cX1_begin 11 = .ok (.lconst 0, 1) := by decide +kernel
theorem dX1_begin_12 : decode cX1_begin 12 = .ok (.putfield 19, 3) := by decide +kernel
theorem dX1_begin_15 : decode cX1_begin 15 = .ok (.aload_n 0, 1) := by decide +kernel
theorem dX1_begin_16 : decode cX1_begin 16 = .ok (.lconst 1, 1) := by decide +kernel
theorem dX1_begin_17 : decode cX1_begin 17 = .ok (.putfield 23, 3) := by decide +kernel
theorem dX1_begin_20 : decode cX1_begin 20 = .ok (.return_, 1) := by decide +kernel
theorem dX1_offer_0 : decode cX1_offer 0 = .ok (.aload_n 0, 1) := by decide +kernel
theorem dX1_offer_1 : decode cX1_offer 1 = .ok (.getfield 9, 3) := by decide +kernel
theorem dX1_offer_4 : decode cX1_offer 4 = .ok (.ifCond .eq 20, 3) := by decide +kernel
theorem dX1_offer_7 : decode cX1_offer 7 = .ok (.lload_n 2, 1) := by decide +kernel
theorem dX1_offer_8 : decode cX1_offer 8 = .ok (.aload_n 0, 1) := by decide +kernel
theorem dX1_offer_9 : decode cX1_offer 9 = .ok (.getfield 23, 3) := by decide +kernel
theorem dX1_offer_12 : decode cX1_offer 12 = .ok (.lmul, 1) := by decide +kernel
theorem dX1_offer_13 : decode cX1_offer 13 = .ok (.aload_n 0, 1) := by decide +kernel
theorem dX1_offer_14 : decode cX1_offer 14 = .ok (.getfield 19, 3) := by decide +kernel
theorem dX1_offer_17 : decode cX1_offer 17 = .ok (.lload 4, 2) := by decide +kernel
theorem dX1_offer_19 : decode cX1_offer 19 = .ok (.lmul, 1) := by decide +kernel
theorem dX1_offer_20 : decode cX1_offer 20 = .ok (.lcmp, 1) := by decide +kernel
theorem dX1_offer_21 : decode cX1_offer 21 = .ok (.ifCond .le 24, 3) := by decide +kernel
theorem dX1_offer_24 : decode cX1_offer 24 = .ok (.aload_n 0, 1) := by decide +kernel
theorem dX1_offer_25 : decode cX1_offer 25 = .ok (.iconst 1, 1) := by decide +kernel
theorem dX1_offer_26 : decode cX1_offer 26 = .ok (.putfield 9, 3) := by decide +kernel
theorem dX1_offer_29 : decode cX1_offer 29 = .ok (.aload_n 0, 1) := by decide +kernel
theorem dX1_offer_30 : decode cX1_offer 30 = .ok (.iload_n 1, 1) := by decide +kernel
theorem dX1_offer_31 : decode cX1_offer 31 = .ok (.putfield 15, 3) := by decide +kernel
theorem dX1_offer_34 : decode cX1_offer 34 = .ok (.aload_n 0, 1) := by decide +kernel
theorem dX1_offer_35 : decode cX1_offer 35 = .ok (.lload_n 2, 1) := by decide +kernel
theorem dX1_offer_36 : decode cX1_offer 36 = .ok (.putfield 19, 3) := by decide +kernel
theorem dX1_offer_39 : decode cX1_offer 39 = .ok (.aload_n 0, 1) := by decide +kernel
theorem dX1_offer_40 : decode cX1_offer 40 = .ok (.lload 4, 2) := by decide +kernel
theorem dX1_offer_42 : decode cX1_offer 42 = .ok (.putfield 23, 3) := by decide +kernel
theorem dX1_offer_45 : decode cX1_offer 45 = .ok (.return_, 1) := by decide +kernel
theorem dX0_addColumn_0 : decode cX0_addColumn 0 = .ok (.aload_n 2, 1) := by decide +kernel
theorem dX0_addColumn_1 : decode cX0_addColumn 1 = .ok (.aload_n 1, 1) := by decide +kernel
theorem dX0_addColumn_2 : decode cX0_addColumn 2 = .ok (.invokevirtual 71, 3) := by decide +kernel
theorem dX0_addColumn_5 : decode cX0_addColumn 5 = .ok (.bipush 20, 2) := by decide +kernel
theorem dX0_addColumn_7 : decode cX0_addColumn 7 = .ok (.isub, 1) := by decide +kernel
theorem dX0_addColumn_8 : decode cX0_addColumn 8 = .ok (.iload 4, 2) := by decide +kernel
theorem dX0_addColumn_10 : decode cX0_addColumn 10 = .ok (.isub, 1) := by decide +kernel
theorem dX0_addColumn_11 : decode cX0_addColumn 11 = .ok (.istore 6, 2) := by decide +kernel
theorem dX0_addColumn_13 : decode cX0_addColumn 13 = .ok (.iconst 2, 1) := by decide +kernel
theorem dX0_addColumn_14 : decode cX0_addColumn 14 = .ok (.iload 4, 2) := by decide +kernel
theorem dX0_addColumn_16 : decode cX0_addColumn 16 = .ok (.imul, 1) := by decide +kernel
theorem dX0_addColumn_17 : decode cX0_addColumn 17 = .ok (.istore 7, 2) := by decide +kernel
theorem dX0_addColumn_19 : decode cX0_addColumn 19 = .ok (.iconst 0, 1) := by decide +kernel
theorem dX0_addColumn_20 : decode cX0_addColumn 20 = .ok (.istore 8, 2) := by decide +kernel
theorem dX0_addColumn_22 : decode cX0_addColumn 22 = .ok (.iload 8, 2) := by decide +kernel
theorem dX0_addColumn_24 : decode cX0_addColumn 24 = .ok (.bipush 41, 2) := by decide +kernel
theorem dX0_addColumn_26 : decode cX0_addColumn 26 = .ok (.iload 7, 2) := by decide +kernel
theorem dX0_addColumn_28 : decode cX0_addColumn 28 = .ok (.iadd, 1) := by decide +kernel
theorem dX0_addColumn_29 : decode cX0_addColumn 29 = .ok (.if_icmp .ge 26, 3) := by decide +kernel
theorem dX0_addColumn_32 : decode cX0_addColumn 32 = .ok (.aload_n 0, 1) := by decide +kernel
theorem dX0_addColumn_33 : decode cX0_addColumn 33 = .ok (.getfield 15, 3) := by decide +kernel
theorem dX0_addColumn_36 : decode cX0_addColumn 36 = .ok (.iload 8, 2) := by decide +kernel
theorem dX0_addColumn_38 : decode cX0_addColumn 38 = .ok (.aload_n 1, 1) := by decide +kernel
theorem dX0_addColumn_39 : decode cX0_addColumn 39 = .ok (.iload_n 3, 1) := by decide +kernel
theorem dX0_addColumn_40 : decode cX0_addColumn 40 = .ok (.iload 6, 2) := by decide +kernel
theorem dX0_addColumn_42 : decode cX0_addColumn 42 = .ok (.iload 8, 2) := by decide +kernel
theorem dX0_addColumn_44 : decode cX0_addColumn 44 = .ok (.iadd, 1) := by decide +kernel
theorem dX0_addColumn_45 : decode cX0_addColumn 45 = .ok (.invokevirtual 75, 3) := by decide +kernel
theorem dX0_addColumn_48 : decode cX0_addColumn 48 = .ok (.iastore, 1) := by decide +kernel
theorem dX0_addColumn_49 : decode cX0_addColumn 49 = .ok (.iinc 8 1, 3) := by decide +kernel
theorem dX0_addColumn_52 : decode cX0_addColumn 52 = .ok (.goto (-30), 3) := by decide +kernel
theorem dX0_addColumn_55 : decode cX0_addColumn 55 = .ok (.iconst 0, 1) := by decide +kernel
theorem dX0_addColumn_56 : decode cX0_addColumn 56 = .ok (.istore 8, 2) := by decide +kernel
theorem dX0_addColumn_58 : decode cX0_addColumn 58 = .ok (.iconst 0, 1) := by decide +kernel
theorem dX0_addColumn_59 : decode cX0_addColumn 59 = .ok (.istore 9, 2) := by decide +kernel
theorem dX0_addColumn_61 : decode cX0_addColumn 61 = .ok (.iload 9, 2) := by decide +kernel
theorem dX0_addColumn_63 : decode cX0_addColumn 63 = .ok (.iload 7, 2) := by decide +kernel
theorem dX0_addColumn_65 : decode cX0_addColumn 65 = .ok (.if_icmp .ge 21, 3) := by decide +kernel
theorem dX0_addColumn_68 : decode cX0_addColumn 68 = .ok (.iload 8, 2) := by decide +kernel
theorem dX0_addColumn_70 : decode cX0_addColumn 70 = .ok (.aload_n 0, 1) := by decide +kernel
theorem dX0_addColumn_71 : decode cX0_addColumn 71 = .ok (.getfield 15, 3) := by decide +kernel
theorem dX0_addColumn_74 : decode cX0_addColumn 74 = .ok (.iload 9, 2) := by decide +kernel
theorem dX0_addColumn_76 : decode cX0_addColumn 76 = .ok (.iaload, 1) := by decide +kernel
theorem dX0_addColumn_77 : decode cX0_addColumn 77 = .ok (.iadd, 1) := by decide +kernel
theorem dX0_addColumn_78 : decode cX0_addColumn 78 = .ok (.istore 8, 2) := by decide +kernel
theorem dX0_addColumn_80 : decode cX0_addColumn 80 = .ok (.iinc 9 1, 3) := by decide +kernel
theorem dX0_addColumn_83 : decode cX0_addColumn 83 = .ok (.goto (-22), 3) := by decide +kernel
theorem dX0_addColumn_86 : decode cX0_addColumn 86 = .ok (.iconst 0, 1) := by decide +kernel
theorem dX0_addColumn_87 : decode cX0_addColumn 87 = .ok (.istore 9, 2) := by decide +kernel
theorem dX0_addColumn_89 : decode cX0_addColumn 89 = .ok (.iload 9, 2) := by decide +kernel
theorem dX0_addColumn_91 : decode cX0_addColumn 91 = .ok (.bipush 41, 2) := by decide +kernel
theorem dX0_addColumn_93 : decode cX0_addColumn 93 = .ok (.if_icmp .ge 51, 3) := by decide +kernel
theorem dX0_addColumn_96 : decode cX0_addColumn 96 = .ok (.iload 8, 2) := by decide +kernel
theorem dX0_addColumn_98 : decode cX0_addColumn 98 = .ok (.aload_n 0, 1) := by decide +kernel
theorem dX0_addColumn_99 : decode cX0_addColumn 99 = .ok (.getfield 15, 3) := by decide +kernel
theorem dX0_addColumn_102 : decode cX0_addColumn 102 = .ok (.iload 9, 2) := by decide +kernel
theorem dX0_addColumn_104 : decode cX0_addColumn 104 = .ok (.iload 7, 2) := by decide +kernel
theorem dX0_addColumn_106 : decode cX0_addColumn 106 = .ok (.iadd, 1) := by decide +kernel
theorem dX0_addColumn_107 : decode cX0_addColumn 107 = .ok (.iaload, 1) := by decide +kernel
theorem dX0_addColumn_108 : decode cX0_addColumn 108 = .ok (.iadd, 1) := by decide +kernel
theorem dX0_addColumn_109 : decode cX0_addColumn 109 = .ok (.istore 8, 2) := by decide +kernel
theorem dX0_addColumn_111 : decode cX0_addColumn 111 = .ok (.aload_n 0, 1) := by decide +kernel
theorem dX0_addColumn_112 : decode cX0_addColumn 112 = .ok (.getfield 9, 3) := by decide +kernel
theorem dX0_addColumn_115 : decode cX0_addColumn 115 = .ok (.iload 9, 2) := by decide +kernel
theorem dX0_addColumn_117 : decode cX0_addColumn 117 = .ok (.dup2, 1) := by decide +kernel
theorem dX0_addColumn_118 : decode cX0_addColumn 118 = .ok (.iaload, 1) := by decide +kernel
theorem dX0_addColumn_119 : decode cX0_addColumn 119 = .ok (.iload 5, 2) := by decide +kernel
theorem dX0_addColumn_121 : decode cX0_addColumn 121 = .ok (.iload 8, 2) := by decide +kernel
theorem dX0_addColumn_123 : decode cX0_addColumn 123 = .ok (.imul, 1) := by decide +kernel
theorem dX0_addColumn_124 : decode cX0_addColumn 124 = .ok (.iadd, 1) := by decide +kernel
theorem dX0_addColumn_125 : decode cX0_addColumn 125 = .ok (.iastore, 1) := by decide +kernel
theorem dX0_addColumn_126 : decode cX0_addColumn 126 = .ok (.iload 8, 2) := by decide +kernel
theorem dX0_addColumn_128 : decode cX0_addColumn 128 = .ok (.aload_n 0, 1) := by decide +kernel
theorem dX0_addColumn_129 : decode cX0_addColumn 129 = .ok (.getfield 15, 3) := by decide +kernel
theorem dX0_addColumn_132 : decode cX0_addColumn 132 = .ok (.iload 9, 2) := by decide +kernel
theorem dX0_addColumn_134 : decode cX0_addColumn 134 = .ok (.iaload, 1) := by decide +kernel
theorem dX0_addColumn_135 : decode cX0_addColumn 135 = .ok (.isub, 1) := by decide +kernel
theorem dX0_addColumn_136 : decode cX0_addColumn 136 = .ok (.istore 8, 2) := by decide +kernel
theorem dX0_addColumn_138 : decode cX0_addColumn 138 = .ok (.iinc 9 1, 3) := by decide +kernel
theorem dX0_addColumn_141 : decode cX0_addColumn 141 = .ok (.goto (-52), 3) := by decide +kernel
theorem dX0_addColumn_144 : decode cX0_addColumn 144 = .ok (.return_, 1) := by decide +kernel
theorem dX0_addColumns_0 : decode cX0_addColumns 0 = .ok (.aload_n 2, 1) := by decide +kernel
theorem dX0_addColumns_1 : decode cX0_addColumns 1 = .ok (.getfield 61, 3) := by decide +kernel
theorem dX0_addColumns_4 : decode cX0_addColumns 4 = .ok (.ifCond .ne 26, 3) := by decide +kernel
theorem dX0_addColumns_7 : decode cX0_addColumns 7 = .ok (.aload_n 0, 1) := by decide +kernel
theorem dX0_addColumns_8 : decode cX0_addColumns 8 = .ok (.aload_n 1, 1) := by decide +kernel
theorem dX0_addColumns_9 : decode cX0_addColumns 9 = .ok (.aload_n 2, 1) := by decide +kernel
theorem dX0_addColumns_10 : decode cX0_addColumns 10 = .ok (.iload_n 3, 1) := by decide +kernel
theorem dX0_addColumns_11 : decode cX0_addColumns 11 = .ok (.aload_n 2, 1) := by decide +kernel
theorem dX0_addColumns_12 : decode cX0_addColumns 12 = .ok (.aload_n 1, 1) := by decide +kernel
theorem dX0_addColumns_13 : decode cX0_addColumns 13 = .ok (.iconst 0, 1) := by decide +kernel
theorem dX0_addColumns_14 : decode cX0_addColumns 14 = .ok (.invokevirtual 64, 3) := by decide +kernel
theorem dX0_addColumns_17 : decode cX0_addColumns 17 = .ok (.iadd, 1) := by decide +kernel
theorem dX0_addColumns_18 : decode cX0_addColumns 18 = .ok (.iload 4, 2) := by decide +kernel
theorem dX0_addColumns_20 : decode cX0_addColumns 20 = .ok (.iconst 2, 1) := by decide +kernel
theorem dX0_addColumns_21 : decode cX0_addColumns 21 = .ok (.iload 5, 2) := by decide +kernel
theorem dX0_addColumns_23 : decode cX0_addColumns 23 = .ok (.imul, 1) := by decide +kernel
theorem dX0_addColumns_24 : decode cX0_addColumns 24 = .ok (.invokevirtual 68, 3) := by decide +kernel
theorem dX0_addColumns_27 : decode cX0_addColumns 27 = .ok (.goto 39, 3) := by decide +kernel
theorem dX0_addColumns_30 : decode cX0_addColumns 30 = .ok (.aload_n 0, 1) := by decide +kernel
theorem dX0_addColumns_31 : decode cX0_addColumns 31 = .ok (.aload_n 1, 1) := by decide +kernel
theorem dX0_addColumns_32 : decode cX0_addColumns 32 = .ok (.aload_n 2, 1) := by decide +kernel
theorem dX0_addColumns_33 : decode cX0_addColumns 33 = .ok (.iload_n 3, 1) := by decide +kernel
theorem dX0_addColumns_34 : decode cX0_addColumns 34 = .ok (.aload_n 2, 1) := by decide +kernel
theorem dX0_addColumns_35 : decode cX0_addColumns 35 = .ok (.aload_n 1, 1) := by decide +kernel
theorem dX0_addColumns_36 : decode cX0_addColumns 36 = .ok (.iconst 1, 1) := by decide +kernel
theorem dX0_addColumns_37 : decode cX0_addColumns 37 = .ok (.invokevirtual 64, 3) := by decide +kernel
theorem dX0_addColumns_40 : decode cX0_addColumns 40 = .ok (.iadd, 1) := by decide +kernel
theorem dX0_addColumns_41 : decode cX0_addColumns 41 = .ok (.iload 4, 2) := by decide +kernel
theorem dX0_addColumns_43 : decode cX0_addColumns 43 = .ok (.iload 5, 2) := by decide +kernel
theorem dX0_addColumns_45 : decode cX0_addColumns 45 = .ok (.invokevirtual 68, 3) := by decide +kernel
theorem dX0_addColumns_48 : decode cX0_addColumns 48 = .ok (.aload_n 0, 1) := by decide +kernel
theorem dX0_addColumns_49 : decode cX0_addColumns 49 = .ok (.aload_n 1, 1) := by decide +kernel
theorem dX0_addColumns_50 : decode cX0_addColumns 50 = .ok (.aload_n 2, 1) := by decide +kernel
theorem dX0_addColumns_51 : decode cX0_addColumns 51 = .ok (.iload_n 3, 1) := by decide +kernel
theorem dX0_addColumns_52 : decode cX0_addColumns 52 = .ok (.aload_n 2, 1) := by decide +kernel
theorem dX0_addColumns_53 : decode cX0_addColumns 53 = .ok (.aload_n 1, 1) := by decide +kernel
theorem dX0_addColumns_54 : decode cX0_addColumns 54 = .ok (.iconst (-1), 1) := by decide +kernel
theorem dX0_addColumns_55 : decode cX0_addColumns 55 = .ok (.invokevirtual 64, 3) := by decide +kernel
theorem dX0_addColumns_58 : decode cX0_addColumns 58 = .ok (.iadd, 1) := by decide +kernel
theorem dX0_addColumns_59 : decode cX0_addColumns 59 = .ok (.iload 4, 2) := by decide +kernel
theorem dX0_addColumns_61 : decode cX0_addColumns 61 = .ok (.iload 5, 2) := by decide +kernel
theorem dX0_addColumns_63 : decode cX0_addColumns 63 = .ok (.invokevirtual 68, 3) := by decide +kernel
theorem dX0_addColumns_66 : decode cX0_addColumns 66 = .ok (.return_, 1) := by decide +kernel
theorem dX0_search_0 : decode cX0_search 0 = .ok (.aload_n 0, 1) := by decide +kernel
theorem dX0_search_1 : decode cX0_search 1 = .ok (.getfield 9, 3) := by decide +kernel
theorem dX0_search_4 : decode cX0_search 4 = .ok (.iconst 0, 1) := by decide +kernel
theorem dX0_search_5 : decode cX0_search 5 = .ok (.invokestatic 18, 3) := by decide +kernel
theorem dX0_search_8 : decode cX0_search 8 = .ok (.aload_n 2, 1) := by decide +kernel
theorem dX0_search_9 : decode cX0_search 9 = .ok (.aload_n 1, 1) := by decide +kernel
theorem dX0_search_10 : decode cX0_search 10 = .ok (.invokevirtual 24, 3) := by decide +kernel
theorem dX0_search_13 : decode cX0_search 13 = .ok (.bipush 6, 2) := by decide +kernel
theorem dX0_search_15 : decode cX0_search 15 = .ok (.aload_n 1, 1) := by decide +kernel
theorem dX0_search_16 : decode cX0_search 16 = .ok (.aload_n 2, 1) := by decide +kernel
theorem dX0_search_17 : decode cX0_search 17 = .ok (.getfield 30, 3) := by decide +kernel
theorem dX0_search_20 : decode cX0_search 20 = .ok (.aload_n 2, 1) := by decide +kernel
theorem dX0_search_21 : decode cX0_search 21 = .ok (.getfield 34, 3) := by decide +kernel
theorem dX0_search_24 : decode cX0_search 24 = .ok (.invokevirtual 37, 3) := by decide +kernel
theorem dX0_search_27 : decode cX0_search 27 = .ok (.invokestatic 43, 3) := by decide +kernel
theorem dX0_search_30 : decode cX0_search 30 = .ok (.istore 4, 2) := by decide +kernel
theorem dX0_search_32 : decode cX0_search 32 = .ok (.iconst 2, 1) := by decide +kernel
theorem dX0_search_33 : decode cX0_search 33 = .ok (.iconst 2, 1) := by decide +kernel
theorem dX0_search_34 : decode cX0_search 34 = .ok (.iload 4, 2) := by decide +kernel
theorem dX0_search_36 : decode cX0_search 36 = .ok (.imul, 1) := by decide +kernel
theorem dX0_search_37 : decode cX0_search 37 = .ok (.iconst 1, 1) := by decide +kernel
theorem dX0_search_38 : decode cX0_search 38 = .ok (.iadd, 1) := by decide +kernel
theorem dX0_search_39 : decode cX0_search 39 = .ok (.imul, 1) := by decide +kernel
theorem dX0_search_40 : decode cX0_search 40 = .ok (.iconst 2, 1) := by decide +kernel
theorem dX0_search_41 : decode cX0_search 41 = .ok (.iload 4, 2) := by decide +kernel
theorem dX0_search_43 : decode cX0_search 43 = .ok (.imul, 1) := by decide +kernel
theorem dX0_search_44 : decode cX0_search 44 = .ok (.iconst 1, 1) := by decide +kernel
theorem dX0_search_45 : decode cX0_search 45 = .ok (.iadd, 1) := by decide +kernel
theorem dX0_search_46 : decode cX0_search 46 = .ok (.imul, 1) := by decide +kernel
theorem dX0_search_47 : decode cX0_search 47 = .ok (.istore 5, 2) := by decide +kernel
theorem dX0_search_49 : decode cX0_search 49 = .ok (.aload_n 2, 1) := by decide +kernel
theorem dX0_search_50 : decode cX0_search 50 = .ok (.getfield 48, 3) := by decide +kernel
theorem dX0_search_53 : decode cX0_search 53 = .ok (.ifCond .eq 13, 3) := by decide +kernel
theorem dX0_search_56 : decode cX0_search 56 = .ok (.aload_n 3, 1) := by decide +kernel
theorem dX0_search_57 : decode cX0_search 57 = .ok (.iconst 0, 1) := by decide +kernel
theorem dX0_search_58 : decode cX0_search 58 = .ok (.lconst 0, 1) := by decide +kernel
theorem dX0_search_59 : decode cX0_search 59 = .ok (.iload 5, 2) := by decide +kernel
theorem dX0_search_61 : decode cX0_search 61 = .ok (.i2l, 1) := by decide +kernel
theorem dX0_search_62 : decode cX0_search 62 = .ok (.invokevirtual 51, 3) := by decide +kernel
theorem dX0_search_65 : decode cX0_search 65 = .ok (.return_, 1) := by decide +kernel
theorem dX0_search_66 : decode cX0_search 66 = .ok (.iload 4, 2) := by decide +kernel
theorem dX0_search_68 : decode cX0_search 68 = .ok (.ineg, 1) := by decide +kernel
theorem dX0_search_69 : decode cX0_search 69 = .ok (.istore 6, 2) := by decide +kernel
theorem dX0_search_71 : decode cX0_search 71 = .ok (.iload 6, 2) := by decide +kernel
theorem dX0_search_73 : decode cX0_search 73 = .ok (.iload 4, 2) := by decide +kernel
theorem dX0_search_75 : decode cX0_search 75 = .ok (.if_icmp .ge 23, 3) := by decide +kernel
theorem dX0_search_78 : decode cX0_search 78 = .ok (.aload_n 0, 1) := by decide +kernel
theorem dX0_search_79 : decode cX0_search 79 = .ok (.aload_n 1, 1) := by decide +kernel
theorem dX0_search_80 : decode cX0_search 80 = .ok (.aload_n 2, 1) := by decide +kernel
theorem dX0_search_81 : decode cX0_search 81 = .ok (.iload 6, 2) := by decide +kernel
theorem dX0_search_83 : decode cX0_search 83 = .ok (.bipush 20, 2) := by decide +kernel
theorem dX0_search_85 : decode cX0_search 85 = .ok (.isub, 1) := by decide +kernel
theorem dX0_search_86 : decode cX0_search 86 = .ok (.iload 4, 2) := by decide +kernel
theorem dX0_search_88 : decode cX0_search 88 = .ok (.iconst 1, 1) := by decide +kernel
theorem dX0_search_89 : decode cX0_search 89 = .ok (.invokevirtual 57, 3) := by decide +kernel
theorem dX0_search_92 : decode cX0_search 92 = .ok (.iinc 6 1, 3) := by decide +kernel
theorem dX0_search_95 : decode cX0_search 95 = .ok (.goto (-24), 3) := by decide +kernel
theorem dX0_search_98 : decode cX0_search 98 = .ok (.iconst 0, 1) := by decide +kernel
theorem dX0_search_99 : decode cX0_search 99 = .ok (.istore 6, 2) := by decide +kernel
theorem dX0_search_101 : decode cX0_search 101 = .ok (.iload 6, 2) := by decide +kernel
theorem dX0_search_103 : decode cX0_search 103 = .ok (.bipush 41, 2) := by decide +kernel
theorem dX0_search_105 : decode cX0_search 105 = .ok (.if_icmp .ge 83, 3) := by decide +kernel
theorem dX0_search_108 : decode cX0_search 108 = .ok (.iload 6, 2) := by decide +kernel
theorem dX0_search_110 : decode cX0_search 110 = .ok (.bipush 20, 2) := by decide +kernel
theorem dX0_search_112 : decode cX0_search 112 = .ok (.isub, 1) := by decide +kernel
theorem dX0_search_113 : decode cX0_search 113 = .ok (.istore 7, 2) := by decide +kernel
theorem dX0_search_115 : decode cX0_search 115 = .ok (.aload_n 0, 1) := by decide +kernel
theorem dX0_search_116 : decode cX0_search 116 = .ok (.aload_n 1, 1) := by decide +kernel
theorem dX0_search_117 : decode cX0_search 117 = .ok (.aload_n 2, 1) := by decide +kernel
theorem dX0_search_118 : decode cX0_search 118 = .ok (.iload 7, 2) := by decide +kernel
theorem dX0_search_120 : decode cX0_search 120 = .ok (.iload 4, 2) := by decide +kernel
theorem dX0_search_122 : decode cX0_search 122 = .ok (.iadd, 1) := by decide +kernel
theorem dX0_search_123 : decode cX0_search 123 = .ok (.iload 4, 2) := by decide +kernel
theorem dX0_search_125 : decode cX0_search 125 = .ok (.iconst 1, 1) := by decide +kernel
theorem dX0_search_126 : decode cX0_search 126 = .ok (.invokevirtual 57, 3) := by decide +kernel
theorem dX0_search_129 : decode cX0_search 129 = .ok (.iconst 0, 1) := by decide +kernel
theorem dX0_search_130 : decode cX0_search 130 = .ok (.istore 8, 2) := by decide +kernel
theorem dX0_search_132 : decode cX0_search 132 = .ok (.iload 8, 2) := by decide +kernel
theorem dX0_search_134 : decode cX0_search 134 = .ok (.bipush 41, 2) := by decide +kernel
theorem dX0_search_136 : decode cX0_search 136 = .ok (.if_icmp .ge 32, 3) := by decide +kernel
theorem dX0_search_139 : decode cX0_search 139 = .ok (.aload_n 3, 1) := by decide +kernel
theorem dX0_search_140 : decode cX0_search 140 = .ok (.iload 6, 2) := by decide +kernel
theorem dX0_search_142 : decode cX0_search 142 = .ok (.bipush 41, 2) := by decide +kernel
theorem dX0_search_144 : decode cX0_search 144 = .ok (.imul, 1) := by decide +kernel
theorem dX0_search_145 : decode cX0_search 145 = .ok (.iload 8, 2) := by decide +kernel
theorem dX0_search_147 : decode cX0_search 147 = .ok (.iadd, 1) := by decide +kernel
theorem dX0_search_148 : decode cX0_search 148 = .ok (.aload_n 0, 1) := by decide +kernel
theorem dX0_search_149 : decode cX0_search 149 = .ok (.getfield 9, 3) := by decide +kernel
theorem dX0_search_152 : decode cX0_search 152 = .ok (.iload 8, 2) := by decide +kernel
theorem dX0_search_154 : decode cX0_search 154 = .ok (.iaload, 1) := by decide +kernel
theorem dX0_search_155 : decode cX0_search 155 = .ok (.i2l, 1) := by decide +kernel
theorem dX0_search_156 : decode cX0_search 156 = .ok (.iload 5, 2) := by decide +kernel
theorem dX0_search_158 : decode cX0_search 158 = .ok (.i2l, 1) := by decide +kernel
theorem dX0_search_159 : decode cX0_search 159 = .ok (.invokevirtual 51, 3) := by decide +kernel
theorem dX0_search_162 : decode cX0_search 162 = .ok (.iinc 8 1, 3) := by decide +kernel
theorem dX0_search_165 : decode cX0_search 165 = .ok (.goto (-33), 3) := by decide +kernel
theorem dX0_search_168 : decode cX0_search 168 = .ok (.aload_n 0, 1) := by decide +kernel
theorem dX0_search_169 : decode cX0_search 169 = .ok (.aload_n 1, 1) := by decide +kernel
theorem dX0_search_170 : decode cX0_search 170 = .ok (.aload_n 2, 1) := by decide +kernel
theorem dX0_search_171 : decode cX0_search 171 = .ok (.iload 7, 2) := by decide +kernel
theorem dX0_search_173 : decode cX0_search 173 = .ok (.iload 4, 2) := by decide +kernel
theorem dX0_search_175 : decode cX0_search 175 = .ok (.isub, 1) := by decide +kernel
theorem dX0_search_176 : decode cX0_search 176 = .ok (.iload 4, 2) := by decide +kernel
theorem dX0_search_178 : decode cX0_search 178 = .ok (.iconst (-1), 1) := by decide +kernel
theorem dX0_search_179 : decode cX0_search 179 = .ok (.invokevirtual 57, 3) := by decide +kernel
theorem dX0_search_182 : decode cX0_search 182 = .ok (.iinc 6 1, 3) := by decide +kernel
theorem dX0_search_185 : decode cX0_search 185 = .ok (.goto (-84), 3) := by decide +kernel
theorem dX0_search_188 : decode cX0_search 188 = .ok (.return_, 1) := by decide +kernel
theorem dX2_waysWithOneMore_0 : decode cX2_waysWithOneMore 0 = .ok (.lconst 0, 1) := by decide +kernel
theorem dX2_waysWithOneMore_1 : decode cX2_waysWithOneMore 1 = .ok (.lstore_n 2, 1) := by decide +kernel
theorem dX2_waysWithOneMore_2 : decode cX2_waysWithOneMore 2 = .ok (.iconst 0, 1) := by decide +kernel
theorem dX2_waysWithOneMore_3 : decode cX2_waysWithOneMore 3 = .ok (.istore 4, 2) := by decide +kernel
theorem dX2_waysWithOneMore_5 : decode cX2_waysWithOneMore 5 = .ok (.iload 4, 2) := by decide +kernel
theorem dX2_waysWithOneMore_7 : decode cX2_waysWithOneMore 7 = .ok (.bipush 20, 2) := by decide +kernel
theorem dX2_waysWithOneMore_9 : decode cX2_waysWithOneMore 9 = .ok (.if_icmp .gt 36, 3) := by decide +kernel
theorem dX2_waysWithOneMore_12 : decode cX2_waysWithOneMore 12 = .ok (.iload 4, 2) := by decide +kernel
theorem dX2_waysWithOneMore_14 : decode cX2_waysWithOneMore 14 = .ok (.iload_n 1, 1) := by decide +kernel
theorem dX2_waysWithOneMore_15 : decode cX2_waysWithOneMore 15 = .ok (.if_icmp .gt 30, 3) := by decide +kernel
theorem dX2_waysWithOneMore_18 : decode cX2_waysWithOneMore 18 = .ok (.lload_n 2, 1) := by decide +kernel
theorem dX2_waysWithOneMore_19 : decode cX2_waysWithOneMore 19 = .ok (.aload_n 0, 1) := by decide +kernel
theorem dX2_waysWithOneMore_20 : decode cX2_waysWithOneMore 20 = .ok (.getfield 15, 3) := by decide +kernel
theorem dX2_waysWithOneMore_23 : decode cX2_waysWithOneMore 23 = .ok (.iload_n 1, 1) := by decide +kernel
theorem dX2_waysWithOneMore_24 : decode cX2_waysWithOneMore 24 = .ok (.iload 4, 2) := by decide +kernel
theorem dX2_waysWithOneMore_26 : decode cX2_waysWithOneMore 26 = .ok (.isub, 1) := by decide +kernel
theorem dX2_waysWithOneMore_27 : decode cX2_waysWithOneMore 27 = .ok (.laload, 1) := by decide +kernel
theorem dX2_waysWithOneMore_28 : decode cX2_waysWithOneMore 28 = .ok (.aload_n 0, 1) := by decide +kernel
theorem dX2_waysWithOneMore_29 : decode cX2_waysWithOneMore 29 = .ok (.getfield 9, 3) := by decide +kernel
theorem dX2_waysWithOneMore_32 : decode cX2_waysWithOneMore 32 = .ok (.iload 4, 2) := by decide +kernel
theorem dX2_waysWithOneMore_34 : decode cX2_waysWithOneMore 34 = .ok (.iaload, 1) := by decide +kernel
theorem dX2_waysWithOneMore_35 : decode cX2_waysWithOneMore 35 = .ok (.i2l, 1) := by decide +kernel
theorem dX2_waysWithOneMore_36 : decode cX2_waysWithOneMore 36 = .ok (.lmul, 1) := by decide +kernel
theorem dX2_waysWithOneMore_37 : decode cX2_waysWithOneMore 37 = .ok (.ladd, 1) := by decide +kernel
theorem dX2_waysWithOneMore_38 : decode cX2_waysWithOneMore 38 = .ok (.lstore_n 2, 1) := by decide +kernel
theorem dX2_waysWithOneMore_39 : decode cX2_waysWithOneMore 39 = .ok (.iinc 4 1, 3) := by decide +kernel
theorem dX2_waysWithOneMore_42 : decode cX2_waysWithOneMore 42 = .ok (.goto (-37), 3) := by decide +kernel
theorem dX2_waysWithOneMore_45 : decode cX2_waysWithOneMore 45 = .ok (.lload_n 2, 1) := by decide +kernel
theorem dX2_waysWithOneMore_46 : decode cX2_waysWithOneMore 46 = .ok (.lreturn, 1) := by decide +kernel
theorem dX2_addUp_0 : decode cX2_addUp 0 = .ok (.aload_n 0, 1) := by decide +kernel
theorem dX2_addUp_1 : decode cX2_addUp 1 = .ok (.getfield 15, 3) := by decide +kernel
theorem dX2_addUp_4 : decode cX2_addUp 4 = .ok (.lconst 0, 1) := by decide +kernel
theorem dX2_addUp_5 : decode cX2_addUp 5 = .ok (.invokestatic 73, 3) := by decide +kernel
theorem dX2_addUp_8 : decode cX2_addUp 8 = .ok (.aload_n 0, 1) := by decide +kernel
theorem dX2_addUp_9 : decode cX2_addUp 9 = .ok (.getfield 15, 3) := by decide +kernel
theorem dX2_addUp_12 : decode cX2_addUp 12 = .ok (.iconst 0, 1) := by decide +kernel
theorem dX2_addUp_13 : decode cX2_addUp 13 = .ok (.lconst 1, 1) := by decide +kernel
theorem dX2_addUp_14 : decode cX2_addUp 14 = .ok (.lastore, 1) := by decide +kernel
theorem dX2_addUp_15 : decode cX2_addUp 15 = .ok (.iconst 0, 1) := by decide +kernel
theorem dX2_addUp_16 : decode cX2_addUp 16 = .ok (.istore_n 2, 1) := by decide +kernel
theorem dX2_addUp_17 : decode cX2_addUp 17 = .ok (.iload_n 2, 1) := by decide +kernel
theorem dX2_addUp_18 : decode cX2_addUp 18 = .ok (.iload_n 1, 1) := by decide +kernel
theorem dX2_addUp_19 : decode cX2_addUp 19 = .ok (.if_icmp .ge 33, 3) := by decide +kernel
theorem dX2_addUp_22 : decode cX2_addUp 22 = .ok (.bipush 100, 2) := by decide +kernel
theorem dX2_addUp_24 : decode cX2_addUp 24 = .ok (.istore_n 3, 1) := by decide +kernel
theorem dX2_addUp_25 : decode cX2_addUp 25 = .ok (.iload_n 3, 1) := by decide +kernel
theorem dX2_addUp_26 : decode cX2_addUp 26 = .ok (.ifCond .lt 20, 3) := by decide +kernel
theorem dX2_addUp_29 : decode cX2_addUp 29 = .ok (.aload_n 0, 1) := by decide +kernel
theorem dX2_addUp_30 : decode cX2_addUp 30 = .ok (.getfield 15, 3) := by decide +kernel
theorem dX2_addUp_33 : decode cX2_addUp 33 = .ok (.iload_n 3, 1) := by decide +kernel
theorem dX2_addUp_34 : decode cX2_addUp 34 = .ok (.aload_n 0, 1) := by decide +kernel
theorem dX2_addUp_35 : decode cX2_addUp 35 = .ok (.iload_n 3, 1) := by decide +kernel
theorem dX2_addUp_36 : decode cX2_addUp 36 = .ok (.invokevirtual 76, 3) := by decide +kernel
theorem dX2_addUp_39 : decode cX2_addUp 39 = .ok (.lastore, 1) := by decide +kernel
theorem dX2_addUp_40 : decode cX2_addUp 40 = .ok (.iinc 3 (-1), 3) := by decide +kernel
theorem dX2_addUp_43 : decode cX2_addUp 43 = .ok (.goto (-18), 3) := by decide +kernel
theorem dX2_addUp_46 : decode cX2_addUp 46 = .ok (.iinc 2 1, 3) := by decide +kernel
theorem dX2_addUp_49 : decode cX2_addUp 49 = .ok (.goto (-32), 3) := by decide +kernel
theorem dX2_addUp_52 : decode cX2_addUp 52 = .ok (.return_, 1) := by decide +kernel
theorem dX2_waysAbove_0 : decode cX2_waysAbove 0 = .ok (.lconst 0, 1) := by decide +kernel
theorem dX2_waysAbove_1 : decode cX2_waysAbove 1 = .ok (.lstore_n 2, 1) := by decide +kernel
theorem dX2_waysAbove_2 : decode cX2_waysAbove 2 = .ok (.lconst 0, 1) := by decide +kernel
theorem dX2_waysAbove_3 : decode cX2_waysAbove 3 = .ok (.lstore 4, 2) := by decide +kernel
theorem dX2_waysAbove_5 : decode cX2_waysAbove 5 = .ok (.iconst 0, 1) := by decide +kernel
theorem dX2_waysAbove_6 : decode cX2_waysAbove 6 = .ok (.istore 6, 2) := by decide +kernel
theorem dX2_waysAbove_8 : decode cX2_waysAbove 8 = .ok (.iload 6, 2) := by decide +kernel
theorem dX2_waysAbove_10 : decode cX2_waysAbove 10 = .ok (.bipush 100, 2) := by decide +kernel
theorem dX2_waysAbove_12 : decode cX2_waysAbove 12 = .ok (.if_icmp .gt 34, 3) := by decide +kernel
theorem dX2_waysAbove_15 : decode cX2_waysAbove 15 = .ok (.lload_n 2, 1) := by decide +kernel
theorem dX2_waysAbove_16 : decode cX2_waysAbove 16 = .ok (.aload_n 0, 1) := by decide +kernel
theorem dX2_waysAbove_17 : decode cX2_waysAbove 17 = .ok (.getfield 15, 3) := by decide +kernel
theorem dX2_waysAbove_20 : decode cX2_waysAbove 20 = .ok (.iload 6, 2) := by decide +kernel
theorem dX2_waysAbove_22 : decode cX2_waysAbove 22 = .ok (.laload, 1) := by decide +kernel
theorem dX2_waysAbove_23 : decode cX2_waysAbove 23 = .ok (.lload 4, 2) := by decide +kernel
theorem dX2_waysAbove_25 : decode cX2_waysAbove 25 = .ok (.lmul, 1) := by decide +kernel
theorem dX2_waysAbove_26 : decode cX2_waysAbove 26 = .ok (.ladd, 1) := by decide +kernel
theorem dX2_waysAbove_27 : decode cX2_waysAbove 27 = .ok (.lstore_n 2, 1) := by decide +kernel
theorem dX2_waysAbove_28 : decode cX2_waysAbove 28 = .ok (.lload 4, 2) := by decide +kernel
theorem dX2_waysAbove_30 : decode cX2_waysAbove 30 = .ok (.aload_n 1, 1) := by decide +kernel
theorem dX2_waysAbove_31 : decode cX2_waysAbove 31 = .ok (.getfield 15, 3) := by decide +kernel
theorem dX2_waysAbove_34 : decode cX2_waysAbove 34 = .ok (.iload 6, 2) := by decide +kernel
theorem dX2_waysAbove_36 : decode cX2_waysAbove 36 = .ok (.laload, 1) := by decide +kernel
theorem dX2_waysAbove_37 : decode cX2_waysAbove 37 = .ok (.ladd, 1) := by decide +kernel
theorem dX2_waysAbove_38 : decode cX2_waysAbove 38 = .ok (.lstore 4, 2) := by decide +kernel
theorem dX2_waysAbove_40 : decode cX2_waysAbove 40 = .ok (.iinc 6 1, 3) := by decide +kernel
theorem dX2_waysAbove_43 : decode cX2_waysAbove 43 = .ok (.goto (-35), 3) := by decide +kernel
theorem dX2_waysAbove_46 : decode cX2_waysAbove 46 = .ok (.lload_n 2, 1) := by decide +kernel
theorem dX2_waysAbove_47 : decode cX2_waysAbove 47 = .ok (.lreturn, 1) := by decide +kernel
theorem dX2_allWays_0 : decode cX2_allWays 0 = .ok (.lconst 0, 1) := by decide +kernel
theorem dX2_allWays_1 : decode cX2_allWays 1 = .ok (.lstore_n 1, 1) := by decide +kernel
theorem dX2_allWays_2 : decode cX2_allWays 2 = .ok (.iconst 0, 1) := by decide +kernel
theorem dX2_allWays_3 : decode cX2_allWays 3 = .ok (.istore_n 3, 1) := by decide +kernel
theorem dX2_allWays_4 : decode cX2_allWays 4 = .ok (.iload_n 3, 1) := by decide +kernel
theorem dX2_allWays_5 : decode cX2_allWays 5 = .ok (.bipush 100, 2) := by decide +kernel
theorem dX2_allWays_7 : decode cX2_allWays 7 = .ok (.if_icmp .gt 18, 3) := by decide +kernel
theorem dX2_allWays_10 : decode cX2_allWays 10 = .ok (.lload_n 1, 1) := by decide +kernel
theorem dX2_allWays_11 : decode cX2_allWays 11 = .ok (.aload_n 0, 1) := by decide +kernel
theorem dX2_allWays_12 : decode cX2_allWays 12 = .ok (.getfield 15, 3) := by decide +kernel
theorem dX2_allWays_15 : decode cX2_allWays 15 = .ok (.iload_n 3, 1) := by decide +kernel
theorem dX2_allWays_16 : decode cX2_allWays 16 = .ok (.laload, 1) := by decide +kernel
theorem dX2_allWays_17 : decode cX2_allWays 17 = .ok (.ladd, 1) := by decide +kernel
theorem dX2_allWays_18 : decode cX2_allWays 18 = .ok (.lstore_n 1, 1) := by decide +kernel
theorem dX2_allWays_19 : decode cX2_allWays 19 = .ok (.iinc 3 1, 3) := by decide +kernel
theorem dX2_allWays_22 : decode cX2_allWays 22 = .ok (.goto (-18), 3) := by decide +kernel
theorem dX2_allWays_25 : decode cX2_allWays 25 = .ok (.lload_n 1, 1) := by decide +kernel
theorem dX2_allWays_26 : decode cX2_allWays 26 = .ok (.lreturn, 1) := by decide +kernel
theorem dX7_spreadTop_0 : decode cX7_spreadTop 0 = .ok (.aload_n 0, 1) := by decide +kernel
theorem dX7_spreadTop_1 : decode cX7_spreadTop 1 = .ok (.getfield 69, 3) := by decide +kernel
theorem dX7_spreadTop_4 : decode cX7_spreadTop 4 = .ok (.i2l, 1) := by decide +kernel
theorem dX7_spreadTop_5 : decode cX7_spreadTop 5 = .ok (.aload_n 0, 1) := by decide +kernel
theorem dX7_spreadTop_6 : decode cX7_spreadTop 6 = .ok (.getfield 79, 3) := by decide +kernel
theorem dX7_spreadTop_9 : decode cX7_spreadTop 9 = .ok (.lmul, 1) := by decide +kernel
theorem dX7_spreadTop_10 : decode cX7_spreadTop 10 = .ok (.aload_n 0, 1) := by decide +kernel
theorem dX7_spreadTop_11 : decode cX7_spreadTop 11 = .ok (.getfield 72, 3) := by decide +kernel
theorem dX7_spreadTop_14 : decode cX7_spreadTop 14 = .ok (.aload_n 0, 1) := by decide +kernel
theorem dX7_spreadTop_15 : decode cX7_spreadTop 15 = .ok (.getfield 72, 3) := by decide +kernel
theorem dX7_spreadTop_18 : decode cX7_spreadTop 18 = .ok (.lmul, 1) := by decide +kernel
theorem dX7_spreadTop_19 : decode cX7_spreadTop 19 = .ok (.lsub, 1) := by decide +kernel
theorem dX7_spreadTop_20 : decode cX7_spreadTop 20 = .ok (.aload_n 0, 1) := by decide +kernel
theorem dX7_spreadTop_21 : decode cX7_spreadTop 21 = .ok (.getfield 76, 3) := by decide +kernel
theorem dX7_spreadTop_24 : decode cX7_spreadTop 24 = .ok (.aload_n 0, 1) := by decide +kernel
theorem dX7_spreadTop_25 : decode cX7_spreadTop 25 = .ok (.getfield 76, 3) := by decide +kernel
theorem dX7_spreadTop_28 : decode cX7_spreadTop 28 = .ok (.lmul, 1) := by decide +kernel
theorem dX7_spreadTop_29 : decode cX7_spreadTop 29 = .ok (.lsub, 1) := by decide +kernel
theorem dX7_spreadTop_30 : decode cX7_spreadTop 30 = .ok (.lreturn, 1) := by decide +kernel
theorem dX7_spreadBottom_0 : decode cX7_spreadBottom 0 = .ok (.aload_n 0, 1) := by decide +kernel
theorem dX7_spreadBottom_1 : decode cX7_spreadBottom 1 = .ok (.getfield 69, 3) := by decide +kernel
theorem dX7_spreadBottom_4 : decode cX7_spreadBottom 4 = .ok (.i2l, 1) := by decide +kernel
theorem dX7_spreadBottom_5 : decode cX7_spreadBottom 5 = .ok (.aload_n 0, 1) := by decide +kernel
theorem dX7_spreadBottom_6 : decode cX7_spreadBottom 6 = .ok (.getfield 69, 3) := by decide +kernel
theorem dX7_spreadBottom_9 : decode cX7_spreadBottom 9 = .ok (.i2l, 1) := by decide +kernel
theorem dX7_spreadBottom_10 : decode cX7_spreadBottom 10 = .ok (.lmul, 1) := by decide +kernel
theorem dX7_spreadBottom_11 : decode cX7_spreadBottom 11 = .ok (.lreturn, 1) := by decide +kernel
theorem dX7_distanceTop_0 : decode cX7_distanceTop 0 = .ok (.aload_n 0, 1) := by decide +kernel
theorem dX7_distanceTop_1 : decode cX7_distanceTop 1 = .ok (.getfield 69, 3) := by decide +kernel
theorem dX7_distanceTop_4 : decode cX7_distanceTop 4 = .ok (.i2l, 1) := by decide +kernel
theorem dX7_distanceTop_5 : decode cX7_distanceTop 5 = .ok (.iload_n 1, 1) := by decide +kernel
theorem dX7_distanceTop_6 : decode cX7_distanceTop 6 = .ok (.i2l, 1) := by decide +kernel
theorem dX7_distanceTop_7 : decode cX7_distanceTop 7 = .ok (.lmul, 1) := by decide +kernel
theorem dX7_distanceTop_8 : decode cX7_distanceTop 8 = .ok (.aload_n 0, 1) := by decide +kernel
theorem dX7_distanceTop_9 : decode cX7_distanceTop 9 = .ok (.getfield 72, 3) := by decide +kernel
theorem dX7_distanceTop_12 : decode cX7_distanceTop 12 = .ok (.lsub, 1) := by decide +kernel
theorem dX7_distanceTop_13 : decode cX7_distanceTop 13 = .ok (.lstore_n 3, 1) := by decide +kernel
theorem dX7_distanceTop_14 : decode cX7_distanceTop 14 = .ok (.aload_n 0, 1) := by decide +kernel
theorem dX7_distanceTop_15 : decode cX7_distanceTop 15 = .ok (.getfield 69, 3) := by decide +kernel
theorem dX7_distanceTop_18 : decode cX7_distanceTop 18 = .ok (.i2l, 1) := by decide +kernel
theorem dX7_distanceTop_19 : decode cX7_distanceTop 19 = .ok (.iload_n 2, 1) := by decide +kernel
theorem dX7_distanceTop_20 : decode cX7_distanceTop 20 = .ok (.i2l, 1) := by decide +kernel
theorem dX7_distanceTop_21 : decode cX7_distanceTop 21 = .ok (.lmul, 1) := by decide +kernel
theorem dX7_distanceTop_22 : decode cX7_distanceTop 22 = .ok (.aload_n 0, 1) := by decide +kernel
theorem dX7_distanceTop_23 : decode cX7_distanceTop 23 = .ok (.getfield 76, 3) := by decide +kernel
theorem dX7_distanceTop_26 : decode cX7_distanceTop 26 = .ok (.lsub, 1) := by decide +kernel
theorem dX7_distanceTop_27 : decode cX7_distanceTop 27 = .ok (.lstore 5, 2) := by decide +kernel
theorem dX7_distanceTop_29 : decode cX7_distanceTop 29 = .ok (.lload_n 3, 1) := by decide +kernel
theorem dX7_distanceTop_30 : decode cX7_distanceTop 30 = .ok (.lload_n 3, 1) := by decide +kernel
theorem dX7_distanceTop_31 : decode cX7_distanceTop 31 = .ok (.lmul, 1) := by decide +kernel
theorem dX7_distanceTop_32 : decode cX7_distanceTop 32 = .ok (.lload 5, 2) := by decide +kernel
theorem dX7_distanceTop_34 : decode cX7_distanceTop 34 = .ok (.lload 5, 2) := by decide +kernel
theorem dX7_distanceTop_36 : decode cX7_distanceTop 36 = .ok (.lmul, 1) := by decide +kernel
theorem dX7_distanceTop_37 : decode cX7_distanceTop 37 = .ok (.ladd, 1) := by decide +kernel
theorem dX7_distanceTop_38 : decode cX7_distanceTop 38 = .ok (.lreturn, 1) := by decide +kernel
theorem dX7_couples_0 : decode cX7_couples 0 = .ok (.iconst 0, 1) := by decide +kernel
theorem dX7_couples_1 : decode cX7_couples 1 = .ok (.istore_n 1, 1) := by decide +kernel
theorem dX7_couples_2 : decode cX7_couples 2 = .ok (.iconst 0, 1) := by decide +kernel
theorem dX7_couples_3 : decode cX7_couples 3 = .ok (.istore_n 2, 1) := by decide +kernel
theorem dX7_couples_4 : decode cX7_couples 4 = .ok (.iload_n 2, 1) := by decide +kernel
theorem dX7_couples_5 : decode cX7_couples 5 = .ok (.aload_n 0, 1) := by decide +kernel
theorem dX7_couples_6 : decode cX7_couples 6 = .ok (.getfield 31, 3) := by decide +kernel
theorem dX7_couples_9 : decode cX7_couples 9 = .ok (.if_icmp .ge 60, 3) := by decide +kernel
theorem dX7_couples_12 : decode cX7_couples 12 = .ok (.iload_n 2, 1) := by decide +kernel
theorem dX7_couples_13 : decode cX7_couples 13 = .ok (.iconst 1, 1) := by decide +kernel
theorem dX7_couples_14 : decode cX7_couples 14 = .ok (.iadd, 1) := by decide +kernel
theorem dX7_couples_15 : decode cX7_couples 15 = .ok (.istore_n 3, 1) := by decide +kernel
theorem dX7_couples_16 : decode cX7_couples 16 = .ok (.iload_n 3, 1) := by decide +kernel
theorem dX7_couples_17 : decode cX7_couples 17 = .ok (.aload_n 0, 1) := by decide +kernel
theorem dX7_couples_18 : decode cX7_couples 18 = .ok (.getfield 31, 3) := by decide +kernel
theorem dX7_couples_21 : decode cX7_couples 21 = .ok (.if_icmp .ge 42, 3) := by decide +kernel
theorem dX7_couples_24 : decode cX7_couples 24 = .ok (.aload_n 0, 1) := by decide +kernel
theorem dX7_couples_25 : decode cX7_couples 25 = .ok (.getfield 9, 3) := by decide +kernel
theorem dX7_couples_28 : decode cX7_couples 28 = .ok (.iload_n 2, 1) := by decide +kernel
theorem dX7_couples_29 : decode cX7_couples 29 = .ok (.iaload, 1) := by decide +kernel
theorem dX7_couples_30 : decode cX7_couples 30 = .ok (.aload_n 0, 1) := by decide +kernel
theorem dX7_couples_31 : decode cX7_couples 31 = .ok (.getfield 9, 3) := by decide +kernel
theorem dX7_couples_34 : decode cX7_couples 34 = .ok (.iload_n 3, 1) := by decide +kernel
theorem dX7_couples_35 : decode cX7_couples 35 = .ok (.iaload, 1) := by decide +kernel
theorem dX7_couples_36 : decode cX7_couples 36 = .ok (.if_icmp .ne 21, 3) := by decide +kernel
theorem dX7_couples_39 : decode cX7_couples 39 = .ok (.aload_n 0, 1) := by decide +kernel
theorem dX7_couples_40 : decode cX7_couples 40 = .ok (.getfield 15, 3) := by decide +kernel
theorem dX7_couples_43 : decode cX7_couples 43 = .ok (.iload_n 2, 1) := by decide +kernel
theorem dX7_couples_44 : decode cX7_couples 44 = .ok (.iaload, 1) := by decide +kernel
theorem dX7_couples_45 : decode cX7_couples 45 = .ok (.aload_n 0, 1) := by decide +kernel
theorem dX7_couples_46 : decode cX7_couples 46 = .ok (.getfield 15, 3) := by decide +kernel
theorem dX7_couples_49 : decode cX7_couples 49 = .ok (.iload_n 3, 1) := by decide +kernel
theorem dX7_couples_50 : decode cX7_couples 50 = .ok (.iaload, 1) := by decide +kernel
theorem dX7_couples_51 : decode cX7_couples 51 = .ok (.if_icmp .ne 6, 3) := by decide +kernel
theorem dX7_couples_54 : decode cX7_couples 54 = .ok (.iinc 1 1, 3) := by decide +kernel
theorem dX7_couples_57 : decode cX7_couples 57 = .ok (.iinc 3 1, 3) := by decide +kernel
theorem dX7_couples_60 : decode cX7_couples 60 = .ok (.goto (-44), 3) := by decide +kernel
theorem dX7_couples_63 : decode cX7_couples 63 = .ok (.iinc 2 1, 3) := by decide +kernel
theorem dX7_couples_66 : decode cX7_couples 66 = .ok (.goto (-62), 3) := by decide +kernel
theorem dX7_couples_69 : decode cX7_couples 69 = .ok (.iload_n 1, 1) := by decide +kernel
theorem dX7_couples_70 : decode cX7_couples 70 = .ok (.ireturn, 1) := by decide +kernel
theorem dX7_strike_0 : decode cX7_strike 0 = .ok (.aload_n 1, 1) := by decide +kernel
theorem dX7_strike_1 : decode cX7_strike 1 = .ok (.iload_n 3, 1) := by decide +kernel
theorem dX7_strike_2 : decode cX7_strike 2 = .ok (.iload 4, 2) := by decide +kernel
theorem dX7_strike_4 : decode cX7_strike 4 = .ok (.invokevirtual 46, 3) := by decide +kernel
theorem dX7_strike_7 : decode cX7_strike 7 = .ok (.istore 5, 2) := by decide +kernel
theorem dX7_strike_9 : decode cX7_strike 9 = .ok (.aload_n 0, 1) := by decide +kernel
theorem dX7_strike_10 : decode cX7_strike 10 = .ok (.getfield 24, 3) := by decide +kernel
theorem dX7_strike_13 : decode cX7_strike 13 = .ok (.aload_n 2, 1) := by decide +kernel
theorem dX7_strike_14 : decode cX7_strike 14 = .ok (.getfield 52, 3) := by decide +kernel
theorem dX7_strike_17 : decode cX7_strike 17 = .ok (.dup2, 1) := by decide +kernel
theorem dX7_strike_18 : decode cX7_strike 18 = .ok (.iaload, 1) := by decide +kernel
theorem dX7_strike_19 : decode cX7_strike 19 = .ok (.iload 5, 2) := by decide +kernel
theorem dX7_strike_21 : decode cX7_strike 21 = .ok (.iadd, 1) := by decide +kernel
theorem dX7_strike_22 : decode cX7_strike 22 = .ok (.iastore, 1) := by decide +kernel
theorem dX7_strike_23 : decode cX7_strike 23 = .ok (.aload_n 0, 1) := by decide +kernel
theorem dX7_strike_24 : decode cX7_strike 24 = .ok (.bipush 20, 2) := by decide +kernel
theorem dX7_strike_26 : decode cX7_strike 26 = .ok (.aload_n 0, 1) := by decide +kernel
theorem dX7_strike_27 : decode cX7_strike 27 = .ok (.getfield 27, 3) := by decide +kernel
theorem dX7_strike_30 : decode cX7_strike 30 = .ok (.iconst 1, 1) := by decide +kernel
theorem dX7_strike_31 : decode cX7_strike 31 = .ok (.iadd, 1) := by decide +kernel
theorem dX7_strike_32 : decode cX7_strike 32 = .ok (.invokestatic 57, 3) := by decide +kernel
theorem dX7_strike_35 : decode cX7_strike 35 = .ok (.putfield 27, 3) := by decide +kernel
theorem dX7_strike_38 : decode cX7_strike 38 = .ok (.iload_n 3, 1) := by decide +kernel
theorem dX7_strike_39 : decode cX7_strike 39 = .ok (.bipush (-99), 2) := by decide +kernel
theorem dX7_strike_41 : decode cX7_strike 41 = .ok (.bipush 99, 2) := by decide +kernel
theorem dX7_strike_43 : decode cX7_strike 43 = .ok (.invokestatic 62, 3) := by decide +kernel
theorem dX7_strike_46 : decode cX7_strike 46 = .ok (.ifCond .eq 81, 3) := by decide +kernel
theorem dX7_strike_49 : decode cX7_strike 49 = .ok (.iload 4, 2) := by decide +kernel
theorem dX7_strike_51 : decode cX7_strike 51 = .ok (.bipush (-99), 2) := by decide +kernel
theorem dX7_strike_53 : decode cX7_strike 53 = .ok (.bipush 99, 2) := by decide +kernel
theorem dX7_strike_55 : decode cX7_strike 55 = .ok (.invokestatic 62, 3) := by decide +kernel
theorem dX7_strike_58 : decode cX7_strike 58 = .ok (.ifCond .eq 69, 3) := by decide +kernel
theorem dX7_strike_61 : decode cX7_strike 61 = .ok (.aload_n 0, 1) := by decide +kernel
theorem dX7_strike_62 : decode cX7_strike 62 = .ok (.getfield 31, 3) := by decide +kernel
theorem dX7_strike_65 : decode cX7_strike 65 = .ok (.bipush 60, 2) := by decide +kernel
theorem dX7_strike_67 : decode cX7_strike 67 = .ok (.if_icmp .ge 60, 3) := by decide +kernel
theorem dX7_strike_70 : decode cX7_strike 70 = .ok (.aload_n 0, 1) := by decide +kernel
theorem dX7_strike_71 : decode cX7_strike 71 = .ok (.getfield 9, 3) := by decide +kernel
theorem dX7_strike_74 : decode cX7_strike 74 = .ok (.aload_n 0, 1) := by decide +kernel
theorem dX7_strike_75 : decode cX7_strike 75 = .ok (.getfield 31, 3) := by decide +kernel
theorem dX7_strike_78 : decode cX7_strike 78 = .ok (.iload_n 3, 1) := by decide +kernel
theorem dX7_strike_79 : decode cX7_strike 79 = .ok (.iastore, 1) := by decide +kernel
theorem dX7_strike_80 : decode cX7_strike 80 = .ok (.aload_n 0, 1) := by decide +kernel
theorem dX7_strike_81 : decode cX7_strike 81 = .ok (.getfield 15, 3) := by decide +kernel
theorem dX7_strike_84 : decode cX7_strike 84 = .ok (.aload_n 0, 1) := by decide +kernel
theorem dX7_strike_85 : decode cX7_strike 85 = .ok (.getfield 31, 3) := by decide +kernel
theorem dX7_strike_88 : decode cX7_strike 88 = .ok (.iload 4, 2) := by decide +kernel
theorem dX7_strike_90 : decode cX7_strike 90 = .ok (.iastore, 1) := by decide +kernel
theorem dX7_strike_91 : decode cX7_strike 91 = .ok (.aload_n 0, 1) := by decide +kernel
theorem dX7_strike_92 : decode cX7_strike 92 = .ok (.getfield 18, 3) := by decide +kernel
theorem dX7_strike_95 : decode cX7_strike 95 = .ok (.aload_n 0, 1) := by decide +kernel
theorem dX7_strike_96 : decode cX7_strike 96 = .ok (.getfield 31, 3) := by decide +kernel
theorem dX7_strike_99 : decode cX7_strike 99 = .ok (.aload_n 2, 1) := by decide +kernel
theorem dX7_strike_100 : decode cX7_strike 100 = .ok (.getfield 52, 3) := by decide +kernel
theorem dX7_strike_103 : decode cX7_strike 103 = .ok (.iastore, 1) := by decide +kernel
theorem dX7_strike_104 : decode cX7_strike 104 = .ok (.aload_n 0, 1) := by decide +kernel
theorem dX7_strike_105 : decode cX7_strike 105 = .ok (.getfield 21, 3) := by decide +kernel
theorem dX7_strike_108 : decode cX7_strike 108 = .ok (.aload_n 0, 1) := by decide +kernel
theorem dX7_strike_109 : decode cX7_strike 109 = .ok (.getfield 31, 3) := by decide +kernel
theorem dX7_strike_112 : decode cX7_strike 112 = .ok (.aload_n 2, 1) := by decide +kernel
theorem dX7_strike_113 : decode cX7_strike 113 = .ok (.getfield 66, 3) := by decide +kernel
theorem dX7_strike_116 : decode cX7_strike 116 = .ok (.iastore, 1) := by decide +kernel
theorem dX7_strike_117 : decode cX7_strike 117 = .ok (.aload_n 0, 1) := by decide +kernel
theorem dX7_strike_118 : decode cX7_strike 118 = .ok (.dup, 1) := by decide +kernel
theorem dX7_strike_119 : decode cX7_strike 119 = .ok (.getfield 31, 3) := by decide +kernel
theorem dX7_strike_122 : decode cX7_strike 122 = .ok (.iconst 1, 1) := by decide +kernel
theorem dX7_strike_123 : decode cX7_strike 123 = .ok (.iadd, 1) := by decide +kernel
theorem dX7_strike_124 : decode cX7_strike 124 = .ok (.putfield 31, 3) := by decide +kernel
theorem dX7_strike_127 : decode cX7_strike 127 = .ok (.iload 5, 2) := by decide +kernel
theorem dX7_strike_129 : decode cX7_strike 129 = .ok (.ireturn, 1) := by decide +kernel
theorem dX4_begin_0 : decode cX4_begin 0 = .ok (.aload_n 0, 1) := by decide +kernel
theorem dX4_begin_1 : decode cX4_begin 1 = .ok (.iconst 1, 1) := by decide +kernel
theorem dX4_begin_2 : decode cX4_begin 2 = .ok (.putfield 24, 3) := by decide +kernel
theorem dX4_begin_5 : decode cX4_begin 5 = .ok (.aload_n 0, 1) := by decide +kernel
theorem dX4_begin_6 : decode cX4_begin 6 = .ok (.iconst 0, 1) := by decide +kernel
theorem dX4_begin_7 : decode cX4_begin 7 = .ok (.putfield 28, 3) := by decide +kernel
theorem dX4_begin_10 : decode cX4_begin 10 = .ok (.aload_n 0, 1) := by decide +kernel
theorem dX4_begin_11 : decode cX4_begin 11 = .ok (.iconst 0, 1) := by decide +kernel
theorem dX4_begin_12 : decode cX4_begin 12 = .ok (.putfield 32, 3) := by decide +kernel
theorem dX4_begin_15 : decode cX4_begin 15 = .ok (.aload_n 0, 1) := by decide +kernel
theorem dX4_begin_16 : decode cX4_begin 16 = .ok (.iconst 0, 1) := by decide +kernel
theorem dX4_begin_17 : decode cX4_begin 17 = .ok (.putfield 35, 3) := by decide +kernel
theorem dX4_begin_20 : decode cX4_begin 20 = .ok (.aload_n 0, 1) := by decide +kernel
theorem dX4_begin_21 : decode cX4_begin 21 = .ok (.iconst 0, 1) := by decide +kernel
theorem dX4_begin_22 : decode cX4_begin 22 = .ok (.putfield 38, 3) := by decide +kernel
theorem dX4_begin_25 : decode cX4_begin 25 = .ok (.aload_n 0, 1) := by decide +kernel
theorem dX4_begin_26 : decode cX4_begin 26 = .ok (.iconst 0, 1) := by decide +kernel
theorem dX4_begin_27 : decode cX4_begin 27 = .ok (.putfield 41, 3) := by decide +kernel
theorem dX4_begin_30 : decode cX4_begin 30 = .ok (.aload_n 0, 1) := by decide +kernel
theorem dX4_begin_31 : decode cX4_begin 31 = .ok (.iconst 0, 1) := by decide +kernel
theorem dX4_begin_32 : decode cX4_begin 32 = .ok (.putfield 44, 3) := by decide +kernel
theorem dX4_begin_35 : decode cX4_begin 35 = .ok (.aload_n 0, 1) := by decide +kernel
theorem dX4_begin_36 : decode cX4_begin 36 = .ok (.iload_n 1, 1) := by decide +kernel
theorem dX4_begin_37 : decode cX4_begin 37 = .ok (.putfield 47, 3) := by decide +kernel
theorem dX4_begin_40 : decode cX4_begin 40 = .ok (.aload_n 0, 1) := by decide +kernel
theorem dX4_begin_41 : decode cX4_begin 41 = .ok (.iconst 0, 1) := by decide +kernel
theorem dX4_begin_42 : decode cX4_begin 42 = .ok (.putfield 50, 3) := by decide +kernel
theorem dX4_begin_45 : decode cX4_begin 45 = .ok (.aload_n 0, 1) := by decide +kernel
theorem dX4_begin_46 : decode cX4_begin 46 = .ok (.bipush 20, 2) := by decide +kernel
theorem dX4_begin_48 : decode cX4_begin 48 = .ok (.putfield 53, 3) := by decide +kernel
theorem dX4_begin_51 : decode cX4_begin 51 = .ok (.aload_n 0, 1) := by decide +kernel
theorem dX4_begin_52 : decode cX4_begin 52 = .ok (.getfield 20, 3) := by decide +kernel
theorem dX4_begin_55 : decode cX4_begin 55 = .ok (.iconst 0, 1) := by decide +kernel
theorem dX4_begin_56 : decode cX4_begin 56 = .ok (.putfield 56, 3) := by decide +kernel
theorem dX4_begin_59 : decode cX4_begin 59 = .ok (.aload_n 0, 1) := by decide +kernel
theorem dX4_begin_60 : decode cX4_begin 60 = .ok (.getfield 20, 3) := by decide +kernel
theorem dX4_begin_63 : decode cX4_begin 63 = .ok (.iconst 0, 1) := by decide +kernel
theorem dX4_begin_64 : decode cX4_begin 64 = .ok (.putfield 59, 3) := by decide +kernel
theorem dX4_begin_67 : decode cX4_begin 67 = .ok (.aload_n 0, 1) := by decide +kernel
theorem dX4_begin_68 : decode cX4_begin 68 = .ok (.getfield 20, 3) := by decide +kernel
theorem dX4_begin_71 : decode cX4_begin 71 = .ok (.iconst 0, 1) := by decide +kernel
theorem dX4_begin_72 : decode cX4_begin 72 = .ok (.putfield 62, 3) := by decide +kernel
theorem dX4_begin_75 : decode cX4_begin 75 = .ok (.return_, 1) := by decide +kernel
theorem dX4_behindEnd_0 : decode cX4_behindEnd 0 = .ok (.aload_n 1, 1) := by decide +kernel
theorem dX4_behindEnd_1 : decode cX4_behindEnd 1 = .ok (.getfield 84, 3) := by decide +kernel
theorem dX4_behindEnd_4 : decode cX4_behindEnd 4 = .ok (.iload_n 2, 1) := by decide +kernel
theorem dX4_behindEnd_5 : decode cX4_behindEnd 5 = .ok (.iaload, 1) := by decide +kernel
theorem dX4_behindEnd_6 : decode cX4_behindEnd 6 = .ok (.istore_n 3, 1) := by decide +kernel
theorem dX4_behindEnd_7 : decode cX4_behindEnd 7 = .ok (.iload_n 3, 1) := by decide +kernel
theorem dX4_behindEnd_8 : decode cX4_behindEnd 8 = .ok (.iconst 0, 1) := by decide +kernel
theorem dX4_behindEnd_9 : decode cX4_behindEnd 9 = .ok (.iload_n 2, 1) := by decide +kernel
theorem dX4_behindEnd_10 : decode cX4_behindEnd 10 = .ok (.iconst 1, 1) := by decide +kernel
theorem dX4_behindEnd_11 : decode cX4_behindEnd 11 = .ok (.isub, 1) := by decide +kernel
theorem dX4_behindEnd_12 : decode cX4_behindEnd 12 = .ok (.invokestatic 91, 3) := by decide +kernel
theorem dX4_behindEnd_15 : decode cX4_behindEnd 15 = .ok (.ifCond .eq 37, 3) := by decide +kernel
theorem dX4_behindEnd_18 : decode cX4_behindEnd 18 = .ok (.aload_n 1, 1) := by decide +kernel
theorem dX4_behindEnd_19 : decode cX4_behindEnd 19 = .ok (.getfield 73, 3) := by decide +kernel
theorem dX4_behindEnd_22 : decode cX4_behindEnd 22 = .ok (.iload_n 3, 1) := by decide +kernel
theorem dX4_behindEnd_23 : decode cX4_behindEnd 23 = .ok (.iaload, 1) := by decide +kernel
theorem dX4_behindEnd_24 : decode cX4_behindEnd 24 = .ok (.bipush 27, 2) := by decide +kernel
theorem dX4_behindEnd_26 : decode cX4_behindEnd 26 = .ok (.if_icmp .ne 26, 3) := by decide +kernel
theorem dX4_behindEnd_29 : decode cX4_behindEnd 29 = .ok (.aload_n 0, 1) := by decide +kernel
theorem dX4_behindEnd_30 : decode cX4_behindEnd 30 = .ok (.getfield 11, 3) := by decide +kernel
theorem dX4_behindEnd_33 : decode cX4_behindEnd 33 = .ok (.iload_n 3, 1) := by decide +kernel
theorem dX4_behindEnd_34 : decode cX4_behindEnd 34 = .ok (.dup2, 1) := by decide +kernel
theorem dX4_behindEnd_35 : decode cX4_behindEnd 35 = .ok (.iaload, 1) := by decide +kernel
theorem dX4_behindEnd_36 : decode cX4_behindEnd 36 = .ok (.iconst 1, 1) := by decide +kernel
theorem dX4_behindEnd_37 : decode cX4_behindEnd 37 = .ok (.isub, 1) := by decide +kernel
theorem dX4_behindEnd_38 : decode cX4_behindEnd 38 = .ok (.iastore, 1) := by decide +kernel
theorem dX4_behindEnd_39 : decode cX4_behindEnd 39 = .ok (.aload_n 0, 1) := by decide +kernel
theorem dX4_behindEnd_40 : decode cX4_behindEnd 40 = .ok (.getfield 11, 3) := by decide +kernel
theorem dX4_behindEnd_43 : decode cX4_behindEnd 43 = .ok (.iload_n 3, 1) := by decide +kernel
theorem dX4_behindEnd_44 : decode cX4_behindEnd 44 = .ok (.iaload, 1) := by decide +kernel
theorem dX4_behindEnd_45 : decode cX4_behindEnd 45 = .ok (.ifCond .le 7, 3) := by decide +kernel
theorem dX4_behindEnd_48 : decode cX4_behindEnd 48 = .ok (.iload_n 3, 1) := by decide +kernel
theorem dX4_behindEnd_49 : decode cX4_behindEnd 49 = .ok (.iconst 1, 1) := by decide +kernel
theorem dX4_behindEnd_50 : decode cX4_behindEnd 50 = .ok (.iadd, 1) := by decide +kernel
theorem dX4_behindEnd_51 : decode cX4_behindEnd 51 = .ok (.ireturn, 1) := by decide +kernel
theorem dX4_behindEnd_52 : decode cX4_behindEnd 52 = .ok (.iload_n 2, 1) := by decide +kernel
theorem dX4_behindEnd_53 : decode cX4_behindEnd 53 = .ok (.iconst 1, 1) := by decide +kernel
theorem dX4_behindEnd_54 : decode cX4_behindEnd 54 = .ok (.iadd, 1) := by decide +kernel
theorem dX4_behindEnd_55 : decode cX4_behindEnd 55 = .ok (.ireturn, 1) := by decide +kernel
theorem dX4_holds_0 : decode cX4_holds 0 = .ok (.aload_n 0, 1) := by decide +kernel
theorem dX4_holds_1 : decode cX4_holds 1 = .ok (.getfield 95, 3) := by decide +kernel
theorem dX4_holds_4 : decode cX4_holds 4 = .ok (.iload_n 1, 1) := by decide +kernel
theorem dX4_holds_5 : decode cX4_holds 5 = .ok (.iaload, 1) := by decide +kernel
theorem dX4_holds_6 : decode cX4_holds 6 = .ok (.istore_n 3, 1) := by decide +kernel
theorem dX4_holds_7 : decode cX4_holds 7 = .ok (.iconst 0, 1) := by decide +kernel
theorem dX4_holds_8 : decode cX4_holds 8 = .ok (.istore 4, 2) := by decide +kernel
theorem dX4_holds_10 : decode cX4_holds 10 = .ok (.iload_n 3, 1) := by decide +kernel
theorem dX4_holds_11 : decode cX4_holds 11 = .ok (.iconst (-1), 1) := by decide +kernel
theorem dX4_holds_12 : decode cX4_holds 12 = .ok (.if_icmp .ne 12, 3) := by decide +kernel
theorem dX4_holds_15 : decode cX4_holds 15 = .ok (.aload_n 2, 1) := by decide +kernel
theorem dX4_holds_16 : decode cX4_holds 16 = .ok (.getfield 98, 3) := by decide +kernel
theorem dX4_holds_19 : decode cX4_holds 19 = .ok (.istore 4, 2) := by decide +kernel
theorem dX4_holds_21 : decode cX4_holds 21 = .ok (.goto 35, 3) := by decide +kernel
theorem dX4_holds_24 : decode cX4_holds 24 = .ok (.iload_n 3, 1) := by decide +kernel
theorem dX4_holds_25 : decode cX4_holds 25 = .ok (.bipush (-2), 2) := by decide +kernel
theorem dX4_holds_27 : decode cX4_holds 27 = .ok (.if_icmp .ne 12, 3) := by decide +kernel
theorem dX4_holds_30 : decode cX4_holds 30 = .ok (.aload_n 2, 1) := by decide +kernel
theorem dX4_holds_31 : decode cX4_holds 31 = .ok (.getfield 103, 3) := by decide +kernel
theorem dX4_holds_34 : decode cX4_holds 34 = .ok (.istore 4, 2) := by decide +kernel
theorem dX4_holds_36 : decode cX4_holds 36 = .ok (.goto 20, 3) := by decide +kernel
theorem dX4_holds_39 : decode cX4_holds 39 = .ok (.iload_n 3, 1) := by decide +kernel
theorem dX4_holds_40 : decode cX4_holds 40 = .ok (.iconst 0, 1) := by decide +kernel
theorem dX4_holds_41 : decode cX4_holds 41 = .ok (.iconst 5, 1) := by decide +kernel
theorem dX4_holds_42 : decode cX4_holds 42 = .ok (.invokestatic 91, 3) := by decide +kernel
theorem dX4_holds_45 : decode cX4_holds 45 = .ok (.ifCond .eq 11, 3) := by decide +kernel
theorem dX4_holds_48 : decode cX4_holds 48 = .ok (.aload_n 2, 1) := by decide +kernel
theorem dX4_holds_49 : decode cX4_holds 49 = .ok (.getfield 106, 3) := by decide +kernel
theorem dX4_holds_52 : decode cX4_holds 52 = .ok (.iload_n 3, 1) := by decide +kernel
theorem dX4_holds_53 : decode cX4_holds 53 = .ok (.iaload, 1) := by decide +kernel
theorem dX4_holds_54 : decode cX4_holds 54 = .ok (.istore 4, 2) := by decide +kernel
theorem dX4_holds_56 : decode cX4_holds 56 = .ok (.aload_n 0, 1) := by decide +kernel
theorem dX4_holds_57 : decode cX4_holds 57 = .ok (.getfield 109, 3) := by decide +kernel
theorem dX4_holds_60 : decode cX4_holds 60 = .ok (.iload_n 1, 1) := by decide +kernel
theorem dX4_holds_61 : decode cX4_holds 61 = .ok (.iaload, 1) := by decide +kernel
theorem dX4_holds_62 : decode cX4_holds 62 = .ok (.lookupswitch 60 #[(60, 26), (62, 43)], 26) := by decide +kernel
theorem dX4_holds_88 : decode cX4_holds 88 = .ok (.iload 4, 2) := by decide +kernel
theorem dX4_holds_90 : decode cX4_holds 90 = .ok (.aload_n 0, 1) := by decide +kernel
theorem dX4_holds_91 : decode cX4_holds 91 = .ok (.getfield 112, 3) := by decide +kernel
theorem dX4_holds_94 : decode cX4_holds 94 = .ok (.iload_n 1, 1) := by decide +kernel
theorem dX4_holds_95 : decode cX4_holds 95 = .ok (.iaload, 1) := by decide +kernel
theorem dX4_holds_96 : decode cX4_holds 96 = .ok (.if_icmp .ge 7, 3) := by decide +kernel
theorem dX4_holds_99 : decode cX4_holds 99 = .ok (.iconst 1, 1) := by decide +kernel
theorem dX4_holds_100 : decode cX4_holds 100 = .ok (.goto 4, 3) := by decide +kernel
theorem dX4_holds_103 : decode cX4_holds 103 = .ok (.iconst 0, 1) := by decide +kernel
theorem dX4_holds_104 : decode cX4_holds 104 = .ok (.ireturn, 1) := by decide +kernel
theorem dX4_holds_105 : decode cX4_holds 105 = .ok (.iload 4, 2) := by decide +kernel
theorem dX4_holds_107 : decode cX4_holds 107 = .ok (.aload_n 0, 1) := by decide +kernel
theorem dX4_holds_108 : decode cX4_holds 108 = .ok (.getfield 112, 3) := by decide +kernel
theorem dX4_holds_111 : decode cX4_holds 111 = .ok (.iload_n 1, 1) := by decide +kernel
theorem dX4_holds_112 : decode cX4_holds 112 = .ok (.iaload, 1) := by decide +kernel
theorem dX4_holds_113 : decode cX4_holds 113 = .ok (.if_icmp .le 7, 3) := by decide +kernel
theorem dX4_holds_116 : decode cX4_holds 116 = .ok (.iconst 1, 1) := by decide +kernel
theorem dX4_holds_117 : decode cX4_holds 117 = .ok (.goto 4, 3) := by decide +kernel
theorem dX4_holds_120 : decode cX4_holds 120 = .ok (.iconst 0, 1) := by decide +kernel
theorem dX4_holds_121 : decode cX4_holds 121 = .ok (.ireturn, 1) := by decide +kernel
theorem dX4_holds_122 : decode cX4_holds 122 = .ok (.iload 4, 2) := by decide +kernel
theorem dX4_holds_124 : decode cX4_holds 124 = .ok (.aload_n 0, 1) := by decide +kernel
theorem dX4_holds_125 : decode cX4_holds 125 = .ok (.getfield 112, 3) := by decide +kernel
theorem dX4_holds_128 : decode cX4_holds 128 = .ok (.iload_n 1, 1) := by decide +kernel
theorem dX4_holds_129 : decode cX4_holds 129 = .ok (.iaload, 1) := by decide +kernel
theorem dX4_holds_130 : decode cX4_holds 130 = .ok (.if_icmp .ne 7, 3) := by decide +kernel
theorem dX4_holds_133 : decode cX4_holds 133 = .ok (.iconst 1, 1) := by decide +kernel
theorem dX4_holds_134 : decode cX4_holds 134 = .ok (.goto 4, 3) := by decide +kernel
theorem dX4_holds_137 : decode cX4_holds 137 = .ok (.iconst 0, 1) := by decide +kernel
theorem dX4_holds_138 : decode cX4_holds 138 = .ok (.ireturn, 1) := by decide +kernel
theorem dX4_draw_0 : decode cX4_draw 0 = .ok (.aload_n 0, 1) := by decide +kernel
theorem dX4_draw_1 : decode cX4_draw 1 = .ok (.aload_n 0, 1) := by decide +kernel
theorem dX4_draw_2 : decode cX4_draw 2 = .ok (.getfield 47, 3) := by decide +kernel
theorem dX4_draw_5 : decode cX4_draw 5 = .ok (.sipush 2851, 3) := by decide +kernel
theorem dX4_draw_8 : decode cX4_draw 8 = .ok (.imul, 1) := by decide +kernel
theorem dX4_draw_9 : decode cX4_draw 9 = .ok (.sipush 11027, 3) := by decide +kernel
theorem dX4_draw_12 : decode cX4_draw 12 = .ok (.iadd, 1) := by decide +kernel
theorem dX4_draw_13 : decode cX4_draw 13 = .ok (.ldc 183, 2) := by decide +kernel
theorem dX4_draw_15 : decode cX4_draw 15 = .ok (.irem, 1) := by decide +kernel
theorem dX4_draw_16 : decode cX4_draw 16 = .ok (.putfield 47, 3) := by decide +kernel
theorem dX4_draw_19 : decode cX4_draw 19 = .ok (.iload_n 1, 1) := by decide +kernel
theorem dX4_draw_20 : decode cX4_draw 20 = .ok (.ifCond .le 15, 3) := by decide +kernel
theorem dX4_draw_23 : decode cX4_draw 23 = .ok (.aload_n 0, 1) := by decide +kernel
theorem dX4_draw_24 : decode cX4_draw 24 = .ok (.getfield 47, 3) := by decide +kernel
theorem dX4_draw_27 : decode cX4_draw 27 = .ok (.bipush 8, 2) := by decide +kernel
theorem dX4_draw_29 : decode cX4_draw 29 = .ok (.idiv, 1) := by decide +kernel
theorem dX4_draw_30 : decode cX4_draw 30 = .ok (.iload_n 1, 1) := by decide +kernel
theorem dX4_draw_31 : decode cX4_draw 31 = .ok (.irem, 1) := by decide +kernel
theorem dX4_draw_32 : decode cX4_draw 32 = .ok (.goto 4, 3) := by decide +kernel
theorem dX4_draw_35 : decode cX4_draw 35 = .ok (.iconst 0, 1) := by decide +kernel
theorem dX4_draw_36 : decode cX4_draw 36 = .ok (.ireturn, 1) := by decide +kernel
theorem dX4_drawHand_0 : decode cX4_drawHand 0 = .ok (.iload_n 1, 1) := by decide +kernel
theorem dX4_drawHand_1 : decode cX4_drawHand 1 = .ok (.ifCond .ne 7, 3) := by decide +kernel
theorem dX4_drawHand_4 : decode cX4_drawHand 4 = .ok (.iconst 0, 1) := by decide +kernel
theorem dX4_drawHand_5 : decode cX4_drawHand 5 = .ok (.goto 14, 3) := by decide +kernel
theorem dX4_drawHand_8 : decode cX4_drawHand 8 = .ok (.aload_n 0, 1) := by decide +kernel
theorem dX4_drawHand_9 : decode cX4_drawHand 9 = .ok (.iconst 2, 1) := by decide +kernel
theorem dX4_drawHand_10 : decode cX4_drawHand 10 = .ok (.iload_n 1, 1) := by decide +kernel
theorem dX4_drawHand_11 : decode cX4_drawHand 11 = .ok (.imul, 1) := by decide +kernel
theorem dX4_drawHand_12 : decode cX4_drawHand 12 = .ok (.iconst 1, 1) := by decide +kernel
theorem dX4_drawHand_13 : decode cX4_drawHand 13 = .ok (.iadd, 1) := by decide +kernel
theorem dX4_drawHand_14 : decode cX4_drawHand 14 = .ok (.invokevirtual 168, 3) := by decide +kernel
theorem dX4_drawHand_17 : decode cX4_drawHand 17 = .ok (.iload_n 1, 1) := by decide +kernel
theorem dX4_drawHand_18 : decode cX4_drawHand 18 = .ok (.isub, 1) := by decide +kernel
theorem dX4_drawHand_19 : decode cX4_drawHand 19 = .ok (.ireturn, 1) := by decide +kernel
theorem dX4_shootOnce_0 : decode cX4_shootOnce 0 = .ok (.iload_n 1, 1) := by decide +kernel
theorem dX4_shootOnce_1 : decode cX4_shootOnce 1 = .ok (.iconst 0, 1) := by decide +kernel
theorem dX4_shootOnce_2 : decode cX4_shootOnce 2 = .ok (.aload_n 2, 1) := by decide +kernel
theorem dX4_shootOnce_3 : decode cX4_shootOnce 3 = .ok (.getfield 128, 3) := by decide +kernel
theorem dX4_shootOnce_6 : decode cX4_shootOnce 6 = .ok (.iconst 1, 1) := by decide +kernel
theorem dX4_shootOnce_7 : decode cX4_shootOnce 7 = .ok (.isub, 1) := by decide +kernel
theorem dX4_shootOnce_8 : decode cX4_shootOnce 8 = .ok (.invokestatic 91, 3) := by decide +kernel
theorem dX4_shootOnce_11 : decode cX4_shootOnce 11 = .ok (.ifCond .eq 27, 3) := by decide +kernel
theorem dX4_shootOnce_14 : decode cX4_shootOnce 14 = .ok (.aload_n 0, 1) := by decide +kernel
theorem dX4_shootOnce_15 : decode cX4_shootOnce 15 = .ok (.getfield 20, 3) := by decide +kernel
theorem dX4_shootOnce_18 : decode cX4_shootOnce 18 = .ok (.getfield 56, 3) := by decide +kernel
theorem dX4_shootOnce_21 : decode cX4_shootOnce 21 = .ok (.iconst 0, 1) := by decide +kernel
theorem dX4_shootOnce_22 : decode cX4_shootOnce 22 = .ok (.aload_n 2, 1) := by decide +kernel
theorem dX4_shootOnce_23 : decode cX4_shootOnce 23 = .ok (.getfield 123, 3) := by decide +kernel
theorem dX4_shootOnce_26 : decode cX4_shootOnce 26 = .ok (.iconst 1, 1) := by decide +kernel
theorem dX4_shootOnce_27 : decode cX4_shootOnce 27 = .ok (.isub, 1) := by decide +kernel
theorem dX4_shootOnce_28 : decode cX4_shootOnce 28 = .ok (.invokestatic 91, 3) := by decide +kernel
theorem dX4_shootOnce_31 : decode cX4_shootOnce 31 = .ok (.ifCond .eq 7, 3) := by decide +kernel
theorem dX4_shootOnce_34 : decode cX4_shootOnce 34 = .ok (.iconst 1, 1) := by decide +kernel
theorem dX4_shootOnce_35 : decode cX4_shootOnce 35 = .ok (.goto 4, 3) := by decide +kernel
theorem dX4_shootOnce_38 : decode cX4_shootOnce 38 = .ok (.iconst 0, 1) := by decide +kernel
theorem dX4_shootOnce_39 : decode cX4_shootOnce 39 = .ok (.istore 4, 2) := by decide +kernel
theorem dX4_shootOnce_41 : decode cX4_shootOnce 41 = .ok (.iload 4, 2) := by decide +kernel
theorem dX4_shootOnce_43 : decode cX4_shootOnce 43 = .ok (.ifCond .eq 26, 3) := by decide +kernel
theorem dX4_shootOnce_46 : decode cX4_shootOnce 46 = .ok (.aload_n 2, 1) := by decide +kernel
theorem dX4_shootOnce_47 : decode cX4_shootOnce 47 = .ok (.aload_n 0, 1) := by decide +kernel
theorem dX4_shootOnce_48 : decode cX4_shootOnce 48 = .ok (.getfield 20, 3) := by decide +kernel
theorem dX4_shootOnce_51 : decode cX4_shootOnce 51 = .ok (.getfield 56, 3) := by decide +kernel
theorem dX4_shootOnce_54 : decode cX4_shootOnce 54 = .ok (.invokevirtual 131, 3) := by decide +kernel
theorem dX4_shootOnce_57 : decode cX4_shootOnce 57 = .ok (.ifCond .lt 12, 3) := by decide +kernel
theorem dX4_shootOnce_60 : decode cX4_shootOnce 60 = .ok (.aload_n 3, 1) := by decide +kernel
theorem dX4_shootOnce_61 : decode cX4_shootOnce 61 = .ok (.getfield 98, 3) := by decide +kernel
theorem dX4_shootOnce_64 : decode cX4_shootOnce 64 = .ok (.bipush 60, 2) := by decide +kernel
theorem dX4_shootOnce_66 : decode cX4_shootOnce 66 = .ok (.if_icmp .lt 14, 3) := by decide +kernel
theorem dX4_shootOnce_69 : decode cX4_shootOnce 69 = .ok (.aload_n 0, 1) := by decide +kernel
theorem dX4_shootOnce_70 : decode cX4_shootOnce 70 = .ok (.dup, 1) := by decide +kernel
theorem dX4_shootOnce_71 : decode cX4_shootOnce 71 = .ok (.getfield 32, 3) := by decide +kernel
theorem dX4_shootOnce_74 : decode cX4_shootOnce 74 = .ok (.iconst 1, 1) := by decide +kernel
theorem dX4_shootOnce_75 : decode cX4_shootOnce 75 = .ok (.iadd, 1) := by decide +kernel
theorem dX4_shootOnce_76 : decode cX4_shootOnce 76 = .ok (.putfield 32, 3) := by decide +kernel
theorem dX4_shootOnce_79 : decode cX4_shootOnce 79 = .ok (.return_, 1) := by decide +kernel
theorem dX4_shootOnce_80 : decode cX4_shootOnce 80 = .ok (.aload_n 0, 1) := by decide +kernel
theorem dX4_shootOnce_81 : decode cX4_shootOnce 81 = .ok (.getfield 20, 3) := by decide +kernel
theorem dX4_shootOnce_84 : decode cX4_shootOnce 84 = .ok (.iload_n 1, 1) := by decide +kernel
theorem dX4_shootOnce_85 : decode cX4_shootOnce 85 = .ok (.putfield 135, 3) := by decide +kernel
theorem dX4_shootOnce_88 : decode cX4_shootOnce 88 = .ok (.aload_n 0, 1) := by decide +kernel
theorem dX4_shootOnce_89 : decode cX4_shootOnce 89 = .ok (.getfield 20, 3) := by decide +kernel
theorem dX4_shootOnce_92 : decode cX4_shootOnce 92 = .ok (.aload_n 0, 1) := by decide +kernel
theorem dX4_shootOnce_93 : decode cX4_shootOnce 93 = .ok (.getfield 53, 3) := by decide +kernel
theorem dX4_shootOnce_96 : decode cX4_shootOnce 96 = .ok (.aload_n 2, 1) := by decide +kernel
theorem dX4_shootOnce_97 : decode cX4_shootOnce 97 = .ok (.getfield 138, 3) := by decide +kernel
theorem dX4_shootOnce_100 : decode cX4_shootOnce 100 = .ok (.iload_n 1, 1) := by decide +kernel
theorem dX4_shootOnce_101 : decode cX4_shootOnce 101 = .ok (.iaload, 1) := by decide +kernel
theorem dX4_shootOnce_102 : decode cX4_shootOnce 102 = .ok (.invokestatic 141, 3) := by decide +kernel
theorem dX4_shootOnce_105 : decode cX4_shootOnce 105 = .ok (.putfield 147, 3) := by decide +kernel
theorem dX4_shootOnce_108 : decode cX4_shootOnce 108 = .ok (.aload_n 0, 1) := by decide +kernel
theorem dX4_shootOnce_109 : decode cX4_shootOnce 109 = .ok (.getfield 20, 3) := by decide +kernel
theorem dX4_shootOnce_112 : decode cX4_shootOnce 112 = .ok (.aload_n 3, 1) := by decide +kernel
theorem dX4_shootOnce_113 : decode cX4_shootOnce 113 = .ok (.getfield 103, 3) := by decide +kernel
theorem dX4_shootOnce_116 : decode cX4_shootOnce 116 = .ok (.putfield 148, 3) := by decide +kernel
theorem dX4_shootOnce_119 : decode cX4_shootOnce 119 = .ok (.aload_n 0, 1) := by decide +kernel
theorem dX4_shootOnce_120 : decode cX4_shootOnce 120 = .ok (.getfield 20, 3) := by decide +kernel
theorem dX4_shootOnce_123 : decode cX4_shootOnce 123 = .ok (.aload_n 2, 1) := by decide +kernel
theorem dX4_shootOnce_124 : decode cX4_shootOnce 124 = .ok (.getfield 149, 3) := by decide +kernel
theorem dX4_shootOnce_127 : decode cX4_shootOnce 127 = .ok (.putfield 152, 3) := by decide +kernel
theorem dX4_shootOnce_130 : decode cX4_shootOnce 130 = .ok (.aload_n 0, 1) := by decide +kernel
theorem dX4_shootOnce_131 : decode cX4_shootOnce 131 = .ok (.getfield 20, 3) := by decide +kernel
theorem dX4_shootOnce_134 : decode cX4_shootOnce 134 = .ok (.aload_n 2, 1) := by decide +kernel
theorem dX4_shootOnce_135 : decode cX4_shootOnce 135 = .ok (.invokevirtual 153, 3) := by decide +kernel
theorem dX4_shootOnce_138 : decode cX4_shootOnce 138 = .ok (.aload_n 0, 1) := by decide +kernel
theorem dX4_shootOnce_139 : decode cX4_shootOnce 139 = .ok (.getfield 20, 3) := by decide +kernel
theorem dX4_shootOnce_142 : decode cX4_shootOnce 142 = .ok (.getfield 156, 3) := by decide +kernel
theorem dX4_shootOnce_145 : decode cX4_shootOnce 145 = .ok (.ifCond .eq 14, 3) := by decide +kernel
theorem dX4_shootOnce_148 : decode cX4_shootOnce 148 = .ok (.aload_n 0, 1) := by decide +kernel
theorem dX4_shootOnce_149 : decode cX4_shootOnce 149 = .ok (.dup, 1) := by decide +kernel
theorem dX4_shootOnce_150 : decode cX4_shootOnce 150 = .ok (.getfield 38, 3) := by decide +kernel
theorem dX4_shootOnce_153 : decode cX4_shootOnce 153 = .ok (.iconst 1, 1) := by decide +kernel
theorem dX4_shootOnce_154 : decode cX4_shootOnce 154 = .ok (.iadd, 1) := by decide +kernel
theorem dX4_shootOnce_155 : decode cX4_shootOnce 155 = .ok (.putfield 38, 3) := by decide +kernel
theorem dX4_shootOnce_158 : decode cX4_shootOnce 158 = .ok (.return_, 1) := by decide +kernel
theorem dX4_shootOnce_159 : decode cX4_shootOnce 159 = .ok (.aload_n 2, 1) := by decide +kernel
theorem dX4_shootOnce_160 : decode cX4_shootOnce 160 = .ok (.iload_n 1, 1) := by decide +kernel
theorem dX4_shootOnce_161 : decode cX4_shootOnce 161 = .ok (.aload_n 0, 1) := by decide +kernel
theorem dX4_shootOnce_162 : decode cX4_shootOnce 162 = .ok (.getfield 50, 3) := by decide +kernel
theorem dX4_shootOnce_165 : decode cX4_shootOnce 165 = .ok (.invokevirtual 159, 3) := by decide +kernel
theorem dX4_shootOnce_168 : decode cX4_shootOnce 168 = .ok (.istore 5, 2) := by decide +kernel
theorem dX4_shootOnce_170 : decode cX4_shootOnce 170 = .ok (.aload_n 0, 1) := by decide +kernel
theorem dX4_shootOnce_171 : decode cX4_shootOnce 171 = .ok (.iload 5, 2) := by decide +kernel
theorem dX4_shootOnce_173 : decode cX4_shootOnce 173 = .ok (.invokevirtual 162, 3) := by decide +kernel
theorem dX4_shootOnce_176 : decode cX4_shootOnce 176 = .ok (.istore 6, 2) := by decide +kernel
theorem dX4_shootOnce_178 : decode cX4_shootOnce 178 = .ok (.aload_n 0, 1) := by decide +kernel
theorem dX4_shootOnce_179 : decode cX4_shootOnce 179 = .ok (.iload 5, 2) := by decide +kernel
theorem dX4_shootOnce_181 : decode cX4_shootOnce 181 = .ok (.invokevirtual 162, 3) := by decide +kernel
theorem dX4_shootOnce_184 : decode cX4_shootOnce 184 = .ok (.istore 7, 2) := by decide +kernel
theorem dX4_shootOnce_186 : decode cX4_shootOnce 186 = .ok (.aload_n 0, 1) := by decide +kernel
theorem dX4_shootOnce_187 : decode cX4_shootOnce 187 = .ok (.getfield 20, 3) := by decide +kernel
theorem dX4_shootOnce_190 : decode cX4_shootOnce 190 = .ok (.getfield 165, 3) := by decide +kernel
theorem dX4_shootOnce_193 : decode cX4_shootOnce 193 = .ok (.ifCond .le 16, 3) := by decide +kernel
theorem dX4_shootOnce_196 : decode cX4_shootOnce 196 = .ok (.aload_n 0, 1) := by decide +kernel
theorem dX4_shootOnce_197 : decode cX4_shootOnce 197 = .ok (.iconst 2, 1) := by decide +kernel
theorem dX4_shootOnce_198 : decode cX4_shootOnce 198 = .ok (.invokevirtual 168, 3) := by decide +kernel
theorem dX4_shootOnce_201 : decode cX4_shootOnce 201 = .ok (.iconst 1, 1) := by decide +kernel
theorem dX4_shootOnce_202 : decode cX4_shootOnce 202 = .ok (.if_icmp .ne 7, 3) := by decide +kernel
theorem dX4_shootOnce_205 : decode cX4_shootOnce 205 = .ok (.iconst (-1), 1) := by decide +kernel
theorem dX4_shootOnce_206 : decode cX4_shootOnce 206 = .ok (.goto 4, 3) := by decide +kernel
theorem dX4_shootOnce_209 : decode cX4_shootOnce 209 = .ok (.iconst 1, 1) := by decide +kernel
theorem dX4_shootOnce_210 : decode cX4_shootOnce 210 = .ok (.istore 8, 2) := by decide +kernel
theorem dX4_shootOnce_212 : decode cX4_shootOnce 212 = .ok (.aload_n 0, 1) := by decide +kernel
theorem dX4_shootOnce_213 : decode cX4_shootOnce 213 = .ok (.dup, 1) := by decide +kernel
theorem dX4_shootOnce_214 : decode cX4_shootOnce 214 = .ok (.getfield 35, 3) := by decide +kernel
theorem dX4_shootOnce_217 : decode cX4_shootOnce 217 = .ok (.iconst 1, 1) := by decide +kernel
theorem dX4_shootOnce_218 : decode cX4_shootOnce 218 = .ok (.iadd, 1) := by decide +kernel
theorem dX4_shootOnce_219 : decode cX4_shootOnce 219 = .ok (.putfield 35, 3) := by decide +kernel
theorem dX4_shootOnce_222 : decode cX4_shootOnce 222 = .ok (.aload_n 0, 1) := by decide +kernel
theorem dX4_shootOnce_223 : decode cX4_shootOnce 223 = .ok (.dup, 1) := by decide +kernel
theorem dX4_shootOnce_224 : decode cX4_shootOnce 224 = .ok (.getfield 41, 3) := by decide +kernel
theorem dX4_shootOnce_227 : decode cX4_shootOnce 227 = .ok (.aload_n 3, 1) := by decide +kernel
theorem dX4_shootOnce_228 : decode cX4_shootOnce 228 = .ok (.aload_n 2, 1) := by decide +kernel
theorem dX4_shootOnce_229 : decode cX4_shootOnce 229 = .ok (.aload_n 0, 1) := by decide +kernel
theorem dX4_shootOnce_230 : decode cX4_shootOnce 230 = .ok (.getfield 20, 3) := by decide +kernel
theorem dX4_shootOnce_233 : decode cX4_shootOnce 233 = .ok (.aload_n 0, 1) := by decide +kernel
theorem dX4_shootOnce_234 : decode cX4_shootOnce 234 = .ok (.getfield 20, 3) := by decide +kernel
theorem dX4_shootOnce_237 : decode cX4_shootOnce 237 = .ok (.aload_n 2, 1) := by decide +kernel
theorem dX4_shootOnce_238 : decode cX4_shootOnce 238 = .ok (.iload 8, 2) := by decide +kernel
theorem dX4_shootOnce_240 : decode cX4_shootOnce 240 = .ok (.invokevirtual 171, 3) := by decide +kernel
theorem dX4_shootOnce_243 : decode cX4_shootOnce 243 = .ok (.iload 6, 2) := by decide +kernel
theorem dX4_shootOnce_245 : decode cX4_shootOnce 245 = .ok (.iadd, 1) := by decide +kernel
theorem dX4_shootOnce_246 : decode cX4_shootOnce 246 = .ok (.aload_n 0, 1) := by decide +kernel
theorem dX4_shootOnce_247 : decode cX4_shootOnce 247 = .ok (.getfield 20, 3) := by decide +kernel
theorem dX4_shootOnce_250 : decode cX4_shootOnce 250 = .ok (.aload_n 2, 1) := by decide +kernel
theorem dX4_shootOnce_251 : decode cX4_shootOnce 251 = .ok (.invokevirtual 175, 3) := by decide +kernel
theorem dX4_shootOnce_254 : decode cX4_shootOnce 254 = .ok (.iload 7, 2) := by decide +kernel
theorem dX4_shootOnce_256 : decode cX4_shootOnce 256 = .ok (.iadd, 1) := by decide +kernel
theorem dX4_shootOnce_257 : decode cX4_shootOnce 257 = .ok (.invokevirtual 179, 3) := by decide +kernel
theorem dX4_shootOnce_260 : decode cX4_shootOnce 260 = .ok (.iadd, 1) := by decide +kernel
theorem dX4_shootOnce_261 : decode cX4_shootOnce 261 = .ok (.putfield 41, 3) := by decide +kernel
theorem dX4_shootOnce_264 : decode cX4_shootOnce 264 = .ok (.return_, 1) := by decide +kernel
theorem dX4_loadNext_0 : decode cX4_loadNext 0 = .ok (.aload_n 1, 1) := by decide +kernel
theorem dX4_loadNext_1 : decode cX4_loadNext 1 = .ok (.getfield 123, 3) := by decide +kernel
theorem dX4_loadNext_4 : decode cX4_loadNext 4 = .ok (.ifCond .ne 14, 3) := by decide +kernel
theorem dX4_loadNext_7 : decode cX4_loadNext 7 = .ok (.aload_n 0, 1) := by decide +kernel
theorem dX4_loadNext_8 : decode cX4_loadNext 8 = .ok (.dup, 1) := by decide +kernel
theorem dX4_loadNext_9 : decode cX4_loadNext 9 = .ok (.getfield 32, 3) := by decide +kernel
theorem dX4_loadNext_12 : decode cX4_loadNext 12 = .ok (.iconst 1, 1) := by decide +kernel
theorem dX4_loadNext_13 : decode cX4_loadNext 13 = .ok (.iadd, 1) := by decide +kernel
theorem dX4_loadNext_14 : decode cX4_loadNext 14 = .ok (.putfield 32, 3) := by decide +kernel
theorem dX4_loadNext_17 : decode cX4_loadNext 17 = .ok (.return_, 1) := by decide +kernel
theorem dX4_loadNext_18 : decode cX4_loadNext 18 = .ok (.aload_n 0, 1) := by decide +kernel
theorem dX4_loadNext_19 : decode cX4_loadNext 19 = .ok (.getfield 20, 3) := by decide +kernel
theorem dX4_loadNext_22 : decode cX4_loadNext 22 = .ok (.aload_n 0, 1) := by decide +kernel
theorem dX4_loadNext_23 : decode cX4_loadNext 23 = .ok (.getfield 20, 3) := by decide +kernel
theorem dX4_loadNext_26 : decode cX4_loadNext 26 = .ok (.getfield 56, 3) := by decide +kernel
theorem dX4_loadNext_29 : decode cX4_loadNext 29 = .ok (.iconst 1, 1) := by decide +kernel
theorem dX4_loadNext_30 : decode cX4_loadNext 30 = .ok (.iadd, 1) := by decide +kernel
theorem dX4_loadNext_31 : decode cX4_loadNext 31 = .ok (.aload_n 1, 1) := by decide +kernel
theorem dX4_loadNext_32 : decode cX4_loadNext 32 = .ok (.getfield 123, 3) := by decide +kernel
theorem dX4_loadNext_35 : decode cX4_loadNext 35 = .ok (.if_icmp .ge 15, 3) := by decide +kernel
theorem dX4_loadNext_38 : decode cX4_loadNext 38 = .ok (.aload_n 0, 1) := by decide +kernel
theorem dX4_loadNext_39 : decode cX4_loadNext 39 = .ok (.getfield 20, 3) := by decide +kernel
theorem dX4_loadNext_42 : decode cX4_loadNext 42 = .ok (.getfield 56, 3) := by decide +kernel
theorem dX4_loadNext_45 : decode cX4_loadNext 45 = .ok (.iconst 1, 1) := by decide +kernel
theorem dX4_loadNext_46 : decode cX4_loadNext 46 = .ok (.iadd, 1) := by decide +kernel
theorem dX4_loadNext_47 : decode cX4_loadNext 47 = .ok (.goto 4, 3) := by decide +kernel
theorem dX4_loadNext_50 : decode cX4_loadNext 50 = .ok (.iconst 0, 1) := by decide +kernel
theorem dX4_loadNext_51 : decode cX4_loadNext 51 = .ok (.putfield 56, 3) := by decide +kernel
theorem dX4_loadNext_54 : decode cX4_loadNext 54 = .ok (.return_, 1) := by decide +kernel
theorem dX4_doStep_0 : decode cX4_doStep 0 = .ok (.aload_n 1, 1) := by decide +kernel
theorem dX4_doStep_1 : decode cX4_doStep 1 = .ok (.getfield 95, 3) := by decide +kernel
theorem dX4_doStep_4 : decode cX4_doStep 4 = .ok (.iload_n 2, 1) := by decide +kernel
theorem dX4_doStep_5 : decode cX4_doStep 5 = .ok (.iaload, 1) := by decide +kernel
theorem dX4_doStep_6 : decode cX4_doStep 6 = .ok (.istore 5, 2) := by decide +kernel
theorem dX4_doStep_8 : decode cX4_doStep 8 = .ok (.aload_n 1, 1) := by decide +kernel
theorem dX4_doStep_9 : decode cX4_doStep 9 = .ok (.getfield 73, 3) := by decide +kernel
theorem dX4_doStep_12 : decode cX4_doStep 12 = .ok (.iload_n 2, 1) := by decide +kernel
theorem dX4_doStep_13 : decode cX4_doStep 13 = .ok (.iaload, 1) := by decide +kernel
theorem dX4_doStep_14 : decode cX4_doStep 14 = .ok (.tableswitch 169 13 27 #[111, 169, 169, 169, 74, 86, 120, 129, 141, 150, 169, 169, 169, 169, 158], 74) := by decide +kernel
theorem dX4_doStep_88 : decode cX4_doStep 88 = .ok (.aload_n 0, 1) := by decide +kernel
theorem dX4_doStep_89 : decode cX4_doStep 89 = .ok (.getfield 20, 3) := by decide +kernel
theorem dX4_doStep_92 : decode cX4_doStep 92 = .ok (.iload 5, 2) := by decide +kernel
theorem dX4_doStep_94 : decode cX4_doStep 94 = .ok (.putfield 56, 3) := by decide +kernel
theorem dX4_doStep_97 : decode cX4_doStep 97 = .ok (.goto 86, 3) := by decide +kernel
theorem dX4_doStep_100 : decode cX4_doStep 100 = .ok (.aload_n 0, 1) := by decide +kernel
theorem dX4_doStep_101 : decode cX4_doStep 101 = .ok (.getfield 20, 3) := by decide +kernel
theorem dX4_doStep_104 : decode cX4_doStep 104 = .ok (.iload 5, 2) := by decide +kernel
theorem dX4_doStep_106 : decode cX4_doStep 106 = .ok (.putfield 59, 3) := by decide +kernel
theorem dX4_doStep_109 : decode cX4_doStep 109 = .ok (.aload_n 0, 1) := by decide +kernel
theorem dX4_doStep_110 : decode cX4_doStep 110 = .ok (.getfield 20, 3) := by decide +kernel
theorem dX4_doStep_113 : decode cX4_doStep 113 = .ok (.aload_n 1, 1) := by decide +kernel
theorem dX4_doStep_114 : decode cX4_doStep 114 = .ok (.getfield 109, 3) := by decide +kernel
theorem dX4_doStep_117 : decode cX4_doStep 117 = .ok (.iload_n 2, 1) := by decide +kernel
theorem dX4_doStep_118 : decode cX4_doStep 118 = .ok (.iaload, 1) := by decide +kernel
theorem dX4_doStep_119 : decode cX4_doStep 119 = .ok (.putfield 62, 3) := by decide +kernel
theorem dX4_doStep_122 : decode cX4_doStep 122 = .ok (.goto 61, 3) := by decide +kernel
theorem dX4_doStep_125 : decode cX4_doStep 125 = .ok (.aload_n 0, 1) := by decide +kernel
theorem dX4_doStep_126 : decode cX4_doStep 126 = .ok (.iload 5, 2) := by decide +kernel
theorem dX4_doStep_128 : decode cX4_doStep 128 = .ok (.putfield 53, 3) := by decide +kernel
theorem dX4_doStep_131 : decode cX4_doStep 131 = .ok (.goto 52, 3) := by decide +kernel
theorem dX4_doStep_134 : decode cX4_doStep 134 = .ok (.aload_n 0, 1) := by decide +kernel
theorem dX4_doStep_135 : decode cX4_doStep 135 = .ok (.iload 5, 2) := by decide +kernel
theorem dX4_doStep_137 : decode cX4_doStep 137 = .ok (.putfield 50, 3) := by decide +kernel
theorem dX4_doStep_140 : decode cX4_doStep 140 = .ok (.goto 43, 3) := by decide +kernel
theorem dX4_doStep_143 : decode cX4_doStep 143 = .ok (.aload_n 0, 1) := by decide +kernel
theorem dX4_doStep_144 : decode cX4_doStep 144 = .ok (.iload 5, 2) := by decide +kernel
theorem dX4_doStep_146 : decode cX4_doStep 146 = .ok (.aload_n 3, 1) := by decide +kernel
theorem dX4_doStep_147 : decode cX4_doStep 147 = .ok (.aload 4, 2) := by decide +kernel
theorem dX4_doStep_149 : decode cX4_doStep 149 = .ok (.invokevirtual 115, 3) := by decide +kernel
theorem dX4_doStep_152 : decode cX4_doStep 152 = .ok (.goto 31, 3) := by decide +kernel
theorem dX4_doStep_155 : decode cX4_doStep 155 = .ok (.aload 4, 2) := by decide +kernel
theorem dX4_doStep_157 : decode cX4_doStep 157 = .ok (.iconst 0, 1) := by decide +kernel
theorem dX4_doStep_158 : decode cX4_doStep 158 = .ok (.putfield 103, 3) := by decide +kernel
theorem dX4_doStep_161 : decode cX4_doStep 161 = .ok (.goto 22, 3) := by decide +kernel
theorem dX4_doStep_164 : decode cX4_doStep 164 = .ok (.aload_n 0, 1) := by decide +kernel
theorem dX4_doStep_165 : decode cX4_doStep 165 = .ok (.aload_n 3, 1) := by decide +kernel
theorem dX4_doStep_166 : decode cX4_doStep 166 = .ok (.invokevirtual 119, 3) := by decide +kernel
theorem dX4_doStep_169 : decode cX4_doStep 169 = .ok (.goto 14, 3) := by decide +kernel
theorem dX4_doStep_172 : decode cX4_doStep 172 = .ok (.aload_n 0, 1) := by decide +kernel
theorem dX4_doStep_173 : decode cX4_doStep 173 = .ok (.getfield 11, 3) := by decide +kernel
theorem dX4_doStep_176 : decode cX4_doStep 176 = .ok (.iload_n 2, 1) := by decide +kernel
theorem dX4_doStep_177 : decode cX4_doStep 177 = .ok (.iload 5, 2) := by decide +kernel
theorem dX4_doStep_179 : decode cX4_doStep 179 = .ok (.iastore, 1) := by decide +kernel
theorem dX4_doStep_180 : decode cX4_doStep 180 = .ok (.goto 3, 3) := by decide +kernel
theorem dX4_doStep_183 : decode cX4_doStep 183 = .ok (.return_, 1) := by decide +kernel
theorem dX4_run_0 : decode cX4_run 0 = .ok (.aload_n 0, 1) := by decide +kernel
theorem dX4_run_1 : decode cX4_run 1 = .ok (.iload 4, 2) := by decide +kernel
theorem dX4_run_3 : decode cX4_run 3 = .ok (.invokevirtual 65, 3) := by decide +kernel
theorem dX4_run_6 : decode cX4_run 6 = .ok (.iconst 0, 1) := by decide +kernel
theorem dX4_run_7 : decode cX4_run 7 = .ok (.istore 5, 2) := by decide +kernel
theorem dX4_run_9 : decode cX4_run 9 = .ok (.iconst 0, 1) := by decide +kernel
theorem dX4_run_10 : decode cX4_run 10 = .ok (.istore 6, 2) := by decide +kernel
theorem dX4_run_12 : decode cX4_run 12 = .ok (.iload 6, 2) := by decide +kernel
theorem dX4_run_14 : decode cX4_run 14 = .ok (.ldc 69, 2) := by decide +kernel
theorem dX4_run_16 : decode cX4_run 16 = .ok (.if_icmp .ge 128, 3) := by decide +kernel
theorem dX4_run_19 : decode cX4_run 19 = .ok (.iload 5, 2) := by decide +kernel
theorem dX4_run_21 : decode cX4_run 21 = .ok (.ifCond .lt 123, 3) := by decide +kernel
theorem dX4_run_24 : decode cX4_run 24 = .ok (.iload 5, 2) := by decide +kernel
theorem dX4_run_26 : decode cX4_run 26 = .ok (.aload_n 1, 1) := by decide +kernel
theorem dX4_run_27 : decode cX4_run 27 = .ok (.getfield 70, 3) := by decide +kernel
theorem dX4_run_30 : decode cX4_run 30 = .ok (.if_icmp .ge 114, 3) := by decide +kernel
theorem dX4_run_33 : decode cX4_run 33 = .ok (.aload_n 1, 1) := by decide +kernel
theorem dX4_run_34 : decode cX4_run 34 = .ok (.getfield 73, 3) := by decide +kernel
theorem dX4_run_37 : decode cX4_run 37 = .ok (.iload 5, 2) := by decide +kernel
theorem dX4_run_39 : decode cX4_run 39 = .ok (.iaload, 1) := by decide +kernel
theorem dX4_run_40 : decode cX4_run 40 = .ok (.istore 7, 2) := by decide +kernel
theorem dX4_run_42 : decode cX4_run 42 = .ok (.iload 7, 2) := by decide +kernel
theorem dX4_run_44 : decode cX4_run 44 = .ok (.bipush 28, 2) := by decide +kernel
theorem dX4_run_46 : decode cX4_run 46 = .ok (.if_icmp .ne 15, 3) := by decide +kernel
theorem dX4_run_49 : decode cX4_run 49 = .ok (.aload_n 0, 1) := by decide +kernel
theorem dX4_run_50 : decode cX4_run 50 = .ok (.aload_n 1, 1) := by decide +kernel
theorem dX4_run_51 : decode cX4_run 51 = .ok (.iload 5, 2) := by decide +kernel
theorem dX4_run_53 : decode cX4_run 53 = .ok (.invokevirtual 76, 3) := by decide +kernel
theorem dX4_run_56 : decode cX4_run 56 = .ok (.istore 5, 2) := by decide +kernel
theorem dX4_run_58 : decode cX4_run 58 = .ok (.goto 80, 3) := by decide +kernel
theorem dX4_run_61 : decode cX4_run 61 = .ok (.aload_n 0, 1) := by decide +kernel
theorem dX4_run_62 : decode cX4_run 62 = .ok (.getfield 28, 3) := by decide +kernel
theorem dX4_run_65 : decode cX4_run 65 = .ok (.sipush 300, 3) := by decide +kernel
theorem dX4_run_68 : decode cX4_run 68 = .ok (.if_icmp .lt 9, 3) := by decide +kernel
theorem dX4_run_71 : decode cX4_run 71 = .ok (.aload_n 0, 1) := by decide +kernel
theorem dX4_run_72 : decode cX4_run 72 = .ok (.iconst 1, 1) := by decide +kernel
theorem dX4_run_73 : decode cX4_run 73 = .ok (.putfield 44, 3) := by decide +kernel
theorem dX4_run_76 : decode cX4_run 76 = .ok (.return_, 1) := by decide +kernel
theorem dX4_run_77 : decode cX4_run 77 = .ok (.aload_n 0, 1) := by decide +kernel
theorem dX4_run_78 : decode cX4_run 78 = .ok (.dup, 1) := by decide +kernel
theorem dX4_run_79 : decode cX4_run 79 = .ok (.getfield 28, 3) := by decide +kernel
theorem dX4_run_82 : decode cX4_run 82 = .ok (.iconst 1, 1) := by decide +kernel
theorem dX4_run_83 : decode cX4_run 83 = .ok (.iadd, 1) := by decide +kernel
theorem dX4_run_84 : decode cX4_run 84 = .ok (.putfield 28, 3) := by decide +kernel
theorem dX4_run_87 : decode cX4_run 87 = .ok (.iload 7, 2) := by decide +kernel
theorem dX4_run_89 : decode cX4_run 89 = .ok (.bipush 29, 2) := by decide +kernel
theorem dX4_run_91 : decode cX4_run 91 = .ok (.if_icmp .ne 4, 3) := by decide +kernel
theorem dX4_run_94 : decode cX4_run 94 = .ok (.return_, 1) := by decide +kernel
theorem dX4_run_95 : decode cX4_run 95 = .ok (.iload 7, 2) := by decide +kernel
theorem dX4_run_97 : decode cX4_run 97 = .ok (.bipush 23, 2) := by decide +kernel
theorem dX4_run_99 : decode cX4_run 99 = .ok (.if_icmp .ne 27, 3) := by decide +kernel
theorem dX4_run_102 : decode cX4_run 102 = .ok (.aload_n 1, 1) := by decide +kernel
theorem dX4_run_103 : decode cX4_run 103 = .ok (.iload 5, 2) := by decide +kernel
theorem dX4_run_105 : decode cX4_run 105 = .ok (.aload_n 3, 1) := by decide +kernel
theorem dX4_run_106 : decode cX4_run 106 = .ok (.invokestatic 80, 3) := by decide +kernel
theorem dX4_run_109 : decode cX4_run 109 = .ok (.ifCond .ne 17, 3) := by decide +kernel
theorem dX4_run_112 : decode cX4_run 112 = .ok (.aload_n 1, 1) := by decide +kernel
theorem dX4_run_113 : decode cX4_run 113 = .ok (.getfield 84, 3) := by decide +kernel
theorem dX4_run_116 : decode cX4_run 116 = .ok (.iload 5, 2) := by decide +kernel
theorem dX4_run_118 : decode cX4_run 118 = .ok (.iaload, 1) := by decide +kernel
theorem dX4_run_119 : decode cX4_run 119 = .ok (.iconst 1, 1) := by decide +kernel
theorem dX4_run_120 : decode cX4_run 120 = .ok (.iadd, 1) := by decide +kernel
theorem dX4_run_121 : decode cX4_run 121 = .ok (.istore 5, 2) := by decide +kernel
theorem dX4_run_123 : decode cX4_run 123 = .ok (.goto 15, 3) := by decide +kernel
theorem dX4_run_126 : decode cX4_run 126 = .ok (.aload_n 0, 1) := by decide +kernel
theorem dX4_run_127 : decode cX4_run 127 = .ok (.aload_n 1, 1) := by decide +kernel
theorem dX4_run_128 : decode cX4_run 128 = .ok (.iload 5, 2) := by decide +kernel
theorem dX4_run_130 : decode cX4_run 130 = .ok (.aload_n 2, 1) := by decide +kernel
theorem dX4_run_131 : decode cX4_run 131 = .ok (.aload_n 3, 1) := by decide +kernel
theorem dX4_run_132 : decode cX4_run 132 = .ok (.invokevirtual 87, 3) := by decide +kernel
theorem dX4_run_135 : decode cX4_run 135 = .ok (.iinc 5 1, 3) := by decide +kernel
theorem dX4_run_138 : decode cX4_run 138 = .ok (.iinc 6 1, 3) := by decide +kernel
theorem dX4_run_141 : decode cX4_run 141 = .ok (.goto (-129), 3) := by decide +kernel
theorem dX4_run_144 : decode cX4_run 144 = .ok (.return_, 1) := by decide +kernel
theorem dX7_copy_0 : decode cX7_copy 0 = .ok (.aload_n 0, 1) := by decide +kernel
theorem dX7_copy_1 : decode cX7_copy 1 = .ok (.aload_n 1, 1) := by decide +kernel
theorem dX7_copy_2 : decode cX7_copy 2 = .ok (.getfield 27, 3) := by decide +kernel
theorem dX7_copy_5 : decode cX7_copy 5 = .ok (.putfield 27, 3) := by decide +kernel
theorem dX7_copy_8 : decode cX7_copy 8 = .ok (.aload_n 0, 1) := by decide +kernel
theorem dX7_copy_9 : decode cX7_copy 9 = .ok (.aload_n 1, 1) := by decide +kernel
theorem dX7_copy_10 : decode cX7_copy 10 = .ok (.getfield 31, 3) := by decide +kernel
theorem dX7_copy_13 : decode cX7_copy 13 = .ok (.putfield 31, 3) := by decide +kernel
theorem dX7_copy_16 : decode cX7_copy 16 = .ok (.aload_n 1, 1) := by decide +kernel
theorem dX7_copy_17 : decode cX7_copy 17 = .ok (.getfield 9, 3) := by decide +kernel
theorem dX7_copy_20 : decode cX7_copy 20 = .ok (.iconst 0, 1) := by decide +kernel
theorem dX7_copy_21 : decode cX7_copy 21 = .ok (.aload_n 0, 1) := by decide +kernel
theorem dX7_copy_22 : decode cX7_copy 22 = .ok (.getfield 9, 3) := by decide +kernel
theorem dX7_copy_25 : decode cX7_copy 25 = .ok (.iconst 0, 1) := by decide +kernel
theorem dX7_copy_26 : decode cX7_copy 26 = .ok (.bipush 60, 2) := by decide +kernel
theorem dX7_copy_28 : decode cX7_copy 28 = .ok (.invokestatic 40, 3) := by decide +kernel
theorem dX7_copy_31 : decode cX7_copy 31 = .ok (.aload_n 1, 1) := by decide +kernel
theorem dX7_copy_32 : decode cX7_copy 32 = .ok (.getfield 15, 3) := by decide +kernel
theorem dX7_copy_35 : decode cX7_copy 35 = .ok (.iconst 0, 1) := by decide +kernel
theorem dX7_copy_36 : decode cX7_copy 36 = .ok (.aload_n 0, 1) := by decide +kernel
theorem dX7_copy_37 : decode cX7_copy 37 = .ok (.getfield 15, 3) := by decide +kernel
theorem dX7_copy_40 : decode cX7_copy 40 = .ok (.iconst 0, 1) := by decide +kernel
theorem dX7_copy_41 : decode cX7_copy 41 = .ok (.bipush 60, 2) := by decide +kernel
theorem dX7_copy_43 : decode cX7_copy 43 = .ok (.invokestatic 40, 3) := by decide +kernel
theorem dX7_copy_46 : decode cX7_copy 46 = .ok (.aload_n 1, 1) := by decide +kernel
theorem dX7_copy_47 : decode cX7_copy 47 = .ok (.getfield 18, 3) := by decide +kernel
theorem dX7_copy_50 : decode cX7_copy 50 = .ok (.iconst 0, 1) := by decide +kernel
theorem dX7_copy_51 : decode cX7_copy 51 = .ok (.aload_n 0, 1) := by decide +kernel
theorem dX7_copy_52 : decode cX7_copy 52 = .ok (.getfield 18, 3) := by decide +kernel
theorem dX7_copy_55 : decode cX7_copy 55 = .ok (.iconst 0, 1) := by decide +kernel
theorem dX7_copy_56 : decode cX7_copy 56 = .ok (.bipush 60, 2) := by decide +kernel
theorem dX7_copy_58 : decode cX7_copy 58 = .ok (.invokestatic 40, 3) := by decide +kernel
theorem dX7_copy_61 : decode cX7_copy 61 = .ok (.aload_n 1, 1) := by decide +kernel
theorem dX7_copy_62 : decode cX7_copy 62 = .ok (.getfield 21, 3) := by decide +kernel
theorem dX7_copy_65 : decode cX7_copy 65 = .ok (.iconst 0, 1) := by decide +kernel
theorem dX7_copy_66 : decode cX7_copy 66 = .ok (.aload_n 0, 1) := by decide +kernel
theorem dX7_copy_67 : decode cX7_copy 67 = .ok (.getfield 21, 3) := by decide +kernel
theorem dX7_copy_70 : decode cX7_copy 70 = .ok (.iconst 0, 1) := by decide +kernel
theorem dX7_copy_71 : decode cX7_copy 71 = .ok (.bipush 60, 2) := by decide +kernel
theorem dX7_copy_73 : decode cX7_copy 73 = .ok (.invokestatic 40, 3) := by decide +kernel
theorem dX7_copy_76 : decode cX7_copy 76 = .ok (.aload_n 1, 1) := by decide +kernel
theorem dX7_copy_77 : decode cX7_copy 77 = .ok (.getfield 24, 3) := by decide +kernel
theorem dX7_copy_80 : decode cX7_copy 80 = .ok (.iconst 0, 1) := by decide +kernel
theorem dX7_copy_81 : decode cX7_copy 81 = .ok (.aload_n 0, 1) := by decide +kernel
theorem dX7_copy_82 : decode cX7_copy 82 = .ok (.getfield 24, 3) := by decide +kernel
theorem dX7_copy_85 : decode cX7_copy 85 = .ok (.iconst 0, 1) := by decide +kernel
theorem dX7_copy_86 : decode cX7_copy 86 = .ok (.bipush 6, 2) := by decide +kernel
theorem dX7_copy_88 : decode cX7_copy 88 = .ok (.invokestatic 40, 3) := by decide +kernel
theorem dX7_copy_91 : decode cX7_copy 91 = .ok (.return_, 1) := by decide +kernel
theorem dX7_leads_0 : decode cX7_leads 0 = .ok (.iconst 0, 1) := by decide +kernel
theorem dX7_leads_1 : decode cX7_leads 1 = .ok (.istore_n 3, 1) := by decide +kernel
theorem dX7_leads_2 : decode cX7_leads 2 = .ok (.iload_n 3, 1) := by decide +kernel
theorem dX7_leads_3 : decode cX7_leads 3 = .ok (.iload_n 2, 1) := by decide +kernel
theorem dX7_leads_4 : decode cX7_leads 4 = .ok (.if_icmp .ge 31, 3) := by decide +kernel
theorem dX7_leads_7 : decode cX7_leads 7 = .ok (.iload_n 3, 1) := by decide +kernel
theorem dX7_leads_8 : decode cX7_leads 8 = .ok (.iload_n 1, 1) := by decide +kernel
theorem dX7_leads_9 : decode cX7_leads 9 = .ok (.if_icmp .eq 20, 3) := by decide +kernel
theorem dX7_leads_12 : decode cX7_leads 12 = .ok (.aload_n 0, 1) := by decide +kernel
theorem dX7_leads_13 : decode cX7_leads 13 = .ok (.getfield 24, 3) := by decide +kernel
theorem dX7_leads_16 : decode cX7_leads 16 = .ok (.iload_n 3, 1) := by decide +kernel
theorem dX7_leads_17 : decode cX7_leads 17 = .ok (.iaload, 1) := by decide +kernel
theorem dX7_leads_18 : decode cX7_leads 18 = .ok (.aload_n 0, 1) := by decide +kernel
theorem dX7_leads_19 : decode cX7_leads 19 = .ok (.getfield 24, 3) := by decide +kernel
theorem dX7_leads_22 : decode cX7_leads 22 = .ok (.iload_n 1, 1) := by decide +kernel
theorem dX7_leads_23 : decode cX7_leads 23 = .ok (.iaload, 1) := by decide +kernel
theorem dX7_leads_24 : decode cX7_leads 24 = .ok (.if_icmp .lt 5, 3) := by decide +kernel
theorem dX7_leads_27 : decode cX7_leads 27 = .ok (.iconst 0, 1) := by decide +kernel
theorem dX7_leads_28 : decode cX7_leads 28 = .ok (.ireturn, 1) := by decide +kernel
theorem dX7_leads_29 : decode cX7_leads 29 = .ok (.iinc 3 1, 3) := by decide +kernel
theorem dX7_leads_32 : decode cX7_leads 32 = .ok (.goto (-30), 3) := by decide +kernel
theorem dX7_leads_35 : decode cX7_leads 35 = .ok (.iconst 1, 1) := by decide +kernel
theorem dX7_leads_36 : decode cX7_leads 36 = .ok (.ireturn, 1) := by decide +kernel
theorem dX9_copy_0 : decode cX9_copy 0 = .ok (.aload_n 0, 1) := by decide +kernel
theorem dX9_copy_1 : decode cX9_copy 1 = .ok (.aload_n 1, 1) := by decide +kernel
theorem dX9_copy_2 : decode cX9_copy 2 = .ok (.getfield 52, 3) := by decide +kernel
theorem dX9_copy_5 : decode cX9_copy 5 = .ok (.putfield 52, 3) := by decide +kernel
theorem dX9_copy_8 : decode cX9_copy 8 = .ok (.aload_n 0, 1) := by decide +kernel
theorem dX9_copy_9 : decode cX9_copy 9 = .ok (.aload_n 1, 1) := by decide +kernel
theorem dX9_copy_10 : decode cX9_copy 10 = .ok (.getfield 56, 3) := by decide +kernel
theorem dX9_copy_13 : decode cX9_copy 13 = .ok (.putfield 56, 3) := by decide +kernel
theorem dX9_copy_16 : decode cX9_copy 16 = .ok (.aload_n 0, 1) := by decide +kernel
theorem dX9_copy_17 : decode cX9_copy 17 = .ok (.aload_n 1, 1) := by decide +kernel
theorem dX9_copy_18 : decode cX9_copy 18 = .ok (.getfield 59, 3) := by decide +kernel
theorem dX9_copy_21 : decode cX9_copy 21 = .ok (.putfield 59, 3) := by decide +kernel
theorem dX9_copy_24 : decode cX9_copy 24 = .ok (.aload_n 0, 1) := by decide +kernel
theorem dX9_copy_25 : decode cX9_copy 25 = .ok (.aload_n 1, 1) := by decide +kernel
theorem dX9_copy_26 : decode cX9_copy 26 = .ok (.getfield 62, 3) := by decide +kernel
theorem dX9_copy_29 : decode cX9_copy 29 = .ok (.putfield 62, 3) := by decide +kernel
theorem dX9_copy_32 : decode cX9_copy 32 = .ok (.aload_n 0, 1) := by decide +kernel
theorem dX9_copy_33 : decode cX9_copy 33 = .ok (.aload_n 1, 1) := by decide +kernel
theorem dX9_copy_34 : decode cX9_copy 34 = .ok (.getfield 65, 3) := by decide +kernel
theorem dX9_copy_37 : decode cX9_copy 37 = .ok (.putfield 65, 3) := by decide +kernel
theorem dX9_copy_40 : decode cX9_copy 40 = .ok (.aload_n 0, 1) := by decide +kernel
theorem dX9_copy_41 : decode cX9_copy 41 = .ok (.aload_n 1, 1) := by decide +kernel
theorem dX9_copy_42 : decode cX9_copy 42 = .ok (.getfield 68, 3) := by decide +kernel
theorem dX9_copy_45 : decode cX9_copy 45 = .ok (.putfield 68, 3) := by decide +kernel
theorem dX9_copy_48 : decode cX9_copy 48 = .ok (.aload_n 0, 1) := by decide +kernel
theorem dX9_copy_49 : decode cX9_copy 49 = .ok (.aload_n 1, 1) := by decide +kernel
theorem dX9_copy_50 : decode cX9_copy 50 = .ok (.getfield 71, 3) := by decide +kernel
theorem dX9_copy_53 : decode cX9_copy 53 = .ok (.putfield 71, 3) := by decide +kernel
theorem dX9_copy_56 : decode cX9_copy 56 = .ok (.aload_n 1, 1) := by decide +kernel
theorem dX9_copy_57 : decode cX9_copy 57 = .ok (.getfield 9, 3) := by decide +kernel
theorem dX9_copy_60 : decode cX9_copy 60 = .ok (.iconst 0, 1) := by decide +kernel
theorem dX9_copy_61 : decode cX9_copy 61 = .ok (.aload_n 0, 1) := by decide +kernel
theorem dX9_copy_62 : decode cX9_copy 62 = .ok (.getfield 9, 3) := by decide +kernel
theorem dX9_copy_65 : decode cX9_copy 65 = .ok (.iconst 0, 1) := by decide +kernel
theorem dX9_copy_66 : decode cX9_copy 66 = .ok (.bipush 6, 2) := by decide +kernel
theorem dX9_copy_68 : decode cX9_copy 68 = .ok (.invokestatic 77, 3) := by decide +kernel
theorem dX9_copy_71 : decode cX9_copy 71 = .ok (.aload_n 1, 1) := by decide +kernel
theorem dX9_copy_72 : decode cX9_copy 72 = .ok (.getfield 15, 3) := by decide +kernel
theorem dX9_copy_75 : decode cX9_copy 75 = .ok (.iconst 0, 1) := by decide +kernel
theorem dX9_copy_76 : decode cX9_copy 76 = .ok (.aload_n 0, 1) := by decide +kernel
theorem dX9_copy_77 : decode cX9_copy 77 = .ok (.getfield 15, 3) := by decide +kernel
theorem dX9_copy_80 : decode cX9_copy 80 = .ok (.iconst 0, 1) := by decide +kernel
theorem dX9_copy_81 : decode cX9_copy 81 = .ok (.bipush 6, 2) := by decide +kernel
theorem dX9_copy_83 : decode cX9_copy 83 = .ok (.invokestatic 77, 3) := by decide +kernel
theorem dX9_copy_86 : decode cX9_copy 86 = .ok (.aload_n 1, 1) := by decide +kernel
theorem dX9_copy_87 : decode cX9_copy 87 = .ok (.getfield 18, 3) := by decide +kernel
theorem dX9_copy_90 : decode cX9_copy 90 = .ok (.iconst 0, 1) := by decide +kernel
theorem dX9_copy_91 : decode cX9_copy 91 = .ok (.aload_n 0, 1) := by decide +kernel
theorem dX9_copy_92 : decode cX9_copy 92 = .ok (.getfield 18, 3) := by decide +kernel
theorem dX9_copy_95 : decode cX9_copy 95 = .ok (.iconst 0, 1) := by decide +kernel
theorem dX9_copy_96 : decode cX9_copy 96 = .ok (.bipush 8, 2) := by decide +kernel
theorem dX9_copy_98 : decode cX9_copy 98 = .ok (.invokestatic 77, 3) := by decide +kernel
theorem dX9_copy_101 : decode cX9_copy 101 = .ok (.aload_n 1, 1) := by decide +kernel
theorem dX9_copy_102 : decode cX9_copy 102 = .ok (.getfield 22, 3) := by decide +kernel
theorem dX9_copy_105 : decode cX9_copy 105 = .ok (.iconst 0, 1) := by decide +kernel
theorem dX9_copy_106 : decode cX9_copy 106 = .ok (.aload_n 0, 1) := by decide +kernel
theorem dX9_copy_107 : decode cX9_copy 107 = .ok (.getfield 22, 3) := by decide +kernel
theorem dX9_copy_110 : decode cX9_copy 110 = .ok (.iconst 0, 1) := by decide +kernel
theorem dX9_copy_111 : decode cX9_copy 111 = .ok (.bipush 8, 2) := by decide +kernel
theorem dX9_copy_113 : decode cX9_copy 113 = .ok (.invokestatic 77, 3) := by decide +kernel
theorem dX9_copy_116 : decode cX9_copy 116 = .ok (.aload_n 1, 1) := by decide +kernel
theorem dX9_copy_117 : decode cX9_copy 117 = .ok (.getfield 25, 3) := by decide +kernel
theorem dX9_copy_120 : decode cX9_copy 120 = .ok (.iconst 0, 1) := by decide +kernel
theorem dX9_copy_121 : decode cX9_copy 121 = .ok (.aload_n 0, 1) := by decide +kernel
theorem dX9_copy_122 : decode cX9_copy 122 = .ok (.getfield 25, 3) := by decide +kernel
theorem dX9_copy_125 : decode cX9_copy 125 = .ok (.iconst 0, 1) := by decide +kernel
theorem dX9_copy_126 : decode cX9_copy 126 = .ok (.bipush 8, 2) := by decide +kernel
theorem dX9_copy_128 : decode cX9_copy 128 = .ok (.invokestatic 77, 3) := by decide +kernel
theorem dX9_copy_131 : decode cX9_copy 131 = .ok (.aload_n 1, 1) := by decide +kernel
theorem dX9_copy_132 : decode cX9_copy 132 = .ok (.getfield 28, 3) := by decide +kernel
theorem dX9_copy_135 : decode cX9_copy 135 = .ok (.iconst 0, 1) := by decide +kernel
theorem dX9_copy_136 : decode cX9_copy 136 = .ok (.aload_n 0, 1) := by decide +kernel
theorem dX9_copy_137 : decode cX9_copy 137 = .ok (.getfield 28, 3) := by decide +kernel
theorem dX9_copy_140 : decode cX9_copy 140 = .ok (.iconst 0, 1) := by decide +kernel
theorem dX9_copy_141 : decode cX9_copy 141 = .ok (.bipush 8, 2) := by decide +kernel
theorem dX9_copy_143 : decode cX9_copy 143 = .ok (.invokestatic 77, 3) := by decide +kernel
theorem dX9_copy_146 : decode cX9_copy 146 = .ok (.aload_n 1, 1) := by decide +kernel
theorem dX9_copy_147 : decode cX9_copy 147 = .ok (.getfield 31, 3) := by decide +kernel
theorem dX9_copy_150 : decode cX9_copy 150 = .ok (.iconst 0, 1) := by decide +kernel
theorem dX9_copy_151 : decode cX9_copy 151 = .ok (.aload_n 0, 1) := by decide +kernel
theorem dX9_copy_152 : decode cX9_copy 152 = .ok (.getfield 31, 3) := by decide +kernel
theorem dX9_copy_155 : decode cX9_copy 155 = .ok (.iconst 0, 1) := by decide +kernel
theorem dX9_copy_156 : decode cX9_copy 156 = .ok (.bipush 8, 2) := by decide +kernel
theorem dX9_copy_158 : decode cX9_copy 158 = .ok (.invokestatic 77, 3) := by decide +kernel
theorem dX9_copy_161 : decode cX9_copy 161 = .ok (.aload_n 1, 1) := by decide +kernel
theorem dX9_copy_162 : decode cX9_copy 162 = .ok (.getfield 34, 3) := by decide +kernel
theorem dX9_copy_165 : decode cX9_copy 165 = .ok (.iconst 0, 1) := by decide +kernel
theorem dX9_copy_166 : decode cX9_copy 166 = .ok (.aload_n 0, 1) := by decide +kernel
theorem dX9_copy_167 : decode cX9_copy 167 = .ok (.getfield 34, 3) := by decide +kernel
theorem dX9_copy_170 : decode cX9_copy 170 = .ok (.iconst 0, 1) := by decide +kernel
theorem dX9_copy_171 : decode cX9_copy 171 = .ok (.bipush 6, 2) := by decide +kernel
theorem dX9_copy_173 : decode cX9_copy 173 = .ok (.invokestatic 77, 3) := by decide +kernel
theorem dX9_copy_176 : decode cX9_copy 176 = .ok (.aload_n 1, 1) := by decide +kernel
theorem dX9_copy_177 : decode cX9_copy 177 = .ok (.getfield 37, 3) := by decide +kernel
theorem dX9_copy_180 : decode cX9_copy 180 = .ok (.iconst 0, 1) := by decide +kernel
theorem dX9_copy_181 : decode cX9_copy 181 = .ok (.aload_n 0, 1) := by decide +kernel
theorem dX9_copy_182 : decode cX9_copy 182 = .ok (.getfield 37, 3) := by decide +kernel
theorem dX9_copy_185 : decode cX9_copy 185 = .ok (.iconst 0, 1) := by decide +kernel
theorem dX9_copy_186 : decode cX9_copy 186 = .ok (.bipush 6, 2) := by decide +kernel
theorem dX9_copy_188 : decode cX9_copy 188 = .ok (.invokestatic 77, 3) := by decide +kernel
theorem dX9_copy_191 : decode cX9_copy 191 = .ok (.aload_n 1, 1) := by decide +kernel
theorem dX9_copy_192 : decode cX9_copy 192 = .ok (.getfield 40, 3) := by decide +kernel
theorem dX9_copy_195 : decode cX9_copy 195 = .ok (.iconst 0, 1) := by decide +kernel
theorem dX9_copy_196 : decode cX9_copy 196 = .ok (.aload_n 0, 1) := by decide +kernel
theorem dX9_copy_197 : decode cX9_copy 197 = .ok (.getfield 40, 3) := by decide +kernel
theorem dX9_copy_200 : decode cX9_copy 200 = .ok (.iconst 0, 1) := by decide +kernel
theorem dX9_copy_201 : decode cX9_copy 201 = .ok (.bipush 6, 2) := by decide +kernel
theorem dX9_copy_203 : decode cX9_copy 203 = .ok (.invokestatic 77, 3) := by decide +kernel
theorem dX9_copy_206 : decode cX9_copy 206 = .ok (.aload_n 1, 1) := by decide +kernel
theorem dX9_copy_207 : decode cX9_copy 207 = .ok (.getfield 43, 3) := by decide +kernel
theorem dX9_copy_210 : decode cX9_copy 210 = .ok (.iconst 0, 1) := by decide +kernel
theorem dX9_copy_211 : decode cX9_copy 211 = .ok (.aload_n 0, 1) := by decide +kernel
theorem dX9_copy_212 : decode cX9_copy 212 = .ok (.getfield 43, 3) := by decide +kernel
theorem dX9_copy_215 : decode cX9_copy 215 = .ok (.iconst 0, 1) := by decide +kernel
theorem dX9_copy_216 : decode cX9_copy 216 = .ok (.bipush 6, 2) := by decide +kernel
theorem dX9_copy_218 : decode cX9_copy 218 = .ok (.invokestatic 77, 3) := by decide +kernel
theorem dX9_copy_221 : decode cX9_copy 221 = .ok (.aload_n 1, 1) := by decide +kernel
theorem dX9_copy_222 : decode cX9_copy 222 = .ok (.getfield 46, 3) := by decide +kernel
theorem dX9_copy_225 : decode cX9_copy 225 = .ok (.iconst 0, 1) := by decide +kernel
theorem dX9_copy_226 : decode cX9_copy 226 = .ok (.aload_n 0, 1) := by decide +kernel
theorem dX9_copy_227 : decode cX9_copy 227 = .ok (.getfield 46, 3) := by decide +kernel
theorem dX9_copy_230 : decode cX9_copy 230 = .ok (.iconst 0, 1) := by decide +kernel
theorem dX9_copy_231 : decode cX9_copy 231 = .ok (.bipush 6, 2) := by decide +kernel
theorem dX9_copy_233 : decode cX9_copy 233 = .ok (.invokestatic 77, 3) := by decide +kernel
theorem dX9_copy_236 : decode cX9_copy 236 = .ok (.return_, 1) := by decide +kernel
theorem dX5_copy_0 : decode cX5_copy 0 = .ok (.aload_n 0, 1) := by decide +kernel
theorem dX5_copy_1 : decode cX5_copy 1 = .ok (.aload_n 1, 1) := by decide +kernel
theorem dX5_copy_2 : decode cX5_copy 2 = .ok (.getfield 30, 3) := by decide +kernel
theorem dX5_copy_5 : decode cX5_copy 5 = .ok (.putfield 30, 3) := by decide +kernel
theorem dX5_copy_8 : decode cX5_copy 8 = .ok (.aload_n 0, 1) := by decide +kernel
theorem dX5_copy_9 : decode cX5_copy 9 = .ok (.aload_n 1, 1) := by decide +kernel
theorem dX5_copy_10 : decode cX5_copy 10 = .ok (.getfield 34, 3) := by decide +kernel
theorem dX5_copy_13 : decode cX5_copy 13 = .ok (.putfield 34, 3) := by decide +kernel
theorem dX5_copy_16 : decode cX5_copy 16 = .ok (.aload_n 0, 1) := by decide +kernel
theorem dX5_copy_17 : decode cX5_copy 17 = .ok (.aload_n 1, 1) := by decide +kernel
theorem dX5_copy_18 : decode cX5_copy 18 = .ok (.getfield 38, 3) := by decide +kernel
theorem dX5_copy_21 : decode cX5_copy 21 = .ok (.putfield 38, 3) := by decide +kernel
theorem dX5_copy_24 : decode cX5_copy 24 = .ok (.aload_n 1, 1) := by decide +kernel
theorem dX5_copy_25 : decode cX5_copy 25 = .ok (.getfield 11, 3) := by decide +kernel
theorem dX5_copy_28 : decode cX5_copy 28 = .ok (.iconst 0, 1) := by decide +kernel
theorem dX5_copy_29 : decode cX5_copy 29 = .ok (.aload_n 0, 1) := by decide +kernel
theorem dX5_copy_30 : decode cX5_copy 30 = .ok (.getfield 11, 3) := by decide +kernel
theorem dX5_copy_33 : decode cX5_copy 33 = .ok (.iconst 0, 1) := by decide +kernel
theorem dX5_copy_34 : decode cX5_copy 34 = .ok (.bipush 60, 2) := by decide +kernel
theorem dX5_copy_36 : decode cX5_copy 36 = .ok (.invokestatic 44, 3) := by decide +kernel
theorem dX5_copy_39 : decode cX5_copy 39 = .ok (.aload_n 1, 1) := by decide +kernel
theorem dX5_copy_40 : decode cX5_copy 40 = .ok (.getfield 15, 3) := by decide +kernel
theorem dX5_copy_43 : decode cX5_copy 43 = .ok (.iconst 0, 1) := by decide +kernel
theorem dX5_copy_44 : decode cX5_copy 44 = .ok (.aload_n 0, 1) := by decide +kernel
theorem dX5_copy_45 : decode cX5_copy 45 = .ok (.getfield 15, 3) := by decide +kernel
theorem dX5_copy_48 : decode cX5_copy 48 = .ok (.iconst 0, 1) := by decide +kernel
theorem dX5_copy_49 : decode cX5_copy 49 = .ok (.bipush 60, 2) := by decide +kernel
theorem dX5_copy_51 : decode cX5_copy 51 = .ok (.invokestatic 44, 3) := by decide +kernel
theorem dX5_copy_54 : decode cX5_copy 54 = .ok (.aload_n 1, 1) := by decide +kernel
theorem dX5_copy_55 : decode cX5_copy 55 = .ok (.getfield 18, 3) := by decide +kernel
theorem dX5_copy_58 : decode cX5_copy 58 = .ok (.iconst 0, 1) := by decide +kernel
theorem dX5_copy_59 : decode cX5_copy 59 = .ok (.aload_n 0, 1) := by decide +kernel
theorem dX5_copy_60 : decode cX5_copy 60 = .ok (.getfield 18, 3) := by decide +kernel
theorem dX5_copy_63 : decode cX5_copy 63 = .ok (.iconst 0, 1) := by decide +kernel
theorem dX5_copy_64 : decode cX5_copy 64 = .ok (.bipush 60, 2) := by decide +kernel
theorem dX5_copy_66 : decode cX5_copy 66 = .ok (.invokestatic 44, 3) := by decide +kernel
theorem dX5_copy_69 : decode cX5_copy 69 = .ok (.aload_n 1, 1) := by decide +kernel
theorem dX5_copy_70 : decode cX5_copy 70 = .ok (.getfield 21, 3) := by decide +kernel
theorem dX5_copy_73 : decode cX5_copy 73 = .ok (.iconst 0, 1) := by decide +kernel
theorem dX5_copy_74 : decode cX5_copy 74 = .ok (.aload_n 0, 1) := by decide +kernel
theorem dX5_copy_75 : decode cX5_copy 75 = .ok (.getfield 21, 3) := by decide +kernel
theorem dX5_copy_78 : decode cX5_copy 78 = .ok (.iconst 0, 1) := by decide +kernel
theorem dX5_copy_79 : decode cX5_copy 79 = .ok (.bipush 60, 2) := by decide +kernel
theorem dX5_copy_81 : decode cX5_copy 81 = .ok (.invokestatic 44, 3) := by decide +kernel
theorem dX5_copy_84 : decode cX5_copy 84 = .ok (.aload_n 1, 1) := by decide +kernel
theorem dX5_copy_85 : decode cX5_copy 85 = .ok (.getfield 24, 3) := by decide +kernel
theorem dX5_copy_88 : decode cX5_copy 88 = .ok (.iconst 0, 1) := by decide +kernel
theorem dX5_copy_89 : decode cX5_copy 89 = .ok (.aload_n 0, 1) := by decide +kernel
theorem dX5_copy_90 : decode cX5_copy 90 = .ok (.getfield 24, 3) := by decide +kernel
theorem dX5_copy_93 : decode cX5_copy 93 = .ok (.iconst 0, 1) := by decide +kernel
theorem dX5_copy_94 : decode cX5_copy 94 = .ok (.bipush 60, 2) := by decide +kernel
theorem dX5_copy_96 : decode cX5_copy 96 = .ok (.invokestatic 44, 3) := by decide +kernel
theorem dX5_copy_99 : decode cX5_copy 99 = .ok (.return_, 1) := by decide +kernel
theorem dX3_keep_0 : decode cX3_keep 0 = .ok (.aload_n 0, 1) := by decide +kernel
theorem dX3_keep_1 : decode cX3_keep 1 = .ok (.getfield 10, 3) := by decide +kernel
theorem dX3_keep_4 : decode cX3_keep 4 = .ok (.aload_n 1, 1) := by decide +kernel
theorem dX3_keep_5 : decode cX3_keep 5 = .ok (.invokevirtual 30, 3) := by decide +kernel
theorem dX3_keep_8 : decode cX3_keep 8 = .ok (.aload_n 0, 1) := by decide +kernel
theorem dX3_keep_9 : decode cX3_keep 9 = .ok (.getfield 19, 3) := by decide +kernel
theorem dX3_keep_12 : decode cX3_keep 12 = .ok (.aload_n 2, 1) := by decide +kernel
theorem dX3_keep_13 : decode cX3_keep 13 = .ok (.invokevirtual 34, 3) := by decide +kernel
theorem dX3_keep_16 : decode cX3_keep 16 = .ok (.aload_n 0, 1) := by decide +kernel
theorem dX3_keep_17 : decode cX3_keep 17 = .ok (.getfield 26, 3) := by decide +kernel
theorem dX3_keep_20 : decode cX3_keep 20 = .ok (.aload_n 3, 1) := by decide +kernel
theorem dX3_keep_21 : decode cX3_keep 21 = .ok (.invokevirtual 37, 3) := by decide +kernel
theorem dX3_keep_24 : decode cX3_keep 24 = .ok (.return_, 1) := by decide +kernel
theorem dX3_giveBack_0 : decode cX3_giveBack 0 = .ok (.aload_n 1, 1) := by decide +kernel
theorem dX3_giveBack_1 : decode cX3_giveBack 1 = .ok (.aload_n 0, 1) := by decide +kernel
theorem dX3_giveBack_2 : decode cX3_giveBack 2 = .ok (.getfield 10, 3) := by decide +kernel
theorem dX3_giveBack_5 : decode cX3_giveBack 5 = .ok (.invokevirtual 30, 3) := by decide +kernel
theorem dX3_giveBack_8 : decode cX3_giveBack 8 = .ok (.aload_n 2, 1) := by decide +kernel
theorem dX3_giveBack_9 : decode cX3_giveBack 9 = .ok (.aload_n 0, 1) := by decide +kernel
theorem dX3_giveBack_10 : decode cX3_giveBack 10 = .ok (.getfield 19, 3) := by decide +kernel
theorem dX3_giveBack_13 : decode cX3_giveBack 13 = .ok (.invokevirtual 34, 3) := by decide +kernel
theorem dX3_giveBack_16 : decode cX3_giveBack 16 = .ok (.aload_n 3, 1) := by decide +kernel
theorem dX3_giveBack_17 : decode cX3_giveBack 17 = .ok (.aload_n 0, 1) := by decide +kernel
theorem dX3_giveBack_18 : decode cX3_giveBack 18 = .ok (.getfield 26, 3) := by decide +kernel
theorem dX3_giveBack_21 : decode cX3_giveBack 21 = .ok (.invokevirtual 37, 3) := by decide +kernel
theorem dX3_giveBack_24 : decode cX3_giveBack 24 = .ok (.return_, 1) := by decide +kernel
