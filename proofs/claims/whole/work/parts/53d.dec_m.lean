abbrev b_Md_lookImport : ByteArray := prog_8_method_52_code
abbrev y_Md_lookImport : MethodName := ⟨"ModuleBytesModel", "lookImport", "(II)J"⟩
theorem d_Md_lookImport_0 : decode b_Md_lookImport 0 = .ok (.aload_n 0, 1) := by decide +kernel
theorem d_Md_lookImport_1 : decode b_Md_lookImport 1 = .ok (.invokevirtual 302, 3) := by decide +kernel
theorem d_Md_lookImport_4 : decode b_Md_lookImport 4 = .ok (.aload_n 0, 1) := by decide +kernel
theorem d_Md_lookImport_5 : decode b_Md_lookImport 5 = .ok (.invokevirtual 302, 3) := by decide +kernel
theorem d_Md_lookImport_8 : decode b_Md_lookImport 8 = .ok (.aload_n 0, 1) := by decide +kernel
theorem d_Md_lookImport_9 : decode b_Md_lookImport 9 = .ok (.getfield 51, 3) := by decide +kernel
theorem d_Md_lookImport_12 : decode b_Md_lookImport 12 = .ok (.aload_n 0, 1) := by decide +kernel
theorem d_Md_lookImport_13 : decode b_Md_lookImport 13 = .ok (.getfield 290, 3) := by decide +kernel
theorem d_Md_lookImport_16 : decode b_Md_lookImport 16 = .ok (.iaload, 1) := by decide +kernel
theorem d_Md_lookImport_17 : decode b_Md_lookImport 17 = .ok (.istore_n 3, 1) := by decide +kernel
theorem d_Md_lookImport_18 : decode b_Md_lookImport 18 = .ok (.aload_n 0, 1) := by decide +kernel
theorem d_Md_lookImport_19 : decode b_Md_lookImport 19 = .ok (.dup, 1) := by decide +kernel
theorem d_Md_lookImport_20 : decode b_Md_lookImport 20 = .ok (.getfield 290, 3) := by decide +kernel
theorem d_Md_lookImport_23 : decode b_Md_lookImport 23 = .ok (.iconst 1, 1) := by decide +kernel
theorem d_Md_lookImport_24 : decode b_Md_lookImport 24 = .ok (.iadd, 1) := by decide +kernel
theorem d_Md_lookImport_25 : decode b_Md_lookImport 25 = .ok (.putfield 290, 3) := by decide +kernel
theorem d_Md_lookImport_28 : decode b_Md_lookImport 28 = .ok (.iload_n 2, 1) := by decide +kernel
theorem d_Md_lookImport_29 : decode b_Md_lookImport 29 = .ok (.ifCond .ne 6, 3) := by decide +kernel
theorem d_Md_lookImport_32 : decode b_Md_lookImport 32 = .ok (.iload_n 3, 1) := by decide +kernel
theorem d_Md_lookImport_33 : decode b_Md_lookImport 33 = .ok (.i2l, 1) := by decide +kernel
theorem d_Md_lookImport_34 : decode b_Md_lookImport 34 = .ok (.lreturn, 1) := by decide +kernel
theorem d_Md_lookImport_35 : decode b_Md_lookImport 35 = .ok (.iload_n 2, 1) := by decide +kernel
theorem d_Md_lookImport_36 : decode b_Md_lookImport 36 = .ok (.iconst 3, 1) := by decide +kernel
theorem d_Md_lookImport_37 : decode b_Md_lookImport 37 = .ok (.if_icmp .le 7, 3) := by decide +kernel
theorem d_Md_lookImport_40 : decode b_Md_lookImport 40 = .ok (.ldc2_w 251, 3) := by decide +kernel
theorem d_Md_lookImport_43 : decode b_Md_lookImport 43 = .ok (.lreturn, 1) := by decide +kernel
theorem d_Md_lookImport_44 : decode b_Md_lookImport 44 = .ok (.iload_n 3, 1) := by decide +kernel
theorem d_Md_lookImport_45 : decode b_Md_lookImport 45 = .ok (.ifCond .ne 28, 3) := by decide +kernel
theorem d_Md_lookImport_48 : decode b_Md_lookImport 48 = .ok (.iload_n 2, 1) := by decide +kernel
theorem d_Md_lookImport_49 : decode b_Md_lookImport 49 = .ok (.iconst 1, 1) := by decide +kernel
theorem d_Md_lookImport_50 : decode b_Md_lookImport 50 = .ok (.if_icmp .ne 10, 3) := by decide +kernel
theorem d_Md_lookImport_53 : decode b_Md_lookImport 53 = .ok (.aload_n 0, 1) := by decide +kernel
theorem d_Md_lookImport_54 : decode b_Md_lookImport 54 = .ok (.invokevirtual 293, 3) := by decide +kernel
theorem d_Md_lookImport_57 : decode b_Md_lookImport 57 = .ok (.goto 15, 3) := by decide +kernel
theorem d_Md_lookImport_60 : decode b_Md_lookImport 60 = .ok (.iload_n 2, 1) := by decide +kernel
theorem d_Md_lookImport_61 : decode b_Md_lookImport 61 = .ok (.iconst 2, 1) := by decide +kernel
theorem d_Md_lookImport_62 : decode b_Md_lookImport 62 = .ok (.if_icmp .ne 7, 3) := by decide +kernel
theorem d_Md_lookImport_65 : decode b_Md_lookImport 65 = .ok (.lconst 0, 1) := by decide +kernel
theorem d_Md_lookImport_66 : decode b_Md_lookImport 66 = .ok (.goto 6, 3) := by decide +kernel
theorem d_Md_lookImport_69 : decode b_Md_lookImport 69 = .ok (.ldc2_w 251, 3) := by decide +kernel
theorem d_Md_lookImport_72 : decode b_Md_lookImport 72 = .ok (.lreturn, 1) := by decide +kernel
theorem d_Md_lookImport_73 : decode b_Md_lookImport 73 = .ok (.iload_n 3, 1) := by decide +kernel
theorem d_Md_lookImport_74 : decode b_Md_lookImport 74 = .ok (.iconst 2, 1) := by decide +kernel
theorem d_Md_lookImport_75 : decode b_Md_lookImport 75 = .ok (.if_icmp .ne 27, 3) := by decide +kernel
theorem d_Md_lookImport_78 : decode b_Md_lookImport 78 = .ok (.iload_n 2, 1) := by decide +kernel
theorem d_Md_lookImport_79 : decode b_Md_lookImport 79 = .ok (.iconst 1, 1) := by decide +kernel
theorem d_Md_lookImport_80 : decode b_Md_lookImport 80 = .ok (.if_icmp .ne 7, 3) := by decide +kernel
theorem d_Md_lookImport_83 : decode b_Md_lookImport 83 = .ok (.lconst 0, 1) := by decide +kernel
theorem d_Md_lookImport_84 : decode b_Md_lookImport 84 = .ok (.goto 17, 3) := by decide +kernel
theorem d_Md_lookImport_87 : decode b_Md_lookImport 87 = .ok (.aload_n 0, 1) := by decide +kernel
theorem d_Md_lookImport_88 : decode b_Md_lookImport 88 = .ok (.iload_n 2, 1) := by decide +kernel
theorem d_Md_lookImport_89 : decode b_Md_lookImport 89 = .ok (.iconst 3, 1) := by decide +kernel
theorem d_Md_lookImport_90 : decode b_Md_lookImport 90 = .ok (.if_icmp .ne 7, 3) := by decide +kernel
theorem d_Md_lookImport_93 : decode b_Md_lookImport 93 = .ok (.iconst 1, 1) := by decide +kernel
theorem d_Md_lookImport_94 : decode b_Md_lookImport 94 = .ok (.goto 4, 3) := by decide +kernel
theorem d_Md_lookImport_97 : decode b_Md_lookImport 97 = .ok (.iconst 0, 1) := by decide +kernel
theorem d_Md_lookImport_98 : decode b_Md_lookImport 98 = .ok (.invokevirtual 305, 3) := by decide +kernel
theorem d_Md_lookImport_101 : decode b_Md_lookImport 101 = .ok (.lreturn, 1) := by decide +kernel
theorem d_Md_lookImport_102 : decode b_Md_lookImport 102 = .ok (.aload_n 0, 1) := by decide +kernel
theorem d_Md_lookImport_103 : decode b_Md_lookImport 103 = .ok (.getfield 51, 3) := by decide +kernel
theorem d_Md_lookImport_106 : decode b_Md_lookImport 106 = .ok (.aload_n 0, 1) := by decide +kernel
theorem d_Md_lookImport_107 : decode b_Md_lookImport 107 = .ok (.getfield 290, 3) := by decide +kernel
theorem d_Md_lookImport_110 : decode b_Md_lookImport 110 = .ok (.iaload, 1) := by decide +kernel
theorem d_Md_lookImport_111 : decode b_Md_lookImport 111 = .ok (.istore 4, 2) := by decide +kernel
theorem d_Md_lookImport_113 : decode b_Md_lookImport 113 = .ok (.aload_n 0, 1) := by decide +kernel
theorem d_Md_lookImport_114 : decode b_Md_lookImport 114 = .ok (.dup, 1) := by decide +kernel
theorem d_Md_lookImport_115 : decode b_Md_lookImport 115 = .ok (.getfield 290, 3) := by decide +kernel
theorem d_Md_lookImport_118 : decode b_Md_lookImport 118 = .ok (.iconst 1, 1) := by decide +kernel
theorem d_Md_lookImport_119 : decode b_Md_lookImport 119 = .ok (.iadd, 1) := by decide +kernel
theorem d_Md_lookImport_120 : decode b_Md_lookImport 120 = .ok (.putfield 290, 3) := by decide +kernel
theorem d_Md_lookImport_123 : decode b_Md_lookImport 123 = .ok (.iload_n 2, 1) := by decide +kernel
theorem d_Md_lookImport_124 : decode b_Md_lookImport 124 = .ok (.iconst 1, 1) := by decide +kernel
theorem d_Md_lookImport_125 : decode b_Md_lookImport 125 = .ok (.if_icmp .ne 9, 3) := by decide +kernel
theorem d_Md_lookImport_128 : decode b_Md_lookImport 128 = .ok (.iload 4, 2) := by decide +kernel
theorem d_Md_lookImport_130 : decode b_Md_lookImport 130 = .ok (.i2l, 1) := by decide +kernel
theorem d_Md_lookImport_131 : decode b_Md_lookImport 131 = .ok (.goto 46, 3) := by decide +kernel
theorem d_Md_lookImport_134 : decode b_Md_lookImport 134 = .ok (.iload_n 3, 1) := by decide +kernel
theorem d_Md_lookImport_135 : decode b_Md_lookImport 135 = .ok (.iconst 1, 1) := by decide +kernel
theorem d_Md_lookImport_136 : decode b_Md_lookImport 136 = .ok (.if_icmp .ne 20, 3) := by decide +kernel
theorem d_Md_lookImport_139 : decode b_Md_lookImport 139 = .ok (.aload_n 0, 1) := by decide +kernel
theorem d_Md_lookImport_140 : decode b_Md_lookImport 140 = .ok (.iload_n 2, 1) := by decide +kernel
theorem d_Md_lookImport_141 : decode b_Md_lookImport 141 = .ok (.iconst 3, 1) := by decide +kernel
theorem d_Md_lookImport_142 : decode b_Md_lookImport 142 = .ok (.if_icmp .ne 7, 3) := by decide +kernel
theorem d_Md_lookImport_145 : decode b_Md_lookImport 145 = .ok (.iconst 1, 1) := by decide +kernel
theorem d_Md_lookImport_146 : decode b_Md_lookImport 146 = .ok (.goto 4, 3) := by decide +kernel
theorem d_Md_lookImport_149 : decode b_Md_lookImport 149 = .ok (.iconst 0, 1) := by decide +kernel
theorem d_Md_lookImport_150 : decode b_Md_lookImport 150 = .ok (.invokevirtual 305, 3) := by decide +kernel
theorem d_Md_lookImport_153 : decode b_Md_lookImport 153 = .ok (.goto 24, 3) := by decide +kernel
theorem d_Md_lookImport_156 : decode b_Md_lookImport 156 = .ok (.iload_n 2, 1) := by decide +kernel
theorem d_Md_lookImport_157 : decode b_Md_lookImport 157 = .ok (.iconst 2, 1) := by decide +kernel
theorem d_Md_lookImport_158 : decode b_Md_lookImport 158 = .ok (.if_icmp .ne 16, 3) := by decide +kernel
theorem d_Md_lookImport_161 : decode b_Md_lookImport 161 = .ok (.aload_n 0, 1) := by decide +kernel
theorem d_Md_lookImport_162 : decode b_Md_lookImport 162 = .ok (.getfield 51, 3) := by decide +kernel
theorem d_Md_lookImport_165 : decode b_Md_lookImport 165 = .ok (.aload_n 0, 1) := by decide +kernel
theorem d_Md_lookImport_166 : decode b_Md_lookImport 166 = .ok (.getfield 290, 3) := by decide +kernel
theorem d_Md_lookImport_169 : decode b_Md_lookImport 169 = .ok (.iaload, 1) := by decide +kernel
theorem d_Md_lookImport_170 : decode b_Md_lookImport 170 = .ok (.i2l, 1) := by decide +kernel
theorem d_Md_lookImport_171 : decode b_Md_lookImport 171 = .ok (.goto 6, 3) := by decide +kernel
theorem d_Md_lookImport_174 : decode b_Md_lookImport 174 = .ok (.ldc2_w 251, 3) := by decide +kernel
theorem d_Md_lookImport_177 : decode b_Md_lookImport 177 = .ok (.lreturn, 1) := by decide +kernel
abbrev b_Md_passName : ByteArray := prog_8_method_47_code
abbrev y_Md_passName : MethodName := ⟨"ModuleBytesModel", "passName", "()V"⟩
theorem d_Md_passName_0 : decode b_Md_passName 0 = .ok (.aload_n 0, 1) := by decide +kernel
theorem d_Md_passName_1 : decode b_Md_passName 1 = .ok (.invokevirtual 293, 3) := by decide +kernel
theorem d_Md_passName_4 : decode b_Md_passName 4 = .ok (.l2i, 1) := by decide +kernel
theorem d_Md_passName_5 : decode b_Md_passName 5 = .ok (.istore_n 1, 1) := by decide +kernel
theorem d_Md_passName_6 : decode b_Md_passName 6 = .ok (.aload_n 0, 1) := by decide +kernel
theorem d_Md_passName_7 : decode b_Md_passName 7 = .ok (.dup, 1) := by decide +kernel
theorem d_Md_passName_8 : decode b_Md_passName 8 = .ok (.getfield 290, 3) := by decide +kernel
theorem d_Md_passName_11 : decode b_Md_passName 11 = .ok (.iload_n 1, 1) := by decide +kernel
theorem d_Md_passName_12 : decode b_Md_passName 12 = .ok (.iadd, 1) := by decide +kernel
theorem d_Md_passName_13 : decode b_Md_passName 13 = .ok (.putfield 290, 3) := by decide +kernel
theorem d_Md_passName_16 : decode b_Md_passName 16 = .ok (.return_, 1) := by decide +kernel
abbrev b_Md_limit : ByteArray := prog_8_method_51_code
abbrev y_Md_limit : MethodName := ⟨"ModuleBytesModel", "limit", "(Z)J"⟩
theorem d_Md_limit_0 : decode b_Md_limit 0 = .ok (.aload_n 0, 1) := by decide +kernel
theorem d_Md_limit_1 : decode b_Md_limit 1 = .ok (.getfield 51, 3) := by decide +kernel
theorem d_Md_limit_4 : decode b_Md_limit 4 = .ok (.aload_n 0, 1) := by decide +kernel
theorem d_Md_limit_5 : decode b_Md_limit 5 = .ok (.getfield 290, 3) := by decide +kernel
theorem d_Md_limit_8 : decode b_Md_limit 8 = .ok (.iaload, 1) := by decide +kernel
theorem d_Md_limit_9 : decode b_Md_limit 9 = .ok (.istore_n 2, 1) := by decide +kernel
theorem d_Md_limit_10 : decode b_Md_limit 10 = .ok (.aload_n 0, 1) := by decide +kernel
theorem d_Md_limit_11 : decode b_Md_limit 11 = .ok (.dup, 1) := by decide +kernel
theorem d_Md_limit_12 : decode b_Md_limit 12 = .ok (.getfield 290, 3) := by decide +kernel
theorem d_Md_limit_15 : decode b_Md_limit 15 = .ok (.iconst 1, 1) := by decide +kernel
theorem d_Md_limit_16 : decode b_Md_limit 16 = .ok (.iadd, 1) := by decide +kernel
theorem d_Md_limit_17 : decode b_Md_limit 17 = .ok (.putfield 290, 3) := by decide +kernel
theorem d_Md_limit_20 : decode b_Md_limit 20 = .ok (.aload_n 0, 1) := by decide +kernel
theorem d_Md_limit_21 : decode b_Md_limit 21 = .ok (.invokevirtual 293, 3) := by decide +kernel
theorem d_Md_limit_24 : decode b_Md_limit 24 = .ok (.lstore_n 3, 1) := by decide +kernel
theorem d_Md_limit_25 : decode b_Md_limit 25 = .ok (.iload_n 1, 1) := by decide +kernel
theorem d_Md_limit_26 : decode b_Md_limit 26 = .ok (.ifCond .ne 7, 3) := by decide +kernel
theorem d_Md_limit_29 : decode b_Md_limit 29 = .ok (.lload_n 3, 1) := by decide +kernel
theorem d_Md_limit_30 : decode b_Md_limit 30 = .ok (.goto 17, 3) := by decide +kernel
theorem d_Md_limit_33 : decode b_Md_limit 33 = .ok (.iload_n 2, 1) := by decide +kernel
theorem d_Md_limit_34 : decode b_Md_limit 34 = .ok (.ifCond .ne 9, 3) := by decide +kernel
theorem d_Md_limit_37 : decode b_Md_limit 37 = .ok (.ldc2_w 251, 3) := by decide +kernel
theorem d_Md_limit_40 : decode b_Md_limit 40 = .ok (.goto 7, 3) := by decide +kernel
theorem d_Md_limit_43 : decode b_Md_limit 43 = .ok (.aload_n 0, 1) := by decide +kernel
theorem d_Md_limit_44 : decode b_Md_limit 44 = .ok (.invokevirtual 293, 3) := by decide +kernel
theorem d_Md_limit_47 : decode b_Md_limit 47 = .ok (.lreturn, 1) := by decide +kernel
abbrev b_Md_placeOf : ByteArray := prog_8_method_49_code
abbrev y_Md_placeOf : MethodName := ⟨"ModuleBytesModel", "placeOf", "(II)I"⟩
theorem d_Md_placeOf_0 : decode b_Md_placeOf 0 = .ok (.aload_n 0, 1) := by decide +kernel
theorem d_Md_placeOf_1 : decode b_Md_placeOf 1 = .ok (.iload_n 1, 1) := by decide +kernel
theorem d_Md_placeOf_2 : decode b_Md_placeOf 2 = .ok (.iconst 0, 1) := by decide +kernel
theorem d_Md_placeOf_3 : decode b_Md_placeOf 3 = .ok (.invokevirtual 296, 3) := by decide +kernel
theorem d_Md_placeOf_6 : decode b_Md_placeOf 6 = .ok (.istore_n 3, 1) := by decide +kernel
theorem d_Md_placeOf_7 : decode b_Md_placeOf 7 = .ok (.iload_n 3, 1) := by decide +kernel
theorem d_Md_placeOf_8 : decode b_Md_placeOf 8 = .ok (.ifCond .ge 7, 3) := by decide +kernel
theorem d_Md_placeOf_11 : decode b_Md_placeOf 11 = .ok (.iconst (-1), 1) := by decide +kernel
theorem d_Md_placeOf_12 : decode b_Md_placeOf 12 = .ok (.goto 23, 3) := by decide +kernel
theorem d_Md_placeOf_15 : decode b_Md_placeOf 15 = .ok (.iload_n 2, 1) := by decide +kernel
theorem d_Md_placeOf_16 : decode b_Md_placeOf 16 = .ok (.iconst 4, 1) := by decide +kernel
theorem d_Md_placeOf_17 : decode b_Md_placeOf 17 = .ok (.if_icmp .ne 12, 3) := by decide +kernel
theorem d_Md_placeOf_20 : decode b_Md_placeOf 20 = .ok (.aload_n 0, 1) := by decide +kernel
theorem d_Md_placeOf_21 : decode b_Md_placeOf 21 = .ok (.getfield 69, 3) := by decide +kernel
theorem d_Md_placeOf_24 : decode b_Md_placeOf 24 = .ok (.iload_n 3, 1) := by decide +kernel
theorem d_Md_placeOf_25 : decode b_Md_placeOf 25 = .ok (.iaload, 1) := by decide +kernel
theorem d_Md_placeOf_26 : decode b_Md_placeOf 26 = .ok (.goto 9, 3) := by decide +kernel
theorem d_Md_placeOf_29 : decode b_Md_placeOf 29 = .ok (.aload_n 0, 1) := by decide +kernel
theorem d_Md_placeOf_30 : decode b_Md_placeOf 30 = .ok (.getfield 72, 3) := by decide +kernel
theorem d_Md_placeOf_33 : decode b_Md_placeOf 33 = .ok (.iload_n 3, 1) := by decide +kernel
theorem d_Md_placeOf_34 : decode b_Md_placeOf 34 = .ok (.iaload, 1) := by decide +kernel
theorem d_Md_placeOf_35 : decode b_Md_placeOf 35 = .ok (.ireturn, 1) := by decide +kernel
abbrev b_Md_expressionOf : ByteArray := prog_8_method_48_code
abbrev y_Md_expressionOf : MethodName := ⟨"ModuleBytesModel", "expressionOf", "(II)I"⟩
theorem d_Md_expressionOf_0 : decode b_Md_expressionOf 0 = .ok (.iconst 0, 1) := by decide +kernel
theorem d_Md_expressionOf_1 : decode b_Md_expressionOf 1 = .ok (.istore_n 3, 1) := by decide +kernel
theorem d_Md_expressionOf_2 : decode b_Md_expressionOf 2 = .ok (.iconst (-1), 1) := by decide +kernel
theorem d_Md_expressionOf_3 : decode b_Md_expressionOf 3 = .ok (.istore 4, 2) := by decide +kernel
theorem d_Md_expressionOf_5 : decode b_Md_expressionOf 5 = .ok (.iconst 0, 1) := by decide +kernel
theorem d_Md_expressionOf_6 : decode b_Md_expressionOf 6 = .ok (.istore 5, 2) := by decide +kernel
theorem d_Md_expressionOf_8 : decode b_Md_expressionOf 8 = .ok (.iload 5, 2) := by decide +kernel
theorem d_Md_expressionOf_10 : decode b_Md_expressionOf 10 = .ok (.aload_n 0, 1) := by decide +kernel
theorem d_Md_expressionOf_11 : decode b_Md_expressionOf 11 = .ok (.getfield 275, 3) := by decide +kernel
theorem d_Md_expressionOf_14 : decode b_Md_expressionOf 14 = .ok (.if_icmp .ge 37, 3) := by decide +kernel
theorem d_Md_expressionOf_17 : decode b_Md_expressionOf 17 = .ok (.aload_n 0, 1) := by decide +kernel
theorem d_Md_expressionOf_18 : decode b_Md_expressionOf 18 = .ok (.getfield 66, 3) := by decide +kernel
theorem d_Md_expressionOf_21 : decode b_Md_expressionOf 21 = .ok (.iload 5, 2) := by decide +kernel
theorem d_Md_expressionOf_23 : decode b_Md_expressionOf 23 = .ok (.iaload, 1) := by decide +kernel
theorem d_Md_expressionOf_24 : decode b_Md_expressionOf 24 = .ok (.iload_n 1, 1) := by decide +kernel
theorem d_Md_expressionOf_25 : decode b_Md_expressionOf 25 = .ok (.if_icmp .ne 20, 3) := by decide +kernel
theorem d_Md_expressionOf_28 : decode b_Md_expressionOf 28 = .ok (.iload_n 3, 1) := by decide +kernel
theorem d_Md_expressionOf_29 : decode b_Md_expressionOf 29 = .ok (.iload_n 2, 1) := by decide +kernel
theorem d_Md_expressionOf_30 : decode b_Md_expressionOf 30 = .ok (.if_icmp .ne 8, 3) := by decide +kernel
theorem d_Md_expressionOf_33 : decode b_Md_expressionOf 33 = .ok (.iload 5, 2) := by decide +kernel
theorem d_Md_expressionOf_35 : decode b_Md_expressionOf 35 = .ok (.goto 5, 3) := by decide +kernel
theorem d_Md_expressionOf_38 : decode b_Md_expressionOf 38 = .ok (.iload 4, 2) := by decide +kernel
theorem d_Md_expressionOf_40 : decode b_Md_expressionOf 40 = .ok (.istore 4, 2) := by decide +kernel
theorem d_Md_expressionOf_42 : decode b_Md_expressionOf 42 = .ok (.iinc 3 1, 3) := by decide +kernel
theorem d_Md_expressionOf_45 : decode b_Md_expressionOf 45 = .ok (.iinc 5 1, 3) := by decide +kernel
theorem d_Md_expressionOf_48 : decode b_Md_expressionOf 48 = .ok (.goto (-40), 3) := by decide +kernel
theorem d_Md_expressionOf_51 : decode b_Md_expressionOf 51 = .ok (.iload 4, 2) := by decide +kernel
theorem d_Md_expressionOf_53 : decode b_Md_expressionOf 53 = .ok (.ireturn, 1) := by decide +kernel
abbrev b_Md_exportNumber : ByteArray := prog_8_method_58_code
abbrev y_Md_exportNumber : MethodName := ⟨"ModuleBytesModel", "exportNumber", "()J"⟩
theorem d_Md_exportNumber_0 : decode b_Md_exportNumber 0 = .ok (.aload_n 0, 1) := by decide +kernel
theorem d_Md_exportNumber_1 : decode b_Md_exportNumber 1 = .ok (.dup, 1) := by decide +kernel
theorem d_Md_exportNumber_2 : decode b_Md_exportNumber 2 = .ok (.getfield 290, 3) := by decide +kernel
theorem d_Md_exportNumber_5 : decode b_Md_exportNumber 5 = .ok (.iconst 1, 1) := by decide +kernel
theorem d_Md_exportNumber_6 : decode b_Md_exportNumber 6 = .ok (.iadd, 1) := by decide +kernel
theorem d_Md_exportNumber_7 : decode b_Md_exportNumber 7 = .ok (.putfield 290, 3) := by decide +kernel
theorem d_Md_exportNumber_10 : decode b_Md_exportNumber 10 = .ok (.aload_n 0, 1) := by decide +kernel
theorem d_Md_exportNumber_11 : decode b_Md_exportNumber 11 = .ok (.invokevirtual 293, 3) := by decide +kernel
theorem d_Md_exportNumber_14 : decode b_Md_exportNumber 14 = .ok (.lreturn, 1) := by decide +kernel
abbrev b_Md_lookElement : ByteArray := prog_8_method_53_code
abbrev y_Md_lookElement : MethodName := ⟨"ModuleBytesModel", "lookElement", "(II)J"⟩
theorem d_Md_lookElement_0 : decode b_Md_lookElement 0 = .ok (.aload_n 0, 1) := by decide +kernel
theorem d_Md_lookElement_1 : decode b_Md_lookElement 1 = .ok (.invokevirtual 293, 3) := by decide +kernel
theorem d_Md_lookElement_4 : decode b_Md_lookElement 4 = .ok (.l2i, 1) := by decide +kernel
theorem d_Md_lookElement_5 : decode b_Md_lookElement 5 = .ok (.istore_n 3, 1) := by decide +kernel
theorem d_Md_lookElement_6 : decode b_Md_lookElement 6 = .ok (.iload_n 3, 1) := by decide +kernel
theorem d_Md_lookElement_7 : decode b_Md_lookElement 7 = .ok (.iconst 1, 1) := by decide +kernel
theorem d_Md_lookElement_8 : decode b_Md_lookElement 8 = .ok (.iand, 1) := by decide +kernel
theorem d_Md_lookElement_9 : decode b_Md_lookElement 9 = .ok (.ifCond .ne 7, 3) := by decide +kernel
theorem d_Md_lookElement_12 : decode b_Md_lookElement 12 = .ok (.iconst 1, 1) := by decide +kernel
theorem d_Md_lookElement_13 : decode b_Md_lookElement 13 = .ok (.goto 4, 3) := by decide +kernel
theorem d_Md_lookElement_16 : decode b_Md_lookElement 16 = .ok (.iconst 0, 1) := by decide +kernel
theorem d_Md_lookElement_17 : decode b_Md_lookElement 17 = .ok (.istore 4, 2) := by decide +kernel
theorem d_Md_lookElement_19 : decode b_Md_lookElement 19 = .ok (.iload 4, 2) := by decide +kernel
theorem d_Md_lookElement_21 : decode b_Md_lookElement 21 = .ok (.ifCond .eq 16, 3) := by decide +kernel
theorem d_Md_lookElement_24 : decode b_Md_lookElement 24 = .ok (.iload_n 3, 1) := by decide +kernel
theorem d_Md_lookElement_25 : decode b_Md_lookElement 25 = .ok (.iconst 2, 1) := by decide +kernel
theorem d_Md_lookElement_26 : decode b_Md_lookElement 26 = .ok (.iand, 1) := by decide +kernel
theorem d_Md_lookElement_27 : decode b_Md_lookElement 27 = .ok (.ifCond .eq 10, 3) := by decide +kernel
theorem d_Md_lookElement_30 : decode b_Md_lookElement 30 = .ok (.aload_n 0, 1) := by decide +kernel
theorem d_Md_lookElement_31 : decode b_Md_lookElement 31 = .ok (.invokevirtual 293, 3) := by decide +kernel
theorem d_Md_lookElement_34 : decode b_Md_lookElement 34 = .ok (.goto 4, 3) := by decide +kernel
theorem d_Md_lookElement_37 : decode b_Md_lookElement 37 = .ok (.lconst 0, 1) := by decide +kernel
theorem d_Md_lookElement_38 : decode b_Md_lookElement 38 = .ok (.lstore 5, 2) := by decide +kernel
theorem d_Md_lookElement_40 : decode b_Md_lookElement 40 = .ok (.iload_n 2, 1) := by decide +kernel
theorem d_Md_lookElement_41 : decode b_Md_lookElement 41 = .ok (.ifCond .ne 26, 3) := by decide +kernel
theorem d_Md_lookElement_44 : decode b_Md_lookElement 44 = .ok (.iload 4, 2) := by decide +kernel
theorem d_Md_lookElement_46 : decode b_Md_lookElement 46 = .ok (.ifCond .eq 7, 3) := by decide +kernel
theorem d_Md_lookElement_49 : decode b_Md_lookElement 49 = .ok (.lconst 1, 1) := by decide +kernel
theorem d_Md_lookElement_50 : decode b_Md_lookElement 50 = .ok (.goto 16, 3) := by decide +kernel
theorem d_Md_lookElement_53 : decode b_Md_lookElement 53 = .ok (.iload_n 3, 1) := by decide +kernel
theorem d_Md_lookElement_54 : decode b_Md_lookElement 54 = .ok (.iconst 2, 1) := by decide +kernel
theorem d_Md_lookElement_55 : decode b_Md_lookElement 55 = .ok (.iand, 1) := by decide +kernel
theorem d_Md_lookElement_56 : decode b_Md_lookElement 56 = .ok (.ifCond .eq 9, 3) := by decide +kernel
theorem d_Md_lookElement_59 : decode b_Md_lookElement 59 = .ok (.ldc2_w 165, 3) := by decide +kernel
theorem d_Md_lookElement_62 : decode b_Md_lookElement 62 = .ok (.goto 4, 3) := by decide +kernel
theorem d_Md_lookElement_65 : decode b_Md_lookElement 65 = .ok (.lconst 0, 1) := by decide +kernel
theorem d_Md_lookElement_66 : decode b_Md_lookElement 66 = .ok (.lreturn, 1) := by decide +kernel
theorem d_Md_lookElement_67 : decode b_Md_lookElement 67 = .ok (.iload_n 2, 1) := by decide +kernel
theorem d_Md_lookElement_68 : decode b_Md_lookElement 68 = .ok (.iconst 2, 1) := by decide +kernel
theorem d_Md_lookElement_69 : decode b_Md_lookElement 69 = .ok (.if_icmp .ne 6, 3) := by decide +kernel
theorem d_Md_lookElement_72 : decode b_Md_lookElement 72 = .ok (.lload 5, 2) := by decide +kernel
theorem d_Md_lookElement_74 : decode b_Md_lookElement 74 = .ok (.lreturn, 1) := by decide +kernel
theorem d_Md_lookElement_75 : decode b_Md_lookElement 75 = .ok (.iload_n 2, 1) := by decide +kernel
theorem d_Md_lookElement_76 : decode b_Md_lookElement 76 = .ok (.iconst 4, 1) := by decide +kernel
theorem d_Md_lookElement_77 : decode b_Md_lookElement 77 = .ok (.if_icmp .eq 8, 3) := by decide +kernel
theorem d_Md_lookElement_80 : decode b_Md_lookElement 80 = .ok (.iload_n 2, 1) := by decide +kernel
theorem d_Md_lookElement_81 : decode b_Md_lookElement 81 = .ok (.iconst 5, 1) := by decide +kernel
theorem d_Md_lookElement_82 : decode b_Md_lookElement 82 = .ok (.if_icmp .ne 22, 3) := by decide +kernel
theorem d_Md_lookElement_85 : decode b_Md_lookElement 85 = .ok (.iload 4, 2) := by decide +kernel
theorem d_Md_lookElement_87 : decode b_Md_lookElement 87 = .ok (.ifCond .eq 13, 3) := by decide +kernel
theorem d_Md_lookElement_90 : decode b_Md_lookElement 90 = .ok (.aload_n 0, 1) := by decide +kernel
theorem d_Md_lookElement_91 : decode b_Md_lookElement 91 = .ok (.iload_n 1, 1) := by decide +kernel
theorem d_Md_lookElement_92 : decode b_Md_lookElement 92 = .ok (.iload_n 2, 1) := by decide +kernel
theorem d_Md_lookElement_93 : decode b_Md_lookElement 93 = .ok (.invokevirtual 309, 3) := by decide +kernel
theorem d_Md_lookElement_96 : decode b_Md_lookElement 96 = .ok (.i2l, 1) := by decide +kernel
theorem d_Md_lookElement_97 : decode b_Md_lookElement 97 = .ok (.goto 6, 3) := by decide +kernel
theorem d_Md_lookElement_100 : decode b_Md_lookElement 100 = .ok (.ldc2_w 251, 3) := by decide +kernel
theorem d_Md_lookElement_103 : decode b_Md_lookElement 103 = .ok (.lreturn, 1) := by decide +kernel
theorem d_Md_lookElement_104 : decode b_Md_lookElement 104 = .ok (.iload_n 2, 1) := by decide +kernel
theorem d_Md_lookElement_105 : decode b_Md_lookElement 105 = .ok (.bipush 6, 2) := by decide +kernel
theorem d_Md_lookElement_107 : decode b_Md_lookElement 107 = .ok (.if_icmp .ne 15, 3) := by decide +kernel
theorem d_Md_lookElement_110 : decode b_Md_lookElement 110 = .ok (.iload_n 3, 1) := by decide +kernel
theorem d_Md_lookElement_111 : decode b_Md_lookElement 111 = .ok (.iconst 4, 1) := by decide +kernel
theorem d_Md_lookElement_112 : decode b_Md_lookElement 112 = .ok (.iand, 1) := by decide +kernel
theorem d_Md_lookElement_113 : decode b_Md_lookElement 113 = .ok (.ifCond .eq 7, 3) := by decide +kernel
theorem d_Md_lookElement_116 : decode b_Md_lookElement 116 = .ok (.lconst 1, 1) := by decide +kernel
theorem d_Md_lookElement_117 : decode b_Md_lookElement 117 = .ok (.goto 4, 3) := by decide +kernel
theorem d_Md_lookElement_120 : decode b_Md_lookElement 120 = .ok (.lconst 0, 1) := by decide +kernel
theorem d_Md_lookElement_121 : decode b_Md_lookElement 121 = .ok (.lreturn, 1) := by decide +kernel
theorem d_Md_lookElement_122 : decode b_Md_lookElement 122 = .ok (.iload 4, 2) := by decide +kernel
theorem d_Md_lookElement_124 : decode b_Md_lookElement 124 = .ok (.ifCond .eq 18, 3) := by decide +kernel
theorem d_Md_lookElement_127 : decode b_Md_lookElement 127 = .ok (.aload_n 0, 1) := by decide +kernel
theorem d_Md_lookElement_128 : decode b_Md_lookElement 128 = .ok (.aload_n 0, 1) := by decide +kernel
theorem d_Md_lookElement_129 : decode b_Md_lookElement 129 = .ok (.getfield 72, 3) := by decide +kernel
theorem d_Md_lookElement_132 : decode b_Md_lookElement 132 = .ok (.aload_n 0, 1) := by decide +kernel
theorem d_Md_lookElement_133 : decode b_Md_lookElement 133 = .ok (.iload_n 1, 1) := by decide +kernel
theorem d_Md_lookElement_134 : decode b_Md_lookElement 134 = .ok (.iconst 0, 1) := by decide +kernel
theorem d_Md_lookElement_135 : decode b_Md_lookElement 135 = .ok (.invokevirtual 296, 3) := by decide +kernel
theorem d_Md_lookElement_138 : decode b_Md_lookElement 138 = .ok (.iaload, 1) := by decide +kernel
theorem d_Md_lookElement_139 : decode b_Md_lookElement 139 = .ok (.putfield 290, 3) := by decide +kernel
theorem d_Md_lookElement_142 : decode b_Md_lookElement 142 = .ok (.iload_n 3, 1) := by decide +kernel
theorem d_Md_lookElement_143 : decode b_Md_lookElement 143 = .ok (.ifCond .eq 12, 3) := by decide +kernel
theorem d_Md_lookElement_146 : decode b_Md_lookElement 146 = .ok (.iload_n 3, 1) := by decide +kernel
theorem d_Md_lookElement_147 : decode b_Md_lookElement 147 = .ok (.iconst 4, 1) := by decide +kernel
theorem d_Md_lookElement_148 : decode b_Md_lookElement 148 = .ok (.if_icmp .eq 7, 3) := by decide +kernel
theorem d_Md_lookElement_151 : decode b_Md_lookElement 151 = .ok (.iconst 1, 1) := by decide +kernel
theorem d_Md_lookElement_152 : decode b_Md_lookElement 152 = .ok (.goto 4, 3) := by decide +kernel
theorem d_Md_lookElement_155 : decode b_Md_lookElement 155 = .ok (.iconst 0, 1) := by decide +kernel
theorem d_Md_lookElement_156 : decode b_Md_lookElement 156 = .ok (.istore 7, 2) := by decide +kernel
theorem d_Md_lookElement_158 : decode b_Md_lookElement 158 = .ok (.iload 7, 2) := by decide +kernel
theorem d_Md_lookElement_160 : decode b_Md_lookElement 160 = .ok (.ifCond .eq 22, 3) := by decide +kernel
theorem d_Md_lookElement_163 : decode b_Md_lookElement 163 = .ok (.iload_n 3, 1) := by decide +kernel
theorem d_Md_lookElement_164 : decode b_Md_lookElement 164 = .ok (.iconst 4, 1) := by decide +kernel
theorem d_Md_lookElement_165 : decode b_Md_lookElement 165 = .ok (.iand, 1) := by decide +kernel
theorem d_Md_lookElement_166 : decode b_Md_lookElement 166 = .ok (.ifCond .eq 16, 3) := by decide +kernel
theorem d_Md_lookElement_169 : decode b_Md_lookElement 169 = .ok (.aload_n 0, 1) := by decide +kernel
theorem d_Md_lookElement_170 : decode b_Md_lookElement 170 = .ok (.getfield 51, 3) := by decide +kernel
theorem d_Md_lookElement_173 : decode b_Md_lookElement 173 = .ok (.aload_n 0, 1) := by decide +kernel
theorem d_Md_lookElement_174 : decode b_Md_lookElement 174 = .ok (.getfield 290, 3) := by decide +kernel
theorem d_Md_lookElement_177 : decode b_Md_lookElement 177 = .ok (.iaload, 1) := by decide +kernel
theorem d_Md_lookElement_178 : decode b_Md_lookElement 178 = .ok (.i2l, 1) := by decide +kernel
theorem d_Md_lookElement_179 : decode b_Md_lookElement 179 = .ok (.goto 6, 3) := by decide +kernel
theorem d_Md_lookElement_182 : decode b_Md_lookElement 182 = .ok (.ldc2_w 312, 3) := by decide +kernel
theorem d_Md_lookElement_185 : decode b_Md_lookElement 185 = .ok (.lstore 8, 2) := by decide +kernel
theorem d_Md_lookElement_187 : decode b_Md_lookElement 187 = .ok (.aload_n 0, 1) := by decide +kernel
theorem d_Md_lookElement_188 : decode b_Md_lookElement 188 = .ok (.dup, 1) := by decide +kernel
theorem d_Md_lookElement_189 : decode b_Md_lookElement 189 = .ok (.getfield 290, 3) := by decide +kernel
theorem d_Md_lookElement_192 : decode b_Md_lookElement 192 = .ok (.iload 7, 2) := by decide +kernel
theorem d_Md_lookElement_194 : decode b_Md_lookElement 194 = .ok (.ifCond .eq 7, 3) := by decide +kernel
theorem d_Md_lookElement_197 : decode b_Md_lookElement 197 = .ok (.iconst 1, 1) := by decide +kernel
theorem d_Md_lookElement_198 : decode b_Md_lookElement 198 = .ok (.goto 4, 3) := by decide +kernel
theorem d_Md_lookElement_201 : decode b_Md_lookElement 201 = .ok (.iconst 0, 1) := by decide +kernel
theorem d_Md_lookElement_202 : decode b_Md_lookElement 202 = .ok (.iadd, 1) := by decide +kernel
theorem d_Md_lookElement_203 : decode b_Md_lookElement 203 = .ok (.putfield 290, 3) := by decide +kernel
theorem d_Md_lookElement_206 : decode b_Md_lookElement 206 = .ok (.iload_n 2, 1) := by decide +kernel
theorem d_Md_lookElement_207 : decode b_Md_lookElement 207 = .ok (.iconst 1, 1) := by decide +kernel
theorem d_Md_lookElement_208 : decode b_Md_lookElement 208 = .ok (.if_icmp .ne 6, 3) := by decide +kernel
theorem d_Md_lookElement_211 : decode b_Md_lookElement 211 = .ok (.lload 8, 2) := by decide +kernel
theorem d_Md_lookElement_213 : decode b_Md_lookElement 213 = .ok (.lreturn, 1) := by decide +kernel
theorem d_Md_lookElement_214 : decode b_Md_lookElement 214 = .ok (.aload_n 0, 1) := by decide +kernel
theorem d_Md_lookElement_215 : decode b_Md_lookElement 215 = .ok (.invokevirtual 293, 3) := by decide +kernel
theorem d_Md_lookElement_218 : decode b_Md_lookElement 218 = .ok (.lstore 10, 2) := by decide +kernel
theorem d_Md_lookElement_220 : decode b_Md_lookElement 220 = .ok (.iload_n 2, 1) := by decide +kernel
theorem d_Md_lookElement_221 : decode b_Md_lookElement 221 = .ok (.iconst 3, 1) := by decide +kernel
theorem d_Md_lookElement_222 : decode b_Md_lookElement 222 = .ok (.if_icmp .ne 6, 3) := by decide +kernel
theorem d_Md_lookElement_225 : decode b_Md_lookElement 225 = .ok (.lload 10, 2) := by decide +kernel
theorem d_Md_lookElement_227 : decode b_Md_lookElement 227 = .ok (.lreturn, 1) := by decide +kernel
theorem d_Md_lookElement_228 : decode b_Md_lookElement 228 = .ok (.iload_n 2, 1) := by decide +kernel
theorem d_Md_lookElement_229 : decode b_Md_lookElement 229 = .ok (.bipush 8, 2) := by decide +kernel
theorem d_Md_lookElement_231 : decode b_Md_lookElement 231 = .ok (.if_icmp .lt 14, 3) := by decide +kernel
theorem d_Md_lookElement_234 : decode b_Md_lookElement 234 = .ok (.iload_n 2, 1) := by decide +kernel
theorem d_Md_lookElement_235 : decode b_Md_lookElement 235 = .ok (.bipush 8, 2) := by decide +kernel
theorem d_Md_lookElement_237 : decode b_Md_lookElement 237 = .ok (.isub, 1) := by decide +kernel
theorem d_Md_lookElement_238 : decode b_Md_lookElement 238 = .ok (.i2l, 1) := by decide +kernel
theorem d_Md_lookElement_239 : decode b_Md_lookElement 239 = .ok (.lload 10, 2) := by decide +kernel
theorem d_Md_lookElement_241 : decode b_Md_lookElement 241 = .ok (.lcmp, 1) := by decide +kernel
theorem d_Md_lookElement_242 : decode b_Md_lookElement 242 = .ok (.ifCond .lt 7, 3) := by decide +kernel
theorem d_Md_lookElement_245 : decode b_Md_lookElement 245 = .ok (.ldc2_w 251, 3) := by decide +kernel
theorem d_Md_lookElement_248 : decode b_Md_lookElement 248 = .ok (.lreturn, 1) := by decide +kernel
theorem d_Md_lookElement_249 : decode b_Md_lookElement 249 = .ok (.iload_n 3, 1) := by decide +kernel
theorem d_Md_lookElement_250 : decode b_Md_lookElement 250 = .ok (.iconst 4, 1) := by decide +kernel
theorem d_Md_lookElement_251 : decode b_Md_lookElement 251 = .ok (.iand, 1) := by decide +kernel
theorem d_Md_lookElement_252 : decode b_Md_lookElement 252 = .ok (.ifCond .eq 30, 3) := by decide +kernel
theorem d_Md_lookElement_255 : decode b_Md_lookElement 255 = .ok (.aload_n 0, 1) := by decide +kernel
theorem d_Md_lookElement_256 : decode b_Md_lookElement 256 = .ok (.getfield 69, 3) := by decide +kernel
theorem d_Md_lookElement_259 : decode b_Md_lookElement 259 = .ok (.aload_n 0, 1) := by decide +kernel
theorem d_Md_lookElement_260 : decode b_Md_lookElement 260 = .ok (.iload_n 1, 1) := by decide +kernel
theorem d_Md_lookElement_261 : decode b_Md_lookElement 261 = .ok (.iload_n 2, 1) := by decide +kernel
theorem d_Md_lookElement_262 : decode b_Md_lookElement 262 = .ok (.bipush 8, 2) := by decide +kernel
theorem d_Md_lookElement_264 : decode b_Md_lookElement 264 = .ok (.isub, 1) := by decide +kernel
theorem d_Md_lookElement_265 : decode b_Md_lookElement 265 = .ok (.iload 4, 2) := by decide +kernel
theorem d_Md_lookElement_267 : decode b_Md_lookElement 267 = .ok (.ifCond .eq 7, 3) := by decide +kernel
theorem d_Md_lookElement_270 : decode b_Md_lookElement 270 = .ok (.iconst 1, 1) := by decide +kernel
theorem d_Md_lookElement_271 : decode b_Md_lookElement 271 = .ok (.goto 4, 3) := by decide +kernel
theorem d_Md_lookElement_274 : decode b_Md_lookElement 274 = .ok (.iconst 0, 1) := by decide +kernel
theorem d_Md_lookElement_275 : decode b_Md_lookElement 275 = .ok (.iadd, 1) := by decide +kernel
theorem d_Md_lookElement_276 : decode b_Md_lookElement 276 = .ok (.invokevirtual 296, 3) := by decide +kernel
theorem d_Md_lookElement_279 : decode b_Md_lookElement 279 = .ok (.iaload, 1) := by decide +kernel
theorem d_Md_lookElement_280 : decode b_Md_lookElement 280 = .ok (.i2l, 1) := by decide +kernel
theorem d_Md_lookElement_281 : decode b_Md_lookElement 281 = .ok (.lreturn, 1) := by decide +kernel
theorem d_Md_lookElement_282 : decode b_Md_lookElement 282 = .ok (.bipush 8, 2) := by decide +kernel
theorem d_Md_lookElement_284 : decode b_Md_lookElement 284 = .ok (.istore 12, 2) := by decide +kernel
theorem d_Md_lookElement_286 : decode b_Md_lookElement 286 = .ok (.iload 12, 2) := by decide +kernel
theorem d_Md_lookElement_288 : decode b_Md_lookElement 288 = .ok (.iload_n 2, 1) := by decide +kernel
theorem d_Md_lookElement_289 : decode b_Md_lookElement 289 = .ok (.if_icmp .ge 14, 3) := by decide +kernel
theorem d_Md_lookElement_292 : decode b_Md_lookElement 292 = .ok (.aload_n 0, 1) := by decide +kernel
theorem d_Md_lookElement_293 : decode b_Md_lookElement 293 = .ok (.invokevirtual 293, 3) := by decide +kernel
theorem d_Md_lookElement_296 : decode b_Md_lookElement 296 = .ok (.pop2, 1) := by decide +kernel
theorem d_Md_lookElement_297 : decode b_Md_lookElement 297 = .ok (.iinc 12 1, 3) := by decide +kernel
theorem d_Md_lookElement_300 : decode b_Md_lookElement 300 = .ok (.goto (-14), 3) := by decide +kernel
theorem d_Md_lookElement_303 : decode b_Md_lookElement 303 = .ok (.aload_n 0, 1) := by decide +kernel
theorem d_Md_lookElement_304 : decode b_Md_lookElement 304 = .ok (.invokevirtual 293, 3) := by decide +kernel
theorem d_Md_lookElement_307 : decode b_Md_lookElement 307 = .ok (.lreturn, 1) := by decide +kernel
abbrev b_Md_lookBody : ByteArray := prog_8_method_54_code
abbrev y_Md_lookBody : MethodName := ⟨"ModuleBytesModel", "lookBody", "(II)J"⟩
theorem d_Md_lookBody_0 : decode b_Md_lookBody 0 = .ok (.aload_n 0, 1) := by decide +kernel
theorem d_Md_lookBody_1 : decode b_Md_lookBody 1 = .ok (.invokevirtual 293, 3) := by decide +kernel
theorem d_Md_lookBody_4 : decode b_Md_lookBody 4 = .ok (.pop2, 1) := by decide +kernel
theorem d_Md_lookBody_5 : decode b_Md_lookBody 5 = .ok (.aload_n 0, 1) := by decide +kernel
theorem d_Md_lookBody_6 : decode b_Md_lookBody 6 = .ok (.invokevirtual 293, 3) := by decide +kernel
theorem d_Md_lookBody_9 : decode b_Md_lookBody 9 = .ok (.l2i, 1) := by decide +kernel
theorem d_Md_lookBody_10 : decode b_Md_lookBody 10 = .ok (.istore_n 3, 1) := by decide +kernel
theorem d_Md_lookBody_11 : decode b_Md_lookBody 11 = .ok (.iload_n 2, 1) := by decide +kernel
theorem d_Md_lookBody_12 : decode b_Md_lookBody 12 = .ok (.ifCond .ne 6, 3) := by decide +kernel
theorem d_Md_lookBody_15 : decode b_Md_lookBody 15 = .ok (.iload_n 3, 1) := by decide +kernel
theorem d_Md_lookBody_16 : decode b_Md_lookBody 16 = .ok (.i2l, 1) := by decide +kernel
theorem d_Md_lookBody_17 : decode b_Md_lookBody 17 = .ok (.lreturn, 1) := by decide +kernel
theorem d_Md_lookBody_18 : decode b_Md_lookBody 18 = .ok (.iload_n 2, 1) := by decide +kernel
theorem d_Md_lookBody_19 : decode b_Md_lookBody 19 = .ok (.iconst 4, 1) := by decide +kernel
theorem d_Md_lookBody_20 : decode b_Md_lookBody 20 = .ok (.if_icmp .eq 8, 3) := by decide +kernel
theorem d_Md_lookBody_23 : decode b_Md_lookBody 23 = .ok (.iload_n 2, 1) := by decide +kernel
theorem d_Md_lookBody_24 : decode b_Md_lookBody 24 = .ok (.iconst 5, 1) := by decide +kernel
theorem d_Md_lookBody_25 : decode b_Md_lookBody 25 = .ok (.if_icmp .ne 11, 3) := by decide +kernel
theorem d_Md_lookBody_28 : decode b_Md_lookBody 28 = .ok (.aload_n 0, 1) := by decide +kernel
theorem d_Md_lookBody_29 : decode b_Md_lookBody 29 = .ok (.iload_n 1, 1) := by decide +kernel
theorem d_Md_lookBody_30 : decode b_Md_lookBody 30 = .ok (.iload_n 2, 1) := by decide +kernel
theorem d_Md_lookBody_31 : decode b_Md_lookBody 31 = .ok (.invokevirtual 309, 3) := by decide +kernel
theorem d_Md_lookBody_34 : decode b_Md_lookBody 34 = .ok (.i2l, 1) := by decide +kernel
theorem d_Md_lookBody_35 : decode b_Md_lookBody 35 = .ok (.lreturn, 1) := by decide +kernel
theorem d_Md_lookBody_36 : decode b_Md_lookBody 36 = .ok (.iload_n 2, 1) := by decide +kernel
theorem d_Md_lookBody_37 : decode b_Md_lookBody 37 = .ok (.iconst 1, 1) := by decide +kernel
theorem d_Md_lookBody_38 : decode b_Md_lookBody 38 = .ok (.if_icmp .eq 23, 3) := by decide +kernel
theorem d_Md_lookBody_41 : decode b_Md_lookBody 41 = .ok (.iload_n 2, 1) := by decide +kernel
theorem d_Md_lookBody_42 : decode b_Md_lookBody 42 = .ok (.bipush 8, 2) := by decide +kernel
theorem d_Md_lookBody_44 : decode b_Md_lookBody 44 = .ok (.if_icmp .lt 13, 3) := by decide +kernel
theorem d_Md_lookBody_47 : decode b_Md_lookBody 47 = .ok (.iload_n 2, 1) := by decide +kernel
theorem d_Md_lookBody_48 : decode b_Md_lookBody 48 = .ok (.bipush 8, 2) := by decide +kernel
theorem d_Md_lookBody_50 : decode b_Md_lookBody 50 = .ok (.isub, 1) := by decide +kernel
theorem d_Md_lookBody_51 : decode b_Md_lookBody 51 = .ok (.iconst 2, 1) := by decide +kernel
theorem d_Md_lookBody_52 : decode b_Md_lookBody 52 = .ok (.iload_n 3, 1) := by decide +kernel
theorem d_Md_lookBody_53 : decode b_Md_lookBody 53 = .ok (.imul, 1) := by decide +kernel
theorem d_Md_lookBody_54 : decode b_Md_lookBody 54 = .ok (.if_icmp .lt 7, 3) := by decide +kernel
theorem d_Md_lookBody_57 : decode b_Md_lookBody 57 = .ok (.ldc2_w 251, 3) := by decide +kernel
theorem d_Md_lookBody_60 : decode b_Md_lookBody 60 = .ok (.lreturn, 1) := by decide +kernel
theorem d_Md_lookBody_61 : decode b_Md_lookBody 61 = .ok (.lconst 0, 1) := by decide +kernel
theorem d_Md_lookBody_62 : decode b_Md_lookBody 62 = .ok (.lstore 4, 2) := by decide +kernel
theorem d_Md_lookBody_64 : decode b_Md_lookBody 64 = .ok (.iconst 0, 1) := by decide +kernel
theorem d_Md_lookBody_65 : decode b_Md_lookBody 65 = .ok (.istore 6, 2) := by decide +kernel
theorem d_Md_lookBody_67 : decode b_Md_lookBody 67 = .ok (.iload 6, 2) := by decide +kernel
theorem d_Md_lookBody_69 : decode b_Md_lookBody 69 = .ok (.iload_n 3, 1) := by decide +kernel
theorem d_Md_lookBody_70 : decode b_Md_lookBody 70 = .ok (.if_icmp .ge 70, 3) := by decide +kernel
theorem d_Md_lookBody_73 : decode b_Md_lookBody 73 = .ok (.aload_n 0, 1) := by decide +kernel
theorem d_Md_lookBody_74 : decode b_Md_lookBody 74 = .ok (.invokevirtual 293, 3) := by decide +kernel
theorem d_Md_lookBody_77 : decode b_Md_lookBody 77 = .ok (.lstore 7, 2) := by decide +kernel
theorem d_Md_lookBody_79 : decode b_Md_lookBody 79 = .ok (.lload 4, 2) := by decide +kernel
theorem d_Md_lookBody_81 : decode b_Md_lookBody 81 = .ok (.lload 7, 2) := by decide +kernel
theorem d_Md_lookBody_83 : decode b_Md_lookBody 83 = .ok (.ladd, 1) := by decide +kernel
theorem d_Md_lookBody_84 : decode b_Md_lookBody 84 = .ok (.lstore 4, 2) := by decide +kernel
theorem d_Md_lookBody_86 : decode b_Md_lookBody 86 = .ok (.aload_n 0, 1) := by decide +kernel
theorem d_Md_lookBody_87 : decode b_Md_lookBody 87 = .ok (.dup, 1) := by decide +kernel
theorem d_Md_lookBody_88 : decode b_Md_lookBody 88 = .ok (.getfield 290, 3) := by decide +kernel
theorem d_Md_lookBody_91 : decode b_Md_lookBody 91 = .ok (.iconst 1, 1) := by decide +kernel
theorem d_Md_lookBody_92 : decode b_Md_lookBody 92 = .ok (.iadd, 1) := by decide +kernel
theorem d_Md_lookBody_93 : decode b_Md_lookBody 93 = .ok (.putfield 290, 3) := by decide +kernel
theorem d_Md_lookBody_96 : decode b_Md_lookBody 96 = .ok (.iload_n 2, 1) := by decide +kernel
theorem d_Md_lookBody_97 : decode b_Md_lookBody 97 = .ok (.bipush 8, 2) := by decide +kernel
theorem d_Md_lookBody_99 : decode b_Md_lookBody 99 = .ok (.iconst 2, 1) := by decide +kernel
theorem d_Md_lookBody_100 : decode b_Md_lookBody 100 = .ok (.iload 6, 2) := by decide +kernel
theorem d_Md_lookBody_102 : decode b_Md_lookBody 102 = .ok (.imul, 1) := by decide +kernel
theorem d_Md_lookBody_103 : decode b_Md_lookBody 103 = .ok (.iadd, 1) := by decide +kernel
theorem d_Md_lookBody_104 : decode b_Md_lookBody 104 = .ok (.if_icmp .ne 6, 3) := by decide +kernel
theorem d_Md_lookBody_107 : decode b_Md_lookBody 107 = .ok (.lload 7, 2) := by decide +kernel
theorem d_Md_lookBody_109 : decode b_Md_lookBody 109 = .ok (.lreturn, 1) := by decide +kernel
theorem d_Md_lookBody_110 : decode b_Md_lookBody 110 = .ok (.iload_n 2, 1) := by decide +kernel
theorem d_Md_lookBody_111 : decode b_Md_lookBody 111 = .ok (.bipush 9, 2) := by decide +kernel
theorem d_Md_lookBody_113 : decode b_Md_lookBody 113 = .ok (.iconst 2, 1) := by decide +kernel
theorem d_Md_lookBody_114 : decode b_Md_lookBody 114 = .ok (.iload 6, 2) := by decide +kernel
theorem d_Md_lookBody_116 : decode b_Md_lookBody 116 = .ok (.imul, 1) := by decide +kernel
theorem d_Md_lookBody_117 : decode b_Md_lookBody 117 = .ok (.iadd, 1) := by decide +kernel
theorem d_Md_lookBody_118 : decode b_Md_lookBody 118 = .ok (.if_icmp .ne 16, 3) := by decide +kernel
theorem d_Md_lookBody_121 : decode b_Md_lookBody 121 = .ok (.aload_n 0, 1) := by decide +kernel
theorem d_Md_lookBody_122 : decode b_Md_lookBody 122 = .ok (.getfield 51, 3) := by decide +kernel
theorem d_Md_lookBody_125 : decode b_Md_lookBody 125 = .ok (.aload_n 0, 1) := by decide +kernel
theorem d_Md_lookBody_126 : decode b_Md_lookBody 126 = .ok (.getfield 290, 3) := by decide +kernel
theorem d_Md_lookBody_129 : decode b_Md_lookBody 129 = .ok (.iconst 1, 1) := by decide +kernel
theorem d_Md_lookBody_130 : decode b_Md_lookBody 130 = .ok (.isub, 1) := by decide +kernel
theorem d_Md_lookBody_131 : decode b_Md_lookBody 131 = .ok (.iaload, 1) := by decide +kernel
theorem d_Md_lookBody_132 : decode b_Md_lookBody 132 = .ok (.i2l, 1) := by decide +kernel
theorem d_Md_lookBody_133 : decode b_Md_lookBody 133 = .ok (.lreturn, 1) := by decide +kernel
theorem d_Md_lookBody_134 : decode b_Md_lookBody 134 = .ok (.iinc 6 1, 3) := by decide +kernel
theorem d_Md_lookBody_137 : decode b_Md_lookBody 137 = .ok (.goto (-70), 3) := by decide +kernel
theorem d_Md_lookBody_140 : decode b_Md_lookBody 140 = .ok (.lload 4, 2) := by decide +kernel
theorem d_Md_lookBody_142 : decode b_Md_lookBody 142 = .ok (.lreturn, 1) := by decide +kernel
abbrev b_Md_lookData : ByteArray := prog_8_method_55_code
abbrev y_Md_lookData : MethodName := ⟨"ModuleBytesModel", "lookData", "(II)J"⟩
theorem d_Md_lookData_0 : decode b_Md_lookData 0 = .ok (.aload_n 0, 1) := by decide +kernel
theorem d_Md_lookData_1 : decode b_Md_lookData 1 = .ok (.invokevirtual 293, 3) := by decide +kernel
theorem d_Md_lookData_4 : decode b_Md_lookData 4 = .ok (.lstore_n 3, 1) := by decide +kernel
theorem d_Md_lookData_5 : decode b_Md_lookData 5 = .ok (.iload_n 2, 1) := by decide +kernel
theorem d_Md_lookData_6 : decode b_Md_lookData 6 = .ok (.ifCond .ne 15, 3) := by decide +kernel
theorem d_Md_lookData_9 : decode b_Md_lookData 9 = .ok (.lload_n 3, 1) := by decide +kernel
theorem d_Md_lookData_10 : decode b_Md_lookData 10 = .ok (.lconst 1, 1) := by decide +kernel
theorem d_Md_lookData_11 : decode b_Md_lookData 11 = .ok (.lcmp, 1) := by decide +kernel
theorem d_Md_lookData_12 : decode b_Md_lookData 12 = .ok (.ifCond .ne 7, 3) := by decide +kernel
theorem d_Md_lookData_15 : decode b_Md_lookData 15 = .ok (.lconst 0, 1) := by decide +kernel
theorem d_Md_lookData_16 : decode b_Md_lookData 16 = .ok (.goto 4, 3) := by decide +kernel
theorem d_Md_lookData_19 : decode b_Md_lookData 19 = .ok (.lconst 1, 1) := by decide +kernel
theorem d_Md_lookData_20 : decode b_Md_lookData 20 = .ok (.lreturn, 1) := by decide +kernel
theorem d_Md_lookData_21 : decode b_Md_lookData 21 = .ok (.lload_n 3, 1) := by decide +kernel
theorem d_Md_lookData_22 : decode b_Md_lookData 22 = .ok (.ldc2_w 165, 3) := by decide +kernel
theorem d_Md_lookData_25 : decode b_Md_lookData 25 = .ok (.lcmp, 1) := by decide +kernel
theorem d_Md_lookData_26 : decode b_Md_lookData 26 = .ok (.ifCond .ne 10, 3) := by decide +kernel
theorem d_Md_lookData_29 : decode b_Md_lookData 29 = .ok (.aload_n 0, 1) := by decide +kernel
theorem d_Md_lookData_30 : decode b_Md_lookData 30 = .ok (.invokevirtual 293, 3) := by decide +kernel
theorem d_Md_lookData_33 : decode b_Md_lookData 33 = .ok (.goto 4, 3) := by decide +kernel
theorem d_Md_lookData_36 : decode b_Md_lookData 36 = .ok (.lconst 0, 1) := by decide +kernel
theorem d_Md_lookData_37 : decode b_Md_lookData 37 = .ok (.lstore 5, 2) := by decide +kernel
theorem d_Md_lookData_39 : decode b_Md_lookData 39 = .ok (.iload_n 2, 1) := by decide +kernel
theorem d_Md_lookData_40 : decode b_Md_lookData 40 = .ok (.iconst 2, 1) := by decide +kernel
theorem d_Md_lookData_41 : decode b_Md_lookData 41 = .ok (.if_icmp .ne 6, 3) := by decide +kernel
theorem d_Md_lookData_44 : decode b_Md_lookData 44 = .ok (.lload 5, 2) := by decide +kernel
theorem d_Md_lookData_46 : decode b_Md_lookData 46 = .ok (.lreturn, 1) := by decide +kernel
theorem d_Md_lookData_47 : decode b_Md_lookData 47 = .ok (.iload_n 2, 1) := by decide +kernel
theorem d_Md_lookData_48 : decode b_Md_lookData 48 = .ok (.iconst 4, 1) := by decide +kernel
theorem d_Md_lookData_49 : decode b_Md_lookData 49 = .ok (.if_icmp .eq 8, 3) := by decide +kernel
theorem d_Md_lookData_52 : decode b_Md_lookData 52 = .ok (.iload_n 2, 1) := by decide +kernel
theorem d_Md_lookData_53 : decode b_Md_lookData 53 = .ok (.iconst 5, 1) := by decide +kernel
theorem d_Md_lookData_54 : decode b_Md_lookData 54 = .ok (.if_icmp .ne 23, 3) := by decide +kernel
theorem d_Md_lookData_57 : decode b_Md_lookData 57 = .ok (.lload_n 3, 1) := by decide +kernel
theorem d_Md_lookData_58 : decode b_Md_lookData 58 = .ok (.lconst 1, 1) := by decide +kernel
theorem d_Md_lookData_59 : decode b_Md_lookData 59 = .ok (.lcmp, 1) := by decide +kernel
theorem d_Md_lookData_60 : decode b_Md_lookData 60 = .ok (.ifCond .ne 9, 3) := by decide +kernel
theorem d_Md_lookData_63 : decode b_Md_lookData 63 = .ok (.ldc2_w 251, 3) := by decide +kernel
theorem d_Md_lookData_66 : decode b_Md_lookData 66 = .ok (.goto 10, 3) := by decide +kernel
theorem d_Md_lookData_69 : decode b_Md_lookData 69 = .ok (.aload_n 0, 1) := by decide +kernel
theorem d_Md_lookData_70 : decode b_Md_lookData 70 = .ok (.iload_n 1, 1) := by decide +kernel
theorem d_Md_lookData_71 : decode b_Md_lookData 71 = .ok (.iload_n 2, 1) := by decide +kernel
theorem d_Md_lookData_72 : decode b_Md_lookData 72 = .ok (.invokevirtual 309, 3) := by decide +kernel
theorem d_Md_lookData_75 : decode b_Md_lookData 75 = .ok (.i2l, 1) := by decide +kernel
theorem d_Md_lookData_76 : decode b_Md_lookData 76 = .ok (.lreturn, 1) := by decide +kernel
theorem d_Md_lookData_77 : decode b_Md_lookData 77 = .ok (.lload_n 3, 1) := by decide +kernel
theorem d_Md_lookData_78 : decode b_Md_lookData 78 = .ok (.lconst 1, 1) := by decide +kernel
theorem d_Md_lookData_79 : decode b_Md_lookData 79 = .ok (.lcmp, 1) := by decide +kernel
theorem d_Md_lookData_80 : decode b_Md_lookData 80 = .ok (.ifCond .eq 18, 3) := by decide +kernel
theorem d_Md_lookData_83 : decode b_Md_lookData 83 = .ok (.aload_n 0, 1) := by decide +kernel
theorem d_Md_lookData_84 : decode b_Md_lookData 84 = .ok (.aload_n 0, 1) := by decide +kernel
theorem d_Md_lookData_85 : decode b_Md_lookData 85 = .ok (.getfield 72, 3) := by decide +kernel
theorem d_Md_lookData_88 : decode b_Md_lookData 88 = .ok (.aload_n 0, 1) := by decide +kernel
theorem d_Md_lookData_89 : decode b_Md_lookData 89 = .ok (.iload_n 1, 1) := by decide +kernel
theorem d_Md_lookData_90 : decode b_Md_lookData 90 = .ok (.iconst 0, 1) := by decide +kernel
theorem d_Md_lookData_91 : decode b_Md_lookData 91 = .ok (.invokevirtual 296, 3) := by decide +kernel
theorem d_Md_lookData_94 : decode b_Md_lookData 94 = .ok (.iaload, 1) := by decide +kernel
theorem d_Md_lookData_95 : decode b_Md_lookData 95 = .ok (.putfield 290, 3) := by decide +kernel
theorem d_Md_lookData_98 : decode b_Md_lookData 98 = .ok (.aload_n 0, 1) := by decide +kernel
theorem d_Md_lookData_99 : decode b_Md_lookData 99 = .ok (.invokevirtual 293, 3) := by decide +kernel
theorem d_Md_lookData_102 : decode b_Md_lookData 102 = .ok (.lstore 7, 2) := by decide +kernel
theorem d_Md_lookData_104 : decode b_Md_lookData 104 = .ok (.iload_n 2, 1) := by decide +kernel
theorem d_Md_lookData_105 : decode b_Md_lookData 105 = .ok (.iconst 3, 1) := by decide +kernel
theorem d_Md_lookData_106 : decode b_Md_lookData 106 = .ok (.if_icmp .ne 8, 3) := by decide +kernel
theorem d_Md_lookData_109 : decode b_Md_lookData 109 = .ok (.lload 7, 2) := by decide +kernel
theorem d_Md_lookData_111 : decode b_Md_lookData 111 = .ok (.goto 20, 3) := by decide +kernel
theorem d_Md_lookData_114 : decode b_Md_lookData 114 = .ok (.iload_n 2, 1) := by decide +kernel
theorem d_Md_lookData_115 : decode b_Md_lookData 115 = .ok (.bipush 6, 2) := by decide +kernel
theorem d_Md_lookData_117 : decode b_Md_lookData 117 = .ok (.if_icmp .ne 11, 3) := by decide +kernel
theorem d_Md_lookData_120 : decode b_Md_lookData 120 = .ok (.aload_n 0, 1) := by decide +kernel
theorem d_Md_lookData_121 : decode b_Md_lookData 121 = .ok (.getfield 290, 3) := by decide +kernel
theorem d_Md_lookData_124 : decode b_Md_lookData 124 = .ok (.i2l, 1) := by decide +kernel
theorem d_Md_lookData_125 : decode b_Md_lookData 125 = .ok (.goto 6, 3) := by decide +kernel
theorem d_Md_lookData_128 : decode b_Md_lookData 128 = .ok (.ldc2_w 251, 3) := by decide +kernel
theorem d_Md_lookData_131 : decode b_Md_lookData 131 = .ok (.lreturn, 1) := by decide +kernel
abbrev b_Md_lookRest : ByteArray := prog_8_method_56_code
abbrev y_Md_lookRest : MethodName := ⟨"ModuleBytesModel", "lookRest", "(II)J"⟩
theorem d_Md_lookRest_0 : decode b_Md_lookRest 0 = .ok (.iload_n 2, 1) := by decide +kernel
theorem d_Md_lookRest_1 : decode b_Md_lookRest 1 = .ok (.bipush 6, 2) := by decide +kernel
theorem d_Md_lookRest_3 : decode b_Md_lookRest 3 = .ok (.if_icmp .ne 13, 3) := by decide +kernel
theorem d_Md_lookRest_6 : decode b_Md_lookRest 6 = .ok (.aload_n 0, 1) := by decide +kernel
theorem d_Md_lookRest_7 : decode b_Md_lookRest 7 = .ok (.getfield 60, 3) := by decide +kernel
theorem d_Md_lookRest_10 : decode b_Md_lookRest 10 = .ok (.iload_n 1, 1) := by decide +kernel
theorem d_Md_lookRest_11 : decode b_Md_lookRest 11 = .ok (.iaload, 1) := by decide +kernel
theorem d_Md_lookRest_12 : decode b_Md_lookRest 12 = .ok (.i2l, 1) := by decide +kernel
theorem d_Md_lookRest_13 : decode b_Md_lookRest 13 = .ok (.goto 21, 3) := by decide +kernel
theorem d_Md_lookRest_16 : decode b_Md_lookRest 16 = .ok (.iload_n 2, 1) := by decide +kernel
theorem d_Md_lookRest_17 : decode b_Md_lookRest 17 = .ok (.iconst 3, 1) := by decide +kernel
theorem d_Md_lookRest_18 : decode b_Md_lookRest 18 = .ok (.if_icmp .ne 13, 3) := by decide +kernel
theorem d_Md_lookRest_21 : decode b_Md_lookRest 21 = .ok (.aload_n 0, 1) := by decide +kernel
theorem d_Md_lookRest_22 : decode b_Md_lookRest 22 = .ok (.getfield 63, 3) := by decide +kernel
theorem d_Md_lookRest_25 : decode b_Md_lookRest 25 = .ok (.iload_n 1, 1) := by decide +kernel
theorem d_Md_lookRest_26 : decode b_Md_lookRest 26 = .ok (.iaload, 1) := by decide +kernel
theorem d_Md_lookRest_27 : decode b_Md_lookRest 27 = .ok (.i2l, 1) := by decide +kernel
theorem d_Md_lookRest_28 : decode b_Md_lookRest 28 = .ok (.goto 6, 3) := by decide +kernel
theorem d_Md_lookRest_31 : decode b_Md_lookRest 31 = .ok (.ldc2_w 251, 3) := by decide +kernel
theorem d_Md_lookRest_34 : decode b_Md_lookRest 34 = .ok (.lreturn, 1) := by decide +kernel
abbrev b_Md_name : ByteArray := prog_8_method_59_code
abbrev y_Md_name : MethodName := ⟨"ModuleBytesModel", "name", "(IIII)I"⟩
theorem d_Md_name_0 : decode b_Md_name 0 = .ok (.iload_n 1, 1) := by decide +kernel
theorem d_Md_name_1 : decode b_Md_name 1 = .ok (.iconst 1, 1) := by decide +kernel
theorem d_Md_name_2 : decode b_Md_name 2 = .ok (.if_icmp .eq 15, 3) := by decide +kernel
theorem d_Md_name_5 : decode b_Md_name 5 = .ok (.iload_n 1, 1) := by decide +kernel
theorem d_Md_name_6 : decode b_Md_name 6 = .ok (.bipush 6, 2) := by decide +kernel
theorem d_Md_name_8 : decode b_Md_name 8 = .ok (.if_icmp .eq 9, 3) := by decide +kernel
theorem d_Md_name_11 : decode b_Md_name 11 = .ok (.iload_n 1, 1) := by decide +kernel
theorem d_Md_name_12 : decode b_Md_name 12 = .ok (.bipush 10, 2) := by decide +kernel
theorem d_Md_name_14 : decode b_Md_name 14 = .ok (.if_icmp .ne 12, 3) := by decide +kernel
theorem d_Md_name_17 : decode b_Md_name 17 = .ok (.aload_n 0, 1) := by decide +kernel
theorem d_Md_name_18 : decode b_Md_name 18 = .ok (.iload_n 1, 1) := by decide +kernel
theorem d_Md_name_19 : decode b_Md_name 19 = .ok (.iload_n 2, 1) := by decide +kernel
theorem d_Md_name_20 : decode b_Md_name 20 = .ok (.invokevirtual 299, 3) := by decide +kernel
theorem d_Md_name_23 : decode b_Md_name 23 = .ok (.goto 4, 3) := by decide +kernel
theorem d_Md_name_26 : decode b_Md_name 26 = .ok (.iconst (-1), 1) := by decide +kernel
theorem d_Md_name_27 : decode b_Md_name 27 = .ok (.istore 5, 2) := by decide +kernel
theorem d_Md_name_29 : decode b_Md_name 29 = .ok (.iload 5, 2) := by decide +kernel
theorem d_Md_name_31 : decode b_Md_name 31 = .ok (.ifCond .lt 21, 3) := by decide +kernel
theorem d_Md_name_34 : decode b_Md_name 34 = .ok (.iload_n 3, 1) := by decide +kernel
theorem d_Md_name_35 : decode b_Md_name 35 = .ok (.ifCond .lt 17, 3) := by decide +kernel
theorem d_Md_name_38 : decode b_Md_name 38 = .ok (.iload_n 3, 1) := by decide +kernel
theorem d_Md_name_39 : decode b_Md_name 39 = .ok (.iload_n 1, 1) := by decide +kernel
theorem d_Md_name_40 : decode b_Md_name 40 = .ok (.iconst 1, 1) := by decide +kernel
theorem d_Md_name_41 : decode b_Md_name 41 = .ok (.if_icmp .ne 7, 3) := by decide +kernel
theorem d_Md_name_44 : decode b_Md_name 44 = .ok (.iconst 1, 1) := by decide +kernel
theorem d_Md_name_45 : decode b_Md_name 45 = .ok (.goto 4, 3) := by decide +kernel
theorem d_Md_name_48 : decode b_Md_name 48 = .ok (.iconst 0, 1) := by decide +kernel
theorem d_Md_name_49 : decode b_Md_name 49 = .ok (.if_icmp .le 5, 3) := by decide +kernel
theorem d_Md_name_52 : decode b_Md_name 52 = .ok (.iconst (-1), 1) := by decide +kernel
theorem d_Md_name_53 : decode b_Md_name 53 = .ok (.ireturn, 1) := by decide +kernel
theorem d_Md_name_54 : decode b_Md_name 54 = .ok (.aload_n 0, 1) := by decide +kernel
theorem d_Md_name_55 : decode b_Md_name 55 = .ok (.aload_n 0, 1) := by decide +kernel
theorem d_Md_name_56 : decode b_Md_name 56 = .ok (.getfield 57, 3) := by decide +kernel
theorem d_Md_name_59 : decode b_Md_name 59 = .ok (.iload 5, 2) := by decide +kernel
theorem d_Md_name_61 : decode b_Md_name 61 = .ok (.iaload, 1) := by decide +kernel
theorem d_Md_name_62 : decode b_Md_name 62 = .ok (.putfield 290, 3) := by decide +kernel
theorem d_Md_name_65 : decode b_Md_name 65 = .ok (.iload_n 3, 1) := by decide +kernel
theorem d_Md_name_66 : decode b_Md_name 66 = .ok (.iconst 1, 1) := by decide +kernel
theorem d_Md_name_67 : decode b_Md_name 67 = .ok (.if_icmp .ne 7, 3) := by decide +kernel
theorem d_Md_name_70 : decode b_Md_name 70 = .ok (.aload_n 0, 1) := by decide +kernel
theorem d_Md_name_71 : decode b_Md_name 71 = .ok (.invokevirtual 302, 3) := by decide +kernel
theorem d_Md_name_74 : decode b_Md_name 74 = .ok (.aload_n 0, 1) := by decide +kernel
theorem d_Md_name_75 : decode b_Md_name 75 = .ok (.invokevirtual 293, 3) := by decide +kernel
theorem d_Md_name_78 : decode b_Md_name 78 = .ok (.l2i, 1) := by decide +kernel
theorem d_Md_name_79 : decode b_Md_name 79 = .ok (.istore 6, 2) := by decide +kernel
theorem d_Md_name_81 : decode b_Md_name 81 = .ok (.iload 4, 2) := by decide +kernel
theorem d_Md_name_83 : decode b_Md_name 83 = .ok (.iconst (-1), 1) := by decide +kernel
theorem d_Md_name_84 : decode b_Md_name 84 = .ok (.if_icmp .ne 8, 3) := by decide +kernel
theorem d_Md_name_87 : decode b_Md_name 87 = .ok (.iload 6, 2) := by decide +kernel
theorem d_Md_name_89 : decode b_Md_name 89 = .ok (.goto 31, 3) := by decide +kernel
theorem d_Md_name_92 : decode b_Md_name 92 = .ok (.iload 4, 2) := by decide +kernel
theorem d_Md_name_94 : decode b_Md_name 94 = .ok (.ifCond .lt 10, 3) := by decide +kernel
theorem d_Md_name_97 : decode b_Md_name 97 = .ok (.iload 4, 2) := by decide +kernel
theorem d_Md_name_99 : decode b_Md_name 99 = .ok (.iload 6, 2) := by decide +kernel
theorem d_Md_name_101 : decode b_Md_name 101 = .ok (.if_icmp .lt 7, 3) := by decide +kernel
theorem d_Md_name_104 : decode b_Md_name 104 = .ok (.iconst (-1), 1) := by decide +kernel
theorem d_Md_name_105 : decode b_Md_name 105 = .ok (.goto 15, 3) := by decide +kernel
theorem d_Md_name_108 : decode b_Md_name 108 = .ok (.aload_n 0, 1) := by decide +kernel
theorem d_Md_name_109 : decode b_Md_name 109 = .ok (.getfield 51, 3) := by decide +kernel
theorem d_Md_name_112 : decode b_Md_name 112 = .ok (.aload_n 0, 1) := by decide +kernel
theorem d_Md_name_113 : decode b_Md_name 113 = .ok (.getfield 290, 3) := by decide +kernel
theorem d_Md_name_116 : decode b_Md_name 116 = .ok (.iload 4, 2) := by decide +kernel
theorem d_Md_name_118 : decode b_Md_name 118 = .ok (.iadd, 1) := by decide +kernel
theorem d_Md_name_119 : decode b_Md_name 119 = .ok (.iaload, 1) := by decide +kernel
theorem d_Md_name_120 : decode b_Md_name 120 = .ok (.ireturn, 1) := by decide +kernel
