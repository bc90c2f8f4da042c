abbrev b_Md_character : ByteArray := prog_8_method_13_code
abbrev y_Md_character : MethodName := ⟨"ModuleBytesModel", "character", "(II)I"⟩
theorem d_Md_character_0 : decode b_Md_character 0 = .ok (.aload_n 0, 1) := by decide +kernel
theorem d_Md_character_1 : decode b_Md_character 1 = .ok (.getfield 7, 3) := by decide +kernel
theorem d_Md_character_4 : decode b_Md_character 4 = .ok (.iload_n 1, 1) := by decide +kernel
theorem d_Md_character_5 : decode b_Md_character 5 = .ok (.iaload, 1) := by decide +kernel
theorem d_Md_character_6 : decode b_Md_character 6 = .ok (.istore_n 3, 1) := by decide +kernel
theorem d_Md_character_7 : decode b_Md_character 7 = .ok (.iload_n 3, 1) := by decide +kernel
theorem d_Md_character_8 : decode b_Md_character 8 = .ok (.sipush 128, 3) := by decide +kernel
theorem d_Md_character_11 : decode b_Md_character 11 = .ok (.if_icmp .ge 7, 3) := by decide +kernel
theorem d_Md_character_14 : decode b_Md_character 14 = .ok (.iconst 1, 1) := by decide +kernel
theorem d_Md_character_15 : decode b_Md_character 15 = .ok (.goto 48, 3) := by decide +kernel
theorem d_Md_character_18 : decode b_Md_character 18 = .ok (.iload_n 3, 1) := by decide +kernel
theorem d_Md_character_19 : decode b_Md_character 19 = .ok (.sipush 192, 3) := by decide +kernel
theorem d_Md_character_22 : decode b_Md_character 22 = .ok (.if_icmp .ge 7, 3) := by decide +kernel
theorem d_Md_character_25 : decode b_Md_character 25 = .ok (.iconst 0, 1) := by decide +kernel
theorem d_Md_character_26 : decode b_Md_character 26 = .ok (.goto 37, 3) := by decide +kernel
theorem d_Md_character_29 : decode b_Md_character 29 = .ok (.iload_n 3, 1) := by decide +kernel
theorem d_Md_character_30 : decode b_Md_character 30 = .ok (.sipush 224, 3) := by decide +kernel
theorem d_Md_character_33 : decode b_Md_character 33 = .ok (.if_icmp .ge 7, 3) := by decide +kernel
theorem d_Md_character_36 : decode b_Md_character 36 = .ok (.iconst 2, 1) := by decide +kernel
theorem d_Md_character_37 : decode b_Md_character 37 = .ok (.goto 26, 3) := by decide +kernel
theorem d_Md_character_40 : decode b_Md_character 40 = .ok (.iload_n 3, 1) := by decide +kernel
theorem d_Md_character_41 : decode b_Md_character 41 = .ok (.sipush 240, 3) := by decide +kernel
theorem d_Md_character_44 : decode b_Md_character 44 = .ok (.if_icmp .ge 7, 3) := by decide +kernel
theorem d_Md_character_47 : decode b_Md_character 47 = .ok (.iconst 3, 1) := by decide +kernel
theorem d_Md_character_48 : decode b_Md_character 48 = .ok (.goto 15, 3) := by decide +kernel
theorem d_Md_character_51 : decode b_Md_character 51 = .ok (.iload_n 3, 1) := by decide +kernel
theorem d_Md_character_52 : decode b_Md_character 52 = .ok (.sipush 248, 3) := by decide +kernel
theorem d_Md_character_55 : decode b_Md_character 55 = .ok (.if_icmp .ge 7, 3) := by decide +kernel
theorem d_Md_character_58 : decode b_Md_character 58 = .ok (.iconst 4, 1) := by decide +kernel
theorem d_Md_character_59 : decode b_Md_character 59 = .ok (.goto 4, 3) := by decide +kernel
theorem d_Md_character_62 : decode b_Md_character 62 = .ok (.iconst 0, 1) := by decide +kernel
theorem d_Md_character_63 : decode b_Md_character 63 = .ok (.istore 4, 2) := by decide +kernel
theorem d_Md_character_65 : decode b_Md_character 65 = .ok (.iload 4, 2) := by decide +kernel
theorem d_Md_character_67 : decode b_Md_character 67 = .ok (.iconst 2, 1) := by decide +kernel
theorem d_Md_character_68 : decode b_Md_character 68 = .ok (.if_icmp .lt 11, 3) := by decide +kernel
theorem d_Md_character_71 : decode b_Md_character 71 = .ok (.iload_n 1, 1) := by decide +kernel
theorem d_Md_character_72 : decode b_Md_character 72 = .ok (.iload 4, 2) := by decide +kernel
theorem d_Md_character_74 : decode b_Md_character 74 = .ok (.iadd, 1) := by decide +kernel
theorem d_Md_character_75 : decode b_Md_character 75 = .ok (.iload_n 2, 1) := by decide +kernel
theorem d_Md_character_76 : decode b_Md_character 76 = .ok (.if_icmp .le 16, 3) := by decide +kernel
theorem d_Md_character_79 : decode b_Md_character 79 = .ok (.iload 4, 2) := by decide +kernel
theorem d_Md_character_81 : decode b_Md_character 81 = .ok (.iconst 2, 1) := by decide +kernel
theorem d_Md_character_82 : decode b_Md_character 82 = .ok (.if_icmp .ge 8, 3) := by decide +kernel
theorem d_Md_character_85 : decode b_Md_character 85 = .ok (.iload 4, 2) := by decide +kernel
theorem d_Md_character_87 : decode b_Md_character 87 = .ok (.goto 4, 3) := by decide +kernel
theorem d_Md_character_90 : decode b_Md_character 90 = .ok (.iconst 0, 1) := by decide +kernel
theorem d_Md_character_91 : decode b_Md_character 91 = .ok (.ireturn, 1) := by decide +kernel
theorem d_Md_character_92 : decode b_Md_character 92 = .ok (.iload 4, 2) := by decide +kernel
theorem d_Md_character_94 : decode b_Md_character 94 = .ok (.iconst 2, 1) := by decide +kernel
theorem d_Md_character_95 : decode b_Md_character 95 = .ok (.if_icmp .ne 11, 3) := by decide +kernel
theorem d_Md_character_98 : decode b_Md_character 98 = .ok (.iload_n 3, 1) := by decide +kernel
theorem d_Md_character_99 : decode b_Md_character 99 = .ok (.sipush 192, 3) := by decide +kernel
theorem d_Md_character_102 : decode b_Md_character 102 = .ok (.isub, 1) := by decide +kernel
theorem d_Md_character_103 : decode b_Md_character 103 = .ok (.goto 22, 3) := by decide +kernel
theorem d_Md_character_106 : decode b_Md_character 106 = .ok (.iload 4, 2) := by decide +kernel
theorem d_Md_character_108 : decode b_Md_character 108 = .ok (.iconst 3, 1) := by decide +kernel
theorem d_Md_character_109 : decode b_Md_character 109 = .ok (.if_icmp .ne 11, 3) := by decide +kernel
theorem d_Md_character_112 : decode b_Md_character 112 = .ok (.iload_n 3, 1) := by decide +kernel
theorem d_Md_character_113 : decode b_Md_character 113 = .ok (.sipush 224, 3) := by decide +kernel
theorem d_Md_character_116 : decode b_Md_character 116 = .ok (.isub, 1) := by decide +kernel
theorem d_Md_character_117 : decode b_Md_character 117 = .ok (.goto 8, 3) := by decide +kernel
theorem d_Md_character_120 : decode b_Md_character 120 = .ok (.iload_n 3, 1) := by decide +kernel
theorem d_Md_character_121 : decode b_Md_character 121 = .ok (.sipush 240, 3) := by decide +kernel
theorem d_Md_character_124 : decode b_Md_character 124 = .ok (.isub, 1) := by decide +kernel
theorem d_Md_character_125 : decode b_Md_character 125 = .ok (.istore 5, 2) := by decide +kernel
theorem d_Md_character_127 : decode b_Md_character 127 = .ok (.iconst 1, 1) := by decide +kernel
theorem d_Md_character_128 : decode b_Md_character 128 = .ok (.istore 6, 2) := by decide +kernel
theorem d_Md_character_130 : decode b_Md_character 130 = .ok (.iload 6, 2) := by decide +kernel
theorem d_Md_character_132 : decode b_Md_character 132 = .ok (.iload 4, 2) := by decide +kernel
theorem d_Md_character_134 : decode b_Md_character 134 = .ok (.if_icmp .ge 48, 3) := by decide +kernel
theorem d_Md_character_137 : decode b_Md_character 137 = .ok (.aload_n 0, 1) := by decide +kernel
theorem d_Md_character_138 : decode b_Md_character 138 = .ok (.getfield 7, 3) := by decide +kernel
theorem d_Md_character_141 : decode b_Md_character 141 = .ok (.iload_n 1, 1) := by decide +kernel
theorem d_Md_character_142 : decode b_Md_character 142 = .ok (.iload 6, 2) := by decide +kernel
theorem d_Md_character_144 : decode b_Md_character 144 = .ok (.iadd, 1) := by decide +kernel
theorem d_Md_character_145 : decode b_Md_character 145 = .ok (.iaload, 1) := by decide +kernel
theorem d_Md_character_146 : decode b_Md_character 146 = .ok (.bipush 6, 2) := by decide +kernel
theorem d_Md_character_148 : decode b_Md_character 148 = .ok (.ishr, 1) := by decide +kernel
theorem d_Md_character_149 : decode b_Md_character 149 = .ok (.iconst 2, 1) := by decide +kernel
theorem d_Md_character_150 : decode b_Md_character 150 = .ok (.if_icmp .eq 5, 3) := by decide +kernel
theorem d_Md_character_153 : decode b_Md_character 153 = .ok (.iconst 0, 1) := by decide +kernel
theorem d_Md_character_154 : decode b_Md_character 154 = .ok (.ireturn, 1) := by decide +kernel
theorem d_Md_character_155 : decode b_Md_character 155 = .ok (.bipush 64, 2) := by decide +kernel
theorem d_Md_character_157 : decode b_Md_character 157 = .ok (.iload 5, 2) := by decide +kernel
theorem d_Md_character_159 : decode b_Md_character 159 = .ok (.imul, 1) := by decide +kernel
theorem d_Md_character_160 : decode b_Md_character 160 = .ok (.aload_n 0, 1) := by decide +kernel
theorem d_Md_character_161 : decode b_Md_character 161 = .ok (.getfield 7, 3) := by decide +kernel
theorem d_Md_character_164 : decode b_Md_character 164 = .ok (.iload_n 1, 1) := by decide +kernel
theorem d_Md_character_165 : decode b_Md_character 165 = .ok (.iload 6, 2) := by decide +kernel
theorem d_Md_character_167 : decode b_Md_character 167 = .ok (.iadd, 1) := by decide +kernel
theorem d_Md_character_168 : decode b_Md_character 168 = .ok (.iaload, 1) := by decide +kernel
theorem d_Md_character_169 : decode b_Md_character 169 = .ok (.iadd, 1) := by decide +kernel
theorem d_Md_character_170 : decode b_Md_character 170 = .ok (.sipush 128, 3) := by decide +kernel
theorem d_Md_character_173 : decode b_Md_character 173 = .ok (.isub, 1) := by decide +kernel
theorem d_Md_character_174 : decode b_Md_character 174 = .ok (.istore 5, 2) := by decide +kernel
theorem d_Md_character_176 : decode b_Md_character 176 = .ok (.iinc 6 1, 3) := by decide +kernel
theorem d_Md_character_179 : decode b_Md_character 179 = .ok (.goto (-49), 3) := by decide +kernel
theorem d_Md_character_182 : decode b_Md_character 182 = .ok (.iload 4, 2) := by decide +kernel
theorem d_Md_character_184 : decode b_Md_character 184 = .ok (.iconst 2, 1) := by decide +kernel
theorem d_Md_character_185 : decode b_Md_character 185 = .ok (.if_icmp .ne 19, 3) := by decide +kernel
theorem d_Md_character_188 : decode b_Md_character 188 = .ok (.iload 5, 2) := by decide +kernel
theorem d_Md_character_190 : decode b_Md_character 190 = .ok (.sipush 128, 3) := by decide +kernel
theorem d_Md_character_193 : decode b_Md_character 193 = .ok (.if_icmp .lt 7, 3) := by decide +kernel
theorem d_Md_character_196 : decode b_Md_character 196 = .ok (.iconst 1, 1) := by decide +kernel
theorem d_Md_character_197 : decode b_Md_character 197 = .ok (.goto 62, 3) := by decide +kernel
theorem d_Md_character_200 : decode b_Md_character 200 = .ok (.iconst 0, 1) := by decide +kernel
theorem d_Md_character_201 : decode b_Md_character 201 = .ok (.goto 58, 3) := by decide +kernel
theorem d_Md_character_204 : decode b_Md_character 204 = .ok (.iload 4, 2) := by decide +kernel
theorem d_Md_character_206 : decode b_Md_character 206 = .ok (.iconst 3, 1) := by decide +kernel
theorem d_Md_character_207 : decode b_Md_character 207 = .ok (.if_icmp .ne 33, 3) := by decide +kernel
theorem d_Md_character_210 : decode b_Md_character 210 = .ok (.iload 5, 2) := by decide +kernel
theorem d_Md_character_212 : decode b_Md_character 212 = .ok (.sipush 2048, 3) := by decide +kernel
theorem d_Md_character_215 : decode b_Md_character 215 = .ok (.if_icmp .lt 21, 3) := by decide +kernel
theorem d_Md_character_218 : decode b_Md_character 218 = .ok (.iload 5, 2) := by decide +kernel
theorem d_Md_character_220 : decode b_Md_character 220 = .ok (.ldc 109, 2) := by decide +kernel
theorem d_Md_character_222 : decode b_Md_character 222 = .ok (.if_icmp .lt 10, 3) := by decide +kernel
theorem d_Md_character_225 : decode b_Md_character 225 = .ok (.iload 5, 2) := by decide +kernel
theorem d_Md_character_227 : decode b_Md_character 227 = .ok (.ldc 110, 2) := by decide +kernel
theorem d_Md_character_229 : decode b_Md_character 229 = .ok (.if_icmp .le 7, 3) := by decide +kernel
theorem d_Md_character_232 : decode b_Md_character 232 = .ok (.iconst 1, 1) := by decide +kernel
theorem d_Md_character_233 : decode b_Md_character 233 = .ok (.goto 26, 3) := by decide +kernel
theorem d_Md_character_236 : decode b_Md_character 236 = .ok (.iconst 0, 1) := by decide +kernel
theorem d_Md_character_237 : decode b_Md_character 237 = .ok (.goto 22, 3) := by decide +kernel
theorem d_Md_character_240 : decode b_Md_character 240 = .ok (.iload 5, 2) := by decide +kernel
theorem d_Md_character_242 : decode b_Md_character 242 = .ok (.ldc 111, 2) := by decide +kernel
theorem d_Md_character_244 : decode b_Md_character 244 = .ok (.if_icmp .lt 14, 3) := by decide +kernel
theorem d_Md_character_247 : decode b_Md_character 247 = .ok (.iload 5, 2) := by decide +kernel
theorem d_Md_character_249 : decode b_Md_character 249 = .ok (.ldc 112, 2) := by decide +kernel
theorem d_Md_character_251 : decode b_Md_character 251 = .ok (.if_icmp .gt 7, 3) := by decide +kernel
theorem d_Md_character_254 : decode b_Md_character 254 = .ok (.iconst 1, 1) := by decide +kernel
theorem d_Md_character_255 : decode b_Md_character 255 = .ok (.goto 4, 3) := by decide +kernel
theorem d_Md_character_258 : decode b_Md_character 258 = .ok (.iconst 0, 1) := by decide +kernel
theorem d_Md_character_259 : decode b_Md_character 259 = .ok (.istore 6, 2) := by decide +kernel
theorem d_Md_character_261 : decode b_Md_character 261 = .ok (.iload 6, 2) := by decide +kernel
theorem d_Md_character_263 : decode b_Md_character 263 = .ok (.ifCond .eq 8, 3) := by decide +kernel
theorem d_Md_character_266 : decode b_Md_character 266 = .ok (.iload 4, 2) := by decide +kernel
theorem d_Md_character_268 : decode b_Md_character 268 = .ok (.goto 4, 3) := by decide +kernel
theorem d_Md_character_271 : decode b_Md_character 271 = .ok (.iconst 0, 1) := by decide +kernel
theorem d_Md_character_272 : decode b_Md_character 272 = .ok (.ireturn, 1) := by decide +kernel
abbrev b_Md_takeType : ByteArray := prog_8_method_11_code
abbrev y_Md_takeType : MethodName := ⟨"ModuleBytesModel", "takeType", "(Z)V"⟩
theorem d_Md_takeType_0 : decode b_Md_takeType 0 = .ok (.aload_n 0, 1) := by decide +kernel
theorem d_Md_takeType_1 : decode b_Md_takeType 1 = .ok (.invokevirtual 98, 3) := by decide +kernel
theorem d_Md_takeType_4 : decode b_Md_takeType 4 = .ok (.istore_n 2, 1) := by decide +kernel
theorem d_Md_takeType_5 : decode b_Md_takeType 5 = .ok (.aload_n 0, 1) := by decide +kernel
theorem d_Md_takeType_6 : decode b_Md_takeType 6 = .ok (.getfield 82, 3) := by decide +kernel
theorem d_Md_takeType_9 : decode b_Md_takeType 9 = .ok (.ifCond .ne 36, 3) := by decide +kernel
theorem d_Md_takeType_12 : decode b_Md_takeType 12 = .ok (.iload_n 1, 1) := by decide +kernel
theorem d_Md_takeType_13 : decode b_Md_takeType 13 = .ok (.ifCond .eq 13, 3) := by decide +kernel
theorem d_Md_takeType_16 : decode b_Md_takeType 16 = .ok (.iload_n 2, 1) := by decide +kernel
theorem d_Md_takeType_17 : decode b_Md_takeType 17 = .ok (.invokestatic 102, 3) := by decide +kernel
theorem d_Md_takeType_20 : decode b_Md_takeType 20 = .ok (.ifCond .eq 13, 3) := by decide +kernel
theorem d_Md_takeType_23 : decode b_Md_takeType 23 = .ok (.goto 22, 3) := by decide +kernel
theorem d_Md_takeType_26 : decode b_Md_takeType 26 = .ok (.iload_n 2, 1) := by decide +kernel
theorem d_Md_takeType_27 : decode b_Md_takeType 27 = .ok (.invokestatic 106, 3) := by decide +kernel
theorem d_Md_takeType_30 : decode b_Md_takeType 30 = .ok (.ifCond .ne 15, 3) := by decide +kernel
theorem d_Md_takeType_33 : decode b_Md_takeType 33 = .ok (.aload_n 0, 1) := by decide +kernel
theorem d_Md_takeType_34 : decode b_Md_takeType 34 = .ok (.bipush 8, 2) := by decide +kernel
theorem d_Md_takeType_36 : decode b_Md_takeType 36 = .ok (.aload_n 0, 1) := by decide +kernel
theorem d_Md_takeType_37 : decode b_Md_takeType 37 = .ok (.getfield 88, 3) := by decide +kernel
theorem d_Md_takeType_40 : decode b_Md_takeType 40 = .ok (.iconst 1, 1) := by decide +kernel
theorem d_Md_takeType_41 : decode b_Md_takeType 41 = .ok (.isub, 1) := by decide +kernel
theorem d_Md_takeType_42 : decode b_Md_takeType 42 = .ok (.invokevirtual 94, 3) := by decide +kernel
theorem d_Md_takeType_45 : decode b_Md_takeType 45 = .ok (.return_, 1) := by decide +kernel
abbrev b_Md_isReference : ByteArray := prog_8_method_8_code
abbrev y_Md_isReference : MethodName := ⟨"ModuleBytesModel", "isReference", "(I)Z"⟩
theorem d_Md_isReference_0 : decode b_Md_isReference 0 = .ok (.iload_n 0, 1) := by decide +kernel
theorem d_Md_isReference_1 : decode b_Md_isReference 1 = .ok (.bipush 112, 2) := by decide +kernel
theorem d_Md_isReference_3 : decode b_Md_isReference 3 = .ok (.if_icmp .eq 9, 3) := by decide +kernel
theorem d_Md_isReference_6 : decode b_Md_isReference 6 = .ok (.iload_n 0, 1) := by decide +kernel
theorem d_Md_isReference_7 : decode b_Md_isReference 7 = .ok (.bipush 111, 2) := by decide +kernel
theorem d_Md_isReference_9 : decode b_Md_isReference 9 = .ok (.if_icmp .ne 7, 3) := by decide +kernel
theorem d_Md_isReference_12 : decode b_Md_isReference 12 = .ok (.iconst 1, 1) := by decide +kernel
theorem d_Md_isReference_13 : decode b_Md_isReference 13 = .ok (.goto 4, 3) := by decide +kernel
theorem d_Md_isReference_16 : decode b_Md_isReference 16 = .ok (.iconst 0, 1) := by decide +kernel
theorem d_Md_isReference_17 : decode b_Md_isReference 17 = .ok (.ireturn, 1) := by decide +kernel
abbrev b_Md_isValue : ByteArray := prog_8_method_9_code
abbrev y_Md_isValue : MethodName := ⟨"ModuleBytesModel", "isValue", "(I)Z"⟩
theorem d_Md_isValue_0 : decode b_Md_isValue 0 = .ok (.iload_n 0, 1) := by decide +kernel
theorem d_Md_isValue_1 : decode b_Md_isValue 1 = .ok (.bipush 124, 2) := by decide +kernel
theorem d_Md_isValue_3 : decode b_Md_isValue 3 = .ok (.if_icmp .lt 9, 3) := by decide +kernel
theorem d_Md_isValue_6 : decode b_Md_isValue 6 = .ok (.iload_n 0, 1) := by decide +kernel
theorem d_Md_isValue_7 : decode b_Md_isValue 7 = .ok (.bipush 127, 2) := by decide +kernel
theorem d_Md_isValue_9 : decode b_Md_isValue 9 = .ok (.if_icmp .le 10, 3) := by decide +kernel
theorem d_Md_isValue_12 : decode b_Md_isValue 12 = .ok (.iload_n 0, 1) := by decide +kernel
theorem d_Md_isValue_13 : decode b_Md_isValue 13 = .ok (.invokestatic 102, 3) := by decide +kernel
theorem d_Md_isValue_16 : decode b_Md_isValue 16 = .ok (.ifCond .eq 7, 3) := by decide +kernel
theorem d_Md_isValue_19 : decode b_Md_isValue 19 = .ok (.iconst 1, 1) := by decide +kernel
theorem d_Md_isValue_20 : decode b_Md_isValue 20 = .ok (.goto 4, 3) := by decide +kernel
theorem d_Md_isValue_23 : decode b_Md_isValue 23 = .ok (.iconst 0, 1) := by decide +kernel
theorem d_Md_isValue_24 : decode b_Md_isValue 24 = .ok (.ireturn, 1) := by decide +kernel
abbrev b_Md_thing : ByteArray := prog_8_method_18_code
abbrev y_Md_thing : MethodName := ⟨"ModuleBytesModel", "thing", "(I)I"⟩
theorem d_Md_thing_0 : decode b_Md_thing 0 = .ok (.aload_n 0, 1) := by decide +kernel
theorem d_Md_thing_1 : decode b_Md_thing 1 = .ok (.getfield 30, 3) := by decide +kernel
theorem d_Md_thing_4 : decode b_Md_thing 4 = .ok (.aload_n 0, 1) := by decide +kernel
theorem d_Md_thing_5 : decode b_Md_thing 5 = .ok (.getfield 131, 3) := by decide +kernel
theorem d_Md_thing_8 : decode b_Md_thing 8 = .ok (.iload_n 1, 1) := by decide +kernel
theorem d_Md_thing_9 : decode b_Md_thing 9 = .ok (.iastore, 1) := by decide +kernel
theorem d_Md_thing_10 : decode b_Md_thing 10 = .ok (.aload_n 0, 1) := by decide +kernel
theorem d_Md_thing_11 : decode b_Md_thing 11 = .ok (.getfield 33, 3) := by decide +kernel
theorem d_Md_thing_14 : decode b_Md_thing 14 = .ok (.aload_n 0, 1) := by decide +kernel
theorem d_Md_thing_15 : decode b_Md_thing 15 = .ok (.getfield 131, 3) := by decide +kernel
theorem d_Md_thing_18 : decode b_Md_thing 18 = .ok (.aload_n 0, 1) := by decide +kernel
theorem d_Md_thing_19 : decode b_Md_thing 19 = .ok (.getfield 88, 3) := by decide +kernel
theorem d_Md_thing_22 : decode b_Md_thing 22 = .ok (.iastore, 1) := by decide +kernel
theorem d_Md_thing_23 : decode b_Md_thing 23 = .ok (.aload_n 0, 1) := by decide +kernel
theorem d_Md_thing_24 : decode b_Md_thing 24 = .ok (.getfield 36, 3) := by decide +kernel
theorem d_Md_thing_27 : decode b_Md_thing 27 = .ok (.aload_n 0, 1) := by decide +kernel
theorem d_Md_thing_28 : decode b_Md_thing 28 = .ok (.getfield 131, 3) := by decide +kernel
theorem d_Md_thing_31 : decode b_Md_thing 31 = .ok (.iconst (-1), 1) := by decide +kernel
theorem d_Md_thing_32 : decode b_Md_thing 32 = .ok (.iastore, 1) := by decide +kernel
theorem d_Md_thing_33 : decode b_Md_thing 33 = .ok (.aload_n 0, 1) := by decide +kernel
theorem d_Md_thing_34 : decode b_Md_thing 34 = .ok (.dup, 1) := by decide +kernel
theorem d_Md_thing_35 : decode b_Md_thing 35 = .ok (.getfield 131, 3) := by decide +kernel
theorem d_Md_thing_38 : decode b_Md_thing 38 = .ok (.iconst 1, 1) := by decide +kernel
theorem d_Md_thing_39 : decode b_Md_thing 39 = .ok (.iadd, 1) := by decide +kernel
theorem d_Md_thing_40 : decode b_Md_thing 40 = .ok (.putfield 131, 3) := by decide +kernel
theorem d_Md_thing_43 : decode b_Md_thing 43 = .ok (.aload_n 0, 1) := by decide +kernel
theorem d_Md_thing_44 : decode b_Md_thing 44 = .ok (.getfield 131, 3) := by decide +kernel
theorem d_Md_thing_47 : decode b_Md_thing 47 = .ok (.iconst 1, 1) := by decide +kernel
theorem d_Md_thing_48 : decode b_Md_thing 48 = .ok (.isub, 1) := by decide +kernel
theorem d_Md_thing_49 : decode b_Md_thing 49 = .ok (.ireturn, 1) := by decide +kernel
abbrev b_Md_wantTwo : ByteArray := prog_8_method_16_code
abbrev y_Md_wantTwo : MethodName := ⟨"ModuleBytesModel", "wantTwo", "(II)V"⟩
theorem d_Md_wantTwo_0 : decode b_Md_wantTwo 0 = .ok (.aload_n 0, 1) := by decide +kernel
theorem d_Md_wantTwo_1 : decode b_Md_wantTwo 1 = .ok (.iload_n 2, 1) := by decide +kernel
theorem d_Md_wantTwo_2 : decode b_Md_wantTwo 2 = .ok (.invokevirtual 128, 3) := by decide +kernel
theorem d_Md_wantTwo_5 : decode b_Md_wantTwo 5 = .ok (.aload_n 0, 1) := by decide +kernel
theorem d_Md_wantTwo_6 : decode b_Md_wantTwo 6 = .ok (.iload_n 1, 1) := by decide +kernel
theorem d_Md_wantTwo_7 : decode b_Md_wantTwo 7 = .ok (.invokevirtual 128, 3) := by decide +kernel
theorem d_Md_wantTwo_10 : decode b_Md_wantTwo 10 = .ok (.return_, 1) := by decide +kernel
abbrev b_Md_takeImport : ByteArray := prog_8_method_23_code
abbrev y_Md_takeImport : MethodName := ⟨"ModuleBytesModel", "takeImport", "()V"⟩
theorem d_Md_takeImport_0 : decode b_Md_takeImport 0 = .ok (.aload_n 0, 1) := by decide +kernel
theorem d_Md_takeImport_1 : decode b_Md_takeImport 1 = .ok (.iconst 1, 1) := by decide +kernel
theorem d_Md_takeImport_2 : decode b_Md_takeImport 2 = .ok (.invokevirtual 147, 3) := by decide +kernel
theorem d_Md_takeImport_5 : decode b_Md_takeImport 5 = .ok (.pop, 1) := by decide +kernel
theorem d_Md_takeImport_6 : decode b_Md_takeImport 6 = .ok (.aload_n 0, 1) := by decide +kernel
theorem d_Md_takeImport_7 : decode b_Md_takeImport 7 = .ok (.invokevirtual 156, 3) := by decide +kernel
theorem d_Md_takeImport_10 : decode b_Md_takeImport 10 = .ok (.aload_n 0, 1) := by decide +kernel
theorem d_Md_takeImport_11 : decode b_Md_takeImport 11 = .ok (.invokevirtual 156, 3) := by decide +kernel
theorem d_Md_takeImport_14 : decode b_Md_takeImport 14 = .ok (.aload_n 0, 1) := by decide +kernel
theorem d_Md_takeImport_15 : decode b_Md_takeImport 15 = .ok (.iconst 0, 1) := by decide +kernel
theorem d_Md_takeImport_16 : decode b_Md_takeImport 16 = .ok (.iconst 3, 1) := by decide +kernel
theorem d_Md_takeImport_17 : decode b_Md_takeImport 17 = .ok (.bipush 7, 2) := by decide +kernel
theorem d_Md_takeImport_19 : decode b_Md_takeImport 19 = .ok (.invokevirtual 159, 3) := by decide +kernel
theorem d_Md_takeImport_22 : decode b_Md_takeImport 22 = .ok (.istore_n 1, 1) := by decide +kernel
theorem d_Md_takeImport_23 : decode b_Md_takeImport 23 = .ok (.aload_n 0, 1) := by decide +kernel
theorem d_Md_takeImport_24 : decode b_Md_takeImport 24 = .ok (.getfield 82, 3) := by decide +kernel
theorem d_Md_takeImport_27 : decode b_Md_takeImport 27 = .ok (.ifCond .le 4, 3) := by decide +kernel
theorem d_Md_takeImport_30 : decode b_Md_takeImport 30 = .ok (.return_, 1) := by decide +kernel
theorem d_Md_takeImport_31 : decode b_Md_takeImport 31 = .ok (.iload_n 1, 1) := by decide +kernel
theorem d_Md_takeImport_32 : decode b_Md_takeImport 32 = .ok (.iconst 1, 1) := by decide +kernel
theorem d_Md_takeImport_33 : decode b_Md_takeImport 33 = .ok (.if_icmp .ne 13, 3) := by decide +kernel
theorem d_Md_takeImport_36 : decode b_Md_takeImport 36 = .ok (.aload_n 0, 1) := by decide +kernel
theorem d_Md_takeImport_37 : decode b_Md_takeImport 37 = .ok (.iconst 4, 1) := by decide +kernel
theorem d_Md_takeImport_38 : decode b_Md_takeImport 38 = .ok (.bipush 6, 2) := by decide +kernel
theorem d_Md_takeImport_40 : decode b_Md_takeImport 40 = .ok (.invokevirtual 150, 3) := by decide +kernel
theorem d_Md_takeImport_43 : decode b_Md_takeImport 43 = .ok (.goto 27, 3) := by decide +kernel
theorem d_Md_takeImport_46 : decode b_Md_takeImport 46 = .ok (.aload_n 0, 1) := by decide +kernel
theorem d_Md_takeImport_47 : decode b_Md_takeImport 47 = .ok (.iload_n 1, 1) := by decide +kernel
theorem d_Md_takeImport_48 : decode b_Md_takeImport 48 = .ok (.ifCond .ne 7, 3) := by decide +kernel
theorem d_Md_takeImport_51 : decode b_Md_takeImport 51 = .ok (.iconst 1, 1) := by decide +kernel
theorem d_Md_takeImport_52 : decode b_Md_takeImport 52 = .ok (.goto 15, 3) := by decide +kernel
theorem d_Md_takeImport_55 : decode b_Md_takeImport 55 = .ok (.iload_n 1, 1) := by decide +kernel
theorem d_Md_takeImport_56 : decode b_Md_takeImport 56 = .ok (.iconst 2, 1) := by decide +kernel
theorem d_Md_takeImport_57 : decode b_Md_takeImport 57 = .ok (.if_icmp .ne 8, 3) := by decide +kernel
theorem d_Md_takeImport_60 : decode b_Md_takeImport 60 = .ok (.bipush 6, 2) := by decide +kernel
theorem d_Md_takeImport_62 : decode b_Md_takeImport 62 = .ok (.goto 5, 3) := by decide +kernel
theorem d_Md_takeImport_65 : decode b_Md_takeImport 65 = .ok (.bipush 28, 2) := by decide +kernel
theorem d_Md_takeImport_67 : decode b_Md_takeImport 67 = .ok (.invokevirtual 128, 3) := by decide +kernel
theorem d_Md_takeImport_70 : decode b_Md_takeImport 70 = .ok (.return_, 1) := by decide +kernel
abbrev b_Md_takeElement : ByteArray := prog_8_method_24_code
abbrev y_Md_takeElement : MethodName := ⟨"ModuleBytesModel", "takeElement", "()V"⟩
theorem d_Md_takeElement_0 : decode b_Md_takeElement 0 = .ok (.aload_n 0, 1) := by decide +kernel
theorem d_Md_takeElement_1 : decode b_Md_takeElement 1 = .ok (.bipush 7, 2) := by decide +kernel
theorem d_Md_takeElement_3 : decode b_Md_takeElement 3 = .ok (.invokevirtual 147, 3) := by decide +kernel
theorem d_Md_takeElement_6 : decode b_Md_takeElement 6 = .ok (.pop, 1) := by decide +kernel
theorem d_Md_takeElement_7 : decode b_Md_takeElement 7 = .ok (.aload_n 0, 1) := by decide +kernel
theorem d_Md_takeElement_8 : decode b_Md_takeElement 8 = .ok (.getfield 88, 3) := by decide +kernel
theorem d_Md_takeElement_11 : decode b_Md_takeElement 11 = .ok (.istore_n 1, 1) := by decide +kernel
theorem d_Md_takeElement_12 : decode b_Md_takeElement 12 = .ok (.aload_n 0, 1) := by decide +kernel
theorem d_Md_takeElement_13 : decode b_Md_takeElement 13 = .ok (.invokevirtual 113, 3) := by decide +kernel
theorem d_Md_takeElement_16 : decode b_Md_takeElement 16 = .ok (.lstore_n 2, 1) := by decide +kernel
theorem d_Md_takeElement_17 : decode b_Md_takeElement 17 = .ok (.lload_n 2, 1) := by decide +kernel
theorem d_Md_takeElement_18 : decode b_Md_takeElement 18 = .ok (.ldc2_w 163, 3) := by decide +kernel
theorem d_Md_takeElement_21 : decode b_Md_takeElement 21 = .ok (.lcmp, 1) := by decide +kernel
theorem d_Md_takeElement_22 : decode b_Md_takeElement 22 = .ok (.ifCond .le 10, 3) := by decide +kernel
theorem d_Md_takeElement_25 : decode b_Md_takeElement 25 = .ok (.aload_n 0, 1) := by decide +kernel
theorem d_Md_takeElement_26 : decode b_Md_takeElement 26 = .ok (.bipush 7, 2) := by decide +kernel
theorem d_Md_takeElement_28 : decode b_Md_takeElement 28 = .ok (.iload_n 1, 1) := by decide +kernel
theorem d_Md_takeElement_29 : decode b_Md_takeElement 29 = .ok (.invokevirtual 94, 3) := by decide +kernel
theorem d_Md_takeElement_32 : decode b_Md_takeElement 32 = .ok (.aload_n 0, 1) := by decide +kernel
theorem d_Md_takeElement_33 : decode b_Md_takeElement 33 = .ok (.getfield 82, 3) := by decide +kernel
theorem d_Md_takeElement_36 : decode b_Md_takeElement 36 = .ok (.ifCond .le 4, 3) := by decide +kernel
theorem d_Md_takeElement_39 : decode b_Md_takeElement 39 = .ok (.return_, 1) := by decide +kernel
theorem d_Md_takeElement_40 : decode b_Md_takeElement 40 = .ok (.lload_n 2, 1) := by decide +kernel
theorem d_Md_takeElement_41 : decode b_Md_takeElement 41 = .ok (.l2i, 1) := by decide +kernel
theorem d_Md_takeElement_42 : decode b_Md_takeElement 42 = .ok (.istore 4, 2) := by decide +kernel
theorem d_Md_takeElement_44 : decode b_Md_takeElement 44 = .ok (.aload_n 0, 1) := by decide +kernel
theorem d_Md_takeElement_45 : decode b_Md_takeElement 45 = .ok (.iload 4, 2) := by decide +kernel
theorem d_Md_takeElement_47 : decode b_Md_takeElement 47 = .ok (.iconst 4, 1) := by decide +kernel
theorem d_Md_takeElement_48 : decode b_Md_takeElement 48 = .ok (.iand, 1) := by decide +kernel
theorem d_Md_takeElement_49 : decode b_Md_takeElement 49 = .ok (.ifCond .ne 7, 3) := by decide +kernel
theorem d_Md_takeElement_52 : decode b_Md_takeElement 52 = .ok (.iconst 1, 1) := by decide +kernel
theorem d_Md_takeElement_53 : decode b_Md_takeElement 53 = .ok (.goto 5, 3) := by decide +kernel
theorem d_Md_takeElement_56 : decode b_Md_takeElement 56 = .ok (.bipush 16, 2) := by decide +kernel
theorem d_Md_takeElement_58 : decode b_Md_takeElement 58 = .ok (.invokevirtual 153, 3) := by decide +kernel
theorem d_Md_takeElement_61 : decode b_Md_takeElement 61 = .ok (.iload 4, 2) := by decide +kernel
theorem d_Md_takeElement_63 : decode b_Md_takeElement 63 = .ok (.ifCond .eq 26, 3) := by decide +kernel
theorem d_Md_takeElement_66 : decode b_Md_takeElement 66 = .ok (.iload 4, 2) := by decide +kernel
theorem d_Md_takeElement_68 : decode b_Md_takeElement 68 = .ok (.iconst 4, 1) := by decide +kernel
theorem d_Md_takeElement_69 : decode b_Md_takeElement 69 = .ok (.if_icmp .eq 20, 3) := by decide +kernel
theorem d_Md_takeElement_72 : decode b_Md_takeElement 72 = .ok (.aload_n 0, 1) := by decide +kernel
theorem d_Md_takeElement_73 : decode b_Md_takeElement 73 = .ok (.iload 4, 2) := by decide +kernel
theorem d_Md_takeElement_75 : decode b_Md_takeElement 75 = .ok (.iconst 4, 1) := by decide +kernel
theorem d_Md_takeElement_76 : decode b_Md_takeElement 76 = .ok (.iand, 1) := by decide +kernel
theorem d_Md_takeElement_77 : decode b_Md_takeElement 77 = .ok (.ifCond .ne 8, 3) := by decide +kernel
theorem d_Md_takeElement_80 : decode b_Md_takeElement 80 = .ok (.bipush 18, 2) := by decide +kernel
theorem d_Md_takeElement_82 : decode b_Md_takeElement 82 = .ok (.goto 4, 3) := by decide +kernel
theorem d_Md_takeElement_85 : decode b_Md_takeElement 85 = .ok (.iconst 4, 1) := by decide +kernel
theorem d_Md_takeElement_86 : decode b_Md_takeElement 86 = .ok (.invokevirtual 128, 3) := by decide +kernel
theorem d_Md_takeElement_89 : decode b_Md_takeElement 89 = .ok (.iload 4, 2) := by decide +kernel
theorem d_Md_takeElement_91 : decode b_Md_takeElement 91 = .ok (.iconst 1, 1) := by decide +kernel
theorem d_Md_takeElement_92 : decode b_Md_takeElement 92 = .ok (.iand, 1) := by decide +kernel
theorem d_Md_takeElement_93 : decode b_Md_takeElement 93 = .ok (.ifCond .ne 21, 3) := by decide +kernel
theorem d_Md_takeElement_96 : decode b_Md_takeElement 96 = .ok (.aload_n 0, 1) := by decide +kernel
theorem d_Md_takeElement_97 : decode b_Md_takeElement 97 = .ok (.bipush 16, 2) := by decide +kernel
theorem d_Md_takeElement_99 : decode b_Md_takeElement 99 = .ok (.invokevirtual 128, 3) := by decide +kernel
theorem d_Md_takeElement_102 : decode b_Md_takeElement 102 = .ok (.iload 4, 2) := by decide +kernel
theorem d_Md_takeElement_104 : decode b_Md_takeElement 104 = .ok (.iconst 2, 1) := by decide +kernel
theorem d_Md_takeElement_105 : decode b_Md_takeElement 105 = .ok (.iand, 1) := by decide +kernel
theorem d_Md_takeElement_106 : decode b_Md_takeElement 106 = .ok (.ifCond .eq 8, 3) := by decide +kernel
theorem d_Md_takeElement_109 : decode b_Md_takeElement 109 = .ok (.aload_n 0, 1) := by decide +kernel
theorem d_Md_takeElement_110 : decode b_Md_takeElement 110 = .ok (.iconst 1, 1) := by decide +kernel
theorem d_Md_takeElement_111 : decode b_Md_takeElement 111 = .ok (.invokevirtual 128, 3) := by decide +kernel
theorem d_Md_takeElement_114 : decode b_Md_takeElement 114 = .ok (.return_, 1) := by decide +kernel
abbrev b_Md_wantRow : ByteArray := prog_8_method_17_code
abbrev y_Md_wantRow : MethodName := ⟨"ModuleBytesModel", "wantRow", "(I)V"⟩
theorem d_Md_wantRow_0 : decode b_Md_wantRow 0 = .ok (.aload_n 0, 1) := by decide +kernel
theorem d_Md_wantRow_1 : decode b_Md_wantRow 1 = .ok (.bipush 100, 2) := by decide +kernel
theorem d_Md_wantRow_3 : decode b_Md_wantRow 3 = .ok (.iload_n 1, 1) := by decide +kernel
theorem d_Md_wantRow_4 : decode b_Md_wantRow 4 = .ok (.iadd, 1) := by decide +kernel
theorem d_Md_wantRow_5 : decode b_Md_wantRow 5 = .ok (.invokevirtual 128, 3) := by decide +kernel
theorem d_Md_wantRow_8 : decode b_Md_wantRow 8 = .ok (.return_, 1) := by decide +kernel
abbrev b_Md_takeBody : ByteArray := prog_8_method_26_code
abbrev y_Md_takeBody : MethodName := ⟨"ModuleBytesModel", "takeBody", "()V"⟩
theorem d_Md_takeBody_0 : decode b_Md_takeBody 0 = .ok (.aload_n 0, 1) := by decide +kernel
theorem d_Md_takeBody_1 : decode b_Md_takeBody 1 = .ok (.bipush 8, 2) := by decide +kernel
theorem d_Md_takeBody_3 : decode b_Md_takeBody 3 = .ok (.invokevirtual 147, 3) := by decide +kernel
theorem d_Md_takeBody_6 : decode b_Md_takeBody 6 = .ok (.pop, 1) := by decide +kernel
theorem d_Md_takeBody_7 : decode b_Md_takeBody 7 = .ok (.aload_n 0, 1) := by decide +kernel
theorem d_Md_takeBody_8 : decode b_Md_takeBody 8 = .ok (.invokevirtual 144, 3) := by decide +kernel
theorem d_Md_takeBody_11 : decode b_Md_takeBody 11 = .ok (.aload_n 0, 1) := by decide +kernel
theorem d_Md_takeBody_12 : decode b_Md_takeBody 12 = .ok (.getfield 82, 3) := by decide +kernel
theorem d_Md_takeBody_15 : decode b_Md_takeBody 15 = .ok (.ifCond .le 4, 3) := by decide +kernel
theorem d_Md_takeBody_18 : decode b_Md_takeBody 18 = .ok (.return_, 1) := by decide +kernel
theorem d_Md_takeBody_19 : decode b_Md_takeBody 19 = .ok (.aload_n 0, 1) := by decide +kernel
theorem d_Md_takeBody_20 : decode b_Md_takeBody 20 = .ok (.bipush 24, 2) := by decide +kernel
theorem d_Md_takeBody_22 : decode b_Md_takeBody 22 = .ok (.invokevirtual 128, 3) := by decide +kernel
theorem d_Md_takeBody_25 : decode b_Md_takeBody 25 = .ok (.aload_n 0, 1) := by decide +kernel
theorem d_Md_takeBody_26 : decode b_Md_takeBody 26 = .ok (.bipush 22, 2) := by decide +kernel
theorem d_Md_takeBody_28 : decode b_Md_takeBody 28 = .ok (.bipush 16, 2) := by decide +kernel
theorem d_Md_takeBody_30 : decode b_Md_takeBody 30 = .ok (.invokevirtual 150, 3) := by decide +kernel
theorem d_Md_takeBody_33 : decode b_Md_takeBody 33 = .ok (.return_, 1) := by decide +kernel
abbrev b_Md_openPart : ByteArray := prog_8_method_19_code
abbrev y_Md_openPart : MethodName := ⟨"ModuleBytesModel", "openPart", "()V"⟩
theorem d_Md_openPart_0 : decode b_Md_openPart 0 = .ok (.aload_n 0, 1) := by decide +kernel
theorem d_Md_openPart_1 : decode b_Md_openPart 1 = .ok (.getfield 88, 3) := by decide +kernel
theorem d_Md_openPart_4 : decode b_Md_openPart 4 = .ok (.istore_n 1, 1) := by decide +kernel
theorem d_Md_openPart_5 : decode b_Md_openPart 5 = .ok (.aload_n 0, 1) := by decide +kernel
theorem d_Md_openPart_6 : decode b_Md_openPart 6 = .ok (.invokevirtual 113, 3) := by decide +kernel
theorem d_Md_openPart_9 : decode b_Md_openPart 9 = .ok (.lstore_n 2, 1) := by decide +kernel
theorem d_Md_openPart_10 : decode b_Md_openPart 10 = .ok (.aload_n 0, 1) := by decide +kernel
theorem d_Md_openPart_11 : decode b_Md_openPart 11 = .ok (.getfield 82, 3) := by decide +kernel
theorem d_Md_openPart_14 : decode b_Md_openPart 14 = .ok (.ifCond .ne 31, 3) := by decide +kernel
theorem d_Md_openPart_17 : decode b_Md_openPart 17 = .ok (.lload_n 2, 1) := by decide +kernel
theorem d_Md_openPart_18 : decode b_Md_openPart 18 = .ok (.aload_n 0, 1) := by decide +kernel
theorem d_Md_openPart_19 : decode b_Md_openPart 19 = .ok (.getfield 24, 3) := by decide +kernel
theorem d_Md_openPart_22 : decode b_Md_openPart 22 = .ok (.aload_n 0, 1) := by decide +kernel
theorem d_Md_openPart_23 : decode b_Md_openPart 23 = .ok (.getfield 91, 3) := by decide +kernel
theorem d_Md_openPart_26 : decode b_Md_openPart 26 = .ok (.iconst 1, 1) := by decide +kernel
theorem d_Md_openPart_27 : decode b_Md_openPart 27 = .ok (.isub, 1) := by decide +kernel
theorem d_Md_openPart_28 : decode b_Md_openPart 28 = .ok (.iaload, 1) := by decide +kernel
theorem d_Md_openPart_29 : decode b_Md_openPart 29 = .ok (.aload_n 0, 1) := by decide +kernel
theorem d_Md_openPart_30 : decode b_Md_openPart 30 = .ok (.getfield 88, 3) := by decide +kernel
theorem d_Md_openPart_33 : decode b_Md_openPart 33 = .ok (.isub, 1) := by decide +kernel
theorem d_Md_openPart_34 : decode b_Md_openPart 34 = .ok (.i2l, 1) := by decide +kernel
theorem d_Md_openPart_35 : decode b_Md_openPart 35 = .ok (.lcmp, 1) := by decide +kernel
theorem d_Md_openPart_36 : decode b_Md_openPart 36 = .ok (.ifCond .le 9, 3) := by decide +kernel
theorem d_Md_openPart_39 : decode b_Md_openPart 39 = .ok (.aload_n 0, 1) := by decide +kernel
theorem d_Md_openPart_40 : decode b_Md_openPart 40 = .ok (.iconst 2, 1) := by decide +kernel
theorem d_Md_openPart_41 : decode b_Md_openPart 41 = .ok (.iload_n 1, 1) := by decide +kernel
theorem d_Md_openPart_42 : decode b_Md_openPart 42 = .ok (.invokevirtual 94, 3) := by decide +kernel
theorem d_Md_openPart_45 : decode b_Md_openPart 45 = .ok (.aload_n 0, 1) := by decide +kernel
theorem d_Md_openPart_46 : decode b_Md_openPart 46 = .ok (.getfield 82, 3) := by decide +kernel
theorem d_Md_openPart_49 : decode b_Md_openPart 49 = .ok (.ifCond .le 4, 3) := by decide +kernel
theorem d_Md_openPart_52 : decode b_Md_openPart 52 = .ok (.return_, 1) := by decide +kernel
theorem d_Md_openPart_53 : decode b_Md_openPart 53 = .ok (.aload_n 0, 1) := by decide +kernel
theorem d_Md_openPart_54 : decode b_Md_openPart 54 = .ok (.getfield 24, 3) := by decide +kernel
theorem d_Md_openPart_57 : decode b_Md_openPart 57 = .ok (.aload_n 0, 1) := by decide +kernel
theorem d_Md_openPart_58 : decode b_Md_openPart 58 = .ok (.getfield 91, 3) := by decide +kernel
theorem d_Md_openPart_61 : decode b_Md_openPart 61 = .ok (.aload_n 0, 1) := by decide +kernel
theorem d_Md_openPart_62 : decode b_Md_openPart 62 = .ok (.getfield 88, 3) := by decide +kernel
theorem d_Md_openPart_65 : decode b_Md_openPart 65 = .ok (.lload_n 2, 1) := by decide +kernel
theorem d_Md_openPart_66 : decode b_Md_openPart 66 = .ok (.l2i, 1) := by decide +kernel
theorem d_Md_openPart_67 : decode b_Md_openPart 67 = .ok (.iadd, 1) := by decide +kernel
theorem d_Md_openPart_68 : decode b_Md_openPart 68 = .ok (.iastore, 1) := by decide +kernel
theorem d_Md_openPart_69 : decode b_Md_openPart 69 = .ok (.aload_n 0, 1) := by decide +kernel
theorem d_Md_openPart_70 : decode b_Md_openPart 70 = .ok (.dup, 1) := by decide +kernel
theorem d_Md_openPart_71 : decode b_Md_openPart 71 = .ok (.getfield 91, 3) := by decide +kernel
theorem d_Md_openPart_74 : decode b_Md_openPart 74 = .ok (.iconst 1, 1) := by decide +kernel
theorem d_Md_openPart_75 : decode b_Md_openPart 75 = .ok (.iadd, 1) := by decide +kernel
theorem d_Md_openPart_76 : decode b_Md_openPart 76 = .ok (.putfield 91, 3) := by decide +kernel
theorem d_Md_openPart_79 : decode b_Md_openPart 79 = .ok (.return_, 1) := by decide +kernel
abbrev b_Md_takeData : ByteArray := prog_8_method_25_code
abbrev y_Md_takeData : MethodName := ⟨"ModuleBytesModel", "takeData", "()V"⟩
theorem d_Md_takeData_0 : decode b_Md_takeData 0 = .ok (.aload_n 0, 1) := by decide +kernel
theorem d_Md_takeData_1 : decode b_Md_takeData 1 = .ok (.bipush 9, 2) := by decide +kernel
theorem d_Md_takeData_3 : decode b_Md_takeData 3 = .ok (.invokevirtual 147, 3) := by decide +kernel
theorem d_Md_takeData_6 : decode b_Md_takeData 6 = .ok (.pop, 1) := by decide +kernel
theorem d_Md_takeData_7 : decode b_Md_takeData 7 = .ok (.aload_n 0, 1) := by decide +kernel
theorem d_Md_takeData_8 : decode b_Md_takeData 8 = .ok (.getfield 88, 3) := by decide +kernel
theorem d_Md_takeData_11 : decode b_Md_takeData 11 = .ok (.istore_n 1, 1) := by decide +kernel
theorem d_Md_takeData_12 : decode b_Md_takeData 12 = .ok (.aload_n 0, 1) := by decide +kernel
theorem d_Md_takeData_13 : decode b_Md_takeData 13 = .ok (.invokevirtual 113, 3) := by decide +kernel
theorem d_Md_takeData_16 : decode b_Md_takeData 16 = .ok (.lstore_n 2, 1) := by decide +kernel
theorem d_Md_takeData_17 : decode b_Md_takeData 17 = .ok (.lload_n 2, 1) := by decide +kernel
theorem d_Md_takeData_18 : decode b_Md_takeData 18 = .ok (.ldc2_w 165, 3) := by decide +kernel
theorem d_Md_takeData_21 : decode b_Md_takeData 21 = .ok (.lcmp, 1) := by decide +kernel
theorem d_Md_takeData_22 : decode b_Md_takeData 22 = .ok (.ifCond .le 10, 3) := by decide +kernel
theorem d_Md_takeData_25 : decode b_Md_takeData 25 = .ok (.aload_n 0, 1) := by decide +kernel
theorem d_Md_takeData_26 : decode b_Md_takeData 26 = .ok (.bipush 7, 2) := by decide +kernel
theorem d_Md_takeData_28 : decode b_Md_takeData 28 = .ok (.iload_n 1, 1) := by decide +kernel
theorem d_Md_takeData_29 : decode b_Md_takeData 29 = .ok (.invokevirtual 94, 3) := by decide +kernel
theorem d_Md_takeData_32 : decode b_Md_takeData 32 = .ok (.aload_n 0, 1) := by decide +kernel
theorem d_Md_takeData_33 : decode b_Md_takeData 33 = .ok (.bipush 17, 2) := by decide +kernel
theorem d_Md_takeData_35 : decode b_Md_takeData 35 = .ok (.invokevirtual 128, 3) := by decide +kernel
theorem d_Md_takeData_38 : decode b_Md_takeData 38 = .ok (.lload_n 2, 1) := by decide +kernel
theorem d_Md_takeData_39 : decode b_Md_takeData 39 = .ok (.lconst 1, 1) := by decide +kernel
theorem d_Md_takeData_40 : decode b_Md_takeData 40 = .ok (.lcmp, 1) := by decide +kernel
theorem d_Md_takeData_41 : decode b_Md_takeData 41 = .ok (.ifCond .eq 9, 3) := by decide +kernel
theorem d_Md_takeData_44 : decode b_Md_takeData 44 = .ok (.aload_n 0, 1) := by decide +kernel
theorem d_Md_takeData_45 : decode b_Md_takeData 45 = .ok (.bipush 16, 2) := by decide +kernel
theorem d_Md_takeData_47 : decode b_Md_takeData 47 = .ok (.invokevirtual 128, 3) := by decide +kernel
theorem d_Md_takeData_50 : decode b_Md_takeData 50 = .ok (.lload_n 2, 1) := by decide +kernel
theorem d_Md_takeData_51 : decode b_Md_takeData 51 = .ok (.ldc2_w 165, 3) := by decide +kernel
theorem d_Md_takeData_54 : decode b_Md_takeData 54 = .ok (.lcmp, 1) := by decide +kernel
theorem d_Md_takeData_55 : decode b_Md_takeData 55 = .ok (.ifCond .ne 8, 3) := by decide +kernel
theorem d_Md_takeData_58 : decode b_Md_takeData 58 = .ok (.aload_n 0, 1) := by decide +kernel
theorem d_Md_takeData_59 : decode b_Md_takeData 59 = .ok (.iconst 1, 1) := by decide +kernel
theorem d_Md_takeData_60 : decode b_Md_takeData 60 = .ok (.invokevirtual 128, 3) := by decide +kernel
theorem d_Md_takeData_63 : decode b_Md_takeData 63 = .ok (.return_, 1) := by decide +kernel
abbrev b_Md_nextOther : ByteArray := prog_8_method_36_code
abbrev y_Md_nextOther : MethodName := ⟨"ModuleBytesModel", "nextOther", "(I)V"⟩
theorem d_Md_nextOther_0 : decode b_Md_nextOther 0 = .ok (.iload_n 1, 1) := by decide +kernel
theorem d_Md_nextOther_1 : decode b_Md_nextOther 1 = .ok (.tableswitch 257 16 29 #[71, 78, 89, 101, 120, 165, 113, 172, 179, 186, 246, 257, 257, 141], 71) := by decide +kernel
theorem d_Md_nextOther_72 : decode b_Md_nextOther 72 = .ok (.aload_n 0, 1) := by decide +kernel
theorem d_Md_nextOther_73 : decode b_Md_nextOther 73 = .ok (.invokevirtual 228, 3) := by decide +kernel
theorem d_Md_nextOther_76 : decode b_Md_nextOther 76 = .ok (.goto 195, 3) := by decide +kernel
theorem d_Md_nextOther_79 : decode b_Md_nextOther 79 = .ok (.aload_n 0, 1) := by decide +kernel
theorem d_Md_nextOther_80 : decode b_Md_nextOther 80 = .ok (.aload_n 0, 1) := by decide +kernel
theorem d_Md_nextOther_81 : decode b_Md_nextOther 81 = .ok (.invokevirtual 113, 3) := by decide +kernel
theorem d_Md_nextOther_84 : decode b_Md_nextOther 84 = .ok (.invokevirtual 117, 3) := by decide +kernel
theorem d_Md_nextOther_87 : decode b_Md_nextOther 87 = .ok (.goto 184, 3) := by decide +kernel
theorem d_Md_nextOther_90 : decode b_Md_nextOther 90 = .ok (.aload_n 0, 1) := by decide +kernel
theorem d_Md_nextOther_91 : decode b_Md_nextOther 91 = .ok (.iconst 0, 1) := by decide +kernel
theorem d_Md_nextOther_92 : decode b_Md_nextOther 92 = .ok (.iconst 0, 1) := by decide +kernel
theorem d_Md_nextOther_93 : decode b_Md_nextOther 93 = .ok (.bipush 7, 2) := by decide +kernel
theorem d_Md_nextOther_95 : decode b_Md_nextOther 95 = .ok (.invokevirtual 159, 3) := by decide +kernel
theorem d_Md_nextOther_98 : decode b_Md_nextOther 98 = .ok (.pop, 1) := by decide +kernel
theorem d_Md_nextOther_99 : decode b_Md_nextOther 99 = .ok (.goto 172, 3) := by decide +kernel
theorem d_Md_nextOther_102 : decode b_Md_nextOther 102 = .ok (.aload_n 0, 1) := by decide +kernel
theorem d_Md_nextOther_103 : decode b_Md_nextOther 103 = .ok (.iconst 0, 1) := by decide +kernel
theorem d_Md_nextOther_104 : decode b_Md_nextOther 104 = .ok (.iconst 1, 1) := by decide +kernel
theorem d_Md_nextOther_105 : decode b_Md_nextOther 105 = .ok (.bipush 7, 2) := by decide +kernel
theorem d_Md_nextOther_107 : decode b_Md_nextOther 107 = .ok (.invokevirtual 159, 3) := by decide +kernel
theorem d_Md_nextOther_110 : decode b_Md_nextOther 110 = .ok (.pop, 1) := by decide +kernel
theorem d_Md_nextOther_111 : decode b_Md_nextOther 111 = .ok (.goto 160, 3) := by decide +kernel
theorem d_Md_nextOther_114 : decode b_Md_nextOther 114 = .ok (.aload_n 0, 1) := by decide +kernel
theorem d_Md_nextOther_115 : decode b_Md_nextOther 115 = .ok (.invokevirtual 231, 3) := by decide +kernel
theorem d_Md_nextOther_118 : decode b_Md_nextOther 118 = .ok (.goto 153, 3) := by decide +kernel
theorem d_Md_nextOther_121 : decode b_Md_nextOther 121 = .ok (.aload_n 0, 1) := by decide +kernel
theorem d_Md_nextOther_122 : decode b_Md_nextOther 122 = .ok (.dup, 1) := by decide +kernel
theorem d_Md_nextOther_123 : decode b_Md_nextOther 123 = .ok (.getfield 167, 3) := by decide +kernel
theorem d_Md_nextOther_126 : decode b_Md_nextOther 126 = .ok (.aload_n 0, 1) := by decide +kernel
theorem d_Md_nextOther_127 : decode b_Md_nextOther 127 = .ok (.invokevirtual 113, 3) := by decide +kernel
theorem d_Md_nextOther_130 : decode b_Md_nextOther 130 = .ok (.ladd, 1) := by decide +kernel
theorem d_Md_nextOther_131 : decode b_Md_nextOther 131 = .ok (.putfield 167, 3) := by decide +kernel
theorem d_Md_nextOther_134 : decode b_Md_nextOther 134 = .ok (.aload_n 0, 1) := by decide +kernel
theorem d_Md_nextOther_135 : decode b_Md_nextOther 135 = .ok (.iconst 0, 1) := by decide +kernel
theorem d_Md_nextOther_136 : decode b_Md_nextOther 136 = .ok (.invokevirtual 209, 3) := by decide +kernel
theorem d_Md_nextOther_139 : decode b_Md_nextOther 139 = .ok (.goto 132, 3) := by decide +kernel
theorem d_Md_nextOther_142 : decode b_Md_nextOther 142 = .ok (.aload_n 0, 1) := by decide +kernel
theorem d_Md_nextOther_143 : decode b_Md_nextOther 143 = .ok (.getfield 167, 3) := by decide +kernel
theorem d_Md_nextOther_146 : decode b_Md_nextOther 146 = .ok (.ldc2_w 234, 3) := by decide +kernel
theorem d_Md_nextOther_149 : decode b_Md_nextOther 149 = .ok (.lcmp, 1) := by decide +kernel
theorem d_Md_nextOther_150 : decode b_Md_nextOther 150 = .ok (.ifCond .le 121, 3) := by decide +kernel
theorem d_Md_nextOther_153 : decode b_Md_nextOther 153 = .ok (.aload_n 0, 1) := by decide +kernel
theorem d_Md_nextOther_154 : decode b_Md_nextOther 154 = .ok (.bipush 12, 2) := by decide +kernel
theorem d_Md_nextOther_156 : decode b_Md_nextOther 156 = .ok (.aload_n 0, 1) := by decide +kernel
theorem d_Md_nextOther_157 : decode b_Md_nextOther 157 = .ok (.getfield 171, 3) := by decide +kernel
theorem d_Md_nextOther_160 : decode b_Md_nextOther 160 = .ok (.invokevirtual 94, 3) := by decide +kernel
theorem d_Md_nextOther_163 : decode b_Md_nextOther 163 = .ok (.goto 108, 3) := by decide +kernel
theorem d_Md_nextOther_166 : decode b_Md_nextOther 166 = .ok (.aload_n 0, 1) := by decide +kernel
theorem d_Md_nextOther_167 : decode b_Md_nextOther 167 = .ok (.invokevirtual 236, 3) := by decide +kernel
theorem d_Md_nextOther_170 : decode b_Md_nextOther 170 = .ok (.goto 101, 3) := by decide +kernel
theorem d_Md_nextOther_173 : decode b_Md_nextOther 173 = .ok (.aload_n 0, 1) := by decide +kernel
theorem d_Md_nextOther_174 : decode b_Md_nextOther 174 = .ok (.invokevirtual 239, 3) := by decide +kernel
theorem d_Md_nextOther_177 : decode b_Md_nextOther 177 = .ok (.goto 94, 3) := by decide +kernel
theorem d_Md_nextOther_180 : decode b_Md_nextOther 180 = .ok (.aload_n 0, 1) := by decide +kernel
theorem d_Md_nextOther_181 : decode b_Md_nextOther 181 = .ok (.invokevirtual 242, 3) := by decide +kernel
theorem d_Md_nextOther_184 : decode b_Md_nextOther 184 = .ok (.goto 87, 3) := by decide +kernel
theorem d_Md_nextOther_187 : decode b_Md_nextOther 187 = .ok (.aload_n 0, 1) := by decide +kernel
theorem d_Md_nextOther_188 : decode b_Md_nextOther 188 = .ok (.getfield 36, 3) := by decide +kernel
theorem d_Md_nextOther_191 : decode b_Md_nextOther 191 = .ok (.aload_n 0, 1) := by decide +kernel
theorem d_Md_nextOther_192 : decode b_Md_nextOther 192 = .ok (.getfield 131, 3) := by decide +kernel
theorem d_Md_nextOther_195 : decode b_Md_nextOther 195 = .ok (.iconst 1, 1) := by decide +kernel
theorem d_Md_nextOther_196 : decode b_Md_nextOther 196 = .ok (.isub, 1) := by decide +kernel
theorem d_Md_nextOther_197 : decode b_Md_nextOther 197 = .ok (.aload_n 0, 1) := by decide +kernel
theorem d_Md_nextOther_198 : decode b_Md_nextOther 198 = .ok (.getfield 88, 3) := by decide +kernel
theorem d_Md_nextOther_201 : decode b_Md_nextOther 201 = .ok (.iastore, 1) := by decide +kernel
theorem d_Md_nextOther_202 : decode b_Md_nextOther 202 = .ok (.aload_n 0, 1) := by decide +kernel
theorem d_Md_nextOther_203 : decode b_Md_nextOther 203 = .ok (.getfield 39, 3) := by decide +kernel
theorem d_Md_nextOther_206 : decode b_Md_nextOther 206 = .ok (.aload_n 0, 1) := by decide +kernel
theorem d_Md_nextOther_207 : decode b_Md_nextOther 207 = .ok (.getfield 131, 3) := by decide +kernel
theorem d_Md_nextOther_210 : decode b_Md_nextOther 210 = .ok (.iconst 1, 1) := by decide +kernel
theorem d_Md_nextOther_211 : decode b_Md_nextOther 211 = .ok (.isub, 1) := by decide +kernel
theorem d_Md_nextOther_212 : decode b_Md_nextOther 212 = .ok (.aload_n 0, 1) := by decide +kernel
theorem d_Md_nextOther_213 : decode b_Md_nextOther 213 = .ok (.getfield 24, 3) := by decide +kernel
theorem d_Md_nextOther_216 : decode b_Md_nextOther 216 = .ok (.aload_n 0, 1) := by decide +kernel
theorem d_Md_nextOther_217 : decode b_Md_nextOther 217 = .ok (.getfield 91, 3) := by decide +kernel
theorem d_Md_nextOther_220 : decode b_Md_nextOther 220 = .ok (.iconst 1, 1) := by decide +kernel
theorem d_Md_nextOther_221 : decode b_Md_nextOther 221 = .ok (.isub, 1) := by decide +kernel
theorem d_Md_nextOther_222 : decode b_Md_nextOther 222 = .ok (.iaload, 1) := by decide +kernel
theorem d_Md_nextOther_223 : decode b_Md_nextOther 223 = .ok (.aload_n 0, 1) := by decide +kernel
theorem d_Md_nextOther_224 : decode b_Md_nextOther 224 = .ok (.getfield 88, 3) := by decide +kernel
theorem d_Md_nextOther_227 : decode b_Md_nextOther 227 = .ok (.isub, 1) := by decide +kernel
theorem d_Md_nextOther_228 : decode b_Md_nextOther 228 = .ok (.iastore, 1) := by decide +kernel
theorem d_Md_nextOther_229 : decode b_Md_nextOther 229 = .ok (.aload_n 0, 1) := by decide +kernel
theorem d_Md_nextOther_230 : decode b_Md_nextOther 230 = .ok (.aload_n 0, 1) := by decide +kernel
theorem d_Md_nextOther_231 : decode b_Md_nextOther 231 = .ok (.getfield 24, 3) := by decide +kernel
theorem d_Md_nextOther_234 : decode b_Md_nextOther 234 = .ok (.aload_n 0, 1) := by decide +kernel
theorem d_Md_nextOther_235 : decode b_Md_nextOther 235 = .ok (.getfield 91, 3) := by decide +kernel
theorem d_Md_nextOther_238 : decode b_Md_nextOther 238 = .ok (.iconst 1, 1) := by decide +kernel
theorem d_Md_nextOther_239 : decode b_Md_nextOther 239 = .ok (.isub, 1) := by decide +kernel
theorem d_Md_nextOther_240 : decode b_Md_nextOther 240 = .ok (.iaload, 1) := by decide +kernel
theorem d_Md_nextOther_241 : decode b_Md_nextOther 241 = .ok (.putfield 88, 3) := by decide +kernel
theorem d_Md_nextOther_244 : decode b_Md_nextOther 244 = .ok (.goto 27, 3) := by decide +kernel
theorem d_Md_nextOther_247 : decode b_Md_nextOther 247 = .ok (.aload_n 0, 1) := by decide +kernel
theorem d_Md_nextOther_248 : decode b_Md_nextOther 248 = .ok (.aload_n 0, 1) := by decide +kernel
theorem d_Md_nextOther_249 : decode b_Md_nextOther 249 = .ok (.invokevirtual 113, 3) := by decide +kernel
theorem d_Md_nextOther_252 : decode b_Md_nextOther 252 = .ok (.putfield 245, 3) := by decide +kernel
theorem d_Md_nextOther_255 : decode b_Md_nextOther 255 = .ok (.goto 16, 3) := by decide +kernel
theorem d_Md_nextOther_258 : decode b_Md_nextOther 258 = .ok (.aload_n 0, 1) := by decide +kernel
theorem d_Md_nextOther_259 : decode b_Md_nextOther 259 = .ok (.aload_n 0, 1) := by decide +kernel
theorem d_Md_nextOther_260 : decode b_Md_nextOther 260 = .ok (.invokevirtual 113, 3) := by decide +kernel
theorem d_Md_nextOther_263 : decode b_Md_nextOther 263 = .ok (.putfield 248, 3) := by decide +kernel
theorem d_Md_nextOther_266 : decode b_Md_nextOther 266 = .ok (.aload_n 0, 1) := by decide +kernel
theorem d_Md_nextOther_267 : decode b_Md_nextOther 267 = .ok (.iconst 1, 1) := by decide +kernel
theorem d_Md_nextOther_268 : decode b_Md_nextOther 268 = .ok (.putfield 186, 3) := by decide +kernel
theorem d_Md_nextOther_271 : decode b_Md_nextOther 271 = .ok (.return_, 1) := by decide +kernel
abbrev b_Md_takeExpression : ByteArray := prog_8_method_28_code
abbrev y_Md_takeExpression : MethodName := ⟨"ModuleBytesModel", "takeExpression", "()V"⟩
theorem d_Md_takeExpression_0 : decode b_Md_takeExpression 0 = .ok (.aload_n 0, 1) := by decide +kernel
theorem d_Md_takeExpression_1 : decode b_Md_takeExpression 1 = .ok (.getfield 42, 3) := by decide +kernel
theorem d_Md_takeExpression_4 : decode b_Md_takeExpression 4 = .ok (.aload_n 0, 1) := by decide +kernel
theorem d_Md_takeExpression_5 : decode b_Md_takeExpression 5 = .ok (.getfield 174, 3) := by decide +kernel
theorem d_Md_takeExpression_8 : decode b_Md_takeExpression 8 = .ok (.aload_n 0, 1) := by decide +kernel
theorem d_Md_takeExpression_9 : decode b_Md_takeExpression 9 = .ok (.getfield 131, 3) := by decide +kernel
theorem d_Md_takeExpression_12 : decode b_Md_takeExpression 12 = .ok (.iconst 1, 1) := by decide +kernel
theorem d_Md_takeExpression_13 : decode b_Md_takeExpression 13 = .ok (.isub, 1) := by decide +kernel
theorem d_Md_takeExpression_14 : decode b_Md_takeExpression 14 = .ok (.iastore, 1) := by decide +kernel
theorem d_Md_takeExpression_15 : decode b_Md_takeExpression 15 = .ok (.aload_n 0, 1) := by decide +kernel
theorem d_Md_takeExpression_16 : decode b_Md_takeExpression 16 = .ok (.getfield 45, 3) := by decide +kernel
theorem d_Md_takeExpression_19 : decode b_Md_takeExpression 19 = .ok (.aload_n 0, 1) := by decide +kernel
theorem d_Md_takeExpression_20 : decode b_Md_takeExpression 20 = .ok (.getfield 174, 3) := by decide +kernel
theorem d_Md_takeExpression_23 : decode b_Md_takeExpression 23 = .ok (.aload_n 0, 1) := by decide +kernel
theorem d_Md_takeExpression_24 : decode b_Md_takeExpression 24 = .ok (.getfield 88, 3) := by decide +kernel
theorem d_Md_takeExpression_27 : decode b_Md_takeExpression 27 = .ok (.iastore, 1) := by decide +kernel
theorem d_Md_takeExpression_28 : decode b_Md_takeExpression 28 = .ok (.aload_n 0, 1) := by decide +kernel
theorem d_Md_takeExpression_29 : decode b_Md_takeExpression 29 = .ok (.dup, 1) := by decide +kernel
theorem d_Md_takeExpression_30 : decode b_Md_takeExpression 30 = .ok (.getfield 174, 3) := by decide +kernel
theorem d_Md_takeExpression_33 : decode b_Md_takeExpression 33 = .ok (.iconst 1, 1) := by decide +kernel
theorem d_Md_takeExpression_34 : decode b_Md_takeExpression 34 = .ok (.iadd, 1) := by decide +kernel
theorem d_Md_takeExpression_35 : decode b_Md_takeExpression 35 = .ok (.putfield 174, 3) := by decide +kernel
theorem d_Md_takeExpression_38 : decode b_Md_takeExpression 38 = .ok (.aload_n 0, 1) := by decide +kernel
theorem d_Md_takeExpression_39 : decode b_Md_takeExpression 39 = .ok (.getfield 27, 3) := by decide +kernel
theorem d_Md_takeExpression_42 : decode b_Md_takeExpression 42 = .ok (.iconst 0, 1) := by decide +kernel
theorem d_Md_takeExpression_43 : decode b_Md_takeExpression 43 = .ok (.iconst 0, 1) := by decide +kernel
theorem d_Md_takeExpression_44 : decode b_Md_takeExpression 44 = .ok (.iastore, 1) := by decide +kernel
theorem d_Md_takeExpression_45 : decode b_Md_takeExpression 45 = .ok (.aload_n 0, 1) := by decide +kernel
theorem d_Md_takeExpression_46 : decode b_Md_takeExpression 46 = .ok (.iconst 1, 1) := by decide +kernel
theorem d_Md_takeExpression_47 : decode b_Md_takeExpression 47 = .ok (.putfield 177, 3) := by decide +kernel
theorem d_Md_takeExpression_50 : decode b_Md_takeExpression 50 = .ok (.aload_n 0, 1) := by decide +kernel
theorem d_Md_takeExpression_51 : decode b_Md_takeExpression 51 = .ok (.bipush 21, 2) := by decide +kernel
theorem d_Md_takeExpression_53 : decode b_Md_takeExpression 53 = .ok (.invokevirtual 128, 3) := by decide +kernel
theorem d_Md_takeExpression_56 : decode b_Md_takeExpression 56 = .ok (.return_, 1) := by decide +kernel
abbrev b_Md_takeLocals : ByteArray := prog_8_method_27_code
abbrev y_Md_takeLocals : MethodName := ⟨"ModuleBytesModel", "takeLocals", "()V"⟩
theorem d_Md_takeLocals_0 : decode b_Md_takeLocals 0 = .ok (.aload_n 0, 1) := by decide +kernel
theorem d_Md_takeLocals_1 : decode b_Md_takeLocals 1 = .ok (.lconst 0, 1) := by decide +kernel
theorem d_Md_takeLocals_2 : decode b_Md_takeLocals 2 = .ok (.putfield 167, 3) := by decide +kernel
theorem d_Md_takeLocals_5 : decode b_Md_takeLocals 5 = .ok (.aload_n 0, 1) := by decide +kernel
theorem d_Md_takeLocals_6 : decode b_Md_takeLocals 6 = .ok (.aload_n 0, 1) := by decide +kernel
theorem d_Md_takeLocals_7 : decode b_Md_takeLocals 7 = .ok (.getfield 88, 3) := by decide +kernel
theorem d_Md_takeLocals_10 : decode b_Md_takeLocals 10 = .ok (.putfield 171, 3) := by decide +kernel
theorem d_Md_takeLocals_13 : decode b_Md_takeLocals 13 = .ok (.aload_n 0, 1) := by decide +kernel
theorem d_Md_takeLocals_14 : decode b_Md_takeLocals 14 = .ok (.bipush 29, 2) := by decide +kernel
theorem d_Md_takeLocals_16 : decode b_Md_takeLocals 16 = .ok (.invokevirtual 128, 3) := by decide +kernel
theorem d_Md_takeLocals_19 : decode b_Md_takeLocals 19 = .ok (.aload_n 0, 1) := by decide +kernel
theorem d_Md_takeLocals_20 : decode b_Md_takeLocals 20 = .ok (.bipush 20, 2) := by decide +kernel
theorem d_Md_takeLocals_22 : decode b_Md_takeLocals 22 = .ok (.invokevirtual 153, 3) := by decide +kernel
theorem d_Md_takeLocals_25 : decode b_Md_takeLocals 25 = .ok (.return_, 1) := by decide +kernel
abbrev b_Md_takeInstruction : ByteArray := prog_8_method_33_code
abbrev y_Md_takeInstruction : MethodName := ⟨"ModuleBytesModel", "takeInstruction", "()V"⟩
theorem d_Md_takeInstruction_0 : decode b_Md_takeInstruction 0 = .ok (.aload_n 0, 1) := by decide +kernel
theorem d_Md_takeInstruction_1 : decode b_Md_takeInstruction 1 = .ok (.getfield 88, 3) := by decide +kernel
theorem d_Md_takeInstruction_4 : decode b_Md_takeInstruction 4 = .ok (.istore_n 1, 1) := by decide +kernel
theorem d_Md_takeInstruction_5 : decode b_Md_takeInstruction 5 = .ok (.aload_n 0, 1) := by decide +kernel
theorem d_Md_takeInstruction_6 : decode b_Md_takeInstruction 6 = .ok (.invokevirtual 98, 3) := by decide +kernel
theorem d_Md_takeInstruction_9 : decode b_Md_takeInstruction 9 = .ok (.istore_n 2, 1) := by decide +kernel
theorem d_Md_takeInstruction_10 : decode b_Md_takeInstruction 10 = .ok (.aload_n 0, 1) := by decide +kernel
theorem d_Md_takeInstruction_11 : decode b_Md_takeInstruction 11 = .ok (.getfield 82, 3) := by decide +kernel
theorem d_Md_takeInstruction_14 : decode b_Md_takeInstruction 14 = .ok (.ifCond .le 4, 3) := by decide +kernel
theorem d_Md_takeInstruction_17 : decode b_Md_takeInstruction 17 = .ok (.return_, 1) := by decide +kernel
theorem d_Md_takeInstruction_18 : decode b_Md_takeInstruction 18 = .ok (.iload_n 2, 1) := by decide +kernel
theorem d_Md_takeInstruction_19 : decode b_Md_takeInstruction 19 = .ok (.bipush 11, 2) := by decide +kernel
theorem d_Md_takeInstruction_21 : decode b_Md_takeInstruction 21 = .ok (.if_icmp .ne 45, 3) := by decide +kernel
theorem d_Md_takeInstruction_24 : decode b_Md_takeInstruction 24 = .ok (.aload_n 0, 1) := by decide +kernel
theorem d_Md_takeInstruction_25 : decode b_Md_takeInstruction 25 = .ok (.dup, 1) := by decide +kernel
theorem d_Md_takeInstruction_26 : decode b_Md_takeInstruction 26 = .ok (.getfield 177, 3) := by decide +kernel
theorem d_Md_takeInstruction_29 : decode b_Md_takeInstruction 29 = .ok (.iconst 1, 1) := by decide +kernel
theorem d_Md_takeInstruction_30 : decode b_Md_takeInstruction 30 = .ok (.isub, 1) := by decide +kernel
theorem d_Md_takeInstruction_31 : decode b_Md_takeInstruction 31 = .ok (.putfield 177, 3) := by decide +kernel
theorem d_Md_takeInstruction_34 : decode b_Md_takeInstruction 34 = .ok (.aload_n 0, 1) := by decide +kernel
theorem d_Md_takeInstruction_35 : decode b_Md_takeInstruction 35 = .ok (.getfield 177, 3) := by decide +kernel
theorem d_Md_takeInstruction_38 : decode b_Md_takeInstruction 38 = .ok (.ifCond .ne 21, 3) := by decide +kernel
theorem d_Md_takeInstruction_41 : decode b_Md_takeInstruction 41 = .ok (.aload_n 0, 1) := by decide +kernel
theorem d_Md_takeInstruction_42 : decode b_Md_takeInstruction 42 = .ok (.getfield 48, 3) := by decide +kernel
theorem d_Md_takeInstruction_45 : decode b_Md_takeInstruction 45 = .ok (.aload_n 0, 1) := by decide +kernel
theorem d_Md_takeInstruction_46 : decode b_Md_takeInstruction 46 = .ok (.getfield 174, 3) := by decide +kernel
theorem d_Md_takeInstruction_49 : decode b_Md_takeInstruction 49 = .ok (.iconst 1, 1) := by decide +kernel
theorem d_Md_takeInstruction_50 : decode b_Md_takeInstruction 50 = .ok (.isub, 1) := by decide +kernel
theorem d_Md_takeInstruction_51 : decode b_Md_takeInstruction 51 = .ok (.aload_n 0, 1) := by decide +kernel
theorem d_Md_takeInstruction_52 : decode b_Md_takeInstruction 52 = .ok (.getfield 88, 3) := by decide +kernel
theorem d_Md_takeInstruction_55 : decode b_Md_takeInstruction 55 = .ok (.iastore, 1) := by decide +kernel
theorem d_Md_takeInstruction_56 : decode b_Md_takeInstruction 56 = .ok (.goto 9, 3) := by decide +kernel
theorem d_Md_takeInstruction_59 : decode b_Md_takeInstruction 59 = .ok (.aload_n 0, 1) := by decide +kernel
theorem d_Md_takeInstruction_60 : decode b_Md_takeInstruction 60 = .ok (.bipush 21, 2) := by decide +kernel
theorem d_Md_takeInstruction_62 : decode b_Md_takeInstruction 62 = .ok (.invokevirtual 128, 3) := by decide +kernel
theorem d_Md_takeInstruction_65 : decode b_Md_takeInstruction 65 = .ok (.return_, 1) := by decide +kernel
theorem d_Md_takeInstruction_66 : decode b_Md_takeInstruction 66 = .ok (.aload_n 0, 1) := by decide +kernel
theorem d_Md_takeInstruction_67 : decode b_Md_takeInstruction 67 = .ok (.bipush 21, 2) := by decide +kernel
theorem d_Md_takeInstruction_69 : decode b_Md_takeInstruction 69 = .ok (.invokevirtual 128, 3) := by decide +kernel
theorem d_Md_takeInstruction_72 : decode b_Md_takeInstruction 72 = .ok (.iload_n 2, 1) := by decide +kernel
theorem d_Md_takeInstruction_73 : decode b_Md_takeInstruction 73 = .ok (.invokestatic 190, 3) := by decide +kernel
theorem d_Md_takeInstruction_76 : decode b_Md_takeInstruction 76 = .ok (.ifCond .eq 4, 3) := by decide +kernel
theorem d_Md_takeInstruction_79 : decode b_Md_takeInstruction 79 = .ok (.return_, 1) := by decide +kernel
theorem d_Md_takeInstruction_80 : decode b_Md_takeInstruction 80 = .ok (.iload_n 2, 1) := by decide +kernel
theorem d_Md_takeInstruction_81 : decode b_Md_takeInstruction 81 = .ok (.iconst 5, 1) := by decide +kernel
theorem d_Md_takeInstruction_82 : decode b_Md_takeInstruction 82 = .ok (.if_icmp .ne 40, 3) := by decide +kernel
theorem d_Md_takeInstruction_85 : decode b_Md_takeInstruction 85 = .ok (.aload_n 0, 1) := by decide +kernel
theorem d_Md_takeInstruction_86 : decode b_Md_takeInstruction 86 = .ok (.getfield 27, 3) := by decide +kernel
theorem d_Md_takeInstruction_89 : decode b_Md_takeInstruction 89 = .ok (.aload_n 0, 1) := by decide +kernel
theorem d_Md_takeInstruction_90 : decode b_Md_takeInstruction 90 = .ok (.getfield 177, 3) := by decide +kernel
theorem d_Md_takeInstruction_93 : decode b_Md_takeInstruction 93 = .ok (.iconst 1, 1) := by decide +kernel
theorem d_Md_takeInstruction_94 : decode b_Md_takeInstruction 94 = .ok (.isub, 1) := by decide +kernel
theorem d_Md_takeInstruction_95 : decode b_Md_takeInstruction 95 = .ok (.iaload, 1) := by decide +kernel
theorem d_Md_takeInstruction_96 : decode b_Md_takeInstruction 96 = .ok (.iconst 4, 1) := by decide +kernel
theorem d_Md_takeInstruction_97 : decode b_Md_takeInstruction 97 = .ok (.if_icmp .eq 10, 3) := by decide +kernel
theorem d_Md_takeInstruction_100 : decode b_Md_takeInstruction 100 = .ok (.aload_n 0, 1) := by decide +kernel
theorem d_Md_takeInstruction_101 : decode b_Md_takeInstruction 101 = .ok (.bipush 10, 2) := by decide +kernel
theorem d_Md_takeInstruction_103 : decode b_Md_takeInstruction 103 = .ok (.iload_n 1, 1) := by decide +kernel
theorem d_Md_takeInstruction_104 : decode b_Md_takeInstruction 104 = .ok (.invokevirtual 94, 3) := by decide +kernel
theorem d_Md_takeInstruction_107 : decode b_Md_takeInstruction 107 = .ok (.aload_n 0, 1) := by decide +kernel
theorem d_Md_takeInstruction_108 : decode b_Md_takeInstruction 108 = .ok (.getfield 27, 3) := by decide +kernel
theorem d_Md_takeInstruction_111 : decode b_Md_takeInstruction 111 = .ok (.aload_n 0, 1) := by decide +kernel
theorem d_Md_takeInstruction_112 : decode b_Md_takeInstruction 112 = .ok (.getfield 177, 3) := by decide +kernel
theorem d_Md_takeInstruction_115 : decode b_Md_takeInstruction 115 = .ok (.iconst 1, 1) := by decide +kernel
theorem d_Md_takeInstruction_116 : decode b_Md_takeInstruction 116 = .ok (.isub, 1) := by decide +kernel
theorem d_Md_takeInstruction_117 : decode b_Md_takeInstruction 117 = .ok (.iconst 5, 1) := by decide +kernel
theorem d_Md_takeInstruction_118 : decode b_Md_takeInstruction 118 = .ok (.iastore, 1) := by decide +kernel
theorem d_Md_takeInstruction_119 : decode b_Md_takeInstruction 119 = .ok (.goto 64, 3) := by decide +kernel
theorem d_Md_takeInstruction_122 : decode b_Md_takeInstruction 122 = .ok (.iload_n 2, 1) := by decide +kernel
theorem d_Md_takeInstruction_123 : decode b_Md_takeInstruction 123 = .ok (.iconst 5, 1) := by decide +kernel
theorem d_Md_takeInstruction_124 : decode b_Md_takeInstruction 124 = .ok (.if_icmp .ge 11, 3) := by decide +kernel
theorem d_Md_takeInstruction_127 : decode b_Md_takeInstruction 127 = .ok (.aload_n 0, 1) := by decide +kernel
theorem d_Md_takeInstruction_128 : decode b_Md_takeInstruction 128 = .ok (.iload_n 2, 1) := by decide +kernel
theorem d_Md_takeInstruction_129 : decode b_Md_takeInstruction 129 = .ok (.invokevirtual 193, 3) := by decide +kernel
theorem d_Md_takeInstruction_132 : decode b_Md_takeInstruction 132 = .ok (.goto 51, 3) := by decide +kernel
theorem d_Md_takeInstruction_135 : decode b_Md_takeInstruction 135 = .ok (.iload_n 2, 1) := by decide +kernel
theorem d_Md_takeInstruction_136 : decode b_Md_takeInstruction 136 = .ok (.invokestatic 196, 3) := by decide +kernel
theorem d_Md_takeInstruction_139 : decode b_Md_takeInstruction 139 = .ok (.ifCond .eq 11, 3) := by decide +kernel
theorem d_Md_takeInstruction_142 : decode b_Md_takeInstruction 142 = .ok (.aload_n 0, 1) := by decide +kernel
theorem d_Md_takeInstruction_143 : decode b_Md_takeInstruction 143 = .ok (.iconst 1, 1) := by decide +kernel
theorem d_Md_takeInstruction_144 : decode b_Md_takeInstruction 144 = .ok (.invokevirtual 128, 3) := by decide +kernel
theorem d_Md_takeInstruction_147 : decode b_Md_takeInstruction 147 = .ok (.goto 36, 3) := by decide +kernel
theorem d_Md_takeInstruction_150 : decode b_Md_takeInstruction 150 = .ok (.iload_n 2, 1) := by decide +kernel
theorem d_Md_takeInstruction_151 : decode b_Md_takeInstruction 151 = .ok (.bipush 17, 2) := by decide +kernel
theorem d_Md_takeInstruction_153 : decode b_Md_takeInstruction 153 = .ok (.if_icmp .eq 15, 3) := by decide +kernel
theorem d_Md_takeInstruction_156 : decode b_Md_takeInstruction 156 = .ok (.iload_n 2, 1) := by decide +kernel
theorem d_Md_takeInstruction_157 : decode b_Md_takeInstruction 157 = .ok (.bipush 40, 2) := by decide +kernel
theorem d_Md_takeInstruction_159 : decode b_Md_takeInstruction 159 = .ok (.if_icmp .lt 18, 3) := by decide +kernel
theorem d_Md_takeInstruction_162 : decode b_Md_takeInstruction 162 = .ok (.iload_n 2, 1) := by decide +kernel
theorem d_Md_takeInstruction_163 : decode b_Md_takeInstruction 163 = .ok (.bipush 62, 2) := by decide +kernel
theorem d_Md_takeInstruction_165 : decode b_Md_takeInstruction 165 = .ok (.if_icmp .gt 12, 3) := by decide +kernel
theorem d_Md_takeInstruction_168 : decode b_Md_takeInstruction 168 = .ok (.aload_n 0, 1) := by decide +kernel
theorem d_Md_takeInstruction_169 : decode b_Md_takeInstruction 169 = .ok (.iconst 1, 1) := by decide +kernel
theorem d_Md_takeInstruction_170 : decode b_Md_takeInstruction 170 = .ok (.iconst 1, 1) := by decide +kernel
theorem d_Md_takeInstruction_171 : decode b_Md_takeInstruction 171 = .ok (.invokevirtual 150, 3) := by decide +kernel
theorem d_Md_takeInstruction_174 : decode b_Md_takeInstruction 174 = .ok (.goto 9, 3) := by decide +kernel
theorem d_Md_takeInstruction_177 : decode b_Md_takeInstruction 177 = .ok (.aload_n 0, 1) := by decide +kernel
theorem d_Md_takeInstruction_178 : decode b_Md_takeInstruction 178 = .ok (.iload_n 2, 1) := by decide +kernel
theorem d_Md_takeInstruction_179 : decode b_Md_takeInstruction 179 = .ok (.iload_n 1, 1) := by decide +kernel
theorem d_Md_takeInstruction_180 : decode b_Md_takeInstruction 180 = .ok (.invokevirtual 199, 3) := by decide +kernel
theorem d_Md_takeInstruction_183 : decode b_Md_takeInstruction 183 = .ok (.return_, 1) := by decide +kernel
abbrev b_Md_isAlone : ByteArray := prog_8_method_29_code
abbrev y_Md_isAlone : MethodName := ⟨"ModuleBytesModel", "isAlone", "(I)Z"⟩
theorem d_Md_isAlone_0 : decode b_Md_isAlone 0 = .ok (.iload_n 0, 1) := by decide +kernel
theorem d_Md_isAlone_1 : decode b_Md_isAlone 1 = .ok (.iconst 2, 1) := by decide +kernel
theorem d_Md_isAlone_2 : decode b_Md_isAlone 2 = .ok (.if_icmp .lt 41, 3) := by decide +kernel
theorem d_Md_isAlone_5 : decode b_Md_isAlone 5 = .ok (.iload_n 0, 1) := by decide +kernel
theorem d_Md_isAlone_6 : decode b_Md_isAlone 6 = .ok (.bipush 15, 2) := by decide +kernel
theorem d_Md_isAlone_8 : decode b_Md_isAlone 8 = .ok (.if_icmp .eq 35, 3) := by decide +kernel
theorem d_Md_isAlone_11 : decode b_Md_isAlone 11 = .ok (.iload_n 0, 1) := by decide +kernel
theorem d_Md_isAlone_12 : decode b_Md_isAlone 12 = .ok (.bipush 26, 2) := by decide +kernel
theorem d_Md_isAlone_14 : decode b_Md_isAlone 14 = .ok (.if_icmp .eq 29, 3) := by decide +kernel
theorem d_Md_isAlone_17 : decode b_Md_isAlone 17 = .ok (.iload_n 0, 1) := by decide +kernel
theorem d_Md_isAlone_18 : decode b_Md_isAlone 18 = .ok (.bipush 27, 2) := by decide +kernel
theorem d_Md_isAlone_20 : decode b_Md_isAlone 20 = .ok (.if_icmp .eq 23, 3) := by decide +kernel
theorem d_Md_isAlone_23 : decode b_Md_isAlone 23 = .ok (.iload_n 0, 1) := by decide +kernel
theorem d_Md_isAlone_24 : decode b_Md_isAlone 24 = .ok (.bipush 69, 2) := by decide +kernel
theorem d_Md_isAlone_26 : decode b_Md_isAlone 26 = .ok (.if_icmp .lt 10, 3) := by decide +kernel
theorem d_Md_isAlone_29 : decode b_Md_isAlone 29 = .ok (.iload_n 0, 1) := by decide +kernel
theorem d_Md_isAlone_30 : decode b_Md_isAlone 30 = .ok (.sipush 196, 3) := by decide +kernel
theorem d_Md_isAlone_33 : decode b_Md_isAlone 33 = .ok (.if_icmp .le 10, 3) := by decide +kernel
theorem d_Md_isAlone_36 : decode b_Md_isAlone 36 = .ok (.iload_n 0, 1) := by decide +kernel
theorem d_Md_isAlone_37 : decode b_Md_isAlone 37 = .ok (.sipush 209, 3) := by decide +kernel
theorem d_Md_isAlone_40 : decode b_Md_isAlone 40 = .ok (.if_icmp .ne 7, 3) := by decide +kernel
theorem d_Md_isAlone_43 : decode b_Md_isAlone 43 = .ok (.iconst 1, 1) := by decide +kernel
theorem d_Md_isAlone_44 : decode b_Md_isAlone 44 = .ok (.goto 4, 3) := by decide +kernel
theorem d_Md_isAlone_47 : decode b_Md_isAlone 47 = .ok (.iconst 0, 1) := by decide +kernel
theorem d_Md_isAlone_48 : decode b_Md_isAlone 48 = .ok (.ireturn, 1) := by decide +kernel
abbrev b_Md_takeBlock : ByteArray := prog_8_method_31_code
abbrev y_Md_takeBlock : MethodName := ⟨"ModuleBytesModel", "takeBlock", "(I)V"⟩
theorem d_Md_takeBlock_0 : decode b_Md_takeBlock 0 = .ok (.aload_n 0, 1) := by decide +kernel
theorem d_Md_takeBlock_1 : decode b_Md_takeBlock 1 = .ok (.getfield 88, 3) := by decide +kernel
theorem d_Md_takeBlock_4 : decode b_Md_takeBlock 4 = .ok (.istore_n 2, 1) := by decide +kernel
theorem d_Md_takeBlock_5 : decode b_Md_takeBlock 5 = .ok (.aload_n 0, 1) := by decide +kernel
theorem d_Md_takeBlock_6 : decode b_Md_takeBlock 6 = .ok (.bipush 33, 2) := by decide +kernel
theorem d_Md_takeBlock_8 : decode b_Md_takeBlock 8 = .ok (.invokevirtual 180, 3) := by decide +kernel
theorem d_Md_takeBlock_11 : decode b_Md_takeBlock 11 = .ok (.lstore_n 3, 1) := by decide +kernel
theorem d_Md_takeBlock_12 : decode b_Md_takeBlock 12 = .ok (.aload_n 0, 1) := by decide +kernel
theorem d_Md_takeBlock_13 : decode b_Md_takeBlock 13 = .ok (.getfield 88, 3) := by decide +kernel
theorem d_Md_takeBlock_16 : decode b_Md_takeBlock 16 = .ok (.iload_n 2, 1) := by decide +kernel
theorem d_Md_takeBlock_17 : decode b_Md_takeBlock 17 = .ok (.iconst 1, 1) := by decide +kernel
theorem d_Md_takeBlock_18 : decode b_Md_takeBlock 18 = .ok (.iadd, 1) := by decide +kernel
theorem d_Md_takeBlock_19 : decode b_Md_takeBlock 19 = .ok (.if_icmp .ne 30, 3) := by decide +kernel
theorem d_Md_takeBlock_22 : decode b_Md_takeBlock 22 = .ok (.aload_n 0, 1) := by decide +kernel
theorem d_Md_takeBlock_23 : decode b_Md_takeBlock 23 = .ok (.getfield 7, 3) := by decide +kernel
theorem d_Md_takeBlock_26 : decode b_Md_takeBlock 26 = .ok (.iload_n 2, 1) := by decide +kernel
theorem d_Md_takeBlock_27 : decode b_Md_takeBlock 27 = .ok (.iaload, 1) := by decide +kernel
theorem d_Md_takeBlock_28 : decode b_Md_takeBlock 28 = .ok (.bipush 64, 2) := by decide +kernel
theorem d_Md_takeBlock_30 : decode b_Md_takeBlock 30 = .ok (.if_icmp .eq 15, 3) := by decide +kernel
theorem d_Md_takeBlock_33 : decode b_Md_takeBlock 33 = .ok (.aload_n 0, 1) := by decide +kernel
theorem d_Md_takeBlock_34 : decode b_Md_takeBlock 34 = .ok (.getfield 7, 3) := by decide +kernel
theorem d_Md_takeBlock_37 : decode b_Md_takeBlock 37 = .ok (.iload_n 2, 1) := by decide +kernel
theorem d_Md_takeBlock_38 : decode b_Md_takeBlock 38 = .ok (.iaload, 1) := by decide +kernel
theorem d_Md_takeBlock_39 : decode b_Md_takeBlock 39 = .ok (.invokestatic 106, 3) := by decide +kernel
theorem d_Md_takeBlock_42 : decode b_Md_takeBlock 42 = .ok (.ifCond .eq 7, 3) := by decide +kernel
theorem d_Md_takeBlock_45 : decode b_Md_takeBlock 45 = .ok (.iconst 1, 1) := by decide +kernel
theorem d_Md_takeBlock_46 : decode b_Md_takeBlock 46 = .ok (.goto 4, 3) := by decide +kernel
theorem d_Md_takeBlock_49 : decode b_Md_takeBlock 49 = .ok (.iconst 0, 1) := by decide +kernel
theorem d_Md_takeBlock_50 : decode b_Md_takeBlock 50 = .ok (.istore 5, 2) := by decide +kernel
theorem d_Md_takeBlock_52 : decode b_Md_takeBlock 52 = .ok (.aload_n 0, 1) := by decide +kernel
theorem d_Md_takeBlock_53 : decode b_Md_takeBlock 53 = .ok (.getfield 82, 3) := by decide +kernel
theorem d_Md_takeBlock_56 : decode b_Md_takeBlock 56 = .ok (.ifCond .ne 21, 3) := by decide +kernel
theorem d_Md_takeBlock_59 : decode b_Md_takeBlock 59 = .ok (.lload_n 3, 1) := by decide +kernel
theorem d_Md_takeBlock_60 : decode b_Md_takeBlock 60 = .ok (.lconst 0, 1) := by decide +kernel
theorem d_Md_takeBlock_61 : decode b_Md_takeBlock 61 = .ok (.lcmp, 1) := by decide +kernel
theorem d_Md_takeBlock_62 : decode b_Md_takeBlock 62 = .ok (.ifCond .ge 15, 3) := by decide +kernel
theorem d_Md_takeBlock_65 : decode b_Md_takeBlock 65 = .ok (.iload 5, 2) := by decide +kernel
theorem d_Md_takeBlock_67 : decode b_Md_takeBlock 67 = .ok (.ifCond .ne 10, 3) := by decide +kernel
theorem d_Md_takeBlock_70 : decode b_Md_takeBlock 70 = .ok (.aload_n 0, 1) := by decide +kernel
theorem d_Md_takeBlock_71 : decode b_Md_takeBlock 71 = .ok (.bipush 8, 2) := by decide +kernel
theorem d_Md_takeBlock_73 : decode b_Md_takeBlock 73 = .ok (.iload_n 2, 1) := by decide +kernel
theorem d_Md_takeBlock_74 : decode b_Md_takeBlock 74 = .ok (.invokevirtual 94, 3) := by decide +kernel
theorem d_Md_takeBlock_77 : decode b_Md_takeBlock 77 = .ok (.aload_n 0, 1) := by decide +kernel
theorem d_Md_takeBlock_78 : decode b_Md_takeBlock 78 = .ok (.getfield 27, 3) := by decide +kernel
theorem d_Md_takeBlock_81 : decode b_Md_takeBlock 81 = .ok (.aload_n 0, 1) := by decide +kernel
theorem d_Md_takeBlock_82 : decode b_Md_takeBlock 82 = .ok (.getfield 177, 3) := by decide +kernel
theorem d_Md_takeBlock_85 : decode b_Md_takeBlock 85 = .ok (.iload_n 1, 1) := by decide +kernel
theorem d_Md_takeBlock_86 : decode b_Md_takeBlock 86 = .ok (.iastore, 1) := by decide +kernel
theorem d_Md_takeBlock_87 : decode b_Md_takeBlock 87 = .ok (.aload_n 0, 1) := by decide +kernel
theorem d_Md_takeBlock_88 : decode b_Md_takeBlock 88 = .ok (.dup, 1) := by decide +kernel
theorem d_Md_takeBlock_89 : decode b_Md_takeBlock 89 = .ok (.getfield 177, 3) := by decide +kernel
theorem d_Md_takeBlock_92 : decode b_Md_takeBlock 92 = .ok (.iconst 1, 1) := by decide +kernel
theorem d_Md_takeBlock_93 : decode b_Md_takeBlock 93 = .ok (.iadd, 1) := by decide +kernel
theorem d_Md_takeBlock_94 : decode b_Md_takeBlock 94 = .ok (.putfield 177, 3) := by decide +kernel
theorem d_Md_takeBlock_97 : decode b_Md_takeBlock 97 = .ok (.return_, 1) := by decide +kernel
