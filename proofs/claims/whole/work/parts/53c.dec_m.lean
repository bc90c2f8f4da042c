abbrev b_Md_takeSigned : ByteArray := prog_8_method_7_code
abbrev y_Md_takeSigned : MethodName := ⟨"ModuleBytesModel", "takeSigned", "(I)J"⟩
theorem d_Md_takeSigned_0 : decode b_Md_takeSigned 0 = .ok (.lconst 0, 1) := by decide +kernel
theorem d_Md_takeSigned_1 : decode b_Md_takeSigned 1 = .ok (.lstore_n 2, 1) := by decide +kernel
theorem d_Md_takeSigned_2 : decode b_Md_takeSigned 2 = .ok (.iload_n 1, 1) := by decide +kernel
theorem d_Md_takeSigned_3 : decode b_Md_takeSigned 3 = .ok (.bipush 6, 2) := by decide +kernel
theorem d_Md_takeSigned_5 : decode b_Md_takeSigned 5 = .ok (.iadd, 1) := by decide +kernel
theorem d_Md_takeSigned_6 : decode b_Md_takeSigned 6 = .ok (.bipush 7, 2) := by decide +kernel
theorem d_Md_takeSigned_8 : decode b_Md_takeSigned 8 = .ok (.idiv, 1) := by decide +kernel
theorem d_Md_takeSigned_9 : decode b_Md_takeSigned 9 = .ok (.istore 4, 2) := by decide +kernel
theorem d_Md_takeSigned_11 : decode b_Md_takeSigned 11 = .ok (.iconst 0, 1) := by decide +kernel
theorem d_Md_takeSigned_12 : decode b_Md_takeSigned 12 = .ok (.istore 5, 2) := by decide +kernel
theorem d_Md_takeSigned_14 : decode b_Md_takeSigned 14 = .ok (.iload 5, 2) := by decide +kernel
theorem d_Md_takeSigned_16 : decode b_Md_takeSigned 16 = .ok (.iload 4, 2) := by decide +kernel
theorem d_Md_takeSigned_18 : decode b_Md_takeSigned 18 = .ok (.if_icmp .ge 180, 3) := by decide +kernel
theorem d_Md_takeSigned_21 : decode b_Md_takeSigned 21 = .ok (.aload_n 0, 1) := by decide +kernel
theorem d_Md_takeSigned_22 : decode b_Md_takeSigned 22 = .ok (.getfield 82, 3) := by decide +kernel
theorem d_Md_takeSigned_25 : decode b_Md_takeSigned 25 = .ok (.ifCond .ne 173, 3) := by decide +kernel
theorem d_Md_takeSigned_28 : decode b_Md_takeSigned 28 = .ok (.aload_n 0, 1) := by decide +kernel
theorem d_Md_takeSigned_29 : decode b_Md_takeSigned 29 = .ok (.invokevirtual 98, 3) := by decide +kernel
theorem d_Md_takeSigned_32 : decode b_Md_takeSigned 32 = .ok (.istore 6, 2) := by decide +kernel
theorem d_Md_takeSigned_34 : decode b_Md_takeSigned 34 = .ok (.iload_n 1, 1) := by decide +kernel
theorem d_Md_takeSigned_35 : decode b_Md_takeSigned 35 = .ok (.bipush 7, 2) := by decide +kernel
theorem d_Md_takeSigned_37 : decode b_Md_takeSigned 37 = .ok (.iload 5, 2) := by decide +kernel
theorem d_Md_takeSigned_39 : decode b_Md_takeSigned 39 = .ok (.imul, 1) := by decide +kernel
theorem d_Md_takeSigned_40 : decode b_Md_takeSigned 40 = .ok (.isub, 1) := by decide +kernel
theorem d_Md_takeSigned_41 : decode b_Md_takeSigned 41 = .ok (.istore 7, 2) := by decide +kernel
theorem d_Md_takeSigned_43 : decode b_Md_takeSigned 43 = .ok (.iload 7, 2) := by decide +kernel
theorem d_Md_takeSigned_45 : decode b_Md_takeSigned 45 = .ok (.bipush 7, 2) := by decide +kernel
theorem d_Md_takeSigned_47 : decode b_Md_takeSigned 47 = .ok (.if_icmp .ge 16, 3) := by decide +kernel
theorem d_Md_takeSigned_50 : decode b_Md_takeSigned 50 = .ok (.iload 6, 2) := by decide +kernel
theorem d_Md_takeSigned_52 : decode b_Md_takeSigned 52 = .ok (.bipush 127, 2) := by decide +kernel
theorem d_Md_takeSigned_54 : decode b_Md_takeSigned 54 = .ok (.iand, 1) := by decide +kernel
theorem d_Md_takeSigned_55 : decode b_Md_takeSigned 55 = .ok (.iload 7, 2) := by decide +kernel
theorem d_Md_takeSigned_57 : decode b_Md_takeSigned 57 = .ok (.iconst 1, 1) := by decide +kernel
theorem d_Md_takeSigned_58 : decode b_Md_takeSigned 58 = .ok (.isub, 1) := by decide +kernel
theorem d_Md_takeSigned_59 : decode b_Md_takeSigned 59 = .ok (.ishr, 1) := by decide +kernel
theorem d_Md_takeSigned_60 : decode b_Md_takeSigned 60 = .ok (.goto 4, 3) := by decide +kernel
theorem d_Md_takeSigned_63 : decode b_Md_takeSigned 63 = .ok (.iconst 0, 1) := by decide +kernel
theorem d_Md_takeSigned_64 : decode b_Md_takeSigned 64 = .ok (.istore 8, 2) := by decide +kernel
theorem d_Md_takeSigned_66 : decode b_Md_takeSigned 66 = .ok (.iload 7, 2) := by decide +kernel
theorem d_Md_takeSigned_68 : decode b_Md_takeSigned 68 = .ok (.bipush 7, 2) := by decide +kernel
theorem d_Md_takeSigned_70 : decode b_Md_takeSigned 70 = .ok (.if_icmp .ge 20, 3) := by decide +kernel
theorem d_Md_takeSigned_73 : decode b_Md_takeSigned 73 = .ok (.iload 8, 2) := by decide +kernel
theorem d_Md_takeSigned_75 : decode b_Md_takeSigned 75 = .ok (.ifCond .eq 15, 3) := by decide +kernel
theorem d_Md_takeSigned_78 : decode b_Md_takeSigned 78 = .ok (.iload 8, 2) := by decide +kernel
theorem d_Md_takeSigned_80 : decode b_Md_takeSigned 80 = .ok (.bipush 127, 2) := by decide +kernel
theorem d_Md_takeSigned_82 : decode b_Md_takeSigned 82 = .ok (.iload 7, 2) := by decide +kernel
theorem d_Md_takeSigned_84 : decode b_Md_takeSigned 84 = .ok (.iconst 1, 1) := by decide +kernel
theorem d_Md_takeSigned_85 : decode b_Md_takeSigned 85 = .ok (.isub, 1) := by decide +kernel
theorem d_Md_takeSigned_86 : decode b_Md_takeSigned 86 = .ok (.ishr, 1) := by decide +kernel
theorem d_Md_takeSigned_87 : decode b_Md_takeSigned 87 = .ok (.if_icmp .ne 7, 3) := by decide +kernel
theorem d_Md_takeSigned_90 : decode b_Md_takeSigned 90 = .ok (.iconst 1, 1) := by decide +kernel
theorem d_Md_takeSigned_91 : decode b_Md_takeSigned 91 = .ok (.goto 4, 3) := by decide +kernel
theorem d_Md_takeSigned_94 : decode b_Md_takeSigned 94 = .ok (.iconst 0, 1) := by decide +kernel
theorem d_Md_takeSigned_95 : decode b_Md_takeSigned 95 = .ok (.istore 9, 2) := by decide +kernel
theorem d_Md_takeSigned_97 : decode b_Md_takeSigned 97 = .ok (.aload_n 0, 1) := by decide +kernel
theorem d_Md_takeSigned_98 : decode b_Md_takeSigned 98 = .ok (.getfield 82, 3) := by decide +kernel
theorem d_Md_takeSigned_101 : decode b_Md_takeSigned 101 = .ok (.ifCond .ne 33, 3) := by decide +kernel
theorem d_Md_takeSigned_104 : decode b_Md_takeSigned 104 = .ok (.iload 7, 2) := by decide +kernel
theorem d_Md_takeSigned_106 : decode b_Md_takeSigned 106 = .ok (.bipush 8, 2) := by decide +kernel
theorem d_Md_takeSigned_108 : decode b_Md_takeSigned 108 = .ok (.if_icmp .ge 26, 3) := by decide +kernel
theorem d_Md_takeSigned_111 : decode b_Md_takeSigned 111 = .ok (.iload 6, 2) := by decide +kernel
theorem d_Md_takeSigned_113 : decode b_Md_takeSigned 113 = .ok (.bipush 127, 2) := by decide +kernel
theorem d_Md_takeSigned_115 : decode b_Md_takeSigned 115 = .ok (.if_icmp .gt 8, 3) := by decide +kernel
theorem d_Md_takeSigned_118 : decode b_Md_takeSigned 118 = .ok (.iload 9, 2) := by decide +kernel
theorem d_Md_takeSigned_120 : decode b_Md_takeSigned 120 = .ok (.ifCond .ne 14, 3) := by decide +kernel
theorem d_Md_takeSigned_123 : decode b_Md_takeSigned 123 = .ok (.aload_n 0, 1) := by decide +kernel
theorem d_Md_takeSigned_124 : decode b_Md_takeSigned 124 = .ok (.iconst 4, 1) := by decide +kernel
theorem d_Md_takeSigned_125 : decode b_Md_takeSigned 125 = .ok (.aload_n 0, 1) := by decide +kernel
theorem d_Md_takeSigned_126 : decode b_Md_takeSigned 126 = .ok (.getfield 88, 3) := by decide +kernel
theorem d_Md_takeSigned_129 : decode b_Md_takeSigned 129 = .ok (.iconst 1, 1) := by decide +kernel
theorem d_Md_takeSigned_130 : decode b_Md_takeSigned 130 = .ok (.isub, 1) := by decide +kernel
theorem d_Md_takeSigned_131 : decode b_Md_takeSigned 131 = .ok (.invokevirtual 94, 3) := by decide +kernel
theorem d_Md_takeSigned_134 : decode b_Md_takeSigned 134 = .ok (.lload_n 2, 1) := by decide +kernel
theorem d_Md_takeSigned_135 : decode b_Md_takeSigned 135 = .ok (.iload 6, 2) := by decide +kernel
theorem d_Md_takeSigned_137 : decode b_Md_takeSigned 137 = .ok (.bipush 127, 2) := by decide +kernel
theorem d_Md_takeSigned_139 : decode b_Md_takeSigned 139 = .ok (.iand, 1) := by decide +kernel
theorem d_Md_takeSigned_140 : decode b_Md_takeSigned 140 = .ok (.i2l, 1) := by decide +kernel
theorem d_Md_takeSigned_141 : decode b_Md_takeSigned 141 = .ok (.bipush 7, 2) := by decide +kernel
theorem d_Md_takeSigned_143 : decode b_Md_takeSigned 143 = .ok (.iload 5, 2) := by decide +kernel
theorem d_Md_takeSigned_145 : decode b_Md_takeSigned 145 = .ok (.imul, 1) := by decide +kernel
theorem d_Md_takeSigned_146 : decode b_Md_takeSigned 146 = .ok (.lshl, 1) := by decide +kernel
theorem d_Md_takeSigned_147 : decode b_Md_takeSigned 147 = .ok (.lor, 1) := by decide +kernel
theorem d_Md_takeSigned_148 : decode b_Md_takeSigned 148 = .ok (.lstore_n 2, 1) := by decide +kernel
theorem d_Md_takeSigned_149 : decode b_Md_takeSigned 149 = .ok (.bipush 7, 2) := by decide +kernel
theorem d_Md_takeSigned_151 : decode b_Md_takeSigned 151 = .ok (.iload 5, 2) := by decide +kernel
theorem d_Md_takeSigned_153 : decode b_Md_takeSigned 153 = .ok (.imul, 1) := by decide +kernel
theorem d_Md_takeSigned_154 : decode b_Md_takeSigned 154 = .ok (.bipush 7, 2) := by decide +kernel
theorem d_Md_takeSigned_156 : decode b_Md_takeSigned 156 = .ok (.iadd, 1) := by decide +kernel
theorem d_Md_takeSigned_157 : decode b_Md_takeSigned 157 = .ok (.istore 10, 2) := by decide +kernel
theorem d_Md_takeSigned_159 : decode b_Md_takeSigned 159 = .ok (.iload 6, 2) := by decide +kernel
theorem d_Md_takeSigned_161 : decode b_Md_takeSigned 161 = .ok (.sipush 128, 3) := by decide +kernel
theorem d_Md_takeSigned_164 : decode b_Md_takeSigned 164 = .ok (.if_icmp .ge 28, 3) := by decide +kernel
theorem d_Md_takeSigned_167 : decode b_Md_takeSigned 167 = .ok (.iload 10, 2) := by decide +kernel
theorem d_Md_takeSigned_169 : decode b_Md_takeSigned 169 = .ok (.bipush 64, 2) := by decide +kernel
theorem d_Md_takeSigned_171 : decode b_Md_takeSigned 171 = .ok (.if_icmp .ge 19, 3) := by decide +kernel
theorem d_Md_takeSigned_174 : decode b_Md_takeSigned 174 = .ok (.lload_n 2, 1) := by decide +kernel
theorem d_Md_takeSigned_175 : decode b_Md_takeSigned 175 = .ok (.bipush 64, 2) := by decide +kernel
theorem d_Md_takeSigned_177 : decode b_Md_takeSigned 177 = .ok (.iload 10, 2) := by decide +kernel
theorem d_Md_takeSigned_179 : decode b_Md_takeSigned 179 = .ok (.isub, 1) := by decide +kernel
theorem d_Md_takeSigned_180 : decode b_Md_takeSigned 180 = .ok (.lshl, 1) := by decide +kernel
theorem d_Md_takeSigned_181 : decode b_Md_takeSigned 181 = .ok (.bipush 64, 2) := by decide +kernel
theorem d_Md_takeSigned_183 : decode b_Md_takeSigned 183 = .ok (.iload 10, 2) := by decide +kernel
theorem d_Md_takeSigned_185 : decode b_Md_takeSigned 185 = .ok (.isub, 1) := by decide +kernel
theorem d_Md_takeSigned_186 : decode b_Md_takeSigned 186 = .ok (.lshr, 1) := by decide +kernel
theorem d_Md_takeSigned_187 : decode b_Md_takeSigned 187 = .ok (.goto 4, 3) := by decide +kernel
theorem d_Md_takeSigned_190 : decode b_Md_takeSigned 190 = .ok (.lload_n 2, 1) := by decide +kernel
theorem d_Md_takeSigned_191 : decode b_Md_takeSigned 191 = .ok (.lreturn, 1) := by decide +kernel
theorem d_Md_takeSigned_192 : decode b_Md_takeSigned 192 = .ok (.iinc 5 1, 3) := by decide +kernel
theorem d_Md_takeSigned_195 : decode b_Md_takeSigned 195 = .ok (.goto (-181), 3) := by decide +kernel
theorem d_Md_takeSigned_198 : decode b_Md_takeSigned 198 = .ok (.lload_n 2, 1) := by decide +kernel
theorem d_Md_takeSigned_199 : decode b_Md_takeSigned 199 = .ok (.lreturn, 1) := by decide +kernel
abbrev b_Md_hasOne : ByteArray := prog_8_method_30_code
abbrev y_Md_hasOne : MethodName := ⟨"ModuleBytesModel", "hasOne", "(I)Z"⟩
theorem d_Md_hasOne_0 : decode b_Md_hasOne 0 = .ok (.iload_n 0, 1) := by decide +kernel
theorem d_Md_hasOne_1 : decode b_Md_hasOne 1 = .ok (.bipush 12, 2) := by decide +kernel
theorem d_Md_hasOne_3 : decode b_Md_hasOne 3 = .ok (.if_icmp .eq 34, 3) := by decide +kernel
theorem d_Md_hasOne_6 : decode b_Md_hasOne 6 = .ok (.iload_n 0, 1) := by decide +kernel
theorem d_Md_hasOne_7 : decode b_Md_hasOne 7 = .ok (.bipush 13, 2) := by decide +kernel
theorem d_Md_hasOne_9 : decode b_Md_hasOne 9 = .ok (.if_icmp .eq 28, 3) := by decide +kernel
theorem d_Md_hasOne_12 : decode b_Md_hasOne 12 = .ok (.iload_n 0, 1) := by decide +kernel
theorem d_Md_hasOne_13 : decode b_Md_hasOne 13 = .ok (.bipush 16, 2) := by decide +kernel
theorem d_Md_hasOne_15 : decode b_Md_hasOne 15 = .ok (.if_icmp .eq 22, 3) := by decide +kernel
theorem d_Md_hasOne_18 : decode b_Md_hasOne 18 = .ok (.iload_n 0, 1) := by decide +kernel
theorem d_Md_hasOne_19 : decode b_Md_hasOne 19 = .ok (.bipush 32, 2) := by decide +kernel
theorem d_Md_hasOne_21 : decode b_Md_hasOne 21 = .ok (.if_icmp .lt 9, 3) := by decide +kernel
theorem d_Md_hasOne_24 : decode b_Md_hasOne 24 = .ok (.iload_n 0, 1) := by decide +kernel
theorem d_Md_hasOne_25 : decode b_Md_hasOne 25 = .ok (.bipush 38, 2) := by decide +kernel
theorem d_Md_hasOne_27 : decode b_Md_hasOne 27 = .ok (.if_icmp .le 10, 3) := by decide +kernel
theorem d_Md_hasOne_30 : decode b_Md_hasOne 30 = .ok (.iload_n 0, 1) := by decide +kernel
theorem d_Md_hasOne_31 : decode b_Md_hasOne 31 = .ok (.sipush 210, 3) := by decide +kernel
theorem d_Md_hasOne_34 : decode b_Md_hasOne 34 = .ok (.if_icmp .ne 7, 3) := by decide +kernel
theorem d_Md_hasOne_37 : decode b_Md_hasOne 37 = .ok (.iconst 1, 1) := by decide +kernel
theorem d_Md_hasOne_38 : decode b_Md_hasOne 38 = .ok (.goto 4, 3) := by decide +kernel
theorem d_Md_hasOne_41 : decode b_Md_hasOne 41 = .ok (.iconst 0, 1) := by decide +kernel
theorem d_Md_hasOne_42 : decode b_Md_hasOne 42 = .ok (.ireturn, 1) := by decide +kernel
abbrev b_Md_takeRare : ByteArray := prog_8_method_34_code
abbrev y_Md_takeRare : MethodName := ⟨"ModuleBytesModel", "takeRare", "(II)V"⟩
theorem d_Md_takeRare_0 : decode b_Md_takeRare 0 = .ok (.iload_n 1, 1) := by decide +kernel
theorem d_Md_takeRare_1 : decode b_Md_takeRare 1 = .ok (.lookupswitch 174 #[(14, 91), (28, 101), (63, 109), (64, 109), (65, 118), (66, 128), (67, 138), (68, 148), (208, 158), (252, 166)], 91) := by decide +kernel
theorem d_Md_takeRare_92 : decode b_Md_takeRare 92 = .ok (.aload_n 0, 1) := by decide +kernel
theorem d_Md_takeRare_93 : decode b_Md_takeRare 93 = .ok (.bipush 101, 2) := by decide +kernel
theorem d_Md_takeRare_95 : decode b_Md_takeRare 95 = .ok (.iconst 1, 1) := by decide +kernel
theorem d_Md_takeRare_96 : decode b_Md_takeRare 96 = .ok (.invokevirtual 150, 3) := by decide +kernel
theorem d_Md_takeRare_99 : decode b_Md_takeRare 99 = .ok (.goto 83, 3) := by decide +kernel
theorem d_Md_takeRare_102 : decode b_Md_takeRare 102 = .ok (.aload_n 0, 1) := by decide +kernel
theorem d_Md_takeRare_103 : decode b_Md_takeRare 103 = .ok (.iconst 3, 1) := by decide +kernel
theorem d_Md_takeRare_104 : decode b_Md_takeRare 104 = .ok (.invokevirtual 153, 3) := by decide +kernel
theorem d_Md_takeRare_107 : decode b_Md_takeRare 107 = .ok (.goto 75, 3) := by decide +kernel
theorem d_Md_takeRare_110 : decode b_Md_takeRare 110 = .ok (.aload_n 0, 1) := by decide +kernel
theorem d_Md_takeRare_111 : decode b_Md_takeRare 111 = .ok (.bipush 18, 2) := by decide +kernel
theorem d_Md_takeRare_113 : decode b_Md_takeRare 113 = .ok (.invokevirtual 128, 3) := by decide +kernel
theorem d_Md_takeRare_116 : decode b_Md_takeRare 116 = .ok (.goto 66, 3) := by decide +kernel
theorem d_Md_takeRare_119 : decode b_Md_takeRare 119 = .ok (.aload_n 0, 1) := by decide +kernel
theorem d_Md_takeRare_120 : decode b_Md_takeRare 120 = .ok (.bipush 32, 2) := by decide +kernel
theorem d_Md_takeRare_122 : decode b_Md_takeRare 122 = .ok (.invokevirtual 180, 3) := by decide +kernel
theorem d_Md_takeRare_125 : decode b_Md_takeRare 125 = .ok (.pop2, 1) := by decide +kernel
theorem d_Md_takeRare_126 : decode b_Md_takeRare 126 = .ok (.goto 56, 3) := by decide +kernel
theorem d_Md_takeRare_129 : decode b_Md_takeRare 129 = .ok (.aload_n 0, 1) := by decide +kernel
theorem d_Md_takeRare_130 : decode b_Md_takeRare 130 = .ok (.bipush 64, 2) := by decide +kernel
theorem d_Md_takeRare_132 : decode b_Md_takeRare 132 = .ok (.invokevirtual 180, 3) := by decide +kernel
theorem d_Md_takeRare_135 : decode b_Md_takeRare 135 = .ok (.pop2, 1) := by decide +kernel
theorem d_Md_takeRare_136 : decode b_Md_takeRare 136 = .ok (.goto 46, 3) := by decide +kernel
theorem d_Md_takeRare_139 : decode b_Md_takeRare 139 = .ok (.aload_n 0, 1) := by decide +kernel
theorem d_Md_takeRare_140 : decode b_Md_takeRare 140 = .ok (.ldc2_w 202, 3) := by decide +kernel
theorem d_Md_takeRare_143 : decode b_Md_takeRare 143 = .ok (.invokevirtual 117, 3) := by decide +kernel
theorem d_Md_takeRare_146 : decode b_Md_takeRare 146 = .ok (.goto 36, 3) := by decide +kernel
theorem d_Md_takeRare_149 : decode b_Md_takeRare 149 = .ok (.aload_n 0, 1) := by decide +kernel
theorem d_Md_takeRare_150 : decode b_Md_takeRare 150 = .ok (.ldc2_w 204, 3) := by decide +kernel
theorem d_Md_takeRare_153 : decode b_Md_takeRare 153 = .ok (.invokevirtual 117, 3) := by decide +kernel
theorem d_Md_takeRare_156 : decode b_Md_takeRare 156 = .ok (.goto 26, 3) := by decide +kernel
theorem d_Md_takeRare_159 : decode b_Md_takeRare 159 = .ok (.aload_n 0, 1) := by decide +kernel
theorem d_Md_takeRare_160 : decode b_Md_takeRare 160 = .ok (.iconst 4, 1) := by decide +kernel
theorem d_Md_takeRare_161 : decode b_Md_takeRare 161 = .ok (.invokevirtual 128, 3) := by decide +kernel
theorem d_Md_takeRare_164 : decode b_Md_takeRare 164 = .ok (.goto 18, 3) := by decide +kernel
theorem d_Md_takeRare_167 : decode b_Md_takeRare 167 = .ok (.aload_n 0, 1) := by decide +kernel
theorem d_Md_takeRare_168 : decode b_Md_takeRare 168 = .ok (.iload_n 2, 1) := by decide +kernel
theorem d_Md_takeRare_169 : decode b_Md_takeRare 169 = .ok (.invokevirtual 206, 3) := by decide +kernel
theorem d_Md_takeRare_172 : decode b_Md_takeRare 172 = .ok (.goto 10, 3) := by decide +kernel
theorem d_Md_takeRare_175 : decode b_Md_takeRare 175 = .ok (.aload_n 0, 1) := by decide +kernel
theorem d_Md_takeRare_176 : decode b_Md_takeRare 176 = .ok (.bipush 10, 2) := by decide +kernel
theorem d_Md_takeRare_178 : decode b_Md_takeRare 178 = .ok (.iload_n 2, 1) := by decide +kernel
theorem d_Md_takeRare_179 : decode b_Md_takeRare 179 = .ok (.invokevirtual 94, 3) := by decide +kernel
theorem d_Md_takeRare_182 : decode b_Md_takeRare 182 = .ok (.return_, 1) := by decide +kernel
abbrev b_Md_takeOther : ByteArray := prog_8_method_32_code
abbrev y_Md_takeOther : MethodName := ⟨"ModuleBytesModel", "takeOther", "(I)V"⟩
theorem d_Md_takeOther_0 : decode b_Md_takeOther 0 = .ok (.aload_n 0, 1) := by decide +kernel
theorem d_Md_takeOther_1 : decode b_Md_takeOther 1 = .ok (.invokevirtual 113, 3) := by decide +kernel
theorem d_Md_takeOther_4 : decode b_Md_takeOther 4 = .ok (.lstore_n 2, 1) := by decide +kernel
theorem d_Md_takeOther_5 : decode b_Md_takeOther 5 = .ok (.aload_n 0, 1) := by decide +kernel
theorem d_Md_takeOther_6 : decode b_Md_takeOther 6 = .ok (.getfield 82, 3) := by decide +kernel
theorem d_Md_takeOther_9 : decode b_Md_takeOther 9 = .ok (.ifCond .le 4, 3) := by decide +kernel
theorem d_Md_takeOther_12 : decode b_Md_takeOther 12 = .ok (.return_, 1) := by decide +kernel
theorem d_Md_takeOther_13 : decode b_Md_takeOther 13 = .ok (.lload_n 2, 1) := by decide +kernel
theorem d_Md_takeOther_14 : decode b_Md_takeOther 14 = .ok (.ldc2_w 184, 3) := by decide +kernel
theorem d_Md_takeOther_17 : decode b_Md_takeOther 17 = .ok (.lcmp, 1) := by decide +kernel
theorem d_Md_takeOther_18 : decode b_Md_takeOther 18 = .ok (.ifCond .le 11, 3) := by decide +kernel
theorem d_Md_takeOther_21 : decode b_Md_takeOther 21 = .ok (.aload_n 0, 1) := by decide +kernel
theorem d_Md_takeOther_22 : decode b_Md_takeOther 22 = .ok (.bipush 10, 2) := by decide +kernel
theorem d_Md_takeOther_24 : decode b_Md_takeOther 24 = .ok (.iload_n 1, 1) := by decide +kernel
theorem d_Md_takeOther_25 : decode b_Md_takeOther 25 = .ok (.invokevirtual 94, 3) := by decide +kernel
theorem d_Md_takeOther_28 : decode b_Md_takeOther 28 = .ok (.return_, 1) := by decide +kernel
theorem d_Md_takeOther_29 : decode b_Md_takeOther 29 = .ok (.lload_n 2, 1) := by decide +kernel
theorem d_Md_takeOther_30 : decode b_Md_takeOther 30 = .ok (.l2i, 1) := by decide +kernel
theorem d_Md_takeOther_31 : decode b_Md_takeOther 31 = .ok (.istore 4, 2) := by decide +kernel
theorem d_Md_takeOther_33 : decode b_Md_takeOther 33 = .ok (.iload 4, 2) := by decide +kernel
theorem d_Md_takeOther_35 : decode b_Md_takeOther 35 = .ok (.bipush 8, 2) := by decide +kernel
theorem d_Md_takeOther_37 : decode b_Md_takeOther 37 = .ok (.if_icmp .eq 10, 3) := by decide +kernel
theorem d_Md_takeOther_40 : decode b_Md_takeOther 40 = .ok (.iload 4, 2) := by decide +kernel
theorem d_Md_takeOther_42 : decode b_Md_takeOther 42 = .ok (.bipush 9, 2) := by decide +kernel
theorem d_Md_takeOther_44 : decode b_Md_takeOther 44 = .ok (.if_icmp .ne 17, 3) := by decide +kernel
theorem d_Md_takeOther_47 : decode b_Md_takeOther 47 = .ok (.aload_n 0, 1) := by decide +kernel
theorem d_Md_takeOther_48 : decode b_Md_takeOther 48 = .ok (.getfield 186, 3) := by decide +kernel
theorem d_Md_takeOther_51 : decode b_Md_takeOther 51 = .ok (.ifCond .ne 10, 3) := by decide +kernel
theorem d_Md_takeOther_54 : decode b_Md_takeOther 54 = .ok (.aload_n 0, 1) := by decide +kernel
theorem d_Md_takeOther_55 : decode b_Md_takeOther 55 = .ok (.bipush 11, 2) := by decide +kernel
theorem d_Md_takeOther_57 : decode b_Md_takeOther 57 = .ok (.iload_n 1, 1) := by decide +kernel
theorem d_Md_takeOther_58 : decode b_Md_takeOther 58 = .ok (.invokevirtual 94, 3) := by decide +kernel
theorem d_Md_takeOther_61 : decode b_Md_takeOther 61 = .ok (.iload 4, 2) := by decide +kernel
theorem d_Md_takeOther_63 : decode b_Md_takeOther 63 = .ok (.bipush 8, 2) := by decide +kernel
theorem d_Md_takeOther_65 : decode b_Md_takeOther 65 = .ok (.if_icmp .ne 13, 3) := by decide +kernel
theorem d_Md_takeOther_68 : decode b_Md_takeOther 68 = .ok (.aload_n 0, 1) := by decide +kernel
theorem d_Md_takeOther_69 : decode b_Md_takeOther 69 = .ok (.iconst 1, 1) := by decide +kernel
theorem d_Md_takeOther_70 : decode b_Md_takeOther 70 = .ok (.bipush 18, 2) := by decide +kernel
theorem d_Md_takeOther_72 : decode b_Md_takeOther 72 = .ok (.invokevirtual 150, 3) := by decide +kernel
theorem d_Md_takeOther_75 : decode b_Md_takeOther 75 = .ok (.goto 72, 3) := by decide +kernel
theorem d_Md_takeOther_78 : decode b_Md_takeOther 78 = .ok (.iload 4, 2) := by decide +kernel
theorem d_Md_takeOther_80 : decode b_Md_takeOther 80 = .ok (.bipush 10, 2) := by decide +kernel
theorem d_Md_takeOther_82 : decode b_Md_takeOther 82 = .ok (.if_icmp .ne 14, 3) := by decide +kernel
theorem d_Md_takeOther_85 : decode b_Md_takeOther 85 = .ok (.aload_n 0, 1) := by decide +kernel
theorem d_Md_takeOther_86 : decode b_Md_takeOther 86 = .ok (.bipush 18, 2) := by decide +kernel
theorem d_Md_takeOther_88 : decode b_Md_takeOther 88 = .ok (.bipush 18, 2) := by decide +kernel
theorem d_Md_takeOther_90 : decode b_Md_takeOther 90 = .ok (.invokevirtual 150, 3) := by decide +kernel
theorem d_Md_takeOther_93 : decode b_Md_takeOther 93 = .ok (.goto 54, 3) := by decide +kernel
theorem d_Md_takeOther_96 : decode b_Md_takeOther 96 = .ok (.iload 4, 2) := by decide +kernel
theorem d_Md_takeOther_98 : decode b_Md_takeOther 98 = .ok (.bipush 11, 2) := by decide +kernel
theorem d_Md_takeOther_100 : decode b_Md_takeOther 100 = .ok (.if_icmp .ne 12, 3) := by decide +kernel
theorem d_Md_takeOther_103 : decode b_Md_takeOther 103 = .ok (.aload_n 0, 1) := by decide +kernel
theorem d_Md_takeOther_104 : decode b_Md_takeOther 104 = .ok (.bipush 18, 2) := by decide +kernel
theorem d_Md_takeOther_106 : decode b_Md_takeOther 106 = .ok (.invokevirtual 128, 3) := by decide +kernel
theorem d_Md_takeOther_109 : decode b_Md_takeOther 109 = .ok (.goto 38, 3) := by decide +kernel
theorem d_Md_takeOther_112 : decode b_Md_takeOther 112 = .ok (.iload 4, 2) := by decide +kernel
theorem d_Md_takeOther_114 : decode b_Md_takeOther 114 = .ok (.bipush 12, 2) := by decide +kernel
theorem d_Md_takeOther_116 : decode b_Md_takeOther 116 = .ok (.if_icmp .eq 10, 3) := by decide +kernel
theorem d_Md_takeOther_119 : decode b_Md_takeOther 119 = .ok (.iload 4, 2) := by decide +kernel
theorem d_Md_takeOther_121 : decode b_Md_takeOther 121 = .ok (.bipush 14, 2) := by decide +kernel
theorem d_Md_takeOther_123 : decode b_Md_takeOther 123 = .ok (.if_icmp .ne 12, 3) := by decide +kernel
theorem d_Md_takeOther_126 : decode b_Md_takeOther 126 = .ok (.aload_n 0, 1) := by decide +kernel
theorem d_Md_takeOther_127 : decode b_Md_takeOther 127 = .ok (.iconst 1, 1) := by decide +kernel
theorem d_Md_takeOther_128 : decode b_Md_takeOther 128 = .ok (.iconst 1, 1) := by decide +kernel
theorem d_Md_takeOther_129 : decode b_Md_takeOther 129 = .ok (.invokevirtual 150, 3) := by decide +kernel
theorem d_Md_takeOther_132 : decode b_Md_takeOther 132 = .ok (.goto 15, 3) := by decide +kernel
theorem d_Md_takeOther_135 : decode b_Md_takeOther 135 = .ok (.iload 4, 2) := by decide +kernel
theorem d_Md_takeOther_137 : decode b_Md_takeOther 137 = .ok (.bipush 8, 2) := by decide +kernel
theorem d_Md_takeOther_139 : decode b_Md_takeOther 139 = .ok (.if_icmp .le 8, 3) := by decide +kernel
theorem d_Md_takeOther_142 : decode b_Md_takeOther 142 = .ok (.aload_n 0, 1) := by decide +kernel
theorem d_Md_takeOther_143 : decode b_Md_takeOther 143 = .ok (.iconst 1, 1) := by decide +kernel
theorem d_Md_takeOther_144 : decode b_Md_takeOther 144 = .ok (.invokevirtual 128, 3) := by decide +kernel
theorem d_Md_takeOther_147 : decode b_Md_takeOther 147 = .ok (.return_, 1) := by decide +kernel
abbrev b_Md_takeSection : ByteArray := prog_8_method_22_code
abbrev y_Md_takeSection : MethodName := ⟨"ModuleBytesModel", "takeSection", "()V"⟩
theorem d_Md_takeSection_0 : decode b_Md_takeSection 0 = .ok (.aload_n 0, 1) := by decide +kernel
theorem d_Md_takeSection_1 : decode b_Md_takeSection 1 = .ok (.getfield 88, 3) := by decide +kernel
theorem d_Md_takeSection_4 : decode b_Md_takeSection 4 = .ok (.aload_n 0, 1) := by decide +kernel
theorem d_Md_takeSection_5 : decode b_Md_takeSection 5 = .ok (.getfield 24, 3) := by decide +kernel
theorem d_Md_takeSection_8 : decode b_Md_takeSection 8 = .ok (.iconst 0, 1) := by decide +kernel
theorem d_Md_takeSection_9 : decode b_Md_takeSection 9 = .ok (.iaload, 1) := by decide +kernel
theorem d_Md_takeSection_10 : decode b_Md_takeSection 10 = .ok (.if_icmp .ne 4, 3) := by decide +kernel
theorem d_Md_takeSection_13 : decode b_Md_takeSection 13 = .ok (.return_, 1) := by decide +kernel
theorem d_Md_takeSection_14 : decode b_Md_takeSection 14 = .ok (.aload_n 0, 1) := by decide +kernel
theorem d_Md_takeSection_15 : decode b_Md_takeSection 15 = .ok (.bipush 23, 2) := by decide +kernel
theorem d_Md_takeSection_17 : decode b_Md_takeSection 17 = .ok (.invokevirtual 128, 3) := by decide +kernel
theorem d_Md_takeSection_20 : decode b_Md_takeSection 20 = .ok (.aload_n 0, 1) := by decide +kernel
theorem d_Md_takeSection_21 : decode b_Md_takeSection 21 = .ok (.invokevirtual 98, 3) := by decide +kernel
theorem d_Md_takeSection_24 : decode b_Md_takeSection 24 = .ok (.istore_n 1, 1) := by decide +kernel
theorem d_Md_takeSection_25 : decode b_Md_takeSection 25 = .ok (.iload_n 1, 1) := by decide +kernel
theorem d_Md_takeSection_26 : decode b_Md_takeSection 26 = .ok (.ifCond .le 26, 3) := by decide +kernel
theorem d_Md_takeSection_29 : decode b_Md_takeSection 29 = .ok (.iload_n 1, 1) := by decide +kernel
theorem d_Md_takeSection_30 : decode b_Md_takeSection 30 = .ok (.invokestatic 134, 3) := by decide +kernel
theorem d_Md_takeSection_33 : decode b_Md_takeSection 33 = .ok (.aload_n 0, 1) := by decide +kernel
theorem d_Md_takeSection_34 : decode b_Md_takeSection 34 = .ok (.getfield 138, 3) := by decide +kernel
theorem d_Md_takeSection_37 : decode b_Md_takeSection 37 = .ok (.if_icmp .gt 15, 3) := by decide +kernel
theorem d_Md_takeSection_40 : decode b_Md_takeSection 40 = .ok (.aload_n 0, 1) := by decide +kernel
theorem d_Md_takeSection_41 : decode b_Md_takeSection 41 = .ok (.bipush 6, 2) := by decide +kernel
theorem d_Md_takeSection_43 : decode b_Md_takeSection 43 = .ok (.aload_n 0, 1) := by decide +kernel
theorem d_Md_takeSection_44 : decode b_Md_takeSection 44 = .ok (.getfield 88, 3) := by decide +kernel
theorem d_Md_takeSection_47 : decode b_Md_takeSection 47 = .ok (.iconst 1, 1) := by decide +kernel
theorem d_Md_takeSection_48 : decode b_Md_takeSection 48 = .ok (.isub, 1) := by decide +kernel
theorem d_Md_takeSection_49 : decode b_Md_takeSection 49 = .ok (.invokevirtual 94, 3) := by decide +kernel
theorem d_Md_takeSection_52 : decode b_Md_takeSection 52 = .ok (.aload_n 0, 1) := by decide +kernel
theorem d_Md_takeSection_53 : decode b_Md_takeSection 53 = .ok (.getfield 82, 3) := by decide +kernel
theorem d_Md_takeSection_56 : decode b_Md_takeSection 56 = .ok (.ifCond .le 4, 3) := by decide +kernel
theorem d_Md_takeSection_59 : decode b_Md_takeSection 59 = .ok (.return_, 1) := by decide +kernel
theorem d_Md_takeSection_60 : decode b_Md_takeSection 60 = .ok (.aload_n 0, 1) := by decide +kernel
theorem d_Md_takeSection_61 : decode b_Md_takeSection 61 = .ok (.iload_n 1, 1) := by decide +kernel
theorem d_Md_takeSection_62 : decode b_Md_takeSection 62 = .ok (.ifCond .le 10, 3) := by decide +kernel
theorem d_Md_takeSection_65 : decode b_Md_takeSection 65 = .ok (.iload_n 1, 1) := by decide +kernel
theorem d_Md_takeSection_66 : decode b_Md_takeSection 66 = .ok (.invokestatic 134, 3) := by decide +kernel
theorem d_Md_takeSection_69 : decode b_Md_takeSection 69 = .ok (.goto 7, 3) := by decide +kernel
theorem d_Md_takeSection_72 : decode b_Md_takeSection 72 = .ok (.aload_n 0, 1) := by decide +kernel
theorem d_Md_takeSection_73 : decode b_Md_takeSection 73 = .ok (.getfield 138, 3) := by decide +kernel
theorem d_Md_takeSection_76 : decode b_Md_takeSection 76 = .ok (.putfield 138, 3) := by decide +kernel
theorem d_Md_takeSection_79 : decode b_Md_takeSection 79 = .ok (.aload_n 0, 1) := by decide +kernel
theorem d_Md_takeSection_80 : decode b_Md_takeSection 80 = .ok (.dup, 1) := by decide +kernel
theorem d_Md_takeSection_81 : decode b_Md_takeSection 81 = .ok (.getfield 141, 3) := by decide +kernel
theorem d_Md_takeSection_84 : decode b_Md_takeSection 84 = .ok (.iconst 1, 1) := by decide +kernel
theorem d_Md_takeSection_85 : decode b_Md_takeSection 85 = .ok (.iadd, 1) := by decide +kernel
theorem d_Md_takeSection_86 : decode b_Md_takeSection 86 = .ok (.putfield 141, 3) := by decide +kernel
theorem d_Md_takeSection_89 : decode b_Md_takeSection 89 = .ok (.aload_n 0, 1) := by decide +kernel
theorem d_Md_takeSection_90 : decode b_Md_takeSection 90 = .ok (.invokevirtual 144, 3) := by decide +kernel
theorem d_Md_takeSection_93 : decode b_Md_takeSection 93 = .ok (.aload_n 0, 1) := by decide +kernel
theorem d_Md_takeSection_94 : decode b_Md_takeSection 94 = .ok (.getfield 82, 3) := by decide +kernel
theorem d_Md_takeSection_97 : decode b_Md_takeSection 97 = .ok (.ifCond .le 4, 3) := by decide +kernel
theorem d_Md_takeSection_100 : decode b_Md_takeSection 100 = .ok (.return_, 1) := by decide +kernel
theorem d_Md_takeSection_101 : decode b_Md_takeSection 101 = .ok (.aload_n 0, 1) := by decide +kernel
theorem d_Md_takeSection_102 : decode b_Md_takeSection 102 = .ok (.bipush 24, 2) := by decide +kernel
theorem d_Md_takeSection_104 : decode b_Md_takeSection 104 = .ok (.invokevirtual 128, 3) := by decide +kernel
theorem d_Md_takeSection_107 : decode b_Md_takeSection 107 = .ok (.iload_n 1, 1) := by decide +kernel
theorem d_Md_takeSection_108 : decode b_Md_takeSection 108 = .ok (.ifCond .ne 20, 3) := by decide +kernel
theorem d_Md_takeSection_111 : decode b_Md_takeSection 111 = .ok (.aload_n 0, 1) := by decide +kernel
theorem d_Md_takeSection_112 : decode b_Md_takeSection 112 = .ok (.bipush 10, 2) := by decide +kernel
theorem d_Md_takeSection_114 : decode b_Md_takeSection 114 = .ok (.invokevirtual 147, 3) := by decide +kernel
theorem d_Md_takeSection_117 : decode b_Md_takeSection 117 = .ok (.pop, 1) := by decide +kernel
theorem d_Md_takeSection_118 : decode b_Md_takeSection 118 = .ok (.aload_n 0, 1) := by decide +kernel
theorem d_Md_takeSection_119 : decode b_Md_takeSection 119 = .ok (.iconst 2, 1) := by decide +kernel
theorem d_Md_takeSection_120 : decode b_Md_takeSection 120 = .ok (.bipush 25, 2) := by decide +kernel
theorem d_Md_takeSection_122 : decode b_Md_takeSection 122 = .ok (.invokevirtual 150, 3) := by decide +kernel
theorem d_Md_takeSection_125 : decode b_Md_takeSection 125 = .ok (.goto 134, 3) := by decide +kernel
theorem d_Md_takeSection_128 : decode b_Md_takeSection 128 = .ok (.iload_n 1, 1) := by decide +kernel
theorem d_Md_takeSection_129 : decode b_Md_takeSection 129 = .ok (.bipush 8, 2) := by decide +kernel
theorem d_Md_takeSection_131 : decode b_Md_takeSection 131 = .ok (.if_icmp .eq 9, 3) := by decide +kernel
theorem d_Md_takeSection_134 : decode b_Md_takeSection 134 = .ok (.iload_n 1, 1) := by decide +kernel
theorem d_Md_takeSection_135 : decode b_Md_takeSection 135 = .ok (.bipush 12, 2) := by decide +kernel
theorem d_Md_takeSection_137 : decode b_Md_takeSection 137 = .ok (.if_icmp .ne 23, 3) := by decide +kernel
theorem d_Md_takeSection_140 : decode b_Md_takeSection 140 = .ok (.aload_n 0, 1) := by decide +kernel
theorem d_Md_takeSection_141 : decode b_Md_takeSection 141 = .ok (.iload_n 1, 1) := by decide +kernel
theorem d_Md_takeSection_142 : decode b_Md_takeSection 142 = .ok (.bipush 8, 2) := by decide +kernel
theorem d_Md_takeSection_144 : decode b_Md_takeSection 144 = .ok (.if_icmp .ne 8, 3) := by decide +kernel
theorem d_Md_takeSection_147 : decode b_Md_takeSection 147 = .ok (.bipush 26, 2) := by decide +kernel
theorem d_Md_takeSection_149 : decode b_Md_takeSection 149 = .ok (.goto 5, 3) := by decide +kernel
theorem d_Md_takeSection_152 : decode b_Md_takeSection 152 = .ok (.bipush 27, 2) := by decide +kernel
theorem d_Md_takeSection_154 : decode b_Md_takeSection 154 = .ok (.invokevirtual 128, 3) := by decide +kernel
theorem d_Md_takeSection_157 : decode b_Md_takeSection 157 = .ok (.goto 102, 3) := by decide +kernel
theorem d_Md_takeSection_160 : decode b_Md_takeSection 160 = .ok (.aload_n 0, 1) := by decide +kernel
theorem d_Md_takeSection_161 : decode b_Md_takeSection 161 = .ok (.iload_n 1, 1) := by decide +kernel
theorem d_Md_takeSection_162 : decode b_Md_takeSection 162 = .ok (.iconst 1, 1) := by decide +kernel
theorem d_Md_takeSection_163 : decode b_Md_takeSection 163 = .ok (.if_icmp .ne 7, 3) := by decide +kernel
theorem d_Md_takeSection_166 : decode b_Md_takeSection 166 = .ok (.iconst 5, 1) := by decide +kernel
theorem d_Md_takeSection_167 : decode b_Md_takeSection 167 = .ok (.goto 89, 3) := by decide +kernel
theorem d_Md_takeSection_170 : decode b_Md_takeSection 170 = .ok (.iload_n 1, 1) := by decide +kernel
theorem d_Md_takeSection_171 : decode b_Md_takeSection 171 = .ok (.iconst 2, 1) := by decide +kernel
theorem d_Md_takeSection_172 : decode b_Md_takeSection 172 = .ok (.if_icmp .ne 8, 3) := by decide +kernel
theorem d_Md_takeSection_175 : decode b_Md_takeSection 175 = .ok (.bipush 10, 2) := by decide +kernel
theorem d_Md_takeSection_177 : decode b_Md_takeSection 177 = .ok (.goto 79, 3) := by decide +kernel
theorem d_Md_takeSection_180 : decode b_Md_takeSection 180 = .ok (.iload_n 1, 1) := by decide +kernel
theorem d_Md_takeSection_181 : decode b_Md_takeSection 181 = .ok (.iconst 3, 1) := by decide +kernel
theorem d_Md_takeSection_182 : decode b_Md_takeSection 182 = .ok (.if_icmp .ne 8, 3) := by decide +kernel
theorem d_Md_takeSection_185 : decode b_Md_takeSection 185 = .ok (.bipush 11, 2) := by decide +kernel
theorem d_Md_takeSection_187 : decode b_Md_takeSection 187 = .ok (.goto 69, 3) := by decide +kernel
theorem d_Md_takeSection_190 : decode b_Md_takeSection 190 = .ok (.iload_n 1, 1) := by decide +kernel
theorem d_Md_takeSection_191 : decode b_Md_takeSection 191 = .ok (.iconst 4, 1) := by decide +kernel
theorem d_Md_takeSection_192 : decode b_Md_takeSection 192 = .ok (.if_icmp .ne 8, 3) := by decide +kernel
theorem d_Md_takeSection_195 : decode b_Md_takeSection 195 = .ok (.bipush 7, 2) := by decide +kernel
theorem d_Md_takeSection_197 : decode b_Md_takeSection 197 = .ok (.goto 59, 3) := by decide +kernel
theorem d_Md_takeSection_200 : decode b_Md_takeSection 200 = .ok (.iload_n 1, 1) := by decide +kernel
theorem d_Md_takeSection_201 : decode b_Md_takeSection 201 = .ok (.iconst 5, 1) := by decide +kernel
theorem d_Md_takeSection_202 : decode b_Md_takeSection 202 = .ok (.if_icmp .ne 8, 3) := by decide +kernel
theorem d_Md_takeSection_205 : decode b_Md_takeSection 205 = .ok (.bipush 8, 2) := by decide +kernel
theorem d_Md_takeSection_207 : decode b_Md_takeSection 207 = .ok (.goto 49, 3) := by decide +kernel
theorem d_Md_takeSection_210 : decode b_Md_takeSection 210 = .ok (.iload_n 1, 1) := by decide +kernel
theorem d_Md_takeSection_211 : decode b_Md_takeSection 211 = .ok (.bipush 6, 2) := by decide +kernel
theorem d_Md_takeSection_213 : decode b_Md_takeSection 213 = .ok (.if_icmp .ne 8, 3) := by decide +kernel
theorem d_Md_takeSection_216 : decode b_Md_takeSection 216 = .ok (.bipush 9, 2) := by decide +kernel
theorem d_Md_takeSection_218 : decode b_Md_takeSection 218 = .ok (.goto 38, 3) := by decide +kernel
theorem d_Md_takeSection_221 : decode b_Md_takeSection 221 = .ok (.iload_n 1, 1) := by decide +kernel
theorem d_Md_takeSection_222 : decode b_Md_takeSection 222 = .ok (.bipush 7, 2) := by decide +kernel
theorem d_Md_takeSection_224 : decode b_Md_takeSection 224 = .ok (.if_icmp .ne 8, 3) := by decide +kernel
theorem d_Md_takeSection_227 : decode b_Md_takeSection 227 = .ok (.bipush 12, 2) := by decide +kernel
theorem d_Md_takeSection_229 : decode b_Md_takeSection 229 = .ok (.goto 27, 3) := by decide +kernel
theorem d_Md_takeSection_232 : decode b_Md_takeSection 232 = .ok (.iload_n 1, 1) := by decide +kernel
theorem d_Md_takeSection_233 : decode b_Md_takeSection 233 = .ok (.bipush 9, 2) := by decide +kernel
theorem d_Md_takeSection_235 : decode b_Md_takeSection 235 = .ok (.if_icmp .ne 8, 3) := by decide +kernel
theorem d_Md_takeSection_238 : decode b_Md_takeSection 238 = .ok (.bipush 13, 2) := by decide +kernel
theorem d_Md_takeSection_240 : decode b_Md_takeSection 240 = .ok (.goto 16, 3) := by decide +kernel
theorem d_Md_takeSection_243 : decode b_Md_takeSection 243 = .ok (.iload_n 1, 1) := by decide +kernel
theorem d_Md_takeSection_244 : decode b_Md_takeSection 244 = .ok (.bipush 10, 2) := by decide +kernel
theorem d_Md_takeSection_246 : decode b_Md_takeSection 246 = .ok (.if_icmp .ne 8, 3) := by decide +kernel
theorem d_Md_takeSection_249 : decode b_Md_takeSection 249 = .ok (.bipush 14, 2) := by decide +kernel
theorem d_Md_takeSection_251 : decode b_Md_takeSection 251 = .ok (.goto 5, 3) := by decide +kernel
theorem d_Md_takeSection_254 : decode b_Md_takeSection 254 = .ok (.bipush 15, 2) := by decide +kernel
theorem d_Md_takeSection_256 : decode b_Md_takeSection 256 = .ok (.invokevirtual 153, 3) := by decide +kernel
theorem d_Md_takeSection_259 : decode b_Md_takeSection 259 = .ok (.return_, 1) := by decide +kernel
abbrev b_Md_order : ByteArray := prog_8_method_21_code
abbrev y_Md_order : MethodName := ⟨"ModuleBytesModel", "order", "(I)I"⟩
theorem d_Md_order_0 : decode b_Md_order 0 = .ok (.iload_n 0, 1) := by decide +kernel
theorem d_Md_order_1 : decode b_Md_order 1 = .ok (.iconst 1, 1) := by decide +kernel
theorem d_Md_order_2 : decode b_Md_order 2 = .ok (.if_icmp .lt 9, 3) := by decide +kernel
theorem d_Md_order_5 : decode b_Md_order 5 = .ok (.iload_n 0, 1) := by decide +kernel
theorem d_Md_order_6 : decode b_Md_order 6 = .ok (.bipush 12, 2) := by decide +kernel
theorem d_Md_order_8 : decode b_Md_order 8 = .ok (.if_icmp .le 7, 3) := by decide +kernel
theorem d_Md_order_11 : decode b_Md_order 11 = .ok (.iconst 0, 1) := by decide +kernel
theorem d_Md_order_12 : decode b_Md_order 12 = .ok (.goto 27, 3) := by decide +kernel
theorem d_Md_order_15 : decode b_Md_order 15 = .ok (.iload_n 0, 1) := by decide +kernel
theorem d_Md_order_16 : decode b_Md_order 16 = .ok (.bipush 12, 2) := by decide +kernel
theorem d_Md_order_18 : decode b_Md_order 18 = .ok (.if_icmp .ne 8, 3) := by decide +kernel
theorem d_Md_order_21 : decode b_Md_order 21 = .ok (.bipush 10, 2) := by decide +kernel
theorem d_Md_order_23 : decode b_Md_order 23 = .ok (.goto 16, 3) := by decide +kernel
theorem d_Md_order_26 : decode b_Md_order 26 = .ok (.iload_n 0, 1) := by decide +kernel
theorem d_Md_order_27 : decode b_Md_order 27 = .ok (.bipush 10, 2) := by decide +kernel
theorem d_Md_order_29 : decode b_Md_order 29 = .ok (.if_icmp .ge 7, 3) := by decide +kernel
theorem d_Md_order_32 : decode b_Md_order 32 = .ok (.iload_n 0, 1) := by decide +kernel
theorem d_Md_order_33 : decode b_Md_order 33 = .ok (.goto 6, 3) := by decide +kernel
theorem d_Md_order_36 : decode b_Md_order 36 = .ok (.iload_n 0, 1) := by decide +kernel
theorem d_Md_order_37 : decode b_Md_order 37 = .ok (.iconst 1, 1) := by decide +kernel
theorem d_Md_order_38 : decode b_Md_order 38 = .ok (.iadd, 1) := by decide +kernel
theorem d_Md_order_39 : decode b_Md_order 39 = .ok (.ireturn, 1) := by decide +kernel
abbrev b_Md_closePart : ByteArray := prog_8_method_20_code
abbrev y_Md_closePart : MethodName := ⟨"ModuleBytesModel", "closePart", "()V"⟩
theorem d_Md_closePart_0 : decode b_Md_closePart 0 = .ok (.aload_n 0, 1) := by decide +kernel
theorem d_Md_closePart_1 : decode b_Md_closePart 1 = .ok (.getfield 88, 3) := by decide +kernel
theorem d_Md_closePart_4 : decode b_Md_closePart 4 = .ok (.aload_n 0, 1) := by decide +kernel
theorem d_Md_closePart_5 : decode b_Md_closePart 5 = .ok (.getfield 24, 3) := by decide +kernel
theorem d_Md_closePart_8 : decode b_Md_closePart 8 = .ok (.aload_n 0, 1) := by decide +kernel
theorem d_Md_closePart_9 : decode b_Md_closePart 9 = .ok (.getfield 91, 3) := by decide +kernel
theorem d_Md_closePart_12 : decode b_Md_closePart 12 = .ok (.iconst 1, 1) := by decide +kernel
theorem d_Md_closePart_13 : decode b_Md_closePart 13 = .ok (.isub, 1) := by decide +kernel
theorem d_Md_closePart_14 : decode b_Md_closePart 14 = .ok (.iaload, 1) := by decide +kernel
theorem d_Md_closePart_15 : decode b_Md_closePart 15 = .ok (.if_icmp .ge 12, 3) := by decide +kernel
theorem d_Md_closePart_18 : decode b_Md_closePart 18 = .ok (.aload_n 0, 1) := by decide +kernel
theorem d_Md_closePart_19 : decode b_Md_closePart 19 = .ok (.iconst 3, 1) := by decide +kernel
theorem d_Md_closePart_20 : decode b_Md_closePart 20 = .ok (.aload_n 0, 1) := by decide +kernel
theorem d_Md_closePart_21 : decode b_Md_closePart 21 = .ok (.getfield 88, 3) := by decide +kernel
theorem d_Md_closePart_24 : decode b_Md_closePart 24 = .ok (.invokevirtual 94, 3) := by decide +kernel
theorem d_Md_closePart_27 : decode b_Md_closePart 27 = .ok (.aload_n 0, 1) := by decide +kernel
theorem d_Md_closePart_28 : decode b_Md_closePart 28 = .ok (.dup, 1) := by decide +kernel
theorem d_Md_closePart_29 : decode b_Md_closePart 29 = .ok (.getfield 91, 3) := by decide +kernel
theorem d_Md_closePart_32 : decode b_Md_closePart 32 = .ok (.iconst 1, 1) := by decide +kernel
theorem d_Md_closePart_33 : decode b_Md_closePart 33 = .ok (.isub, 1) := by decide +kernel
theorem d_Md_closePart_34 : decode b_Md_closePart 34 = .ok (.putfield 91, 3) := by decide +kernel
theorem d_Md_closePart_37 : decode b_Md_closePart 37 = .ok (.return_, 1) := by decide +kernel
abbrev b_Md_count : ByteArray := prog_8_method_37_code
abbrev y_Md_count : MethodName := ⟨"ModuleBytesModel", "count", "(I)I"⟩
theorem d_Md_count_0 : decode b_Md_count 0 = .ok (.iconst 0, 1) := by decide +kernel
theorem d_Md_count_1 : decode b_Md_count 1 = .ok (.istore_n 2, 1) := by decide +kernel
theorem d_Md_count_2 : decode b_Md_count 2 = .ok (.iconst 0, 1) := by decide +kernel
theorem d_Md_count_3 : decode b_Md_count 3 = .ok (.istore_n 3, 1) := by decide +kernel
theorem d_Md_count_4 : decode b_Md_count 4 = .ok (.iload_n 3, 1) := by decide +kernel
theorem d_Md_count_5 : decode b_Md_count 5 = .ok (.aload_n 0, 1) := by decide +kernel
theorem d_Md_count_6 : decode b_Md_count 6 = .ok (.getfield 131, 3) := by decide +kernel
theorem d_Md_count_9 : decode b_Md_count 9 = .ok (.if_icmp .ge 27, 3) := by decide +kernel
theorem d_Md_count_12 : decode b_Md_count 12 = .ok (.iload_n 2, 1) := by decide +kernel
theorem d_Md_count_13 : decode b_Md_count 13 = .ok (.aload_n 0, 1) := by decide +kernel
theorem d_Md_count_14 : decode b_Md_count 14 = .ok (.getfield 30, 3) := by decide +kernel
theorem d_Md_count_17 : decode b_Md_count 17 = .ok (.iload_n 3, 1) := by decide +kernel
theorem d_Md_count_18 : decode b_Md_count 18 = .ok (.iaload, 1) := by decide +kernel
theorem d_Md_count_19 : decode b_Md_count 19 = .ok (.iload_n 1, 1) := by decide +kernel
theorem d_Md_count_20 : decode b_Md_count 20 = .ok (.if_icmp .ne 7, 3) := by decide +kernel
theorem d_Md_count_23 : decode b_Md_count 23 = .ok (.iconst 1, 1) := by decide +kernel
theorem d_Md_count_24 : decode b_Md_count 24 = .ok (.goto 4, 3) := by decide +kernel
theorem d_Md_count_27 : decode b_Md_count 27 = .ok (.iconst 0, 1) := by decide +kernel
theorem d_Md_count_28 : decode b_Md_count 28 = .ok (.iadd, 1) := by decide +kernel
theorem d_Md_count_29 : decode b_Md_count 29 = .ok (.istore_n 2, 1) := by decide +kernel
theorem d_Md_count_30 : decode b_Md_count 30 = .ok (.iinc 3 1, 3) := by decide +kernel
theorem d_Md_count_33 : decode b_Md_count 33 = .ok (.goto (-29), 3) := by decide +kernel
theorem d_Md_count_36 : decode b_Md_count 36 = .ok (.iload_n 2, 1) := by decide +kernel
theorem d_Md_count_37 : decode b_Md_count 37 = .ok (.ireturn, 1) := by decide +kernel
abbrev b_Md_copy : ByteArray := prog_8_method_40_code
abbrev y_Md_copy : MethodName := ⟨"ModuleBytesModel", "copy", "([I[II)V"⟩
theorem d_Md_copy_0 : decode b_Md_copy 0 = .ok (.iconst 0, 1) := by decide +kernel
theorem d_Md_copy_1 : decode b_Md_copy 1 = .ok (.istore_n 3, 1) := by decide +kernel
theorem d_Md_copy_2 : decode b_Md_copy 2 = .ok (.iload_n 3, 1) := by decide +kernel
theorem d_Md_copy_3 : decode b_Md_copy 3 = .ok (.iload_n 2, 1) := by decide +kernel
theorem d_Md_copy_4 : decode b_Md_copy 4 = .ok (.if_icmp .ge 15, 3) := by decide +kernel
theorem d_Md_copy_7 : decode b_Md_copy 7 = .ok (.aload_n 1, 1) := by decide +kernel
theorem d_Md_copy_8 : decode b_Md_copy 8 = .ok (.iload_n 3, 1) := by decide +kernel
theorem d_Md_copy_9 : decode b_Md_copy 9 = .ok (.aload_n 0, 1) := by decide +kernel
theorem d_Md_copy_10 : decode b_Md_copy 10 = .ok (.iload_n 3, 1) := by decide +kernel
theorem d_Md_copy_11 : decode b_Md_copy 11 = .ok (.iaload, 1) := by decide +kernel
theorem d_Md_copy_12 : decode b_Md_copy 12 = .ok (.iastore, 1) := by decide +kernel
theorem d_Md_copy_13 : decode b_Md_copy 13 = .ok (.iinc 3 1, 3) := by decide +kernel
theorem d_Md_copy_16 : decode b_Md_copy 16 = .ok (.goto (-14), 3) := by decide +kernel
theorem d_Md_copy_19 : decode b_Md_copy 19 = .ok (.return_, 1) := by decide +kernel
abbrev b_Md_place : ByteArray := prog_8_method_42_code
abbrev y_Md_place : MethodName := ⟨"ModuleBytesModel", "place", "()I"⟩
theorem d_Md_place_0 : decode b_Md_place 0 = .ok (.aload_n 0, 1) := by decide +kernel
theorem d_Md_place_1 : decode b_Md_place 1 = .ok (.getfield 13, 3) := by decide +kernel
theorem d_Md_place_4 : decode b_Md_place 4 = .ok (.ireturn, 1) := by decide +kernel
abbrev b_Md_many : ByteArray := prog_8_method_44_code
abbrev y_Md_many : MethodName := ⟨"ModuleBytesModel", "many", "(I)J"⟩
theorem d_Md_many_0 : decode b_Md_many 0 = .ok (.iload_n 1, 1) := by decide +kernel
theorem d_Md_many_1 : decode b_Md_many 1 = .ok (.ifCond .lt 9, 3) := by decide +kernel
theorem d_Md_many_4 : decode b_Md_many 4 = .ok (.iload_n 1, 1) := by decide +kernel
theorem d_Md_many_5 : decode b_Md_many 5 = .ok (.bipush 13, 2) := by decide +kernel
theorem d_Md_many_7 : decode b_Md_many 7 = .ok (.if_icmp .le 7, 3) := by decide +kernel
theorem d_Md_many_10 : decode b_Md_many 10 = .ok (.ldc2_w 251, 3) := by decide +kernel
theorem d_Md_many_13 : decode b_Md_many 13 = .ok (.lreturn, 1) := by decide +kernel
theorem d_Md_many_14 : decode b_Md_many 14 = .ok (.aload_n 0, 1) := by decide +kernel
theorem d_Md_many_15 : decode b_Md_many 15 = .ok (.getfield 265, 3) := by decide +kernel
theorem d_Md_many_18 : decode b_Md_many 18 = .ok (.ifCond .ne 17, 3) := by decide +kernel
theorem d_Md_many_21 : decode b_Md_many 21 = .ok (.iload_n 1, 1) := by decide +kernel
theorem d_Md_many_22 : decode b_Md_many 22 = .ok (.bipush 11, 2) := by decide +kernel
theorem d_Md_many_24 : decode b_Md_many 24 = .ok (.if_icmp .le 9, 3) := by decide +kernel
theorem d_Md_many_27 : decode b_Md_many 27 = .ok (.ldc2_w 251, 3) := by decide +kernel
theorem d_Md_many_30 : decode b_Md_many 30 = .ok (.goto 4, 3) := by decide +kernel
theorem d_Md_many_33 : decode b_Md_many 33 = .ok (.lconst 0, 1) := by decide +kernel
theorem d_Md_many_34 : decode b_Md_many 34 = .ok (.lreturn, 1) := by decide +kernel
theorem d_Md_many_35 : decode b_Md_many 35 = .ok (.iload_n 1, 1) := by decide +kernel
theorem d_Md_many_36 : decode b_Md_many 36 = .ok (.bipush 11, 2) := by decide +kernel
theorem d_Md_many_38 : decode b_Md_many 38 = .ok (.if_icmp .ne 11, 3) := by decide +kernel
theorem d_Md_many_41 : decode b_Md_many 41 = .ok (.aload_n 0, 1) := by decide +kernel
theorem d_Md_many_42 : decode b_Md_many 42 = .ok (.getfield 278, 3) := by decide +kernel
theorem d_Md_many_45 : decode b_Md_many 45 = .ok (.i2l, 1) := by decide +kernel
theorem d_Md_many_46 : decode b_Md_many 46 = .ok (.goto 35, 3) := by decide +kernel
theorem d_Md_many_49 : decode b_Md_many 49 = .ok (.iload_n 1, 1) := by decide +kernel
theorem d_Md_many_50 : decode b_Md_many 50 = .ok (.bipush 12, 2) := by decide +kernel
theorem d_Md_many_52 : decode b_Md_many 52 = .ok (.if_icmp .ne 10, 3) := by decide +kernel
theorem d_Md_many_55 : decode b_Md_many 55 = .ok (.aload_n 0, 1) := by decide +kernel
theorem d_Md_many_56 : decode b_Md_many 56 = .ok (.getfield 281, 3) := by decide +kernel
theorem d_Md_many_59 : decode b_Md_many 59 = .ok (.goto 22, 3) := by decide +kernel
theorem d_Md_many_62 : decode b_Md_many 62 = .ok (.iload_n 1, 1) := by decide +kernel
theorem d_Md_many_63 : decode b_Md_many 63 = .ok (.bipush 13, 2) := by decide +kernel
theorem d_Md_many_65 : decode b_Md_many 65 = .ok (.if_icmp .ne 10, 3) := by decide +kernel
theorem d_Md_many_68 : decode b_Md_many 68 = .ok (.aload_n 0, 1) := by decide +kernel
theorem d_Md_many_69 : decode b_Md_many 69 = .ok (.getfield 284, 3) := by decide +kernel
theorem d_Md_many_72 : decode b_Md_many 72 = .ok (.goto 9, 3) := by decide +kernel
theorem d_Md_many_75 : decode b_Md_many 75 = .ok (.aload_n 0, 1) := by decide +kernel
theorem d_Md_many_76 : decode b_Md_many 76 = .ok (.iload_n 1, 1) := by decide +kernel
theorem d_Md_many_77 : decode b_Md_many 77 = .ok (.invokevirtual 287, 3) := by decide +kernel
theorem d_Md_many_80 : decode b_Md_many 80 = .ok (.i2l, 1) := by decide +kernel
theorem d_Md_many_81 : decode b_Md_many 81 = .ok (.lreturn, 1) := by decide +kernel
abbrev b_Md_countOf : ByteArray := prog_8_method_43_code
abbrev y_Md_countOf : MethodName := ⟨"ModuleBytesModel", "countOf", "(I)I"⟩
theorem d_Md_countOf_0 : decode b_Md_countOf 0 = .ok (.iconst 0, 1) := by decide +kernel
theorem d_Md_countOf_1 : decode b_Md_countOf 1 = .ok (.istore_n 2, 1) := by decide +kernel
theorem d_Md_countOf_2 : decode b_Md_countOf 2 = .ok (.iconst 0, 1) := by decide +kernel
theorem d_Md_countOf_3 : decode b_Md_countOf 3 = .ok (.istore_n 3, 1) := by decide +kernel
theorem d_Md_countOf_4 : decode b_Md_countOf 4 = .ok (.iload_n 3, 1) := by decide +kernel
theorem d_Md_countOf_5 : decode b_Md_countOf 5 = .ok (.aload_n 0, 1) := by decide +kernel
theorem d_Md_countOf_6 : decode b_Md_countOf 6 = .ok (.getfield 272, 3) := by decide +kernel
theorem d_Md_countOf_9 : decode b_Md_countOf 9 = .ok (.if_icmp .ge 27, 3) := by decide +kernel
theorem d_Md_countOf_12 : decode b_Md_countOf 12 = .ok (.iload_n 2, 1) := by decide +kernel
theorem d_Md_countOf_13 : decode b_Md_countOf 13 = .ok (.aload_n 0, 1) := by decide +kernel
theorem d_Md_countOf_14 : decode b_Md_countOf 14 = .ok (.getfield 54, 3) := by decide +kernel
theorem d_Md_countOf_17 : decode b_Md_countOf 17 = .ok (.iload_n 3, 1) := by decide +kernel
theorem d_Md_countOf_18 : decode b_Md_countOf 18 = .ok (.iaload, 1) := by decide +kernel
theorem d_Md_countOf_19 : decode b_Md_countOf 19 = .ok (.iload_n 1, 1) := by decide +kernel
theorem d_Md_countOf_20 : decode b_Md_countOf 20 = .ok (.if_icmp .ne 7, 3) := by decide +kernel
theorem d_Md_countOf_23 : decode b_Md_countOf 23 = .ok (.iconst 1, 1) := by decide +kernel
theorem d_Md_countOf_24 : decode b_Md_countOf 24 = .ok (.goto 4, 3) := by decide +kernel
theorem d_Md_countOf_27 : decode b_Md_countOf 27 = .ok (.iconst 0, 1) := by decide +kernel
theorem d_Md_countOf_28 : decode b_Md_countOf 28 = .ok (.iadd, 1) := by decide +kernel
theorem d_Md_countOf_29 : decode b_Md_countOf 29 = .ok (.istore_n 2, 1) := by decide +kernel
theorem d_Md_countOf_30 : decode b_Md_countOf 30 = .ok (.iinc 3 1, 3) := by decide +kernel
theorem d_Md_countOf_33 : decode b_Md_countOf 33 = .ok (.goto (-29), 3) := by decide +kernel
theorem d_Md_countOf_36 : decode b_Md_countOf 36 = .ok (.iload_n 2, 1) := by decide +kernel
theorem d_Md_countOf_37 : decode b_Md_countOf 37 = .ok (.ireturn, 1) := by decide +kernel
abbrev b_Md_type : ByteArray := prog_8_method_50_code
abbrev y_Md_type : MethodName := ⟨"ModuleBytesModel", "type", "(III)I"⟩
theorem d_Md_type_0 : decode b_Md_type 0 = .ok (.aload_n 0, 1) := by decide +kernel
theorem d_Md_type_1 : decode b_Md_type 1 = .ok (.iconst 0, 1) := by decide +kernel
theorem d_Md_type_2 : decode b_Md_type 2 = .ok (.iload_n 1, 1) := by decide +kernel
theorem d_Md_type_3 : decode b_Md_type 3 = .ok (.invokevirtual 299, 3) := by decide +kernel
theorem d_Md_type_6 : decode b_Md_type 6 = .ok (.istore 4, 2) := by decide +kernel
theorem d_Md_type_8 : decode b_Md_type 8 = .ok (.iload 4, 2) := by decide +kernel
theorem d_Md_type_10 : decode b_Md_type 10 = .ok (.ifCond .lt 12, 3) := by decide +kernel
theorem d_Md_type_13 : decode b_Md_type 13 = .ok (.iload_n 2, 1) := by decide +kernel
theorem d_Md_type_14 : decode b_Md_type 14 = .ok (.ifCond .lt 8, 3) := by decide +kernel
theorem d_Md_type_17 : decode b_Md_type 17 = .ok (.iload_n 2, 1) := by decide +kernel
theorem d_Md_type_18 : decode b_Md_type 18 = .ok (.iconst 1, 1) := by decide +kernel
theorem d_Md_type_19 : decode b_Md_type 19 = .ok (.if_icmp .le 5, 3) := by decide +kernel
theorem d_Md_type_22 : decode b_Md_type 22 = .ok (.iconst (-1), 1) := by decide +kernel
theorem d_Md_type_23 : decode b_Md_type 23 = .ok (.ireturn, 1) := by decide +kernel
theorem d_Md_type_24 : decode b_Md_type 24 = .ok (.aload_n 0, 1) := by decide +kernel
theorem d_Md_type_25 : decode b_Md_type 25 = .ok (.aload_n 0, 1) := by decide +kernel
theorem d_Md_type_26 : decode b_Md_type 26 = .ok (.getfield 57, 3) := by decide +kernel
theorem d_Md_type_29 : decode b_Md_type 29 = .ok (.iload 4, 2) := by decide +kernel
theorem d_Md_type_31 : decode b_Md_type 31 = .ok (.iaload, 1) := by decide +kernel
theorem d_Md_type_32 : decode b_Md_type 32 = .ok (.iconst 1, 1) := by decide +kernel
theorem d_Md_type_33 : decode b_Md_type 33 = .ok (.iadd, 1) := by decide +kernel
theorem d_Md_type_34 : decode b_Md_type 34 = .ok (.putfield 290, 3) := by decide +kernel
theorem d_Md_type_37 : decode b_Md_type 37 = .ok (.aload_n 0, 1) := by decide +kernel
theorem d_Md_type_38 : decode b_Md_type 38 = .ok (.invokevirtual 293, 3) := by decide +kernel
theorem d_Md_type_41 : decode b_Md_type 41 = .ok (.l2i, 1) := by decide +kernel
theorem d_Md_type_42 : decode b_Md_type 42 = .ok (.istore 5, 2) := by decide +kernel
theorem d_Md_type_44 : decode b_Md_type 44 = .ok (.iload_n 2, 1) := by decide +kernel
theorem d_Md_type_45 : decode b_Md_type 45 = .ok (.iconst 1, 1) := by decide +kernel
theorem d_Md_type_46 : decode b_Md_type 46 = .ok (.if_icmp .ne 21, 3) := by decide +kernel
theorem d_Md_type_49 : decode b_Md_type 49 = .ok (.aload_n 0, 1) := by decide +kernel
theorem d_Md_type_50 : decode b_Md_type 50 = .ok (.dup, 1) := by decide +kernel
theorem d_Md_type_51 : decode b_Md_type 51 = .ok (.getfield 290, 3) := by decide +kernel
theorem d_Md_type_54 : decode b_Md_type 54 = .ok (.iload 5, 2) := by decide +kernel
theorem d_Md_type_56 : decode b_Md_type 56 = .ok (.iadd, 1) := by decide +kernel
theorem d_Md_type_57 : decode b_Md_type 57 = .ok (.putfield 290, 3) := by decide +kernel
theorem d_Md_type_60 : decode b_Md_type 60 = .ok (.aload_n 0, 1) := by decide +kernel
theorem d_Md_type_61 : decode b_Md_type 61 = .ok (.invokevirtual 293, 3) := by decide +kernel
theorem d_Md_type_64 : decode b_Md_type 64 = .ok (.l2i, 1) := by decide +kernel
theorem d_Md_type_65 : decode b_Md_type 65 = .ok (.istore 5, 2) := by decide +kernel
theorem d_Md_type_67 : decode b_Md_type 67 = .ok (.iload_n 3, 1) := by decide +kernel
theorem d_Md_type_68 : decode b_Md_type 68 = .ok (.iconst (-1), 1) := by decide +kernel
theorem d_Md_type_69 : decode b_Md_type 69 = .ok (.if_icmp .ne 8, 3) := by decide +kernel
theorem d_Md_type_72 : decode b_Md_type 72 = .ok (.iload 5, 2) := by decide +kernel
theorem d_Md_type_74 : decode b_Md_type 74 = .ok (.goto 28, 3) := by decide +kernel
theorem d_Md_type_77 : decode b_Md_type 77 = .ok (.iload_n 3, 1) := by decide +kernel
theorem d_Md_type_78 : decode b_Md_type 78 = .ok (.ifCond .lt 9, 3) := by decide +kernel
theorem d_Md_type_81 : decode b_Md_type 81 = .ok (.iload_n 3, 1) := by decide +kernel
theorem d_Md_type_82 : decode b_Md_type 82 = .ok (.iload 5, 2) := by decide +kernel
theorem d_Md_type_84 : decode b_Md_type 84 = .ok (.if_icmp .lt 7, 3) := by decide +kernel
theorem d_Md_type_87 : decode b_Md_type 87 = .ok (.iconst (-1), 1) := by decide +kernel
theorem d_Md_type_88 : decode b_Md_type 88 = .ok (.goto 14, 3) := by decide +kernel
theorem d_Md_type_91 : decode b_Md_type 91 = .ok (.aload_n 0, 1) := by decide +kernel
theorem d_Md_type_92 : decode b_Md_type 92 = .ok (.getfield 51, 3) := by decide +kernel
theorem d_Md_type_95 : decode b_Md_type 95 = .ok (.aload_n 0, 1) := by decide +kernel
theorem d_Md_type_96 : decode b_Md_type 96 = .ok (.getfield 290, 3) := by decide +kernel
theorem d_Md_type_99 : decode b_Md_type 99 = .ok (.iload_n 3, 1) := by decide +kernel
theorem d_Md_type_100 : decode b_Md_type 100 = .ok (.iadd, 1) := by decide +kernel
theorem d_Md_type_101 : decode b_Md_type 101 = .ok (.iaload, 1) := by decide +kernel
theorem d_Md_type_102 : decode b_Md_type 102 = .ok (.ireturn, 1) := by decide +kernel
abbrev b_Md_thingOf : ByteArray := prog_8_method_45_code
abbrev y_Md_thingOf : MethodName := ⟨"ModuleBytesModel", "thingOf", "(II)I"⟩
theorem d_Md_thingOf_0 : decode b_Md_thingOf 0 = .ok (.iload_n 2, 1) := by decide +kernel
theorem d_Md_thingOf_1 : decode b_Md_thingOf 1 = .ok (.istore_n 3, 1) := by decide +kernel
theorem d_Md_thingOf_2 : decode b_Md_thingOf 2 = .ok (.iconst 0, 1) := by decide +kernel
theorem d_Md_thingOf_3 : decode b_Md_thingOf 3 = .ok (.istore 4, 2) := by decide +kernel
theorem d_Md_thingOf_5 : decode b_Md_thingOf 5 = .ok (.iload 4, 2) := by decide +kernel
theorem d_Md_thingOf_7 : decode b_Md_thingOf 7 = .ok (.aload_n 0, 1) := by decide +kernel
theorem d_Md_thingOf_8 : decode b_Md_thingOf 8 = .ok (.getfield 272, 3) := by decide +kernel
theorem d_Md_thingOf_11 : decode b_Md_thingOf 11 = .ok (.if_icmp .ge 47, 3) := by decide +kernel
theorem d_Md_thingOf_14 : decode b_Md_thingOf 14 = .ok (.iload_n 2, 1) := by decide +kernel
theorem d_Md_thingOf_15 : decode b_Md_thingOf 15 = .ok (.ifCond .lt 43, 3) := by decide +kernel
theorem d_Md_thingOf_18 : decode b_Md_thingOf 18 = .ok (.aload_n 0, 1) := by decide +kernel
theorem d_Md_thingOf_19 : decode b_Md_thingOf 19 = .ok (.getfield 54, 3) := by decide +kernel
theorem d_Md_thingOf_22 : decode b_Md_thingOf 22 = .ok (.iload 4, 2) := by decide +kernel
theorem d_Md_thingOf_24 : decode b_Md_thingOf 24 = .ok (.iaload, 1) := by decide +kernel
theorem d_Md_thingOf_25 : decode b_Md_thingOf 25 = .ok (.iload_n 1, 1) := by decide +kernel
theorem d_Md_thingOf_26 : decode b_Md_thingOf 26 = .ok (.if_icmp .ne 7, 3) := by decide +kernel
theorem d_Md_thingOf_29 : decode b_Md_thingOf 29 = .ok (.iload_n 3, 1) := by decide +kernel
theorem d_Md_thingOf_30 : decode b_Md_thingOf 30 = .ok (.ifCond .le 28, 3) := by decide +kernel
theorem d_Md_thingOf_33 : decode b_Md_thingOf 33 = .ok (.iload_n 3, 1) := by decide +kernel
theorem d_Md_thingOf_34 : decode b_Md_thingOf 34 = .ok (.aload_n 0, 1) := by decide +kernel
theorem d_Md_thingOf_35 : decode b_Md_thingOf 35 = .ok (.getfield 54, 3) := by decide +kernel
theorem d_Md_thingOf_38 : decode b_Md_thingOf 38 = .ok (.iload 4, 2) := by decide +kernel
theorem d_Md_thingOf_40 : decode b_Md_thingOf 40 = .ok (.iaload, 1) := by decide +kernel
theorem d_Md_thingOf_41 : decode b_Md_thingOf 41 = .ok (.iload_n 1, 1) := by decide +kernel
theorem d_Md_thingOf_42 : decode b_Md_thingOf 42 = .ok (.if_icmp .ne 7, 3) := by decide +kernel
theorem d_Md_thingOf_45 : decode b_Md_thingOf 45 = .ok (.iconst 1, 1) := by decide +kernel
theorem d_Md_thingOf_46 : decode b_Md_thingOf 46 = .ok (.goto 4, 3) := by decide +kernel
theorem d_Md_thingOf_49 : decode b_Md_thingOf 49 = .ok (.iconst 0, 1) := by decide +kernel
theorem d_Md_thingOf_50 : decode b_Md_thingOf 50 = .ok (.isub, 1) := by decide +kernel
theorem d_Md_thingOf_51 : decode b_Md_thingOf 51 = .ok (.istore_n 3, 1) := by decide +kernel
theorem d_Md_thingOf_52 : decode b_Md_thingOf 52 = .ok (.iinc 4 1, 3) := by decide +kernel
theorem d_Md_thingOf_55 : decode b_Md_thingOf 55 = .ok (.goto (-50), 3) := by decide +kernel
theorem d_Md_thingOf_58 : decode b_Md_thingOf 58 = .ok (.iload 4, 2) := by decide +kernel
theorem d_Md_thingOf_60 : decode b_Md_thingOf 60 = .ok (.aload_n 0, 1) := by decide +kernel
theorem d_Md_thingOf_61 : decode b_Md_thingOf 61 = .ok (.getfield 272, 3) := by decide +kernel
theorem d_Md_thingOf_64 : decode b_Md_thingOf 64 = .ok (.if_icmp .ge 12, 3) := by decide +kernel
theorem d_Md_thingOf_67 : decode b_Md_thingOf 67 = .ok (.iload_n 2, 1) := by decide +kernel
theorem d_Md_thingOf_68 : decode b_Md_thingOf 68 = .ok (.ifCond .lt 8, 3) := by decide +kernel
theorem d_Md_thingOf_71 : decode b_Md_thingOf 71 = .ok (.iload 4, 2) := by decide +kernel
theorem d_Md_thingOf_73 : decode b_Md_thingOf 73 = .ok (.goto 4, 3) := by decide +kernel
theorem d_Md_thingOf_76 : decode b_Md_thingOf 76 = .ok (.iconst (-1), 1) := by decide +kernel
theorem d_Md_thingOf_77 : decode b_Md_thingOf 77 = .ok (.ireturn, 1) := by decide +kernel
abbrev b_Md_number : ByteArray := prog_8_method_46_code
abbrev y_Md_number : MethodName := ⟨"ModuleBytesModel", "number", "()J"⟩
theorem d_Md_number_0 : decode b_Md_number 0 = .ok (.lconst 0, 1) := by decide +kernel
theorem d_Md_number_1 : decode b_Md_number 1 = .ok (.lstore_n 1, 1) := by decide +kernel
theorem d_Md_number_2 : decode b_Md_number 2 = .ok (.iconst 0, 1) := by decide +kernel
theorem d_Md_number_3 : decode b_Md_number 3 = .ok (.istore_n 3, 1) := by decide +kernel
theorem d_Md_number_4 : decode b_Md_number 4 = .ok (.aload_n 0, 1) := by decide +kernel
theorem d_Md_number_5 : decode b_Md_number 5 = .ok (.getfield 51, 3) := by decide +kernel
theorem d_Md_number_8 : decode b_Md_number 8 = .ok (.aload_n 0, 1) := by decide +kernel
theorem d_Md_number_9 : decode b_Md_number 9 = .ok (.getfield 290, 3) := by decide +kernel
theorem d_Md_number_12 : decode b_Md_number 12 = .ok (.iaload, 1) := by decide +kernel
theorem d_Md_number_13 : decode b_Md_number 13 = .ok (.bipush 127, 2) := by decide +kernel
theorem d_Md_number_15 : decode b_Md_number 15 = .ok (.if_icmp .le 40, 3) := by decide +kernel
theorem d_Md_number_18 : decode b_Md_number 18 = .ok (.lload_n 1, 1) := by decide +kernel
theorem d_Md_number_19 : decode b_Md_number 19 = .ok (.aload_n 0, 1) := by decide +kernel
theorem d_Md_number_20 : decode b_Md_number 20 = .ok (.getfield 51, 3) := by decide +kernel
theorem d_Md_number_23 : decode b_Md_number 23 = .ok (.aload_n 0, 1) := by decide +kernel
theorem d_Md_number_24 : decode b_Md_number 24 = .ok (.getfield 290, 3) := by decide +kernel
theorem d_Md_number_27 : decode b_Md_number 27 = .ok (.iaload, 1) := by decide +kernel
theorem d_Md_number_28 : decode b_Md_number 28 = .ok (.bipush 127, 2) := by decide +kernel
theorem d_Md_number_30 : decode b_Md_number 30 = .ok (.iand, 1) := by decide +kernel
theorem d_Md_number_31 : decode b_Md_number 31 = .ok (.i2l, 1) := by decide +kernel
theorem d_Md_number_32 : decode b_Md_number 32 = .ok (.bipush 7, 2) := by decide +kernel
theorem d_Md_number_34 : decode b_Md_number 34 = .ok (.iload_n 3, 1) := by decide +kernel
theorem d_Md_number_35 : decode b_Md_number 35 = .ok (.imul, 1) := by decide +kernel
theorem d_Md_number_36 : decode b_Md_number 36 = .ok (.lshl, 1) := by decide +kernel
theorem d_Md_number_37 : decode b_Md_number 37 = .ok (.lor, 1) := by decide +kernel
theorem d_Md_number_38 : decode b_Md_number 38 = .ok (.lstore_n 1, 1) := by decide +kernel
theorem d_Md_number_39 : decode b_Md_number 39 = .ok (.aload_n 0, 1) := by decide +kernel
theorem d_Md_number_40 : decode b_Md_number 40 = .ok (.dup, 1) := by decide +kernel
theorem d_Md_number_41 : decode b_Md_number 41 = .ok (.getfield 290, 3) := by decide +kernel
theorem d_Md_number_44 : decode b_Md_number 44 = .ok (.iconst 1, 1) := by decide +kernel
theorem d_Md_number_45 : decode b_Md_number 45 = .ok (.iadd, 1) := by decide +kernel
theorem d_Md_number_46 : decode b_Md_number 46 = .ok (.putfield 290, 3) := by decide +kernel
theorem d_Md_number_49 : decode b_Md_number 49 = .ok (.iinc 3 1, 3) := by decide +kernel
theorem d_Md_number_52 : decode b_Md_number 52 = .ok (.goto (-48), 3) := by decide +kernel
theorem d_Md_number_55 : decode b_Md_number 55 = .ok (.lload_n 1, 1) := by decide +kernel
theorem d_Md_number_56 : decode b_Md_number 56 = .ok (.aload_n 0, 1) := by decide +kernel
theorem d_Md_number_57 : decode b_Md_number 57 = .ok (.getfield 51, 3) := by decide +kernel
theorem d_Md_number_60 : decode b_Md_number 60 = .ok (.aload_n 0, 1) := by decide +kernel
theorem d_Md_number_61 : decode b_Md_number 61 = .ok (.getfield 290, 3) := by decide +kernel
theorem d_Md_number_64 : decode b_Md_number 64 = .ok (.iaload, 1) := by decide +kernel
theorem d_Md_number_65 : decode b_Md_number 65 = .ok (.i2l, 1) := by decide +kernel
theorem d_Md_number_66 : decode b_Md_number 66 = .ok (.bipush 7, 2) := by decide +kernel
theorem d_Md_number_68 : decode b_Md_number 68 = .ok (.iload_n 3, 1) := by decide +kernel
theorem d_Md_number_69 : decode b_Md_number 69 = .ok (.imul, 1) := by decide +kernel
theorem d_Md_number_70 : decode b_Md_number 70 = .ok (.lshl, 1) := by decide +kernel
theorem d_Md_number_71 : decode b_Md_number 71 = .ok (.lor, 1) := by decide +kernel
theorem d_Md_number_72 : decode b_Md_number 72 = .ok (.lstore_n 1, 1) := by decide +kernel
theorem d_Md_number_73 : decode b_Md_number 73 = .ok (.aload_n 0, 1) := by decide +kernel
theorem d_Md_number_74 : decode b_Md_number 74 = .ok (.dup, 1) := by decide +kernel
theorem d_Md_number_75 : decode b_Md_number 75 = .ok (.getfield 290, 3) := by decide +kernel
theorem d_Md_number_78 : decode b_Md_number 78 = .ok (.iconst 1, 1) := by decide +kernel
theorem d_Md_number_79 : decode b_Md_number 79 = .ok (.iadd, 1) := by decide +kernel
theorem d_Md_number_80 : decode b_Md_number 80 = .ok (.putfield 290, 3) := by decide +kernel
theorem d_Md_number_83 : decode b_Md_number 83 = .ok (.lload_n 1, 1) := by decide +kernel
theorem d_Md_number_84 : decode b_Md_number 84 = .ok (.lreturn, 1) := by decide +kernel
abbrev b_Md_look : ByteArray := prog_8_method_57_code
abbrev y_Md_look : MethodName := ⟨"ModuleBytesModel", "look", "(III)J"⟩
theorem d_Md_look_0 : decode b_Md_look 0 = .ok (.iload_n 1, 1) := by decide +kernel
theorem d_Md_look_1 : decode b_Md_look 1 = .ok (.iconst 1, 1) := by decide +kernel
theorem d_Md_look_2 : decode b_Md_look 2 = .ok (.if_icmp .lt 9, 3) := by decide +kernel
theorem d_Md_look_5 : decode b_Md_look 5 = .ok (.iload_n 1, 1) := by decide +kernel
theorem d_Md_look_6 : decode b_Md_look 6 = .ok (.bipush 10, 2) := by decide +kernel
theorem d_Md_look_8 : decode b_Md_look 8 = .ok (.if_icmp .le 7, 3) := by decide +kernel
theorem d_Md_look_11 : decode b_Md_look 11 = .ok (.iconst (-1), 1) := by decide +kernel
theorem d_Md_look_12 : decode b_Md_look 12 = .ok (.goto 9, 3) := by decide +kernel
theorem d_Md_look_15 : decode b_Md_look 15 = .ok (.aload_n 0, 1) := by decide +kernel
theorem d_Md_look_16 : decode b_Md_look 16 = .ok (.iload_n 1, 1) := by decide +kernel
theorem d_Md_look_17 : decode b_Md_look 17 = .ok (.iload_n 2, 1) := by decide +kernel
theorem d_Md_look_18 : decode b_Md_look 18 = .ok (.invokevirtual 299, 3) := by decide +kernel
theorem d_Md_look_21 : decode b_Md_look 21 = .ok (.istore 4, 2) := by decide +kernel
theorem d_Md_look_23 : decode b_Md_look 23 = .ok (.iload 4, 2) := by decide +kernel
theorem d_Md_look_25 : decode b_Md_look 25 = .ok (.ifCond .lt 7, 3) := by decide +kernel
theorem d_Md_look_28 : decode b_Md_look 28 = .ok (.iload_n 3, 1) := by decide +kernel
theorem d_Md_look_29 : decode b_Md_look 29 = .ok (.ifCond .ge 7, 3) := by decide +kernel
theorem d_Md_look_32 : decode b_Md_look 32 = .ok (.ldc2_w 251, 3) := by decide +kernel
theorem d_Md_look_35 : decode b_Md_look 35 = .ok (.lreturn, 1) := by decide +kernel
theorem d_Md_look_36 : decode b_Md_look 36 = .ok (.aload_n 0, 1) := by decide +kernel
theorem d_Md_look_37 : decode b_Md_look 37 = .ok (.aload_n 0, 1) := by decide +kernel
theorem d_Md_look_38 : decode b_Md_look 38 = .ok (.getfield 57, 3) := by decide +kernel
theorem d_Md_look_41 : decode b_Md_look 41 = .ok (.iload 4, 2) := by decide +kernel
theorem d_Md_look_43 : decode b_Md_look 43 = .ok (.iaload, 1) := by decide +kernel
theorem d_Md_look_44 : decode b_Md_look 44 = .ok (.putfield 290, 3) := by decide +kernel
theorem d_Md_look_47 : decode b_Md_look 47 = .ok (.iload_n 1, 1) := by decide +kernel
theorem d_Md_look_48 : decode b_Md_look 48 = .ok (.tableswitch 302 1 9 #[52, 60, 75, 138, 178, 241, 278, 286, 294], 52) := by decide +kernel
theorem d_Md_look_100 : decode b_Md_look 100 = .ok (.aload_n 0, 1) := by decide +kernel
theorem d_Md_look_101 : decode b_Md_look 101 = .ok (.iload 4, 2) := by decide +kernel
theorem d_Md_look_103 : decode b_Md_look 103 = .ok (.iload_n 3, 1) := by decide +kernel
theorem d_Md_look_104 : decode b_Md_look 104 = .ok (.invokevirtual 314, 3) := by decide +kernel
theorem d_Md_look_107 : decode b_Md_look 107 = .ok (.lreturn, 1) := by decide +kernel
theorem d_Md_look_108 : decode b_Md_look 108 = .ok (.iload_n 3, 1) := by decide +kernel
theorem d_Md_look_109 : decode b_Md_look 109 = .ok (.ifCond .ne 10, 3) := by decide +kernel
theorem d_Md_look_112 : decode b_Md_look 112 = .ok (.aload_n 0, 1) := by decide +kernel
theorem d_Md_look_113 : decode b_Md_look 113 = .ok (.invokevirtual 293, 3) := by decide +kernel
theorem d_Md_look_116 : decode b_Md_look 116 = .ok (.goto 6, 3) := by decide +kernel
theorem d_Md_look_119 : decode b_Md_look 119 = .ok (.ldc2_w 251, 3) := by decide +kernel
theorem d_Md_look_122 : decode b_Md_look 122 = .ok (.lreturn, 1) := by decide +kernel
theorem d_Md_look_123 : decode b_Md_look 123 = .ok (.aload_n 0, 1) := by decide +kernel
theorem d_Md_look_124 : decode b_Md_look 124 = .ok (.getfield 51, 3) := by decide +kernel
theorem d_Md_look_127 : decode b_Md_look 127 = .ok (.aload_n 0, 1) := by decide +kernel
theorem d_Md_look_128 : decode b_Md_look 128 = .ok (.getfield 290, 3) := by decide +kernel
theorem d_Md_look_131 : decode b_Md_look 131 = .ok (.iaload, 1) := by decide +kernel
theorem d_Md_look_132 : decode b_Md_look 132 = .ok (.istore 5, 2) := by decide +kernel
theorem d_Md_look_134 : decode b_Md_look 134 = .ok (.aload_n 0, 1) := by decide +kernel
theorem d_Md_look_135 : decode b_Md_look 135 = .ok (.dup, 1) := by decide +kernel
theorem d_Md_look_136 : decode b_Md_look 136 = .ok (.getfield 290, 3) := by decide +kernel
theorem d_Md_look_139 : decode b_Md_look 139 = .ok (.iconst 1, 1) := by decide +kernel
theorem d_Md_look_140 : decode b_Md_look 140 = .ok (.iadd, 1) := by decide +kernel
theorem d_Md_look_141 : decode b_Md_look 141 = .ok (.putfield 290, 3) := by decide +kernel
theorem d_Md_look_144 : decode b_Md_look 144 = .ok (.iload_n 3, 1) := by decide +kernel
theorem d_Md_look_145 : decode b_Md_look 145 = .ok (.iconst 1, 1) := by decide +kernel
theorem d_Md_look_146 : decode b_Md_look 146 = .ok (.if_icmp .ne 9, 3) := by decide +kernel
theorem d_Md_look_149 : decode b_Md_look 149 = .ok (.iload 5, 2) := by decide +kernel
theorem d_Md_look_151 : decode b_Md_look 151 = .ok (.i2l, 1) := by decide +kernel
theorem d_Md_look_152 : decode b_Md_look 152 = .ok (.goto 33, 3) := by decide +kernel
theorem d_Md_look_155 : decode b_Md_look 155 = .ok (.iload_n 3, 1) := by decide +kernel
theorem d_Md_look_156 : decode b_Md_look 156 = .ok (.iconst 2, 1) := by decide +kernel
theorem d_Md_look_157 : decode b_Md_look 157 = .ok (.if_icmp .eq 8, 3) := by decide +kernel
theorem d_Md_look_160 : decode b_Md_look 160 = .ok (.iload_n 3, 1) := by decide +kernel
theorem d_Md_look_161 : decode b_Md_look 161 = .ok (.iconst 3, 1) := by decide +kernel
theorem d_Md_look_162 : decode b_Md_look 162 = .ok (.if_icmp .ne 20, 3) := by decide +kernel
theorem d_Md_look_165 : decode b_Md_look 165 = .ok (.aload_n 0, 1) := by decide +kernel
theorem d_Md_look_166 : decode b_Md_look 166 = .ok (.iload_n 3, 1) := by decide +kernel
theorem d_Md_look_167 : decode b_Md_look 167 = .ok (.iconst 3, 1) := by decide +kernel
theorem d_Md_look_168 : decode b_Md_look 168 = .ok (.if_icmp .ne 7, 3) := by decide +kernel
theorem d_Md_look_171 : decode b_Md_look 171 = .ok (.iconst 1, 1) := by decide +kernel
theorem d_Md_look_172 : decode b_Md_look 172 = .ok (.goto 4, 3) := by decide +kernel
theorem d_Md_look_175 : decode b_Md_look 175 = .ok (.iconst 0, 1) := by decide +kernel
theorem d_Md_look_176 : decode b_Md_look 176 = .ok (.invokevirtual 305, 3) := by decide +kernel
theorem d_Md_look_179 : decode b_Md_look 179 = .ok (.goto 6, 3) := by decide +kernel
theorem d_Md_look_182 : decode b_Md_look 182 = .ok (.ldc2_w 251, 3) := by decide +kernel
theorem d_Md_look_185 : decode b_Md_look 185 = .ok (.lreturn, 1) := by decide +kernel
theorem d_Md_look_186 : decode b_Md_look 186 = .ok (.iload_n 3, 1) := by decide +kernel
theorem d_Md_look_187 : decode b_Md_look 187 = .ok (.iconst 1, 1) := by decide +kernel
theorem d_Md_look_188 : decode b_Md_look 188 = .ok (.if_icmp .ne 7, 3) := by decide +kernel
theorem d_Md_look_191 : decode b_Md_look 191 = .ok (.lconst 0, 1) := by decide +kernel
theorem d_Md_look_192 : decode b_Md_look 192 = .ok (.goto 33, 3) := by decide +kernel
theorem d_Md_look_195 : decode b_Md_look 195 = .ok (.iload_n 3, 1) := by decide +kernel
theorem d_Md_look_196 : decode b_Md_look 196 = .ok (.iconst 2, 1) := by decide +kernel
theorem d_Md_look_197 : decode b_Md_look 197 = .ok (.if_icmp .eq 8, 3) := by decide +kernel
theorem d_Md_look_200 : decode b_Md_look 200 = .ok (.iload_n 3, 1) := by decide +kernel
theorem d_Md_look_201 : decode b_Md_look 201 = .ok (.iconst 3, 1) := by decide +kernel
theorem d_Md_look_202 : decode b_Md_look 202 = .ok (.if_icmp .ne 20, 3) := by decide +kernel
theorem d_Md_look_205 : decode b_Md_look 205 = .ok (.aload_n 0, 1) := by decide +kernel
theorem d_Md_look_206 : decode b_Md_look 206 = .ok (.iload_n 3, 1) := by decide +kernel
theorem d_Md_look_207 : decode b_Md_look 207 = .ok (.iconst 3, 1) := by decide +kernel
theorem d_Md_look_208 : decode b_Md_look 208 = .ok (.if_icmp .ne 7, 3) := by decide +kernel
theorem d_Md_look_211 : decode b_Md_look 211 = .ok (.iconst 1, 1) := by decide +kernel
theorem d_Md_look_212 : decode b_Md_look 212 = .ok (.goto 4, 3) := by decide +kernel
theorem d_Md_look_215 : decode b_Md_look 215 = .ok (.iconst 0, 1) := by decide +kernel
theorem d_Md_look_216 : decode b_Md_look 216 = .ok (.invokevirtual 305, 3) := by decide +kernel
theorem d_Md_look_219 : decode b_Md_look 219 = .ok (.goto 6, 3) := by decide +kernel
theorem d_Md_look_222 : decode b_Md_look 222 = .ok (.ldc2_w 251, 3) := by decide +kernel
theorem d_Md_look_225 : decode b_Md_look 225 = .ok (.lreturn, 1) := by decide +kernel
theorem d_Md_look_226 : decode b_Md_look 226 = .ok (.iload_n 3, 1) := by decide +kernel
theorem d_Md_look_227 : decode b_Md_look 227 = .ok (.iconst 1, 1) := by decide +kernel
theorem d_Md_look_228 : decode b_Md_look 228 = .ok (.if_icmp .ne 16, 3) := by decide +kernel
theorem d_Md_look_231 : decode b_Md_look 231 = .ok (.aload_n 0, 1) := by decide +kernel
theorem d_Md_look_232 : decode b_Md_look 232 = .ok (.getfield 51, 3) := by decide +kernel
theorem d_Md_look_235 : decode b_Md_look 235 = .ok (.aload_n 0, 1) := by decide +kernel
theorem d_Md_look_236 : decode b_Md_look 236 = .ok (.getfield 290, 3) := by decide +kernel
theorem d_Md_look_239 : decode b_Md_look 239 = .ok (.iaload, 1) := by decide +kernel
theorem d_Md_look_240 : decode b_Md_look 240 = .ok (.i2l, 1) := by decide +kernel
theorem d_Md_look_241 : decode b_Md_look 241 = .ok (.goto 47, 3) := by decide +kernel
theorem d_Md_look_244 : decode b_Md_look 244 = .ok (.iload_n 3, 1) := by decide +kernel
theorem d_Md_look_245 : decode b_Md_look 245 = .ok (.iconst 2, 1) := by decide +kernel
theorem d_Md_look_246 : decode b_Md_look 246 = .ok (.if_icmp .ne 18, 3) := by decide +kernel
theorem d_Md_look_249 : decode b_Md_look 249 = .ok (.aload_n 0, 1) := by decide +kernel
theorem d_Md_look_250 : decode b_Md_look 250 = .ok (.getfield 51, 3) := by decide +kernel
theorem d_Md_look_253 : decode b_Md_look 253 = .ok (.aload_n 0, 1) := by decide +kernel
theorem d_Md_look_254 : decode b_Md_look 254 = .ok (.getfield 290, 3) := by decide +kernel
theorem d_Md_look_257 : decode b_Md_look 257 = .ok (.iconst 1, 1) := by decide +kernel
theorem d_Md_look_258 : decode b_Md_look 258 = .ok (.iadd, 1) := by decide +kernel
theorem d_Md_look_259 : decode b_Md_look 259 = .ok (.iaload, 1) := by decide +kernel
theorem d_Md_look_260 : decode b_Md_look 260 = .ok (.i2l, 1) := by decide +kernel
theorem d_Md_look_261 : decode b_Md_look 261 = .ok (.goto 27, 3) := by decide +kernel
theorem d_Md_look_264 : decode b_Md_look 264 = .ok (.iload_n 3, 1) := by decide +kernel
theorem d_Md_look_265 : decode b_Md_look 265 = .ok (.iconst 4, 1) := by decide +kernel
theorem d_Md_look_266 : decode b_Md_look 266 = .ok (.if_icmp .eq 8, 3) := by decide +kernel
theorem d_Md_look_269 : decode b_Md_look 269 = .ok (.iload_n 3, 1) := by decide +kernel
theorem d_Md_look_270 : decode b_Md_look 270 = .ok (.iconst 5, 1) := by decide +kernel
theorem d_Md_look_271 : decode b_Md_look 271 = .ok (.if_icmp .ne 14, 3) := by decide +kernel
theorem d_Md_look_274 : decode b_Md_look 274 = .ok (.aload_n 0, 1) := by decide +kernel
theorem d_Md_look_275 : decode b_Md_look 275 = .ok (.iload 4, 2) := by decide +kernel
theorem d_Md_look_277 : decode b_Md_look 277 = .ok (.iload_n 3, 1) := by decide +kernel
theorem d_Md_look_278 : decode b_Md_look 278 = .ok (.invokevirtual 309, 3) := by decide +kernel
theorem d_Md_look_281 : decode b_Md_look 281 = .ok (.i2l, 1) := by decide +kernel
theorem d_Md_look_282 : decode b_Md_look 282 = .ok (.goto 6, 3) := by decide +kernel
theorem d_Md_look_285 : decode b_Md_look 285 = .ok (.ldc2_w 251, 3) := by decide +kernel
theorem d_Md_look_288 : decode b_Md_look 288 = .ok (.lreturn, 1) := by decide +kernel
theorem d_Md_look_289 : decode b_Md_look 289 = .ok (.aload_n 0, 1) := by decide +kernel
theorem d_Md_look_290 : decode b_Md_look 290 = .ok (.invokevirtual 302, 3) := by decide +kernel
theorem d_Md_look_293 : decode b_Md_look 293 = .ok (.iload_n 3, 1) := by decide +kernel
theorem d_Md_look_294 : decode b_Md_look 294 = .ok (.ifCond .ne 16, 3) := by decide +kernel
theorem d_Md_look_297 : decode b_Md_look 297 = .ok (.aload_n 0, 1) := by decide +kernel
theorem d_Md_look_298 : decode b_Md_look 298 = .ok (.getfield 51, 3) := by decide +kernel
theorem d_Md_look_301 : decode b_Md_look 301 = .ok (.aload_n 0, 1) := by decide +kernel
theorem d_Md_look_302 : decode b_Md_look 302 = .ok (.getfield 290, 3) := by decide +kernel
theorem d_Md_look_305 : decode b_Md_look 305 = .ok (.iaload, 1) := by decide +kernel
theorem d_Md_look_306 : decode b_Md_look 306 = .ok (.i2l, 1) := by decide +kernel
theorem d_Md_look_307 : decode b_Md_look 307 = .ok (.goto 18, 3) := by decide +kernel
theorem d_Md_look_310 : decode b_Md_look 310 = .ok (.iload_n 3, 1) := by decide +kernel
theorem d_Md_look_311 : decode b_Md_look 311 = .ok (.iconst 1, 1) := by decide +kernel
theorem d_Md_look_312 : decode b_Md_look 312 = .ok (.if_icmp .ne 10, 3) := by decide +kernel
theorem d_Md_look_315 : decode b_Md_look 315 = .ok (.aload_n 0, 1) := by decide +kernel
theorem d_Md_look_316 : decode b_Md_look 316 = .ok (.invokevirtual 318, 3) := by decide +kernel
theorem d_Md_look_319 : decode b_Md_look 319 = .ok (.goto 6, 3) := by decide +kernel
theorem d_Md_look_322 : decode b_Md_look 322 = .ok (.ldc2_w 251, 3) := by decide +kernel
theorem d_Md_look_325 : decode b_Md_look 325 = .ok (.lreturn, 1) := by decide +kernel
theorem d_Md_look_326 : decode b_Md_look 326 = .ok (.aload_n 0, 1) := by decide +kernel
theorem d_Md_look_327 : decode b_Md_look 327 = .ok (.iload 4, 2) := by decide +kernel
theorem d_Md_look_329 : decode b_Md_look 329 = .ok (.iload_n 3, 1) := by decide +kernel
theorem d_Md_look_330 : decode b_Md_look 330 = .ok (.invokevirtual 321, 3) := by decide +kernel
theorem d_Md_look_333 : decode b_Md_look 333 = .ok (.lreturn, 1) := by decide +kernel
theorem d_Md_look_334 : decode b_Md_look 334 = .ok (.aload_n 0, 1) := by decide +kernel
theorem d_Md_look_335 : decode b_Md_look 335 = .ok (.iload 4, 2) := by decide +kernel
theorem d_Md_look_337 : decode b_Md_look 337 = .ok (.iload_n 3, 1) := by decide +kernel
theorem d_Md_look_338 : decode b_Md_look 338 = .ok (.invokevirtual 324, 3) := by decide +kernel
theorem d_Md_look_341 : decode b_Md_look 341 = .ok (.lreturn, 1) := by decide +kernel
theorem d_Md_look_342 : decode b_Md_look 342 = .ok (.aload_n 0, 1) := by decide +kernel
theorem d_Md_look_343 : decode b_Md_look 343 = .ok (.iload 4, 2) := by decide +kernel
theorem d_Md_look_345 : decode b_Md_look 345 = .ok (.iload_n 3, 1) := by decide +kernel
theorem d_Md_look_346 : decode b_Md_look 346 = .ok (.invokevirtual 327, 3) := by decide +kernel
theorem d_Md_look_349 : decode b_Md_look 349 = .ok (.lreturn, 1) := by decide +kernel
theorem d_Md_look_350 : decode b_Md_look 350 = .ok (.aload_n 0, 1) := by decide +kernel
theorem d_Md_look_351 : decode b_Md_look 351 = .ok (.iload 4, 2) := by decide +kernel
theorem d_Md_look_353 : decode b_Md_look 353 = .ok (.iload_n 3, 1) := by decide +kernel
theorem d_Md_look_354 : decode b_Md_look 354 = .ok (.invokevirtual 330, 3) := by decide +kernel
theorem d_Md_look_357 : decode b_Md_look 357 = .ok (.lreturn, 1) := by decide +kernel
