abbrev b_Md_init : ByteArray := prog_8_method_1_code
abbrev y_Md_init : MethodName := ⟨"ModuleBytesModel", "<init>", "()V"⟩
theorem d_Md_init_0 : decode b_Md_init 0 = .ok (.aload_n 0, 1) := by decide +kernel
theorem d_Md_init_1 : decode b_Md_init 1 = .ok (.invokespecial 1, 3) := by decide +kernel
theorem d_Md_init_4 : decode b_Md_init 4 = .ok (.aload_n 0, 1) := by decide +kernel
theorem d_Md_init_5 : decode b_Md_init 5 = .ok (.sipush 2000, 3) := by decide +kernel
theorem d_Md_init_8 : decode b_Md_init 8 = .ok (.newarray .int, 2) := by decide +kernel
theorem d_Md_init_10 : decode b_Md_init 10 = .ok (.putfield 7, 3) := by decide +kernel
theorem d_Md_init_13 : decode b_Md_init 13 = .ok (.aload_n 0, 1) := by decide +kernel
theorem d_Md_init_14 : decode b_Md_init 14 = .ok (.iconst (-1), 1) := by decide +kernel
theorem d_Md_init_15 : decode b_Md_init 15 = .ok (.putfield 13, 3) := by decide +kernel
theorem d_Md_init_18 : decode b_Md_init 18 = .ok (.aload_n 0, 1) := by decide +kernel
theorem d_Md_init_19 : decode b_Md_init 19 = .ok (.sipush 400, 3) := by decide +kernel
theorem d_Md_init_22 : decode b_Md_init 22 = .ok (.newarray .int, 2) := by decide +kernel
theorem d_Md_init_24 : decode b_Md_init 24 = .ok (.putfield 17, 3) := by decide +kernel
theorem d_Md_init_27 : decode b_Md_init 27 = .ok (.aload_n 0, 1) := by decide +kernel
theorem d_Md_init_28 : decode b_Md_init 28 = .ok (.sipush 400, 3) := by decide +kernel
theorem d_Md_init_31 : decode b_Md_init 31 = .ok (.newarray .long, 2) := by decide +kernel
theorem d_Md_init_33 : decode b_Md_init 33 = .ok (.putfield 20, 3) := by decide +kernel
theorem d_Md_init_36 : decode b_Md_init 36 = .ok (.aload_n 0, 1) := by decide +kernel
theorem d_Md_init_37 : decode b_Md_init 37 = .ok (.iconst 4, 1) := by decide +kernel
theorem d_Md_init_38 : decode b_Md_init 38 = .ok (.newarray .int, 2) := by decide +kernel
theorem d_Md_init_40 : decode b_Md_init 40 = .ok (.putfield 24, 3) := by decide +kernel
theorem d_Md_init_43 : decode b_Md_init 43 = .ok (.aload_n 0, 1) := by decide +kernel
theorem d_Md_init_44 : decode b_Md_init 44 = .ok (.sipush 2001, 3) := by decide +kernel
theorem d_Md_init_47 : decode b_Md_init 47 = .ok (.newarray .int, 2) := by decide +kernel
theorem d_Md_init_49 : decode b_Md_init 49 = .ok (.putfield 27, 3) := by decide +kernel
theorem d_Md_init_52 : decode b_Md_init 52 = .ok (.aload_n 0, 1) := by decide +kernel
theorem d_Md_init_53 : decode b_Md_init 53 = .ok (.sipush 2000, 3) := by decide +kernel
theorem d_Md_init_56 : decode b_Md_init 56 = .ok (.newarray .int, 2) := by decide +kernel
theorem d_Md_init_58 : decode b_Md_init 58 = .ok (.putfield 30, 3) := by decide +kernel
theorem d_Md_init_61 : decode b_Md_init 61 = .ok (.aload_n 0, 1) := by decide +kernel
theorem d_Md_init_62 : decode b_Md_init 62 = .ok (.sipush 2000, 3) := by decide +kernel
theorem d_Md_init_65 : decode b_Md_init 65 = .ok (.newarray .int, 2) := by decide +kernel
theorem d_Md_init_67 : decode b_Md_init 67 = .ok (.putfield 33, 3) := by decide +kernel
theorem d_Md_init_70 : decode b_Md_init 70 = .ok (.aload_n 0, 1) := by decide +kernel
theorem d_Md_init_71 : decode b_Md_init 71 = .ok (.sipush 2000, 3) := by decide +kernel
theorem d_Md_init_74 : decode b_Md_init 74 = .ok (.newarray .int, 2) := by decide +kernel
theorem d_Md_init_76 : decode b_Md_init 76 = .ok (.putfield 36, 3) := by decide +kernel
theorem d_Md_init_79 : decode b_Md_init 79 = .ok (.aload_n 0, 1) := by decide +kernel
theorem d_Md_init_80 : decode b_Md_init 80 = .ok (.sipush 2000, 3) := by decide +kernel
theorem d_Md_init_83 : decode b_Md_init 83 = .ok (.newarray .int, 2) := by decide +kernel
theorem d_Md_init_85 : decode b_Md_init 85 = .ok (.putfield 39, 3) := by decide +kernel
theorem d_Md_init_88 : decode b_Md_init 88 = .ok (.aload_n 0, 1) := by decide +kernel
theorem d_Md_init_89 : decode b_Md_init 89 = .ok (.sipush 2000, 3) := by decide +kernel
theorem d_Md_init_92 : decode b_Md_init 92 = .ok (.newarray .int, 2) := by decide +kernel
theorem d_Md_init_94 : decode b_Md_init 94 = .ok (.putfield 42, 3) := by decide +kernel
theorem d_Md_init_97 : decode b_Md_init 97 = .ok (.aload_n 0, 1) := by decide +kernel
theorem d_Md_init_98 : decode b_Md_init 98 = .ok (.sipush 2000, 3) := by decide +kernel
theorem d_Md_init_101 : decode b_Md_init 101 = .ok (.newarray .int, 2) := by decide +kernel
theorem d_Md_init_103 : decode b_Md_init 103 = .ok (.putfield 45, 3) := by decide +kernel
theorem d_Md_init_106 : decode b_Md_init 106 = .ok (.aload_n 0, 1) := by decide +kernel
theorem d_Md_init_107 : decode b_Md_init 107 = .ok (.sipush 2000, 3) := by decide +kernel
theorem d_Md_init_110 : decode b_Md_init 110 = .ok (.newarray .int, 2) := by decide +kernel
theorem d_Md_init_112 : decode b_Md_init 112 = .ok (.putfield 48, 3) := by decide +kernel
theorem d_Md_init_115 : decode b_Md_init 115 = .ok (.aload_n 0, 1) := by decide +kernel
theorem d_Md_init_116 : decode b_Md_init 116 = .ok (.sipush 2000, 3) := by decide +kernel
theorem d_Md_init_119 : decode b_Md_init 119 = .ok (.newarray .int, 2) := by decide +kernel
theorem d_Md_init_121 : decode b_Md_init 121 = .ok (.putfield 51, 3) := by decide +kernel
theorem d_Md_init_124 : decode b_Md_init 124 = .ok (.aload_n 0, 1) := by decide +kernel
theorem d_Md_init_125 : decode b_Md_init 125 = .ok (.sipush 2000, 3) := by decide +kernel
theorem d_Md_init_128 : decode b_Md_init 128 = .ok (.newarray .int, 2) := by decide +kernel
theorem d_Md_init_130 : decode b_Md_init 130 = .ok (.putfield 54, 3) := by decide +kernel
theorem d_Md_init_133 : decode b_Md_init 133 = .ok (.aload_n 0, 1) := by decide +kernel
theorem d_Md_init_134 : decode b_Md_init 134 = .ok (.sipush 2000, 3) := by decide +kernel
theorem d_Md_init_137 : decode b_Md_init 137 = .ok (.newarray .int, 2) := by decide +kernel
theorem d_Md_init_139 : decode b_Md_init 139 = .ok (.putfield 57, 3) := by decide +kernel
theorem d_Md_init_142 : decode b_Md_init 142 = .ok (.aload_n 0, 1) := by decide +kernel
theorem d_Md_init_143 : decode b_Md_init 143 = .ok (.sipush 2000, 3) := by decide +kernel
theorem d_Md_init_146 : decode b_Md_init 146 = .ok (.newarray .int, 2) := by decide +kernel
theorem d_Md_init_148 : decode b_Md_init 148 = .ok (.putfield 60, 3) := by decide +kernel
theorem d_Md_init_151 : decode b_Md_init 151 = .ok (.aload_n 0, 1) := by decide +kernel
theorem d_Md_init_152 : decode b_Md_init 152 = .ok (.sipush 2000, 3) := by decide +kernel
theorem d_Md_init_155 : decode b_Md_init 155 = .ok (.newarray .int, 2) := by decide +kernel
theorem d_Md_init_157 : decode b_Md_init 157 = .ok (.putfield 63, 3) := by decide +kernel
theorem d_Md_init_160 : decode b_Md_init 160 = .ok (.aload_n 0, 1) := by decide +kernel
theorem d_Md_init_161 : decode b_Md_init 161 = .ok (.sipush 2000, 3) := by decide +kernel
theorem d_Md_init_164 : decode b_Md_init 164 = .ok (.newarray .int, 2) := by decide +kernel
theorem d_Md_init_166 : decode b_Md_init 166 = .ok (.putfield 66, 3) := by decide +kernel
theorem d_Md_init_169 : decode b_Md_init 169 = .ok (.aload_n 0, 1) := by decide +kernel
theorem d_Md_init_170 : decode b_Md_init 170 = .ok (.sipush 2000, 3) := by decide +kernel
theorem d_Md_init_173 : decode b_Md_init 173 = .ok (.newarray .int, 2) := by decide +kernel
theorem d_Md_init_175 : decode b_Md_init 175 = .ok (.putfield 69, 3) := by decide +kernel
theorem d_Md_init_178 : decode b_Md_init 178 = .ok (.aload_n 0, 1) := by decide +kernel
theorem d_Md_init_179 : decode b_Md_init 179 = .ok (.sipush 2000, 3) := by decide +kernel
theorem d_Md_init_182 : decode b_Md_init 182 = .ok (.newarray .int, 2) := by decide +kernel
theorem d_Md_init_184 : decode b_Md_init 184 = .ok (.putfield 72, 3) := by decide +kernel
theorem d_Md_init_187 : decode b_Md_init 187 = .ok (.return_, 1) := by decide +kernel
abbrev b_Md_feed : ByteArray := prog_8_method_3_code
abbrev y_Md_feed : MethodName := ⟨"ModuleBytesModel", "feed", "(IIIII)I"⟩
theorem d_Md_feed_0 : decode b_Md_feed 0 = .ok (.aload_n 0, 1) := by decide +kernel
theorem d_Md_feed_1 : decode b_Md_feed 1 = .ok (.getfield 75, 3) := by decide +kernel
theorem d_Md_feed_4 : decode b_Md_feed 4 = .ok (.bipush 20, 2) := by decide +kernel
theorem d_Md_feed_6 : decode b_Md_feed 6 = .ok (.iadd, 1) := by decide +kernel
theorem d_Md_feed_7 : decode b_Md_feed 7 = .ok (.sipush 2000, 3) := by decide +kernel
theorem d_Md_feed_10 : decode b_Md_feed 10 = .ok (.if_icmp .le 5, 3) := by decide +kernel
theorem d_Md_feed_13 : decode b_Md_feed 13 = .ok (.iconst (-1), 1) := by decide +kernel
theorem d_Md_feed_14 : decode b_Md_feed 14 = .ok (.ireturn, 1) := by decide +kernel
theorem d_Md_feed_15 : decode b_Md_feed 15 = .ok (.aload_n 0, 1) := by decide +kernel
theorem d_Md_feed_16 : decode b_Md_feed 16 = .ok (.iload_n 1, 1) := by decide +kernel
theorem d_Md_feed_17 : decode b_Md_feed 17 = .ok (.invokevirtual 78, 3) := by decide +kernel
theorem d_Md_feed_20 : decode b_Md_feed 20 = .ok (.aload_n 0, 1) := by decide +kernel
theorem d_Md_feed_21 : decode b_Md_feed 21 = .ok (.iload_n 2, 1) := by decide +kernel
theorem d_Md_feed_22 : decode b_Md_feed 22 = .ok (.invokevirtual 78, 3) := by decide +kernel
theorem d_Md_feed_25 : decode b_Md_feed 25 = .ok (.aload_n 0, 1) := by decide +kernel
theorem d_Md_feed_26 : decode b_Md_feed 26 = .ok (.iload_n 3, 1) := by decide +kernel
theorem d_Md_feed_27 : decode b_Md_feed 27 = .ok (.invokevirtual 78, 3) := by decide +kernel
theorem d_Md_feed_30 : decode b_Md_feed 30 = .ok (.aload_n 0, 1) := by decide +kernel
theorem d_Md_feed_31 : decode b_Md_feed 31 = .ok (.iload 4, 2) := by decide +kernel
theorem d_Md_feed_33 : decode b_Md_feed 33 = .ok (.invokevirtual 78, 3) := by decide +kernel
theorem d_Md_feed_36 : decode b_Md_feed 36 = .ok (.aload_n 0, 1) := by decide +kernel
theorem d_Md_feed_37 : decode b_Md_feed 37 = .ok (.iload 5, 2) := by decide +kernel
theorem d_Md_feed_39 : decode b_Md_feed 39 = .ok (.invokevirtual 78, 3) := by decide +kernel
theorem d_Md_feed_42 : decode b_Md_feed 42 = .ok (.aload_n 0, 1) := by decide +kernel
theorem d_Md_feed_43 : decode b_Md_feed 43 = .ok (.getfield 75, 3) := by decide +kernel
theorem d_Md_feed_46 : decode b_Md_feed 46 = .ok (.ireturn, 1) := by decide +kernel
abbrev b_Md_feedOne : ByteArray := prog_8_method_2_code
abbrev y_Md_feedOne : MethodName := ⟨"ModuleBytesModel", "feedOne", "(I)V"⟩
theorem d_Md_feedOne_0 : decode b_Md_feedOne 0 = .ok (.bipush 24, 2) := by decide +kernel
theorem d_Md_feedOne_2 : decode b_Md_feedOne 2 = .ok (.istore_n 2, 1) := by decide +kernel
theorem d_Md_feedOne_3 : decode b_Md_feedOne 3 = .ok (.iload_n 2, 1) := by decide +kernel
theorem d_Md_feedOne_4 : decode b_Md_feedOne 4 = .ok (.ifCond .lt 35, 3) := by decide +kernel
theorem d_Md_feedOne_7 : decode b_Md_feedOne 7 = .ok (.aload_n 0, 1) := by decide +kernel
theorem d_Md_feedOne_8 : decode b_Md_feedOne 8 = .ok (.getfield 7, 3) := by decide +kernel
theorem d_Md_feedOne_11 : decode b_Md_feedOne 11 = .ok (.aload_n 0, 1) := by decide +kernel
theorem d_Md_feedOne_12 : decode b_Md_feedOne 12 = .ok (.getfield 75, 3) := by decide +kernel
theorem d_Md_feedOne_15 : decode b_Md_feedOne 15 = .ok (.iload_n 1, 1) := by decide +kernel
theorem d_Md_feedOne_16 : decode b_Md_feedOne 16 = .ok (.iload_n 2, 1) := by decide +kernel
theorem d_Md_feedOne_17 : decode b_Md_feedOne 17 = .ok (.ishr, 1) := by decide +kernel
theorem d_Md_feedOne_18 : decode b_Md_feedOne 18 = .ok (.sipush 255, 3) := by decide +kernel
theorem d_Md_feedOne_21 : decode b_Md_feedOne 21 = .ok (.iand, 1) := by decide +kernel
theorem d_Md_feedOne_22 : decode b_Md_feedOne 22 = .ok (.iastore, 1) := by decide +kernel
theorem d_Md_feedOne_23 : decode b_Md_feedOne 23 = .ok (.aload_n 0, 1) := by decide +kernel
theorem d_Md_feedOne_24 : decode b_Md_feedOne 24 = .ok (.dup, 1) := by decide +kernel
theorem d_Md_feedOne_25 : decode b_Md_feedOne 25 = .ok (.getfield 75, 3) := by decide +kernel
theorem d_Md_feedOne_28 : decode b_Md_feedOne 28 = .ok (.iconst 1, 1) := by decide +kernel
theorem d_Md_feedOne_29 : decode b_Md_feedOne 29 = .ok (.iadd, 1) := by decide +kernel
theorem d_Md_feedOne_30 : decode b_Md_feedOne 30 = .ok (.putfield 75, 3) := by decide +kernel
theorem d_Md_feedOne_33 : decode b_Md_feedOne 33 = .ok (.iinc 2 (-8), 3) := by decide +kernel
theorem d_Md_feedOne_36 : decode b_Md_feedOne 36 = .ok (.goto (-33), 3) := by decide +kernel
theorem d_Md_feedOne_39 : decode b_Md_feedOne 39 = .ok (.return_, 1) := by decide +kernel
abbrev b_Md_end : ByteArray := prog_8_method_41_code
abbrev y_Md_end : MethodName := ⟨"ModuleBytesModel", "end", "(I)I"⟩
theorem d_Md_end_0 : decode b_Md_end 0 = .ok (.iload_n 1, 1) := by decide +kernel
theorem d_Md_end_1 : decode b_Md_end 1 = .ok (.ifCond .lt 11, 3) := by decide +kernel
theorem d_Md_end_4 : decode b_Md_end 4 = .ok (.iload_n 1, 1) := by decide +kernel
theorem d_Md_end_5 : decode b_Md_end 5 = .ok (.aload_n 0, 1) := by decide +kernel
theorem d_Md_end_6 : decode b_Md_end 6 = .ok (.getfield 75, 3) := by decide +kernel
theorem d_Md_end_9 : decode b_Md_end 9 = .ok (.if_icmp .le 5, 3) := by decide +kernel
theorem d_Md_end_12 : decode b_Md_end 12 = .ok (.iconst (-1), 1) := by decide +kernel
theorem d_Md_end_13 : decode b_Md_end 13 = .ok (.ireturn, 1) := by decide +kernel
theorem d_Md_end_14 : decode b_Md_end 14 = .ok (.aload_n 0, 1) := by decide +kernel
theorem d_Md_end_15 : decode b_Md_end 15 = .ok (.iload_n 1, 1) := by decide +kernel
theorem d_Md_end_16 : decode b_Md_end 16 = .ok (.invokevirtual 262, 3) := by decide +kernel
theorem d_Md_end_19 : decode b_Md_end 19 = .ok (.aload_n 0, 1) := by decide +kernel
theorem d_Md_end_20 : decode b_Md_end 20 = .ok (.iconst 0, 1) := by decide +kernel
theorem d_Md_end_21 : decode b_Md_end 21 = .ok (.putfield 75, 3) := by decide +kernel
theorem d_Md_end_24 : decode b_Md_end 24 = .ok (.aload_n 0, 1) := by decide +kernel
theorem d_Md_end_25 : decode b_Md_end 25 = .ok (.aload_n 0, 1) := by decide +kernel
theorem d_Md_end_26 : decode b_Md_end 26 = .ok (.getfield 82, 3) := by decide +kernel
theorem d_Md_end_29 : decode b_Md_end 29 = .ok (.ifCond .le 10, 3) := by decide +kernel
theorem d_Md_end_32 : decode b_Md_end 32 = .ok (.aload_n 0, 1) := by decide +kernel
theorem d_Md_end_33 : decode b_Md_end 33 = .ok (.getfield 85, 3) := by decide +kernel
theorem d_Md_end_36 : decode b_Md_end 36 = .ok (.goto 4, 3) := by decide +kernel
theorem d_Md_end_39 : decode b_Md_end 39 = .ok (.iconst (-1), 1) := by decide +kernel
theorem d_Md_end_40 : decode b_Md_end 40 = .ok (.putfield 13, 3) := by decide +kernel
theorem d_Md_end_43 : decode b_Md_end 43 = .ok (.aload_n 0, 1) := by decide +kernel
theorem d_Md_end_44 : decode b_Md_end 44 = .ok (.getfield 82, 3) := by decide +kernel
theorem d_Md_end_47 : decode b_Md_end 47 = .ok (.ifCond .le 8, 3) := by decide +kernel
theorem d_Md_end_50 : decode b_Md_end 50 = .ok (.aload_n 0, 1) := by decide +kernel
theorem d_Md_end_51 : decode b_Md_end 51 = .ok (.getfield 82, 3) := by decide +kernel
theorem d_Md_end_54 : decode b_Md_end 54 = .ok (.ireturn, 1) := by decide +kernel
theorem d_Md_end_55 : decode b_Md_end 55 = .ok (.aload_n 0, 1) := by decide +kernel
theorem d_Md_end_56 : decode b_Md_end 56 = .ok (.iconst 1, 1) := by decide +kernel
theorem d_Md_end_57 : decode b_Md_end 57 = .ok (.putfield 265, 3) := by decide +kernel
theorem d_Md_end_60 : decode b_Md_end 60 = .ok (.aload_n 0, 1) := by decide +kernel
theorem d_Md_end_61 : decode b_Md_end 61 = .ok (.getfield 7, 3) := by decide +kernel
theorem d_Md_end_64 : decode b_Md_end 64 = .ok (.aload_n 0, 1) := by decide +kernel
theorem d_Md_end_65 : decode b_Md_end 65 = .ok (.getfield 51, 3) := by decide +kernel
theorem d_Md_end_68 : decode b_Md_end 68 = .ok (.iload_n 1, 1) := by decide +kernel
theorem d_Md_end_69 : decode b_Md_end 69 = .ok (.invokestatic 268, 3) := by decide +kernel
theorem d_Md_end_72 : decode b_Md_end 72 = .ok (.aload_n 0, 1) := by decide +kernel
theorem d_Md_end_73 : decode b_Md_end 73 = .ok (.getfield 30, 3) := by decide +kernel
theorem d_Md_end_76 : decode b_Md_end 76 = .ok (.aload_n 0, 1) := by decide +kernel
theorem d_Md_end_77 : decode b_Md_end 77 = .ok (.getfield 54, 3) := by decide +kernel
theorem d_Md_end_80 : decode b_Md_end 80 = .ok (.aload_n 0, 1) := by decide +kernel
theorem d_Md_end_81 : decode b_Md_end 81 = .ok (.getfield 131, 3) := by decide +kernel
theorem d_Md_end_84 : decode b_Md_end 84 = .ok (.invokestatic 268, 3) := by decide +kernel
theorem d_Md_end_87 : decode b_Md_end 87 = .ok (.aload_n 0, 1) := by decide +kernel
theorem d_Md_end_88 : decode b_Md_end 88 = .ok (.getfield 33, 3) := by decide +kernel
theorem d_Md_end_91 : decode b_Md_end 91 = .ok (.aload_n 0, 1) := by decide +kernel
theorem d_Md_end_92 : decode b_Md_end 92 = .ok (.getfield 57, 3) := by decide +kernel
theorem d_Md_end_95 : decode b_Md_end 95 = .ok (.aload_n 0, 1) := by decide +kernel
theorem d_Md_end_96 : decode b_Md_end 96 = .ok (.getfield 131, 3) := by decide +kernel
theorem d_Md_end_99 : decode b_Md_end 99 = .ok (.invokestatic 268, 3) := by decide +kernel
theorem d_Md_end_102 : decode b_Md_end 102 = .ok (.aload_n 0, 1) := by decide +kernel
theorem d_Md_end_103 : decode b_Md_end 103 = .ok (.getfield 36, 3) := by decide +kernel
theorem d_Md_end_106 : decode b_Md_end 106 = .ok (.aload_n 0, 1) := by decide +kernel
theorem d_Md_end_107 : decode b_Md_end 107 = .ok (.getfield 60, 3) := by decide +kernel
theorem d_Md_end_110 : decode b_Md_end 110 = .ok (.aload_n 0, 1) := by decide +kernel
theorem d_Md_end_111 : decode b_Md_end 111 = .ok (.getfield 131, 3) := by decide +kernel
theorem d_Md_end_114 : decode b_Md_end 114 = .ok (.invokestatic 268, 3) := by decide +kernel
theorem d_Md_end_117 : decode b_Md_end 117 = .ok (.aload_n 0, 1) := by decide +kernel
theorem d_Md_end_118 : decode b_Md_end 118 = .ok (.getfield 42, 3) := by decide +kernel
theorem d_Md_end_121 : decode b_Md_end 121 = .ok (.aload_n 0, 1) := by decide +kernel
theorem d_Md_end_122 : decode b_Md_end 122 = .ok (.getfield 66, 3) := by decide +kernel
theorem d_Md_end_125 : decode b_Md_end 125 = .ok (.aload_n 0, 1) := by decide +kernel
theorem d_Md_end_126 : decode b_Md_end 126 = .ok (.getfield 174, 3) := by decide +kernel
theorem d_Md_end_129 : decode b_Md_end 129 = .ok (.invokestatic 268, 3) := by decide +kernel
theorem d_Md_end_132 : decode b_Md_end 132 = .ok (.aload_n 0, 1) := by decide +kernel
theorem d_Md_end_133 : decode b_Md_end 133 = .ok (.getfield 45, 3) := by decide +kernel
theorem d_Md_end_136 : decode b_Md_end 136 = .ok (.aload_n 0, 1) := by decide +kernel
theorem d_Md_end_137 : decode b_Md_end 137 = .ok (.getfield 69, 3) := by decide +kernel
theorem d_Md_end_140 : decode b_Md_end 140 = .ok (.aload_n 0, 1) := by decide +kernel
theorem d_Md_end_141 : decode b_Md_end 141 = .ok (.getfield 174, 3) := by decide +kernel
theorem d_Md_end_144 : decode b_Md_end 144 = .ok (.invokestatic 268, 3) := by decide +kernel
theorem d_Md_end_147 : decode b_Md_end 147 = .ok (.aload_n 0, 1) := by decide +kernel
theorem d_Md_end_148 : decode b_Md_end 148 = .ok (.getfield 48, 3) := by decide +kernel
theorem d_Md_end_151 : decode b_Md_end 151 = .ok (.aload_n 0, 1) := by decide +kernel
theorem d_Md_end_152 : decode b_Md_end 152 = .ok (.getfield 72, 3) := by decide +kernel
theorem d_Md_end_155 : decode b_Md_end 155 = .ok (.aload_n 0, 1) := by decide +kernel
theorem d_Md_end_156 : decode b_Md_end 156 = .ok (.getfield 174, 3) := by decide +kernel
theorem d_Md_end_159 : decode b_Md_end 159 = .ok (.invokestatic 268, 3) := by decide +kernel
theorem d_Md_end_162 : decode b_Md_end 162 = .ok (.aload_n 0, 1) := by decide +kernel
theorem d_Md_end_163 : decode b_Md_end 163 = .ok (.aload_n 0, 1) := by decide +kernel
theorem d_Md_end_164 : decode b_Md_end 164 = .ok (.getfield 131, 3) := by decide +kernel
theorem d_Md_end_167 : decode b_Md_end 167 = .ok (.putfield 272, 3) := by decide +kernel
theorem d_Md_end_170 : decode b_Md_end 170 = .ok (.aload_n 0, 1) := by decide +kernel
theorem d_Md_end_171 : decode b_Md_end 171 = .ok (.aload_n 0, 1) := by decide +kernel
theorem d_Md_end_172 : decode b_Md_end 172 = .ok (.getfield 174, 3) := by decide +kernel
theorem d_Md_end_175 : decode b_Md_end 175 = .ok (.putfield 275, 3) := by decide +kernel
theorem d_Md_end_178 : decode b_Md_end 178 = .ok (.aload_n 0, 1) := by decide +kernel
theorem d_Md_end_179 : decode b_Md_end 179 = .ok (.aload_n 0, 1) := by decide +kernel
theorem d_Md_end_180 : decode b_Md_end 180 = .ok (.getfield 141, 3) := by decide +kernel
theorem d_Md_end_183 : decode b_Md_end 183 = .ok (.putfield 278, 3) := by decide +kernel
theorem d_Md_end_186 : decode b_Md_end 186 = .ok (.aload_n 0, 1) := by decide +kernel
theorem d_Md_end_187 : decode b_Md_end 187 = .ok (.aload_n 0, 1) := by decide +kernel
theorem d_Md_end_188 : decode b_Md_end 188 = .ok (.getfield 245, 3) := by decide +kernel
theorem d_Md_end_191 : decode b_Md_end 191 = .ok (.putfield 281, 3) := by decide +kernel
theorem d_Md_end_194 : decode b_Md_end 194 = .ok (.aload_n 0, 1) := by decide +kernel
theorem d_Md_end_195 : decode b_Md_end 195 = .ok (.aload_n 0, 1) := by decide +kernel
theorem d_Md_end_196 : decode b_Md_end 196 = .ok (.getfield 248, 3) := by decide +kernel
theorem d_Md_end_199 : decode b_Md_end 199 = .ok (.putfield 284, 3) := by decide +kernel
theorem d_Md_end_202 : decode b_Md_end 202 = .ok (.aload_n 0, 1) := by decide +kernel
theorem d_Md_end_203 : decode b_Md_end 203 = .ok (.getfield 39, 3) := by decide +kernel
theorem d_Md_end_206 : decode b_Md_end 206 = .ok (.aload_n 0, 1) := by decide +kernel
theorem d_Md_end_207 : decode b_Md_end 207 = .ok (.getfield 63, 3) := by decide +kernel
theorem d_Md_end_210 : decode b_Md_end 210 = .ok (.aload_n 0, 1) := by decide +kernel
theorem d_Md_end_211 : decode b_Md_end 211 = .ok (.getfield 131, 3) := by decide +kernel
theorem d_Md_end_214 : decode b_Md_end 214 = .ok (.invokestatic 268, 3) := by decide +kernel
theorem d_Md_end_217 : decode b_Md_end 217 = .ok (.iconst 0, 1) := by decide +kernel
theorem d_Md_end_218 : decode b_Md_end 218 = .ok (.ireturn, 1) := by decide +kernel
abbrev b_Md_read : ByteArray := prog_8_method_39_code
abbrev y_Md_read : MethodName := ⟨"ModuleBytesModel", "read", "(I)V"⟩
theorem d_Md_read_0 : decode b_Md_read 0 = .ok (.aload_n 0, 1) := by decide +kernel
theorem d_Md_read_1 : decode b_Md_read 1 = .ok (.iconst 0, 1) := by decide +kernel
theorem d_Md_read_2 : decode b_Md_read 2 = .ok (.putfield 88, 3) := by decide +kernel
theorem d_Md_read_5 : decode b_Md_read 5 = .ok (.aload_n 0, 1) := by decide +kernel
theorem d_Md_read_6 : decode b_Md_read 6 = .ok (.iconst 0, 1) := by decide +kernel
theorem d_Md_read_7 : decode b_Md_read 7 = .ok (.putfield 82, 3) := by decide +kernel
theorem d_Md_read_10 : decode b_Md_read 10 = .ok (.aload_n 0, 1) := by decide +kernel
theorem d_Md_read_11 : decode b_Md_read 11 = .ok (.iconst 0, 1) := by decide +kernel
theorem d_Md_read_12 : decode b_Md_read 12 = .ok (.putfield 125, 3) := by decide +kernel
theorem d_Md_read_15 : decode b_Md_read 15 = .ok (.aload_n 0, 1) := by decide +kernel
theorem d_Md_read_16 : decode b_Md_read 16 = .ok (.iconst 1, 1) := by decide +kernel
theorem d_Md_read_17 : decode b_Md_read 17 = .ok (.putfield 91, 3) := by decide +kernel
theorem d_Md_read_20 : decode b_Md_read 20 = .ok (.aload_n 0, 1) := by decide +kernel
theorem d_Md_read_21 : decode b_Md_read 21 = .ok (.getfield 24, 3) := by decide +kernel
theorem d_Md_read_24 : decode b_Md_read 24 = .ok (.iconst 0, 1) := by decide +kernel
theorem d_Md_read_25 : decode b_Md_read 25 = .ok (.iload_n 1, 1) := by decide +kernel
theorem d_Md_read_26 : decode b_Md_read 26 = .ok (.iastore, 1) := by decide +kernel
theorem d_Md_read_27 : decode b_Md_read 27 = .ok (.aload_n 0, 1) := by decide +kernel
theorem d_Md_read_28 : decode b_Md_read 28 = .ok (.iconst 0, 1) := by decide +kernel
theorem d_Md_read_29 : decode b_Md_read 29 = .ok (.putfield 138, 3) := by decide +kernel
theorem d_Md_read_32 : decode b_Md_read 32 = .ok (.aload_n 0, 1) := by decide +kernel
theorem d_Md_read_33 : decode b_Md_read 33 = .ok (.iconst 0, 1) := by decide +kernel
theorem d_Md_read_34 : decode b_Md_read 34 = .ok (.putfield 186, 3) := by decide +kernel
theorem d_Md_read_37 : decode b_Md_read 37 = .ok (.aload_n 0, 1) := by decide +kernel
theorem d_Md_read_38 : decode b_Md_read 38 = .ok (.iconst 0, 1) := by decide +kernel
theorem d_Md_read_39 : decode b_Md_read 39 = .ok (.putfield 131, 3) := by decide +kernel
theorem d_Md_read_42 : decode b_Md_read 42 = .ok (.aload_n 0, 1) := by decide +kernel
theorem d_Md_read_43 : decode b_Md_read 43 = .ok (.iconst 0, 1) := by decide +kernel
theorem d_Md_read_44 : decode b_Md_read 44 = .ok (.putfield 174, 3) := by decide +kernel
theorem d_Md_read_47 : decode b_Md_read 47 = .ok (.aload_n 0, 1) := by decide +kernel
theorem d_Md_read_48 : decode b_Md_read 48 = .ok (.iconst 0, 1) := by decide +kernel
theorem d_Md_read_49 : decode b_Md_read 49 = .ok (.putfield 141, 3) := by decide +kernel
theorem d_Md_read_52 : decode b_Md_read 52 = .ok (.aload_n 0, 1) := by decide +kernel
theorem d_Md_read_53 : decode b_Md_read 53 = .ok (.ldc2_w 251, 3) := by decide +kernel
theorem d_Md_read_56 : decode b_Md_read 56 = .ok (.putfield 245, 3) := by decide +kernel
theorem d_Md_read_59 : decode b_Md_read 59 = .ok (.aload_n 0, 1) := by decide +kernel
theorem d_Md_read_60 : decode b_Md_read 60 = .ok (.ldc2_w 251, 3) := by decide +kernel
theorem d_Md_read_63 : decode b_Md_read 63 = .ok (.putfield 248, 3) := by decide +kernel
theorem d_Md_read_66 : decode b_Md_read 66 = .ok (.iconst 0, 1) := by decide +kernel
theorem d_Md_read_67 : decode b_Md_read 67 = .ok (.istore_n 2, 1) := by decide +kernel
theorem d_Md_read_68 : decode b_Md_read 68 = .ok (.iload_n 2, 1) := by decide +kernel
theorem d_Md_read_69 : decode b_Md_read 69 = .ok (.bipush 8, 2) := by decide +kernel
theorem d_Md_read_71 : decode b_Md_read 71 = .ok (.if_icmp .ge 30, 3) := by decide +kernel
theorem d_Md_read_74 : decode b_Md_read 74 = .ok (.aload_n 0, 1) := by decide +kernel
theorem d_Md_read_75 : decode b_Md_read 75 = .ok (.getfield 82, 3) := by decide +kernel
theorem d_Md_read_78 : decode b_Md_read 78 = .ok (.ifCond .ne 23, 3) := by decide +kernel
theorem d_Md_read_81 : decode b_Md_read 81 = .ok (.aload_n 0, 1) := by decide +kernel
theorem d_Md_read_82 : decode b_Md_read 82 = .ok (.iload_n 2, 1) := by decide +kernel
theorem d_Md_read_83 : decode b_Md_read 83 = .ok (.invokestatic 253, 3) := by decide +kernel
theorem d_Md_read_86 : decode b_Md_read 86 = .ok (.iload_n 2, 1) := by decide +kernel
theorem d_Md_read_87 : decode b_Md_read 87 = .ok (.invokestatic 253, 3) := by decide +kernel
theorem d_Md_read_90 : decode b_Md_read 90 = .ok (.iconst 5, 1) := by decide +kernel
theorem d_Md_read_91 : decode b_Md_read 91 = .ok (.invokevirtual 159, 3) := by decide +kernel
theorem d_Md_read_94 : decode b_Md_read 94 = .ok (.pop, 1) := by decide +kernel
theorem d_Md_read_95 : decode b_Md_read 95 = .ok (.iinc 2 1, 3) := by decide +kernel
theorem d_Md_read_98 : decode b_Md_read 98 = .ok (.goto (-30), 3) := by decide +kernel
theorem d_Md_read_101 : decode b_Md_read 101 = .ok (.aload_n 0, 1) := by decide +kernel
theorem d_Md_read_102 : decode b_Md_read 102 = .ok (.bipush 23, 2) := by decide +kernel
theorem d_Md_read_104 : decode b_Md_read 104 = .ok (.invokevirtual 128, 3) := by decide +kernel
theorem d_Md_read_107 : decode b_Md_read 107 = .ok (.aload_n 0, 1) := by decide +kernel
theorem d_Md_read_108 : decode b_Md_read 108 = .ok (.getfield 82, 3) := by decide +kernel
theorem d_Md_read_111 : decode b_Md_read 111 = .ok (.ifCond .ne 17, 3) := by decide +kernel
theorem d_Md_read_114 : decode b_Md_read 114 = .ok (.aload_n 0, 1) := by decide +kernel
theorem d_Md_read_115 : decode b_Md_read 115 = .ok (.getfield 125, 3) := by decide +kernel
theorem d_Md_read_118 : decode b_Md_read 118 = .ok (.ifCond .le 10, 3) := by decide +kernel
theorem d_Md_read_121 : decode b_Md_read 121 = .ok (.aload_n 0, 1) := by decide +kernel
theorem d_Md_read_122 : decode b_Md_read 122 = .ok (.invokevirtual 256, 3) := by decide +kernel
theorem d_Md_read_125 : decode b_Md_read 125 = .ok (.goto (-18), 3) := by decide +kernel
theorem d_Md_read_128 : decode b_Md_read 128 = .ok (.aload_n 0, 1) := by decide +kernel
theorem d_Md_read_129 : decode b_Md_read 129 = .ok (.bipush 8, 2) := by decide +kernel
theorem d_Md_read_131 : decode b_Md_read 131 = .ok (.invokevirtual 259, 3) := by decide +kernel
theorem d_Md_read_134 : decode b_Md_read 134 = .ok (.aload_n 0, 1) := by decide +kernel
theorem d_Md_read_135 : decode b_Md_read 135 = .ok (.iconst 2, 1) := by decide +kernel
theorem d_Md_read_136 : decode b_Md_read 136 = .ok (.invokevirtual 259, 3) := by decide +kernel
theorem d_Md_read_139 : decode b_Md_read 139 = .ok (.if_icmp .eq 10, 3) := by decide +kernel
theorem d_Md_read_142 : decode b_Md_read 142 = .ok (.aload_n 0, 1) := by decide +kernel
theorem d_Md_read_143 : decode b_Md_read 143 = .ok (.bipush 13, 2) := by decide +kernel
theorem d_Md_read_145 : decode b_Md_read 145 = .ok (.iload_n 1, 1) := by decide +kernel
theorem d_Md_read_146 : decode b_Md_read 146 = .ok (.invokevirtual 94, 3) := by decide +kernel
theorem d_Md_read_149 : decode b_Md_read 149 = .ok (.aload_n 0, 1) := by decide +kernel
theorem d_Md_read_150 : decode b_Md_read 150 = .ok (.getfield 186, 3) := by decide +kernel
theorem d_Md_read_153 : decode b_Md_read 153 = .ok (.ifCond .eq 25, 3) := by decide +kernel
theorem d_Md_read_156 : decode b_Md_read 156 = .ok (.aload_n 0, 1) := by decide +kernel
theorem d_Md_read_157 : decode b_Md_read 157 = .ok (.getfield 248, 3) := by decide +kernel
theorem d_Md_read_160 : decode b_Md_read 160 = .ok (.aload_n 0, 1) := by decide +kernel
theorem d_Md_read_161 : decode b_Md_read 161 = .ok (.bipush 9, 2) := by decide +kernel
theorem d_Md_read_163 : decode b_Md_read 163 = .ok (.invokevirtual 259, 3) := by decide +kernel
theorem d_Md_read_166 : decode b_Md_read 166 = .ok (.i2l, 1) := by decide +kernel
theorem d_Md_read_167 : decode b_Md_read 167 = .ok (.lcmp, 1) := by decide +kernel
theorem d_Md_read_168 : decode b_Md_read 168 = .ok (.ifCond .eq 10, 3) := by decide +kernel
theorem d_Md_read_171 : decode b_Md_read 171 = .ok (.aload_n 0, 1) := by decide +kernel
theorem d_Md_read_172 : decode b_Md_read 172 = .ok (.bipush 14, 2) := by decide +kernel
theorem d_Md_read_174 : decode b_Md_read 174 = .ok (.iload_n 1, 1) := by decide +kernel
theorem d_Md_read_175 : decode b_Md_read 175 = .ok (.invokevirtual 94, 3) := by decide +kernel
theorem d_Md_read_178 : decode b_Md_read 178 = .ok (.return_, 1) := by decide +kernel
abbrev b_Md_head : ByteArray := prog_8_method_38_code
abbrev y_Md_head : MethodName := ⟨"ModuleBytesModel", "head", "(I)I"⟩
theorem d_Md_head_0 : decode b_Md_head 0 = .ok (.iload_n 0, 1) := by decide +kernel
theorem d_Md_head_1 : decode b_Md_head 1 = .ok (.iconst 1, 1) := by decide +kernel
theorem d_Md_head_2 : decode b_Md_head 2 = .ok (.if_icmp .ne 8, 3) := by decide +kernel
theorem d_Md_head_5 : decode b_Md_head 5 = .ok (.bipush 97, 2) := by decide +kernel
theorem d_Md_head_7 : decode b_Md_head 7 = .ok (.goto 33, 3) := by decide +kernel
theorem d_Md_head_10 : decode b_Md_head 10 = .ok (.iload_n 0, 1) := by decide +kernel
theorem d_Md_head_11 : decode b_Md_head 11 = .ok (.iconst 2, 1) := by decide +kernel
theorem d_Md_head_12 : decode b_Md_head 12 = .ok (.if_icmp .ne 8, 3) := by decide +kernel
theorem d_Md_head_15 : decode b_Md_head 15 = .ok (.bipush 115, 2) := by decide +kernel
theorem d_Md_head_17 : decode b_Md_head 17 = .ok (.goto 23, 3) := by decide +kernel
theorem d_Md_head_20 : decode b_Md_head 20 = .ok (.iload_n 0, 1) := by decide +kernel
theorem d_Md_head_21 : decode b_Md_head 21 = .ok (.iconst 3, 1) := by decide +kernel
theorem d_Md_head_22 : decode b_Md_head 22 = .ok (.if_icmp .ne 8, 3) := by decide +kernel
theorem d_Md_head_25 : decode b_Md_head 25 = .ok (.bipush 109, 2) := by decide +kernel
theorem d_Md_head_27 : decode b_Md_head 27 = .ok (.goto 13, 3) := by decide +kernel
theorem d_Md_head_30 : decode b_Md_head 30 = .ok (.iload_n 0, 1) := by decide +kernel
theorem d_Md_head_31 : decode b_Md_head 31 = .ok (.iconst 4, 1) := by decide +kernel
theorem d_Md_head_32 : decode b_Md_head 32 = .ok (.if_icmp .ne 7, 3) := by decide +kernel
theorem d_Md_head_35 : decode b_Md_head 35 = .ok (.iconst 1, 1) := by decide +kernel
theorem d_Md_head_36 : decode b_Md_head 36 = .ok (.goto 4, 3) := by decide +kernel
theorem d_Md_head_39 : decode b_Md_head 39 = .ok (.iconst 0, 1) := by decide +kernel
theorem d_Md_head_40 : decode b_Md_head 40 = .ok (.ireturn, 1) := by decide +kernel
abbrev b_Md_takeBetween : ByteArray := prog_8_method_10_code
abbrev y_Md_takeBetween : MethodName := ⟨"ModuleBytesModel", "takeBetween", "(III)I"⟩
theorem d_Md_takeBetween_0 : decode b_Md_takeBetween 0 = .ok (.aload_n 0, 1) := by decide +kernel
theorem d_Md_takeBetween_1 : decode b_Md_takeBetween 1 = .ok (.invokevirtual 98, 3) := by decide +kernel
theorem d_Md_takeBetween_4 : decode b_Md_takeBetween 4 = .ok (.istore 4, 2) := by decide +kernel
theorem d_Md_takeBetween_6 : decode b_Md_takeBetween 6 = .ok (.aload_n 0, 1) := by decide +kernel
theorem d_Md_takeBetween_7 : decode b_Md_takeBetween 7 = .ok (.getfield 82, 3) := by decide +kernel
theorem d_Md_takeBetween_10 : decode b_Md_takeBetween 10 = .ok (.ifCond .ne 26, 3) := by decide +kernel
theorem d_Md_takeBetween_13 : decode b_Md_takeBetween 13 = .ok (.iload 4, 2) := by decide +kernel
theorem d_Md_takeBetween_15 : decode b_Md_takeBetween 15 = .ok (.iload_n 1, 1) := by decide +kernel
theorem d_Md_takeBetween_16 : decode b_Md_takeBetween 16 = .ok (.if_icmp .lt 9, 3) := by decide +kernel
theorem d_Md_takeBetween_19 : decode b_Md_takeBetween 19 = .ok (.iload 4, 2) := by decide +kernel
theorem d_Md_takeBetween_21 : decode b_Md_takeBetween 21 = .ok (.iload_n 2, 1) := by decide +kernel
theorem d_Md_takeBetween_22 : decode b_Md_takeBetween 22 = .ok (.if_icmp .le 14, 3) := by decide +kernel
theorem d_Md_takeBetween_25 : decode b_Md_takeBetween 25 = .ok (.aload_n 0, 1) := by decide +kernel
theorem d_Md_takeBetween_26 : decode b_Md_takeBetween 26 = .ok (.iload_n 3, 1) := by decide +kernel
theorem d_Md_takeBetween_27 : decode b_Md_takeBetween 27 = .ok (.aload_n 0, 1) := by decide +kernel
theorem d_Md_takeBetween_28 : decode b_Md_takeBetween 28 = .ok (.getfield 88, 3) := by decide +kernel
theorem d_Md_takeBetween_31 : decode b_Md_takeBetween 31 = .ok (.iconst 1, 1) := by decide +kernel
theorem d_Md_takeBetween_32 : decode b_Md_takeBetween 32 = .ok (.isub, 1) := by decide +kernel
theorem d_Md_takeBetween_33 : decode b_Md_takeBetween 33 = .ok (.invokevirtual 94, 3) := by decide +kernel
theorem d_Md_takeBetween_36 : decode b_Md_takeBetween 36 = .ok (.iload 4, 2) := by decide +kernel
theorem d_Md_takeBetween_38 : decode b_Md_takeBetween 38 = .ok (.ireturn, 1) := by decide +kernel
abbrev b_Md_take : ByteArray := prog_8_method_5_code
abbrev y_Md_take : MethodName := ⟨"ModuleBytesModel", "take", "()I"⟩
theorem d_Md_take_0 : decode b_Md_take 0 = .ok (.aload_n 0, 1) := by decide +kernel
theorem d_Md_take_1 : decode b_Md_take 1 = .ok (.getfield 88, 3) := by decide +kernel
theorem d_Md_take_4 : decode b_Md_take 4 = .ok (.aload_n 0, 1) := by decide +kernel
theorem d_Md_take_5 : decode b_Md_take 5 = .ok (.getfield 24, 3) := by decide +kernel
theorem d_Md_take_8 : decode b_Md_take 8 = .ok (.aload_n 0, 1) := by decide +kernel
theorem d_Md_take_9 : decode b_Md_take 9 = .ok (.getfield 91, 3) := by decide +kernel
theorem d_Md_take_12 : decode b_Md_take 12 = .ok (.iconst 1, 1) := by decide +kernel
theorem d_Md_take_13 : decode b_Md_take 13 = .ok (.isub, 1) := by decide +kernel
theorem d_Md_take_14 : decode b_Md_take 14 = .ok (.iaload, 1) := by decide +kernel
theorem d_Md_take_15 : decode b_Md_take 15 = .ok (.if_icmp .lt 19, 3) := by decide +kernel
theorem d_Md_take_18 : decode b_Md_take 18 = .ok (.aload_n 0, 1) := by decide +kernel
theorem d_Md_take_19 : decode b_Md_take 19 = .ok (.iconst 1, 1) := by decide +kernel
theorem d_Md_take_20 : decode b_Md_take 20 = .ok (.aload_n 0, 1) := by decide +kernel
theorem d_Md_take_21 : decode b_Md_take 21 = .ok (.getfield 24, 3) := by decide +kernel
theorem d_Md_take_24 : decode b_Md_take 24 = .ok (.aload_n 0, 1) := by decide +kernel
theorem d_Md_take_25 : decode b_Md_take 25 = .ok (.getfield 91, 3) := by decide +kernel
theorem d_Md_take_28 : decode b_Md_take 28 = .ok (.iconst 1, 1) := by decide +kernel
theorem d_Md_take_29 : decode b_Md_take 29 = .ok (.isub, 1) := by decide +kernel
theorem d_Md_take_30 : decode b_Md_take 30 = .ok (.iaload, 1) := by decide +kernel
theorem d_Md_take_31 : decode b_Md_take 31 = .ok (.invokevirtual 94, 3) := by decide +kernel
theorem d_Md_take_34 : decode b_Md_take 34 = .ok (.aload_n 0, 1) := by decide +kernel
theorem d_Md_take_35 : decode b_Md_take 35 = .ok (.getfield 82, 3) := by decide +kernel
theorem d_Md_take_38 : decode b_Md_take 38 = .ok (.ifCond .le 5, 3) := by decide +kernel
theorem d_Md_take_41 : decode b_Md_take 41 = .ok (.iconst 0, 1) := by decide +kernel
theorem d_Md_take_42 : decode b_Md_take 42 = .ok (.ireturn, 1) := by decide +kernel
theorem d_Md_take_43 : decode b_Md_take 43 = .ok (.aload_n 0, 1) := by decide +kernel
theorem d_Md_take_44 : decode b_Md_take 44 = .ok (.dup, 1) := by decide +kernel
theorem d_Md_take_45 : decode b_Md_take 45 = .ok (.getfield 88, 3) := by decide +kernel
theorem d_Md_take_48 : decode b_Md_take 48 = .ok (.iconst 1, 1) := by decide +kernel
theorem d_Md_take_49 : decode b_Md_take 49 = .ok (.iadd, 1) := by decide +kernel
theorem d_Md_take_50 : decode b_Md_take 50 = .ok (.putfield 88, 3) := by decide +kernel
theorem d_Md_take_53 : decode b_Md_take 53 = .ok (.aload_n 0, 1) := by decide +kernel
theorem d_Md_take_54 : decode b_Md_take 54 = .ok (.getfield 7, 3) := by decide +kernel
theorem d_Md_take_57 : decode b_Md_take 57 = .ok (.aload_n 0, 1) := by decide +kernel
theorem d_Md_take_58 : decode b_Md_take 58 = .ok (.getfield 88, 3) := by decide +kernel
theorem d_Md_take_61 : decode b_Md_take 61 = .ok (.iconst 1, 1) := by decide +kernel
theorem d_Md_take_62 : decode b_Md_take 62 = .ok (.isub, 1) := by decide +kernel
theorem d_Md_take_63 : decode b_Md_take 63 = .ok (.iaload, 1) := by decide +kernel
theorem d_Md_take_64 : decode b_Md_take 64 = .ok (.ireturn, 1) := by decide +kernel
abbrev b_Md_stop : ByteArray := prog_8_method_4_code
abbrev y_Md_stop : MethodName := ⟨"ModuleBytesModel", "stop", "(II)V"⟩
theorem d_Md_stop_0 : decode b_Md_stop 0 = .ok (.aload_n 0, 1) := by decide +kernel
theorem d_Md_stop_1 : decode b_Md_stop 1 = .ok (.getfield 82, 3) := by decide +kernel
theorem d_Md_stop_4 : decode b_Md_stop 4 = .ok (.ifCond .ne 8, 3) := by decide +kernel
theorem d_Md_stop_7 : decode b_Md_stop 7 = .ok (.aload_n 0, 1) := by decide +kernel
theorem d_Md_stop_8 : decode b_Md_stop 8 = .ok (.iload_n 2, 1) := by decide +kernel
theorem d_Md_stop_9 : decode b_Md_stop 9 = .ok (.putfield 85, 3) := by decide +kernel
theorem d_Md_stop_12 : decode b_Md_stop 12 = .ok (.aload_n 0, 1) := by decide +kernel
theorem d_Md_stop_13 : decode b_Md_stop 13 = .ok (.aload_n 0, 1) := by decide +kernel
theorem d_Md_stop_14 : decode b_Md_stop 14 = .ok (.getfield 82, 3) := by decide +kernel
theorem d_Md_stop_17 : decode b_Md_stop 17 = .ok (.ifCond .ne 7, 3) := by decide +kernel
theorem d_Md_stop_20 : decode b_Md_stop 20 = .ok (.iload_n 1, 1) := by decide +kernel
theorem d_Md_stop_21 : decode b_Md_stop 21 = .ok (.goto 7, 3) := by decide +kernel
theorem d_Md_stop_24 : decode b_Md_stop 24 = .ok (.aload_n 0, 1) := by decide +kernel
theorem d_Md_stop_25 : decode b_Md_stop 25 = .ok (.getfield 82, 3) := by decide +kernel
theorem d_Md_stop_28 : decode b_Md_stop 28 = .ok (.putfield 82, 3) := by decide +kernel
theorem d_Md_stop_31 : decode b_Md_stop 31 = .ok (.return_, 1) := by decide +kernel
abbrev b_Md_want : ByteArray := prog_8_method_15_code
abbrev y_Md_want : MethodName := ⟨"ModuleBytesModel", "want", "(I)V"⟩
theorem d_Md_want_0 : decode b_Md_want 0 = .ok (.aload_n 0, 1) := by decide +kernel
theorem d_Md_want_1 : decode b_Md_want 1 = .ok (.getfield 17, 3) := by decide +kernel
theorem d_Md_want_4 : decode b_Md_want 4 = .ok (.aload_n 0, 1) := by decide +kernel
theorem d_Md_want_5 : decode b_Md_want 5 = .ok (.getfield 125, 3) := by decide +kernel
theorem d_Md_want_8 : decode b_Md_want 8 = .ok (.iload_n 1, 1) := by decide +kernel
theorem d_Md_want_9 : decode b_Md_want 9 = .ok (.iastore, 1) := by decide +kernel
theorem d_Md_want_10 : decode b_Md_want 10 = .ok (.aload_n 0, 1) := by decide +kernel
theorem d_Md_want_11 : decode b_Md_want 11 = .ok (.getfield 20, 3) := by decide +kernel
theorem d_Md_want_14 : decode b_Md_want 14 = .ok (.aload_n 0, 1) := by decide +kernel
theorem d_Md_want_15 : decode b_Md_want 15 = .ok (.getfield 125, 3) := by decide +kernel
theorem d_Md_want_18 : decode b_Md_want 18 = .ok (.lconst 1, 1) := by decide +kernel
theorem d_Md_want_19 : decode b_Md_want 19 = .ok (.lastore, 1) := by decide +kernel
theorem d_Md_want_20 : decode b_Md_want 20 = .ok (.aload_n 0, 1) := by decide +kernel
theorem d_Md_want_21 : decode b_Md_want 21 = .ok (.dup, 1) := by decide +kernel
theorem d_Md_want_22 : decode b_Md_want 22 = .ok (.getfield 125, 3) := by decide +kernel
theorem d_Md_want_25 : decode b_Md_want 25 = .ok (.iconst 1, 1) := by decide +kernel
theorem d_Md_want_26 : decode b_Md_want 26 = .ok (.iadd, 1) := by decide +kernel
theorem d_Md_want_27 : decode b_Md_want 27 = .ok (.putfield 125, 3) := by decide +kernel
theorem d_Md_want_30 : decode b_Md_want 30 = .ok (.return_, 1) := by decide +kernel
abbrev b_Md_next : ByteArray := prog_8_method_35_code
abbrev y_Md_next : MethodName := ⟨"ModuleBytesModel", "next", "()V"⟩
theorem d_Md_next_0 : decode b_Md_next 0 = .ok (.aload_n 0, 1) := by decide +kernel
theorem d_Md_next_1 : decode b_Md_next 1 = .ok (.dup, 1) := by decide +kernel
theorem d_Md_next_2 : decode b_Md_next 2 = .ok (.getfield 125, 3) := by decide +kernel
theorem d_Md_next_5 : decode b_Md_next 5 = .ok (.iconst 1, 1) := by decide +kernel
theorem d_Md_next_6 : decode b_Md_next 6 = .ok (.isub, 1) := by decide +kernel
theorem d_Md_next_7 : decode b_Md_next 7 = .ok (.putfield 125, 3) := by decide +kernel
theorem d_Md_next_10 : decode b_Md_next 10 = .ok (.aload_n 0, 1) := by decide +kernel
theorem d_Md_next_11 : decode b_Md_next 11 = .ok (.getfield 17, 3) := by decide +kernel
theorem d_Md_next_14 : decode b_Md_next 14 = .ok (.aload_n 0, 1) := by decide +kernel
theorem d_Md_next_15 : decode b_Md_next 15 = .ok (.getfield 125, 3) := by decide +kernel
theorem d_Md_next_18 : decode b_Md_next 18 = .ok (.iaload, 1) := by decide +kernel
theorem d_Md_next_19 : decode b_Md_next 19 = .ok (.istore_n 1, 1) := by decide +kernel
theorem d_Md_next_20 : decode b_Md_next 20 = .ok (.iload_n 1, 1) := by decide +kernel
theorem d_Md_next_21 : decode b_Md_next 21 = .ok (.bipush 100, 2) := by decide +kernel
theorem d_Md_next_23 : decode b_Md_next 23 = .ok (.if_icmp .lt 51, 3) := by decide +kernel
theorem d_Md_next_26 : decode b_Md_next 26 = .ok (.aload_n 0, 1) := by decide +kernel
theorem d_Md_next_27 : decode b_Md_next 27 = .ok (.invokevirtual 113, 3) := by decide +kernel
theorem d_Md_next_30 : decode b_Md_next 30 = .ok (.lstore_n 2, 1) := by decide +kernel
theorem d_Md_next_31 : decode b_Md_next 31 = .ok (.aload_n 0, 1) := by decide +kernel
theorem d_Md_next_32 : decode b_Md_next 32 = .ok (.getfield 17, 3) := by decide +kernel
theorem d_Md_next_35 : decode b_Md_next 35 = .ok (.aload_n 0, 1) := by decide +kernel
theorem d_Md_next_36 : decode b_Md_next 36 = .ok (.getfield 125, 3) := by decide +kernel
theorem d_Md_next_39 : decode b_Md_next 39 = .ok (.iconst 0, 1) := by decide +kernel
theorem d_Md_next_40 : decode b_Md_next 40 = .ok (.iload_n 1, 1) := by decide +kernel
theorem d_Md_next_41 : decode b_Md_next 41 = .ok (.isub, 1) := by decide +kernel
theorem d_Md_next_42 : decode b_Md_next 42 = .ok (.iastore, 1) := by decide +kernel
theorem d_Md_next_43 : decode b_Md_next 43 = .ok (.aload_n 0, 1) := by decide +kernel
theorem d_Md_next_44 : decode b_Md_next 44 = .ok (.getfield 20, 3) := by decide +kernel
theorem d_Md_next_47 : decode b_Md_next 47 = .ok (.aload_n 0, 1) := by decide +kernel
theorem d_Md_next_48 : decode b_Md_next 48 = .ok (.getfield 125, 3) := by decide +kernel
theorem d_Md_next_51 : decode b_Md_next 51 = .ok (.lload_n 2, 1) := by decide +kernel
theorem d_Md_next_52 : decode b_Md_next 52 = .ok (.lastore, 1) := by decide +kernel
theorem d_Md_next_53 : decode b_Md_next 53 = .ok (.aload_n 0, 1) := by decide +kernel
theorem d_Md_next_54 : decode b_Md_next 54 = .ok (.dup, 1) := by decide +kernel
theorem d_Md_next_55 : decode b_Md_next 55 = .ok (.getfield 125, 3) := by decide +kernel
theorem d_Md_next_58 : decode b_Md_next 58 = .ok (.lload_n 2, 1) := by decide +kernel
theorem d_Md_next_59 : decode b_Md_next 59 = .ok (.lconst 0, 1) := by decide +kernel
theorem d_Md_next_60 : decode b_Md_next 60 = .ok (.lcmp, 1) := by decide +kernel
theorem d_Md_next_61 : decode b_Md_next 61 = .ok (.ifCond .le 7, 3) := by decide +kernel
theorem d_Md_next_64 : decode b_Md_next 64 = .ok (.iconst 1, 1) := by decide +kernel
theorem d_Md_next_65 : decode b_Md_next 65 = .ok (.goto 4, 3) := by decide +kernel
theorem d_Md_next_68 : decode b_Md_next 68 = .ok (.iconst 0, 1) := by decide +kernel
theorem d_Md_next_69 : decode b_Md_next 69 = .ok (.iadd, 1) := by decide +kernel
theorem d_Md_next_70 : decode b_Md_next 70 = .ok (.putfield 125, 3) := by decide +kernel
theorem d_Md_next_73 : decode b_Md_next 73 = .ok (.return_, 1) := by decide +kernel
theorem d_Md_next_74 : decode b_Md_next 74 = .ok (.iload_n 1, 1) := by decide +kernel
theorem d_Md_next_75 : decode b_Md_next 75 = .ok (.ifCond .ge 54, 3) := by decide +kernel
theorem d_Md_next_78 : decode b_Md_next 78 = .ok (.aload_n 0, 1) := by decide +kernel
theorem d_Md_next_79 : decode b_Md_next 79 = .ok (.getfield 20, 3) := by decide +kernel
theorem d_Md_next_82 : decode b_Md_next 82 = .ok (.aload_n 0, 1) := by decide +kernel
theorem d_Md_next_83 : decode b_Md_next 83 = .ok (.getfield 125, 3) := by decide +kernel
theorem d_Md_next_86 : decode b_Md_next 86 = .ok (.dup2, 1) := by decide +kernel
theorem d_Md_next_87 : decode b_Md_next 87 = .ok (.laload, 1) := by decide +kernel
theorem d_Md_next_88 : decode b_Md_next 88 = .ok (.lconst 1, 1) := by decide +kernel
theorem d_Md_next_89 : decode b_Md_next 89 = .ok (.lsub, 1) := by decide +kernel
theorem d_Md_next_90 : decode b_Md_next 90 = .ok (.lastore, 1) := by decide +kernel
theorem d_Md_next_91 : decode b_Md_next 91 = .ok (.aload_n 0, 1) := by decide +kernel
theorem d_Md_next_92 : decode b_Md_next 92 = .ok (.dup, 1) := by decide +kernel
theorem d_Md_next_93 : decode b_Md_next 93 = .ok (.getfield 125, 3) := by decide +kernel
theorem d_Md_next_96 : decode b_Md_next 96 = .ok (.aload_n 0, 1) := by decide +kernel
theorem d_Md_next_97 : decode b_Md_next 97 = .ok (.getfield 20, 3) := by decide +kernel
theorem d_Md_next_100 : decode b_Md_next 100 = .ok (.aload_n 0, 1) := by decide +kernel
theorem d_Md_next_101 : decode b_Md_next 101 = .ok (.getfield 125, 3) := by decide +kernel
theorem d_Md_next_104 : decode b_Md_next 104 = .ok (.laload, 1) := by decide +kernel
theorem d_Md_next_105 : decode b_Md_next 105 = .ok (.lconst 0, 1) := by decide +kernel
theorem d_Md_next_106 : decode b_Md_next 106 = .ok (.lcmp, 1) := by decide +kernel
theorem d_Md_next_107 : decode b_Md_next 107 = .ok (.ifCond .le 7, 3) := by decide +kernel
theorem d_Md_next_110 : decode b_Md_next 110 = .ok (.iconst 1, 1) := by decide +kernel
theorem d_Md_next_111 : decode b_Md_next 111 = .ok (.goto 4, 3) := by decide +kernel
theorem d_Md_next_114 : decode b_Md_next 114 = .ok (.iconst 0, 1) := by decide +kernel
theorem d_Md_next_115 : decode b_Md_next 115 = .ok (.iadd, 1) := by decide +kernel
theorem d_Md_next_116 : decode b_Md_next 116 = .ok (.putfield 125, 3) := by decide +kernel
theorem d_Md_next_119 : decode b_Md_next 119 = .ok (.aload_n 0, 1) := by decide +kernel
theorem d_Md_next_120 : decode b_Md_next 120 = .ok (.iload_n 1, 1) := by decide +kernel
theorem d_Md_next_121 : decode b_Md_next 121 = .ok (.ineg, 1) := by decide +kernel
theorem d_Md_next_122 : decode b_Md_next 122 = .ok (.bipush 100, 2) := by decide +kernel
theorem d_Md_next_124 : decode b_Md_next 124 = .ok (.isub, 1) := by decide +kernel
theorem d_Md_next_125 : decode b_Md_next 125 = .ok (.invokevirtual 128, 3) := by decide +kernel
theorem d_Md_next_128 : decode b_Md_next 128 = .ok (.return_, 1) := by decide +kernel
theorem d_Md_next_129 : decode b_Md_next 129 = .ok (.iload_n 1, 1) := by decide +kernel
theorem d_Md_next_130 : decode b_Md_next 130 = .ok (.tableswitch 340 1 28 #[126, 134, 141, 149, 157, 185, 212, 228, 243, 270, 277, 291, 319, 326, 333, 340, 340, 340, 340, 340, 340, 340, 340, 340, 340, 340, 340, 260], 126) := by decide +kernel
theorem d_Md_next_256 : decode b_Md_next 256 = .ok (.aload_n 0, 1) := by decide +kernel
theorem d_Md_next_257 : decode b_Md_next 257 = .ok (.invokevirtual 113, 3) := by decide +kernel
theorem d_Md_next_260 : decode b_Md_next 260 = .ok (.pop2, 1) := by decide +kernel
theorem d_Md_next_261 : decode b_Md_next 261 = .ok (.goto 214, 3) := by decide +kernel
theorem d_Md_next_264 : decode b_Md_next 264 = .ok (.aload_n 0, 1) := by decide +kernel
theorem d_Md_next_265 : decode b_Md_next 265 = .ok (.invokevirtual 156, 3) := by decide +kernel
theorem d_Md_next_268 : decode b_Md_next 268 = .ok (.goto 207, 3) := by decide +kernel
theorem d_Md_next_271 : decode b_Md_next 271 = .ok (.aload_n 0, 1) := by decide +kernel
theorem d_Md_next_272 : decode b_Md_next 272 = .ok (.iconst 0, 1) := by decide +kernel
theorem d_Md_next_273 : decode b_Md_next 273 = .ok (.invokevirtual 209, 3) := by decide +kernel
theorem d_Md_next_276 : decode b_Md_next 276 = .ok (.goto 199, 3) := by decide +kernel
theorem d_Md_next_279 : decode b_Md_next 279 = .ok (.aload_n 0, 1) := by decide +kernel
theorem d_Md_next_280 : decode b_Md_next 280 = .ok (.iconst 1, 1) := by decide +kernel
theorem d_Md_next_281 : decode b_Md_next 281 = .ok (.invokevirtual 209, 3) := by decide +kernel
theorem d_Md_next_284 : decode b_Md_next 284 = .ok (.goto 191, 3) := by decide +kernel
theorem d_Md_next_287 : decode b_Md_next 287 = .ok (.aload_n 0, 1) := by decide +kernel
theorem d_Md_next_288 : decode b_Md_next 288 = .ok (.iconst 0, 1) := by decide +kernel
theorem d_Md_next_289 : decode b_Md_next 289 = .ok (.invokevirtual 147, 3) := by decide +kernel
theorem d_Md_next_292 : decode b_Md_next 292 = .ok (.pop, 1) := by decide +kernel
theorem d_Md_next_293 : decode b_Md_next 293 = .ok (.aload_n 0, 1) := by decide +kernel
theorem d_Md_next_294 : decode b_Md_next 294 = .ok (.bipush 96, 2) := by decide +kernel
theorem d_Md_next_296 : decode b_Md_next 296 = .ok (.bipush 96, 2) := by decide +kernel
theorem d_Md_next_298 : decode b_Md_next 298 = .ok (.bipush 8, 2) := by decide +kernel
theorem d_Md_next_300 : decode b_Md_next 300 = .ok (.invokevirtual 159, 3) := by decide +kernel
theorem d_Md_next_303 : decode b_Md_next 303 = .ok (.pop, 1) := by decide +kernel
theorem d_Md_next_304 : decode b_Md_next 304 = .ok (.aload_n 0, 1) := by decide +kernel
theorem d_Md_next_305 : decode b_Md_next 305 = .ok (.bipush 103, 2) := by decide +kernel
theorem d_Md_next_307 : decode b_Md_next 307 = .ok (.bipush 103, 2) := by decide +kernel
theorem d_Md_next_309 : decode b_Md_next 309 = .ok (.invokevirtual 150, 3) := by decide +kernel
theorem d_Md_next_312 : decode b_Md_next 312 = .ok (.goto 163, 3) := by decide +kernel
theorem d_Md_next_315 : decode b_Md_next 315 = .ok (.aload_n 0, 1) := by decide +kernel
theorem d_Md_next_316 : decode b_Md_next 316 = .ok (.iconst 0, 1) := by decide +kernel
theorem d_Md_next_317 : decode b_Md_next 317 = .ok (.iconst 1, 1) := by decide +kernel
theorem d_Md_next_318 : decode b_Md_next 318 = .ok (.bipush 7, 2) := by decide +kernel
theorem d_Md_next_320 : decode b_Md_next 320 = .ok (.invokevirtual 159, 3) := by decide +kernel
theorem d_Md_next_323 : decode b_Md_next 323 = .ok (.istore_n 2, 1) := by decide +kernel
theorem d_Md_next_324 : decode b_Md_next 324 = .ok (.aload_n 0, 1) := by decide +kernel
theorem d_Md_next_325 : decode b_Md_next 325 = .ok (.iconst 1, 1) := by decide +kernel
theorem d_Md_next_326 : decode b_Md_next 326 = .ok (.invokevirtual 128, 3) := by decide +kernel
theorem d_Md_next_329 : decode b_Md_next 329 = .ok (.iload_n 2, 1) := by decide +kernel
theorem d_Md_next_330 : decode b_Md_next 330 = .ok (.iconst 1, 1) := by decide +kernel
theorem d_Md_next_331 : decode b_Md_next 331 = .ok (.if_icmp .ne 144, 3) := by decide +kernel
theorem d_Md_next_334 : decode b_Md_next 334 = .ok (.aload_n 0, 1) := by decide +kernel
theorem d_Md_next_335 : decode b_Md_next 335 = .ok (.iconst 1, 1) := by decide +kernel
theorem d_Md_next_336 : decode b_Md_next 336 = .ok (.invokevirtual 128, 3) := by decide +kernel
theorem d_Md_next_339 : decode b_Md_next 339 = .ok (.goto 136, 3) := by decide +kernel
theorem d_Md_next_342 : decode b_Md_next 342 = .ok (.aload_n 0, 1) := by decide +kernel
theorem d_Md_next_343 : decode b_Md_next 343 = .ok (.iconst 3, 1) := by decide +kernel
theorem d_Md_next_344 : decode b_Md_next 344 = .ok (.invokevirtual 147, 3) := by decide +kernel
theorem d_Md_next_347 : decode b_Md_next 347 = .ok (.pop, 1) := by decide +kernel
theorem d_Md_next_348 : decode b_Md_next 348 = .ok (.aload_n 0, 1) := by decide +kernel
theorem d_Md_next_349 : decode b_Md_next 349 = .ok (.iconst 4, 1) := by decide +kernel
theorem d_Md_next_350 : decode b_Md_next 350 = .ok (.bipush 6, 2) := by decide +kernel
theorem d_Md_next_352 : decode b_Md_next 352 = .ok (.invokevirtual 150, 3) := by decide +kernel
theorem d_Md_next_355 : decode b_Md_next 355 = .ok (.goto 120, 3) := by decide +kernel
theorem d_Md_next_358 : decode b_Md_next 358 = .ok (.aload_n 0, 1) := by decide +kernel
theorem d_Md_next_359 : decode b_Md_next 359 = .ok (.iconst 4, 1) := by decide +kernel
theorem d_Md_next_360 : decode b_Md_next 360 = .ok (.invokevirtual 147, 3) := by decide +kernel
theorem d_Md_next_363 : decode b_Md_next 363 = .ok (.pop, 1) := by decide +kernel
theorem d_Md_next_364 : decode b_Md_next 364 = .ok (.aload_n 0, 1) := by decide +kernel
theorem d_Md_next_365 : decode b_Md_next 365 = .ok (.bipush 6, 2) := by decide +kernel
theorem d_Md_next_367 : decode b_Md_next 367 = .ok (.invokevirtual 128, 3) := by decide +kernel
theorem d_Md_next_370 : decode b_Md_next 370 = .ok (.goto 105, 3) := by decide +kernel
theorem d_Md_next_373 : decode b_Md_next 373 = .ok (.aload_n 0, 1) := by decide +kernel
theorem d_Md_next_374 : decode b_Md_next 374 = .ok (.iconst 5, 1) := by decide +kernel
theorem d_Md_next_375 : decode b_Md_next 375 = .ok (.invokevirtual 147, 3) := by decide +kernel
theorem d_Md_next_378 : decode b_Md_next 378 = .ok (.pop, 1) := by decide +kernel
theorem d_Md_next_379 : decode b_Md_next 379 = .ok (.aload_n 0, 1) := by decide +kernel
theorem d_Md_next_380 : decode b_Md_next 380 = .ok (.bipush 28, 2) := by decide +kernel
theorem d_Md_next_382 : decode b_Md_next 382 = .ok (.bipush 16, 2) := by decide +kernel
theorem d_Md_next_384 : decode b_Md_next 384 = .ok (.invokevirtual 150, 3) := by decide +kernel
theorem d_Md_next_387 : decode b_Md_next 387 = .ok (.goto 88, 3) := by decide +kernel
theorem d_Md_next_390 : decode b_Md_next 390 = .ok (.aload_n 0, 1) := by decide +kernel
theorem d_Md_next_391 : decode b_Md_next 391 = .ok (.iconst 3, 1) := by decide +kernel
theorem d_Md_next_392 : decode b_Md_next 392 = .ok (.bipush 19, 2) := by decide +kernel
theorem d_Md_next_394 : decode b_Md_next 394 = .ok (.invokevirtual 150, 3) := by decide +kernel
theorem d_Md_next_397 : decode b_Md_next 397 = .ok (.goto 78, 3) := by decide +kernel
theorem d_Md_next_400 : decode b_Md_next 400 = .ok (.aload_n 0, 1) := by decide +kernel
theorem d_Md_next_401 : decode b_Md_next 401 = .ok (.invokevirtual 213, 3) := by decide +kernel
theorem d_Md_next_404 : decode b_Md_next 404 = .ok (.goto 71, 3) := by decide +kernel
theorem d_Md_next_407 : decode b_Md_next 407 = .ok (.aload_n 0, 1) := by decide +kernel
theorem d_Md_next_408 : decode b_Md_next 408 = .ok (.iconst 2, 1) := by decide +kernel
theorem d_Md_next_409 : decode b_Md_next 409 = .ok (.invokevirtual 147, 3) := by decide +kernel
theorem d_Md_next_412 : decode b_Md_next 412 = .ok (.pop, 1) := by decide +kernel
theorem d_Md_next_413 : decode b_Md_next 413 = .ok (.aload_n 0, 1) := by decide +kernel
theorem d_Md_next_414 : decode b_Md_next 414 = .ok (.invokevirtual 113, 3) := by decide +kernel
theorem d_Md_next_417 : decode b_Md_next 417 = .ok (.pop2, 1) := by decide +kernel
theorem d_Md_next_418 : decode b_Md_next 418 = .ok (.goto 57, 3) := by decide +kernel
theorem d_Md_next_421 : decode b_Md_next 421 = .ok (.aload_n 0, 1) := by decide +kernel
theorem d_Md_next_422 : decode b_Md_next 422 = .ok (.bipush 6, 2) := by decide +kernel
theorem d_Md_next_424 : decode b_Md_next 424 = .ok (.invokevirtual 147, 3) := by decide +kernel
theorem d_Md_next_427 : decode b_Md_next 427 = .ok (.pop, 1) := by decide +kernel
theorem d_Md_next_428 : decode b_Md_next 428 = .ok (.aload_n 0, 1) := by decide +kernel
theorem d_Md_next_429 : decode b_Md_next 429 = .ok (.invokevirtual 156, 3) := by decide +kernel
theorem d_Md_next_432 : decode b_Md_next 432 = .ok (.aload_n 0, 1) := by decide +kernel
theorem d_Md_next_433 : decode b_Md_next 433 = .ok (.iconst 0, 1) := by decide +kernel
theorem d_Md_next_434 : decode b_Md_next 434 = .ok (.iconst 3, 1) := by decide +kernel
theorem d_Md_next_435 : decode b_Md_next 435 = .ok (.bipush 7, 2) := by decide +kernel
theorem d_Md_next_437 : decode b_Md_next 437 = .ok (.invokevirtual 159, 3) := by decide +kernel
theorem d_Md_next_440 : decode b_Md_next 440 = .ok (.pop, 1) := by decide +kernel
theorem d_Md_next_441 : decode b_Md_next 441 = .ok (.aload_n 0, 1) := by decide +kernel
theorem d_Md_next_442 : decode b_Md_next 442 = .ok (.iconst 1, 1) := by decide +kernel
theorem d_Md_next_443 : decode b_Md_next 443 = .ok (.invokevirtual 128, 3) := by decide +kernel
theorem d_Md_next_446 : decode b_Md_next 446 = .ok (.goto 29, 3) := by decide +kernel
theorem d_Md_next_449 : decode b_Md_next 449 = .ok (.aload_n 0, 1) := by decide +kernel
theorem d_Md_next_450 : decode b_Md_next 450 = .ok (.invokevirtual 216, 3) := by decide +kernel
theorem d_Md_next_453 : decode b_Md_next 453 = .ok (.goto 22, 3) := by decide +kernel
theorem d_Md_next_456 : decode b_Md_next 456 = .ok (.aload_n 0, 1) := by decide +kernel
theorem d_Md_next_457 : decode b_Md_next 457 = .ok (.invokevirtual 219, 3) := by decide +kernel
theorem d_Md_next_460 : decode b_Md_next 460 = .ok (.goto 15, 3) := by decide +kernel
theorem d_Md_next_463 : decode b_Md_next 463 = .ok (.aload_n 0, 1) := by decide +kernel
theorem d_Md_next_464 : decode b_Md_next 464 = .ok (.invokevirtual 222, 3) := by decide +kernel
theorem d_Md_next_467 : decode b_Md_next 467 = .ok (.goto 8, 3) := by decide +kernel
theorem d_Md_next_470 : decode b_Md_next 470 = .ok (.aload_n 0, 1) := by decide +kernel
theorem d_Md_next_471 : decode b_Md_next 471 = .ok (.iload_n 1, 1) := by decide +kernel
theorem d_Md_next_472 : decode b_Md_next 472 = .ok (.invokevirtual 225, 3) := by decide +kernel
theorem d_Md_next_475 : decode b_Md_next 475 = .ok (.return_, 1) := by decide +kernel
abbrev b_Md_takeU32 : ByteArray := prog_8_method_6_code
abbrev y_Md_takeU32 : MethodName := ⟨"ModuleBytesModel", "takeU32", "()J"⟩
theorem d_Md_takeU32_0 : decode b_Md_takeU32 0 = .ok (.lconst 0, 1) := by decide +kernel
theorem d_Md_takeU32_1 : decode b_Md_takeU32 1 = .ok (.lstore_n 1, 1) := by decide +kernel
theorem d_Md_takeU32_2 : decode b_Md_takeU32 2 = .ok (.iconst 0, 1) := by decide +kernel
theorem d_Md_takeU32_3 : decode b_Md_takeU32 3 = .ok (.istore_n 3, 1) := by decide +kernel
theorem d_Md_takeU32_4 : decode b_Md_takeU32 4 = .ok (.iload_n 3, 1) := by decide +kernel
theorem d_Md_takeU32_5 : decode b_Md_takeU32 5 = .ok (.iconst 5, 1) := by decide +kernel
theorem d_Md_takeU32_6 : decode b_Md_takeU32 6 = .ok (.if_icmp .ge 69, 3) := by decide +kernel
theorem d_Md_takeU32_9 : decode b_Md_takeU32 9 = .ok (.aload_n 0, 1) := by decide +kernel
theorem d_Md_takeU32_10 : decode b_Md_takeU32 10 = .ok (.getfield 82, 3) := by decide +kernel
theorem d_Md_takeU32_13 : decode b_Md_takeU32 13 = .ok (.ifCond .ne 62, 3) := by decide +kernel
theorem d_Md_takeU32_16 : decode b_Md_takeU32 16 = .ok (.aload_n 0, 1) := by decide +kernel
theorem d_Md_takeU32_17 : decode b_Md_takeU32 17 = .ok (.invokevirtual 98, 3) := by decide +kernel
theorem d_Md_takeU32_20 : decode b_Md_takeU32 20 = .ok (.istore 4, 2) := by decide +kernel
theorem d_Md_takeU32_22 : decode b_Md_takeU32 22 = .ok (.iload_n 3, 1) := by decide +kernel
theorem d_Md_takeU32_23 : decode b_Md_takeU32 23 = .ok (.iconst 4, 1) := by decide +kernel
theorem d_Md_takeU32_24 : decode b_Md_takeU32 24 = .ok (.if_icmp .ne 21, 3) := by decide +kernel
theorem d_Md_takeU32_27 : decode b_Md_takeU32 27 = .ok (.iload 4, 2) := by decide +kernel
theorem d_Md_takeU32_29 : decode b_Md_takeU32 29 = .ok (.bipush 15, 2) := by decide +kernel
theorem d_Md_takeU32_31 : decode b_Md_takeU32 31 = .ok (.if_icmp .le 14, 3) := by decide +kernel
theorem d_Md_takeU32_34 : decode b_Md_takeU32 34 = .ok (.aload_n 0, 1) := by decide +kernel
theorem d_Md_takeU32_35 : decode b_Md_takeU32 35 = .ok (.iconst 4, 1) := by decide +kernel
theorem d_Md_takeU32_36 : decode b_Md_takeU32 36 = .ok (.aload_n 0, 1) := by decide +kernel
theorem d_Md_takeU32_37 : decode b_Md_takeU32 37 = .ok (.getfield 88, 3) := by decide +kernel
theorem d_Md_takeU32_40 : decode b_Md_takeU32 40 = .ok (.iconst 1, 1) := by decide +kernel
theorem d_Md_takeU32_41 : decode b_Md_takeU32 41 = .ok (.isub, 1) := by decide +kernel
theorem d_Md_takeU32_42 : decode b_Md_takeU32 42 = .ok (.invokevirtual 94, 3) := by decide +kernel
theorem d_Md_takeU32_45 : decode b_Md_takeU32 45 = .ok (.lload_n 1, 1) := by decide +kernel
theorem d_Md_takeU32_46 : decode b_Md_takeU32 46 = .ok (.iload 4, 2) := by decide +kernel
theorem d_Md_takeU32_48 : decode b_Md_takeU32 48 = .ok (.bipush 127, 2) := by decide +kernel
theorem d_Md_takeU32_50 : decode b_Md_takeU32 50 = .ok (.iand, 1) := by decide +kernel
theorem d_Md_takeU32_51 : decode b_Md_takeU32 51 = .ok (.i2l, 1) := by decide +kernel
theorem d_Md_takeU32_52 : decode b_Md_takeU32 52 = .ok (.bipush 7, 2) := by decide +kernel
theorem d_Md_takeU32_54 : decode b_Md_takeU32 54 = .ok (.iload_n 3, 1) := by decide +kernel
theorem d_Md_takeU32_55 : decode b_Md_takeU32 55 = .ok (.imul, 1) := by decide +kernel
theorem d_Md_takeU32_56 : decode b_Md_takeU32 56 = .ok (.lshl, 1) := by decide +kernel
theorem d_Md_takeU32_57 : decode b_Md_takeU32 57 = .ok (.lor, 1) := by decide +kernel
theorem d_Md_takeU32_58 : decode b_Md_takeU32 58 = .ok (.lstore_n 1, 1) := by decide +kernel
theorem d_Md_takeU32_59 : decode b_Md_takeU32 59 = .ok (.iload 4, 2) := by decide +kernel
theorem d_Md_takeU32_61 : decode b_Md_takeU32 61 = .ok (.sipush 128, 3) := by decide +kernel
theorem d_Md_takeU32_64 : decode b_Md_takeU32 64 = .ok (.if_icmp .ge 5, 3) := by decide +kernel
theorem d_Md_takeU32_67 : decode b_Md_takeU32 67 = .ok (.lload_n 1, 1) := by decide +kernel
theorem d_Md_takeU32_68 : decode b_Md_takeU32 68 = .ok (.lreturn, 1) := by decide +kernel
theorem d_Md_takeU32_69 : decode b_Md_takeU32 69 = .ok (.iinc 3 1, 3) := by decide +kernel
theorem d_Md_takeU32_72 : decode b_Md_takeU32 72 = .ok (.goto (-68), 3) := by decide +kernel
theorem d_Md_takeU32_75 : decode b_Md_takeU32 75 = .ok (.lload_n 1, 1) := by decide +kernel
theorem d_Md_takeU32_76 : decode b_Md_takeU32 76 = .ok (.lreturn, 1) := by decide +kernel
abbrev b_Md_takeName : ByteArray := prog_8_method_14_code
abbrev y_Md_takeName : MethodName := ⟨"ModuleBytesModel", "takeName", "()V"⟩
theorem d_Md_takeName_0 : decode b_Md_takeName 0 = .ok (.aload_n 0, 1) := by decide +kernel
theorem d_Md_takeName_1 : decode b_Md_takeName 1 = .ok (.invokevirtual 113, 3) := by decide +kernel
theorem d_Md_takeName_4 : decode b_Md_takeName 4 = .ok (.lstore_n 1, 1) := by decide +kernel
theorem d_Md_takeName_5 : decode b_Md_takeName 5 = .ok (.aload_n 0, 1) := by decide +kernel
theorem d_Md_takeName_6 : decode b_Md_takeName 6 = .ok (.getfield 88, 3) := by decide +kernel
theorem d_Md_takeName_9 : decode b_Md_takeName 9 = .ok (.istore_n 3, 1) := by decide +kernel
theorem d_Md_takeName_10 : decode b_Md_takeName 10 = .ok (.aload_n 0, 1) := by decide +kernel
theorem d_Md_takeName_11 : decode b_Md_takeName 11 = .ok (.lload_n 1, 1) := by decide +kernel
theorem d_Md_takeName_12 : decode b_Md_takeName 12 = .ok (.invokevirtual 117, 3) := by decide +kernel
theorem d_Md_takeName_15 : decode b_Md_takeName 15 = .ok (.iload_n 3, 1) := by decide +kernel
theorem d_Md_takeName_16 : decode b_Md_takeName 16 = .ok (.istore 4, 2) := by decide +kernel
theorem d_Md_takeName_18 : decode b_Md_takeName 18 = .ok (.aload_n 0, 1) := by decide +kernel
theorem d_Md_takeName_19 : decode b_Md_takeName 19 = .ok (.getfield 82, 3) := by decide +kernel
theorem d_Md_takeName_22 : decode b_Md_takeName 22 = .ok (.ifCond .ne 47, 3) := by decide +kernel
theorem d_Md_takeName_25 : decode b_Md_takeName 25 = .ok (.iload 4, 2) := by decide +kernel
theorem d_Md_takeName_27 : decode b_Md_takeName 27 = .ok (.aload_n 0, 1) := by decide +kernel
theorem d_Md_takeName_28 : decode b_Md_takeName 28 = .ok (.getfield 88, 3) := by decide +kernel
theorem d_Md_takeName_31 : decode b_Md_takeName 31 = .ok (.if_icmp .ge 38, 3) := by decide +kernel
theorem d_Md_takeName_34 : decode b_Md_takeName 34 = .ok (.aload_n 0, 1) := by decide +kernel
theorem d_Md_takeName_35 : decode b_Md_takeName 35 = .ok (.iload 4, 2) := by decide +kernel
theorem d_Md_takeName_37 : decode b_Md_takeName 37 = .ok (.aload_n 0, 1) := by decide +kernel
theorem d_Md_takeName_38 : decode b_Md_takeName 38 = .ok (.getfield 88, 3) := by decide +kernel
theorem d_Md_takeName_41 : decode b_Md_takeName 41 = .ok (.invokevirtual 121, 3) := by decide +kernel
theorem d_Md_takeName_44 : decode b_Md_takeName 44 = .ok (.istore 5, 2) := by decide +kernel
theorem d_Md_takeName_46 : decode b_Md_takeName 46 = .ok (.iload 5, 2) := by decide +kernel
theorem d_Md_takeName_48 : decode b_Md_takeName 48 = .ok (.ifCond .ne 11, 3) := by decide +kernel
theorem d_Md_takeName_51 : decode b_Md_takeName 51 = .ok (.aload_n 0, 1) := by decide +kernel
theorem d_Md_takeName_52 : decode b_Md_takeName 52 = .ok (.bipush 9, 2) := by decide +kernel
theorem d_Md_takeName_54 : decode b_Md_takeName 54 = .ok (.iload 4, 2) := by decide +kernel
theorem d_Md_takeName_56 : decode b_Md_takeName 56 = .ok (.invokevirtual 94, 3) := by decide +kernel
theorem d_Md_takeName_59 : decode b_Md_takeName 59 = .ok (.iload 4, 2) := by decide +kernel
theorem d_Md_takeName_61 : decode b_Md_takeName 61 = .ok (.iload 5, 2) := by decide +kernel
theorem d_Md_takeName_63 : decode b_Md_takeName 63 = .ok (.iadd, 1) := by decide +kernel
theorem d_Md_takeName_64 : decode b_Md_takeName 64 = .ok (.istore 4, 2) := by decide +kernel
theorem d_Md_takeName_66 : decode b_Md_takeName 66 = .ok (.goto (-48), 3) := by decide +kernel
theorem d_Md_takeName_69 : decode b_Md_takeName 69 = .ok (.return_, 1) := by decide +kernel
abbrev b_Md_skip : ByteArray := prog_8_method_12_code
abbrev y_Md_skip : MethodName := ⟨"ModuleBytesModel", "skip", "(J)V"⟩
theorem d_Md_skip_0 : decode b_Md_skip 0 = .ok (.aload_n 0, 1) := by decide +kernel
theorem d_Md_skip_1 : decode b_Md_skip 1 = .ok (.getfield 24, 3) := by decide +kernel
theorem d_Md_skip_4 : decode b_Md_skip 4 = .ok (.aload_n 0, 1) := by decide +kernel
theorem d_Md_skip_5 : decode b_Md_skip 5 = .ok (.getfield 91, 3) := by decide +kernel
theorem d_Md_skip_8 : decode b_Md_skip 8 = .ok (.iconst 1, 1) := by decide +kernel
theorem d_Md_skip_9 : decode b_Md_skip 9 = .ok (.isub, 1) := by decide +kernel
theorem d_Md_skip_10 : decode b_Md_skip 10 = .ok (.iaload, 1) := by decide +kernel
theorem d_Md_skip_11 : decode b_Md_skip 11 = .ok (.aload_n 0, 1) := by decide +kernel
theorem d_Md_skip_12 : decode b_Md_skip 12 = .ok (.getfield 88, 3) := by decide +kernel
theorem d_Md_skip_15 : decode b_Md_skip 15 = .ok (.isub, 1) := by decide +kernel
theorem d_Md_skip_16 : decode b_Md_skip 16 = .ok (.i2l, 1) := by decide +kernel
theorem d_Md_skip_17 : decode b_Md_skip 17 = .ok (.lstore_n 3, 1) := by decide +kernel
theorem d_Md_skip_18 : decode b_Md_skip 18 = .ok (.lload_n 1, 1) := by decide +kernel
theorem d_Md_skip_19 : decode b_Md_skip 19 = .ok (.lload_n 3, 1) := by decide +kernel
theorem d_Md_skip_20 : decode b_Md_skip 20 = .ok (.lcmp, 1) := by decide +kernel
theorem d_Md_skip_21 : decode b_Md_skip 21 = .ok (.ifCond .le 19, 3) := by decide +kernel
theorem d_Md_skip_24 : decode b_Md_skip 24 = .ok (.aload_n 0, 1) := by decide +kernel
theorem d_Md_skip_25 : decode b_Md_skip 25 = .ok (.iconst 1, 1) := by decide +kernel
theorem d_Md_skip_26 : decode b_Md_skip 26 = .ok (.aload_n 0, 1) := by decide +kernel
theorem d_Md_skip_27 : decode b_Md_skip 27 = .ok (.getfield 24, 3) := by decide +kernel
theorem d_Md_skip_30 : decode b_Md_skip 30 = .ok (.aload_n 0, 1) := by decide +kernel
theorem d_Md_skip_31 : decode b_Md_skip 31 = .ok (.getfield 91, 3) := by decide +kernel
theorem d_Md_skip_34 : decode b_Md_skip 34 = .ok (.iconst 1, 1) := by decide +kernel
theorem d_Md_skip_35 : decode b_Md_skip 35 = .ok (.isub, 1) := by decide +kernel
theorem d_Md_skip_36 : decode b_Md_skip 36 = .ok (.iaload, 1) := by decide +kernel
theorem d_Md_skip_37 : decode b_Md_skip 37 = .ok (.invokevirtual 94, 3) := by decide +kernel
theorem d_Md_skip_40 : decode b_Md_skip 40 = .ok (.aload_n 0, 1) := by decide +kernel
theorem d_Md_skip_41 : decode b_Md_skip 41 = .ok (.dup, 1) := by decide +kernel
theorem d_Md_skip_42 : decode b_Md_skip 42 = .ok (.getfield 88, 3) := by decide +kernel
theorem d_Md_skip_45 : decode b_Md_skip 45 = .ok (.aload_n 0, 1) := by decide +kernel
theorem d_Md_skip_46 : decode b_Md_skip 46 = .ok (.getfield 82, 3) := by decide +kernel
theorem d_Md_skip_49 : decode b_Md_skip 49 = .ok (.ifCond .le 7, 3) := by decide +kernel
theorem d_Md_skip_52 : decode b_Md_skip 52 = .ok (.iconst 0, 1) := by decide +kernel
theorem d_Md_skip_53 : decode b_Md_skip 53 = .ok (.goto 5, 3) := by decide +kernel
theorem d_Md_skip_56 : decode b_Md_skip 56 = .ok (.lload_n 1, 1) := by decide +kernel
theorem d_Md_skip_57 : decode b_Md_skip 57 = .ok (.l2i, 1) := by decide +kernel
theorem d_Md_skip_58 : decode b_Md_skip 58 = .ok (.iadd, 1) := by decide +kernel
theorem d_Md_skip_59 : decode b_Md_skip 59 = .ok (.putfield 88, 3) := by decide +kernel
theorem d_Md_skip_62 : decode b_Md_skip 62 = .ok (.return_, 1) := by decide +kernel
