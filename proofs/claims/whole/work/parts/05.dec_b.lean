abbrev b_Mb_init : ByteArray := prog_1_method_1_code
abbrev y_Mb_init : MethodName := ⟨"ModuleBytes", "<init>", "()V"⟩
def w_Mb_init : List Cond := .code y_Mb_init b_Mb_init 1 (Option.none : Option Jvm.ClassFile.FieldType) :: wAll
theorem d_Mb_init_0 : decode b_Mb_init 0 = .ok (.aload_n 0, 1) := by decide +kernel
theorem d_Mb_init_1 : decode b_Mb_init 1 = .ok (.invokespecial 1, 3) := by decide +kernel
theorem d_Mb_init_4 : decode b_Mb_init 4 = .ok (.aload_n 0, 1) := by decide +kernel
theorem d_Mb_init_5 : decode b_Mb_init 5 = .ok (.new 7, 3) := by decide +kernel
theorem d_Mb_init_8 : decode b_Mb_init 8 = .ok (.dup, 1) := by decide +kernel
theorem d_Mb_init_9 : decode b_Mb_init 9 = .ok (.invokespecial 9, 3) := by decide +kernel
theorem d_Mb_init_12 : decode b_Mb_init 12 = .ok (.putfield 10, 3) := by decide +kernel
theorem d_Mb_init_15 : decode b_Mb_init 15 = .ok (.aload_n 0, 1) := by decide +kernel
theorem d_Mb_init_16 : decode b_Mb_init 16 = .ok (.new 7, 3) := by decide +kernel
theorem d_Mb_init_19 : decode b_Mb_init 19 = .ok (.dup, 1) := by decide +kernel
theorem d_Mb_init_20 : decode b_Mb_init 20 = .ok (.invokespecial 9, 3) := by decide +kernel
theorem d_Mb_init_23 : decode b_Mb_init 23 = .ok (.putfield 16, 3) := by decide +kernel
theorem d_Mb_init_26 : decode b_Mb_init 26 = .ok (.aload_n 0, 1) := by decide +kernel
theorem d_Mb_init_27 : decode b_Mb_init 27 = .ok (.new 19, 3) := by decide +kernel
theorem d_Mb_init_30 : decode b_Mb_init 30 = .ok (.dup, 1) := by decide +kernel
theorem d_Mb_init_31 : decode b_Mb_init 31 = .ok (.aload_n 0, 1) := by decide +kernel
theorem d_Mb_init_32 : decode b_Mb_init 32 = .ok (.getfield 16, 3) := by decide +kernel
theorem d_Mb_init_35 : decode b_Mb_init 35 = .ok (.invokespecial 21, 3) := by decide +kernel
theorem d_Mb_init_38 : decode b_Mb_init 38 = .ok (.putfield 24, 3) := by decide +kernel
theorem d_Mb_init_41 : decode b_Mb_init 41 = .ok (.aload_n 0, 1) := by decide +kernel
theorem d_Mb_init_42 : decode b_Mb_init 42 = .ok (.iconst 0, 1) := by decide +kernel
theorem d_Mb_init_43 : decode b_Mb_init 43 = .ok (.putfield 28, 3) := by decide +kernel
theorem d_Mb_init_46 : decode b_Mb_init 46 = .ok (.aload_n 0, 1) := by decide +kernel
theorem d_Mb_init_47 : decode b_Mb_init 47 = .ok (.iconst (-1), 1) := by decide +kernel
theorem d_Mb_init_48 : decode b_Mb_init 48 = .ok (.putfield 32, 3) := by decide +kernel
theorem d_Mb_init_51 : decode b_Mb_init 51 = .ok (.return_, 1) := by decide +kernel
abbrev b_Mr_init : ByteArray := prog_4_method_1_code
abbrev y_Mr_init : MethodName := ⟨"ModuleBytes$ModuleReader", "<init>", "(LModuleBytes$Contents;)V"⟩
def w_Mr_init : List Cond := .code y_Mr_init b_Mr_init 2 (Option.none : Option Jvm.ClassFile.FieldType) :: wAll
theorem d_Mr_init_0 : decode b_Mr_init 0 = .ok (.aload_n 0, 1) := by decide +kernel
theorem d_Mr_init_1 : decode b_Mr_init 1 = .ok (.invokespecial 3, 3) := by decide +kernel
theorem d_Mr_init_4 : decode b_Mr_init 4 = .ok (.aload_n 0, 1) := by decide +kernel
theorem d_Mr_init_5 : decode b_Mr_init 5 = .ok (.aload_n 1, 1) := by decide +kernel
theorem d_Mr_init_6 : decode b_Mr_init 6 = .ok (.putfield 9, 3) := by decide +kernel
theorem d_Mr_init_9 : decode b_Mr_init 9 = .ok (.aload_n 0, 1) := by decide +kernel
theorem d_Mr_init_10 : decode b_Mr_init 10 = .ok (.new 15, 3) := by decide +kernel
theorem d_Mr_init_13 : decode b_Mr_init 13 = .ok (.dup, 1) := by decide +kernel
theorem d_Mr_init_14 : decode b_Mr_init 14 = .ok (.aload_n 1, 1) := by decide +kernel
theorem d_Mr_init_15 : decode b_Mr_init 15 = .ok (.getfield 17, 3) := by decide +kernel
theorem d_Mr_init_18 : decode b_Mr_init 18 = .ok (.invokespecial 23, 3) := by decide +kernel
theorem d_Mr_init_21 : decode b_Mr_init 21 = .ok (.putfield 26, 3) := by decide +kernel
theorem d_Mr_init_24 : decode b_Mr_init 24 = .ok (.aload_n 0, 1) := by decide +kernel
theorem d_Mr_init_25 : decode b_Mr_init 25 = .ok (.new 30, 3) := by decide +kernel
theorem d_Mr_init_28 : decode b_Mr_init 28 = .ok (.dup, 1) := by decide +kernel
theorem d_Mr_init_29 : decode b_Mr_init 29 = .ok (.aload_n 0, 1) := by decide +kernel
theorem d_Mr_init_30 : decode b_Mr_init 30 = .ok (.getfield 26, 3) := by decide +kernel
theorem d_Mr_init_33 : decode b_Mr_init 33 = .ok (.invokespecial 32, 3) := by decide +kernel
theorem d_Mr_init_36 : decode b_Mr_init 36 = .ok (.putfield 35, 3) := by decide +kernel
theorem d_Mr_init_39 : decode b_Mr_init 39 = .ok (.aload_n 0, 1) := by decide +kernel
theorem d_Mr_init_40 : decode b_Mr_init 40 = .ok (.iconst 0, 1) := by decide +kernel
theorem d_Mr_init_41 : decode b_Mr_init 41 = .ok (.putfield 39, 3) := by decide +kernel
theorem d_Mr_init_44 : decode b_Mr_init 44 = .ok (.return_, 1) := by decide +kernel
abbrev b_Mb_feed : ByteArray := prog_1_method_2_code
abbrev y_Mb_feed : MethodName := ⟨"ModuleBytes", "feed", "(IIIII)I"⟩
def w_Mb_feed : List Cond := .code y_Mb_feed b_Mb_feed 6 (Option.some Jvm.ClassFile.FieldType.int) :: wAll
theorem d_Mb_feed_0 : decode b_Mb_feed 0 = .ok (.aload_n 0, 1) := by decide +kernel
theorem d_Mb_feed_1 : decode b_Mb_feed 1 = .ok (.getfield 28, 3) := by decide +kernel
theorem d_Mb_feed_4 : decode b_Mb_feed 4 = .ok (.sipush 1980, 3) := by decide +kernel
theorem d_Mb_feed_7 : decode b_Mb_feed 7 = .ok (.if_icmp .le 5, 3) := by decide +kernel
theorem d_Mb_feed_10 : decode b_Mb_feed 10 = .ok (.iconst (-1), 1) := by decide +kernel
theorem d_Mb_feed_11 : decode b_Mb_feed 11 = .ok (.ireturn, 1) := by decide +kernel
theorem d_Mb_feed_12 : decode b_Mb_feed 12 = .ok (.aload_n 0, 1) := by decide +kernel
theorem d_Mb_feed_13 : decode b_Mb_feed 13 = .ok (.getfield 16, 3) := by decide +kernel
theorem d_Mb_feed_16 : decode b_Mb_feed 16 = .ok (.aload_n 0, 1) := by decide +kernel
theorem d_Mb_feed_17 : decode b_Mb_feed 17 = .ok (.getfield 28, 3) := by decide +kernel
theorem d_Mb_feed_20 : decode b_Mb_feed 20 = .ok (.iload_n 1, 1) := by decide +kernel
theorem d_Mb_feed_21 : decode b_Mb_feed 21 = .ok (.invokevirtual 35, 3) := by decide +kernel
theorem d_Mb_feed_24 : decode b_Mb_feed 24 = .ok (.aload_n 0, 1) := by decide +kernel
theorem d_Mb_feed_25 : decode b_Mb_feed 25 = .ok (.getfield 16, 3) := by decide +kernel
theorem d_Mb_feed_28 : decode b_Mb_feed 28 = .ok (.aload_n 0, 1) := by decide +kernel
theorem d_Mb_feed_29 : decode b_Mb_feed 29 = .ok (.getfield 28, 3) := by decide +kernel
theorem d_Mb_feed_32 : decode b_Mb_feed 32 = .ok (.iconst 4, 1) := by decide +kernel
theorem d_Mb_feed_33 : decode b_Mb_feed 33 = .ok (.iadd, 1) := by decide +kernel
theorem d_Mb_feed_34 : decode b_Mb_feed 34 = .ok (.iload_n 2, 1) := by decide +kernel
theorem d_Mb_feed_35 : decode b_Mb_feed 35 = .ok (.invokevirtual 35, 3) := by decide +kernel
theorem d_Mb_feed_38 : decode b_Mb_feed 38 = .ok (.aload_n 0, 1) := by decide +kernel
theorem d_Mb_feed_39 : decode b_Mb_feed 39 = .ok (.getfield 16, 3) := by decide +kernel
theorem d_Mb_feed_42 : decode b_Mb_feed 42 = .ok (.aload_n 0, 1) := by decide +kernel
theorem d_Mb_feed_43 : decode b_Mb_feed 43 = .ok (.getfield 28, 3) := by decide +kernel
theorem d_Mb_feed_46 : decode b_Mb_feed 46 = .ok (.bipush 8, 2) := by decide +kernel
theorem d_Mb_feed_48 : decode b_Mb_feed 48 = .ok (.iadd, 1) := by decide +kernel
theorem d_Mb_feed_49 : decode b_Mb_feed 49 = .ok (.iload_n 3, 1) := by decide +kernel
theorem d_Mb_feed_50 : decode b_Mb_feed 50 = .ok (.invokevirtual 35, 3) := by decide +kernel
theorem d_Mb_feed_53 : decode b_Mb_feed 53 = .ok (.aload_n 0, 1) := by decide +kernel
theorem d_Mb_feed_54 : decode b_Mb_feed 54 = .ok (.getfield 16, 3) := by decide +kernel
theorem d_Mb_feed_57 : decode b_Mb_feed 57 = .ok (.aload_n 0, 1) := by decide +kernel
theorem d_Mb_feed_58 : decode b_Mb_feed 58 = .ok (.getfield 28, 3) := by decide +kernel
theorem d_Mb_feed_61 : decode b_Mb_feed 61 = .ok (.bipush 12, 2) := by decide +kernel
theorem d_Mb_feed_63 : decode b_Mb_feed 63 = .ok (.iadd, 1) := by decide +kernel
theorem d_Mb_feed_64 : decode b_Mb_feed 64 = .ok (.iload 4, 2) := by decide +kernel
theorem d_Mb_feed_66 : decode b_Mb_feed 66 = .ok (.invokevirtual 35, 3) := by decide +kernel
theorem d_Mb_feed_69 : decode b_Mb_feed 69 = .ok (.aload_n 0, 1) := by decide +kernel
theorem d_Mb_feed_70 : decode b_Mb_feed 70 = .ok (.getfield 16, 3) := by decide +kernel
theorem d_Mb_feed_73 : decode b_Mb_feed 73 = .ok (.aload_n 0, 1) := by decide +kernel
theorem d_Mb_feed_74 : decode b_Mb_feed 74 = .ok (.getfield 28, 3) := by decide +kernel
theorem d_Mb_feed_77 : decode b_Mb_feed 77 = .ok (.bipush 16, 2) := by decide +kernel
theorem d_Mb_feed_79 : decode b_Mb_feed 79 = .ok (.iadd, 1) := by decide +kernel
theorem d_Mb_feed_80 : decode b_Mb_feed 80 = .ok (.iload 5, 2) := by decide +kernel
theorem d_Mb_feed_82 : decode b_Mb_feed 82 = .ok (.invokevirtual 35, 3) := by decide +kernel
theorem d_Mb_feed_85 : decode b_Mb_feed 85 = .ok (.aload_n 0, 1) := by decide +kernel
theorem d_Mb_feed_86 : decode b_Mb_feed 86 = .ok (.dup, 1) := by decide +kernel
theorem d_Mb_feed_87 : decode b_Mb_feed 87 = .ok (.getfield 28, 3) := by decide +kernel
theorem d_Mb_feed_90 : decode b_Mb_feed 90 = .ok (.bipush 20, 2) := by decide +kernel
theorem d_Mb_feed_92 : decode b_Mb_feed 92 = .ok (.iadd, 1) := by decide +kernel
theorem d_Mb_feed_93 : decode b_Mb_feed 93 = .ok (.putfield 28, 3) := by decide +kernel
theorem d_Mb_feed_96 : decode b_Mb_feed 96 = .ok (.aload_n 0, 1) := by decide +kernel
theorem d_Mb_feed_97 : decode b_Mb_feed 97 = .ok (.getfield 28, 3) := by decide +kernel
theorem d_Mb_feed_100 : decode b_Mb_feed 100 = .ok (.ireturn, 1) := by decide +kernel
abbrev b_Mb_end : ByteArray := prog_1_method_3_code
abbrev y_Mb_end : MethodName := ⟨"ModuleBytes", "end", "(I)I"⟩
def w_Mb_end : List Cond := .codeWith y_Mb_end b_Mb_end 3 (Option.some Jvm.ClassFile.FieldType.int) [((19 : Nat), (31 : Nat), (34 : Nat), (43 : Nat))] :: wAll
theorem d_Mb_end_0 : decode b_Mb_end 0 = .ok (.iload_n 1, 1) := by decide +kernel
theorem d_Mb_end_1 : decode b_Mb_end 1 = .ok (.ifCond .lt 11, 3) := by decide +kernel
theorem d_Mb_end_4 : decode b_Mb_end 4 = .ok (.iload_n 1, 1) := by decide +kernel
theorem d_Mb_end_5 : decode b_Mb_end 5 = .ok (.aload_n 0, 1) := by decide +kernel
theorem d_Mb_end_6 : decode b_Mb_end 6 = .ok (.getfield 28, 3) := by decide +kernel
theorem d_Mb_end_9 : decode b_Mb_end 9 = .ok (.if_icmp .le 5, 3) := by decide +kernel
theorem d_Mb_end_12 : decode b_Mb_end 12 = .ok (.iconst (-1), 1) := by decide +kernel
theorem d_Mb_end_13 : decode b_Mb_end 13 = .ok (.ireturn, 1) := by decide +kernel
theorem d_Mb_end_14 : decode b_Mb_end 14 = .ok (.aload_n 0, 1) := by decide +kernel
theorem d_Mb_end_15 : decode b_Mb_end 15 = .ok (.iconst 0, 1) := by decide +kernel
theorem d_Mb_end_16 : decode b_Mb_end 16 = .ok (.putfield 28, 3) := by decide +kernel
theorem d_Mb_end_19 : decode b_Mb_end 19 = .ok (.aload_n 0, 1) := by decide +kernel
theorem d_Mb_end_20 : decode b_Mb_end 20 = .ok (.getfield 24, 3) := by decide +kernel
theorem d_Mb_end_23 : decode b_Mb_end 23 = .ok (.aload_n 0, 1) := by decide +kernel
theorem d_Mb_end_24 : decode b_Mb_end 24 = .ok (.getfield 16, 3) := by decide +kernel
theorem d_Mb_end_27 : decode b_Mb_end 27 = .ok (.iload_n 1, 1) := by decide +kernel
theorem d_Mb_end_28 : decode b_Mb_end 28 = .ok (.invokevirtual 39, 3) := by decide +kernel
theorem d_Mb_end_31 : decode b_Mb_end 31 = .ok (.goto 29, 3) := by decide +kernel
theorem d_Mb_end_34 : decode b_Mb_end 34 = .ok (.astore_n 2, 1) := by decide +kernel
theorem d_Mb_end_35 : decode b_Mb_end 35 = .ok (.aload_n 0, 1) := by decide +kernel
theorem d_Mb_end_36 : decode b_Mb_end 36 = .ok (.aload_n 0, 1) := by decide +kernel
theorem d_Mb_end_37 : decode b_Mb_end 37 = .ok (.getfield 24, 3) := by decide +kernel
theorem d_Mb_end_40 : decode b_Mb_end 40 = .ok (.getfield 45, 3) := by decide +kernel
theorem d_Mb_end_43 : decode b_Mb_end 43 = .ok (.getfield 49, 3) := by decide +kernel
theorem d_Mb_end_46 : decode b_Mb_end 46 = .ok (.putfield 32, 3) := by decide +kernel
theorem d_Mb_end_49 : decode b_Mb_end 49 = .ok (.aload_n 0, 1) := by decide +kernel
theorem d_Mb_end_50 : decode b_Mb_end 50 = .ok (.getfield 24, 3) := by decide +kernel
theorem d_Mb_end_53 : decode b_Mb_end 53 = .ok (.getfield 45, 3) := by decide +kernel
theorem d_Mb_end_56 : decode b_Mb_end 56 = .ok (.getfield 54, 3) := by decide +kernel
theorem d_Mb_end_59 : decode b_Mb_end 59 = .ok (.ireturn, 1) := by decide +kernel
theorem d_Mb_end_60 : decode b_Mb_end 60 = .ok (.aload_n 0, 1) := by decide +kernel
theorem d_Mb_end_61 : decode b_Mb_end 61 = .ok (.getfield 10, 3) := by decide +kernel
theorem d_Mb_end_64 : decode b_Mb_end 64 = .ok (.astore_n 2, 1) := by decide +kernel
theorem d_Mb_end_65 : decode b_Mb_end 65 = .ok (.aload_n 0, 1) := by decide +kernel
theorem d_Mb_end_66 : decode b_Mb_end 66 = .ok (.aload_n 0, 1) := by decide +kernel
theorem d_Mb_end_67 : decode b_Mb_end 67 = .ok (.getfield 16, 3) := by decide +kernel
theorem d_Mb_end_70 : decode b_Mb_end 70 = .ok (.putfield 10, 3) := by decide +kernel
theorem d_Mb_end_73 : decode b_Mb_end 73 = .ok (.aload_n 0, 1) := by decide +kernel
theorem d_Mb_end_74 : decode b_Mb_end 74 = .ok (.aload_n 2, 1) := by decide +kernel
theorem d_Mb_end_75 : decode b_Mb_end 75 = .ok (.putfield 16, 3) := by decide +kernel
theorem d_Mb_end_78 : decode b_Mb_end 78 = .ok (.aload_n 0, 1) := by decide +kernel
theorem d_Mb_end_79 : decode b_Mb_end 79 = .ok (.iconst (-1), 1) := by decide +kernel
theorem d_Mb_end_80 : decode b_Mb_end 80 = .ok (.putfield 32, 3) := by decide +kernel
theorem d_Mb_end_83 : decode b_Mb_end 83 = .ok (.iconst 0, 1) := by decide +kernel
theorem d_Mb_end_84 : decode b_Mb_end 84 = .ok (.ireturn, 1) := by decide +kernel
abbrev b_Mr_readModule : ByteArray := prog_4_method_2_code
abbrev y_Mr_readModule : MethodName := ⟨"ModuleBytes$ModuleReader", "readModule", "(LModuleBytes$Contents;I)V"⟩
def w_Mr_readModule : List Cond := .code y_Mr_readModule b_Mr_readModule 6 (Option.none : Option Jvm.ClassFile.FieldType) :: wAll
theorem d_Mr_readModule_0 : decode b_Mr_readModule 0 = .ok (.aload_n 0, 1) := by decide +kernel
theorem d_Mr_readModule_1 : decode b_Mr_readModule 1 = .ok (.aload_n 1, 1) := by decide +kernel
theorem d_Mr_readModule_2 : decode b_Mr_readModule 2 = .ok (.putfield 9, 3) := by decide +kernel
theorem d_Mr_readModule_5 : decode b_Mr_readModule 5 = .ok (.aload_n 0, 1) := by decide +kernel
theorem d_Mr_readModule_6 : decode b_Mr_readModule 6 = .ok (.getfield 9, 3) := by decide +kernel
theorem d_Mr_readModule_9 : decode b_Mr_readModule 9 = .ok (.invokevirtual 43, 3) := by decide +kernel
theorem d_Mr_readModule_12 : decode b_Mr_readModule 12 = .ok (.aload_n 0, 1) := by decide +kernel
theorem d_Mr_readModule_13 : decode b_Mr_readModule 13 = .ok (.getfield 26, 3) := by decide +kernel
theorem d_Mr_readModule_16 : decode b_Mr_readModule 16 = .ok (.aload_n 0, 1) := by decide +kernel
theorem d_Mr_readModule_17 : decode b_Mr_readModule 17 = .ok (.getfield 9, 3) := by decide +kernel
theorem d_Mr_readModule_20 : decode b_Mr_readModule 20 = .ok (.getfield 17, 3) := by decide +kernel
theorem d_Mr_readModule_23 : decode b_Mr_readModule 23 = .ok (.iload_n 2, 1) := by decide +kernel
theorem d_Mr_readModule_24 : decode b_Mr_readModule 24 = .ok (.invokevirtual 46, 3) := by decide +kernel
theorem d_Mr_readModule_27 : decode b_Mr_readModule 27 = .ok (.aload_n 0, 1) := by decide +kernel
theorem d_Mr_readModule_28 : decode b_Mr_readModule 28 = .ok (.getfield 35, 3) := by decide +kernel
theorem d_Mr_readModule_31 : decode b_Mr_readModule 31 = .ok (.iconst 0, 1) := by decide +kernel
theorem d_Mr_readModule_32 : decode b_Mr_readModule 32 = .ok (.putfield 50, 3) := by decide +kernel
theorem d_Mr_readModule_35 : decode b_Mr_readModule 35 = .ok (.aload_n 0, 1) := by decide +kernel
theorem d_Mr_readModule_36 : decode b_Mr_readModule 36 = .ok (.iconst 0, 1) := by decide +kernel
theorem d_Mr_readModule_37 : decode b_Mr_readModule 37 = .ok (.putfield 39, 3) := by decide +kernel
theorem d_Mr_readModule_40 : decode b_Mr_readModule 40 = .ok (.aload_n 0, 1) := by decide +kernel
theorem d_Mr_readModule_41 : decode b_Mr_readModule 41 = .ok (.invokevirtual 54, 3) := by decide +kernel
theorem d_Mr_readModule_44 : decode b_Mr_readModule 44 = .ok (.iconst 0, 1) := by decide +kernel
theorem d_Mr_readModule_45 : decode b_Mr_readModule 45 = .ok (.istore_n 3, 1) := by decide +kernel
theorem d_Mr_readModule_46 : decode b_Mr_readModule 46 = .ok (.iload_n 3, 1) := by decide +kernel
theorem d_Mr_readModule_47 : decode b_Mr_readModule 47 = .ok (.sipush 2000, 3) := by decide +kernel
theorem d_Mr_readModule_50 : decode b_Mr_readModule 50 = .ok (.if_icmp .ge 153, 3) := by decide +kernel
theorem d_Mr_readModule_53 : decode b_Mr_readModule 53 = .ok (.aload_n 0, 1) := by decide +kernel
theorem d_Mr_readModule_54 : decode b_Mr_readModule 54 = .ok (.getfield 26, 3) := by decide +kernel
theorem d_Mr_readModule_57 : decode b_Mr_readModule 57 = .ok (.getfield 57, 3) := by decide +kernel
theorem d_Mr_readModule_60 : decode b_Mr_readModule 60 = .ok (.aload_n 0, 1) := by decide +kernel
theorem d_Mr_readModule_61 : decode b_Mr_readModule 61 = .ok (.getfield 26, 3) := by decide +kernel
theorem d_Mr_readModule_64 : decode b_Mr_readModule 64 = .ok (.getfield 60, 3) := by decide +kernel
theorem d_Mr_readModule_67 : decode b_Mr_readModule 67 = .ok (.if_icmp .ge 136, 3) := by decide +kernel
theorem d_Mr_readModule_70 : decode b_Mr_readModule 70 = .ok (.aload_n 0, 1) := by decide +kernel
theorem d_Mr_readModule_71 : decode b_Mr_readModule 71 = .ok (.invokevirtual 63, 3) := by decide +kernel
theorem d_Mr_readModule_74 : decode b_Mr_readModule 74 = .ok (.istore 4, 2) := by decide +kernel
theorem d_Mr_readModule_76 : decode b_Mr_readModule 76 = .ok (.aload_n 0, 1) := by decide +kernel
theorem d_Mr_readModule_77 : decode b_Mr_readModule 77 = .ok (.getfield 26, 3) := by decide +kernel
theorem d_Mr_readModule_80 : decode b_Mr_readModule 80 = .ok (.invokevirtual 67, 3) := by decide +kernel
theorem d_Mr_readModule_83 : decode b_Mr_readModule 83 = .ok (.istore 5, 2) := by decide +kernel
theorem d_Mr_readModule_85 : decode b_Mr_readModule 85 = .ok (.iload 4, 2) := by decide +kernel
theorem d_Mr_readModule_87 : decode b_Mr_readModule 87 = .ok (.lookupswitch 82 #[(0, 33), (8, 40), (12, 57)], 33) := by decide +kernel
theorem d_Mr_readModule_120 : decode b_Mr_readModule 120 = .ok (.aload_n 0, 1) := by decide +kernel
theorem d_Mr_readModule_121 : decode b_Mr_readModule 121 = .ok (.invokevirtual 70, 3) := by decide +kernel
theorem d_Mr_readModule_124 : decode b_Mr_readModule 124 = .ok (.goto 51, 3) := by decide +kernel
theorem d_Mr_readModule_127 : decode b_Mr_readModule 127 = .ok (.aload_n 0, 1) := by decide +kernel
theorem d_Mr_readModule_128 : decode b_Mr_readModule 128 = .ok (.getfield 9, 3) := by decide +kernel
theorem d_Mr_readModule_131 : decode b_Mr_readModule 131 = .ok (.aload_n 0, 1) := by decide +kernel
theorem d_Mr_readModule_132 : decode b_Mr_readModule 132 = .ok (.getfield 26, 3) := by decide +kernel
theorem d_Mr_readModule_135 : decode b_Mr_readModule 135 = .ok (.invokevirtual 73, 3) := by decide +kernel
theorem d_Mr_readModule_138 : decode b_Mr_readModule 138 = .ok (.putfield 77, 3) := by decide +kernel
theorem d_Mr_readModule_141 : decode b_Mr_readModule 141 = .ok (.goto 34, 3) := by decide +kernel
theorem d_Mr_readModule_144 : decode b_Mr_readModule 144 = .ok (.aload_n 0, 1) := by decide +kernel
theorem d_Mr_readModule_145 : decode b_Mr_readModule 145 = .ok (.getfield 9, 3) := by decide +kernel
theorem d_Mr_readModule_148 : decode b_Mr_readModule 148 = .ok (.aload_n 0, 1) := by decide +kernel
theorem d_Mr_readModule_149 : decode b_Mr_readModule 149 = .ok (.getfield 26, 3) := by decide +kernel
theorem d_Mr_readModule_152 : decode b_Mr_readModule 152 = .ok (.invokevirtual 73, 3) := by decide +kernel
theorem d_Mr_readModule_155 : decode b_Mr_readModule 155 = .ok (.putfield 81, 3) := by decide +kernel
theorem d_Mr_readModule_158 : decode b_Mr_readModule 158 = .ok (.aload_n 0, 1) := by decide +kernel
theorem d_Mr_readModule_159 : decode b_Mr_readModule 159 = .ok (.getfield 35, 3) := by decide +kernel
theorem d_Mr_readModule_162 : decode b_Mr_readModule 162 = .ok (.iconst 1, 1) := by decide +kernel
theorem d_Mr_readModule_163 : decode b_Mr_readModule 163 = .ok (.putfield 50, 3) := by decide +kernel
theorem d_Mr_readModule_166 : decode b_Mr_readModule 166 = .ok (.goto 9, 3) := by decide +kernel
theorem d_Mr_readModule_169 : decode b_Mr_readModule 169 = .ok (.aload_n 0, 1) := by decide +kernel
theorem d_Mr_readModule_170 : decode b_Mr_readModule 170 = .ok (.iload 4, 2) := by decide +kernel
theorem d_Mr_readModule_172 : decode b_Mr_readModule 172 = .ok (.invokevirtual 84, 3) := by decide +kernel
theorem d_Mr_readModule_175 : decode b_Mr_readModule 175 = .ok (.aload_n 0, 1) := by decide +kernel
theorem d_Mr_readModule_176 : decode b_Mr_readModule 176 = .ok (.getfield 26, 3) := by decide +kernel
theorem d_Mr_readModule_179 : decode b_Mr_readModule 179 = .ok (.iload 5, 2) := by decide +kernel
theorem d_Mr_readModule_181 : decode b_Mr_readModule 181 = .ok (.invokevirtual 88, 3) := by decide +kernel
theorem d_Mr_readModule_184 : decode b_Mr_readModule 184 = .ok (.aload_n 0, 1) := by decide +kernel
theorem d_Mr_readModule_185 : decode b_Mr_readModule 185 = .ok (.getfield 9, 3) := by decide +kernel
theorem d_Mr_readModule_188 : decode b_Mr_readModule 188 = .ok (.dup, 1) := by decide +kernel
theorem d_Mr_readModule_189 : decode b_Mr_readModule 189 = .ok (.getfield 91, 3) := by decide +kernel
theorem d_Mr_readModule_192 : decode b_Mr_readModule 192 = .ok (.iconst 1, 1) := by decide +kernel
theorem d_Mr_readModule_193 : decode b_Mr_readModule 193 = .ok (.iadd, 1) := by decide +kernel
theorem d_Mr_readModule_194 : decode b_Mr_readModule 194 = .ok (.putfield 91, 3) := by decide +kernel
theorem d_Mr_readModule_197 : decode b_Mr_readModule 197 = .ok (.iinc 3 1, 3) := by decide +kernel
theorem d_Mr_readModule_200 : decode b_Mr_readModule 200 = .ok (.goto (-154), 3) := by decide +kernel
theorem d_Mr_readModule_203 : decode b_Mr_readModule 203 = .ok (.aload_n 0, 1) := by decide +kernel
theorem d_Mr_readModule_204 : decode b_Mr_readModule 204 = .ok (.invokevirtual 94, 3) := by decide +kernel
theorem d_Mr_readModule_207 : decode b_Mr_readModule 207 = .ok (.return_, 1) := by decide +kernel
abbrev b_Mr_readBeginning : ByteArray := prog_4_method_3_code
abbrev y_Mr_readBeginning : MethodName := ⟨"ModuleBytes$ModuleReader", "readBeginning", "()V"⟩
def w_Mr_readBeginning : List Cond := .code y_Mr_readBeginning b_Mr_readBeginning 2 (Option.none : Option Jvm.ClassFile.FieldType) :: wAll
theorem d_Mr_readBeginning_0 : decode b_Mr_readBeginning 0 = .ok (.iconst 0, 1) := by decide +kernel
theorem d_Mr_readBeginning_1 : decode b_Mr_readBeginning 1 = .ok (.istore_n 1, 1) := by decide +kernel
theorem d_Mr_readBeginning_2 : decode b_Mr_readBeginning 2 = .ok (.iload_n 1, 1) := by decide +kernel
theorem d_Mr_readBeginning_3 : decode b_Mr_readBeginning 3 = .ok (.getstatic 97, 3) := by decide +kernel
theorem d_Mr_readBeginning_6 : decode b_Mr_readBeginning 6 = .ok (.arraylength, 1) := by decide +kernel
theorem d_Mr_readBeginning_7 : decode b_Mr_readBeginning 7 = .ok (.if_icmp .ge 33, 3) := by decide +kernel
theorem d_Mr_readBeginning_10 : decode b_Mr_readBeginning 10 = .ok (.aload_n 0, 1) := by decide +kernel
theorem d_Mr_readBeginning_11 : decode b_Mr_readBeginning 11 = .ok (.getfield 26, 3) := by decide +kernel
theorem d_Mr_readBeginning_14 : decode b_Mr_readBeginning 14 = .ok (.invokevirtual 101, 3) := by decide +kernel
theorem d_Mr_readBeginning_17 : decode b_Mr_readBeginning 17 = .ok (.getstatic 97, 3) := by decide +kernel
theorem d_Mr_readBeginning_20 : decode b_Mr_readBeginning 20 = .ok (.iload_n 1, 1) := by decide +kernel
theorem d_Mr_readBeginning_21 : decode b_Mr_readBeginning 21 = .ok (.iaload, 1) := by decide +kernel
theorem d_Mr_readBeginning_22 : decode b_Mr_readBeginning 22 = .ok (.if_icmp .eq 12, 3) := by decide +kernel
theorem d_Mr_readBeginning_25 : decode b_Mr_readBeginning 25 = .ok (.aload_n 0, 1) := by decide +kernel
theorem d_Mr_readBeginning_26 : decode b_Mr_readBeginning 26 = .ok (.getfield 26, 3) := by decide +kernel
theorem d_Mr_readBeginning_29 : decode b_Mr_readBeginning 29 = .ok (.iconst 5, 1) := by decide +kernel
theorem d_Mr_readBeginning_30 : decode b_Mr_readBeginning 30 = .ok (.iload_n 1, 1) := by decide +kernel
theorem d_Mr_readBeginning_31 : decode b_Mr_readBeginning 31 = .ok (.invokevirtual 104, 3) := by decide +kernel
theorem d_Mr_readBeginning_34 : decode b_Mr_readBeginning 34 = .ok (.iinc 1 1, 3) := by decide +kernel
theorem d_Mr_readBeginning_37 : decode b_Mr_readBeginning 37 = .ok (.goto (-35), 3) := by decide +kernel
theorem d_Mr_readBeginning_40 : decode b_Mr_readBeginning 40 = .ok (.return_, 1) := by decide +kernel
abbrev b_Mr_readId : ByteArray := prog_4_method_4_code
abbrev y_Mr_readId : MethodName := ⟨"ModuleBytes$ModuleReader", "readId", "()I"⟩
def w_Mr_readId : List Cond := .code y_Mr_readId b_Mr_readId 2 (Option.some Jvm.ClassFile.FieldType.int) :: wAll
theorem d_Mr_readId_0 : decode b_Mr_readId 0 = .ok (.aload_n 0, 1) := by decide +kernel
theorem d_Mr_readId_1 : decode b_Mr_readId 1 = .ok (.getfield 26, 3) := by decide +kernel
theorem d_Mr_readId_4 : decode b_Mr_readId 4 = .ok (.invokevirtual 101, 3) := by decide +kernel
theorem d_Mr_readId_7 : decode b_Mr_readId 7 = .ok (.istore_n 1, 1) := by decide +kernel
theorem d_Mr_readId_8 : decode b_Mr_readId 8 = .ok (.iload_n 1, 1) := by decide +kernel
theorem d_Mr_readId_9 : decode b_Mr_readId 9 = .ok (.ifCond .ne 5, 3) := by decide +kernel
theorem d_Mr_readId_12 : decode b_Mr_readId 12 = .ok (.iload_n 1, 1) := by decide +kernel
theorem d_Mr_readId_13 : decode b_Mr_readId 13 = .ok (.ireturn, 1) := by decide +kernel
theorem d_Mr_readId_14 : decode b_Mr_readId 14 = .ok (.iload_n 1, 1) := by decide +kernel
theorem d_Mr_readId_15 : decode b_Mr_readId 15 = .ok (.getstatic 108, 3) := by decide +kernel
theorem d_Mr_readId_18 : decode b_Mr_readId 18 = .ok (.arraylength, 1) := by decide +kernel
theorem d_Mr_readId_19 : decode b_Mr_readId 19 = .ok (.if_icmp .ge 15, 3) := by decide +kernel
theorem d_Mr_readId_22 : decode b_Mr_readId 22 = .ok (.getstatic 108, 3) := by decide +kernel
theorem d_Mr_readId_25 : decode b_Mr_readId 25 = .ok (.iload_n 1, 1) := by decide +kernel
theorem d_Mr_readId_26 : decode b_Mr_readId 26 = .ok (.iaload, 1) := by decide +kernel
theorem d_Mr_readId_27 : decode b_Mr_readId 27 = .ok (.aload_n 0, 1) := by decide +kernel
theorem d_Mr_readId_28 : decode b_Mr_readId 28 = .ok (.getfield 39, 3) := by decide +kernel
theorem d_Mr_readId_31 : decode b_Mr_readId 31 = .ok (.if_icmp .gt 23, 3) := by decide +kernel
theorem d_Mr_readId_34 : decode b_Mr_readId 34 = .ok (.aload_n 0, 1) := by decide +kernel
theorem d_Mr_readId_35 : decode b_Mr_readId 35 = .ok (.getfield 26, 3) := by decide +kernel
theorem d_Mr_readId_38 : decode b_Mr_readId 38 = .ok (.bipush 6, 2) := by decide +kernel
theorem d_Mr_readId_40 : decode b_Mr_readId 40 = .ok (.aload_n 0, 1) := by decide +kernel
theorem d_Mr_readId_41 : decode b_Mr_readId 41 = .ok (.getfield 26, 3) := by decide +kernel
theorem d_Mr_readId_44 : decode b_Mr_readId 44 = .ok (.getfield 57, 3) := by decide +kernel
theorem d_Mr_readId_47 : decode b_Mr_readId 47 = .ok (.iconst 1, 1) := by decide +kernel
theorem d_Mr_readId_48 : decode b_Mr_readId 48 = .ok (.isub, 1) := by decide +kernel
theorem d_Mr_readId_49 : decode b_Mr_readId 49 = .ok (.invokevirtual 104, 3) := by decide +kernel
theorem d_Mr_readId_52 : decode b_Mr_readId 52 = .ok (.iload_n 1, 1) := by decide +kernel
theorem d_Mr_readId_53 : decode b_Mr_readId 53 = .ok (.ireturn, 1) := by decide +kernel
theorem d_Mr_readId_54 : decode b_Mr_readId 54 = .ok (.aload_n 0, 1) := by decide +kernel
theorem d_Mr_readId_55 : decode b_Mr_readId 55 = .ok (.getstatic 108, 3) := by decide +kernel
theorem d_Mr_readId_58 : decode b_Mr_readId 58 = .ok (.iload_n 1, 1) := by decide +kernel
theorem d_Mr_readId_59 : decode b_Mr_readId 59 = .ok (.iaload, 1) := by decide +kernel
theorem d_Mr_readId_60 : decode b_Mr_readId 60 = .ok (.putfield 39, 3) := by decide +kernel
theorem d_Mr_readId_63 : decode b_Mr_readId 63 = .ok (.iload_n 1, 1) := by decide +kernel
theorem d_Mr_readId_64 : decode b_Mr_readId 64 = .ok (.ireturn, 1) := by decide +kernel
abbrev b_Mr_readCustom : ByteArray := prog_4_method_6_code
abbrev y_Mr_readCustom : MethodName := ⟨"ModuleBytes$ModuleReader", "readCustom", "()V"⟩
def w_Mr_readCustom : List Cond := .code y_Mr_readCustom b_Mr_readCustom 2 (Option.none : Option Jvm.ClassFile.FieldType) :: wAll
theorem d_Mr_readCustom_0 : decode b_Mr_readCustom 0 = .ok (.aload_n 0, 1) := by decide +kernel
theorem d_Mr_readCustom_1 : decode b_Mr_readCustom 1 = .ok (.getfield 9, 3) := by decide +kernel
theorem d_Mr_readCustom_4 : decode b_Mr_readCustom 4 = .ok (.getfield 111, 3) := by decide +kernel
theorem d_Mr_readCustom_7 : decode b_Mr_readCustom 7 = .ok (.bipush 10, 2) := by decide +kernel
theorem d_Mr_readCustom_9 : decode b_Mr_readCustom 9 = .ok (.aaload, 1) := by decide +kernel
theorem d_Mr_readCustom_10 : decode b_Mr_readCustom 10 = .ok (.astore_n 1, 1) := by decide +kernel
theorem d_Mr_readCustom_11 : decode b_Mr_readCustom 11 = .ok (.aload_n 1, 1) := by decide +kernel
theorem d_Mr_readCustom_12 : decode b_Mr_readCustom 12 = .ok (.invokevirtual 122, 3) := by decide +kernel
theorem d_Mr_readCustom_15 : decode b_Mr_readCustom 15 = .ok (.aload_n 0, 1) := by decide +kernel
theorem d_Mr_readCustom_16 : decode b_Mr_readCustom 16 = .ok (.getfield 26, 3) := by decide +kernel
theorem d_Mr_readCustom_19 : decode b_Mr_readCustom 19 = .ok (.aload_n 1, 1) := by decide +kernel
theorem d_Mr_readCustom_20 : decode b_Mr_readCustom 20 = .ok (.getstatic 125, 3) := by decide +kernel
theorem d_Mr_readCustom_23 : decode b_Mr_readCustom 23 = .ok (.bipush 10, 2) := by decide +kernel
theorem d_Mr_readCustom_25 : decode b_Mr_readCustom 25 = .ok (.iaload, 1) := by decide +kernel
theorem d_Mr_readCustom_26 : decode b_Mr_readCustom 26 = .ok (.invokevirtual 128, 3) := by decide +kernel
theorem d_Mr_readCustom_29 : decode b_Mr_readCustom 29 = .ok (.aload_n 1, 1) := by decide +kernel
theorem d_Mr_readCustom_30 : decode b_Mr_readCustom 30 = .ok (.iconst 3, 1) := by decide +kernel
theorem d_Mr_readCustom_31 : decode b_Mr_readCustom 31 = .ok (.aload_n 0, 1) := by decide +kernel
theorem d_Mr_readCustom_32 : decode b_Mr_readCustom 32 = .ok (.getfield 26, 3) := by decide +kernel
theorem d_Mr_readCustom_35 : decode b_Mr_readCustom 35 = .ok (.getfield 60, 3) := by decide +kernel
theorem d_Mr_readCustom_38 : decode b_Mr_readCustom 38 = .ok (.aload_n 0, 1) := by decide +kernel
theorem d_Mr_readCustom_39 : decode b_Mr_readCustom 39 = .ok (.getfield 26, 3) := by decide +kernel
theorem d_Mr_readCustom_42 : decode b_Mr_readCustom 42 = .ok (.getfield 57, 3) := by decide +kernel
theorem d_Mr_readCustom_45 : decode b_Mr_readCustom 45 = .ok (.isub, 1) := by decide +kernel
theorem d_Mr_readCustom_46 : decode b_Mr_readCustom 46 = .ok (.i2l, 1) := by decide +kernel
theorem d_Mr_readCustom_47 : decode b_Mr_readCustom 47 = .ok (.invokevirtual 132, 3) := by decide +kernel
theorem d_Mr_readCustom_50 : decode b_Mr_readCustom 50 = .ok (.aload_n 1, 1) := by decide +kernel
theorem d_Mr_readCustom_51 : decode b_Mr_readCustom 51 = .ok (.bipush 6, 2) := by decide +kernel
theorem d_Mr_readCustom_53 : decode b_Mr_readCustom 53 = .ok (.aload_n 0, 1) := by decide +kernel
theorem d_Mr_readCustom_54 : decode b_Mr_readCustom 54 = .ok (.getfield 26, 3) := by decide +kernel
theorem d_Mr_readCustom_57 : decode b_Mr_readCustom 57 = .ok (.getfield 57, 3) := by decide +kernel
theorem d_Mr_readCustom_60 : decode b_Mr_readCustom 60 = .ok (.i2l, 1) := by decide +kernel
theorem d_Mr_readCustom_61 : decode b_Mr_readCustom 61 = .ok (.invokevirtual 132, 3) := by decide +kernel
theorem d_Mr_readCustom_64 : decode b_Mr_readCustom 64 = .ok (.aload_n 0, 1) := by decide +kernel
theorem d_Mr_readCustom_65 : decode b_Mr_readCustom 65 = .ok (.getfield 26, 3) := by decide +kernel
theorem d_Mr_readCustom_68 : decode b_Mr_readCustom 68 = .ok (.aload_n 0, 1) := by decide +kernel
theorem d_Mr_readCustom_69 : decode b_Mr_readCustom 69 = .ok (.getfield 26, 3) := by decide +kernel
theorem d_Mr_readCustom_72 : decode b_Mr_readCustom 72 = .ok (.getfield 60, 3) := by decide +kernel
theorem d_Mr_readCustom_75 : decode b_Mr_readCustom 75 = .ok (.putfield 57, 3) := by decide +kernel
theorem d_Mr_readCustom_78 : decode b_Mr_readCustom 78 = .ok (.return_, 1) := by decide +kernel
abbrev b_Mr_readRow : ByteArray := prog_4_method_7_code
abbrev y_Mr_readRow : MethodName := ⟨"ModuleBytes$ModuleReader", "readRow", "(I)V"⟩
def w_Mr_readRow : List Cond := .code y_Mr_readRow b_Mr_readRow 4 (Option.none : Option Jvm.ClassFile.FieldType) :: wAll
theorem d_Mr_readRow_0 : decode b_Mr_readRow 0 = .ok (.aload_n 0, 1) := by decide +kernel
theorem d_Mr_readRow_1 : decode b_Mr_readRow 1 = .ok (.getfield 26, 3) := by decide +kernel
theorem d_Mr_readRow_4 : decode b_Mr_readRow 4 = .ok (.invokevirtual 73, 3) := by decide +kernel
theorem d_Mr_readRow_7 : decode b_Mr_readRow 7 = .ok (.lstore_n 2, 1) := by decide +kernel
theorem d_Mr_readRow_8 : decode b_Mr_readRow 8 = .ok (.lload_n 2, 1) := by decide +kernel
theorem d_Mr_readRow_9 : decode b_Mr_readRow 9 = .ok (.lconst 0, 1) := by decide +kernel
theorem d_Mr_readRow_10 : decode b_Mr_readRow 10 = .ok (.lcmp, 1) := by decide +kernel
theorem d_Mr_readRow_11 : decode b_Mr_readRow 11 = .ok (.ifCond .le 173, 3) := by decide +kernel
theorem d_Mr_readRow_14 : decode b_Mr_readRow 14 = .ok (.iload_n 1, 1) := by decide +kernel
theorem d_Mr_readRow_15 : decode b_Mr_readRow 15 = .ok (.tableswitch 158 1 10 #[53, 60, 67, 74, 102, 130, 137, 158, 144, 151], 53) := by decide +kernel
theorem d_Mr_readRow_68 : decode b_Mr_readRow 68 = .ok (.aload_n 0, 1) := by decide +kernel
theorem d_Mr_readRow_69 : decode b_Mr_readRow 69 = .ok (.invokevirtual 136, 3) := by decide +kernel
theorem d_Mr_readRow_72 : decode b_Mr_readRow 72 = .ok (.goto 105, 3) := by decide +kernel
theorem d_Mr_readRow_75 : decode b_Mr_readRow 75 = .ok (.aload_n 0, 1) := by decide +kernel
theorem d_Mr_readRow_76 : decode b_Mr_readRow 76 = .ok (.invokevirtual 139, 3) := by decide +kernel
theorem d_Mr_readRow_79 : decode b_Mr_readRow 79 = .ok (.goto 98, 3) := by decide +kernel
theorem d_Mr_readRow_82 : decode b_Mr_readRow 82 = .ok (.aload_n 0, 1) := by decide +kernel
theorem d_Mr_readRow_83 : decode b_Mr_readRow 83 = .ok (.invokevirtual 142, 3) := by decide +kernel
theorem d_Mr_readRow_86 : decode b_Mr_readRow 86 = .ok (.goto 91, 3) := by decide +kernel
theorem d_Mr_readRow_89 : decode b_Mr_readRow 89 = .ok (.aload_n 0, 1) := by decide +kernel
theorem d_Mr_readRow_90 : decode b_Mr_readRow 90 = .ok (.getfield 9, 3) := by decide +kernel
theorem d_Mr_readRow_93 : decode b_Mr_readRow 93 = .ok (.getfield 111, 3) := by decide +kernel
theorem d_Mr_readRow_96 : decode b_Mr_readRow 96 = .ok (.iconst 3, 1) := by decide +kernel
theorem d_Mr_readRow_97 : decode b_Mr_readRow 97 = .ok (.aaload, 1) := by decide +kernel
theorem d_Mr_readRow_98 : decode b_Mr_readRow 98 = .ok (.invokevirtual 122, 3) := by decide +kernel
theorem d_Mr_readRow_101 : decode b_Mr_readRow 101 = .ok (.aload_n 0, 1) := by decide +kernel
theorem d_Mr_readRow_102 : decode b_Mr_readRow 102 = .ok (.aload_n 0, 1) := by decide +kernel
theorem d_Mr_readRow_103 : decode b_Mr_readRow 103 = .ok (.getfield 9, 3) := by decide +kernel
theorem d_Mr_readRow_106 : decode b_Mr_readRow 106 = .ok (.getfield 111, 3) := by decide +kernel
theorem d_Mr_readRow_109 : decode b_Mr_readRow 109 = .ok (.iconst 3, 1) := by decide +kernel
theorem d_Mr_readRow_110 : decode b_Mr_readRow 110 = .ok (.aaload, 1) := by decide +kernel
theorem d_Mr_readRow_111 : decode b_Mr_readRow 111 = .ok (.invokevirtual 145, 3) := by decide +kernel
theorem d_Mr_readRow_114 : decode b_Mr_readRow 114 = .ok (.goto 63, 3) := by decide +kernel
theorem d_Mr_readRow_117 : decode b_Mr_readRow 117 = .ok (.aload_n 0, 1) := by decide +kernel
theorem d_Mr_readRow_118 : decode b_Mr_readRow 118 = .ok (.getfield 9, 3) := by decide +kernel
theorem d_Mr_readRow_121 : decode b_Mr_readRow 121 = .ok (.getfield 111, 3) := by decide +kernel
theorem d_Mr_readRow_124 : decode b_Mr_readRow 124 = .ok (.iconst 4, 1) := by decide +kernel
theorem d_Mr_readRow_125 : decode b_Mr_readRow 125 = .ok (.aaload, 1) := by decide +kernel
theorem d_Mr_readRow_126 : decode b_Mr_readRow 126 = .ok (.invokevirtual 122, 3) := by decide +kernel
theorem d_Mr_readRow_129 : decode b_Mr_readRow 129 = .ok (.aload_n 0, 1) := by decide +kernel
theorem d_Mr_readRow_130 : decode b_Mr_readRow 130 = .ok (.aload_n 0, 1) := by decide +kernel
theorem d_Mr_readRow_131 : decode b_Mr_readRow 131 = .ok (.getfield 9, 3) := by decide +kernel
theorem d_Mr_readRow_134 : decode b_Mr_readRow 134 = .ok (.getfield 111, 3) := by decide +kernel
theorem d_Mr_readRow_137 : decode b_Mr_readRow 137 = .ok (.iconst 4, 1) := by decide +kernel
theorem d_Mr_readRow_138 : decode b_Mr_readRow 138 = .ok (.aaload, 1) := by decide +kernel
theorem d_Mr_readRow_139 : decode b_Mr_readRow 139 = .ok (.invokevirtual 149, 3) := by decide +kernel
theorem d_Mr_readRow_142 : decode b_Mr_readRow 142 = .ok (.goto 35, 3) := by decide +kernel
theorem d_Mr_readRow_145 : decode b_Mr_readRow 145 = .ok (.aload_n 0, 1) := by decide +kernel
theorem d_Mr_readRow_146 : decode b_Mr_readRow 146 = .ok (.invokevirtual 152, 3) := by decide +kernel
theorem d_Mr_readRow_149 : decode b_Mr_readRow 149 = .ok (.goto 28, 3) := by decide +kernel
theorem d_Mr_readRow_152 : decode b_Mr_readRow 152 = .ok (.aload_n 0, 1) := by decide +kernel
theorem d_Mr_readRow_153 : decode b_Mr_readRow 153 = .ok (.invokevirtual 155, 3) := by decide +kernel
theorem d_Mr_readRow_156 : decode b_Mr_readRow 156 = .ok (.goto 21, 3) := by decide +kernel
theorem d_Mr_readRow_159 : decode b_Mr_readRow 159 = .ok (.aload_n 0, 1) := by decide +kernel
theorem d_Mr_readRow_160 : decode b_Mr_readRow 160 = .ok (.invokevirtual 158, 3) := by decide +kernel
theorem d_Mr_readRow_163 : decode b_Mr_readRow 163 = .ok (.goto 14, 3) := by decide +kernel
theorem d_Mr_readRow_166 : decode b_Mr_readRow 166 = .ok (.aload_n 0, 1) := by decide +kernel
theorem d_Mr_readRow_167 : decode b_Mr_readRow 167 = .ok (.invokevirtual 161, 3) := by decide +kernel
theorem d_Mr_readRow_170 : decode b_Mr_readRow 170 = .ok (.goto 7, 3) := by decide +kernel
theorem d_Mr_readRow_173 : decode b_Mr_readRow 173 = .ok (.aload_n 0, 1) := by decide +kernel
theorem d_Mr_readRow_174 : decode b_Mr_readRow 174 = .ok (.invokevirtual 164, 3) := by decide +kernel
theorem d_Mr_readRow_177 : decode b_Mr_readRow 177 = .ok (.lload_n 2, 1) := by decide +kernel
theorem d_Mr_readRow_178 : decode b_Mr_readRow 178 = .ok (.lconst 1, 1) := by decide +kernel
theorem d_Mr_readRow_179 : decode b_Mr_readRow 179 = .ok (.lsub, 1) := by decide +kernel
theorem d_Mr_readRow_180 : decode b_Mr_readRow 180 = .ok (.lstore_n 2, 1) := by decide +kernel
theorem d_Mr_readRow_181 : decode b_Mr_readRow 181 = .ok (.goto (-173), 3) := by decide +kernel
theorem d_Mr_readRow_184 : decode b_Mr_readRow 184 = .ok (.return_, 1) := by decide +kernel
abbrev b_Mr_readFunctionType : ByteArray := prog_4_method_8_code
abbrev y_Mr_readFunctionType : MethodName := ⟨"ModuleBytes$ModuleReader", "readFunctionType", "()V"⟩
def w_Mr_readFunctionType : List Cond := .code y_Mr_readFunctionType b_Mr_readFunctionType 7 (Option.none : Option Jvm.ClassFile.FieldType) :: wAll
theorem d_Mr_readFunctionType_0 : decode b_Mr_readFunctionType 0 = .ok (.aload_n 0, 1) := by decide +kernel
theorem d_Mr_readFunctionType_1 : decode b_Mr_readFunctionType 1 = .ok (.getfield 26, 3) := by decide +kernel
theorem d_Mr_readFunctionType_4 : decode b_Mr_readFunctionType 4 = .ok (.invokevirtual 167, 3) := by decide +kernel
theorem d_Mr_readFunctionType_7 : decode b_Mr_readFunctionType 7 = .ok (.aload_n 0, 1) := by decide +kernel
theorem d_Mr_readFunctionType_8 : decode b_Mr_readFunctionType 8 = .ok (.getfield 9, 3) := by decide +kernel
theorem d_Mr_readFunctionType_11 : decode b_Mr_readFunctionType 11 = .ok (.getfield 111, 3) := by decide +kernel
theorem d_Mr_readFunctionType_14 : decode b_Mr_readFunctionType 14 = .ok (.iconst 0, 1) := by decide +kernel
theorem d_Mr_readFunctionType_15 : decode b_Mr_readFunctionType 15 = .ok (.aaload, 1) := by decide +kernel
theorem d_Mr_readFunctionType_16 : decode b_Mr_readFunctionType 16 = .ok (.astore_n 1, 1) := by decide +kernel
theorem d_Mr_readFunctionType_17 : decode b_Mr_readFunctionType 17 = .ok (.aload_n 1, 1) := by decide +kernel
theorem d_Mr_readFunctionType_18 : decode b_Mr_readFunctionType 18 = .ok (.invokevirtual 122, 3) := by decide +kernel
theorem d_Mr_readFunctionType_21 : decode b_Mr_readFunctionType 21 = .ok (.iconst 0, 1) := by decide +kernel
theorem d_Mr_readFunctionType_22 : decode b_Mr_readFunctionType 22 = .ok (.istore_n 2, 1) := by decide +kernel
theorem d_Mr_readFunctionType_23 : decode b_Mr_readFunctionType 23 = .ok (.iload_n 2, 1) := by decide +kernel
theorem d_Mr_readFunctionType_24 : decode b_Mr_readFunctionType 24 = .ok (.iconst 2, 1) := by decide +kernel
theorem d_Mr_readFunctionType_25 : decode b_Mr_readFunctionType 25 = .ok (.if_icmp .ge 69, 3) := by decide +kernel
theorem d_Mr_readFunctionType_28 : decode b_Mr_readFunctionType 28 = .ok (.aload_n 0, 1) := by decide +kernel
theorem d_Mr_readFunctionType_29 : decode b_Mr_readFunctionType 29 = .ok (.getfield 26, 3) := by decide +kernel
theorem d_Mr_readFunctionType_32 : decode b_Mr_readFunctionType 32 = .ok (.invokevirtual 73, 3) := by decide +kernel
theorem d_Mr_readFunctionType_35 : decode b_Mr_readFunctionType 35 = .ok (.lstore_n 3, 1) := by decide +kernel
theorem d_Mr_readFunctionType_36 : decode b_Mr_readFunctionType 36 = .ok (.aload_n 1, 1) := by decide +kernel
theorem d_Mr_readFunctionType_37 : decode b_Mr_readFunctionType 37 = .ok (.iconst 2, 1) := by decide +kernel
theorem d_Mr_readFunctionType_38 : decode b_Mr_readFunctionType 38 = .ok (.iload_n 2, 1) := by decide +kernel
theorem d_Mr_readFunctionType_39 : decode b_Mr_readFunctionType 39 = .ok (.imul, 1) := by decide +kernel
theorem d_Mr_readFunctionType_40 : decode b_Mr_readFunctionType 40 = .ok (.aload_n 0, 1) := by decide +kernel
theorem d_Mr_readFunctionType_41 : decode b_Mr_readFunctionType 41 = .ok (.getfield 26, 3) := by decide +kernel
theorem d_Mr_readFunctionType_44 : decode b_Mr_readFunctionType 44 = .ok (.getfield 57, 3) := by decide +kernel
theorem d_Mr_readFunctionType_47 : decode b_Mr_readFunctionType 47 = .ok (.i2l, 1) := by decide +kernel
theorem d_Mr_readFunctionType_48 : decode b_Mr_readFunctionType 48 = .ok (.invokevirtual 132, 3) := by decide +kernel
theorem d_Mr_readFunctionType_51 : decode b_Mr_readFunctionType 51 = .ok (.aload_n 1, 1) := by decide +kernel
theorem d_Mr_readFunctionType_52 : decode b_Mr_readFunctionType 52 = .ok (.iconst 2, 1) := by decide +kernel
theorem d_Mr_readFunctionType_53 : decode b_Mr_readFunctionType 53 = .ok (.iload_n 2, 1) := by decide +kernel
theorem d_Mr_readFunctionType_54 : decode b_Mr_readFunctionType 54 = .ok (.imul, 1) := by decide +kernel
theorem d_Mr_readFunctionType_55 : decode b_Mr_readFunctionType 55 = .ok (.iconst 1, 1) := by decide +kernel
theorem d_Mr_readFunctionType_56 : decode b_Mr_readFunctionType 56 = .ok (.iadd, 1) := by decide +kernel
theorem d_Mr_readFunctionType_57 : decode b_Mr_readFunctionType 57 = .ok (.lload_n 3, 1) := by decide +kernel
theorem d_Mr_readFunctionType_58 : decode b_Mr_readFunctionType 58 = .ok (.invokevirtual 132, 3) := by decide +kernel
theorem d_Mr_readFunctionType_61 : decode b_Mr_readFunctionType 61 = .ok (.lload_n 3, 1) := by decide +kernel
theorem d_Mr_readFunctionType_62 : decode b_Mr_readFunctionType 62 = .ok (.lstore 5, 2) := by decide +kernel
theorem d_Mr_readFunctionType_64 : decode b_Mr_readFunctionType 64 = .ok (.lload 5, 2) := by decide +kernel
theorem d_Mr_readFunctionType_66 : decode b_Mr_readFunctionType 66 = .ok (.lconst 0, 1) := by decide +kernel
theorem d_Mr_readFunctionType_67 : decode b_Mr_readFunctionType 67 = .ok (.lcmp, 1) := by decide +kernel
theorem d_Mr_readFunctionType_68 : decode b_Mr_readFunctionType 68 = .ok (.ifCond .le 20, 3) := by decide +kernel
theorem d_Mr_readFunctionType_71 : decode b_Mr_readFunctionType 71 = .ok (.aload_n 0, 1) := by decide +kernel
theorem d_Mr_readFunctionType_72 : decode b_Mr_readFunctionType 72 = .ok (.getfield 26, 3) := by decide +kernel
theorem d_Mr_readFunctionType_75 : decode b_Mr_readFunctionType 75 = .ok (.invokevirtual 170, 3) := by decide +kernel
theorem d_Mr_readFunctionType_78 : decode b_Mr_readFunctionType 78 = .ok (.pop, 1) := by decide +kernel
theorem d_Mr_readFunctionType_79 : decode b_Mr_readFunctionType 79 = .ok (.lload 5, 2) := by decide +kernel
theorem d_Mr_readFunctionType_81 : decode b_Mr_readFunctionType 81 = .ok (.lconst 1, 1) := by decide +kernel
theorem d_Mr_readFunctionType_82 : decode b_Mr_readFunctionType 82 = .ok (.lsub, 1) := by decide +kernel
theorem d_Mr_readFunctionType_83 : decode b_Mr_readFunctionType 83 = .ok (.lstore 5, 2) := by decide +kernel
theorem d_Mr_readFunctionType_85 : decode b_Mr_readFunctionType 85 = .ok (.goto (-21), 3) := by decide +kernel
theorem d_Mr_readFunctionType_88 : decode b_Mr_readFunctionType 88 = .ok (.iinc 2 1, 3) := by decide +kernel
theorem d_Mr_readFunctionType_91 : decode b_Mr_readFunctionType 91 = .ok (.goto (-68), 3) := by decide +kernel
theorem d_Mr_readFunctionType_94 : decode b_Mr_readFunctionType 94 = .ok (.return_, 1) := by decide +kernel
abbrev b_Mr_readImport : ByteArray := prog_4_method_9_code
abbrev y_Mr_readImport : MethodName := ⟨"ModuleBytes$ModuleReader", "readImport", "()V"⟩
def w_Mr_readImport : List Cond := .code y_Mr_readImport b_Mr_readImport 3 (Option.none : Option Jvm.ClassFile.FieldType) :: wAll
theorem d_Mr_readImport_0 : decode b_Mr_readImport 0 = .ok (.aload_n 0, 1) := by decide +kernel
theorem d_Mr_readImport_1 : decode b_Mr_readImport 1 = .ok (.getfield 9, 3) := by decide +kernel
theorem d_Mr_readImport_4 : decode b_Mr_readImport 4 = .ok (.getfield 111, 3) := by decide +kernel
theorem d_Mr_readImport_7 : decode b_Mr_readImport 7 = .ok (.iconst 1, 1) := by decide +kernel
theorem d_Mr_readImport_8 : decode b_Mr_readImport 8 = .ok (.aaload, 1) := by decide +kernel
theorem d_Mr_readImport_9 : decode b_Mr_readImport 9 = .ok (.astore_n 1, 1) := by decide +kernel
theorem d_Mr_readImport_10 : decode b_Mr_readImport 10 = .ok (.aload_n 1, 1) := by decide +kernel
theorem d_Mr_readImport_11 : decode b_Mr_readImport 11 = .ok (.invokevirtual 122, 3) := by decide +kernel
theorem d_Mr_readImport_14 : decode b_Mr_readImport 14 = .ok (.aload_n 0, 1) := by decide +kernel
theorem d_Mr_readImport_15 : decode b_Mr_readImport 15 = .ok (.getfield 26, 3) := by decide +kernel
theorem d_Mr_readImport_18 : decode b_Mr_readImport 18 = .ok (.aload_n 1, 1) := by decide +kernel
theorem d_Mr_readImport_19 : decode b_Mr_readImport 19 = .ok (.getstatic 125, 3) := by decide +kernel
theorem d_Mr_readImport_22 : decode b_Mr_readImport 22 = .ok (.iconst 1, 1) := by decide +kernel
theorem d_Mr_readImport_23 : decode b_Mr_readImport 23 = .ok (.iaload, 1) := by decide +kernel
theorem d_Mr_readImport_24 : decode b_Mr_readImport 24 = .ok (.invokevirtual 128, 3) := by decide +kernel
theorem d_Mr_readImport_27 : decode b_Mr_readImport 27 = .ok (.aload_n 0, 1) := by decide +kernel
theorem d_Mr_readImport_28 : decode b_Mr_readImport 28 = .ok (.getfield 26, 3) := by decide +kernel
theorem d_Mr_readImport_31 : decode b_Mr_readImport 31 = .ok (.aload_n 1, 1) := by decide +kernel
theorem d_Mr_readImport_32 : decode b_Mr_readImport 32 = .ok (.getstatic 125, 3) := by decide +kernel
theorem d_Mr_readImport_35 : decode b_Mr_readImport 35 = .ok (.iconst 1, 1) := by decide +kernel
theorem d_Mr_readImport_36 : decode b_Mr_readImport 36 = .ok (.iaload, 1) := by decide +kernel
theorem d_Mr_readImport_37 : decode b_Mr_readImport 37 = .ok (.iconst 2, 1) := by decide +kernel
theorem d_Mr_readImport_38 : decode b_Mr_readImport 38 = .ok (.iadd, 1) := by decide +kernel
theorem d_Mr_readImport_39 : decode b_Mr_readImport 39 = .ok (.invokevirtual 128, 3) := by decide +kernel
theorem d_Mr_readImport_42 : decode b_Mr_readImport 42 = .ok (.aload_n 0, 1) := by decide +kernel
theorem d_Mr_readImport_43 : decode b_Mr_readImport 43 = .ok (.getfield 26, 3) := by decide +kernel
theorem d_Mr_readImport_46 : decode b_Mr_readImport 46 = .ok (.iconst 3, 1) := by decide +kernel
theorem d_Mr_readImport_47 : decode b_Mr_readImport 47 = .ok (.invokevirtual 173, 3) := by decide +kernel
theorem d_Mr_readImport_50 : decode b_Mr_readImport 50 = .ok (.istore_n 2, 1) := by decide +kernel
theorem d_Mr_readImport_51 : decode b_Mr_readImport 51 = .ok (.aload_n 1, 1) := by decide +kernel
theorem d_Mr_readImport_52 : decode b_Mr_readImport 52 = .ok (.iconst 0, 1) := by decide +kernel
theorem d_Mr_readImport_53 : decode b_Mr_readImport 53 = .ok (.iload_n 2, 1) := by decide +kernel
theorem d_Mr_readImport_54 : decode b_Mr_readImport 54 = .ok (.i2l, 1) := by decide +kernel
theorem d_Mr_readImport_55 : decode b_Mr_readImport 55 = .ok (.invokevirtual 132, 3) := by decide +kernel
theorem d_Mr_readImport_58 : decode b_Mr_readImport 58 = .ok (.iload_n 2, 1) := by decide +kernel
theorem d_Mr_readImport_59 : decode b_Mr_readImport 59 = .ok (.tableswitch 62 0 2 #[25, 46, 54], 25) := by decide +kernel
theorem d_Mr_readImport_84 : decode b_Mr_readImport 84 = .ok (.aload_n 1, 1) := by decide +kernel
theorem d_Mr_readImport_85 : decode b_Mr_readImport 85 = .ok (.iconst 1, 1) := by decide +kernel
theorem d_Mr_readImport_86 : decode b_Mr_readImport 86 = .ok (.aload_n 0, 1) := by decide +kernel
theorem d_Mr_readImport_87 : decode b_Mr_readImport 87 = .ok (.getfield 26, 3) := by decide +kernel
theorem d_Mr_readImport_90 : decode b_Mr_readImport 90 = .ok (.invokevirtual 73, 3) := by decide +kernel
theorem d_Mr_readImport_93 : decode b_Mr_readImport 93 = .ok (.invokevirtual 132, 3) := by decide +kernel
theorem d_Mr_readImport_96 : decode b_Mr_readImport 96 = .ok (.aload_n 1, 1) := by decide +kernel
theorem d_Mr_readImport_97 : decode b_Mr_readImport 97 = .ok (.iconst 2, 1) := by decide +kernel
theorem d_Mr_readImport_98 : decode b_Mr_readImport 98 = .ok (.lconst 0, 1) := by decide +kernel
theorem d_Mr_readImport_99 : decode b_Mr_readImport 99 = .ok (.invokevirtual 132, 3) := by decide +kernel
theorem d_Mr_readImport_102 : decode b_Mr_readImport 102 = .ok (.goto 24, 3) := by decide +kernel
theorem d_Mr_readImport_105 : decode b_Mr_readImport 105 = .ok (.aload_n 0, 1) := by decide +kernel
theorem d_Mr_readImport_106 : decode b_Mr_readImport 106 = .ok (.aload_n 1, 1) := by decide +kernel
theorem d_Mr_readImport_107 : decode b_Mr_readImport 107 = .ok (.invokevirtual 145, 3) := by decide +kernel
theorem d_Mr_readImport_110 : decode b_Mr_readImport 110 = .ok (.goto 16, 3) := by decide +kernel
theorem d_Mr_readImport_113 : decode b_Mr_readImport 113 = .ok (.aload_n 0, 1) := by decide +kernel
theorem d_Mr_readImport_114 : decode b_Mr_readImport 114 = .ok (.aload_n 1, 1) := by decide +kernel
theorem d_Mr_readImport_115 : decode b_Mr_readImport 115 = .ok (.invokevirtual 149, 3) := by decide +kernel
theorem d_Mr_readImport_118 : decode b_Mr_readImport 118 = .ok (.goto 8, 3) := by decide +kernel
theorem d_Mr_readImport_121 : decode b_Mr_readImport 121 = .ok (.aload_n 0, 1) := by decide +kernel
theorem d_Mr_readImport_122 : decode b_Mr_readImport 122 = .ok (.aload_n 1, 1) := by decide +kernel
theorem d_Mr_readImport_123 : decode b_Mr_readImport 123 = .ok (.invokevirtual 177, 3) := by decide +kernel
theorem d_Mr_readImport_126 : decode b_Mr_readImport 126 = .ok (.return_, 1) := by decide +kernel
abbrev b_Mr_readTable : ByteArray := prog_4_method_11_code
abbrev y_Mr_readTable : MethodName := ⟨"ModuleBytes$ModuleReader", "readTable", "(LModuleBytes$Table;)V"⟩
def w_Mr_readTable : List Cond := .code y_Mr_readTable b_Mr_readTable 2 (Option.none : Option Jvm.ClassFile.FieldType) :: wAll
theorem d_Mr_readTable_0 : decode b_Mr_readTable 0 = .ok (.aload_n 1, 1) := by decide +kernel
theorem d_Mr_readTable_1 : decode b_Mr_readTable 1 = .ok (.iconst 1, 1) := by decide +kernel
theorem d_Mr_readTable_2 : decode b_Mr_readTable 2 = .ok (.aload_n 0, 1) := by decide +kernel
theorem d_Mr_readTable_3 : decode b_Mr_readTable 3 = .ok (.getfield 26, 3) := by decide +kernel
theorem d_Mr_readTable_6 : decode b_Mr_readTable 6 = .ok (.invokevirtual 180, 3) := by decide +kernel
theorem d_Mr_readTable_9 : decode b_Mr_readTable 9 = .ok (.i2l, 1) := by decide +kernel
theorem d_Mr_readTable_10 : decode b_Mr_readTable 10 = .ok (.invokevirtual 132, 3) := by decide +kernel
theorem d_Mr_readTable_13 : decode b_Mr_readTable 13 = .ok (.aload_n 0, 1) := by decide +kernel
theorem d_Mr_readTable_14 : decode b_Mr_readTable 14 = .ok (.aload_n 1, 1) := by decide +kernel
theorem d_Mr_readTable_15 : decode b_Mr_readTable 15 = .ok (.invokevirtual 183, 3) := by decide +kernel
theorem d_Mr_readTable_18 : decode b_Mr_readTable 18 = .ok (.return_, 1) := by decide +kernel
abbrev b_Mr_readLimits : ByteArray := prog_4_method_13_code
abbrev y_Mr_readLimits : MethodName := ⟨"ModuleBytes$ModuleReader", "readLimits", "(LModuleBytes$Table;)V"⟩
def w_Mr_readLimits : List Cond := .code y_Mr_readLimits b_Mr_readLimits 3 (Option.none : Option Jvm.ClassFile.FieldType) :: wAll
theorem d_Mr_readLimits_0 : decode b_Mr_readLimits 0 = .ok (.aload_n 0, 1) := by decide +kernel
theorem d_Mr_readLimits_1 : decode b_Mr_readLimits 1 = .ok (.getfield 26, 3) := by decide +kernel
theorem d_Mr_readLimits_4 : decode b_Mr_readLimits 4 = .ok (.iconst 1, 1) := by decide +kernel
theorem d_Mr_readLimits_5 : decode b_Mr_readLimits 5 = .ok (.invokevirtual 173, 3) := by decide +kernel
theorem d_Mr_readLimits_8 : decode b_Mr_readLimits 8 = .ok (.iconst 1, 1) := by decide +kernel
theorem d_Mr_readLimits_9 : decode b_Mr_readLimits 9 = .ok (.if_icmp .ne 7, 3) := by decide +kernel
theorem d_Mr_readLimits_12 : decode b_Mr_readLimits 12 = .ok (.iconst 1, 1) := by decide +kernel
theorem d_Mr_readLimits_13 : decode b_Mr_readLimits 13 = .ok (.goto 4, 3) := by decide +kernel
theorem d_Mr_readLimits_16 : decode b_Mr_readLimits 16 = .ok (.iconst 0, 1) := by decide +kernel
theorem d_Mr_readLimits_17 : decode b_Mr_readLimits 17 = .ok (.istore_n 2, 1) := by decide +kernel
theorem d_Mr_readLimits_18 : decode b_Mr_readLimits 18 = .ok (.aload_n 1, 1) := by decide +kernel
theorem d_Mr_readLimits_19 : decode b_Mr_readLimits 19 = .ok (.iconst 2, 1) := by decide +kernel
theorem d_Mr_readLimits_20 : decode b_Mr_readLimits 20 = .ok (.aload_n 0, 1) := by decide +kernel
theorem d_Mr_readLimits_21 : decode b_Mr_readLimits 21 = .ok (.getfield 26, 3) := by decide +kernel
theorem d_Mr_readLimits_24 : decode b_Mr_readLimits 24 = .ok (.invokevirtual 73, 3) := by decide +kernel
theorem d_Mr_readLimits_27 : decode b_Mr_readLimits 27 = .ok (.invokevirtual 132, 3) := by decide +kernel
theorem d_Mr_readLimits_30 : decode b_Mr_readLimits 30 = .ok (.iload_n 2, 1) := by decide +kernel
theorem d_Mr_readLimits_31 : decode b_Mr_readLimits 31 = .ok (.ifCond .eq 15, 3) := by decide +kernel
theorem d_Mr_readLimits_34 : decode b_Mr_readLimits 34 = .ok (.aload_n 1, 1) := by decide +kernel
theorem d_Mr_readLimits_35 : decode b_Mr_readLimits 35 = .ok (.iconst 3, 1) := by decide +kernel
theorem d_Mr_readLimits_36 : decode b_Mr_readLimits 36 = .ok (.aload_n 0, 1) := by decide +kernel
theorem d_Mr_readLimits_37 : decode b_Mr_readLimits 37 = .ok (.getfield 26, 3) := by decide +kernel
theorem d_Mr_readLimits_40 : decode b_Mr_readLimits 40 = .ok (.invokevirtual 73, 3) := by decide +kernel
theorem d_Mr_readLimits_43 : decode b_Mr_readLimits 43 = .ok (.invokevirtual 132, 3) := by decide +kernel
theorem d_Mr_readLimits_46 : decode b_Mr_readLimits 46 = .ok (.return_, 1) := by decide +kernel
abbrev b_Mr_readMemory : ByteArray := prog_4_method_12_code
abbrev y_Mr_readMemory : MethodName := ⟨"ModuleBytes$ModuleReader", "readMemory", "(LModuleBytes$Table;)V"⟩
def w_Mr_readMemory : List Cond := .code y_Mr_readMemory b_Mr_readMemory 2 (Option.none : Option Jvm.ClassFile.FieldType) :: wAll
theorem d_Mr_readMemory_0 : decode b_Mr_readMemory 0 = .ok (.aload_n 1, 1) := by decide +kernel
theorem d_Mr_readMemory_1 : decode b_Mr_readMemory 1 = .ok (.iconst 1, 1) := by decide +kernel
theorem d_Mr_readMemory_2 : decode b_Mr_readMemory 2 = .ok (.lconst 0, 1) := by decide +kernel
theorem d_Mr_readMemory_3 : decode b_Mr_readMemory 3 = .ok (.invokevirtual 132, 3) := by decide +kernel
theorem d_Mr_readMemory_6 : decode b_Mr_readMemory 6 = .ok (.aload_n 0, 1) := by decide +kernel
theorem d_Mr_readMemory_7 : decode b_Mr_readMemory 7 = .ok (.aload_n 1, 1) := by decide +kernel
theorem d_Mr_readMemory_8 : decode b_Mr_readMemory 8 = .ok (.invokevirtual 183, 3) := by decide +kernel
theorem d_Mr_readMemory_11 : decode b_Mr_readMemory 11 = .ok (.return_, 1) := by decide +kernel
abbrev b_Mr_readGlobal : ByteArray := prog_4_method_14_code
abbrev y_Mr_readGlobal : MethodName := ⟨"ModuleBytes$ModuleReader", "readGlobal", "(LModuleBytes$Table;)V"⟩
def w_Mr_readGlobal : List Cond := .code y_Mr_readGlobal b_Mr_readGlobal 2 (Option.none : Option Jvm.ClassFile.FieldType) :: wAll
theorem d_Mr_readGlobal_0 : decode b_Mr_readGlobal 0 = .ok (.aload_n 1, 1) := by decide +kernel
theorem d_Mr_readGlobal_1 : decode b_Mr_readGlobal 1 = .ok (.iconst 1, 1) := by decide +kernel
theorem d_Mr_readGlobal_2 : decode b_Mr_readGlobal 2 = .ok (.aload_n 0, 1) := by decide +kernel
theorem d_Mr_readGlobal_3 : decode b_Mr_readGlobal 3 = .ok (.getfield 26, 3) := by decide +kernel
theorem d_Mr_readGlobal_6 : decode b_Mr_readGlobal 6 = .ok (.invokevirtual 170, 3) := by decide +kernel
theorem d_Mr_readGlobal_9 : decode b_Mr_readGlobal 9 = .ok (.i2l, 1) := by decide +kernel
theorem d_Mr_readGlobal_10 : decode b_Mr_readGlobal 10 = .ok (.invokevirtual 132, 3) := by decide +kernel
theorem d_Mr_readGlobal_13 : decode b_Mr_readGlobal 13 = .ok (.aload_n 1, 1) := by decide +kernel
theorem d_Mr_readGlobal_14 : decode b_Mr_readGlobal 14 = .ok (.iconst 2, 1) := by decide +kernel
theorem d_Mr_readGlobal_15 : decode b_Mr_readGlobal 15 = .ok (.aload_n 0, 1) := by decide +kernel
theorem d_Mr_readGlobal_16 : decode b_Mr_readGlobal 16 = .ok (.getfield 26, 3) := by decide +kernel
theorem d_Mr_readGlobal_19 : decode b_Mr_readGlobal 19 = .ok (.iconst 1, 1) := by decide +kernel
theorem d_Mr_readGlobal_20 : decode b_Mr_readGlobal 20 = .ok (.invokevirtual 173, 3) := by decide +kernel
theorem d_Mr_readGlobal_23 : decode b_Mr_readGlobal 23 = .ok (.i2l, 1) := by decide +kernel
theorem d_Mr_readGlobal_24 : decode b_Mr_readGlobal 24 = .ok (.invokevirtual 132, 3) := by decide +kernel
theorem d_Mr_readGlobal_27 : decode b_Mr_readGlobal 27 = .ok (.return_, 1) := by decide +kernel
abbrev b_Mr_readFunction : ByteArray := prog_4_method_10_code
abbrev y_Mr_readFunction : MethodName := ⟨"ModuleBytes$ModuleReader", "readFunction", "()V"⟩
def w_Mr_readFunction : List Cond := .code y_Mr_readFunction b_Mr_readFunction 1 (Option.none : Option Jvm.ClassFile.FieldType) :: wAll
theorem d_Mr_readFunction_0 : decode b_Mr_readFunction 0 = .ok (.aload_n 0, 1) := by decide +kernel
theorem d_Mr_readFunction_1 : decode b_Mr_readFunction 1 = .ok (.getfield 9, 3) := by decide +kernel
theorem d_Mr_readFunction_4 : decode b_Mr_readFunction 4 = .ok (.getfield 111, 3) := by decide +kernel
theorem d_Mr_readFunction_7 : decode b_Mr_readFunction 7 = .ok (.iconst 2, 1) := by decide +kernel
theorem d_Mr_readFunction_8 : decode b_Mr_readFunction 8 = .ok (.aaload, 1) := by decide +kernel
theorem d_Mr_readFunction_9 : decode b_Mr_readFunction 9 = .ok (.invokevirtual 122, 3) := by decide +kernel
theorem d_Mr_readFunction_12 : decode b_Mr_readFunction 12 = .ok (.aload_n 0, 1) := by decide +kernel
theorem d_Mr_readFunction_13 : decode b_Mr_readFunction 13 = .ok (.getfield 9, 3) := by decide +kernel
theorem d_Mr_readFunction_16 : decode b_Mr_readFunction 16 = .ok (.getfield 111, 3) := by decide +kernel
theorem d_Mr_readFunction_19 : decode b_Mr_readFunction 19 = .ok (.iconst 2, 1) := by decide +kernel
theorem d_Mr_readFunction_20 : decode b_Mr_readFunction 20 = .ok (.aaload, 1) := by decide +kernel
theorem d_Mr_readFunction_21 : decode b_Mr_readFunction 21 = .ok (.iconst 0, 1) := by decide +kernel
theorem d_Mr_readFunction_22 : decode b_Mr_readFunction 22 = .ok (.aload_n 0, 1) := by decide +kernel
theorem d_Mr_readFunction_23 : decode b_Mr_readFunction 23 = .ok (.getfield 26, 3) := by decide +kernel
theorem d_Mr_readFunction_26 : decode b_Mr_readFunction 26 = .ok (.invokevirtual 73, 3) := by decide +kernel
theorem d_Mr_readFunction_29 : decode b_Mr_readFunction 29 = .ok (.invokevirtual 132, 3) := by decide +kernel
theorem d_Mr_readFunction_32 : decode b_Mr_readFunction 32 = .ok (.return_, 1) := by decide +kernel
abbrev b_Mr_readOwnGlobal : ByteArray := prog_4_method_15_code
abbrev y_Mr_readOwnGlobal : MethodName := ⟨"ModuleBytes$ModuleReader", "readOwnGlobal", "()V"⟩
def w_Mr_readOwnGlobal : List Cond := .code y_Mr_readOwnGlobal b_Mr_readOwnGlobal 2 (Option.none : Option Jvm.ClassFile.FieldType) :: wAll
theorem d_Mr_readOwnGlobal_0 : decode b_Mr_readOwnGlobal 0 = .ok (.aload_n 0, 1) := by decide +kernel
theorem d_Mr_readOwnGlobal_1 : decode b_Mr_readOwnGlobal 1 = .ok (.getfield 9, 3) := by decide +kernel
theorem d_Mr_readOwnGlobal_4 : decode b_Mr_readOwnGlobal 4 = .ok (.getfield 111, 3) := by decide +kernel
theorem d_Mr_readOwnGlobal_7 : decode b_Mr_readOwnGlobal 7 = .ok (.iconst 5, 1) := by decide +kernel
theorem d_Mr_readOwnGlobal_8 : decode b_Mr_readOwnGlobal 8 = .ok (.aaload, 1) := by decide +kernel
theorem d_Mr_readOwnGlobal_9 : decode b_Mr_readOwnGlobal 9 = .ok (.astore_n 1, 1) := by decide +kernel
theorem d_Mr_readOwnGlobal_10 : decode b_Mr_readOwnGlobal 10 = .ok (.aload_n 1, 1) := by decide +kernel
theorem d_Mr_readOwnGlobal_11 : decode b_Mr_readOwnGlobal 11 = .ok (.invokevirtual 122, 3) := by decide +kernel
theorem d_Mr_readOwnGlobal_14 : decode b_Mr_readOwnGlobal 14 = .ok (.aload_n 0, 1) := by decide +kernel
theorem d_Mr_readOwnGlobal_15 : decode b_Mr_readOwnGlobal 15 = .ok (.aload_n 1, 1) := by decide +kernel
theorem d_Mr_readOwnGlobal_16 : decode b_Mr_readOwnGlobal 16 = .ok (.invokevirtual 177, 3) := by decide +kernel
theorem d_Mr_readOwnGlobal_19 : decode b_Mr_readOwnGlobal 19 = .ok (.aload_n 1, 1) := by decide +kernel
theorem d_Mr_readOwnGlobal_20 : decode b_Mr_readOwnGlobal 20 = .ok (.iconst 4, 1) := by decide +kernel
theorem d_Mr_readOwnGlobal_21 : decode b_Mr_readOwnGlobal 21 = .ok (.aload_n 0, 1) := by decide +kernel
theorem d_Mr_readOwnGlobal_22 : decode b_Mr_readOwnGlobal 22 = .ok (.getfield 26, 3) := by decide +kernel
theorem d_Mr_readOwnGlobal_25 : decode b_Mr_readOwnGlobal 25 = .ok (.getfield 57, 3) := by decide +kernel
theorem d_Mr_readOwnGlobal_28 : decode b_Mr_readOwnGlobal 28 = .ok (.i2l, 1) := by decide +kernel
theorem d_Mr_readOwnGlobal_29 : decode b_Mr_readOwnGlobal 29 = .ok (.invokevirtual 132, 3) := by decide +kernel
theorem d_Mr_readOwnGlobal_32 : decode b_Mr_readOwnGlobal 32 = .ok (.aload_n 0, 1) := by decide +kernel
theorem d_Mr_readOwnGlobal_33 : decode b_Mr_readOwnGlobal 33 = .ok (.getfield 35, 3) := by decide +kernel
theorem d_Mr_readOwnGlobal_36 : decode b_Mr_readOwnGlobal 36 = .ok (.invokevirtual 186, 3) := by decide +kernel
theorem d_Mr_readOwnGlobal_39 : decode b_Mr_readOwnGlobal 39 = .ok (.aload_n 1, 1) := by decide +kernel
theorem d_Mr_readOwnGlobal_40 : decode b_Mr_readOwnGlobal 40 = .ok (.iconst 5, 1) := by decide +kernel
theorem d_Mr_readOwnGlobal_41 : decode b_Mr_readOwnGlobal 41 = .ok (.aload_n 0, 1) := by decide +kernel
theorem d_Mr_readOwnGlobal_42 : decode b_Mr_readOwnGlobal 42 = .ok (.getfield 26, 3) := by decide +kernel
theorem d_Mr_readOwnGlobal_45 : decode b_Mr_readOwnGlobal 45 = .ok (.getfield 57, 3) := by decide +kernel
theorem d_Mr_readOwnGlobal_48 : decode b_Mr_readOwnGlobal 48 = .ok (.i2l, 1) := by decide +kernel
theorem d_Mr_readOwnGlobal_49 : decode b_Mr_readOwnGlobal 49 = .ok (.invokevirtual 132, 3) := by decide +kernel
theorem d_Mr_readOwnGlobal_52 : decode b_Mr_readOwnGlobal 52 = .ok (.return_, 1) := by decide +kernel
abbrev b_Mr_readExport : ByteArray := prog_4_method_16_code
abbrev y_Mr_readExport : MethodName := ⟨"ModuleBytes$ModuleReader", "readExport", "()V"⟩
def w_Mr_readExport : List Cond := .code y_Mr_readExport b_Mr_readExport 2 (Option.none : Option Jvm.ClassFile.FieldType) :: wAll
theorem d_Mr_readExport_0 : decode b_Mr_readExport 0 = .ok (.aload_n 0, 1) := by decide +kernel
theorem d_Mr_readExport_1 : decode b_Mr_readExport 1 = .ok (.getfield 9, 3) := by decide +kernel
theorem d_Mr_readExport_4 : decode b_Mr_readExport 4 = .ok (.getfield 111, 3) := by decide +kernel
theorem d_Mr_readExport_7 : decode b_Mr_readExport 7 = .ok (.bipush 6, 2) := by decide +kernel
theorem d_Mr_readExport_9 : decode b_Mr_readExport 9 = .ok (.aaload, 1) := by decide +kernel
theorem d_Mr_readExport_10 : decode b_Mr_readExport 10 = .ok (.astore_n 1, 1) := by decide +kernel
theorem d_Mr_readExport_11 : decode b_Mr_readExport 11 = .ok (.aload_n 1, 1) := by decide +kernel
theorem d_Mr_readExport_12 : decode b_Mr_readExport 12 = .ok (.invokevirtual 122, 3) := by decide +kernel
theorem d_Mr_readExport_15 : decode b_Mr_readExport 15 = .ok (.aload_n 0, 1) := by decide +kernel
theorem d_Mr_readExport_16 : decode b_Mr_readExport 16 = .ok (.getfield 26, 3) := by decide +kernel
theorem d_Mr_readExport_19 : decode b_Mr_readExport 19 = .ok (.aload_n 1, 1) := by decide +kernel
theorem d_Mr_readExport_20 : decode b_Mr_readExport 20 = .ok (.getstatic 125, 3) := by decide +kernel
theorem d_Mr_readExport_23 : decode b_Mr_readExport 23 = .ok (.bipush 6, 2) := by decide +kernel
theorem d_Mr_readExport_25 : decode b_Mr_readExport 25 = .ok (.iaload, 1) := by decide +kernel
theorem d_Mr_readExport_26 : decode b_Mr_readExport 26 = .ok (.invokevirtual 128, 3) := by decide +kernel
theorem d_Mr_readExport_29 : decode b_Mr_readExport 29 = .ok (.aload_n 1, 1) := by decide +kernel
theorem d_Mr_readExport_30 : decode b_Mr_readExport 30 = .ok (.iconst 0, 1) := by decide +kernel
theorem d_Mr_readExport_31 : decode b_Mr_readExport 31 = .ok (.aload_n 0, 1) := by decide +kernel
theorem d_Mr_readExport_32 : decode b_Mr_readExport 32 = .ok (.getfield 26, 3) := by decide +kernel
theorem d_Mr_readExport_35 : decode b_Mr_readExport 35 = .ok (.iconst 3, 1) := by decide +kernel
theorem d_Mr_readExport_36 : decode b_Mr_readExport 36 = .ok (.invokevirtual 173, 3) := by decide +kernel
theorem d_Mr_readExport_39 : decode b_Mr_readExport 39 = .ok (.i2l, 1) := by decide +kernel
theorem d_Mr_readExport_40 : decode b_Mr_readExport 40 = .ok (.invokevirtual 132, 3) := by decide +kernel
theorem d_Mr_readExport_43 : decode b_Mr_readExport 43 = .ok (.aload_n 1, 1) := by decide +kernel
theorem d_Mr_readExport_44 : decode b_Mr_readExport 44 = .ok (.iconst 1, 1) := by decide +kernel
theorem d_Mr_readExport_45 : decode b_Mr_readExport 45 = .ok (.aload_n 0, 1) := by decide +kernel
theorem d_Mr_readExport_46 : decode b_Mr_readExport 46 = .ok (.getfield 26, 3) := by decide +kernel
theorem d_Mr_readExport_49 : decode b_Mr_readExport 49 = .ok (.invokevirtual 73, 3) := by decide +kernel
theorem d_Mr_readExport_52 : decode b_Mr_readExport 52 = .ok (.invokevirtual 132, 3) := by decide +kernel
theorem d_Mr_readExport_55 : decode b_Mr_readExport 55 = .ok (.return_, 1) := by decide +kernel
abbrev b_Mr_readElement : ByteArray := prog_4_method_17_code
abbrev y_Mr_readElement : MethodName := ⟨"ModuleBytes$ModuleReader", "readElement", "()V"⟩
def w_Mr_readElement : List Cond := .code y_Mr_readElement b_Mr_readElement 10 (Option.none : Option Jvm.ClassFile.FieldType) :: wAll
theorem d_Mr_readElement_0 : decode b_Mr_readElement 0 = .ok (.aload_n 0, 1) := by decide +kernel
theorem d_Mr_readElement_1 : decode b_Mr_readElement 1 = .ok (.getfield 26, 3) := by decide +kernel
theorem d_Mr_readElement_4 : decode b_Mr_readElement 4 = .ok (.bipush 7, 2) := by decide +kernel
theorem d_Mr_readElement_6 : decode b_Mr_readElement 6 = .ok (.invokevirtual 189, 3) := by decide +kernel
theorem d_Mr_readElement_9 : decode b_Mr_readElement 9 = .ok (.istore_n 1, 1) := by decide +kernel
theorem d_Mr_readElement_10 : decode b_Mr_readElement 10 = .ok (.iload_n 1, 1) := by decide +kernel
theorem d_Mr_readElement_11 : decode b_Mr_readElement 11 = .ok (.iconst 1, 1) := by decide +kernel
theorem d_Mr_readElement_12 : decode b_Mr_readElement 12 = .ok (.iand, 1) := by decide +kernel
theorem d_Mr_readElement_13 : decode b_Mr_readElement 13 = .ok (.ifCond .ne 7, 3) := by decide +kernel
theorem d_Mr_readElement_16 : decode b_Mr_readElement 16 = .ok (.iconst 1, 1) := by decide +kernel
theorem d_Mr_readElement_17 : decode b_Mr_readElement 17 = .ok (.goto 4, 3) := by decide +kernel
theorem d_Mr_readElement_20 : decode b_Mr_readElement 20 = .ok (.iconst 0, 1) := by decide +kernel
theorem d_Mr_readElement_21 : decode b_Mr_readElement 21 = .ok (.istore_n 2, 1) := by decide +kernel
theorem d_Mr_readElement_22 : decode b_Mr_readElement 22 = .ok (.iload_n 1, 1) := by decide +kernel
theorem d_Mr_readElement_23 : decode b_Mr_readElement 23 = .ok (.iconst 2, 1) := by decide +kernel
theorem d_Mr_readElement_24 : decode b_Mr_readElement 24 = .ok (.iand, 1) := by decide +kernel
theorem d_Mr_readElement_25 : decode b_Mr_readElement 25 = .ok (.ifCond .eq 7, 3) := by decide +kernel
theorem d_Mr_readElement_28 : decode b_Mr_readElement 28 = .ok (.iconst 1, 1) := by decide +kernel
theorem d_Mr_readElement_29 : decode b_Mr_readElement 29 = .ok (.goto 4, 3) := by decide +kernel
theorem d_Mr_readElement_32 : decode b_Mr_readElement 32 = .ok (.iconst 0, 1) := by decide +kernel
theorem d_Mr_readElement_33 : decode b_Mr_readElement 33 = .ok (.istore_n 3, 1) := by decide +kernel
theorem d_Mr_readElement_34 : decode b_Mr_readElement 34 = .ok (.iload_n 1, 1) := by decide +kernel
theorem d_Mr_readElement_35 : decode b_Mr_readElement 35 = .ok (.iconst 4, 1) := by decide +kernel
theorem d_Mr_readElement_36 : decode b_Mr_readElement 36 = .ok (.iand, 1) := by decide +kernel
theorem d_Mr_readElement_37 : decode b_Mr_readElement 37 = .ok (.ifCond .eq 7, 3) := by decide +kernel
theorem d_Mr_readElement_40 : decode b_Mr_readElement 40 = .ok (.iconst 1, 1) := by decide +kernel
theorem d_Mr_readElement_41 : decode b_Mr_readElement 41 = .ok (.goto 4, 3) := by decide +kernel
theorem d_Mr_readElement_44 : decode b_Mr_readElement 44 = .ok (.iconst 0, 1) := by decide +kernel
theorem d_Mr_readElement_45 : decode b_Mr_readElement 45 = .ok (.istore 4, 2) := by decide +kernel
theorem d_Mr_readElement_47 : decode b_Mr_readElement 47 = .ok (.aload_n 0, 1) := by decide +kernel
theorem d_Mr_readElement_48 : decode b_Mr_readElement 48 = .ok (.getfield 9, 3) := by decide +kernel
theorem d_Mr_readElement_51 : decode b_Mr_readElement 51 = .ok (.getfield 111, 3) := by decide +kernel
theorem d_Mr_readElement_54 : decode b_Mr_readElement 54 = .ok (.bipush 7, 2) := by decide +kernel
theorem d_Mr_readElement_56 : decode b_Mr_readElement 56 = .ok (.aaload, 1) := by decide +kernel
theorem d_Mr_readElement_57 : decode b_Mr_readElement 57 = .ok (.astore 5, 2) := by decide +kernel
theorem d_Mr_readElement_59 : decode b_Mr_readElement 59 = .ok (.aload 5, 2) := by decide +kernel
theorem d_Mr_readElement_61 : decode b_Mr_readElement 61 = .ok (.invokevirtual 122, 3) := by decide +kernel
theorem d_Mr_readElement_64 : decode b_Mr_readElement 64 = .ok (.aload 5, 2) := by decide +kernel
theorem d_Mr_readElement_66 : decode b_Mr_readElement 66 = .ok (.iconst 0, 1) := by decide +kernel
theorem d_Mr_readElement_67 : decode b_Mr_readElement 67 = .ok (.iload_n 2, 1) := by decide +kernel
theorem d_Mr_readElement_68 : decode b_Mr_readElement 68 = .ok (.ifCond .eq 7, 3) := by decide +kernel
theorem d_Mr_readElement_71 : decode b_Mr_readElement 71 = .ok (.lconst 1, 1) := by decide +kernel
theorem d_Mr_readElement_72 : decode b_Mr_readElement 72 = .ok (.goto 14, 3) := by decide +kernel
theorem d_Mr_readElement_75 : decode b_Mr_readElement 75 = .ok (.iload_n 3, 1) := by decide +kernel
theorem d_Mr_readElement_76 : decode b_Mr_readElement 76 = .ok (.ifCond .eq 9, 3) := by decide +kernel
theorem d_Mr_readElement_79 : decode b_Mr_readElement 79 = .ok (.ldc2_w 192, 3) := by decide +kernel
theorem d_Mr_readElement_82 : decode b_Mr_readElement 82 = .ok (.goto 4, 3) := by decide +kernel
theorem d_Mr_readElement_85 : decode b_Mr_readElement 85 = .ok (.lconst 0, 1) := by decide +kernel
theorem d_Mr_readElement_86 : decode b_Mr_readElement 86 = .ok (.invokevirtual 132, 3) := by decide +kernel
theorem d_Mr_readElement_89 : decode b_Mr_readElement 89 = .ok (.aload 5, 2) := by decide +kernel
theorem d_Mr_readElement_91 : decode b_Mr_readElement 91 = .ok (.iconst 2, 1) := by decide +kernel
theorem d_Mr_readElement_92 : decode b_Mr_readElement 92 = .ok (.iload_n 2, 1) := by decide +kernel
theorem d_Mr_readElement_93 : decode b_Mr_readElement 93 = .ok (.ifCond .eq 17, 3) := by decide +kernel
theorem d_Mr_readElement_96 : decode b_Mr_readElement 96 = .ok (.iload_n 3, 1) := by decide +kernel
theorem d_Mr_readElement_97 : decode b_Mr_readElement 97 = .ok (.ifCond .eq 13, 3) := by decide +kernel
theorem d_Mr_readElement_100 : decode b_Mr_readElement 100 = .ok (.aload_n 0, 1) := by decide +kernel
theorem d_Mr_readElement_101 : decode b_Mr_readElement 101 = .ok (.getfield 26, 3) := by decide +kernel
theorem d_Mr_readElement_104 : decode b_Mr_readElement 104 = .ok (.invokevirtual 73, 3) := by decide +kernel
theorem d_Mr_readElement_107 : decode b_Mr_readElement 107 = .ok (.goto 4, 3) := by decide +kernel
theorem d_Mr_readElement_110 : decode b_Mr_readElement 110 = .ok (.lconst 0, 1) := by decide +kernel
theorem d_Mr_readElement_111 : decode b_Mr_readElement 111 = .ok (.invokevirtual 132, 3) := by decide +kernel
theorem d_Mr_readElement_114 : decode b_Mr_readElement 114 = .ok (.iload_n 2, 1) := by decide +kernel
theorem d_Mr_readElement_115 : decode b_Mr_readElement 115 = .ok (.ifCond .eq 38, 3) := by decide +kernel
theorem d_Mr_readElement_118 : decode b_Mr_readElement 118 = .ok (.aload 5, 2) := by decide +kernel
theorem d_Mr_readElement_120 : decode b_Mr_readElement 120 = .ok (.iconst 4, 1) := by decide +kernel
theorem d_Mr_readElement_121 : decode b_Mr_readElement 121 = .ok (.aload_n 0, 1) := by decide +kernel
theorem d_Mr_readElement_122 : decode b_Mr_readElement 122 = .ok (.getfield 26, 3) := by decide +kernel
theorem d_Mr_readElement_125 : decode b_Mr_readElement 125 = .ok (.getfield 57, 3) := by decide +kernel
theorem d_Mr_readElement_128 : decode b_Mr_readElement 128 = .ok (.i2l, 1) := by decide +kernel
theorem d_Mr_readElement_129 : decode b_Mr_readElement 129 = .ok (.invokevirtual 132, 3) := by decide +kernel
theorem d_Mr_readElement_132 : decode b_Mr_readElement 132 = .ok (.aload_n 0, 1) := by decide +kernel
theorem d_Mr_readElement_133 : decode b_Mr_readElement 133 = .ok (.getfield 35, 3) := by decide +kernel
theorem d_Mr_readElement_136 : decode b_Mr_readElement 136 = .ok (.invokevirtual 186, 3) := by decide +kernel
theorem d_Mr_readElement_139 : decode b_Mr_readElement 139 = .ok (.aload 5, 2) := by decide +kernel
theorem d_Mr_readElement_141 : decode b_Mr_readElement 141 = .ok (.iconst 5, 1) := by decide +kernel
theorem d_Mr_readElement_142 : decode b_Mr_readElement 142 = .ok (.aload_n 0, 1) := by decide +kernel
theorem d_Mr_readElement_143 : decode b_Mr_readElement 143 = .ok (.getfield 26, 3) := by decide +kernel
theorem d_Mr_readElement_146 : decode b_Mr_readElement 146 = .ok (.getfield 57, 3) := by decide +kernel
theorem d_Mr_readElement_149 : decode b_Mr_readElement 149 = .ok (.i2l, 1) := by decide +kernel
theorem d_Mr_readElement_150 : decode b_Mr_readElement 150 = .ok (.invokevirtual 132, 3) := by decide +kernel
theorem d_Mr_readElement_153 : decode b_Mr_readElement 153 = .ok (.aload 5, 2) := by decide +kernel
theorem d_Mr_readElement_155 : decode b_Mr_readElement 155 = .ok (.iconst 1, 1) := by decide +kernel
theorem d_Mr_readElement_156 : decode b_Mr_readElement 156 = .ok (.aload_n 0, 1) := by decide +kernel
theorem d_Mr_readElement_157 : decode b_Mr_readElement 157 = .ok (.iload_n 1, 1) := by decide +kernel
theorem d_Mr_readElement_158 : decode b_Mr_readElement 158 = .ok (.invokevirtual 194, 3) := by decide +kernel
theorem d_Mr_readElement_161 : decode b_Mr_readElement 161 = .ok (.i2l, 1) := by decide +kernel
theorem d_Mr_readElement_162 : decode b_Mr_readElement 162 = .ok (.invokevirtual 132, 3) := by decide +kernel
theorem d_Mr_readElement_165 : decode b_Mr_readElement 165 = .ok (.aload 5, 2) := by decide +kernel
theorem d_Mr_readElement_167 : decode b_Mr_readElement 167 = .ok (.bipush 6, 2) := by decide +kernel
theorem d_Mr_readElement_169 : decode b_Mr_readElement 169 = .ok (.iload 4, 2) := by decide +kernel
theorem d_Mr_readElement_171 : decode b_Mr_readElement 171 = .ok (.ifCond .eq 7, 3) := by decide +kernel
theorem d_Mr_readElement_174 : decode b_Mr_readElement 174 = .ok (.lconst 1, 1) := by decide +kernel
theorem d_Mr_readElement_175 : decode b_Mr_readElement 175 = .ok (.goto 4, 3) := by decide +kernel
theorem d_Mr_readElement_178 : decode b_Mr_readElement 178 = .ok (.lconst 0, 1) := by decide +kernel
theorem d_Mr_readElement_179 : decode b_Mr_readElement 179 = .ok (.invokevirtual 132, 3) := by decide +kernel
theorem d_Mr_readElement_182 : decode b_Mr_readElement 182 = .ok (.aload_n 0, 1) := by decide +kernel
theorem d_Mr_readElement_183 : decode b_Mr_readElement 183 = .ok (.getfield 26, 3) := by decide +kernel
theorem d_Mr_readElement_186 : decode b_Mr_readElement 186 = .ok (.invokevirtual 73, 3) := by decide +kernel
theorem d_Mr_readElement_189 : decode b_Mr_readElement 189 = .ok (.lstore 6, 2) := by decide +kernel
theorem d_Mr_readElement_191 : decode b_Mr_readElement 191 = .ok (.aload 5, 2) := by decide +kernel
theorem d_Mr_readElement_193 : decode b_Mr_readElement 193 = .ok (.iconst 3, 1) := by decide +kernel
theorem d_Mr_readElement_194 : decode b_Mr_readElement 194 = .ok (.lload 6, 2) := by decide +kernel
theorem d_Mr_readElement_196 : decode b_Mr_readElement 196 = .ok (.invokevirtual 132, 3) := by decide +kernel
theorem d_Mr_readElement_199 : decode b_Mr_readElement 199 = .ok (.aload 5, 2) := by decide +kernel
theorem d_Mr_readElement_201 : decode b_Mr_readElement 201 = .ok (.getstatic 125, 3) := by decide +kernel
theorem d_Mr_readElement_204 : decode b_Mr_readElement 204 = .ok (.bipush 7, 2) := by decide +kernel
theorem d_Mr_readElement_206 : decode b_Mr_readElement 206 = .ok (.iaload, 1) := by decide +kernel
theorem d_Mr_readElement_207 : decode b_Mr_readElement 207 = .ok (.aload_n 0, 1) := by decide +kernel
theorem d_Mr_readElement_208 : decode b_Mr_readElement 208 = .ok (.getfield 9, 3) := by decide +kernel
theorem d_Mr_readElement_211 : decode b_Mr_readElement 211 = .ok (.getfield 197, 3) := by decide +kernel
theorem d_Mr_readElement_214 : decode b_Mr_readElement 214 = .ok (.getfield 115, 3) := by decide +kernel
theorem d_Mr_readElement_217 : decode b_Mr_readElement 217 = .ok (.i2l, 1) := by decide +kernel
theorem d_Mr_readElement_218 : decode b_Mr_readElement 218 = .ok (.invokevirtual 132, 3) := by decide +kernel
theorem d_Mr_readElement_221 : decode b_Mr_readElement 221 = .ok (.aload 5, 2) := by decide +kernel
theorem d_Mr_readElement_223 : decode b_Mr_readElement 223 = .ok (.getstatic 125, 3) := by decide +kernel
theorem d_Mr_readElement_226 : decode b_Mr_readElement 226 = .ok (.bipush 7, 2) := by decide +kernel
theorem d_Mr_readElement_228 : decode b_Mr_readElement 228 = .ok (.iaload, 1) := by decide +kernel
theorem d_Mr_readElement_229 : decode b_Mr_readElement 229 = .ok (.iconst 1, 1) := by decide +kernel
theorem d_Mr_readElement_230 : decode b_Mr_readElement 230 = .ok (.iadd, 1) := by decide +kernel
theorem d_Mr_readElement_231 : decode b_Mr_readElement 231 = .ok (.lload 6, 2) := by decide +kernel
theorem d_Mr_readElement_233 : decode b_Mr_readElement 233 = .ok (.invokevirtual 132, 3) := by decide +kernel
theorem d_Mr_readElement_236 : decode b_Mr_readElement 236 = .ok (.lload 6, 2) := by decide +kernel
theorem d_Mr_readElement_238 : decode b_Mr_readElement 238 = .ok (.lstore 8, 2) := by decide +kernel
theorem d_Mr_readElement_240 : decode b_Mr_readElement 240 = .ok (.lload 8, 2) := by decide +kernel
theorem d_Mr_readElement_242 : decode b_Mr_readElement 242 = .ok (.lconst 0, 1) := by decide +kernel
theorem d_Mr_readElement_243 : decode b_Mr_readElement 243 = .ok (.lcmp, 1) := by decide +kernel
theorem d_Mr_readElement_244 : decode b_Mr_readElement 244 = .ok (.ifCond .le 56, 3) := by decide +kernel
theorem d_Mr_readElement_247 : decode b_Mr_readElement 247 = .ok (.iload 4, 2) := by decide +kernel
theorem d_Mr_readElement_249 : decode b_Mr_readElement 249 = .ok (.ifCond .eq 28, 3) := by decide +kernel
theorem d_Mr_readElement_252 : decode b_Mr_readElement 252 = .ok (.aload_n 0, 1) := by decide +kernel
theorem d_Mr_readElement_253 : decode b_Mr_readElement 253 = .ok (.getfield 9, 3) := by decide +kernel
theorem d_Mr_readElement_256 : decode b_Mr_readElement 256 = .ok (.aload_n 0, 1) := by decide +kernel
theorem d_Mr_readElement_257 : decode b_Mr_readElement 257 = .ok (.getfield 26, 3) := by decide +kernel
theorem d_Mr_readElement_260 : decode b_Mr_readElement 260 = .ok (.getfield 57, 3) := by decide +kernel
theorem d_Mr_readElement_263 : decode b_Mr_readElement 263 = .ok (.i2l, 1) := by decide +kernel
theorem d_Mr_readElement_264 : decode b_Mr_readElement 264 = .ok (.invokevirtual 201, 3) := by decide +kernel
theorem d_Mr_readElement_267 : decode b_Mr_readElement 267 = .ok (.aload_n 0, 1) := by decide +kernel
theorem d_Mr_readElement_268 : decode b_Mr_readElement 268 = .ok (.getfield 35, 3) := by decide +kernel
theorem d_Mr_readElement_271 : decode b_Mr_readElement 271 = .ok (.invokevirtual 186, 3) := by decide +kernel
theorem d_Mr_readElement_274 : decode b_Mr_readElement 274 = .ok (.goto 17, 3) := by decide +kernel
theorem d_Mr_readElement_277 : decode b_Mr_readElement 277 = .ok (.aload_n 0, 1) := by decide +kernel
theorem d_Mr_readElement_278 : decode b_Mr_readElement 278 = .ok (.getfield 9, 3) := by decide +kernel
theorem d_Mr_readElement_281 : decode b_Mr_readElement 281 = .ok (.aload_n 0, 1) := by decide +kernel
theorem d_Mr_readElement_282 : decode b_Mr_readElement 282 = .ok (.getfield 26, 3) := by decide +kernel
theorem d_Mr_readElement_285 : decode b_Mr_readElement 285 = .ok (.invokevirtual 73, 3) := by decide +kernel
theorem d_Mr_readElement_288 : decode b_Mr_readElement 288 = .ok (.invokevirtual 201, 3) := by decide +kernel
theorem d_Mr_readElement_291 : decode b_Mr_readElement 291 = .ok (.lload 8, 2) := by decide +kernel
theorem d_Mr_readElement_293 : decode b_Mr_readElement 293 = .ok (.lconst 1, 1) := by decide +kernel
theorem d_Mr_readElement_294 : decode b_Mr_readElement 294 = .ok (.lsub, 1) := by decide +kernel
theorem d_Mr_readElement_295 : decode b_Mr_readElement 295 = .ok (.lstore 8, 2) := by decide +kernel
theorem d_Mr_readElement_297 : decode b_Mr_readElement 297 = .ok (.goto (-57), 3) := by decide +kernel
theorem d_Mr_readElement_300 : decode b_Mr_readElement 300 = .ok (.return_, 1) := by decide +kernel
abbrev b_Mr_readElementType : ByteArray := prog_4_method_18_code
abbrev y_Mr_readElementType : MethodName := ⟨"ModuleBytes$ModuleReader", "readElementType", "(I)I"⟩
def w_Mr_readElementType : List Cond := .code y_Mr_readElementType b_Mr_readElementType 2 (Option.some Jvm.ClassFile.FieldType.int) :: wAll
theorem d_Mr_readElementType_0 : decode b_Mr_readElementType 0 = .ok (.iload_n 1, 1) := by decide +kernel
theorem d_Mr_readElementType_1 : decode b_Mr_readElementType 1 = .ok (.ifCond .eq 8, 3) := by decide +kernel
theorem d_Mr_readElementType_4 : decode b_Mr_readElementType 4 = .ok (.iload_n 1, 1) := by decide +kernel
theorem d_Mr_readElementType_5 : decode b_Mr_readElementType 5 = .ok (.iconst 4, 1) := by decide +kernel
theorem d_Mr_readElementType_6 : decode b_Mr_readElementType 6 = .ok (.if_icmp .ne 6, 3) := by decide +kernel
theorem d_Mr_readElementType_9 : decode b_Mr_readElementType 9 = .ok (.bipush 112, 2) := by decide +kernel
theorem d_Mr_readElementType_11 : decode b_Mr_readElementType 11 = .ok (.ireturn, 1) := by decide +kernel
theorem d_Mr_readElementType_12 : decode b_Mr_readElementType 12 = .ok (.iload_n 1, 1) := by decide +kernel
theorem d_Mr_readElementType_13 : decode b_Mr_readElementType 13 = .ok (.iconst 4, 1) := by decide +kernel
theorem d_Mr_readElementType_14 : decode b_Mr_readElementType 14 = .ok (.iand, 1) := by decide +kernel
theorem d_Mr_readElementType_15 : decode b_Mr_readElementType 15 = .ok (.ifCond .eq 11, 3) := by decide +kernel
theorem d_Mr_readElementType_18 : decode b_Mr_readElementType 18 = .ok (.aload_n 0, 1) := by decide +kernel
theorem d_Mr_readElementType_19 : decode b_Mr_readElementType 19 = .ok (.getfield 26, 3) := by decide +kernel
theorem d_Mr_readElementType_22 : decode b_Mr_readElementType 22 = .ok (.invokevirtual 180, 3) := by decide +kernel
theorem d_Mr_readElementType_25 : decode b_Mr_readElementType 25 = .ok (.ireturn, 1) := by decide +kernel
theorem d_Mr_readElementType_26 : decode b_Mr_readElementType 26 = .ok (.aload_n 0, 1) := by decide +kernel
theorem d_Mr_readElementType_27 : decode b_Mr_readElementType 27 = .ok (.getfield 26, 3) := by decide +kernel
theorem d_Mr_readElementType_30 : decode b_Mr_readElementType 30 = .ok (.iconst 0, 1) := by decide +kernel
theorem d_Mr_readElementType_31 : decode b_Mr_readElementType 31 = .ok (.invokevirtual 173, 3) := by decide +kernel
theorem d_Mr_readElementType_34 : decode b_Mr_readElementType 34 = .ok (.pop, 1) := by decide +kernel
theorem d_Mr_readElementType_35 : decode b_Mr_readElementType 35 = .ok (.bipush 112, 2) := by decide +kernel
theorem d_Mr_readElementType_37 : decode b_Mr_readElementType 37 = .ok (.ireturn, 1) := by decide +kernel
abbrev b_Mr_readBody : ByteArray := prog_4_method_19_code
abbrev y_Mr_readBody : MethodName := ⟨"ModuleBytes$ModuleReader", "readBody", "()V"⟩
def w_Mr_readBody : List Cond := .code y_Mr_readBody b_Mr_readBody 3 (Option.none : Option Jvm.ClassFile.FieldType) :: wAll
theorem d_Mr_readBody_0 : decode b_Mr_readBody 0 = .ok (.aload_n 0, 1) := by decide +kernel
theorem d_Mr_readBody_1 : decode b_Mr_readBody 1 = .ok (.getfield 26, 3) := by decide +kernel
theorem d_Mr_readBody_4 : decode b_Mr_readBody 4 = .ok (.invokevirtual 67, 3) := by decide +kernel
theorem d_Mr_readBody_7 : decode b_Mr_readBody 7 = .ok (.istore_n 1, 1) := by decide +kernel
theorem d_Mr_readBody_8 : decode b_Mr_readBody 8 = .ok (.aload_n 0, 1) := by decide +kernel
theorem d_Mr_readBody_9 : decode b_Mr_readBody 9 = .ok (.getfield 9, 3) := by decide +kernel
theorem d_Mr_readBody_12 : decode b_Mr_readBody 12 = .ok (.getfield 111, 3) := by decide +kernel
theorem d_Mr_readBody_15 : decode b_Mr_readBody 15 = .ok (.bipush 8, 2) := by decide +kernel
theorem d_Mr_readBody_17 : decode b_Mr_readBody 17 = .ok (.aaload, 1) := by decide +kernel
theorem d_Mr_readBody_18 : decode b_Mr_readBody 18 = .ok (.astore_n 2, 1) := by decide +kernel
theorem d_Mr_readBody_19 : decode b_Mr_readBody 19 = .ok (.aload_n 2, 1) := by decide +kernel
theorem d_Mr_readBody_20 : decode b_Mr_readBody 20 = .ok (.invokevirtual 122, 3) := by decide +kernel
theorem d_Mr_readBody_23 : decode b_Mr_readBody 23 = .ok (.aload_n 0, 1) := by decide +kernel
theorem d_Mr_readBody_24 : decode b_Mr_readBody 24 = .ok (.aload_n 2, 1) := by decide +kernel
theorem d_Mr_readBody_25 : decode b_Mr_readBody 25 = .ok (.invokevirtual 205, 3) := by decide +kernel
theorem d_Mr_readBody_28 : decode b_Mr_readBody 28 = .ok (.aload_n 2, 1) := by decide +kernel
theorem d_Mr_readBody_29 : decode b_Mr_readBody 29 = .ok (.iconst 4, 1) := by decide +kernel
theorem d_Mr_readBody_30 : decode b_Mr_readBody 30 = .ok (.aload_n 0, 1) := by decide +kernel
theorem d_Mr_readBody_31 : decode b_Mr_readBody 31 = .ok (.getfield 26, 3) := by decide +kernel
theorem d_Mr_readBody_34 : decode b_Mr_readBody 34 = .ok (.getfield 57, 3) := by decide +kernel
theorem d_Mr_readBody_37 : decode b_Mr_readBody 37 = .ok (.i2l, 1) := by decide +kernel
theorem d_Mr_readBody_38 : decode b_Mr_readBody 38 = .ok (.invokevirtual 132, 3) := by decide +kernel
theorem d_Mr_readBody_41 : decode b_Mr_readBody 41 = .ok (.aload_n 0, 1) := by decide +kernel
theorem d_Mr_readBody_42 : decode b_Mr_readBody 42 = .ok (.getfield 35, 3) := by decide +kernel
theorem d_Mr_readBody_45 : decode b_Mr_readBody 45 = .ok (.invokevirtual 186, 3) := by decide +kernel
theorem d_Mr_readBody_48 : decode b_Mr_readBody 48 = .ok (.aload_n 2, 1) := by decide +kernel
theorem d_Mr_readBody_49 : decode b_Mr_readBody 49 = .ok (.iconst 5, 1) := by decide +kernel
theorem d_Mr_readBody_50 : decode b_Mr_readBody 50 = .ok (.aload_n 0, 1) := by decide +kernel
theorem d_Mr_readBody_51 : decode b_Mr_readBody 51 = .ok (.getfield 26, 3) := by decide +kernel
theorem d_Mr_readBody_54 : decode b_Mr_readBody 54 = .ok (.getfield 57, 3) := by decide +kernel
theorem d_Mr_readBody_57 : decode b_Mr_readBody 57 = .ok (.i2l, 1) := by decide +kernel
theorem d_Mr_readBody_58 : decode b_Mr_readBody 58 = .ok (.invokevirtual 132, 3) := by decide +kernel
theorem d_Mr_readBody_61 : decode b_Mr_readBody 61 = .ok (.aload_n 0, 1) := by decide +kernel
theorem d_Mr_readBody_62 : decode b_Mr_readBody 62 = .ok (.getfield 26, 3) := by decide +kernel
theorem d_Mr_readBody_65 : decode b_Mr_readBody 65 = .ok (.iload_n 1, 1) := by decide +kernel
theorem d_Mr_readBody_66 : decode b_Mr_readBody 66 = .ok (.invokevirtual 88, 3) := by decide +kernel
theorem d_Mr_readBody_69 : decode b_Mr_readBody 69 = .ok (.return_, 1) := by decide +kernel
abbrev b_Mr_readLocals : ByteArray := prog_4_method_20_code
abbrev y_Mr_readLocals : MethodName := ⟨"ModuleBytes$ModuleReader", "readLocals", "(LModuleBytes$Table;)V"⟩
def w_Mr_readLocals : List Cond := .code y_Mr_readLocals b_Mr_readLocals 11 (Option.none : Option Jvm.ClassFile.FieldType) :: wAll
theorem d_Mr_readLocals_0 : decode b_Mr_readLocals 0 = .ok (.aload_n 0, 1) := by decide +kernel
theorem d_Mr_readLocals_1 : decode b_Mr_readLocals 1 = .ok (.getfield 26, 3) := by decide +kernel
theorem d_Mr_readLocals_4 : decode b_Mr_readLocals 4 = .ok (.getfield 57, 3) := by decide +kernel
theorem d_Mr_readLocals_7 : decode b_Mr_readLocals 7 = .ok (.istore_n 2, 1) := by decide +kernel
theorem d_Mr_readLocals_8 : decode b_Mr_readLocals 8 = .ok (.aload_n 0, 1) := by decide +kernel
theorem d_Mr_readLocals_9 : decode b_Mr_readLocals 9 = .ok (.getfield 26, 3) := by decide +kernel
theorem d_Mr_readLocals_12 : decode b_Mr_readLocals 12 = .ok (.invokevirtual 73, 3) := by decide +kernel
theorem d_Mr_readLocals_15 : decode b_Mr_readLocals 15 = .ok (.lstore_n 3, 1) := by decide +kernel
theorem d_Mr_readLocals_16 : decode b_Mr_readLocals 16 = .ok (.aload_n 1, 1) := by decide +kernel
theorem d_Mr_readLocals_17 : decode b_Mr_readLocals 17 = .ok (.iconst 0, 1) := by decide +kernel
theorem d_Mr_readLocals_18 : decode b_Mr_readLocals 18 = .ok (.lload_n 3, 1) := by decide +kernel
theorem d_Mr_readLocals_19 : decode b_Mr_readLocals 19 = .ok (.invokevirtual 132, 3) := by decide +kernel
theorem d_Mr_readLocals_22 : decode b_Mr_readLocals 22 = .ok (.aload_n 1, 1) := by decide +kernel
theorem d_Mr_readLocals_23 : decode b_Mr_readLocals 23 = .ok (.getstatic 125, 3) := by decide +kernel
theorem d_Mr_readLocals_26 : decode b_Mr_readLocals 26 = .ok (.bipush 8, 2) := by decide +kernel
theorem d_Mr_readLocals_28 : decode b_Mr_readLocals 28 = .ok (.iaload, 1) := by decide +kernel
theorem d_Mr_readLocals_29 : decode b_Mr_readLocals 29 = .ok (.aload_n 0, 1) := by decide +kernel
theorem d_Mr_readLocals_30 : decode b_Mr_readLocals 30 = .ok (.getfield 9, 3) := by decide +kernel
theorem d_Mr_readLocals_33 : decode b_Mr_readLocals 33 = .ok (.getfield 197, 3) := by decide +kernel
theorem d_Mr_readLocals_36 : decode b_Mr_readLocals 36 = .ok (.getfield 115, 3) := by decide +kernel
theorem d_Mr_readLocals_39 : decode b_Mr_readLocals 39 = .ok (.i2l, 1) := by decide +kernel
theorem d_Mr_readLocals_40 : decode b_Mr_readLocals 40 = .ok (.invokevirtual 132, 3) := by decide +kernel
theorem d_Mr_readLocals_43 : decode b_Mr_readLocals 43 = .ok (.aload_n 1, 1) := by decide +kernel
theorem d_Mr_readLocals_44 : decode b_Mr_readLocals 44 = .ok (.getstatic 125, 3) := by decide +kernel
theorem d_Mr_readLocals_47 : decode b_Mr_readLocals 47 = .ok (.bipush 8, 2) := by decide +kernel
theorem d_Mr_readLocals_49 : decode b_Mr_readLocals 49 = .ok (.iaload, 1) := by decide +kernel
theorem d_Mr_readLocals_50 : decode b_Mr_readLocals 50 = .ok (.iconst 1, 1) := by decide +kernel
theorem d_Mr_readLocals_51 : decode b_Mr_readLocals 51 = .ok (.iadd, 1) := by decide +kernel
theorem d_Mr_readLocals_52 : decode b_Mr_readLocals 52 = .ok (.ldc2_w 192, 3) := by decide +kernel
theorem d_Mr_readLocals_55 : decode b_Mr_readLocals 55 = .ok (.lload_n 3, 1) := by decide +kernel
theorem d_Mr_readLocals_56 : decode b_Mr_readLocals 56 = .ok (.lmul, 1) := by decide +kernel
theorem d_Mr_readLocals_57 : decode b_Mr_readLocals 57 = .ok (.invokevirtual 132, 3) := by decide +kernel
theorem d_Mr_readLocals_60 : decode b_Mr_readLocals 60 = .ok (.lconst 0, 1) := by decide +kernel
theorem d_Mr_readLocals_61 : decode b_Mr_readLocals 61 = .ok (.lstore 5, 2) := by decide +kernel
theorem d_Mr_readLocals_63 : decode b_Mr_readLocals 63 = .ok (.lload_n 3, 1) := by decide +kernel
theorem d_Mr_readLocals_64 : decode b_Mr_readLocals 64 = .ok (.lstore 7, 2) := by decide +kernel
theorem d_Mr_readLocals_66 : decode b_Mr_readLocals 66 = .ok (.lload 7, 2) := by decide +kernel
theorem d_Mr_readLocals_68 : decode b_Mr_readLocals 68 = .ok (.lconst 0, 1) := by decide +kernel
theorem d_Mr_readLocals_69 : decode b_Mr_readLocals 69 = .ok (.lcmp, 1) := by decide +kernel
theorem d_Mr_readLocals_70 : decode b_Mr_readLocals 70 = .ok (.ifCond .le 52, 3) := by decide +kernel
theorem d_Mr_readLocals_73 : decode b_Mr_readLocals 73 = .ok (.aload_n 0, 1) := by decide +kernel
theorem d_Mr_readLocals_74 : decode b_Mr_readLocals 74 = .ok (.getfield 26, 3) := by decide +kernel
theorem d_Mr_readLocals_77 : decode b_Mr_readLocals 77 = .ok (.invokevirtual 73, 3) := by decide +kernel
theorem d_Mr_readLocals_80 : decode b_Mr_readLocals 80 = .ok (.lstore 9, 2) := by decide +kernel
theorem d_Mr_readLocals_82 : decode b_Mr_readLocals 82 = .ok (.aload_n 0, 1) := by decide +kernel
theorem d_Mr_readLocals_83 : decode b_Mr_readLocals 83 = .ok (.getfield 9, 3) := by decide +kernel
theorem d_Mr_readLocals_86 : decode b_Mr_readLocals 86 = .ok (.lload 9, 2) := by decide +kernel
theorem d_Mr_readLocals_88 : decode b_Mr_readLocals 88 = .ok (.invokevirtual 201, 3) := by decide +kernel
theorem d_Mr_readLocals_91 : decode b_Mr_readLocals 91 = .ok (.aload_n 0, 1) := by decide +kernel
theorem d_Mr_readLocals_92 : decode b_Mr_readLocals 92 = .ok (.getfield 9, 3) := by decide +kernel
theorem d_Mr_readLocals_95 : decode b_Mr_readLocals 95 = .ok (.aload_n 0, 1) := by decide +kernel
theorem d_Mr_readLocals_96 : decode b_Mr_readLocals 96 = .ok (.getfield 26, 3) := by decide +kernel
theorem d_Mr_readLocals_99 : decode b_Mr_readLocals 99 = .ok (.invokevirtual 170, 3) := by decide +kernel
theorem d_Mr_readLocals_102 : decode b_Mr_readLocals 102 = .ok (.i2l, 1) := by decide +kernel
theorem d_Mr_readLocals_103 : decode b_Mr_readLocals 103 = .ok (.invokevirtual 201, 3) := by decide +kernel
theorem d_Mr_readLocals_106 : decode b_Mr_readLocals 106 = .ok (.lload 5, 2) := by decide +kernel
theorem d_Mr_readLocals_108 : decode b_Mr_readLocals 108 = .ok (.lload 9, 2) := by decide +kernel
theorem d_Mr_readLocals_110 : decode b_Mr_readLocals 110 = .ok (.ladd, 1) := by decide +kernel
theorem d_Mr_readLocals_111 : decode b_Mr_readLocals 111 = .ok (.lstore 5, 2) := by decide +kernel
theorem d_Mr_readLocals_113 : decode b_Mr_readLocals 113 = .ok (.lload 7, 2) := by decide +kernel
theorem d_Mr_readLocals_115 : decode b_Mr_readLocals 115 = .ok (.lconst 1, 1) := by decide +kernel
theorem d_Mr_readLocals_116 : decode b_Mr_readLocals 116 = .ok (.lsub, 1) := by decide +kernel
theorem d_Mr_readLocals_117 : decode b_Mr_readLocals 117 = .ok (.lstore 7, 2) := by decide +kernel
theorem d_Mr_readLocals_119 : decode b_Mr_readLocals 119 = .ok (.goto (-53), 3) := by decide +kernel
theorem d_Mr_readLocals_122 : decode b_Mr_readLocals 122 = .ok (.lload 5, 2) := by decide +kernel
theorem d_Mr_readLocals_124 : decode b_Mr_readLocals 124 = .ok (.ldc2_w 208, 3) := by decide +kernel
theorem d_Mr_readLocals_127 : decode b_Mr_readLocals 127 = .ok (.lcmp, 1) := by decide +kernel
theorem d_Mr_readLocals_128 : decode b_Mr_readLocals 128 = .ok (.ifCond .le 13, 3) := by decide +kernel
theorem d_Mr_readLocals_131 : decode b_Mr_readLocals 131 = .ok (.aload_n 0, 1) := by decide +kernel
theorem d_Mr_readLocals_132 : decode b_Mr_readLocals 132 = .ok (.getfield 26, 3) := by decide +kernel
theorem d_Mr_readLocals_135 : decode b_Mr_readLocals 135 = .ok (.bipush 12, 2) := by decide +kernel
theorem d_Mr_readLocals_137 : decode b_Mr_readLocals 137 = .ok (.iload_n 2, 1) := by decide +kernel
theorem d_Mr_readLocals_138 : decode b_Mr_readLocals 138 = .ok (.invokevirtual 104, 3) := by decide +kernel
theorem d_Mr_readLocals_141 : decode b_Mr_readLocals 141 = .ok (.aload_n 1, 1) := by decide +kernel
theorem d_Mr_readLocals_142 : decode b_Mr_readLocals 142 = .ok (.iconst 1, 1) := by decide +kernel
theorem d_Mr_readLocals_143 : decode b_Mr_readLocals 143 = .ok (.lload 5, 2) := by decide +kernel
theorem d_Mr_readLocals_145 : decode b_Mr_readLocals 145 = .ok (.invokevirtual 132, 3) := by decide +kernel
theorem d_Mr_readLocals_148 : decode b_Mr_readLocals 148 = .ok (.return_, 1) := by decide +kernel
abbrev b_Mr_readData : ByteArray := prog_4_method_21_code
abbrev y_Mr_readData : MethodName := ⟨"ModuleBytes$ModuleReader", "readData", "()V"⟩
def w_Mr_readData : List Cond := .code y_Mr_readData b_Mr_readData 5 (Option.none : Option Jvm.ClassFile.FieldType) :: wAll
theorem d_Mr_readData_0 : decode b_Mr_readData 0 = .ok (.aload_n 0, 1) := by decide +kernel
theorem d_Mr_readData_1 : decode b_Mr_readData 1 = .ok (.getfield 26, 3) := by decide +kernel
theorem d_Mr_readData_4 : decode b_Mr_readData 4 = .ok (.iconst 2, 1) := by decide +kernel
theorem d_Mr_readData_5 : decode b_Mr_readData 5 = .ok (.invokevirtual 189, 3) := by decide +kernel
theorem d_Mr_readData_8 : decode b_Mr_readData 8 = .ok (.istore_n 1, 1) := by decide +kernel
theorem d_Mr_readData_9 : decode b_Mr_readData 9 = .ok (.aload_n 0, 1) := by decide +kernel
theorem d_Mr_readData_10 : decode b_Mr_readData 10 = .ok (.getfield 9, 3) := by decide +kernel
theorem d_Mr_readData_13 : decode b_Mr_readData 13 = .ok (.getfield 111, 3) := by decide +kernel
theorem d_Mr_readData_16 : decode b_Mr_readData 16 = .ok (.bipush 9, 2) := by decide +kernel
theorem d_Mr_readData_18 : decode b_Mr_readData 18 = .ok (.aaload, 1) := by decide +kernel
theorem d_Mr_readData_19 : decode b_Mr_readData 19 = .ok (.astore_n 2, 1) := by decide +kernel
theorem d_Mr_readData_20 : decode b_Mr_readData 20 = .ok (.aload_n 2, 1) := by decide +kernel
theorem d_Mr_readData_21 : decode b_Mr_readData 21 = .ok (.invokevirtual 122, 3) := by decide +kernel
theorem d_Mr_readData_24 : decode b_Mr_readData 24 = .ok (.aload_n 2, 1) := by decide +kernel
theorem d_Mr_readData_25 : decode b_Mr_readData 25 = .ok (.iconst 0, 1) := by decide +kernel
theorem d_Mr_readData_26 : decode b_Mr_readData 26 = .ok (.iload_n 1, 1) := by decide +kernel
theorem d_Mr_readData_27 : decode b_Mr_readData 27 = .ok (.iconst 1, 1) := by decide +kernel
theorem d_Mr_readData_28 : decode b_Mr_readData 28 = .ok (.if_icmp .ne 7, 3) := by decide +kernel
theorem d_Mr_readData_31 : decode b_Mr_readData 31 = .ok (.lconst 0, 1) := by decide +kernel
theorem d_Mr_readData_32 : decode b_Mr_readData 32 = .ok (.goto 4, 3) := by decide +kernel
theorem d_Mr_readData_35 : decode b_Mr_readData 35 = .ok (.lconst 1, 1) := by decide +kernel
theorem d_Mr_readData_36 : decode b_Mr_readData 36 = .ok (.invokevirtual 132, 3) := by decide +kernel
theorem d_Mr_readData_39 : decode b_Mr_readData 39 = .ok (.aload_n 2, 1) := by decide +kernel
theorem d_Mr_readData_40 : decode b_Mr_readData 40 = .ok (.iconst 2, 1) := by decide +kernel
theorem d_Mr_readData_41 : decode b_Mr_readData 41 = .ok (.iload_n 1, 1) := by decide +kernel
theorem d_Mr_readData_42 : decode b_Mr_readData 42 = .ok (.iconst 2, 1) := by decide +kernel
theorem d_Mr_readData_43 : decode b_Mr_readData 43 = .ok (.if_icmp .ne 13, 3) := by decide +kernel
theorem d_Mr_readData_46 : decode b_Mr_readData 46 = .ok (.aload_n 0, 1) := by decide +kernel
theorem d_Mr_readData_47 : decode b_Mr_readData 47 = .ok (.getfield 26, 3) := by decide +kernel
theorem d_Mr_readData_50 : decode b_Mr_readData 50 = .ok (.invokevirtual 73, 3) := by decide +kernel
theorem d_Mr_readData_53 : decode b_Mr_readData 53 = .ok (.goto 4, 3) := by decide +kernel
theorem d_Mr_readData_56 : decode b_Mr_readData 56 = .ok (.lconst 0, 1) := by decide +kernel
theorem d_Mr_readData_57 : decode b_Mr_readData 57 = .ok (.invokevirtual 132, 3) := by decide +kernel
theorem d_Mr_readData_60 : decode b_Mr_readData 60 = .ok (.iload_n 1, 1) := by decide +kernel
theorem d_Mr_readData_61 : decode b_Mr_readData 61 = .ok (.iconst 1, 1) := by decide +kernel
theorem d_Mr_readData_62 : decode b_Mr_readData 62 = .ok (.if_icmp .eq 36, 3) := by decide +kernel
theorem d_Mr_readData_65 : decode b_Mr_readData 65 = .ok (.aload_n 2, 1) := by decide +kernel
theorem d_Mr_readData_66 : decode b_Mr_readData 66 = .ok (.iconst 4, 1) := by decide +kernel
theorem d_Mr_readData_67 : decode b_Mr_readData 67 = .ok (.aload_n 0, 1) := by decide +kernel
theorem d_Mr_readData_68 : decode b_Mr_readData 68 = .ok (.getfield 26, 3) := by decide +kernel
theorem d_Mr_readData_71 : decode b_Mr_readData 71 = .ok (.getfield 57, 3) := by decide +kernel
theorem d_Mr_readData_74 : decode b_Mr_readData 74 = .ok (.i2l, 1) := by decide +kernel
theorem d_Mr_readData_75 : decode b_Mr_readData 75 = .ok (.invokevirtual 132, 3) := by decide +kernel
theorem d_Mr_readData_78 : decode b_Mr_readData 78 = .ok (.aload_n 0, 1) := by decide +kernel
theorem d_Mr_readData_79 : decode b_Mr_readData 79 = .ok (.getfield 35, 3) := by decide +kernel
theorem d_Mr_readData_82 : decode b_Mr_readData 82 = .ok (.invokevirtual 186, 3) := by decide +kernel
theorem d_Mr_readData_85 : decode b_Mr_readData 85 = .ok (.aload_n 2, 1) := by decide +kernel
theorem d_Mr_readData_86 : decode b_Mr_readData 86 = .ok (.iconst 5, 1) := by decide +kernel
theorem d_Mr_readData_87 : decode b_Mr_readData 87 = .ok (.aload_n 0, 1) := by decide +kernel
theorem d_Mr_readData_88 : decode b_Mr_readData 88 = .ok (.getfield 26, 3) := by decide +kernel
theorem d_Mr_readData_91 : decode b_Mr_readData 91 = .ok (.getfield 57, 3) := by decide +kernel
theorem d_Mr_readData_94 : decode b_Mr_readData 94 = .ok (.i2l, 1) := by decide +kernel
theorem d_Mr_readData_95 : decode b_Mr_readData 95 = .ok (.invokevirtual 132, 3) := by decide +kernel
theorem d_Mr_readData_98 : decode b_Mr_readData 98 = .ok (.aload_n 0, 1) := by decide +kernel
theorem d_Mr_readData_99 : decode b_Mr_readData 99 = .ok (.getfield 26, 3) := by decide +kernel
theorem d_Mr_readData_102 : decode b_Mr_readData 102 = .ok (.invokevirtual 73, 3) := by decide +kernel
theorem d_Mr_readData_105 : decode b_Mr_readData 105 = .ok (.lstore_n 3, 1) := by decide +kernel
theorem d_Mr_readData_106 : decode b_Mr_readData 106 = .ok (.aload_n 2, 1) := by decide +kernel
theorem d_Mr_readData_107 : decode b_Mr_readData 107 = .ok (.iconst 3, 1) := by decide +kernel
theorem d_Mr_readData_108 : decode b_Mr_readData 108 = .ok (.lload_n 3, 1) := by decide +kernel
theorem d_Mr_readData_109 : decode b_Mr_readData 109 = .ok (.invokevirtual 132, 3) := by decide +kernel
theorem d_Mr_readData_112 : decode b_Mr_readData 112 = .ok (.aload_n 2, 1) := by decide +kernel
theorem d_Mr_readData_113 : decode b_Mr_readData 113 = .ok (.bipush 6, 2) := by decide +kernel
theorem d_Mr_readData_115 : decode b_Mr_readData 115 = .ok (.aload_n 0, 1) := by decide +kernel
theorem d_Mr_readData_116 : decode b_Mr_readData 116 = .ok (.getfield 26, 3) := by decide +kernel
theorem d_Mr_readData_119 : decode b_Mr_readData 119 = .ok (.getfield 57, 3) := by decide +kernel
theorem d_Mr_readData_122 : decode b_Mr_readData 122 = .ok (.i2l, 1) := by decide +kernel
theorem d_Mr_readData_123 : decode b_Mr_readData 123 = .ok (.invokevirtual 132, 3) := by decide +kernel
theorem d_Mr_readData_126 : decode b_Mr_readData 126 = .ok (.aload_n 0, 1) := by decide +kernel
theorem d_Mr_readData_127 : decode b_Mr_readData 127 = .ok (.getfield 26, 3) := by decide +kernel
theorem d_Mr_readData_130 : decode b_Mr_readData 130 = .ok (.lload_n 3, 1) := by decide +kernel
theorem d_Mr_readData_131 : decode b_Mr_readData 131 = .ok (.invokevirtual 210, 3) := by decide +kernel
theorem d_Mr_readData_134 : decode b_Mr_readData 134 = .ok (.return_, 1) := by decide +kernel
abbrev b_Mr_compareCounts : ByteArray := prog_4_method_5_code
abbrev y_Mr_compareCounts : MethodName := ⟨"ModuleBytes$ModuleReader", "compareCounts", "()V"⟩
def w_Mr_compareCounts : List Cond := .code y_Mr_compareCounts b_Mr_compareCounts 1 (Option.none : Option Jvm.ClassFile.FieldType) :: wAll
theorem d_Mr_compareCounts_0 : decode b_Mr_compareCounts 0 = .ok (.aload_n 0, 1) := by decide +kernel
theorem d_Mr_compareCounts_1 : decode b_Mr_compareCounts 1 = .ok (.getfield 9, 3) := by decide +kernel
theorem d_Mr_compareCounts_4 : decode b_Mr_compareCounts 4 = .ok (.getfield 111, 3) := by decide +kernel
theorem d_Mr_compareCounts_7 : decode b_Mr_compareCounts 7 = .ok (.iconst 2, 1) := by decide +kernel
theorem d_Mr_compareCounts_8 : decode b_Mr_compareCounts 8 = .ok (.aaload, 1) := by decide +kernel
theorem d_Mr_compareCounts_9 : decode b_Mr_compareCounts 9 = .ok (.getfield 115, 3) := by decide +kernel
theorem d_Mr_compareCounts_12 : decode b_Mr_compareCounts 12 = .ok (.aload_n 0, 1) := by decide +kernel
theorem d_Mr_compareCounts_13 : decode b_Mr_compareCounts 13 = .ok (.getfield 9, 3) := by decide +kernel
theorem d_Mr_compareCounts_16 : decode b_Mr_compareCounts 16 = .ok (.getfield 111, 3) := by decide +kernel
theorem d_Mr_compareCounts_19 : decode b_Mr_compareCounts 19 = .ok (.bipush 8, 2) := by decide +kernel
theorem d_Mr_compareCounts_21 : decode b_Mr_compareCounts 21 = .ok (.aaload, 1) := by decide +kernel
theorem d_Mr_compareCounts_22 : decode b_Mr_compareCounts 22 = .ok (.getfield 115, 3) := by decide +kernel
theorem d_Mr_compareCounts_25 : decode b_Mr_compareCounts 25 = .ok (.if_icmp .eq 19, 3) := by decide +kernel
theorem d_Mr_compareCounts_28 : decode b_Mr_compareCounts 28 = .ok (.aload_n 0, 1) := by decide +kernel
theorem d_Mr_compareCounts_29 : decode b_Mr_compareCounts 29 = .ok (.getfield 26, 3) := by decide +kernel
theorem d_Mr_compareCounts_32 : decode b_Mr_compareCounts 32 = .ok (.bipush 13, 2) := by decide +kernel
theorem d_Mr_compareCounts_34 : decode b_Mr_compareCounts 34 = .ok (.aload_n 0, 1) := by decide +kernel
theorem d_Mr_compareCounts_35 : decode b_Mr_compareCounts 35 = .ok (.getfield 26, 3) := by decide +kernel
theorem d_Mr_compareCounts_38 : decode b_Mr_compareCounts 38 = .ok (.getfield 60, 3) := by decide +kernel
theorem d_Mr_compareCounts_41 : decode b_Mr_compareCounts 41 = .ok (.invokevirtual 104, 3) := by decide +kernel
theorem d_Mr_compareCounts_44 : decode b_Mr_compareCounts 44 = .ok (.aload_n 0, 1) := by decide +kernel
theorem d_Mr_compareCounts_45 : decode b_Mr_compareCounts 45 = .ok (.getfield 9, 3) := by decide +kernel
theorem d_Mr_compareCounts_48 : decode b_Mr_compareCounts 48 = .ok (.getfield 81, 3) := by decide +kernel
theorem d_Mr_compareCounts_51 : decode b_Mr_compareCounts 51 = .ok (.ldc2_w 120, 3) := by decide +kernel
theorem d_Mr_compareCounts_54 : decode b_Mr_compareCounts 54 = .ok (.lcmp, 1) := by decide +kernel
theorem d_Mr_compareCounts_55 : decode b_Mr_compareCounts 55 = .ok (.ifCond .eq 44, 3) := by decide +kernel
theorem d_Mr_compareCounts_58 : decode b_Mr_compareCounts 58 = .ok (.aload_n 0, 1) := by decide +kernel
theorem d_Mr_compareCounts_59 : decode b_Mr_compareCounts 59 = .ok (.getfield 9, 3) := by decide +kernel
theorem d_Mr_compareCounts_62 : decode b_Mr_compareCounts 62 = .ok (.getfield 81, 3) := by decide +kernel
theorem d_Mr_compareCounts_65 : decode b_Mr_compareCounts 65 = .ok (.aload_n 0, 1) := by decide +kernel
theorem d_Mr_compareCounts_66 : decode b_Mr_compareCounts 66 = .ok (.getfield 9, 3) := by decide +kernel
theorem d_Mr_compareCounts_69 : decode b_Mr_compareCounts 69 = .ok (.getfield 111, 3) := by decide +kernel
theorem d_Mr_compareCounts_72 : decode b_Mr_compareCounts 72 = .ok (.bipush 9, 2) := by decide +kernel
theorem d_Mr_compareCounts_74 : decode b_Mr_compareCounts 74 = .ok (.aaload, 1) := by decide +kernel
theorem d_Mr_compareCounts_75 : decode b_Mr_compareCounts 75 = .ok (.getfield 115, 3) := by decide +kernel
theorem d_Mr_compareCounts_78 : decode b_Mr_compareCounts 78 = .ok (.i2l, 1) := by decide +kernel
theorem d_Mr_compareCounts_79 : decode b_Mr_compareCounts 79 = .ok (.lcmp, 1) := by decide +kernel
theorem d_Mr_compareCounts_80 : decode b_Mr_compareCounts 80 = .ok (.ifCond .eq 19, 3) := by decide +kernel
theorem d_Mr_compareCounts_83 : decode b_Mr_compareCounts 83 = .ok (.aload_n 0, 1) := by decide +kernel
theorem d_Mr_compareCounts_84 : decode b_Mr_compareCounts 84 = .ok (.getfield 26, 3) := by decide +kernel
theorem d_Mr_compareCounts_87 : decode b_Mr_compareCounts 87 = .ok (.bipush 14, 2) := by decide +kernel
theorem d_Mr_compareCounts_89 : decode b_Mr_compareCounts 89 = .ok (.aload_n 0, 1) := by decide +kernel
theorem d_Mr_compareCounts_90 : decode b_Mr_compareCounts 90 = .ok (.getfield 26, 3) := by decide +kernel
theorem d_Mr_compareCounts_93 : decode b_Mr_compareCounts 93 = .ok (.getfield 60, 3) := by decide +kernel
theorem d_Mr_compareCounts_96 : decode b_Mr_compareCounts 96 = .ok (.invokevirtual 104, 3) := by decide +kernel
theorem d_Mr_compareCounts_99 : decode b_Mr_compareCounts 99 = .ok (.return_, 1) := by decide +kernel
abbrev b_Mb_place : ByteArray := prog_1_method_4_code
abbrev y_Mb_place : MethodName := ⟨"ModuleBytes", "place", "()I"⟩
def w_Mb_place : List Cond := .code y_Mb_place b_Mb_place 1 (Option.some Jvm.ClassFile.FieldType.int) :: wAll
theorem d_Mb_place_0 : decode b_Mb_place 0 = .ok (.aload_n 0, 1) := by decide +kernel
theorem d_Mb_place_1 : decode b_Mb_place 1 = .ok (.getfield 32, 3) := by decide +kernel
theorem d_Mb_place_4 : decode b_Mb_place 4 = .ok (.ireturn, 1) := by decide +kernel
abbrev b_Mb_many : ByteArray := prog_1_method_5_code
abbrev y_Mb_many : MethodName := ⟨"ModuleBytes", "many", "(I)J"⟩
def w_Mb_many : List Cond := .code y_Mb_many b_Mb_many 2 (Option.some Jvm.ClassFile.FieldType.long) :: wAll
theorem d_Mb_many_0 : decode b_Mb_many 0 = .ok (.iload_n 1, 1) := by decide +kernel
theorem d_Mb_many_1 : decode b_Mb_many 1 = .ok (.ifCond .lt 23, 3) := by decide +kernel
theorem d_Mb_many_4 : decode b_Mb_many 4 = .ok (.iload_n 1, 1) := by decide +kernel
theorem d_Mb_many_5 : decode b_Mb_many 5 = .ok (.bipush 11, 2) := by decide +kernel
theorem d_Mb_many_7 : decode b_Mb_many 7 = .ok (.if_icmp .ge 17, 3) := by decide +kernel
theorem d_Mb_many_10 : decode b_Mb_many 10 = .ok (.aload_n 0, 1) := by decide +kernel
theorem d_Mb_many_11 : decode b_Mb_many 11 = .ok (.getfield 10, 3) := by decide +kernel
theorem d_Mb_many_14 : decode b_Mb_many 14 = .ok (.getfield 57, 3) := by decide +kernel
theorem d_Mb_many_17 : decode b_Mb_many 17 = .ok (.iload_n 1, 1) := by decide +kernel
theorem d_Mb_many_18 : decode b_Mb_many 18 = .ok (.aaload, 1) := by decide +kernel
theorem d_Mb_many_19 : decode b_Mb_many 19 = .ok (.getfield 61, 3) := by decide +kernel
theorem d_Mb_many_22 : decode b_Mb_many 22 = .ok (.i2l, 1) := by decide +kernel
theorem d_Mb_many_23 : decode b_Mb_many 23 = .ok (.lreturn, 1) := by decide +kernel
theorem d_Mb_many_24 : decode b_Mb_many 24 = .ok (.iload_n 1, 1) := by decide +kernel
theorem d_Mb_many_25 : decode b_Mb_many 25 = .ok (.tableswitch 52 11 13 #[27, 36, 44], 27) := by decide +kernel
theorem d_Mb_many_52 : decode b_Mb_many 52 = .ok (.aload_n 0, 1) := by decide +kernel
theorem d_Mb_many_53 : decode b_Mb_many 53 = .ok (.getfield 10, 3) := by decide +kernel
theorem d_Mb_many_56 : decode b_Mb_many 56 = .ok (.getfield 66, 3) := by decide +kernel
theorem d_Mb_many_59 : decode b_Mb_many 59 = .ok (.i2l, 1) := by decide +kernel
theorem d_Mb_many_60 : decode b_Mb_many 60 = .ok (.lreturn, 1) := by decide +kernel
theorem d_Mb_many_61 : decode b_Mb_many 61 = .ok (.aload_n 0, 1) := by decide +kernel
theorem d_Mb_many_62 : decode b_Mb_many 62 = .ok (.getfield 10, 3) := by decide +kernel
theorem d_Mb_many_65 : decode b_Mb_many 65 = .ok (.getfield 69, 3) := by decide +kernel
theorem d_Mb_many_68 : decode b_Mb_many 68 = .ok (.lreturn, 1) := by decide +kernel
theorem d_Mb_many_69 : decode b_Mb_many 69 = .ok (.aload_n 0, 1) := by decide +kernel
theorem d_Mb_many_70 : decode b_Mb_many 70 = .ok (.getfield 10, 3) := by decide +kernel
theorem d_Mb_many_73 : decode b_Mb_many 73 = .ok (.getfield 73, 3) := by decide +kernel
theorem d_Mb_many_76 : decode b_Mb_many 76 = .ok (.lreturn, 1) := by decide +kernel
theorem d_Mb_many_77 : decode b_Mb_many 77 = .ok (.ldc2_w 76, 3) := by decide +kernel
theorem d_Mb_many_80 : decode b_Mb_many 80 = .ok (.lreturn, 1) := by decide +kernel
abbrev b_Mb_type : ByteArray := prog_1_method_6_code
abbrev y_Mb_type : MethodName := ⟨"ModuleBytes", "type", "(III)I"⟩
def w_Mb_type : List Cond := .code y_Mb_type b_Mb_type 4 (Option.some Jvm.ClassFile.FieldType.int) :: wAll
theorem d_Mb_type_0 : decode b_Mb_type 0 = .ok (.iload_n 2, 1) := by decide +kernel
theorem d_Mb_type_1 : decode b_Mb_type 1 = .ok (.ifCond .eq 10, 3) := by decide +kernel
theorem d_Mb_type_4 : decode b_Mb_type 4 = .ok (.iload_n 2, 1) := by decide +kernel
theorem d_Mb_type_5 : decode b_Mb_type 5 = .ok (.iconst 1, 1) := by decide +kernel
theorem d_Mb_type_6 : decode b_Mb_type 6 = .ok (.if_icmp .eq 5, 3) := by decide +kernel
theorem d_Mb_type_9 : decode b_Mb_type 9 = .ok (.iconst (-1), 1) := by decide +kernel
theorem d_Mb_type_10 : decode b_Mb_type 10 = .ok (.ireturn, 1) := by decide +kernel
theorem d_Mb_type_11 : decode b_Mb_type 11 = .ok (.aload_n 0, 1) := by decide +kernel
theorem d_Mb_type_12 : decode b_Mb_type 12 = .ok (.getfield 10, 3) := by decide +kernel
theorem d_Mb_type_15 : decode b_Mb_type 15 = .ok (.iconst 0, 1) := by decide +kernel
theorem d_Mb_type_16 : decode b_Mb_type 16 = .ok (.iload_n 1, 1) := by decide +kernel
theorem d_Mb_type_17 : decode b_Mb_type 17 = .ok (.iconst 2, 1) := by decide +kernel
theorem d_Mb_type_18 : decode b_Mb_type 18 = .ok (.iload_n 2, 1) := by decide +kernel
theorem d_Mb_type_19 : decode b_Mb_type 19 = .ok (.imul, 1) := by decide +kernel
theorem d_Mb_type_20 : decode b_Mb_type 20 = .ok (.iload_n 3, 1) := by decide +kernel
theorem d_Mb_type_21 : decode b_Mb_type 21 = .ok (.invokevirtual 78, 3) := by decide +kernel
theorem d_Mb_type_24 : decode b_Mb_type 24 = .ok (.ireturn, 1) := by decide +kernel
abbrev b_Mb_look : ByteArray := prog_1_method_7_code
abbrev y_Mb_look : MethodName := ⟨"ModuleBytes", "look", "(III)J"⟩
def w_Mb_look : List Cond := .code y_Mb_look b_Mb_look 4 (Option.some Jvm.ClassFile.FieldType.long) :: wAll
theorem d_Mb_look_0 : decode b_Mb_look 0 = .ok (.iload_n 1, 1) := by decide +kernel
theorem d_Mb_look_1 : decode b_Mb_look 1 = .ok (.ifCond .lt 9, 3) := by decide +kernel
theorem d_Mb_look_4 : decode b_Mb_look 4 = .ok (.iload_n 1, 1) := by decide +kernel
theorem d_Mb_look_5 : decode b_Mb_look 5 = .ok (.bipush 11, 2) := by decide +kernel
theorem d_Mb_look_7 : decode b_Mb_look 7 = .ok (.if_icmp .lt 7, 3) := by decide +kernel
theorem d_Mb_look_10 : decode b_Mb_look 10 = .ok (.ldc2_w 76, 3) := by decide +kernel
theorem d_Mb_look_13 : decode b_Mb_look 13 = .ok (.lreturn, 1) := by decide +kernel
theorem d_Mb_look_14 : decode b_Mb_look 14 = .ok (.iload_n 3, 1) := by decide +kernel
theorem d_Mb_look_15 : decode b_Mb_look 15 = .ok (.bipush 8, 2) := by decide +kernel
theorem d_Mb_look_17 : decode b_Mb_look 17 = .ok (.if_icmp .lt 17, 3) := by decide +kernel
theorem d_Mb_look_20 : decode b_Mb_look 20 = .ok (.aload_n 0, 1) := by decide +kernel
theorem d_Mb_look_21 : decode b_Mb_look 21 = .ok (.getfield 10, 3) := by decide +kernel
theorem d_Mb_look_24 : decode b_Mb_look 24 = .ok (.iload_n 1, 1) := by decide +kernel
theorem d_Mb_look_25 : decode b_Mb_look 25 = .ok (.iload_n 2, 1) := by decide +kernel
theorem d_Mb_look_26 : decode b_Mb_look 26 = .ok (.iload_n 3, 1) := by decide +kernel
theorem d_Mb_look_27 : decode b_Mb_look 27 = .ok (.bipush 8, 2) := by decide +kernel
theorem d_Mb_look_29 : decode b_Mb_look 29 = .ok (.isub, 1) := by decide +kernel
theorem d_Mb_look_30 : decode b_Mb_look 30 = .ok (.invokevirtual 82, 3) := by decide +kernel
theorem d_Mb_look_33 : decode b_Mb_look 33 = .ok (.lreturn, 1) := by decide +kernel
theorem d_Mb_look_34 : decode b_Mb_look 34 = .ok (.iload_n 3, 1) := by decide +kernel
theorem d_Mb_look_35 : decode b_Mb_look 35 = .ok (.getstatic 86, 3) := by decide +kernel
theorem d_Mb_look_38 : decode b_Mb_look 38 = .ok (.iload_n 1, 1) := by decide +kernel
theorem d_Mb_look_39 : decode b_Mb_look 39 = .ok (.iaload, 1) := by decide +kernel
theorem d_Mb_look_40 : decode b_Mb_look 40 = .ok (.if_icmp .ge 20, 3) := by decide +kernel
theorem d_Mb_look_43 : decode b_Mb_look 43 = .ok (.aload_n 0, 1) := by decide +kernel
theorem d_Mb_look_44 : decode b_Mb_look 44 = .ok (.getfield 10, 3) := by decide +kernel
theorem d_Mb_look_47 : decode b_Mb_look 47 = .ok (.getfield 57, 3) := by decide +kernel
theorem d_Mb_look_50 : decode b_Mb_look 50 = .ok (.iload_n 1, 1) := by decide +kernel
theorem d_Mb_look_51 : decode b_Mb_look 51 = .ok (.aaload, 1) := by decide +kernel
theorem d_Mb_look_52 : decode b_Mb_look 52 = .ok (.iload_n 2, 1) := by decide +kernel
theorem d_Mb_look_53 : decode b_Mb_look 53 = .ok (.iload_n 3, 1) := by decide +kernel
theorem d_Mb_look_54 : decode b_Mb_look 54 = .ok (.invokevirtual 90, 3) := by decide +kernel
theorem d_Mb_look_57 : decode b_Mb_look 57 = .ok (.goto 6, 3) := by decide +kernel
theorem d_Mb_look_60 : decode b_Mb_look 60 = .ok (.ldc2_w 76, 3) := by decide +kernel
theorem d_Mb_look_63 : decode b_Mb_look 63 = .ok (.lreturn, 1) := by decide +kernel
abbrev b_Mb_name : ByteArray := prog_1_method_8_code
abbrev y_Mb_name : MethodName := ⟨"ModuleBytes", "name", "(IIII)I"⟩
def w_Mb_name : List Cond := .code y_Mb_name b_Mb_name 6 (Option.some Jvm.ClassFile.FieldType.int) :: wAll
theorem d_Mb_name_0 : decode b_Mb_name 0 = .ok (.iload_n 3, 1) := by decide +kernel
theorem d_Mb_name_1 : decode b_Mb_name 1 = .ok (.ifCond .ne 20, 3) := by decide +kernel
theorem d_Mb_name_4 : decode b_Mb_name 4 = .ok (.iload_n 1, 1) := by decide +kernel
theorem d_Mb_name_5 : decode b_Mb_name 5 = .ok (.iconst 1, 1) := by decide +kernel
theorem d_Mb_name_6 : decode b_Mb_name 6 = .ok (.if_icmp .eq 25, 3) := by decide +kernel
theorem d_Mb_name_9 : decode b_Mb_name 9 = .ok (.iload_n 1, 1) := by decide +kernel
theorem d_Mb_name_10 : decode b_Mb_name 10 = .ok (.bipush 6, 2) := by decide +kernel
theorem d_Mb_name_12 : decode b_Mb_name 12 = .ok (.if_icmp .eq 19, 3) := by decide +kernel
theorem d_Mb_name_15 : decode b_Mb_name 15 = .ok (.iload_n 1, 1) := by decide +kernel
theorem d_Mb_name_16 : decode b_Mb_name 16 = .ok (.bipush 10, 2) := by decide +kernel
theorem d_Mb_name_18 : decode b_Mb_name 18 = .ok (.if_icmp .eq 13, 3) := by decide +kernel
theorem d_Mb_name_21 : decode b_Mb_name 21 = .ok (.iload_n 3, 1) := by decide +kernel
theorem d_Mb_name_22 : decode b_Mb_name 22 = .ok (.iconst 1, 1) := by decide +kernel
theorem d_Mb_name_23 : decode b_Mb_name 23 = .ok (.if_icmp .ne 12, 3) := by decide +kernel
theorem d_Mb_name_26 : decode b_Mb_name 26 = .ok (.iload_n 1, 1) := by decide +kernel
theorem d_Mb_name_27 : decode b_Mb_name 27 = .ok (.iconst 1, 1) := by decide +kernel
theorem d_Mb_name_28 : decode b_Mb_name 28 = .ok (.if_icmp .ne 7, 3) := by decide +kernel
theorem d_Mb_name_31 : decode b_Mb_name 31 = .ok (.iconst 1, 1) := by decide +kernel
theorem d_Mb_name_32 : decode b_Mb_name 32 = .ok (.goto 4, 3) := by decide +kernel
theorem d_Mb_name_35 : decode b_Mb_name 35 = .ok (.iconst 0, 1) := by decide +kernel
theorem d_Mb_name_36 : decode b_Mb_name 36 = .ok (.istore 5, 2) := by decide +kernel
theorem d_Mb_name_38 : decode b_Mb_name 38 = .ok (.iload 5, 2) := by decide +kernel
theorem d_Mb_name_40 : decode b_Mb_name 40 = .ok (.ifCond .ne 5, 3) := by decide +kernel
theorem d_Mb_name_43 : decode b_Mb_name 43 = .ok (.iconst (-1), 1) := by decide +kernel
theorem d_Mb_name_44 : decode b_Mb_name 44 = .ok (.ireturn, 1) := by decide +kernel
theorem d_Mb_name_45 : decode b_Mb_name 45 = .ok (.aload_n 0, 1) := by decide +kernel
theorem d_Mb_name_46 : decode b_Mb_name 46 = .ok (.getfield 10, 3) := by decide +kernel
theorem d_Mb_name_49 : decode b_Mb_name 49 = .ok (.iload_n 1, 1) := by decide +kernel
theorem d_Mb_name_50 : decode b_Mb_name 50 = .ok (.iload_n 2, 1) := by decide +kernel
theorem d_Mb_name_51 : decode b_Mb_name 51 = .ok (.getstatic 86, 3) := by decide +kernel
theorem d_Mb_name_54 : decode b_Mb_name 54 = .ok (.iload_n 1, 1) := by decide +kernel
theorem d_Mb_name_55 : decode b_Mb_name 55 = .ok (.iaload, 1) := by decide +kernel
theorem d_Mb_name_56 : decode b_Mb_name 56 = .ok (.iconst 2, 1) := by decide +kernel
theorem d_Mb_name_57 : decode b_Mb_name 57 = .ok (.iload_n 3, 1) := by decide +kernel
theorem d_Mb_name_58 : decode b_Mb_name 58 = .ok (.imul, 1) := by decide +kernel
theorem d_Mb_name_59 : decode b_Mb_name 59 = .ok (.iadd, 1) := by decide +kernel
theorem d_Mb_name_60 : decode b_Mb_name 60 = .ok (.iload 4, 2) := by decide +kernel
theorem d_Mb_name_62 : decode b_Mb_name 62 = .ok (.invokevirtual 78, 3) := by decide +kernel
theorem d_Mb_name_65 : decode b_Mb_name 65 = .ok (.ireturn, 1) := by decide +kernel
