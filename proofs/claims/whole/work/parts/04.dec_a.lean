abbrev b_Ct_init : ByteArray := prog_2_method_1_code
abbrev y_Ct_init : MethodName := ⟨"ModuleBytes$Contents", "<init>", "()V"⟩
def w_Ct_init : List Cond := .code y_Ct_init b_Ct_init 2 (Option.none : Option Jvm.ClassFile.FieldType) :: wAll
theorem d_Ct_init_0 : decode b_Ct_init 0 = .ok (.aload_n 0, 1) := by decide +kernel
theorem d_Ct_init_1 : decode b_Ct_init 1 = .ok (.invokespecial 3, 3) := by decide +kernel
theorem d_Ct_init_4 : decode b_Ct_init 4 = .ok (.aload_n 0, 1) := by decide +kernel
theorem d_Ct_init_5 : decode b_Ct_init 5 = .ok (.sipush 2000, 3) := by decide +kernel
theorem d_Ct_init_8 : decode b_Ct_init 8 = .ok (.newarray .byte, 2) := by decide +kernel
theorem d_Ct_init_10 : decode b_Ct_init 10 = .ok (.putfield 9, 3) := by decide +kernel
theorem d_Ct_init_13 : decode b_Ct_init 13 = .ok (.aload_n 0, 1) := by decide +kernel
theorem d_Ct_init_14 : decode b_Ct_init 14 = .ok (.bipush 11, 2) := by decide +kernel
theorem d_Ct_init_16 : decode b_Ct_init 16 = .ok (.anewarray 15, 3) := by decide +kernel
theorem d_Ct_init_19 : decode b_Ct_init 19 = .ok (.putfield 17, 3) := by decide +kernel
theorem d_Ct_init_22 : decode b_Ct_init 22 = .ok (.iconst 0, 1) := by decide +kernel
theorem d_Ct_init_23 : decode b_Ct_init 23 = .ok (.istore_n 1, 1) := by decide +kernel
theorem d_Ct_init_24 : decode b_Ct_init 24 = .ok (.iload_n 1, 1) := by decide +kernel
theorem d_Ct_init_25 : decode b_Ct_init 25 = .ok (.bipush 11, 2) := by decide +kernel
theorem d_Ct_init_27 : decode b_Ct_init 27 = .ok (.if_icmp .ge 33, 3) := by decide +kernel
theorem d_Ct_init_30 : decode b_Ct_init 30 = .ok (.aload_n 0, 1) := by decide +kernel
theorem d_Ct_init_31 : decode b_Ct_init 31 = .ok (.getfield 17, 3) := by decide +kernel
theorem d_Ct_init_34 : decode b_Ct_init 34 = .ok (.iload_n 1, 1) := by decide +kernel
theorem d_Ct_init_35 : decode b_Ct_init 35 = .ok (.new 15, 3) := by decide +kernel
theorem d_Ct_init_38 : decode b_Ct_init 38 = .ok (.dup, 1) := by decide +kernel
theorem d_Ct_init_39 : decode b_Ct_init 39 = .ok (.getstatic 21, 3) := by decide +kernel
theorem d_Ct_init_42 : decode b_Ct_init 42 = .ok (.iload_n 1, 1) := by decide +kernel
theorem d_Ct_init_43 : decode b_Ct_init 43 = .ok (.iaload, 1) := by decide +kernel
theorem d_Ct_init_44 : decode b_Ct_init 44 = .ok (.getstatic 25, 3) := by decide +kernel
theorem d_Ct_init_47 : decode b_Ct_init 47 = .ok (.iload_n 1, 1) := by decide +kernel
theorem d_Ct_init_48 : decode b_Ct_init 48 = .ok (.iaload, 1) := by decide +kernel
theorem d_Ct_init_49 : decode b_Ct_init 49 = .ok (.iadd, 1) := by decide +kernel
theorem d_Ct_init_50 : decode b_Ct_init 50 = .ok (.invokespecial 28, 3) := by decide +kernel
theorem d_Ct_init_53 : decode b_Ct_init 53 = .ok (.aastore, 1) := by decide +kernel
theorem d_Ct_init_54 : decode b_Ct_init 54 = .ok (.iinc 1 1, 3) := by decide +kernel
theorem d_Ct_init_57 : decode b_Ct_init 57 = .ok (.goto (-33), 3) := by decide +kernel
theorem d_Ct_init_60 : decode b_Ct_init 60 = .ok (.aload_n 0, 1) := by decide +kernel
theorem d_Ct_init_61 : decode b_Ct_init 61 = .ok (.new 15, 3) := by decide +kernel
theorem d_Ct_init_64 : decode b_Ct_init 64 = .ok (.dup, 1) := by decide +kernel
theorem d_Ct_init_65 : decode b_Ct_init 65 = .ok (.iconst 1, 1) := by decide +kernel
theorem d_Ct_init_66 : decode b_Ct_init 66 = .ok (.invokespecial 28, 3) := by decide +kernel
theorem d_Ct_init_69 : decode b_Ct_init 69 = .ok (.putfield 31, 3) := by decide +kernel
theorem d_Ct_init_72 : decode b_Ct_init 72 = .ok (.aload_n 0, 1) := by decide +kernel
theorem d_Ct_init_73 : decode b_Ct_init 73 = .ok (.iconst 0, 1) := by decide +kernel
theorem d_Ct_init_74 : decode b_Ct_init 74 = .ok (.putfield 35, 3) := by decide +kernel
theorem d_Ct_init_77 : decode b_Ct_init 77 = .ok (.aload_n 0, 1) := by decide +kernel
theorem d_Ct_init_78 : decode b_Ct_init 78 = .ok (.ldc2_w 39, 3) := by decide +kernel
theorem d_Ct_init_81 : decode b_Ct_init 81 = .ok (.putfield 41, 3) := by decide +kernel
theorem d_Ct_init_84 : decode b_Ct_init 84 = .ok (.aload_n 0, 1) := by decide +kernel
theorem d_Ct_init_85 : decode b_Ct_init 85 = .ok (.ldc2_w 39, 3) := by decide +kernel
theorem d_Ct_init_88 : decode b_Ct_init 88 = .ok (.putfield 45, 3) := by decide +kernel
theorem d_Ct_init_91 : decode b_Ct_init 91 = .ok (.return_, 1) := by decide +kernel
abbrev b_Tb_init : ByteArray := prog_6_method_1_code
abbrev y_Tb_init : MethodName := ⟨"ModuleBytes$Table", "<init>", "(I)V"⟩
def w_Tb_init : List Cond := .code y_Tb_init b_Tb_init 2 (Option.none : Option Jvm.ClassFile.FieldType) :: wAll
theorem d_Tb_init_0 : decode b_Tb_init 0 = .ok (.aload_n 0, 1) := by decide +kernel
theorem d_Tb_init_1 : decode b_Tb_init 1 = .ok (.invokespecial 3, 3) := by decide +kernel
theorem d_Tb_init_4 : decode b_Tb_init 4 = .ok (.aload_n 0, 1) := by decide +kernel
theorem d_Tb_init_5 : decode b_Tb_init 5 = .ok (.iload_n 1, 1) := by decide +kernel
theorem d_Tb_init_6 : decode b_Tb_init 6 = .ok (.putfield 9, 3) := by decide +kernel
theorem d_Tb_init_9 : decode b_Tb_init 9 = .ok (.aload_n 0, 1) := by decide +kernel
theorem d_Tb_init_10 : decode b_Tb_init 10 = .ok (.iload_n 1, 1) := by decide +kernel
theorem d_Tb_init_11 : decode b_Tb_init 11 = .ok (.iconst 4, 1) := by decide +kernel
theorem d_Tb_init_12 : decode b_Tb_init 12 = .ok (.imul, 1) := by decide +kernel
theorem d_Tb_init_13 : decode b_Tb_init 13 = .ok (.newarray .long, 2) := by decide +kernel
theorem d_Tb_init_15 : decode b_Tb_init 15 = .ok (.putfield 15, 3) := by decide +kernel
theorem d_Tb_init_18 : decode b_Tb_init 18 = .ok (.aload_n 0, 1) := by decide +kernel
theorem d_Tb_init_19 : decode b_Tb_init 19 = .ok (.iconst 0, 1) := by decide +kernel
theorem d_Tb_init_20 : decode b_Tb_init 20 = .ok (.putfield 19, 3) := by decide +kernel
theorem d_Tb_init_23 : decode b_Tb_init 23 = .ok (.return_, 1) := by decide +kernel
abbrev b_Sr_init : ByteArray := prog_5_method_1_code
abbrev y_Sr_init : MethodName := ⟨"ModuleBytes$Source", "<init>", "([B)V"⟩
def w_Sr_init : List Cond := .code y_Sr_init b_Sr_init 2 (Option.none : Option Jvm.ClassFile.FieldType) :: wAll
theorem d_Sr_init_0 : decode b_Sr_init 0 = .ok (.aload_n 0, 1) := by decide +kernel
theorem d_Sr_init_1 : decode b_Sr_init 1 = .ok (.invokespecial 3, 3) := by decide +kernel
theorem d_Sr_init_4 : decode b_Sr_init 4 = .ok (.aload_n 0, 1) := by decide +kernel
theorem d_Sr_init_5 : decode b_Sr_init 5 = .ok (.aload_n 1, 1) := by decide +kernel
theorem d_Sr_init_6 : decode b_Sr_init 6 = .ok (.putfield 9, 3) := by decide +kernel
theorem d_Sr_init_9 : decode b_Sr_init 9 = .ok (.aload_n 0, 1) := by decide +kernel
theorem d_Sr_init_10 : decode b_Sr_init 10 = .ok (.iconst 0, 1) := by decide +kernel
theorem d_Sr_init_11 : decode b_Sr_init 11 = .ok (.putfield 15, 3) := by decide +kernel
theorem d_Sr_init_14 : decode b_Sr_init 14 = .ok (.aload_n 0, 1) := by decide +kernel
theorem d_Sr_init_15 : decode b_Sr_init 15 = .ok (.iconst 0, 1) := by decide +kernel
theorem d_Sr_init_16 : decode b_Sr_init 16 = .ok (.putfield 19, 3) := by decide +kernel
theorem d_Sr_init_19 : decode b_Sr_init 19 = .ok (.aload_n 0, 1) := by decide +kernel
theorem d_Sr_init_20 : decode b_Sr_init 20 = .ok (.iconst 0, 1) := by decide +kernel
theorem d_Sr_init_21 : decode b_Sr_init 21 = .ok (.putfield 22, 3) := by decide +kernel
theorem d_Sr_init_24 : decode b_Sr_init 24 = .ok (.aload_n 0, 1) := by decide +kernel
theorem d_Sr_init_25 : decode b_Sr_init 25 = .ok (.iconst (-1), 1) := by decide +kernel
theorem d_Sr_init_26 : decode b_Sr_init 26 = .ok (.putfield 25, 3) := by decide +kernel
theorem d_Sr_init_29 : decode b_Sr_init 29 = .ok (.return_, 1) := by decide +kernel
abbrev b_Xr_init : ByteArray := prog_3_method_1_code
abbrev y_Xr_init : MethodName := ⟨"ModuleBytes$ExpressionReader", "<init>", "(LModuleBytes$Source;)V"⟩
def w_Xr_init : List Cond := .code y_Xr_init b_Xr_init 2 (Option.none : Option Jvm.ClassFile.FieldType) :: wAll
theorem d_Xr_init_0 : decode b_Xr_init 0 = .ok (.aload_n 0, 1) := by decide +kernel
theorem d_Xr_init_1 : decode b_Xr_init 1 = .ok (.invokespecial 3, 3) := by decide +kernel
theorem d_Xr_init_4 : decode b_Xr_init 4 = .ok (.aload_n 0, 1) := by decide +kernel
theorem d_Xr_init_5 : decode b_Xr_init 5 = .ok (.aload_n 1, 1) := by decide +kernel
theorem d_Xr_init_6 : decode b_Xr_init 6 = .ok (.putfield 9, 3) := by decide +kernel
theorem d_Xr_init_9 : decode b_Xr_init 9 = .ok (.aload_n 0, 1) := by decide +kernel
theorem d_Xr_init_10 : decode b_Xr_init 10 = .ok (.sipush 1000, 3) := by decide +kernel
theorem d_Xr_init_13 : decode b_Xr_init 13 = .ok (.newarray .boolean, 2) := by decide +kernel
theorem d_Xr_init_15 : decode b_Xr_init 15 = .ok (.putfield 15, 3) := by decide +kernel
theorem d_Xr_init_18 : decode b_Xr_init 18 = .ok (.aload_n 0, 1) := by decide +kernel
theorem d_Xr_init_19 : decode b_Xr_init 19 = .ok (.iconst 0, 1) := by decide +kernel
theorem d_Xr_init_20 : decode b_Xr_init 20 = .ok (.putfield 19, 3) := by decide +kernel
theorem d_Xr_init_23 : decode b_Xr_init 23 = .ok (.aload_n 0, 1) := by decide +kernel
theorem d_Xr_init_24 : decode b_Xr_init 24 = .ok (.iconst 0, 1) := by decide +kernel
theorem d_Xr_init_25 : decode b_Xr_init 25 = .ok (.putfield 23, 3) := by decide +kernel
theorem d_Xr_init_28 : decode b_Xr_init 28 = .ok (.return_, 1) := by decide +kernel
abbrev b_Ct_putNumber : ByteArray := prog_2_method_3_code
abbrev y_Ct_putNumber : MethodName := ⟨"ModuleBytes$Contents", "putNumber", "(II)V"⟩
def w_Ct_putNumber : List Cond := .code y_Ct_putNumber b_Ct_putNumber 3 (Option.none : Option Jvm.ClassFile.FieldType) :: wAll
theorem d_Ct_putNumber_0 : decode b_Ct_putNumber 0 = .ok (.iload_n 1, 1) := by decide +kernel
theorem d_Ct_putNumber_1 : decode b_Ct_putNumber 1 = .ok (.ifCond .lt 14, 3) := by decide +kernel
theorem d_Ct_putNumber_4 : decode b_Ct_putNumber 4 = .ok (.iload_n 1, 1) := by decide +kernel
theorem d_Ct_putNumber_5 : decode b_Ct_putNumber 5 = .ok (.aload_n 0, 1) := by decide +kernel
theorem d_Ct_putNumber_6 : decode b_Ct_putNumber 6 = .ok (.getfield 9, 3) := by decide +kernel
theorem d_Ct_putNumber_9 : decode b_Ct_putNumber 9 = .ok (.arraylength, 1) := by decide +kernel
theorem d_Ct_putNumber_10 : decode b_Ct_putNumber 10 = .ok (.iconst 4, 1) := by decide +kernel
theorem d_Ct_putNumber_11 : decode b_Ct_putNumber 11 = .ok (.isub, 1) := by decide +kernel
theorem d_Ct_putNumber_12 : decode b_Ct_putNumber 12 = .ok (.if_icmp .le 4, 3) := by decide +kernel
theorem d_Ct_putNumber_15 : decode b_Ct_putNumber 15 = .ok (.return_, 1) := by decide +kernel
theorem d_Ct_putNumber_16 : decode b_Ct_putNumber 16 = .ok (.aload_n 0, 1) := by decide +kernel
theorem d_Ct_putNumber_17 : decode b_Ct_putNumber 17 = .ok (.getfield 9, 3) := by decide +kernel
theorem d_Ct_putNumber_20 : decode b_Ct_putNumber 20 = .ok (.iload_n 1, 1) := by decide +kernel
theorem d_Ct_putNumber_21 : decode b_Ct_putNumber 21 = .ok (.iload_n 2, 1) := by decide +kernel
theorem d_Ct_putNumber_22 : decode b_Ct_putNumber 22 = .ok (.bipush 24, 2) := by decide +kernel
theorem d_Ct_putNumber_24 : decode b_Ct_putNumber 24 = .ok (.iushr, 1) := by decide +kernel
theorem d_Ct_putNumber_25 : decode b_Ct_putNumber 25 = .ok (.i2b, 1) := by decide +kernel
theorem d_Ct_putNumber_26 : decode b_Ct_putNumber 26 = .ok (.bastore, 1) := by decide +kernel
theorem d_Ct_putNumber_27 : decode b_Ct_putNumber 27 = .ok (.aload_n 0, 1) := by decide +kernel
theorem d_Ct_putNumber_28 : decode b_Ct_putNumber 28 = .ok (.getfield 9, 3) := by decide +kernel
theorem d_Ct_putNumber_31 : decode b_Ct_putNumber 31 = .ok (.iload_n 1, 1) := by decide +kernel
theorem d_Ct_putNumber_32 : decode b_Ct_putNumber 32 = .ok (.iconst 1, 1) := by decide +kernel
theorem d_Ct_putNumber_33 : decode b_Ct_putNumber 33 = .ok (.iadd, 1) := by decide +kernel
theorem d_Ct_putNumber_34 : decode b_Ct_putNumber 34 = .ok (.iload_n 2, 1) := by decide +kernel
theorem d_Ct_putNumber_35 : decode b_Ct_putNumber 35 = .ok (.bipush 16, 2) := by decide +kernel
theorem d_Ct_putNumber_37 : decode b_Ct_putNumber 37 = .ok (.iushr, 1) := by decide +kernel
theorem d_Ct_putNumber_38 : decode b_Ct_putNumber 38 = .ok (.i2b, 1) := by decide +kernel
theorem d_Ct_putNumber_39 : decode b_Ct_putNumber 39 = .ok (.bastore, 1) := by decide +kernel
theorem d_Ct_putNumber_40 : decode b_Ct_putNumber 40 = .ok (.aload_n 0, 1) := by decide +kernel
theorem d_Ct_putNumber_41 : decode b_Ct_putNumber 41 = .ok (.getfield 9, 3) := by decide +kernel
theorem d_Ct_putNumber_44 : decode b_Ct_putNumber 44 = .ok (.iload_n 1, 1) := by decide +kernel
theorem d_Ct_putNumber_45 : decode b_Ct_putNumber 45 = .ok (.iconst 2, 1) := by decide +kernel
theorem d_Ct_putNumber_46 : decode b_Ct_putNumber 46 = .ok (.iadd, 1) := by decide +kernel
theorem d_Ct_putNumber_47 : decode b_Ct_putNumber 47 = .ok (.iload_n 2, 1) := by decide +kernel
theorem d_Ct_putNumber_48 : decode b_Ct_putNumber 48 = .ok (.bipush 8, 2) := by decide +kernel
theorem d_Ct_putNumber_50 : decode b_Ct_putNumber 50 = .ok (.iushr, 1) := by decide +kernel
theorem d_Ct_putNumber_51 : decode b_Ct_putNumber 51 = .ok (.i2b, 1) := by decide +kernel
theorem d_Ct_putNumber_52 : decode b_Ct_putNumber 52 = .ok (.bastore, 1) := by decide +kernel
theorem d_Ct_putNumber_53 : decode b_Ct_putNumber 53 = .ok (.aload_n 0, 1) := by decide +kernel
theorem d_Ct_putNumber_54 : decode b_Ct_putNumber 54 = .ok (.getfield 9, 3) := by decide +kernel
theorem d_Ct_putNumber_57 : decode b_Ct_putNumber 57 = .ok (.iload_n 1, 1) := by decide +kernel
theorem d_Ct_putNumber_58 : decode b_Ct_putNumber 58 = .ok (.iconst 3, 1) := by decide +kernel
theorem d_Ct_putNumber_59 : decode b_Ct_putNumber 59 = .ok (.iadd, 1) := by decide +kernel
theorem d_Ct_putNumber_60 : decode b_Ct_putNumber 60 = .ok (.iload_n 2, 1) := by decide +kernel
theorem d_Ct_putNumber_61 : decode b_Ct_putNumber 61 = .ok (.i2b, 1) := by decide +kernel
theorem d_Ct_putNumber_62 : decode b_Ct_putNumber 62 = .ok (.bastore, 1) := by decide +kernel
theorem d_Ct_putNumber_63 : decode b_Ct_putNumber 63 = .ok (.return_, 1) := by decide +kernel
abbrev b_Ct_clear : ByteArray := prog_2_method_2_code
abbrev y_Ct_clear : MethodName := ⟨"ModuleBytes$Contents", "clear", "()V"⟩
def w_Ct_clear : List Cond := .code y_Ct_clear b_Ct_clear 2 (Option.none : Option Jvm.ClassFile.FieldType) :: wAll
theorem d_Ct_clear_0 : decode b_Ct_clear 0 = .ok (.iconst 0, 1) := by decide +kernel
theorem d_Ct_clear_1 : decode b_Ct_clear 1 = .ok (.istore_n 1, 1) := by decide +kernel
theorem d_Ct_clear_2 : decode b_Ct_clear 2 = .ok (.iload_n 1, 1) := by decide +kernel
theorem d_Ct_clear_3 : decode b_Ct_clear 3 = .ok (.bipush 11, 2) := by decide +kernel
theorem d_Ct_clear_5 : decode b_Ct_clear 5 = .ok (.if_icmp .ge 18, 3) := by decide +kernel
theorem d_Ct_clear_8 : decode b_Ct_clear 8 = .ok (.aload_n 0, 1) := by decide +kernel
theorem d_Ct_clear_9 : decode b_Ct_clear 9 = .ok (.getfield 17, 3) := by decide +kernel
theorem d_Ct_clear_12 : decode b_Ct_clear 12 = .ok (.iload_n 1, 1) := by decide +kernel
theorem d_Ct_clear_13 : decode b_Ct_clear 13 = .ok (.aaload, 1) := by decide +kernel
theorem d_Ct_clear_14 : decode b_Ct_clear 14 = .ok (.invokevirtual 48, 3) := by decide +kernel
theorem d_Ct_clear_17 : decode b_Ct_clear 17 = .ok (.iinc 1 1, 3) := by decide +kernel
theorem d_Ct_clear_20 : decode b_Ct_clear 20 = .ok (.goto (-18), 3) := by decide +kernel
theorem d_Ct_clear_23 : decode b_Ct_clear 23 = .ok (.aload_n 0, 1) := by decide +kernel
theorem d_Ct_clear_24 : decode b_Ct_clear 24 = .ok (.getfield 31, 3) := by decide +kernel
theorem d_Ct_clear_27 : decode b_Ct_clear 27 = .ok (.invokevirtual 48, 3) := by decide +kernel
theorem d_Ct_clear_30 : decode b_Ct_clear 30 = .ok (.aload_n 0, 1) := by decide +kernel
theorem d_Ct_clear_31 : decode b_Ct_clear 31 = .ok (.iconst 0, 1) := by decide +kernel
theorem d_Ct_clear_32 : decode b_Ct_clear 32 = .ok (.putfield 35, 3) := by decide +kernel
theorem d_Ct_clear_35 : decode b_Ct_clear 35 = .ok (.aload_n 0, 1) := by decide +kernel
theorem d_Ct_clear_36 : decode b_Ct_clear 36 = .ok (.ldc2_w 39, 3) := by decide +kernel
theorem d_Ct_clear_39 : decode b_Ct_clear 39 = .ok (.putfield 41, 3) := by decide +kernel
theorem d_Ct_clear_42 : decode b_Ct_clear 42 = .ok (.aload_n 0, 1) := by decide +kernel
theorem d_Ct_clear_43 : decode b_Ct_clear 43 = .ok (.ldc2_w 39, 3) := by decide +kernel
theorem d_Ct_clear_46 : decode b_Ct_clear 46 = .ok (.putfield 45, 3) := by decide +kernel
theorem d_Ct_clear_49 : decode b_Ct_clear 49 = .ok (.return_, 1) := by decide +kernel
abbrev b_Tb_clear : ByteArray := prog_6_method_2_code
abbrev y_Tb_clear : MethodName := ⟨"ModuleBytes$Table", "clear", "()V"⟩
def w_Tb_clear : List Cond := .code y_Tb_clear b_Tb_clear 1 (Option.none : Option Jvm.ClassFile.FieldType) :: wAll
theorem d_Tb_clear_0 : decode b_Tb_clear 0 = .ok (.aload_n 0, 1) := by decide +kernel
theorem d_Tb_clear_1 : decode b_Tb_clear 1 = .ok (.iconst 0, 1) := by decide +kernel
theorem d_Tb_clear_2 : decode b_Tb_clear 2 = .ok (.putfield 19, 3) := by decide +kernel
theorem d_Tb_clear_5 : decode b_Tb_clear 5 = .ok (.return_, 1) := by decide +kernel
abbrev b_Sr_open : ByteArray := prog_5_method_2_code
abbrev y_Sr_open : MethodName := ⟨"ModuleBytes$Source", "open", "([BI)V"⟩
def w_Sr_open : List Cond := .code y_Sr_open b_Sr_open 3 (Option.none : Option Jvm.ClassFile.FieldType) :: wAll
theorem d_Sr_open_0 : decode b_Sr_open 0 = .ok (.aload_n 0, 1) := by decide +kernel
theorem d_Sr_open_1 : decode b_Sr_open 1 = .ok (.aload_n 1, 1) := by decide +kernel
theorem d_Sr_open_2 : decode b_Sr_open 2 = .ok (.putfield 9, 3) := by decide +kernel
theorem d_Sr_open_5 : decode b_Sr_open 5 = .ok (.aload_n 0, 1) := by decide +kernel
theorem d_Sr_open_6 : decode b_Sr_open 6 = .ok (.iconst 0, 1) := by decide +kernel
theorem d_Sr_open_7 : decode b_Sr_open 7 = .ok (.putfield 15, 3) := by decide +kernel
theorem d_Sr_open_10 : decode b_Sr_open 10 = .ok (.aload_n 0, 1) := by decide +kernel
theorem d_Sr_open_11 : decode b_Sr_open 11 = .ok (.iload_n 2, 1) := by decide +kernel
theorem d_Sr_open_12 : decode b_Sr_open 12 = .ok (.aload_n 1, 1) := by decide +kernel
theorem d_Sr_open_13 : decode b_Sr_open 13 = .ok (.arraylength, 1) := by decide +kernel
theorem d_Sr_open_14 : decode b_Sr_open 14 = .ok (.invokestatic 28, 3) := by decide +kernel
theorem d_Sr_open_17 : decode b_Sr_open 17 = .ok (.putfield 19, 3) := by decide +kernel
theorem d_Sr_open_20 : decode b_Sr_open 20 = .ok (.return_, 1) := by decide +kernel
abbrev b_Sr_next : ByteArray := prog_5_method_4_code
abbrev y_Sr_next : MethodName := ⟨"ModuleBytes$Source", "next", "()I"⟩
def w_Sr_next : List Cond := .code y_Sr_next b_Sr_next 2 (Option.some Jvm.ClassFile.FieldType.int) :: wAll
theorem d_Sr_next_0 : decode b_Sr_next 0 = .ok (.aload_n 0, 1) := by decide +kernel
theorem d_Sr_next_1 : decode b_Sr_next 1 = .ok (.getfield 15, 3) := by decide +kernel
theorem d_Sr_next_4 : decode b_Sr_next 4 = .ok (.aload_n 0, 1) := by decide +kernel
theorem d_Sr_next_5 : decode b_Sr_next 5 = .ok (.getfield 19, 3) := by decide +kernel
theorem d_Sr_next_8 : decode b_Sr_next 8 = .ok (.if_icmp .lt 26, 3) := by decide +kernel
theorem d_Sr_next_11 : decode b_Sr_next 11 = .ok (.aload_n 0, 1) := by decide +kernel
theorem d_Sr_next_12 : decode b_Sr_next 12 = .ok (.iconst 1, 1) := by decide +kernel
theorem d_Sr_next_13 : decode b_Sr_next 13 = .ok (.putfield 22, 3) := by decide +kernel
theorem d_Sr_next_16 : decode b_Sr_next 16 = .ok (.aload_n 0, 1) := by decide +kernel
theorem d_Sr_next_17 : decode b_Sr_next 17 = .ok (.aload_n 0, 1) := by decide +kernel
theorem d_Sr_next_18 : decode b_Sr_next 18 = .ok (.getfield 19, 3) := by decide +kernel
theorem d_Sr_next_21 : decode b_Sr_next 21 = .ok (.putfield 25, 3) := by decide +kernel
theorem d_Sr_next_24 : decode b_Sr_next 24 = .ok (.new 34, 3) := by decide +kernel
theorem d_Sr_next_27 : decode b_Sr_next 27 = .ok (.dup, 1) := by decide +kernel
theorem d_Sr_next_28 : decode b_Sr_next 28 = .ok (.ldc 41, 2) := by decide +kernel
theorem d_Sr_next_30 : decode b_Sr_next 30 = .ok (.invokespecial 38, 3) := by decide +kernel
theorem d_Sr_next_33 : decode b_Sr_next 33 = .ok (.athrow, 1) := by decide +kernel
theorem d_Sr_next_34 : decode b_Sr_next 34 = .ok (.aload_n 0, 1) := by decide +kernel
theorem d_Sr_next_35 : decode b_Sr_next 35 = .ok (.getfield 9, 3) := by decide +kernel
theorem d_Sr_next_38 : decode b_Sr_next 38 = .ok (.aload_n 0, 1) := by decide +kernel
theorem d_Sr_next_39 : decode b_Sr_next 39 = .ok (.getfield 15, 3) := by decide +kernel
theorem d_Sr_next_42 : decode b_Sr_next 42 = .ok (.baload, 1) := by decide +kernel
theorem d_Sr_next_43 : decode b_Sr_next 43 = .ok (.sipush 255, 3) := by decide +kernel
theorem d_Sr_next_46 : decode b_Sr_next 46 = .ok (.iand, 1) := by decide +kernel
theorem d_Sr_next_47 : decode b_Sr_next 47 = .ok (.istore_n 1, 1) := by decide +kernel
theorem d_Sr_next_48 : decode b_Sr_next 48 = .ok (.aload_n 0, 1) := by decide +kernel
theorem d_Sr_next_49 : decode b_Sr_next 49 = .ok (.dup, 1) := by decide +kernel
theorem d_Sr_next_50 : decode b_Sr_next 50 = .ok (.getfield 15, 3) := by decide +kernel
theorem d_Sr_next_53 : decode b_Sr_next 53 = .ok (.iconst 1, 1) := by decide +kernel
theorem d_Sr_next_54 : decode b_Sr_next 54 = .ok (.iadd, 1) := by decide +kernel
theorem d_Sr_next_55 : decode b_Sr_next 55 = .ok (.putfield 15, 3) := by decide +kernel
theorem d_Sr_next_58 : decode b_Sr_next 58 = .ok (.iload_n 1, 1) := by decide +kernel
theorem d_Sr_next_59 : decode b_Sr_next 59 = .ok (.ireturn, 1) := by decide +kernel
abbrev b_Sr_fail : ByteArray := prog_5_method_3_code
abbrev y_Sr_fail : MethodName := ⟨"ModuleBytes$Source", "fail", "(II)V"⟩
def w_Sr_fail : List Cond := .code y_Sr_fail b_Sr_fail 3 (Option.none : Option Jvm.ClassFile.FieldType) :: wAll
theorem d_Sr_fail_0 : decode b_Sr_fail 0 = .ok (.aload_n 0, 1) := by decide +kernel
theorem d_Sr_fail_1 : decode b_Sr_fail 1 = .ok (.iload_n 1, 1) := by decide +kernel
theorem d_Sr_fail_2 : decode b_Sr_fail 2 = .ok (.putfield 22, 3) := by decide +kernel
theorem d_Sr_fail_5 : decode b_Sr_fail 5 = .ok (.aload_n 0, 1) := by decide +kernel
theorem d_Sr_fail_6 : decode b_Sr_fail 6 = .ok (.iload_n 2, 1) := by decide +kernel
theorem d_Sr_fail_7 : decode b_Sr_fail 7 = .ok (.putfield 25, 3) := by decide +kernel
theorem d_Sr_fail_10 : decode b_Sr_fail 10 = .ok (.new 34, 3) := by decide +kernel
theorem d_Sr_fail_13 : decode b_Sr_fail 13 = .ok (.dup, 1) := by decide +kernel
theorem d_Sr_fail_14 : decode b_Sr_fail 14 = .ok (.ldc 36, 2) := by decide +kernel
theorem d_Sr_fail_16 : decode b_Sr_fail 16 = .ok (.invokespecial 38, 3) := by decide +kernel
theorem d_Sr_fail_19 : decode b_Sr_fail 19 = .ok (.athrow, 1) := by decide +kernel
abbrev b_Sr_enter : ByteArray := prog_5_method_6_code
abbrev y_Sr_enter : MethodName := ⟨"ModuleBytes$Source", "enter", "()I"⟩
def w_Sr_enter : List Cond := .code y_Sr_enter b_Sr_enter 5 (Option.some Jvm.ClassFile.FieldType.int) :: wAll
theorem d_Sr_enter_0 : decode b_Sr_enter 0 = .ok (.aload_n 0, 1) := by decide +kernel
theorem d_Sr_enter_1 : decode b_Sr_enter 1 = .ok (.getfield 15, 3) := by decide +kernel
theorem d_Sr_enter_4 : decode b_Sr_enter 4 = .ok (.istore_n 1, 1) := by decide +kernel
theorem d_Sr_enter_5 : decode b_Sr_enter 5 = .ok (.aload_n 0, 1) := by decide +kernel
theorem d_Sr_enter_6 : decode b_Sr_enter 6 = .ok (.invokevirtual 47, 3) := by decide +kernel
theorem d_Sr_enter_9 : decode b_Sr_enter 9 = .ok (.lstore_n 2, 1) := by decide +kernel
theorem d_Sr_enter_10 : decode b_Sr_enter 10 = .ok (.lload_n 2, 1) := by decide +kernel
theorem d_Sr_enter_11 : decode b_Sr_enter 11 = .ok (.aload_n 0, 1) := by decide +kernel
theorem d_Sr_enter_12 : decode b_Sr_enter 12 = .ok (.getfield 19, 3) := by decide +kernel
theorem d_Sr_enter_15 : decode b_Sr_enter 15 = .ok (.aload_n 0, 1) := by decide +kernel
theorem d_Sr_enter_16 : decode b_Sr_enter 16 = .ok (.getfield 15, 3) := by decide +kernel
theorem d_Sr_enter_19 : decode b_Sr_enter 19 = .ok (.isub, 1) := by decide +kernel
theorem d_Sr_enter_20 : decode b_Sr_enter 20 = .ok (.i2l, 1) := by decide +kernel
theorem d_Sr_enter_21 : decode b_Sr_enter 21 = .ok (.lcmp, 1) := by decide +kernel
theorem d_Sr_enter_22 : decode b_Sr_enter 22 = .ok (.ifCond .le 9, 3) := by decide +kernel
theorem d_Sr_enter_25 : decode b_Sr_enter 25 = .ok (.aload_n 0, 1) := by decide +kernel
theorem d_Sr_enter_26 : decode b_Sr_enter 26 = .ok (.iconst 2, 1) := by decide +kernel
theorem d_Sr_enter_27 : decode b_Sr_enter 27 = .ok (.iload_n 1, 1) := by decide +kernel
theorem d_Sr_enter_28 : decode b_Sr_enter 28 = .ok (.invokevirtual 43, 3) := by decide +kernel
theorem d_Sr_enter_31 : decode b_Sr_enter 31 = .ok (.aload_n 0, 1) := by decide +kernel
theorem d_Sr_enter_32 : decode b_Sr_enter 32 = .ok (.getfield 19, 3) := by decide +kernel
theorem d_Sr_enter_35 : decode b_Sr_enter 35 = .ok (.istore 4, 2) := by decide +kernel
theorem d_Sr_enter_37 : decode b_Sr_enter 37 = .ok (.aload_n 0, 1) := by decide +kernel
theorem d_Sr_enter_38 : decode b_Sr_enter 38 = .ok (.aload_n 0, 1) := by decide +kernel
theorem d_Sr_enter_39 : decode b_Sr_enter 39 = .ok (.getfield 15, 3) := by decide +kernel
theorem d_Sr_enter_42 : decode b_Sr_enter 42 = .ok (.lload_n 2, 1) := by decide +kernel
theorem d_Sr_enter_43 : decode b_Sr_enter 43 = .ok (.l2i, 1) := by decide +kernel
theorem d_Sr_enter_44 : decode b_Sr_enter 44 = .ok (.iadd, 1) := by decide +kernel
theorem d_Sr_enter_45 : decode b_Sr_enter 45 = .ok (.putfield 19, 3) := by decide +kernel
theorem d_Sr_enter_48 : decode b_Sr_enter 48 = .ok (.iload 4, 2) := by decide +kernel
theorem d_Sr_enter_50 : decode b_Sr_enter 50 = .ok (.ireturn, 1) := by decide +kernel
abbrev b_Sr_u32 : ByteArray := prog_5_method_8_code
abbrev y_Sr_u32 : MethodName := ⟨"ModuleBytes$Source", "u32", "()J"⟩
def w_Sr_u32 : List Cond := .code y_Sr_u32 b_Sr_u32 5 (Option.some Jvm.ClassFile.FieldType.long) :: wAll
theorem d_Sr_u32_0 : decode b_Sr_u32 0 = .ok (.lconst 0, 1) := by decide +kernel
theorem d_Sr_u32_1 : decode b_Sr_u32 1 = .ok (.lstore_n 1, 1) := by decide +kernel
theorem d_Sr_u32_2 : decode b_Sr_u32 2 = .ok (.iconst 0, 1) := by decide +kernel
theorem d_Sr_u32_3 : decode b_Sr_u32 3 = .ok (.istore_n 3, 1) := by decide +kernel
theorem d_Sr_u32_4 : decode b_Sr_u32 4 = .ok (.iload_n 3, 1) := by decide +kernel
theorem d_Sr_u32_5 : decode b_Sr_u32 5 = .ok (.bipush 28, 2) := by decide +kernel
theorem d_Sr_u32_7 : decode b_Sr_u32 7 = .ok (.if_icmp .gt 61, 3) := by decide +kernel
theorem d_Sr_u32_10 : decode b_Sr_u32 10 = .ok (.aload_n 0, 1) := by decide +kernel
theorem d_Sr_u32_11 : decode b_Sr_u32 11 = .ok (.invokevirtual 51, 3) := by decide +kernel
theorem d_Sr_u32_14 : decode b_Sr_u32 14 = .ok (.istore 4, 2) := by decide +kernel
theorem d_Sr_u32_16 : decode b_Sr_u32 16 = .ok (.iload_n 3, 1) := by decide +kernel
theorem d_Sr_u32_17 : decode b_Sr_u32 17 = .ok (.bipush 28, 2) := by decide +kernel
theorem d_Sr_u32_19 : decode b_Sr_u32 19 = .ok (.if_icmp .ne 21, 3) := by decide +kernel
theorem d_Sr_u32_22 : decode b_Sr_u32 22 = .ok (.iload 4, 2) := by decide +kernel
theorem d_Sr_u32_24 : decode b_Sr_u32 24 = .ok (.bipush 15, 2) := by decide +kernel
theorem d_Sr_u32_26 : decode b_Sr_u32 26 = .ok (.if_icmp .le 14, 3) := by decide +kernel
theorem d_Sr_u32_29 : decode b_Sr_u32 29 = .ok (.aload_n 0, 1) := by decide +kernel
theorem d_Sr_u32_30 : decode b_Sr_u32 30 = .ok (.iconst 4, 1) := by decide +kernel
theorem d_Sr_u32_31 : decode b_Sr_u32 31 = .ok (.aload_n 0, 1) := by decide +kernel
theorem d_Sr_u32_32 : decode b_Sr_u32 32 = .ok (.getfield 15, 3) := by decide +kernel
theorem d_Sr_u32_35 : decode b_Sr_u32 35 = .ok (.iconst 1, 1) := by decide +kernel
theorem d_Sr_u32_36 : decode b_Sr_u32 36 = .ok (.isub, 1) := by decide +kernel
theorem d_Sr_u32_37 : decode b_Sr_u32 37 = .ok (.invokevirtual 43, 3) := by decide +kernel
theorem d_Sr_u32_40 : decode b_Sr_u32 40 = .ok (.lload_n 1, 1) := by decide +kernel
theorem d_Sr_u32_41 : decode b_Sr_u32 41 = .ok (.iload 4, 2) := by decide +kernel
theorem d_Sr_u32_43 : decode b_Sr_u32 43 = .ok (.bipush 127, 2) := by decide +kernel
theorem d_Sr_u32_45 : decode b_Sr_u32 45 = .ok (.iand, 1) := by decide +kernel
theorem d_Sr_u32_46 : decode b_Sr_u32 46 = .ok (.i2l, 1) := by decide +kernel
theorem d_Sr_u32_47 : decode b_Sr_u32 47 = .ok (.iload_n 3, 1) := by decide +kernel
theorem d_Sr_u32_48 : decode b_Sr_u32 48 = .ok (.lshl, 1) := by decide +kernel
theorem d_Sr_u32_49 : decode b_Sr_u32 49 = .ok (.lor, 1) := by decide +kernel
theorem d_Sr_u32_50 : decode b_Sr_u32 50 = .ok (.lstore_n 1, 1) := by decide +kernel
theorem d_Sr_u32_51 : decode b_Sr_u32 51 = .ok (.iload 4, 2) := by decide +kernel
theorem d_Sr_u32_53 : decode b_Sr_u32 53 = .ok (.sipush 128, 3) := by decide +kernel
theorem d_Sr_u32_56 : decode b_Sr_u32 56 = .ok (.if_icmp .ge 6, 3) := by decide +kernel
theorem d_Sr_u32_59 : decode b_Sr_u32 59 = .ok (.goto 9, 3) := by decide +kernel
theorem d_Sr_u32_62 : decode b_Sr_u32 62 = .ok (.iinc 3 7, 3) := by decide +kernel
theorem d_Sr_u32_65 : decode b_Sr_u32 65 = .ok (.goto (-61), 3) := by decide +kernel
theorem d_Sr_u32_68 : decode b_Sr_u32 68 = .ok (.lload_n 1, 1) := by decide +kernel
theorem d_Sr_u32_69 : decode b_Sr_u32 69 = .ok (.lreturn, 1) := by decide +kernel
abbrev b_Tb_begin : ByteArray := prog_6_method_3_code
abbrev y_Tb_begin : MethodName := ⟨"ModuleBytes$Table", "begin", "()V"⟩
def w_Tb_begin : List Cond := .code y_Tb_begin b_Tb_begin 3 (Option.none : Option Jvm.ClassFile.FieldType) :: wAll
theorem d_Tb_begin_0 : decode b_Tb_begin 0 = .ok (.aload_n 0, 1) := by decide +kernel
theorem d_Tb_begin_1 : decode b_Tb_begin 1 = .ok (.getfield 19, 3) := by decide +kernel
theorem d_Tb_begin_4 : decode b_Tb_begin 4 = .ok (.aload_n 0, 1) := by decide +kernel
theorem d_Tb_begin_5 : decode b_Tb_begin 5 = .ok (.getfield 9, 3) := by decide +kernel
theorem d_Tb_begin_8 : decode b_Tb_begin 8 = .ok (.imul, 1) := by decide +kernel
theorem d_Tb_begin_9 : decode b_Tb_begin 9 = .ok (.istore_n 1, 1) := by decide +kernel
theorem d_Tb_begin_10 : decode b_Tb_begin 10 = .ok (.iload_n 1, 1) := by decide +kernel
theorem d_Tb_begin_11 : decode b_Tb_begin 11 = .ok (.aload_n 0, 1) := by decide +kernel
theorem d_Tb_begin_12 : decode b_Tb_begin 12 = .ok (.getfield 9, 3) := by decide +kernel
theorem d_Tb_begin_15 : decode b_Tb_begin 15 = .ok (.iadd, 1) := by decide +kernel
theorem d_Tb_begin_16 : decode b_Tb_begin 16 = .ok (.aload_n 0, 1) := by decide +kernel
theorem d_Tb_begin_17 : decode b_Tb_begin 17 = .ok (.getfield 15, 3) := by decide +kernel
theorem d_Tb_begin_20 : decode b_Tb_begin 20 = .ok (.arraylength, 1) := by decide +kernel
theorem d_Tb_begin_21 : decode b_Tb_begin 21 = .ok (.if_icmp .le 22, 3) := by decide +kernel
theorem d_Tb_begin_24 : decode b_Tb_begin 24 = .ok (.aload_n 0, 1) := by decide +kernel
theorem d_Tb_begin_25 : decode b_Tb_begin 25 = .ok (.aload_n 0, 1) := by decide +kernel
theorem d_Tb_begin_26 : decode b_Tb_begin 26 = .ok (.getfield 15, 3) := by decide +kernel
theorem d_Tb_begin_29 : decode b_Tb_begin 29 = .ok (.iconst 2, 1) := by decide +kernel
theorem d_Tb_begin_30 : decode b_Tb_begin 30 = .ok (.iload_n 1, 1) := by decide +kernel
theorem d_Tb_begin_31 : decode b_Tb_begin 31 = .ok (.aload_n 0, 1) := by decide +kernel
theorem d_Tb_begin_32 : decode b_Tb_begin 32 = .ok (.getfield 9, 3) := by decide +kernel
theorem d_Tb_begin_35 : decode b_Tb_begin 35 = .ok (.iadd, 1) := by decide +kernel
theorem d_Tb_begin_36 : decode b_Tb_begin 36 = .ok (.imul, 1) := by decide +kernel
theorem d_Tb_begin_37 : decode b_Tb_begin 37 = .ok (.invokestatic 22, 3) := by decide +kernel
theorem d_Tb_begin_40 : decode b_Tb_begin 40 = .ok (.putfield 15, 3) := by decide +kernel
theorem d_Tb_begin_43 : decode b_Tb_begin 43 = .ok (.iload_n 1, 1) := by decide +kernel
theorem d_Tb_begin_44 : decode b_Tb_begin 44 = .ok (.istore_n 2, 1) := by decide +kernel
theorem d_Tb_begin_45 : decode b_Tb_begin 45 = .ok (.iload_n 2, 1) := by decide +kernel
theorem d_Tb_begin_46 : decode b_Tb_begin 46 = .ok (.iload_n 1, 1) := by decide +kernel
theorem d_Tb_begin_47 : decode b_Tb_begin 47 = .ok (.aload_n 0, 1) := by decide +kernel
theorem d_Tb_begin_48 : decode b_Tb_begin 48 = .ok (.getfield 9, 3) := by decide +kernel
theorem d_Tb_begin_51 : decode b_Tb_begin 51 = .ok (.iadd, 1) := by decide +kernel
theorem d_Tb_begin_52 : decode b_Tb_begin 52 = .ok (.if_icmp .ge 18, 3) := by decide +kernel
theorem d_Tb_begin_55 : decode b_Tb_begin 55 = .ok (.aload_n 0, 1) := by decide +kernel
theorem d_Tb_begin_56 : decode b_Tb_begin 56 = .ok (.getfield 15, 3) := by decide +kernel
theorem d_Tb_begin_59 : decode b_Tb_begin 59 = .ok (.iload_n 2, 1) := by decide +kernel
theorem d_Tb_begin_60 : decode b_Tb_begin 60 = .ok (.ldc2_w 28, 3) := by decide +kernel
theorem d_Tb_begin_63 : decode b_Tb_begin 63 = .ok (.lastore, 1) := by decide +kernel
theorem d_Tb_begin_64 : decode b_Tb_begin 64 = .ok (.iinc 2 1, 3) := by decide +kernel
theorem d_Tb_begin_67 : decode b_Tb_begin 67 = .ok (.goto (-22), 3) := by decide +kernel
theorem d_Tb_begin_70 : decode b_Tb_begin 70 = .ok (.aload_n 0, 1) := by decide +kernel
theorem d_Tb_begin_71 : decode b_Tb_begin 71 = .ok (.dup, 1) := by decide +kernel
theorem d_Tb_begin_72 : decode b_Tb_begin 72 = .ok (.getfield 19, 3) := by decide +kernel
theorem d_Tb_begin_75 : decode b_Tb_begin 75 = .ok (.iconst 1, 1) := by decide +kernel
theorem d_Tb_begin_76 : decode b_Tb_begin 76 = .ok (.iadd, 1) := by decide +kernel
theorem d_Tb_begin_77 : decode b_Tb_begin 77 = .ok (.putfield 19, 3) := by decide +kernel
theorem d_Tb_begin_80 : decode b_Tb_begin 80 = .ok (.return_, 1) := by decide +kernel
abbrev b_Sr_nameInto : ByteArray := prog_5_method_18_code
abbrev y_Sr_nameInto : MethodName := ⟨"ModuleBytes$Source", "nameInto", "(LModuleBytes$Table;I)V"⟩
def w_Sr_nameInto : List Cond := .code y_Sr_nameInto b_Sr_nameInto 8 (Option.none : Option Jvm.ClassFile.FieldType) :: wAll
theorem d_Sr_nameInto_0 : decode b_Sr_nameInto 0 = .ok (.aload_n 0, 1) := by decide +kernel
theorem d_Sr_nameInto_1 : decode b_Sr_nameInto 1 = .ok (.invokevirtual 47, 3) := by decide +kernel
theorem d_Sr_nameInto_4 : decode b_Sr_nameInto 4 = .ok (.lstore_n 3, 1) := by decide +kernel
theorem d_Sr_nameInto_5 : decode b_Sr_nameInto 5 = .ok (.aload_n 0, 1) := by decide +kernel
theorem d_Sr_nameInto_6 : decode b_Sr_nameInto 6 = .ok (.getfield 15, 3) := by decide +kernel
theorem d_Sr_nameInto_9 : decode b_Sr_nameInto 9 = .ok (.istore 5, 2) := by decide +kernel
theorem d_Sr_nameInto_11 : decode b_Sr_nameInto 11 = .ok (.aload_n 0, 1) := by decide +kernel
theorem d_Sr_nameInto_12 : decode b_Sr_nameInto 12 = .ok (.lload_n 3, 1) := by decide +kernel
theorem d_Sr_nameInto_13 : decode b_Sr_nameInto 13 = .ok (.invokevirtual 65, 3) := by decide +kernel
theorem d_Sr_nameInto_16 : decode b_Sr_nameInto 16 = .ok (.aload_n 1, 1) := by decide +kernel
theorem d_Sr_nameInto_17 : decode b_Sr_nameInto 17 = .ok (.iload_n 2, 1) := by decide +kernel
theorem d_Sr_nameInto_18 : decode b_Sr_nameInto 18 = .ok (.iload 5, 2) := by decide +kernel
theorem d_Sr_nameInto_20 : decode b_Sr_nameInto 20 = .ok (.i2l, 1) := by decide +kernel
theorem d_Sr_nameInto_21 : decode b_Sr_nameInto 21 = .ok (.invokevirtual 69, 3) := by decide +kernel
theorem d_Sr_nameInto_24 : decode b_Sr_nameInto 24 = .ok (.aload_n 1, 1) := by decide +kernel
theorem d_Sr_nameInto_25 : decode b_Sr_nameInto 25 = .ok (.iload_n 2, 1) := by decide +kernel
theorem d_Sr_nameInto_26 : decode b_Sr_nameInto 26 = .ok (.iconst 1, 1) := by decide +kernel
theorem d_Sr_nameInto_27 : decode b_Sr_nameInto 27 = .ok (.iadd, 1) := by decide +kernel
theorem d_Sr_nameInto_28 : decode b_Sr_nameInto 28 = .ok (.lload_n 3, 1) := by decide +kernel
theorem d_Sr_nameInto_29 : decode b_Sr_nameInto 29 = .ok (.invokevirtual 69, 3) := by decide +kernel
theorem d_Sr_nameInto_32 : decode b_Sr_nameInto 32 = .ok (.iconst 0, 1) := by decide +kernel
theorem d_Sr_nameInto_33 : decode b_Sr_nameInto 33 = .ok (.istore 6, 2) := by decide +kernel
theorem d_Sr_nameInto_35 : decode b_Sr_nameInto 35 = .ok (.iload 5, 2) := by decide +kernel
theorem d_Sr_nameInto_37 : decode b_Sr_nameInto 37 = .ok (.istore 7, 2) := by decide +kernel
theorem d_Sr_nameInto_39 : decode b_Sr_nameInto 39 = .ok (.iload 7, 2) := by decide +kernel
theorem d_Sr_nameInto_41 : decode b_Sr_nameInto 41 = .ok (.aload_n 0, 1) := by decide +kernel
theorem d_Sr_nameInto_42 : decode b_Sr_nameInto 42 = .ok (.getfield 15, 3) := by decide +kernel
theorem d_Sr_nameInto_45 : decode b_Sr_nameInto 45 = .ok (.if_icmp .ge 35, 3) := by decide +kernel
theorem d_Sr_nameInto_48 : decode b_Sr_nameInto 48 = .ok (.aload_n 0, 1) := by decide +kernel
theorem d_Sr_nameInto_49 : decode b_Sr_nameInto 49 = .ok (.iload 7, 2) := by decide +kernel
theorem d_Sr_nameInto_51 : decode b_Sr_nameInto 51 = .ok (.invokevirtual 75, 3) := by decide +kernel
theorem d_Sr_nameInto_54 : decode b_Sr_nameInto 54 = .ok (.istore 6, 2) := by decide +kernel
theorem d_Sr_nameInto_56 : decode b_Sr_nameInto 56 = .ok (.iload 6, 2) := by decide +kernel
theorem d_Sr_nameInto_58 : decode b_Sr_nameInto 58 = .ok (.ifCond .gt 12, 3) := by decide +kernel
theorem d_Sr_nameInto_61 : decode b_Sr_nameInto 61 = .ok (.aload_n 0, 1) := by decide +kernel
theorem d_Sr_nameInto_62 : decode b_Sr_nameInto 62 = .ok (.bipush 9, 2) := by decide +kernel
theorem d_Sr_nameInto_64 : decode b_Sr_nameInto 64 = .ok (.iload 7, 2) := by decide +kernel
theorem d_Sr_nameInto_66 : decode b_Sr_nameInto 66 = .ok (.invokevirtual 43, 3) := by decide +kernel
theorem d_Sr_nameInto_69 : decode b_Sr_nameInto 69 = .ok (.return_, 1) := by decide +kernel
theorem d_Sr_nameInto_70 : decode b_Sr_nameInto 70 = .ok (.iload 7, 2) := by decide +kernel
theorem d_Sr_nameInto_72 : decode b_Sr_nameInto 72 = .ok (.iload 6, 2) := by decide +kernel
theorem d_Sr_nameInto_74 : decode b_Sr_nameInto 74 = .ok (.iadd, 1) := by decide +kernel
theorem d_Sr_nameInto_75 : decode b_Sr_nameInto 75 = .ok (.istore 7, 2) := by decide +kernel
theorem d_Sr_nameInto_77 : decode b_Sr_nameInto 77 = .ok (.goto (-38), 3) := by decide +kernel
theorem d_Sr_nameInto_80 : decode b_Sr_nameInto 80 = .ok (.return_, 1) := by decide +kernel
abbrev b_Sr_skip : ByteArray := prog_5_method_5_code
abbrev y_Sr_skip : MethodName := ⟨"ModuleBytes$Source", "skip", "(J)V"⟩
def w_Sr_skip : List Cond := .code y_Sr_skip b_Sr_skip 3 (Option.none : Option Jvm.ClassFile.FieldType) :: wAll
theorem d_Sr_skip_0 : decode b_Sr_skip 0 = .ok (.lload_n 1, 1) := by decide +kernel
theorem d_Sr_skip_1 : decode b_Sr_skip 1 = .ok (.aload_n 0, 1) := by decide +kernel
theorem d_Sr_skip_2 : decode b_Sr_skip 2 = .ok (.getfield 19, 3) := by decide +kernel
theorem d_Sr_skip_5 : decode b_Sr_skip 5 = .ok (.aload_n 0, 1) := by decide +kernel
theorem d_Sr_skip_6 : decode b_Sr_skip 6 = .ok (.getfield 15, 3) := by decide +kernel
theorem d_Sr_skip_9 : decode b_Sr_skip 9 = .ok (.isub, 1) := by decide +kernel
theorem d_Sr_skip_10 : decode b_Sr_skip 10 = .ok (.i2l, 1) := by decide +kernel
theorem d_Sr_skip_11 : decode b_Sr_skip 11 = .ok (.lcmp, 1) := by decide +kernel
theorem d_Sr_skip_12 : decode b_Sr_skip 12 = .ok (.ifCond .le 12, 3) := by decide +kernel
theorem d_Sr_skip_15 : decode b_Sr_skip 15 = .ok (.aload_n 0, 1) := by decide +kernel
theorem d_Sr_skip_16 : decode b_Sr_skip 16 = .ok (.iconst 1, 1) := by decide +kernel
theorem d_Sr_skip_17 : decode b_Sr_skip 17 = .ok (.aload_n 0, 1) := by decide +kernel
theorem d_Sr_skip_18 : decode b_Sr_skip 18 = .ok (.getfield 19, 3) := by decide +kernel
theorem d_Sr_skip_21 : decode b_Sr_skip 21 = .ok (.invokevirtual 43, 3) := by decide +kernel
theorem d_Sr_skip_24 : decode b_Sr_skip 24 = .ok (.aload_n 0, 1) := by decide +kernel
theorem d_Sr_skip_25 : decode b_Sr_skip 25 = .ok (.dup, 1) := by decide +kernel
theorem d_Sr_skip_26 : decode b_Sr_skip 26 = .ok (.getfield 15, 3) := by decide +kernel
theorem d_Sr_skip_29 : decode b_Sr_skip 29 = .ok (.lload_n 1, 1) := by decide +kernel
theorem d_Sr_skip_30 : decode b_Sr_skip 30 = .ok (.l2i, 1) := by decide +kernel
theorem d_Sr_skip_31 : decode b_Sr_skip 31 = .ok (.iadd, 1) := by decide +kernel
theorem d_Sr_skip_32 : decode b_Sr_skip 32 = .ok (.putfield 15, 3) := by decide +kernel
theorem d_Sr_skip_35 : decode b_Sr_skip 35 = .ok (.return_, 1) := by decide +kernel
abbrev b_Tb_put : ByteArray := prog_6_method_4_code
abbrev y_Tb_put : MethodName := ⟨"ModuleBytes$Table", "put", "(IJ)V"⟩
def w_Tb_put : List Cond := .code y_Tb_put b_Tb_put 4 (Option.none : Option Jvm.ClassFile.FieldType) :: wAll
theorem d_Tb_put_0 : decode b_Tb_put 0 = .ok (.aload_n 0, 1) := by decide +kernel
theorem d_Tb_put_1 : decode b_Tb_put 1 = .ok (.getfield 19, 3) := by decide +kernel
theorem d_Tb_put_4 : decode b_Tb_put 4 = .ok (.ifCond .le 34, 3) := by decide +kernel
theorem d_Tb_put_7 : decode b_Tb_put 7 = .ok (.iload_n 1, 1) := by decide +kernel
theorem d_Tb_put_8 : decode b_Tb_put 8 = .ok (.ifCond .lt 30, 3) := by decide +kernel
theorem d_Tb_put_11 : decode b_Tb_put 11 = .ok (.iload_n 1, 1) := by decide +kernel
theorem d_Tb_put_12 : decode b_Tb_put 12 = .ok (.aload_n 0, 1) := by decide +kernel
theorem d_Tb_put_13 : decode b_Tb_put 13 = .ok (.getfield 9, 3) := by decide +kernel
theorem d_Tb_put_16 : decode b_Tb_put 16 = .ok (.if_icmp .ge 22, 3) := by decide +kernel
theorem d_Tb_put_19 : decode b_Tb_put 19 = .ok (.aload_n 0, 1) := by decide +kernel
theorem d_Tb_put_20 : decode b_Tb_put 20 = .ok (.getfield 15, 3) := by decide +kernel
theorem d_Tb_put_23 : decode b_Tb_put 23 = .ok (.aload_n 0, 1) := by decide +kernel
theorem d_Tb_put_24 : decode b_Tb_put 24 = .ok (.getfield 19, 3) := by decide +kernel
theorem d_Tb_put_27 : decode b_Tb_put 27 = .ok (.iconst 1, 1) := by decide +kernel
theorem d_Tb_put_28 : decode b_Tb_put 28 = .ok (.isub, 1) := by decide +kernel
theorem d_Tb_put_29 : decode b_Tb_put 29 = .ok (.aload_n 0, 1) := by decide +kernel
theorem d_Tb_put_30 : decode b_Tb_put 30 = .ok (.getfield 9, 3) := by decide +kernel
theorem d_Tb_put_33 : decode b_Tb_put 33 = .ok (.imul, 1) := by decide +kernel
theorem d_Tb_put_34 : decode b_Tb_put 34 = .ok (.iload_n 1, 1) := by decide +kernel
theorem d_Tb_put_35 : decode b_Tb_put 35 = .ok (.iadd, 1) := by decide +kernel
theorem d_Tb_put_36 : decode b_Tb_put 36 = .ok (.lload_n 2, 1) := by decide +kernel
theorem d_Tb_put_37 : decode b_Tb_put 37 = .ok (.lastore, 1) := by decide +kernel
theorem d_Tb_put_38 : decode b_Tb_put 38 = .ok (.return_, 1) := by decide +kernel
abbrev b_Sr_characterSize : ByteArray := prog_5_method_19_code
abbrev y_Sr_characterSize : MethodName := ⟨"ModuleBytes$Source", "characterSize", "(I)I"⟩
def w_Sr_characterSize : List Cond := .code y_Sr_characterSize b_Sr_characterSize 7 (Option.some Jvm.ClassFile.FieldType.int) :: wAll
theorem d_Sr_characterSize_0 : decode b_Sr_characterSize 0 = .ok (.aload_n 0, 1) := by decide +kernel
theorem d_Sr_characterSize_1 : decode b_Sr_characterSize 1 = .ok (.getfield 9, 3) := by decide +kernel
theorem d_Sr_characterSize_4 : decode b_Sr_characterSize 4 = .ok (.iload_n 1, 1) := by decide +kernel
theorem d_Sr_characterSize_5 : decode b_Sr_characterSize 5 = .ok (.baload, 1) := by decide +kernel
theorem d_Sr_characterSize_6 : decode b_Sr_characterSize 6 = .ok (.sipush 255, 3) := by decide +kernel
theorem d_Sr_characterSize_9 : decode b_Sr_characterSize 9 = .ok (.iand, 1) := by decide +kernel
theorem d_Sr_characterSize_10 : decode b_Sr_characterSize 10 = .ok (.istore_n 2, 1) := by decide +kernel
theorem d_Sr_characterSize_11 : decode b_Sr_characterSize 11 = .ok (.iload_n 2, 1) := by decide +kernel
theorem d_Sr_characterSize_12 : decode b_Sr_characterSize 12 = .ok (.sipush 128, 3) := by decide +kernel
theorem d_Sr_characterSize_15 : decode b_Sr_characterSize 15 = .ok (.if_icmp .ge 5, 3) := by decide +kernel
theorem d_Sr_characterSize_18 : decode b_Sr_characterSize 18 = .ok (.iconst 1, 1) := by decide +kernel
theorem d_Sr_characterSize_19 : decode b_Sr_characterSize 19 = .ok (.ireturn, 1) := by decide +kernel
theorem d_Sr_characterSize_20 : decode b_Sr_characterSize 20 = .ok (.iload_n 2, 1) := by decide +kernel
theorem d_Sr_characterSize_21 : decode b_Sr_characterSize 21 = .ok (.sipush 240, 3) := by decide +kernel
theorem d_Sr_characterSize_24 : decode b_Sr_characterSize 24 = .ok (.if_icmp .lt 7, 3) := by decide +kernel
theorem d_Sr_characterSize_27 : decode b_Sr_characterSize 27 = .ok (.iconst 4, 1) := by decide +kernel
theorem d_Sr_characterSize_28 : decode b_Sr_characterSize 28 = .ok (.goto 15, 3) := by decide +kernel
theorem d_Sr_characterSize_31 : decode b_Sr_characterSize 31 = .ok (.iload_n 2, 1) := by decide +kernel
theorem d_Sr_characterSize_32 : decode b_Sr_characterSize 32 = .ok (.sipush 224, 3) := by decide +kernel
theorem d_Sr_characterSize_35 : decode b_Sr_characterSize 35 = .ok (.if_icmp .lt 7, 3) := by decide +kernel
theorem d_Sr_characterSize_38 : decode b_Sr_characterSize 38 = .ok (.iconst 3, 1) := by decide +kernel
theorem d_Sr_characterSize_39 : decode b_Sr_characterSize 39 = .ok (.goto 4, 3) := by decide +kernel
theorem d_Sr_characterSize_42 : decode b_Sr_characterSize 42 = .ok (.iconst 2, 1) := by decide +kernel
theorem d_Sr_characterSize_43 : decode b_Sr_characterSize 43 = .ok (.istore_n 3, 1) := by decide +kernel
theorem d_Sr_characterSize_44 : decode b_Sr_characterSize 44 = .ok (.iload_n 2, 1) := by decide +kernel
theorem d_Sr_characterSize_45 : decode b_Sr_characterSize 45 = .ok (.sipush 192, 3) := by decide +kernel
theorem d_Sr_characterSize_48 : decode b_Sr_characterSize 48 = .ok (.if_icmp .lt 20, 3) := by decide +kernel
theorem d_Sr_characterSize_51 : decode b_Sr_characterSize 51 = .ok (.iload_n 2, 1) := by decide +kernel
theorem d_Sr_characterSize_52 : decode b_Sr_characterSize 52 = .ok (.sipush 247, 3) := by decide +kernel
theorem d_Sr_characterSize_55 : decode b_Sr_characterSize 55 = .ok (.if_icmp .gt 13, 3) := by decide +kernel
theorem d_Sr_characterSize_58 : decode b_Sr_characterSize 58 = .ok (.iload_n 3, 1) := by decide +kernel
theorem d_Sr_characterSize_59 : decode b_Sr_characterSize 59 = .ok (.aload_n 0, 1) := by decide +kernel
theorem d_Sr_characterSize_60 : decode b_Sr_characterSize 60 = .ok (.getfield 15, 3) := by decide +kernel
theorem d_Sr_characterSize_63 : decode b_Sr_characterSize 63 = .ok (.iload_n 1, 1) := by decide +kernel
theorem d_Sr_characterSize_64 : decode b_Sr_characterSize 64 = .ok (.isub, 1) := by decide +kernel
theorem d_Sr_characterSize_65 : decode b_Sr_characterSize 65 = .ok (.if_icmp .le 5, 3) := by decide +kernel
theorem d_Sr_characterSize_68 : decode b_Sr_characterSize 68 = .ok (.iconst 0, 1) := by decide +kernel
theorem d_Sr_characterSize_69 : decode b_Sr_characterSize 69 = .ok (.ireturn, 1) := by decide +kernel
theorem d_Sr_characterSize_70 : decode b_Sr_characterSize 70 = .ok (.iload_n 2, 1) := by decide +kernel
theorem d_Sr_characterSize_71 : decode b_Sr_characterSize 71 = .ok (.bipush 127, 2) := by decide +kernel
theorem d_Sr_characterSize_73 : decode b_Sr_characterSize 73 = .ok (.iload_n 3, 1) := by decide +kernel
theorem d_Sr_characterSize_74 : decode b_Sr_characterSize 74 = .ok (.ishr, 1) := by decide +kernel
theorem d_Sr_characterSize_75 : decode b_Sr_characterSize 75 = .ok (.iand, 1) := by decide +kernel
theorem d_Sr_characterSize_76 : decode b_Sr_characterSize 76 = .ok (.istore 4, 2) := by decide +kernel
theorem d_Sr_characterSize_78 : decode b_Sr_characterSize 78 = .ok (.iconst 1, 1) := by decide +kernel
theorem d_Sr_characterSize_79 : decode b_Sr_characterSize 79 = .ok (.istore 5, 2) := by decide +kernel
theorem d_Sr_characterSize_81 : decode b_Sr_characterSize 81 = .ok (.iload 5, 2) := by decide +kernel
theorem d_Sr_characterSize_83 : decode b_Sr_characterSize 83 = .ok (.iload_n 3, 1) := by decide +kernel
theorem d_Sr_characterSize_84 : decode b_Sr_characterSize 84 = .ok (.if_icmp .ge 56, 3) := by decide +kernel
theorem d_Sr_characterSize_87 : decode b_Sr_characterSize 87 = .ok (.aload_n 0, 1) := by decide +kernel
theorem d_Sr_characterSize_88 : decode b_Sr_characterSize 88 = .ok (.getfield 9, 3) := by decide +kernel
theorem d_Sr_characterSize_91 : decode b_Sr_characterSize 91 = .ok (.iload_n 1, 1) := by decide +kernel
theorem d_Sr_characterSize_92 : decode b_Sr_characterSize 92 = .ok (.iload 5, 2) := by decide +kernel
theorem d_Sr_characterSize_94 : decode b_Sr_characterSize 94 = .ok (.iadd, 1) := by decide +kernel
theorem d_Sr_characterSize_95 : decode b_Sr_characterSize 95 = .ok (.baload, 1) := by decide +kernel
theorem d_Sr_characterSize_96 : decode b_Sr_characterSize 96 = .ok (.sipush 255, 3) := by decide +kernel
theorem d_Sr_characterSize_99 : decode b_Sr_characterSize 99 = .ok (.iand, 1) := by decide +kernel
theorem d_Sr_characterSize_100 : decode b_Sr_characterSize 100 = .ok (.istore 6, 2) := by decide +kernel
theorem d_Sr_characterSize_102 : decode b_Sr_characterSize 102 = .ok (.iload 6, 2) := by decide +kernel
theorem d_Sr_characterSize_104 : decode b_Sr_characterSize 104 = .ok (.sipush 128, 3) := by decide +kernel
theorem d_Sr_characterSize_107 : decode b_Sr_characterSize 107 = .ok (.if_icmp .lt 11, 3) := by decide +kernel
theorem d_Sr_characterSize_110 : decode b_Sr_characterSize 110 = .ok (.iload 6, 2) := by decide +kernel
theorem d_Sr_characterSize_112 : decode b_Sr_characterSize 112 = .ok (.sipush 191, 3) := by decide +kernel
theorem d_Sr_characterSize_115 : decode b_Sr_characterSize 115 = .ok (.if_icmp .le 5, 3) := by decide +kernel
theorem d_Sr_characterSize_118 : decode b_Sr_characterSize 118 = .ok (.iconst 0, 1) := by decide +kernel
theorem d_Sr_characterSize_119 : decode b_Sr_characterSize 119 = .ok (.ireturn, 1) := by decide +kernel
theorem d_Sr_characterSize_120 : decode b_Sr_characterSize 120 = .ok (.iload 4, 2) := by decide +kernel
theorem d_Sr_characterSize_122 : decode b_Sr_characterSize 122 = .ok (.bipush 64, 2) := by decide +kernel
theorem d_Sr_characterSize_124 : decode b_Sr_characterSize 124 = .ok (.imul, 1) := by decide +kernel
theorem d_Sr_characterSize_125 : decode b_Sr_characterSize 125 = .ok (.iload 6, 2) := by decide +kernel
theorem d_Sr_characterSize_127 : decode b_Sr_characterSize 127 = .ok (.sipush 128, 3) := by decide +kernel
theorem d_Sr_characterSize_130 : decode b_Sr_characterSize 130 = .ok (.isub, 1) := by decide +kernel
theorem d_Sr_characterSize_131 : decode b_Sr_characterSize 131 = .ok (.iadd, 1) := by decide +kernel
theorem d_Sr_characterSize_132 : decode b_Sr_characterSize 132 = .ok (.istore 4, 2) := by decide +kernel
theorem d_Sr_characterSize_134 : decode b_Sr_characterSize 134 = .ok (.iinc 5 1, 3) := by decide +kernel
theorem d_Sr_characterSize_137 : decode b_Sr_characterSize 137 = .ok (.goto (-56), 3) := by decide +kernel
theorem d_Sr_characterSize_140 : decode b_Sr_characterSize 140 = .ok (.iload 4, 2) := by decide +kernel
theorem d_Sr_characterSize_142 : decode b_Sr_characterSize 142 = .ok (.iload_n 3, 1) := by decide +kernel
theorem d_Sr_characterSize_143 : decode b_Sr_characterSize 143 = .ok (.invokestatic 79, 3) := by decide +kernel
theorem d_Sr_characterSize_146 : decode b_Sr_characterSize 146 = .ok (.ifCond .eq 7, 3) := by decide +kernel
theorem d_Sr_characterSize_149 : decode b_Sr_characterSize 149 = .ok (.iload_n 3, 1) := by decide +kernel
theorem d_Sr_characterSize_150 : decode b_Sr_characterSize 150 = .ok (.goto 4, 3) := by decide +kernel
theorem d_Sr_characterSize_153 : decode b_Sr_characterSize 153 = .ok (.iconst 0, 1) := by decide +kernel
theorem d_Sr_characterSize_154 : decode b_Sr_characterSize 154 = .ok (.ireturn, 1) := by decide +kernel
abbrev b_Sr_needsSize : ByteArray := prog_5_method_20_code
abbrev y_Sr_needsSize : MethodName := ⟨"ModuleBytes$Source", "needsSize", "(II)Z"⟩
def w_Sr_needsSize : List Cond := .code y_Sr_needsSize b_Sr_needsSize 2 (Option.some Jvm.ClassFile.FieldType.boolean) :: wAll
theorem d_Sr_needsSize_0 : decode b_Sr_needsSize 0 = .ok (.iload_n 1, 1) := by decide +kernel
theorem d_Sr_needsSize_1 : decode b_Sr_needsSize 1 = .ok (.lookupswitch 65 #[(2, 27), (3, 40)], 27) := by decide +kernel
theorem d_Sr_needsSize_28 : decode b_Sr_needsSize 28 = .ok (.iload_n 0, 1) := by decide +kernel
theorem d_Sr_needsSize_29 : decode b_Sr_needsSize 29 = .ok (.sipush 128, 3) := by decide +kernel
theorem d_Sr_needsSize_32 : decode b_Sr_needsSize 32 = .ok (.if_icmp .lt 7, 3) := by decide +kernel
theorem d_Sr_needsSize_35 : decode b_Sr_needsSize 35 = .ok (.iconst 1, 1) := by decide +kernel
theorem d_Sr_needsSize_36 : decode b_Sr_needsSize 36 = .ok (.goto 4, 3) := by decide +kernel
theorem d_Sr_needsSize_39 : decode b_Sr_needsSize 39 = .ok (.iconst 0, 1) := by decide +kernel
theorem d_Sr_needsSize_40 : decode b_Sr_needsSize 40 = .ok (.ireturn, 1) := by decide +kernel
theorem d_Sr_needsSize_41 : decode b_Sr_needsSize 41 = .ok (.iload_n 0, 1) := by decide +kernel
theorem d_Sr_needsSize_42 : decode b_Sr_needsSize 42 = .ok (.sipush 2048, 3) := by decide +kernel
theorem d_Sr_needsSize_45 : decode b_Sr_needsSize 45 = .ok (.if_icmp .lt 19, 3) := by decide +kernel
theorem d_Sr_needsSize_48 : decode b_Sr_needsSize 48 = .ok (.iload_n 0, 1) := by decide +kernel
theorem d_Sr_needsSize_49 : decode b_Sr_needsSize 49 = .ok (.ldc 83, 2) := by decide +kernel
theorem d_Sr_needsSize_51 : decode b_Sr_needsSize 51 = .ok (.if_icmp .lt 9, 3) := by decide +kernel
theorem d_Sr_needsSize_54 : decode b_Sr_needsSize 54 = .ok (.iload_n 0, 1) := by decide +kernel
theorem d_Sr_needsSize_55 : decode b_Sr_needsSize 55 = .ok (.ldc 84, 2) := by decide +kernel
theorem d_Sr_needsSize_57 : decode b_Sr_needsSize 57 = .ok (.if_icmp .le 7, 3) := by decide +kernel
theorem d_Sr_needsSize_60 : decode b_Sr_needsSize 60 = .ok (.iconst 1, 1) := by decide +kernel
theorem d_Sr_needsSize_61 : decode b_Sr_needsSize 61 = .ok (.goto 4, 3) := by decide +kernel
theorem d_Sr_needsSize_64 : decode b_Sr_needsSize 64 = .ok (.iconst 0, 1) := by decide +kernel
theorem d_Sr_needsSize_65 : decode b_Sr_needsSize 65 = .ok (.ireturn, 1) := by decide +kernel
theorem d_Sr_needsSize_66 : decode b_Sr_needsSize 66 = .ok (.iload_n 0, 1) := by decide +kernel
theorem d_Sr_needsSize_67 : decode b_Sr_needsSize 67 = .ok (.ldc 85, 2) := by decide +kernel
theorem d_Sr_needsSize_69 : decode b_Sr_needsSize 69 = .ok (.if_icmp .lt 13, 3) := by decide +kernel
theorem d_Sr_needsSize_72 : decode b_Sr_needsSize 72 = .ok (.iload_n 0, 1) := by decide +kernel
theorem d_Sr_needsSize_73 : decode b_Sr_needsSize 73 = .ok (.ldc 86, 2) := by decide +kernel
theorem d_Sr_needsSize_75 : decode b_Sr_needsSize 75 = .ok (.if_icmp .gt 7, 3) := by decide +kernel
theorem d_Sr_needsSize_78 : decode b_Sr_needsSize 78 = .ok (.iconst 1, 1) := by decide +kernel
theorem d_Sr_needsSize_79 : decode b_Sr_needsSize 79 = .ok (.goto 4, 3) := by decide +kernel
theorem d_Sr_needsSize_82 : decode b_Sr_needsSize 82 = .ok (.iconst 0, 1) := by decide +kernel
theorem d_Sr_needsSize_83 : decode b_Sr_needsSize 83 = .ok (.ireturn, 1) := by decide +kernel
abbrev b_Sr_functionMark : ByteArray := prog_5_method_14_code
abbrev y_Sr_functionMark : MethodName := ⟨"ModuleBytes$Source", "functionMark", "()V"⟩
def w_Sr_functionMark : List Cond := .code y_Sr_functionMark b_Sr_functionMark 1 (Option.none : Option Jvm.ClassFile.FieldType) :: wAll
theorem d_Sr_functionMark_0 : decode b_Sr_functionMark 0 = .ok (.aload_n 0, 1) := by decide +kernel
theorem d_Sr_functionMark_1 : decode b_Sr_functionMark 1 = .ok (.invokevirtual 51, 3) := by decide +kernel
theorem d_Sr_functionMark_4 : decode b_Sr_functionMark 4 = .ok (.bipush 96, 2) := by decide +kernel
theorem d_Sr_functionMark_6 : decode b_Sr_functionMark 6 = .ok (.if_icmp .eq 15, 3) := by decide +kernel
theorem d_Sr_functionMark_9 : decode b_Sr_functionMark 9 = .ok (.aload_n 0, 1) := by decide +kernel
theorem d_Sr_functionMark_10 : decode b_Sr_functionMark 10 = .ok (.bipush 8, 2) := by decide +kernel
theorem d_Sr_functionMark_12 : decode b_Sr_functionMark 12 = .ok (.aload_n 0, 1) := by decide +kernel
theorem d_Sr_functionMark_13 : decode b_Sr_functionMark 13 = .ok (.getfield 15, 3) := by decide +kernel
theorem d_Sr_functionMark_16 : decode b_Sr_functionMark 16 = .ok (.iconst 1, 1) := by decide +kernel
theorem d_Sr_functionMark_17 : decode b_Sr_functionMark 17 = .ok (.isub, 1) := by decide +kernel
theorem d_Sr_functionMark_18 : decode b_Sr_functionMark 18 = .ok (.invokevirtual 43, 3) := by decide +kernel
theorem d_Sr_functionMark_21 : decode b_Sr_functionMark 21 = .ok (.return_, 1) := by decide +kernel
abbrev b_Sr_valueType : ByteArray := prog_5_method_13_code
abbrev y_Sr_valueType : MethodName := ⟨"ModuleBytes$Source", "valueType", "()I"⟩
def w_Sr_valueType : List Cond := .code y_Sr_valueType b_Sr_valueType 2 (Option.some Jvm.ClassFile.FieldType.int) :: wAll
theorem d_Sr_valueType_0 : decode b_Sr_valueType 0 = .ok (.aload_n 0, 1) := by decide +kernel
theorem d_Sr_valueType_1 : decode b_Sr_valueType 1 = .ok (.invokevirtual 51, 3) := by decide +kernel
theorem d_Sr_valueType_4 : decode b_Sr_valueType 4 = .ok (.istore_n 1, 1) := by decide +kernel
theorem d_Sr_valueType_5 : decode b_Sr_valueType 5 = .ok (.iload_n 1, 1) := by decide +kernel
theorem d_Sr_valueType_6 : decode b_Sr_valueType 6 = .ok (.invokestatic 59, 3) := by decide +kernel
theorem d_Sr_valueType_9 : decode b_Sr_valueType 9 = .ok (.ifCond .ne 15, 3) := by decide +kernel
theorem d_Sr_valueType_12 : decode b_Sr_valueType 12 = .ok (.aload_n 0, 1) := by decide +kernel
theorem d_Sr_valueType_13 : decode b_Sr_valueType 13 = .ok (.bipush 8, 2) := by decide +kernel
theorem d_Sr_valueType_15 : decode b_Sr_valueType 15 = .ok (.aload_n 0, 1) := by decide +kernel
theorem d_Sr_valueType_16 : decode b_Sr_valueType 16 = .ok (.getfield 15, 3) := by decide +kernel
theorem d_Sr_valueType_19 : decode b_Sr_valueType 19 = .ok (.iconst 1, 1) := by decide +kernel
theorem d_Sr_valueType_20 : decode b_Sr_valueType 20 = .ok (.isub, 1) := by decide +kernel
theorem d_Sr_valueType_21 : decode b_Sr_valueType 21 = .ok (.invokevirtual 43, 3) := by decide +kernel
theorem d_Sr_valueType_24 : decode b_Sr_valueType 24 = .ok (.iload_n 1, 1) := by decide +kernel
theorem d_Sr_valueType_25 : decode b_Sr_valueType 25 = .ok (.ireturn, 1) := by decide +kernel
abbrev b_Sr_isValueType : ByteArray := prog_5_method_17_code
abbrev y_Sr_isValueType : MethodName := ⟨"ModuleBytes$Source", "isValueType", "(I)Z"⟩
def w_Sr_isValueType : List Cond := .code y_Sr_isValueType b_Sr_isValueType 1 (Option.some Jvm.ClassFile.FieldType.boolean) :: wAll
theorem d_Sr_isValueType_0 : decode b_Sr_isValueType 0 = .ok (.iload_n 0, 1) := by decide +kernel
theorem d_Sr_isValueType_1 : decode b_Sr_isValueType 1 = .ok (.bipush 124, 2) := by decide +kernel
theorem d_Sr_isValueType_3 : decode b_Sr_isValueType 3 = .ok (.if_icmp .lt 9, 3) := by decide +kernel
theorem d_Sr_isValueType_6 : decode b_Sr_isValueType 6 = .ok (.iload_n 0, 1) := by decide +kernel
theorem d_Sr_isValueType_7 : decode b_Sr_isValueType 7 = .ok (.bipush 127, 2) := by decide +kernel
theorem d_Sr_isValueType_9 : decode b_Sr_isValueType 9 = .ok (.if_icmp .le 15, 3) := by decide +kernel
theorem d_Sr_isValueType_12 : decode b_Sr_isValueType 12 = .ok (.iload_n 0, 1) := by decide +kernel
theorem d_Sr_isValueType_13 : decode b_Sr_isValueType 13 = .ok (.bipush 112, 2) := by decide +kernel
theorem d_Sr_isValueType_15 : decode b_Sr_isValueType 15 = .ok (.if_icmp .eq 9, 3) := by decide +kernel
theorem d_Sr_isValueType_18 : decode b_Sr_isValueType 18 = .ok (.iload_n 0, 1) := by decide +kernel
theorem d_Sr_isValueType_19 : decode b_Sr_isValueType 19 = .ok (.bipush 111, 2) := by decide +kernel
theorem d_Sr_isValueType_21 : decode b_Sr_isValueType 21 = .ok (.if_icmp .ne 7, 3) := by decide +kernel
theorem d_Sr_isValueType_24 : decode b_Sr_isValueType 24 = .ok (.iconst 1, 1) := by decide +kernel
theorem d_Sr_isValueType_25 : decode b_Sr_isValueType 25 = .ok (.goto 4, 3) := by decide +kernel
theorem d_Sr_isValueType_28 : decode b_Sr_isValueType 28 = .ok (.iconst 0, 1) := by decide +kernel
theorem d_Sr_isValueType_29 : decode b_Sr_isValueType 29 = .ok (.ireturn, 1) := by decide +kernel
abbrev b_Sr_choice : ByteArray := prog_5_method_10_code
abbrev y_Sr_choice : MethodName := ⟨"ModuleBytes$Source", "choice", "(I)I"⟩
def w_Sr_choice : List Cond := .code y_Sr_choice b_Sr_choice 3 (Option.some Jvm.ClassFile.FieldType.int) :: wAll
theorem d_Sr_choice_0 : decode b_Sr_choice 0 = .ok (.aload_n 0, 1) := by decide +kernel
theorem d_Sr_choice_1 : decode b_Sr_choice 1 = .ok (.invokevirtual 51, 3) := by decide +kernel
theorem d_Sr_choice_4 : decode b_Sr_choice 4 = .ok (.istore_n 2, 1) := by decide +kernel
theorem d_Sr_choice_5 : decode b_Sr_choice 5 = .ok (.iload_n 2, 1) := by decide +kernel
theorem d_Sr_choice_6 : decode b_Sr_choice 6 = .ok (.iload_n 1, 1) := by decide +kernel
theorem d_Sr_choice_7 : decode b_Sr_choice 7 = .ok (.if_icmp .le 15, 3) := by decide +kernel
theorem d_Sr_choice_10 : decode b_Sr_choice 10 = .ok (.aload_n 0, 1) := by decide +kernel
theorem d_Sr_choice_11 : decode b_Sr_choice 11 = .ok (.bipush 7, 2) := by decide +kernel
theorem d_Sr_choice_13 : decode b_Sr_choice 13 = .ok (.aload_n 0, 1) := by decide +kernel
theorem d_Sr_choice_14 : decode b_Sr_choice 14 = .ok (.getfield 15, 3) := by decide +kernel
theorem d_Sr_choice_17 : decode b_Sr_choice 17 = .ok (.iconst 1, 1) := by decide +kernel
theorem d_Sr_choice_18 : decode b_Sr_choice 18 = .ok (.isub, 1) := by decide +kernel
theorem d_Sr_choice_19 : decode b_Sr_choice 19 = .ok (.invokevirtual 43, 3) := by decide +kernel
theorem d_Sr_choice_22 : decode b_Sr_choice 22 = .ok (.iload_n 2, 1) := by decide +kernel
theorem d_Sr_choice_23 : decode b_Sr_choice 23 = .ok (.ireturn, 1) := by decide +kernel
abbrev b_Sr_referenceType : ByteArray := prog_5_method_12_code
abbrev y_Sr_referenceType : MethodName := ⟨"ModuleBytes$Source", "referenceType", "()I"⟩
def w_Sr_referenceType : List Cond := .code y_Sr_referenceType b_Sr_referenceType 2 (Option.some Jvm.ClassFile.FieldType.int) :: wAll
theorem d_Sr_referenceType_0 : decode b_Sr_referenceType 0 = .ok (.aload_n 0, 1) := by decide +kernel
theorem d_Sr_referenceType_1 : decode b_Sr_referenceType 1 = .ok (.invokevirtual 51, 3) := by decide +kernel
theorem d_Sr_referenceType_4 : decode b_Sr_referenceType 4 = .ok (.istore_n 1, 1) := by decide +kernel
theorem d_Sr_referenceType_5 : decode b_Sr_referenceType 5 = .ok (.iload_n 1, 1) := by decide +kernel
theorem d_Sr_referenceType_6 : decode b_Sr_referenceType 6 = .ok (.invokestatic 55, 3) := by decide +kernel
theorem d_Sr_referenceType_9 : decode b_Sr_referenceType 9 = .ok (.ifCond .ne 15, 3) := by decide +kernel
theorem d_Sr_referenceType_12 : decode b_Sr_referenceType 12 = .ok (.aload_n 0, 1) := by decide +kernel
theorem d_Sr_referenceType_13 : decode b_Sr_referenceType 13 = .ok (.bipush 8, 2) := by decide +kernel
theorem d_Sr_referenceType_15 : decode b_Sr_referenceType 15 = .ok (.aload_n 0, 1) := by decide +kernel
theorem d_Sr_referenceType_16 : decode b_Sr_referenceType 16 = .ok (.getfield 15, 3) := by decide +kernel
theorem d_Sr_referenceType_19 : decode b_Sr_referenceType 19 = .ok (.iconst 1, 1) := by decide +kernel
theorem d_Sr_referenceType_20 : decode b_Sr_referenceType 20 = .ok (.isub, 1) := by decide +kernel
theorem d_Sr_referenceType_21 : decode b_Sr_referenceType 21 = .ok (.invokevirtual 43, 3) := by decide +kernel
theorem d_Sr_referenceType_24 : decode b_Sr_referenceType 24 = .ok (.iload_n 1, 1) := by decide +kernel
theorem d_Sr_referenceType_25 : decode b_Sr_referenceType 25 = .ok (.ireturn, 1) := by decide +kernel
abbrev b_Sr_isReferenceType : ByteArray := prog_5_method_16_code
abbrev y_Sr_isReferenceType : MethodName := ⟨"ModuleBytes$Source", "isReferenceType", "(I)Z"⟩
def w_Sr_isReferenceType : List Cond := .code y_Sr_isReferenceType b_Sr_isReferenceType 1 (Option.some Jvm.ClassFile.FieldType.boolean) :: wAll
theorem d_Sr_isReferenceType_0 : decode b_Sr_isReferenceType 0 = .ok (.iload_n 0, 1) := by decide +kernel
theorem d_Sr_isReferenceType_1 : decode b_Sr_isReferenceType 1 = .ok (.bipush 112, 2) := by decide +kernel
theorem d_Sr_isReferenceType_3 : decode b_Sr_isReferenceType 3 = .ok (.if_icmp .eq 9, 3) := by decide +kernel
theorem d_Sr_isReferenceType_6 : decode b_Sr_isReferenceType 6 = .ok (.iload_n 0, 1) := by decide +kernel
theorem d_Sr_isReferenceType_7 : decode b_Sr_isReferenceType 7 = .ok (.bipush 111, 2) := by decide +kernel
theorem d_Sr_isReferenceType_9 : decode b_Sr_isReferenceType 9 = .ok (.if_icmp .ne 7, 3) := by decide +kernel
theorem d_Sr_isReferenceType_12 : decode b_Sr_isReferenceType 12 = .ok (.iconst 1, 1) := by decide +kernel
theorem d_Sr_isReferenceType_13 : decode b_Sr_isReferenceType 13 = .ok (.goto 4, 3) := by decide +kernel
theorem d_Sr_isReferenceType_16 : decode b_Sr_isReferenceType 16 = .ok (.iconst 0, 1) := by decide +kernel
theorem d_Sr_isReferenceType_17 : decode b_Sr_isReferenceType 17 = .ok (.ireturn, 1) := by decide +kernel
abbrev b_Xr_readExpression : ByteArray := prog_3_method_2_code
abbrev y_Xr_readExpression : MethodName := ⟨"ModuleBytes$ExpressionReader", "readExpression", "()V"⟩
def w_Xr_readExpression : List Cond := .code y_Xr_readExpression b_Xr_readExpression 5 (Option.none : Option Jvm.ClassFile.FieldType) :: wAll
theorem d_Xr_readExpression_0 : decode b_Xr_readExpression 0 = .ok (.aload_n 0, 1) := by decide +kernel
theorem d_Xr_readExpression_1 : decode b_Xr_readExpression 1 = .ok (.iconst 0, 1) := by decide +kernel
theorem d_Xr_readExpression_2 : decode b_Xr_readExpression 2 = .ok (.putfield 19, 3) := by decide +kernel
theorem d_Xr_readExpression_5 : decode b_Xr_readExpression 5 = .ok (.iconst 1, 1) := by decide +kernel
theorem d_Xr_readExpression_6 : decode b_Xr_readExpression 6 = .ok (.istore_n 1, 1) := by decide +kernel
theorem d_Xr_readExpression_7 : decode b_Xr_readExpression 7 = .ok (.iconst 0, 1) := by decide +kernel
theorem d_Xr_readExpression_8 : decode b_Xr_readExpression 8 = .ok (.istore_n 2, 1) := by decide +kernel
theorem d_Xr_readExpression_9 : decode b_Xr_readExpression 9 = .ok (.iload_n 1, 1) := by decide +kernel
theorem d_Xr_readExpression_10 : decode b_Xr_readExpression 10 = .ok (.ifCond .eq 174, 3) := by decide +kernel
theorem d_Xr_readExpression_13 : decode b_Xr_readExpression 13 = .ok (.iload_n 2, 1) := by decide +kernel
theorem d_Xr_readExpression_14 : decode b_Xr_readExpression 14 = .ok (.sipush 2000, 3) := by decide +kernel
theorem d_Xr_readExpression_17 : decode b_Xr_readExpression 17 = .ok (.if_icmp .ge 167, 3) := by decide +kernel
theorem d_Xr_readExpression_20 : decode b_Xr_readExpression 20 = .ok (.aload_n 0, 1) := by decide +kernel
theorem d_Xr_readExpression_21 : decode b_Xr_readExpression 21 = .ok (.getfield 9, 3) := by decide +kernel
theorem d_Xr_readExpression_24 : decode b_Xr_readExpression 24 = .ok (.getfield 27, 3) := by decide +kernel
theorem d_Xr_readExpression_27 : decode b_Xr_readExpression 27 = .ok (.istore_n 3, 1) := by decide +kernel
theorem d_Xr_readExpression_28 : decode b_Xr_readExpression 28 = .ok (.aload_n 0, 1) := by decide +kernel
theorem d_Xr_readExpression_29 : decode b_Xr_readExpression 29 = .ok (.getfield 9, 3) := by decide +kernel
theorem d_Xr_readExpression_32 : decode b_Xr_readExpression 32 = .ok (.invokevirtual 32, 3) := by decide +kernel
theorem d_Xr_readExpression_35 : decode b_Xr_readExpression 35 = .ok (.istore 4, 2) := by decide +kernel
theorem d_Xr_readExpression_37 : decode b_Xr_readExpression 37 = .ok (.iload 4, 2) := by decide +kernel
theorem d_Xr_readExpression_39 : decode b_Xr_readExpression 39 = .ok (.lookupswitch 129 #[(2, 57), (3, 57), (4, 57), (5, 82), (11, 90), (252, 116)], 57) := by decide +kernel
theorem d_Xr_readExpression_96 : decode b_Xr_readExpression 96 = .ok (.aload_n 0, 1) := by decide +kernel
theorem d_Xr_readExpression_97 : decode b_Xr_readExpression 97 = .ok (.getfield 9, 3) := by decide +kernel
theorem d_Xr_readExpression_100 : decode b_Xr_readExpression 100 = .ok (.invokevirtual 36, 3) := by decide +kernel
theorem d_Xr_readExpression_103 : decode b_Xr_readExpression 103 = .ok (.aload_n 0, 1) := by decide +kernel
theorem d_Xr_readExpression_104 : decode b_Xr_readExpression 104 = .ok (.iload 4, 2) := by decide +kernel
theorem d_Xr_readExpression_106 : decode b_Xr_readExpression 106 = .ok (.iconst 4, 1) := by decide +kernel
theorem d_Xr_readExpression_107 : decode b_Xr_readExpression 107 = .ok (.if_icmp .ne 7, 3) := by decide +kernel
theorem d_Xr_readExpression_110 : decode b_Xr_readExpression 110 = .ok (.iconst 1, 1) := by decide +kernel
theorem d_Xr_readExpression_111 : decode b_Xr_readExpression 111 = .ok (.goto 4, 3) := by decide +kernel
theorem d_Xr_readExpression_114 : decode b_Xr_readExpression 114 = .ok (.iconst 0, 1) := by decide +kernel
theorem d_Xr_readExpression_115 : decode b_Xr_readExpression 115 = .ok (.invokevirtual 39, 3) := by decide +kernel
theorem d_Xr_readExpression_118 : decode b_Xr_readExpression 118 = .ok (.goto 60, 3) := by decide +kernel
theorem d_Xr_readExpression_121 : decode b_Xr_readExpression 121 = .ok (.aload_n 0, 1) := by decide +kernel
theorem d_Xr_readExpression_122 : decode b_Xr_readExpression 122 = .ok (.iload_n 3, 1) := by decide +kernel
theorem d_Xr_readExpression_123 : decode b_Xr_readExpression 123 = .ok (.invokevirtual 43, 3) := by decide +kernel
theorem d_Xr_readExpression_126 : decode b_Xr_readExpression 126 = .ok (.goto 52, 3) := by decide +kernel
theorem d_Xr_readExpression_129 : decode b_Xr_readExpression 129 = .ok (.aload_n 0, 1) := by decide +kernel
theorem d_Xr_readExpression_130 : decode b_Xr_readExpression 130 = .ok (.getfield 19, 3) := by decide +kernel
theorem d_Xr_readExpression_133 : decode b_Xr_readExpression 133 = .ok (.ifCond .le 7, 3) := by decide +kernel
theorem d_Xr_readExpression_136 : decode b_Xr_readExpression 136 = .ok (.iconst 1, 1) := by decide +kernel
theorem d_Xr_readExpression_137 : decode b_Xr_readExpression 137 = .ok (.goto 4, 3) := by decide +kernel
theorem d_Xr_readExpression_140 : decode b_Xr_readExpression 140 = .ok (.iconst 0, 1) := by decide +kernel
theorem d_Xr_readExpression_141 : decode b_Xr_readExpression 141 = .ok (.istore_n 1, 1) := by decide +kernel
theorem d_Xr_readExpression_142 : decode b_Xr_readExpression 142 = .ok (.aload_n 0, 1) := by decide +kernel
theorem d_Xr_readExpression_143 : decode b_Xr_readExpression 143 = .ok (.dup, 1) := by decide +kernel
theorem d_Xr_readExpression_144 : decode b_Xr_readExpression 144 = .ok (.getfield 19, 3) := by decide +kernel
theorem d_Xr_readExpression_147 : decode b_Xr_readExpression 147 = .ok (.iconst 1, 1) := by decide +kernel
theorem d_Xr_readExpression_148 : decode b_Xr_readExpression 148 = .ok (.isub, 1) := by decide +kernel
theorem d_Xr_readExpression_149 : decode b_Xr_readExpression 149 = .ok (.putfield 19, 3) := by decide +kernel
theorem d_Xr_readExpression_152 : decode b_Xr_readExpression 152 = .ok (.goto 26, 3) := by decide +kernel
theorem d_Xr_readExpression_155 : decode b_Xr_readExpression 155 = .ok (.aload_n 0, 1) := by decide +kernel
theorem d_Xr_readExpression_156 : decode b_Xr_readExpression 156 = .ok (.aload_n 0, 1) := by decide +kernel
theorem d_Xr_readExpression_157 : decode b_Xr_readExpression 157 = .ok (.iload_n 3, 1) := by decide +kernel
theorem d_Xr_readExpression_158 : decode b_Xr_readExpression 158 = .ok (.invokevirtual 47, 3) := by decide +kernel
theorem d_Xr_readExpression_161 : decode b_Xr_readExpression 161 = .ok (.iload_n 3, 1) := by decide +kernel
theorem d_Xr_readExpression_162 : decode b_Xr_readExpression 162 = .ok (.invokevirtual 51, 3) := by decide +kernel
theorem d_Xr_readExpression_165 : decode b_Xr_readExpression 165 = .ok (.goto 13, 3) := by decide +kernel
theorem d_Xr_readExpression_168 : decode b_Xr_readExpression 168 = .ok (.aload_n 0, 1) := by decide +kernel
theorem d_Xr_readExpression_169 : decode b_Xr_readExpression 169 = .ok (.iload 4, 2) := by decide +kernel
theorem d_Xr_readExpression_171 : decode b_Xr_readExpression 171 = .ok (.invokestatic 55, 3) := by decide +kernel
theorem d_Xr_readExpression_174 : decode b_Xr_readExpression 174 = .ok (.iload_n 3, 1) := by decide +kernel
theorem d_Xr_readExpression_175 : decode b_Xr_readExpression 175 = .ok (.invokevirtual 51, 3) := by decide +kernel
theorem d_Xr_readExpression_178 : decode b_Xr_readExpression 178 = .ok (.iinc 2 1, 3) := by decide +kernel
theorem d_Xr_readExpression_181 : decode b_Xr_readExpression 181 = .ok (.goto (-172), 3) := by decide +kernel
theorem d_Xr_readExpression_184 : decode b_Xr_readExpression 184 = .ok (.return_, 1) := by decide +kernel
abbrev b_Sr_blockType : ByteArray := prog_5_method_15_code
abbrev y_Sr_blockType : MethodName := ⟨"ModuleBytes$Source", "blockType", "()V"⟩
def w_Sr_blockType : List Cond := .code y_Sr_blockType b_Sr_blockType 5 (Option.none : Option Jvm.ClassFile.FieldType) :: wAll
theorem d_Sr_blockType_0 : decode b_Sr_blockType 0 = .ok (.aload_n 0, 1) := by decide +kernel
theorem d_Sr_blockType_1 : decode b_Sr_blockType 1 = .ok (.getfield 15, 3) := by decide +kernel
theorem d_Sr_blockType_4 : decode b_Sr_blockType 4 = .ok (.istore_n 1, 1) := by decide +kernel
theorem d_Sr_blockType_5 : decode b_Sr_blockType 5 = .ok (.aload_n 0, 1) := by decide +kernel
theorem d_Sr_blockType_6 : decode b_Sr_blockType 6 = .ok (.bipush 33, 2) := by decide +kernel
theorem d_Sr_blockType_8 : decode b_Sr_blockType 8 = .ok (.invokevirtual 62, 3) := by decide +kernel
theorem d_Sr_blockType_11 : decode b_Sr_blockType 11 = .ok (.istore_n 2, 1) := by decide +kernel
theorem d_Sr_blockType_12 : decode b_Sr_blockType 12 = .ok (.iload_n 2, 1) := by decide +kernel
theorem d_Sr_blockType_13 : decode b_Sr_blockType 13 = .ok (.ifCond .ne 4, 3) := by decide +kernel
theorem d_Sr_blockType_16 : decode b_Sr_blockType 16 = .ok (.return_, 1) := by decide +kernel
theorem d_Sr_blockType_17 : decode b_Sr_blockType 17 = .ok (.iload_n 1, 1) := by decide +kernel
theorem d_Sr_blockType_18 : decode b_Sr_blockType 18 = .ok (.aload_n 0, 1) := by decide +kernel
theorem d_Sr_blockType_19 : decode b_Sr_blockType 19 = .ok (.getfield 19, 3) := by decide +kernel
theorem d_Sr_blockType_22 : decode b_Sr_blockType 22 = .ok (.if_icmp .ge 16, 3) := by decide +kernel
theorem d_Sr_blockType_25 : decode b_Sr_blockType 25 = .ok (.aload_n 0, 1) := by decide +kernel
theorem d_Sr_blockType_26 : decode b_Sr_blockType 26 = .ok (.getfield 9, 3) := by decide +kernel
theorem d_Sr_blockType_29 : decode b_Sr_blockType 29 = .ok (.iload_n 1, 1) := by decide +kernel
theorem d_Sr_blockType_30 : decode b_Sr_blockType 30 = .ok (.baload, 1) := by decide +kernel
theorem d_Sr_blockType_31 : decode b_Sr_blockType 31 = .ok (.sipush 255, 3) := by decide +kernel
theorem d_Sr_blockType_34 : decode b_Sr_blockType 34 = .ok (.iand, 1) := by decide +kernel
theorem d_Sr_blockType_35 : decode b_Sr_blockType 35 = .ok (.goto 4, 3) := by decide +kernel
theorem d_Sr_blockType_38 : decode b_Sr_blockType 38 = .ok (.iconst 0, 1) := by decide +kernel
theorem d_Sr_blockType_39 : decode b_Sr_blockType 39 = .ok (.istore_n 3, 1) := by decide +kernel
theorem d_Sr_blockType_40 : decode b_Sr_blockType 40 = .ok (.aload_n 0, 1) := by decide +kernel
theorem d_Sr_blockType_41 : decode b_Sr_blockType 41 = .ok (.getfield 15, 3) := by decide +kernel
theorem d_Sr_blockType_44 : decode b_Sr_blockType 44 = .ok (.iload_n 1, 1) := by decide +kernel
theorem d_Sr_blockType_45 : decode b_Sr_blockType 45 = .ok (.iconst 1, 1) := by decide +kernel
theorem d_Sr_blockType_46 : decode b_Sr_blockType 46 = .ok (.iadd, 1) := by decide +kernel
theorem d_Sr_blockType_47 : decode b_Sr_blockType 47 = .ok (.if_icmp .ne 7, 3) := by decide +kernel
theorem d_Sr_blockType_50 : decode b_Sr_blockType 50 = .ok (.iconst 1, 1) := by decide +kernel
theorem d_Sr_blockType_51 : decode b_Sr_blockType 51 = .ok (.goto 4, 3) := by decide +kernel
theorem d_Sr_blockType_54 : decode b_Sr_blockType 54 = .ok (.iconst 0, 1) := by decide +kernel
theorem d_Sr_blockType_55 : decode b_Sr_blockType 55 = .ok (.istore 4, 2) := by decide +kernel
theorem d_Sr_blockType_57 : decode b_Sr_blockType 57 = .ok (.iload 4, 2) := by decide +kernel
theorem d_Sr_blockType_59 : decode b_Sr_blockType 59 = .ok (.ifCond .eq 16, 3) := by decide +kernel
theorem d_Sr_blockType_62 : decode b_Sr_blockType 62 = .ok (.iload_n 3, 1) := by decide +kernel
theorem d_Sr_blockType_63 : decode b_Sr_blockType 63 = .ok (.bipush 64, 2) := by decide +kernel
theorem d_Sr_blockType_65 : decode b_Sr_blockType 65 = .ok (.if_icmp .eq 17, 3) := by decide +kernel
theorem d_Sr_blockType_68 : decode b_Sr_blockType 68 = .ok (.iload_n 3, 1) := by decide +kernel
theorem d_Sr_blockType_69 : decode b_Sr_blockType 69 = .ok (.invokestatic 59, 3) := by decide +kernel
theorem d_Sr_blockType_72 : decode b_Sr_blockType 72 = .ok (.ifCond .ne 10, 3) := by decide +kernel
theorem d_Sr_blockType_75 : decode b_Sr_blockType 75 = .ok (.aload_n 0, 1) := by decide +kernel
theorem d_Sr_blockType_76 : decode b_Sr_blockType 76 = .ok (.bipush 8, 2) := by decide +kernel
theorem d_Sr_blockType_78 : decode b_Sr_blockType 78 = .ok (.iload_n 1, 1) := by decide +kernel
theorem d_Sr_blockType_79 : decode b_Sr_blockType 79 = .ok (.invokevirtual 43, 3) := by decide +kernel
theorem d_Sr_blockType_82 : decode b_Sr_blockType 82 = .ok (.return_, 1) := by decide +kernel
abbrev b_Sr_signedBelowZero : ByteArray := prog_5_method_9_code
abbrev y_Sr_signedBelowZero : MethodName := ⟨"ModuleBytes$Source", "signedBelowZero", "(I)Z"⟩
def w_Sr_signedBelowZero : List Cond := .code y_Sr_signedBelowZero b_Sr_signedBelowZero 5 (Option.some Jvm.ClassFile.FieldType.boolean) :: wAll
theorem d_Sr_signedBelowZero_0 : decode b_Sr_signedBelowZero 0 = .ok (.iconst 0, 1) := by decide +kernel
theorem d_Sr_signedBelowZero_1 : decode b_Sr_signedBelowZero 1 = .ok (.istore_n 2, 1) := by decide +kernel
theorem d_Sr_signedBelowZero_2 : decode b_Sr_signedBelowZero 2 = .ok (.iload_n 1, 1) := by decide +kernel
theorem d_Sr_signedBelowZero_3 : decode b_Sr_signedBelowZero 3 = .ok (.istore_n 3, 1) := by decide +kernel
theorem d_Sr_signedBelowZero_4 : decode b_Sr_signedBelowZero 4 = .ok (.iload_n 3, 1) := by decide +kernel
theorem d_Sr_signedBelowZero_5 : decode b_Sr_signedBelowZero 5 = .ok (.ifCond .le 64, 3) := by decide +kernel
theorem d_Sr_signedBelowZero_8 : decode b_Sr_signedBelowZero 8 = .ok (.aload_n 0, 1) := by decide +kernel
theorem d_Sr_signedBelowZero_9 : decode b_Sr_signedBelowZero 9 = .ok (.invokevirtual 51, 3) := by decide +kernel
theorem d_Sr_signedBelowZero_12 : decode b_Sr_signedBelowZero 12 = .ok (.istore_n 2, 1) := by decide +kernel
theorem d_Sr_signedBelowZero_13 : decode b_Sr_signedBelowZero 13 = .ok (.iload_n 3, 1) := by decide +kernel
theorem d_Sr_signedBelowZero_14 : decode b_Sr_signedBelowZero 14 = .ok (.bipush 7, 2) := by decide +kernel
theorem d_Sr_signedBelowZero_16 : decode b_Sr_signedBelowZero 16 = .ok (.if_icmp .gt 37, 3) := by decide +kernel
theorem d_Sr_signedBelowZero_19 : decode b_Sr_signedBelowZero 19 = .ok (.iload_n 2, 1) := by decide +kernel
theorem d_Sr_signedBelowZero_20 : decode b_Sr_signedBelowZero 20 = .ok (.iload_n 3, 1) := by decide +kernel
theorem d_Sr_signedBelowZero_21 : decode b_Sr_signedBelowZero 21 = .ok (.iconst 1, 1) := by decide +kernel
theorem d_Sr_signedBelowZero_22 : decode b_Sr_signedBelowZero 22 = .ok (.isub, 1) := by decide +kernel
theorem d_Sr_signedBelowZero_23 : decode b_Sr_signedBelowZero 23 = .ok (.ishr, 1) := by decide +kernel
theorem d_Sr_signedBelowZero_24 : decode b_Sr_signedBelowZero 24 = .ok (.istore 4, 2) := by decide +kernel
theorem d_Sr_signedBelowZero_26 : decode b_Sr_signedBelowZero 26 = .ok (.iload 4, 2) := by decide +kernel
theorem d_Sr_signedBelowZero_28 : decode b_Sr_signedBelowZero 28 = .ok (.ifCond .eq 25, 3) := by decide +kernel
theorem d_Sr_signedBelowZero_31 : decode b_Sr_signedBelowZero 31 = .ok (.iload 4, 2) := by decide +kernel
theorem d_Sr_signedBelowZero_33 : decode b_Sr_signedBelowZero 33 = .ok (.bipush 127, 2) := by decide +kernel
theorem d_Sr_signedBelowZero_35 : decode b_Sr_signedBelowZero 35 = .ok (.iload_n 3, 1) := by decide +kernel
theorem d_Sr_signedBelowZero_36 : decode b_Sr_signedBelowZero 36 = .ok (.iconst 1, 1) := by decide +kernel
theorem d_Sr_signedBelowZero_37 : decode b_Sr_signedBelowZero 37 = .ok (.isub, 1) := by decide +kernel
theorem d_Sr_signedBelowZero_38 : decode b_Sr_signedBelowZero 38 = .ok (.ishr, 1) := by decide +kernel
theorem d_Sr_signedBelowZero_39 : decode b_Sr_signedBelowZero 39 = .ok (.if_icmp .eq 14, 3) := by decide +kernel
theorem d_Sr_signedBelowZero_42 : decode b_Sr_signedBelowZero 42 = .ok (.aload_n 0, 1) := by decide +kernel
theorem d_Sr_signedBelowZero_43 : decode b_Sr_signedBelowZero 43 = .ok (.iconst 4, 1) := by decide +kernel
theorem d_Sr_signedBelowZero_44 : decode b_Sr_signedBelowZero 44 = .ok (.aload_n 0, 1) := by decide +kernel
theorem d_Sr_signedBelowZero_45 : decode b_Sr_signedBelowZero 45 = .ok (.getfield 15, 3) := by decide +kernel
theorem d_Sr_signedBelowZero_48 : decode b_Sr_signedBelowZero 48 = .ok (.iconst 1, 1) := by decide +kernel
theorem d_Sr_signedBelowZero_49 : decode b_Sr_signedBelowZero 49 = .ok (.isub, 1) := by decide +kernel
theorem d_Sr_signedBelowZero_50 : decode b_Sr_signedBelowZero 50 = .ok (.invokevirtual 43, 3) := by decide +kernel
theorem d_Sr_signedBelowZero_53 : decode b_Sr_signedBelowZero 53 = .ok (.iload_n 2, 1) := by decide +kernel
theorem d_Sr_signedBelowZero_54 : decode b_Sr_signedBelowZero 54 = .ok (.sipush 128, 3) := by decide +kernel
theorem d_Sr_signedBelowZero_57 : decode b_Sr_signedBelowZero 57 = .ok (.if_icmp .ge 6, 3) := by decide +kernel
theorem d_Sr_signedBelowZero_60 : decode b_Sr_signedBelowZero 60 = .ok (.goto 9, 3) := by decide +kernel
theorem d_Sr_signedBelowZero_63 : decode b_Sr_signedBelowZero 63 = .ok (.iinc 3 (-7), 3) := by decide +kernel
theorem d_Sr_signedBelowZero_66 : decode b_Sr_signedBelowZero 66 = .ok (.goto (-62), 3) := by decide +kernel
theorem d_Sr_signedBelowZero_69 : decode b_Sr_signedBelowZero 69 = .ok (.iload_n 2, 1) := by decide +kernel
theorem d_Sr_signedBelowZero_70 : decode b_Sr_signedBelowZero 70 = .ok (.bipush 64, 2) := by decide +kernel
theorem d_Sr_signedBelowZero_72 : decode b_Sr_signedBelowZero 72 = .ok (.iand, 1) := by decide +kernel
theorem d_Sr_signedBelowZero_73 : decode b_Sr_signedBelowZero 73 = .ok (.ifCond .eq 7, 3) := by decide +kernel
theorem d_Sr_signedBelowZero_76 : decode b_Sr_signedBelowZero 76 = .ok (.iconst 1, 1) := by decide +kernel
theorem d_Sr_signedBelowZero_77 : decode b_Sr_signedBelowZero 77 = .ok (.goto 4, 3) := by decide +kernel
theorem d_Sr_signedBelowZero_80 : decode b_Sr_signedBelowZero 80 = .ok (.iconst 0, 1) := by decide +kernel
theorem d_Sr_signedBelowZero_81 : decode b_Sr_signedBelowZero 81 = .ok (.ireturn, 1) := by decide +kernel
abbrev b_Xr_openBlock : ByteArray := prog_3_method_3_code
abbrev y_Xr_openBlock : MethodName := ⟨"ModuleBytes$ExpressionReader", "openBlock", "(Z)V"⟩
def w_Xr_openBlock : List Cond := .code y_Xr_openBlock b_Xr_openBlock 2 (Option.none : Option Jvm.ClassFile.FieldType) :: wAll
theorem d_Xr_openBlock_0 : decode b_Xr_openBlock 0 = .ok (.aload_n 0, 1) := by decide +kernel
theorem d_Xr_openBlock_1 : decode b_Xr_openBlock 1 = .ok (.getfield 19, 3) := by decide +kernel
theorem d_Xr_openBlock_4 : decode b_Xr_openBlock 4 = .ok (.ifCond .lt 25, 3) := by decide +kernel
theorem d_Xr_openBlock_7 : decode b_Xr_openBlock 7 = .ok (.aload_n 0, 1) := by decide +kernel
theorem d_Xr_openBlock_8 : decode b_Xr_openBlock 8 = .ok (.getfield 19, 3) := by decide +kernel
theorem d_Xr_openBlock_11 : decode b_Xr_openBlock 11 = .ok (.aload_n 0, 1) := by decide +kernel
theorem d_Xr_openBlock_12 : decode b_Xr_openBlock 12 = .ok (.getfield 15, 3) := by decide +kernel
theorem d_Xr_openBlock_15 : decode b_Xr_openBlock 15 = .ok (.arraylength, 1) := by decide +kernel
theorem d_Xr_openBlock_16 : decode b_Xr_openBlock 16 = .ok (.if_icmp .ge 13, 3) := by decide +kernel
theorem d_Xr_openBlock_19 : decode b_Xr_openBlock 19 = .ok (.aload_n 0, 1) := by decide +kernel
theorem d_Xr_openBlock_20 : decode b_Xr_openBlock 20 = .ok (.getfield 15, 3) := by decide +kernel
theorem d_Xr_openBlock_23 : decode b_Xr_openBlock 23 = .ok (.aload_n 0, 1) := by decide +kernel
theorem d_Xr_openBlock_24 : decode b_Xr_openBlock 24 = .ok (.getfield 19, 3) := by decide +kernel
theorem d_Xr_openBlock_27 : decode b_Xr_openBlock 27 = .ok (.iload_n 1, 1) := by decide +kernel
theorem d_Xr_openBlock_28 : decode b_Xr_openBlock 28 = .ok (.bastore, 1) := by decide +kernel
theorem d_Xr_openBlock_29 : decode b_Xr_openBlock 29 = .ok (.aload_n 0, 1) := by decide +kernel
theorem d_Xr_openBlock_30 : decode b_Xr_openBlock 30 = .ok (.dup, 1) := by decide +kernel
theorem d_Xr_openBlock_31 : decode b_Xr_openBlock 31 = .ok (.getfield 19, 3) := by decide +kernel
theorem d_Xr_openBlock_34 : decode b_Xr_openBlock 34 = .ok (.iconst 1, 1) := by decide +kernel
theorem d_Xr_openBlock_35 : decode b_Xr_openBlock 35 = .ok (.iadd, 1) := by decide +kernel
theorem d_Xr_openBlock_36 : decode b_Xr_openBlock 36 = .ok (.putfield 19, 3) := by decide +kernel
theorem d_Xr_openBlock_39 : decode b_Xr_openBlock 39 = .ok (.return_, 1) := by decide +kernel
abbrev b_Xr_turnToElse : ByteArray := prog_3_method_4_code
abbrev y_Xr_turnToElse : MethodName := ⟨"ModuleBytes$ExpressionReader", "turnToElse", "(I)V"⟩
def w_Xr_turnToElse : List Cond := .code y_Xr_turnToElse b_Xr_turnToElse 3 (Option.none : Option Jvm.ClassFile.FieldType) :: wAll
theorem d_Xr_turnToElse_0 : decode b_Xr_turnToElse 0 = .ok (.aload_n 0, 1) := by decide +kernel
theorem d_Xr_turnToElse_1 : decode b_Xr_turnToElse 1 = .ok (.getfield 19, 3) := by decide +kernel
theorem d_Xr_turnToElse_4 : decode b_Xr_turnToElse 4 = .ok (.iconst 1, 1) := by decide +kernel
theorem d_Xr_turnToElse_5 : decode b_Xr_turnToElse 5 = .ok (.isub, 1) := by decide +kernel
theorem d_Xr_turnToElse_6 : decode b_Xr_turnToElse 6 = .ok (.istore_n 2, 1) := by decide +kernel
theorem d_Xr_turnToElse_7 : decode b_Xr_turnToElse 7 = .ok (.iload_n 2, 1) := by decide +kernel
theorem d_Xr_turnToElse_8 : decode b_Xr_turnToElse 8 = .ok (.ifCond .lt 21, 3) := by decide +kernel
theorem d_Xr_turnToElse_11 : decode b_Xr_turnToElse 11 = .ok (.iload_n 2, 1) := by decide +kernel
theorem d_Xr_turnToElse_12 : decode b_Xr_turnToElse 12 = .ok (.aload_n 0, 1) := by decide +kernel
theorem d_Xr_turnToElse_13 : decode b_Xr_turnToElse 13 = .ok (.getfield 15, 3) := by decide +kernel
theorem d_Xr_turnToElse_16 : decode b_Xr_turnToElse 16 = .ok (.arraylength, 1) := by decide +kernel
theorem d_Xr_turnToElse_17 : decode b_Xr_turnToElse 17 = .ok (.if_icmp .ge 12, 3) := by decide +kernel
theorem d_Xr_turnToElse_20 : decode b_Xr_turnToElse 20 = .ok (.aload_n 0, 1) := by decide +kernel
theorem d_Xr_turnToElse_21 : decode b_Xr_turnToElse 21 = .ok (.getfield 15, 3) := by decide +kernel
theorem d_Xr_turnToElse_24 : decode b_Xr_turnToElse 24 = .ok (.iload_n 2, 1) := by decide +kernel
theorem d_Xr_turnToElse_25 : decode b_Xr_turnToElse 25 = .ok (.baload, 1) := by decide +kernel
theorem d_Xr_turnToElse_26 : decode b_Xr_turnToElse 26 = .ok (.ifCond .ne 14, 3) := by decide +kernel
theorem d_Xr_turnToElse_29 : decode b_Xr_turnToElse 29 = .ok (.aload_n 0, 1) := by decide +kernel
theorem d_Xr_turnToElse_30 : decode b_Xr_turnToElse 30 = .ok (.getfield 9, 3) := by decide +kernel
theorem d_Xr_turnToElse_33 : decode b_Xr_turnToElse 33 = .ok (.bipush 10, 2) := by decide +kernel
theorem d_Xr_turnToElse_35 : decode b_Xr_turnToElse 35 = .ok (.iload_n 1, 1) := by decide +kernel
theorem d_Xr_turnToElse_36 : decode b_Xr_turnToElse 36 = .ok (.invokevirtual 58, 3) := by decide +kernel
theorem d_Xr_turnToElse_39 : decode b_Xr_turnToElse 39 = .ok (.return_, 1) := by decide +kernel
theorem d_Xr_turnToElse_40 : decode b_Xr_turnToElse 40 = .ok (.aload_n 0, 1) := by decide +kernel
theorem d_Xr_turnToElse_41 : decode b_Xr_turnToElse 41 = .ok (.getfield 15, 3) := by decide +kernel
theorem d_Xr_turnToElse_44 : decode b_Xr_turnToElse 44 = .ok (.iload_n 2, 1) := by decide +kernel
theorem d_Xr_turnToElse_45 : decode b_Xr_turnToElse 45 = .ok (.iconst 0, 1) := by decide +kernel
theorem d_Xr_turnToElse_46 : decode b_Xr_turnToElse 46 = .ok (.bastore, 1) := by decide +kernel
theorem d_Xr_turnToElse_47 : decode b_Xr_turnToElse 47 = .ok (.return_, 1) := by decide +kernel
abbrev b_Xr_shapeBehind252 : ByteArray := prog_3_method_6_code
abbrev y_Xr_shapeBehind252 : MethodName := ⟨"ModuleBytes$ExpressionReader", "shapeBehind252", "(I)I"⟩
def w_Xr_shapeBehind252 : List Cond := .code y_Xr_shapeBehind252 b_Xr_shapeBehind252 4 (Option.some Jvm.ClassFile.FieldType.int) :: wAll
theorem d_Xr_shapeBehind252_0 : decode b_Xr_shapeBehind252 0 = .ok (.aload_n 0, 1) := by decide +kernel
theorem d_Xr_shapeBehind252_1 : decode b_Xr_shapeBehind252 1 = .ok (.getfield 9, 3) := by decide +kernel
theorem d_Xr_shapeBehind252_4 : decode b_Xr_shapeBehind252 4 = .ok (.invokevirtual 61, 3) := by decide +kernel
theorem d_Xr_shapeBehind252_7 : decode b_Xr_shapeBehind252 7 = .ok (.lstore_n 2, 1) := by decide +kernel
theorem d_Xr_shapeBehind252_8 : decode b_Xr_shapeBehind252 8 = .ok (.lload_n 2, 1) := by decide +kernel
theorem d_Xr_shapeBehind252_9 : decode b_Xr_shapeBehind252 9 = .ok (.ldc2_w 65, 3) := by decide +kernel
theorem d_Xr_shapeBehind252_12 : decode b_Xr_shapeBehind252 12 = .ok (.lcmp, 1) := by decide +kernel
theorem d_Xr_shapeBehind252_13 : decode b_Xr_shapeBehind252 13 = .ok (.ifCond .eq 11, 3) := by decide +kernel
theorem d_Xr_shapeBehind252_16 : decode b_Xr_shapeBehind252 16 = .ok (.lload_n 2, 1) := by decide +kernel
theorem d_Xr_shapeBehind252_17 : decode b_Xr_shapeBehind252 17 = .ok (.ldc2_w 67, 3) := by decide +kernel
theorem d_Xr_shapeBehind252_20 : decode b_Xr_shapeBehind252 20 = .ok (.lcmp, 1) := by decide +kernel
theorem d_Xr_shapeBehind252_21 : decode b_Xr_shapeBehind252 21 = .ok (.ifCond .ne 20, 3) := by decide +kernel
theorem d_Xr_shapeBehind252_24 : decode b_Xr_shapeBehind252 24 = .ok (.aload_n 0, 1) := by decide +kernel
theorem d_Xr_shapeBehind252_25 : decode b_Xr_shapeBehind252 25 = .ok (.getfield 23, 3) := by decide +kernel
theorem d_Xr_shapeBehind252_28 : decode b_Xr_shapeBehind252 28 = .ok (.ifCond .ne 13, 3) := by decide +kernel
theorem d_Xr_shapeBehind252_31 : decode b_Xr_shapeBehind252 31 = .ok (.aload_n 0, 1) := by decide +kernel
theorem d_Xr_shapeBehind252_32 : decode b_Xr_shapeBehind252 32 = .ok (.getfield 9, 3) := by decide +kernel
theorem d_Xr_shapeBehind252_35 : decode b_Xr_shapeBehind252 35 = .ok (.bipush 11, 2) := by decide +kernel
theorem d_Xr_shapeBehind252_37 : decode b_Xr_shapeBehind252 37 = .ok (.iload_n 1, 1) := by decide +kernel
theorem d_Xr_shapeBehind252_38 : decode b_Xr_shapeBehind252 38 = .ok (.invokevirtual 58, 3) := by decide +kernel
theorem d_Xr_shapeBehind252_41 : decode b_Xr_shapeBehind252 41 = .ok (.lload_n 2, 1) := by decide +kernel
theorem d_Xr_shapeBehind252_42 : decode b_Xr_shapeBehind252 42 = .ok (.ldc2_w 69, 3) := by decide +kernel
theorem d_Xr_shapeBehind252_45 : decode b_Xr_shapeBehind252 45 = .ok (.lcmp, 1) := by decide +kernel
theorem d_Xr_shapeBehind252_46 : decode b_Xr_shapeBehind252 46 = .ok (.ifCond .gt 5, 3) := by decide +kernel
theorem d_Xr_shapeBehind252_49 : decode b_Xr_shapeBehind252 49 = .ok (.iconst 1, 1) := by decide +kernel
theorem d_Xr_shapeBehind252_50 : decode b_Xr_shapeBehind252 50 = .ok (.ireturn, 1) := by decide +kernel
theorem d_Xr_shapeBehind252_51 : decode b_Xr_shapeBehind252 51 = .ok (.lload_n 2, 1) := by decide +kernel
theorem d_Xr_shapeBehind252_52 : decode b_Xr_shapeBehind252 52 = .ok (.ldc2_w 71, 3) := by decide +kernel
theorem d_Xr_shapeBehind252_55 : decode b_Xr_shapeBehind252 55 = .ok (.lcmp, 1) := by decide +kernel
theorem d_Xr_shapeBehind252_56 : decode b_Xr_shapeBehind252 56 = .ok (.ifCond .le 5, 3) := by decide +kernel
theorem d_Xr_shapeBehind252_59 : decode b_Xr_shapeBehind252 59 = .ok (.iconst 0, 1) := by decide +kernel
theorem d_Xr_shapeBehind252_60 : decode b_Xr_shapeBehind252 60 = .ok (.ireturn, 1) := by decide +kernel
theorem d_Xr_shapeBehind252_61 : decode b_Xr_shapeBehind252 61 = .ok (.lload_n 2, 1) := by decide +kernel
theorem d_Xr_shapeBehind252_62 : decode b_Xr_shapeBehind252 62 = .ok (.l2i, 1) := by decide +kernel
theorem d_Xr_shapeBehind252_63 : decode b_Xr_shapeBehind252 63 = .ok (.tableswitch 52 8 14 #[41, 52, 44, 47, 50, 52, 50], 41) := by decide +kernel
theorem d_Xr_shapeBehind252_104 : decode b_Xr_shapeBehind252 104 = .ok (.bipush 8, 2) := by decide +kernel
theorem d_Xr_shapeBehind252_106 : decode b_Xr_shapeBehind252 106 = .ok (.ireturn, 1) := by decide +kernel
theorem d_Xr_shapeBehind252_107 : decode b_Xr_shapeBehind252 107 = .ok (.bipush 7, 2) := by decide +kernel
theorem d_Xr_shapeBehind252_109 : decode b_Xr_shapeBehind252 109 = .ok (.ireturn, 1) := by decide +kernel
theorem d_Xr_shapeBehind252_110 : decode b_Xr_shapeBehind252 110 = .ok (.bipush 6, 2) := by decide +kernel
theorem d_Xr_shapeBehind252_112 : decode b_Xr_shapeBehind252 112 = .ok (.ireturn, 1) := by decide +kernel
theorem d_Xr_shapeBehind252_113 : decode b_Xr_shapeBehind252 113 = .ok (.iconst 3, 1) := by decide +kernel
theorem d_Xr_shapeBehind252_114 : decode b_Xr_shapeBehind252 114 = .ok (.ireturn, 1) := by decide +kernel
theorem d_Xr_shapeBehind252_115 : decode b_Xr_shapeBehind252 115 = .ok (.iconst 2, 1) := by decide +kernel
theorem d_Xr_shapeBehind252_116 : decode b_Xr_shapeBehind252 116 = .ok (.ireturn, 1) := by decide +kernel
abbrev b_Xr_readOperands : ByteArray := prog_3_method_7_code
abbrev y_Xr_readOperands : MethodName := ⟨"ModuleBytes$ExpressionReader", "readOperands", "(II)V"⟩
def w_Xr_readOperands : List Cond := .code y_Xr_readOperands b_Xr_readOperands 5 (Option.none : Option Jvm.ClassFile.FieldType) :: wAll
theorem d_Xr_readOperands_0 : decode b_Xr_readOperands 0 = .ok (.iload_n 1, 1) := by decide +kernel
theorem d_Xr_readOperands_1 : decode b_Xr_readOperands 1 = .ok (.tableswitch 280 1 13 #[67, 70, 81, 100, 132, 164, 176, 197, 217, 230, 243, 256, 269], 67) := by decide +kernel
theorem d_Xr_readOperands_68 : decode b_Xr_readOperands 68 = .ok (.goto 223, 3) := by decide +kernel
theorem d_Xr_readOperands_71 : decode b_Xr_readOperands 71 = .ok (.aload_n 0, 1) := by decide +kernel
theorem d_Xr_readOperands_72 : decode b_Xr_readOperands 72 = .ok (.getfield 9, 3) := by decide +kernel
theorem d_Xr_readOperands_75 : decode b_Xr_readOperands 75 = .ok (.invokevirtual 61, 3) := by decide +kernel
theorem d_Xr_readOperands_78 : decode b_Xr_readOperands 78 = .ok (.pop2, 1) := by decide +kernel
theorem d_Xr_readOperands_79 : decode b_Xr_readOperands 79 = .ok (.goto 212, 3) := by decide +kernel
theorem d_Xr_readOperands_82 : decode b_Xr_readOperands 82 = .ok (.aload_n 0, 1) := by decide +kernel
theorem d_Xr_readOperands_83 : decode b_Xr_readOperands 83 = .ok (.getfield 9, 3) := by decide +kernel
theorem d_Xr_readOperands_86 : decode b_Xr_readOperands 86 = .ok (.invokevirtual 61, 3) := by decide +kernel
theorem d_Xr_readOperands_89 : decode b_Xr_readOperands 89 = .ok (.pop2, 1) := by decide +kernel
theorem d_Xr_readOperands_90 : decode b_Xr_readOperands 90 = .ok (.aload_n 0, 1) := by decide +kernel
theorem d_Xr_readOperands_91 : decode b_Xr_readOperands 91 = .ok (.getfield 9, 3) := by decide +kernel
theorem d_Xr_readOperands_94 : decode b_Xr_readOperands 94 = .ok (.invokevirtual 61, 3) := by decide +kernel
theorem d_Xr_readOperands_97 : decode b_Xr_readOperands 97 = .ok (.pop2, 1) := by decide +kernel
theorem d_Xr_readOperands_98 : decode b_Xr_readOperands 98 = .ok (.goto 193, 3) := by decide +kernel
theorem d_Xr_readOperands_101 : decode b_Xr_readOperands 101 = .ok (.aload_n 0, 1) := by decide +kernel
theorem d_Xr_readOperands_102 : decode b_Xr_readOperands 102 = .ok (.getfield 9, 3) := by decide +kernel
theorem d_Xr_readOperands_105 : decode b_Xr_readOperands 105 = .ok (.invokevirtual 61, 3) := by decide +kernel
theorem d_Xr_readOperands_108 : decode b_Xr_readOperands 108 = .ok (.lstore_n 3, 1) := by decide +kernel
theorem d_Xr_readOperands_109 : decode b_Xr_readOperands 109 = .ok (.lload_n 3, 1) := by decide +kernel
theorem d_Xr_readOperands_110 : decode b_Xr_readOperands 110 = .ok (.lconst 0, 1) := by decide +kernel
theorem d_Xr_readOperands_111 : decode b_Xr_readOperands 111 = .ok (.lcmp, 1) := by decide +kernel
theorem d_Xr_readOperands_112 : decode b_Xr_readOperands 112 = .ok (.ifCond .lt 18, 3) := by decide +kernel
theorem d_Xr_readOperands_115 : decode b_Xr_readOperands 115 = .ok (.aload_n 0, 1) := by decide +kernel
theorem d_Xr_readOperands_116 : decode b_Xr_readOperands 116 = .ok (.getfield 9, 3) := by decide +kernel
theorem d_Xr_readOperands_119 : decode b_Xr_readOperands 119 = .ok (.invokevirtual 61, 3) := by decide +kernel
theorem d_Xr_readOperands_122 : decode b_Xr_readOperands 122 = .ok (.pop2, 1) := by decide +kernel
theorem d_Xr_readOperands_123 : decode b_Xr_readOperands 123 = .ok (.lload_n 3, 1) := by decide +kernel
theorem d_Xr_readOperands_124 : decode b_Xr_readOperands 124 = .ok (.lconst 1, 1) := by decide +kernel
theorem d_Xr_readOperands_125 : decode b_Xr_readOperands 125 = .ok (.lsub, 1) := by decide +kernel
theorem d_Xr_readOperands_126 : decode b_Xr_readOperands 126 = .ok (.lstore_n 3, 1) := by decide +kernel
theorem d_Xr_readOperands_127 : decode b_Xr_readOperands 127 = .ok (.goto (-18), 3) := by decide +kernel
theorem d_Xr_readOperands_130 : decode b_Xr_readOperands 130 = .ok (.goto 161, 3) := by decide +kernel
theorem d_Xr_readOperands_133 : decode b_Xr_readOperands 133 = .ok (.aload_n 0, 1) := by decide +kernel
theorem d_Xr_readOperands_134 : decode b_Xr_readOperands 134 = .ok (.getfield 9, 3) := by decide +kernel
theorem d_Xr_readOperands_137 : decode b_Xr_readOperands 137 = .ok (.invokevirtual 61, 3) := by decide +kernel
theorem d_Xr_readOperands_140 : decode b_Xr_readOperands 140 = .ok (.lstore_n 3, 1) := by decide +kernel
theorem d_Xr_readOperands_141 : decode b_Xr_readOperands 141 = .ok (.lload_n 3, 1) := by decide +kernel
theorem d_Xr_readOperands_142 : decode b_Xr_readOperands 142 = .ok (.lconst 0, 1) := by decide +kernel
theorem d_Xr_readOperands_143 : decode b_Xr_readOperands 143 = .ok (.lcmp, 1) := by decide +kernel
theorem d_Xr_readOperands_144 : decode b_Xr_readOperands 144 = .ok (.ifCond .le 18, 3) := by decide +kernel
theorem d_Xr_readOperands_147 : decode b_Xr_readOperands 147 = .ok (.aload_n 0, 1) := by decide +kernel
theorem d_Xr_readOperands_148 : decode b_Xr_readOperands 148 = .ok (.getfield 9, 3) := by decide +kernel
theorem d_Xr_readOperands_151 : decode b_Xr_readOperands 151 = .ok (.invokevirtual 73, 3) := by decide +kernel
theorem d_Xr_readOperands_154 : decode b_Xr_readOperands 154 = .ok (.pop, 1) := by decide +kernel
theorem d_Xr_readOperands_155 : decode b_Xr_readOperands 155 = .ok (.lload_n 3, 1) := by decide +kernel
theorem d_Xr_readOperands_156 : decode b_Xr_readOperands 156 = .ok (.lconst 1, 1) := by decide +kernel
theorem d_Xr_readOperands_157 : decode b_Xr_readOperands 157 = .ok (.lsub, 1) := by decide +kernel
theorem d_Xr_readOperands_158 : decode b_Xr_readOperands 158 = .ok (.lstore_n 3, 1) := by decide +kernel
theorem d_Xr_readOperands_159 : decode b_Xr_readOperands 159 = .ok (.goto (-18), 3) := by decide +kernel
theorem d_Xr_readOperands_162 : decode b_Xr_readOperands 162 = .ok (.goto 129, 3) := by decide +kernel
theorem d_Xr_readOperands_165 : decode b_Xr_readOperands 165 = .ok (.aload_n 0, 1) := by decide +kernel
theorem d_Xr_readOperands_166 : decode b_Xr_readOperands 166 = .ok (.getfield 9, 3) := by decide +kernel
theorem d_Xr_readOperands_169 : decode b_Xr_readOperands 169 = .ok (.iconst 0, 1) := by decide +kernel
theorem d_Xr_readOperands_170 : decode b_Xr_readOperands 170 = .ok (.invokevirtual 76, 3) := by decide +kernel
theorem d_Xr_readOperands_173 : decode b_Xr_readOperands 173 = .ok (.pop, 1) := by decide +kernel
theorem d_Xr_readOperands_174 : decode b_Xr_readOperands 174 = .ok (.goto 117, 3) := by decide +kernel
theorem d_Xr_readOperands_177 : decode b_Xr_readOperands 177 = .ok (.aload_n 0, 1) := by decide +kernel
theorem d_Xr_readOperands_178 : decode b_Xr_readOperands 178 = .ok (.getfield 9, 3) := by decide +kernel
theorem d_Xr_readOperands_181 : decode b_Xr_readOperands 181 = .ok (.iconst 0, 1) := by decide +kernel
theorem d_Xr_readOperands_182 : decode b_Xr_readOperands 182 = .ok (.invokevirtual 76, 3) := by decide +kernel
theorem d_Xr_readOperands_185 : decode b_Xr_readOperands 185 = .ok (.pop, 1) := by decide +kernel
theorem d_Xr_readOperands_186 : decode b_Xr_readOperands 186 = .ok (.aload_n 0, 1) := by decide +kernel
theorem d_Xr_readOperands_187 : decode b_Xr_readOperands 187 = .ok (.getfield 9, 3) := by decide +kernel
theorem d_Xr_readOperands_190 : decode b_Xr_readOperands 190 = .ok (.iconst 0, 1) := by decide +kernel
theorem d_Xr_readOperands_191 : decode b_Xr_readOperands 191 = .ok (.invokevirtual 76, 3) := by decide +kernel
theorem d_Xr_readOperands_194 : decode b_Xr_readOperands 194 = .ok (.pop, 1) := by decide +kernel
theorem d_Xr_readOperands_195 : decode b_Xr_readOperands 195 = .ok (.goto 96, 3) := by decide +kernel
theorem d_Xr_readOperands_198 : decode b_Xr_readOperands 198 = .ok (.aload_n 0, 1) := by decide +kernel
theorem d_Xr_readOperands_199 : decode b_Xr_readOperands 199 = .ok (.getfield 9, 3) := by decide +kernel
theorem d_Xr_readOperands_202 : decode b_Xr_readOperands 202 = .ok (.invokevirtual 61, 3) := by decide +kernel
theorem d_Xr_readOperands_205 : decode b_Xr_readOperands 205 = .ok (.pop2, 1) := by decide +kernel
theorem d_Xr_readOperands_206 : decode b_Xr_readOperands 206 = .ok (.aload_n 0, 1) := by decide +kernel
theorem d_Xr_readOperands_207 : decode b_Xr_readOperands 207 = .ok (.getfield 9, 3) := by decide +kernel
theorem d_Xr_readOperands_210 : decode b_Xr_readOperands 210 = .ok (.iconst 0, 1) := by decide +kernel
theorem d_Xr_readOperands_211 : decode b_Xr_readOperands 211 = .ok (.invokevirtual 76, 3) := by decide +kernel
theorem d_Xr_readOperands_214 : decode b_Xr_readOperands 214 = .ok (.pop, 1) := by decide +kernel
theorem d_Xr_readOperands_215 : decode b_Xr_readOperands 215 = .ok (.goto 76, 3) := by decide +kernel
theorem d_Xr_readOperands_218 : decode b_Xr_readOperands 218 = .ok (.aload_n 0, 1) := by decide +kernel
theorem d_Xr_readOperands_219 : decode b_Xr_readOperands 219 = .ok (.getfield 9, 3) := by decide +kernel
theorem d_Xr_readOperands_222 : decode b_Xr_readOperands 222 = .ok (.bipush 32, 2) := by decide +kernel
theorem d_Xr_readOperands_224 : decode b_Xr_readOperands 224 = .ok (.invokevirtual 79, 3) := by decide +kernel
theorem d_Xr_readOperands_227 : decode b_Xr_readOperands 227 = .ok (.pop, 1) := by decide +kernel
theorem d_Xr_readOperands_228 : decode b_Xr_readOperands 228 = .ok (.goto 63, 3) := by decide +kernel
theorem d_Xr_readOperands_231 : decode b_Xr_readOperands 231 = .ok (.aload_n 0, 1) := by decide +kernel
theorem d_Xr_readOperands_232 : decode b_Xr_readOperands 232 = .ok (.getfield 9, 3) := by decide +kernel
theorem d_Xr_readOperands_235 : decode b_Xr_readOperands 235 = .ok (.bipush 64, 2) := by decide +kernel
theorem d_Xr_readOperands_237 : decode b_Xr_readOperands 237 = .ok (.invokevirtual 79, 3) := by decide +kernel
theorem d_Xr_readOperands_240 : decode b_Xr_readOperands 240 = .ok (.pop, 1) := by decide +kernel
theorem d_Xr_readOperands_241 : decode b_Xr_readOperands 241 = .ok (.goto 50, 3) := by decide +kernel
theorem d_Xr_readOperands_244 : decode b_Xr_readOperands 244 = .ok (.aload_n 0, 1) := by decide +kernel
theorem d_Xr_readOperands_245 : decode b_Xr_readOperands 245 = .ok (.getfield 9, 3) := by decide +kernel
theorem d_Xr_readOperands_248 : decode b_Xr_readOperands 248 = .ok (.ldc2_w 83, 3) := by decide +kernel
theorem d_Xr_readOperands_251 : decode b_Xr_readOperands 251 = .ok (.invokevirtual 85, 3) := by decide +kernel
theorem d_Xr_readOperands_254 : decode b_Xr_readOperands 254 = .ok (.goto 37, 3) := by decide +kernel
theorem d_Xr_readOperands_257 : decode b_Xr_readOperands 257 = .ok (.aload_n 0, 1) := by decide +kernel
theorem d_Xr_readOperands_258 : decode b_Xr_readOperands 258 = .ok (.getfield 9, 3) := by decide +kernel
theorem d_Xr_readOperands_261 : decode b_Xr_readOperands 261 = .ok (.ldc2_w 65, 3) := by decide +kernel
theorem d_Xr_readOperands_264 : decode b_Xr_readOperands 264 = .ok (.invokevirtual 85, 3) := by decide +kernel
theorem d_Xr_readOperands_267 : decode b_Xr_readOperands 267 = .ok (.goto 24, 3) := by decide +kernel
theorem d_Xr_readOperands_270 : decode b_Xr_readOperands 270 = .ok (.aload_n 0, 1) := by decide +kernel
theorem d_Xr_readOperands_271 : decode b_Xr_readOperands 271 = .ok (.getfield 9, 3) := by decide +kernel
theorem d_Xr_readOperands_274 : decode b_Xr_readOperands 274 = .ok (.invokevirtual 89, 3) := by decide +kernel
theorem d_Xr_readOperands_277 : decode b_Xr_readOperands 277 = .ok (.pop, 1) := by decide +kernel
theorem d_Xr_readOperands_278 : decode b_Xr_readOperands 278 = .ok (.goto 13, 3) := by decide +kernel
theorem d_Xr_readOperands_281 : decode b_Xr_readOperands 281 = .ok (.aload_n 0, 1) := by decide +kernel
theorem d_Xr_readOperands_282 : decode b_Xr_readOperands 282 = .ok (.getfield 9, 3) := by decide +kernel
theorem d_Xr_readOperands_285 : decode b_Xr_readOperands 285 = .ok (.bipush 10, 2) := by decide +kernel
theorem d_Xr_readOperands_287 : decode b_Xr_readOperands 287 = .ok (.iload_n 2, 1) := by decide +kernel
theorem d_Xr_readOperands_288 : decode b_Xr_readOperands 288 = .ok (.invokevirtual 58, 3) := by decide +kernel
theorem d_Xr_readOperands_291 : decode b_Xr_readOperands 291 = .ok (.return_, 1) := by decide +kernel
abbrev b_Xr_shapeOf : ByteArray := prog_3_method_5_code
abbrev y_Xr_shapeOf : MethodName := ⟨"ModuleBytes$ExpressionReader", "shapeOf", "(I)I"⟩
def w_Xr_shapeOf : List Cond := .code y_Xr_shapeOf b_Xr_shapeOf 1 (Option.some Jvm.ClassFile.FieldType.int) :: wAll
theorem d_Xr_shapeOf_0 : decode b_Xr_shapeOf 0 = .ok (.iload_n 0, 1) := by decide +kernel
theorem d_Xr_shapeOf_1 : decode b_Xr_shapeOf 1 = .ok (.bipush 69, 2) := by decide +kernel
theorem d_Xr_shapeOf_3 : decode b_Xr_shapeOf 3 = .ok (.if_icmp .lt 12, 3) := by decide +kernel
theorem d_Xr_shapeOf_6 : decode b_Xr_shapeOf 6 = .ok (.iload_n 0, 1) := by decide +kernel
theorem d_Xr_shapeOf_7 : decode b_Xr_shapeOf 7 = .ok (.sipush 196, 3) := by decide +kernel
theorem d_Xr_shapeOf_10 : decode b_Xr_shapeOf 10 = .ok (.if_icmp .gt 5, 3) := by decide +kernel
theorem d_Xr_shapeOf_13 : decode b_Xr_shapeOf 13 = .ok (.iconst 1, 1) := by decide +kernel
theorem d_Xr_shapeOf_14 : decode b_Xr_shapeOf 14 = .ok (.ireturn, 1) := by decide +kernel
theorem d_Xr_shapeOf_15 : decode b_Xr_shapeOf 15 = .ok (.iload_n 0, 1) := by decide +kernel
theorem d_Xr_shapeOf_16 : decode b_Xr_shapeOf 16 = .ok (.bipush 40, 2) := by decide +kernel
theorem d_Xr_shapeOf_18 : decode b_Xr_shapeOf 18 = .ok (.if_icmp .lt 11, 3) := by decide +kernel
theorem d_Xr_shapeOf_21 : decode b_Xr_shapeOf 21 = .ok (.iload_n 0, 1) := by decide +kernel
theorem d_Xr_shapeOf_22 : decode b_Xr_shapeOf 22 = .ok (.bipush 62, 2) := by decide +kernel
theorem d_Xr_shapeOf_24 : decode b_Xr_shapeOf 24 = .ok (.if_icmp .gt 5, 3) := by decide +kernel
theorem d_Xr_shapeOf_27 : decode b_Xr_shapeOf 27 = .ok (.iconst 3, 1) := by decide +kernel
theorem d_Xr_shapeOf_28 : decode b_Xr_shapeOf 28 = .ok (.ireturn, 1) := by decide +kernel
theorem d_Xr_shapeOf_29 : decode b_Xr_shapeOf 29 = .ok (.iload_n 0, 1) := by decide +kernel
theorem d_Xr_shapeOf_30 : decode b_Xr_shapeOf 30 = .ok (.bipush 32, 2) := by decide +kernel
theorem d_Xr_shapeOf_32 : decode b_Xr_shapeOf 32 = .ok (.if_icmp .lt 11, 3) := by decide +kernel
theorem d_Xr_shapeOf_35 : decode b_Xr_shapeOf 35 = .ok (.iload_n 0, 1) := by decide +kernel
theorem d_Xr_shapeOf_36 : decode b_Xr_shapeOf 36 = .ok (.bipush 38, 2) := by decide +kernel
theorem d_Xr_shapeOf_38 : decode b_Xr_shapeOf 38 = .ok (.if_icmp .gt 5, 3) := by decide +kernel
theorem d_Xr_shapeOf_41 : decode b_Xr_shapeOf 41 = .ok (.iconst 2, 1) := by decide +kernel
theorem d_Xr_shapeOf_42 : decode b_Xr_shapeOf 42 = .ok (.ireturn, 1) := by decide +kernel
theorem d_Xr_shapeOf_43 : decode b_Xr_shapeOf 43 = .ok (.iload_n 0, 1) := by decide +kernel
theorem d_Xr_shapeOf_44 : decode b_Xr_shapeOf 44 = .ok (.lookupswitch 200 #[(0, 172), (1, 172), (12, 174), (13, 174), (14, 176), (15, 172), (16, 174), (17, 178), (26, 172), (27, 172), (28, 180), (63, 182), (64, 182), (65, 185), (66, 188), (67, 191), (68, 194), (208, 197), (209, 172), (210, 174)], 172) := by decide +kernel
theorem d_Xr_shapeOf_216 : decode b_Xr_shapeOf 216 = .ok (.iconst 1, 1) := by decide +kernel
theorem d_Xr_shapeOf_217 : decode b_Xr_shapeOf 217 = .ok (.ireturn, 1) := by decide +kernel
theorem d_Xr_shapeOf_218 : decode b_Xr_shapeOf 218 = .ok (.iconst 2, 1) := by decide +kernel
theorem d_Xr_shapeOf_219 : decode b_Xr_shapeOf 219 = .ok (.ireturn, 1) := by decide +kernel
theorem d_Xr_shapeOf_220 : decode b_Xr_shapeOf 220 = .ok (.iconst 4, 1) := by decide +kernel
theorem d_Xr_shapeOf_221 : decode b_Xr_shapeOf 221 = .ok (.ireturn, 1) := by decide +kernel
theorem d_Xr_shapeOf_222 : decode b_Xr_shapeOf 222 = .ok (.iconst 3, 1) := by decide +kernel
theorem d_Xr_shapeOf_223 : decode b_Xr_shapeOf 223 = .ok (.ireturn, 1) := by decide +kernel
theorem d_Xr_shapeOf_224 : decode b_Xr_shapeOf 224 = .ok (.iconst 5, 1) := by decide +kernel
theorem d_Xr_shapeOf_225 : decode b_Xr_shapeOf 225 = .ok (.ireturn, 1) := by decide +kernel
theorem d_Xr_shapeOf_226 : decode b_Xr_shapeOf 226 = .ok (.bipush 6, 2) := by decide +kernel
theorem d_Xr_shapeOf_228 : decode b_Xr_shapeOf 228 = .ok (.ireturn, 1) := by decide +kernel
theorem d_Xr_shapeOf_229 : decode b_Xr_shapeOf 229 = .ok (.bipush 9, 2) := by decide +kernel
theorem d_Xr_shapeOf_231 : decode b_Xr_shapeOf 231 = .ok (.ireturn, 1) := by decide +kernel
theorem d_Xr_shapeOf_232 : decode b_Xr_shapeOf 232 = .ok (.bipush 10, 2) := by decide +kernel
theorem d_Xr_shapeOf_234 : decode b_Xr_shapeOf 234 = .ok (.ireturn, 1) := by decide +kernel
theorem d_Xr_shapeOf_235 : decode b_Xr_shapeOf 235 = .ok (.bipush 11, 2) := by decide +kernel
theorem d_Xr_shapeOf_237 : decode b_Xr_shapeOf 237 = .ok (.ireturn, 1) := by decide +kernel
theorem d_Xr_shapeOf_238 : decode b_Xr_shapeOf 238 = .ok (.bipush 12, 2) := by decide +kernel
theorem d_Xr_shapeOf_240 : decode b_Xr_shapeOf 240 = .ok (.ireturn, 1) := by decide +kernel
theorem d_Xr_shapeOf_241 : decode b_Xr_shapeOf 241 = .ok (.bipush 13, 2) := by decide +kernel
theorem d_Xr_shapeOf_243 : decode b_Xr_shapeOf 243 = .ok (.ireturn, 1) := by decide +kernel
theorem d_Xr_shapeOf_244 : decode b_Xr_shapeOf 244 = .ok (.iconst 0, 1) := by decide +kernel
theorem d_Xr_shapeOf_245 : decode b_Xr_shapeOf 245 = .ok (.ireturn, 1) := by decide +kernel
abbrev b_Sr_numberedChoice : ByteArray := prog_5_method_11_code
abbrev y_Sr_numberedChoice : MethodName := ⟨"ModuleBytes$Source", "numberedChoice", "(I)I"⟩
def w_Sr_numberedChoice : List Cond := .code y_Sr_numberedChoice b_Sr_numberedChoice 5 (Option.some Jvm.ClassFile.FieldType.int) :: wAll
theorem d_Sr_numberedChoice_0 : decode b_Sr_numberedChoice 0 = .ok (.aload_n 0, 1) := by decide +kernel
theorem d_Sr_numberedChoice_1 : decode b_Sr_numberedChoice 1 = .ok (.getfield 15, 3) := by decide +kernel
theorem d_Sr_numberedChoice_4 : decode b_Sr_numberedChoice 4 = .ok (.istore_n 2, 1) := by decide +kernel
theorem d_Sr_numberedChoice_5 : decode b_Sr_numberedChoice 5 = .ok (.aload_n 0, 1) := by decide +kernel
theorem d_Sr_numberedChoice_6 : decode b_Sr_numberedChoice 6 = .ok (.invokevirtual 47, 3) := by decide +kernel
theorem d_Sr_numberedChoice_9 : decode b_Sr_numberedChoice 9 = .ok (.lstore_n 3, 1) := by decide +kernel
theorem d_Sr_numberedChoice_10 : decode b_Sr_numberedChoice 10 = .ok (.lload_n 3, 1) := by decide +kernel
theorem d_Sr_numberedChoice_11 : decode b_Sr_numberedChoice 11 = .ok (.iload_n 1, 1) := by decide +kernel
theorem d_Sr_numberedChoice_12 : decode b_Sr_numberedChoice 12 = .ok (.i2l, 1) := by decide +kernel
theorem d_Sr_numberedChoice_13 : decode b_Sr_numberedChoice 13 = .ok (.lcmp, 1) := by decide +kernel
theorem d_Sr_numberedChoice_14 : decode b_Sr_numberedChoice 14 = .ok (.ifCond .le 10, 3) := by decide +kernel
theorem d_Sr_numberedChoice_17 : decode b_Sr_numberedChoice 17 = .ok (.aload_n 0, 1) := by decide +kernel
theorem d_Sr_numberedChoice_18 : decode b_Sr_numberedChoice 18 = .ok (.bipush 7, 2) := by decide +kernel
theorem d_Sr_numberedChoice_20 : decode b_Sr_numberedChoice 20 = .ok (.iload_n 2, 1) := by decide +kernel
theorem d_Sr_numberedChoice_21 : decode b_Sr_numberedChoice 21 = .ok (.invokevirtual 43, 3) := by decide +kernel
theorem d_Sr_numberedChoice_24 : decode b_Sr_numberedChoice 24 = .ok (.lload_n 3, 1) := by decide +kernel
theorem d_Sr_numberedChoice_25 : decode b_Sr_numberedChoice 25 = .ok (.l2i, 1) := by decide +kernel
theorem d_Sr_numberedChoice_26 : decode b_Sr_numberedChoice 26 = .ok (.ireturn, 1) := by decide +kernel
abbrev b_Ct_addToList : ByteArray := prog_2_method_4_code
abbrev y_Ct_addToList : MethodName := ⟨"ModuleBytes$Contents", "addToList", "(J)V"⟩
def w_Ct_addToList : List Cond := .code y_Ct_addToList b_Ct_addToList 3 (Option.none : Option Jvm.ClassFile.FieldType) :: wAll
theorem d_Ct_addToList_0 : decode b_Ct_addToList 0 = .ok (.aload_n 0, 1) := by decide +kernel
theorem d_Ct_addToList_1 : decode b_Ct_addToList 1 = .ok (.getfield 31, 3) := by decide +kernel
theorem d_Ct_addToList_4 : decode b_Ct_addToList 4 = .ok (.invokevirtual 51, 3) := by decide +kernel
theorem d_Ct_addToList_7 : decode b_Ct_addToList 7 = .ok (.aload_n 0, 1) := by decide +kernel
theorem d_Ct_addToList_8 : decode b_Ct_addToList 8 = .ok (.getfield 31, 3) := by decide +kernel
theorem d_Ct_addToList_11 : decode b_Ct_addToList 11 = .ok (.iconst 0, 1) := by decide +kernel
theorem d_Ct_addToList_12 : decode b_Ct_addToList 12 = .ok (.lload_n 1, 1) := by decide +kernel
theorem d_Ct_addToList_13 : decode b_Ct_addToList 13 = .ok (.invokevirtual 54, 3) := by decide +kernel
theorem d_Ct_addToList_16 : decode b_Ct_addToList 16 = .ok (.return_, 1) := by decide +kernel
abbrev b_Sr_leave : ByteArray := prog_5_method_7_code
abbrev y_Sr_leave : MethodName := ⟨"ModuleBytes$Source", "leave", "(I)V"⟩
def w_Sr_leave : List Cond := .code y_Sr_leave b_Sr_leave 2 (Option.none : Option Jvm.ClassFile.FieldType) :: wAll
theorem d_Sr_leave_0 : decode b_Sr_leave 0 = .ok (.aload_n 0, 1) := by decide +kernel
theorem d_Sr_leave_1 : decode b_Sr_leave 1 = .ok (.getfield 15, 3) := by decide +kernel
theorem d_Sr_leave_4 : decode b_Sr_leave 4 = .ok (.aload_n 0, 1) := by decide +kernel
theorem d_Sr_leave_5 : decode b_Sr_leave 5 = .ok (.getfield 19, 3) := by decide +kernel
theorem d_Sr_leave_8 : decode b_Sr_leave 8 = .ok (.if_icmp .ge 12, 3) := by decide +kernel
theorem d_Sr_leave_11 : decode b_Sr_leave 11 = .ok (.aload_n 0, 1) := by decide +kernel
theorem d_Sr_leave_12 : decode b_Sr_leave 12 = .ok (.iconst 3, 1) := by decide +kernel
theorem d_Sr_leave_13 : decode b_Sr_leave 13 = .ok (.aload_n 0, 1) := by decide +kernel
theorem d_Sr_leave_14 : decode b_Sr_leave 14 = .ok (.getfield 15, 3) := by decide +kernel
theorem d_Sr_leave_17 : decode b_Sr_leave 17 = .ok (.invokevirtual 43, 3) := by decide +kernel
theorem d_Sr_leave_20 : decode b_Sr_leave 20 = .ok (.aload_n 0, 1) := by decide +kernel
theorem d_Sr_leave_21 : decode b_Sr_leave 21 = .ok (.iload_n 1, 1) := by decide +kernel
theorem d_Sr_leave_22 : decode b_Sr_leave 22 = .ok (.putfield 19, 3) := by decide +kernel
theorem d_Sr_leave_25 : decode b_Sr_leave 25 = .ok (.return_, 1) := by decide +kernel
abbrev b_Ct_byteOfStretch : ByteArray := prog_2_method_6_code
abbrev y_Ct_byteOfStretch : MethodName := ⟨"ModuleBytes$Contents", "byteOfStretch", "(IIII)I"⟩
def w_Ct_byteOfStretch : List Cond := .code y_Ct_byteOfStretch b_Ct_byteOfStretch 9 (Option.some Jvm.ClassFile.FieldType.int) :: wAll
theorem d_Ct_byteOfStretch_0 : decode b_Ct_byteOfStretch 0 = .ok (.iload_n 1, 1) := by decide +kernel
theorem d_Ct_byteOfStretch_1 : decode b_Ct_byteOfStretch 1 = .ok (.ifCond .lt 9, 3) := by decide +kernel
theorem d_Ct_byteOfStretch_4 : decode b_Ct_byteOfStretch 4 = .ok (.iload_n 1, 1) := by decide +kernel
theorem d_Ct_byteOfStretch_5 : decode b_Ct_byteOfStretch 5 = .ok (.bipush 11, 2) := by decide +kernel
theorem d_Ct_byteOfStretch_7 : decode b_Ct_byteOfStretch 7 = .ok (.if_icmp .lt 5, 3) := by decide +kernel
theorem d_Ct_byteOfStretch_10 : decode b_Ct_byteOfStretch 10 = .ok (.iconst (-1), 1) := by decide +kernel
theorem d_Ct_byteOfStretch_11 : decode b_Ct_byteOfStretch 11 = .ok (.ireturn, 1) := by decide +kernel
theorem d_Ct_byteOfStretch_12 : decode b_Ct_byteOfStretch 12 = .ok (.aload_n 0, 1) := by decide +kernel
theorem d_Ct_byteOfStretch_13 : decode b_Ct_byteOfStretch 13 = .ok (.getfield 17, 3) := by decide +kernel
theorem d_Ct_byteOfStretch_16 : decode b_Ct_byteOfStretch 16 = .ok (.iload_n 1, 1) := by decide +kernel
theorem d_Ct_byteOfStretch_17 : decode b_Ct_byteOfStretch 17 = .ok (.aaload, 1) := by decide +kernel
theorem d_Ct_byteOfStretch_18 : decode b_Ct_byteOfStretch 18 = .ok (.iload_n 2, 1) := by decide +kernel
theorem d_Ct_byteOfStretch_19 : decode b_Ct_byteOfStretch 19 = .ok (.iload_n 3, 1) := by decide +kernel
theorem d_Ct_byteOfStretch_20 : decode b_Ct_byteOfStretch 20 = .ok (.invokevirtual 58, 3) := by decide +kernel
theorem d_Ct_byteOfStretch_23 : decode b_Ct_byteOfStretch 23 = .ok (.lstore 5, 2) := by decide +kernel
theorem d_Ct_byteOfStretch_25 : decode b_Ct_byteOfStretch 25 = .ok (.aload_n 0, 1) := by decide +kernel
theorem d_Ct_byteOfStretch_26 : decode b_Ct_byteOfStretch 26 = .ok (.getfield 17, 3) := by decide +kernel
theorem d_Ct_byteOfStretch_29 : decode b_Ct_byteOfStretch 29 = .ok (.iload_n 1, 1) := by decide +kernel
theorem d_Ct_byteOfStretch_30 : decode b_Ct_byteOfStretch 30 = .ok (.aaload, 1) := by decide +kernel
theorem d_Ct_byteOfStretch_31 : decode b_Ct_byteOfStretch 31 = .ok (.iload_n 2, 1) := by decide +kernel
theorem d_Ct_byteOfStretch_32 : decode b_Ct_byteOfStretch 32 = .ok (.iload_n 3, 1) := by decide +kernel
theorem d_Ct_byteOfStretch_33 : decode b_Ct_byteOfStretch 33 = .ok (.iconst 1, 1) := by decide +kernel
theorem d_Ct_byteOfStretch_34 : decode b_Ct_byteOfStretch 34 = .ok (.iadd, 1) := by decide +kernel
theorem d_Ct_byteOfStretch_35 : decode b_Ct_byteOfStretch 35 = .ok (.invokevirtual 58, 3) := by decide +kernel
theorem d_Ct_byteOfStretch_38 : decode b_Ct_byteOfStretch 38 = .ok (.lstore 7, 2) := by decide +kernel
theorem d_Ct_byteOfStretch_40 : decode b_Ct_byteOfStretch 40 = .ok (.iload 4, 2) := by decide +kernel
theorem d_Ct_byteOfStretch_42 : decode b_Ct_byteOfStretch 42 = .ok (.iconst (-1), 1) := by decide +kernel
theorem d_Ct_byteOfStretch_43 : decode b_Ct_byteOfStretch 43 = .ok (.if_icmp .ne 7, 3) := by decide +kernel
theorem d_Ct_byteOfStretch_46 : decode b_Ct_byteOfStretch 46 = .ok (.lload 7, 2) := by decide +kernel
theorem d_Ct_byteOfStretch_48 : decode b_Ct_byteOfStretch 48 = .ok (.l2i, 1) := by decide +kernel
theorem d_Ct_byteOfStretch_49 : decode b_Ct_byteOfStretch 49 = .ok (.ireturn, 1) := by decide +kernel
theorem d_Ct_byteOfStretch_50 : decode b_Ct_byteOfStretch 50 = .ok (.iload 4, 2) := by decide +kernel
theorem d_Ct_byteOfStretch_52 : decode b_Ct_byteOfStretch 52 = .ok (.ifCond .lt 35, 3) := by decide +kernel
theorem d_Ct_byteOfStretch_55 : decode b_Ct_byteOfStretch 55 = .ok (.iload 4, 2) := by decide +kernel
theorem d_Ct_byteOfStretch_57 : decode b_Ct_byteOfStretch 57 = .ok (.i2l, 1) := by decide +kernel
theorem d_Ct_byteOfStretch_58 : decode b_Ct_byteOfStretch 58 = .ok (.lload 7, 2) := by decide +kernel
theorem d_Ct_byteOfStretch_60 : decode b_Ct_byteOfStretch 60 = .ok (.lcmp, 1) := by decide +kernel
theorem d_Ct_byteOfStretch_61 : decode b_Ct_byteOfStretch 61 = .ok (.ifCond .ge 26, 3) := by decide +kernel
theorem d_Ct_byteOfStretch_64 : decode b_Ct_byteOfStretch 64 = .ok (.lload 5, 2) := by decide +kernel
theorem d_Ct_byteOfStretch_66 : decode b_Ct_byteOfStretch 66 = .ok (.lconst 0, 1) := by decide +kernel
theorem d_Ct_byteOfStretch_67 : decode b_Ct_byteOfStretch 67 = .ok (.lcmp, 1) := by decide +kernel
theorem d_Ct_byteOfStretch_68 : decode b_Ct_byteOfStretch 68 = .ok (.ifCond .lt 19, 3) := by decide +kernel
theorem d_Ct_byteOfStretch_71 : decode b_Ct_byteOfStretch 71 = .ok (.lload 5, 2) := by decide +kernel
theorem d_Ct_byteOfStretch_73 : decode b_Ct_byteOfStretch 73 = .ok (.iload 4, 2) := by decide +kernel
theorem d_Ct_byteOfStretch_75 : decode b_Ct_byteOfStretch 75 = .ok (.i2l, 1) := by decide +kernel
theorem d_Ct_byteOfStretch_76 : decode b_Ct_byteOfStretch 76 = .ok (.ladd, 1) := by decide +kernel
theorem d_Ct_byteOfStretch_77 : decode b_Ct_byteOfStretch 77 = .ok (.aload_n 0, 1) := by decide +kernel
theorem d_Ct_byteOfStretch_78 : decode b_Ct_byteOfStretch 78 = .ok (.getfield 9, 3) := by decide +kernel
theorem d_Ct_byteOfStretch_81 : decode b_Ct_byteOfStretch 81 = .ok (.arraylength, 1) := by decide +kernel
theorem d_Ct_byteOfStretch_82 : decode b_Ct_byteOfStretch 82 = .ok (.i2l, 1) := by decide +kernel
theorem d_Ct_byteOfStretch_83 : decode b_Ct_byteOfStretch 83 = .ok (.lcmp, 1) := by decide +kernel
theorem d_Ct_byteOfStretch_84 : decode b_Ct_byteOfStretch 84 = .ok (.ifCond .lt 5, 3) := by decide +kernel
theorem d_Ct_byteOfStretch_87 : decode b_Ct_byteOfStretch 87 = .ok (.iconst (-1), 1) := by decide +kernel
theorem d_Ct_byteOfStretch_88 : decode b_Ct_byteOfStretch 88 = .ok (.ireturn, 1) := by decide +kernel
theorem d_Ct_byteOfStretch_89 : decode b_Ct_byteOfStretch 89 = .ok (.aload_n 0, 1) := by decide +kernel
theorem d_Ct_byteOfStretch_90 : decode b_Ct_byteOfStretch 90 = .ok (.getfield 9, 3) := by decide +kernel
theorem d_Ct_byteOfStretch_93 : decode b_Ct_byteOfStretch 93 = .ok (.lload 5, 2) := by decide +kernel
theorem d_Ct_byteOfStretch_95 : decode b_Ct_byteOfStretch 95 = .ok (.l2i, 1) := by decide +kernel
theorem d_Ct_byteOfStretch_96 : decode b_Ct_byteOfStretch 96 = .ok (.iload 4, 2) := by decide +kernel
theorem d_Ct_byteOfStretch_98 : decode b_Ct_byteOfStretch 98 = .ok (.iadd, 1) := by decide +kernel
theorem d_Ct_byteOfStretch_99 : decode b_Ct_byteOfStretch 99 = .ok (.baload, 1) := by decide +kernel
theorem d_Ct_byteOfStretch_100 : decode b_Ct_byteOfStretch 100 = .ok (.sipush 255, 3) := by decide +kernel
theorem d_Ct_byteOfStretch_103 : decode b_Ct_byteOfStretch 103 = .ok (.iand, 1) := by decide +kernel
theorem d_Ct_byteOfStretch_104 : decode b_Ct_byteOfStretch 104 = .ok (.ireturn, 1) := by decide +kernel
abbrev b_Tb_at : ByteArray := prog_6_method_5_code
abbrev y_Tb_at : MethodName := ⟨"ModuleBytes$Table", "at", "(II)J"⟩
def w_Tb_at : List Cond := .code y_Tb_at b_Tb_at 3 (Option.some Jvm.ClassFile.FieldType.long) :: wAll
theorem d_Tb_at_0 : decode b_Tb_at 0 = .ok (.iload_n 1, 1) := by decide +kernel
theorem d_Tb_at_1 : decode b_Tb_at 1 = .ok (.ifCond .lt 23, 3) := by decide +kernel
theorem d_Tb_at_4 : decode b_Tb_at 4 = .ok (.iload_n 1, 1) := by decide +kernel
theorem d_Tb_at_5 : decode b_Tb_at 5 = .ok (.aload_n 0, 1) := by decide +kernel
theorem d_Tb_at_6 : decode b_Tb_at 6 = .ok (.getfield 19, 3) := by decide +kernel
theorem d_Tb_at_9 : decode b_Tb_at 9 = .ok (.if_icmp .ge 15, 3) := by decide +kernel
theorem d_Tb_at_12 : decode b_Tb_at 12 = .ok (.iload_n 2, 1) := by decide +kernel
theorem d_Tb_at_13 : decode b_Tb_at 13 = .ok (.ifCond .lt 11, 3) := by decide +kernel
theorem d_Tb_at_16 : decode b_Tb_at 16 = .ok (.iload_n 2, 1) := by decide +kernel
theorem d_Tb_at_17 : decode b_Tb_at 17 = .ok (.aload_n 0, 1) := by decide +kernel
theorem d_Tb_at_18 : decode b_Tb_at 18 = .ok (.getfield 9, 3) := by decide +kernel
theorem d_Tb_at_21 : decode b_Tb_at 21 = .ok (.if_icmp .lt 7, 3) := by decide +kernel
theorem d_Tb_at_24 : decode b_Tb_at 24 = .ok (.ldc2_w 28, 3) := by decide +kernel
theorem d_Tb_at_27 : decode b_Tb_at 27 = .ok (.lreturn, 1) := by decide +kernel
theorem d_Tb_at_28 : decode b_Tb_at 28 = .ok (.aload_n 0, 1) := by decide +kernel
theorem d_Tb_at_29 : decode b_Tb_at 29 = .ok (.getfield 15, 3) := by decide +kernel
theorem d_Tb_at_32 : decode b_Tb_at 32 = .ok (.iload_n 1, 1) := by decide +kernel
theorem d_Tb_at_33 : decode b_Tb_at 33 = .ok (.aload_n 0, 1) := by decide +kernel
theorem d_Tb_at_34 : decode b_Tb_at 34 = .ok (.getfield 9, 3) := by decide +kernel
theorem d_Tb_at_37 : decode b_Tb_at 37 = .ok (.imul, 1) := by decide +kernel
theorem d_Tb_at_38 : decode b_Tb_at 38 = .ok (.iload_n 2, 1) := by decide +kernel
theorem d_Tb_at_39 : decode b_Tb_at 39 = .ok (.iadd, 1) := by decide +kernel
theorem d_Tb_at_40 : decode b_Tb_at 40 = .ok (.laload, 1) := by decide +kernel
theorem d_Tb_at_41 : decode b_Tb_at 41 = .ok (.lreturn, 1) := by decide +kernel
abbrev b_Ct_listed : ByteArray := prog_2_method_5_code
abbrev y_Ct_listed : MethodName := ⟨"ModuleBytes$Contents", "listed", "(III)J"⟩
def w_Ct_listed : List Cond := .code y_Ct_listed b_Ct_listed 8 (Option.some Jvm.ClassFile.FieldType.long) :: wAll
theorem d_Ct_listed_0 : decode b_Ct_listed 0 = .ok (.iload_n 1, 1) := by decide +kernel
theorem d_Ct_listed_1 : decode b_Ct_listed 1 = .ok (.bipush 7, 2) := by decide +kernel
theorem d_Ct_listed_3 : decode b_Ct_listed 3 = .ok (.if_icmp .eq 13, 3) := by decide +kernel
theorem d_Ct_listed_6 : decode b_Ct_listed 6 = .ok (.iload_n 1, 1) := by decide +kernel
theorem d_Ct_listed_7 : decode b_Ct_listed 7 = .ok (.bipush 8, 2) := by decide +kernel
theorem d_Ct_listed_9 : decode b_Ct_listed 9 = .ok (.if_icmp .eq 7, 3) := by decide +kernel
theorem d_Ct_listed_12 : decode b_Ct_listed 12 = .ok (.ldc2_w 39, 3) := by decide +kernel
theorem d_Ct_listed_15 : decode b_Ct_listed 15 = .ok (.lreturn, 1) := by decide +kernel
theorem d_Ct_listed_16 : decode b_Ct_listed 16 = .ok (.aload_n 0, 1) := by decide +kernel
theorem d_Ct_listed_17 : decode b_Ct_listed 17 = .ok (.getfield 17, 3) := by decide +kernel
theorem d_Ct_listed_20 : decode b_Ct_listed 20 = .ok (.iload_n 1, 1) := by decide +kernel
theorem d_Ct_listed_21 : decode b_Ct_listed 21 = .ok (.aaload, 1) := by decide +kernel
theorem d_Ct_listed_22 : decode b_Ct_listed 22 = .ok (.iload_n 2, 1) := by decide +kernel
theorem d_Ct_listed_23 : decode b_Ct_listed 23 = .ok (.getstatic 21, 3) := by decide +kernel
theorem d_Ct_listed_26 : decode b_Ct_listed 26 = .ok (.iload_n 1, 1) := by decide +kernel
theorem d_Ct_listed_27 : decode b_Ct_listed 27 = .ok (.iaload, 1) := by decide +kernel
theorem d_Ct_listed_28 : decode b_Ct_listed 28 = .ok (.invokevirtual 58, 3) := by decide +kernel
theorem d_Ct_listed_31 : decode b_Ct_listed 31 = .ok (.lstore 4, 2) := by decide +kernel
theorem d_Ct_listed_33 : decode b_Ct_listed 33 = .ok (.aload_n 0, 1) := by decide +kernel
theorem d_Ct_listed_34 : decode b_Ct_listed 34 = .ok (.getfield 17, 3) := by decide +kernel
theorem d_Ct_listed_37 : decode b_Ct_listed 37 = .ok (.iload_n 1, 1) := by decide +kernel
theorem d_Ct_listed_38 : decode b_Ct_listed 38 = .ok (.aaload, 1) := by decide +kernel
theorem d_Ct_listed_39 : decode b_Ct_listed 39 = .ok (.iload_n 2, 1) := by decide +kernel
theorem d_Ct_listed_40 : decode b_Ct_listed 40 = .ok (.getstatic 21, 3) := by decide +kernel
theorem d_Ct_listed_43 : decode b_Ct_listed 43 = .ok (.iload_n 1, 1) := by decide +kernel
theorem d_Ct_listed_44 : decode b_Ct_listed 44 = .ok (.iaload, 1) := by decide +kernel
theorem d_Ct_listed_45 : decode b_Ct_listed 45 = .ok (.iconst 1, 1) := by decide +kernel
theorem d_Ct_listed_46 : decode b_Ct_listed 46 = .ok (.iadd, 1) := by decide +kernel
theorem d_Ct_listed_47 : decode b_Ct_listed 47 = .ok (.invokevirtual 58, 3) := by decide +kernel
theorem d_Ct_listed_50 : decode b_Ct_listed 50 = .ok (.lstore 6, 2) := by decide +kernel
theorem d_Ct_listed_52 : decode b_Ct_listed 52 = .ok (.iload_n 3, 1) := by decide +kernel
theorem d_Ct_listed_53 : decode b_Ct_listed 53 = .ok (.ifCond .lt 11, 3) := by decide +kernel
theorem d_Ct_listed_56 : decode b_Ct_listed 56 = .ok (.iload_n 3, 1) := by decide +kernel
theorem d_Ct_listed_57 : decode b_Ct_listed 57 = .ok (.i2l, 1) := by decide +kernel
theorem d_Ct_listed_58 : decode b_Ct_listed 58 = .ok (.lload 6, 2) := by decide +kernel
theorem d_Ct_listed_60 : decode b_Ct_listed 60 = .ok (.lcmp, 1) := by decide +kernel
theorem d_Ct_listed_61 : decode b_Ct_listed 61 = .ok (.ifCond .lt 7, 3) := by decide +kernel
theorem d_Ct_listed_64 : decode b_Ct_listed 64 = .ok (.ldc2_w 39, 3) := by decide +kernel
theorem d_Ct_listed_67 : decode b_Ct_listed 67 = .ok (.lreturn, 1) := by decide +kernel
theorem d_Ct_listed_68 : decode b_Ct_listed 68 = .ok (.aload_n 0, 1) := by decide +kernel
theorem d_Ct_listed_69 : decode b_Ct_listed 69 = .ok (.getfield 31, 3) := by decide +kernel
theorem d_Ct_listed_72 : decode b_Ct_listed 72 = .ok (.lload 4, 2) := by decide +kernel
theorem d_Ct_listed_74 : decode b_Ct_listed 74 = .ok (.l2i, 1) := by decide +kernel
theorem d_Ct_listed_75 : decode b_Ct_listed 75 = .ok (.iload_n 3, 1) := by decide +kernel
theorem d_Ct_listed_76 : decode b_Ct_listed 76 = .ok (.iadd, 1) := by decide +kernel
theorem d_Ct_listed_77 : decode b_Ct_listed 77 = .ok (.iconst 0, 1) := by decide +kernel
theorem d_Ct_listed_78 : decode b_Ct_listed 78 = .ok (.invokevirtual 58, 3) := by decide +kernel
theorem d_Ct_listed_81 : decode b_Ct_listed 81 = .ok (.lreturn, 1) := by decide +kernel
