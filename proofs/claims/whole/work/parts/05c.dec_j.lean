abbrev b_Ja_copyOf : ByteArray := prog_17_method_124_code
abbrev y_Ja_copyOf : MethodName := ⟨"java/util/Arrays", "copyOf", "([JI)[J"⟩
def w_Ja_copyOf : List Cond := .code y_Ja_copyOf b_Ja_copyOf 3 (Option.some (Jvm.ClassFile.FieldType.array Jvm.ClassFile.FieldType.long)) :: wAll
theorem d_Ja_copyOf_0 : decode b_Ja_copyOf 0 = .ok (.iload_n 1, 1) := by decide +kernel
theorem d_Ja_copyOf_1 : decode b_Ja_copyOf 1 = .ok (.aload_n 0, 1) := by decide +kernel
theorem d_Ja_copyOf_2 : decode b_Ja_copyOf 2 = .ok (.arraylength, 1) := by decide +kernel
theorem d_Ja_copyOf_3 : decode b_Ja_copyOf 3 = .ok (.if_icmp .ne 11, 3) := by decide +kernel
theorem d_Ja_copyOf_6 : decode b_Ja_copyOf 6 = .ok (.aload_n 0, 1) := by decide +kernel
theorem d_Ja_copyOf_7 : decode b_Ja_copyOf 7 = .ok (.invokevirtual 319, 3) := by decide +kernel
theorem d_Ja_copyOf_10 : decode b_Ja_copyOf 10 = .ok (.checkcast 320, 3) := by decide +kernel
theorem d_Ja_copyOf_13 : decode b_Ja_copyOf 13 = .ok (.areturn, 1) := by decide +kernel
theorem d_Ja_copyOf_14 : decode b_Ja_copyOf 14 = .ok (.iload_n 1, 1) := by decide +kernel
theorem d_Ja_copyOf_15 : decode b_Ja_copyOf 15 = .ok (.newarray .long, 2) := by decide +kernel
theorem d_Ja_copyOf_17 : decode b_Ja_copyOf 17 = .ok (.astore_n 2, 1) := by decide +kernel
theorem d_Ja_copyOf_18 : decode b_Ja_copyOf 18 = .ok (.aload_n 0, 1) := by decide +kernel
theorem d_Ja_copyOf_19 : decode b_Ja_copyOf 19 = .ok (.iconst 0, 1) := by decide +kernel
theorem d_Ja_copyOf_20 : decode b_Ja_copyOf 20 = .ok (.aload_n 2, 1) := by decide +kernel
theorem d_Ja_copyOf_21 : decode b_Ja_copyOf 21 = .ok (.iconst 0, 1) := by decide +kernel
theorem d_Ja_copyOf_22 : decode b_Ja_copyOf 22 = .ok (.aload_n 0, 1) := by decide +kernel
theorem d_Ja_copyOf_23 : decode b_Ja_copyOf 23 = .ok (.arraylength, 1) := by decide +kernel
theorem d_Ja_copyOf_24 : decode b_Ja_copyOf 24 = .ok (.iload_n 1, 1) := by decide +kernel
theorem d_Ja_copyOf_25 : decode b_Ja_copyOf 25 = .ok (.invokestatic 304, 3) := by decide +kernel
theorem d_Ja_copyOf_28 : decode b_Ja_copyOf 28 = .ok (.invokestatic 150, 3) := by decide +kernel
theorem d_Ja_copyOf_31 : decode b_Ja_copyOf 31 = .ok (.aload_n 2, 1) := by decide +kernel
theorem d_Ja_copyOf_32 : decode b_Ja_copyOf 32 = .ok (.areturn, 1) := by decide +kernel
