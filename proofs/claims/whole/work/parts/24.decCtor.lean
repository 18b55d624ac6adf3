theorem aw_44 : (Jvm.Cond.methodLink "LinkMill$Section" (1 : Nat) ({ cls := "java/lang/Object", name := "<init>", desc := "()V" } : Jvm.MethodName)) ∈ sm_AW := sm_awi 44 (by decide +kernel) (by decide +kernel)
theorem aw_24 : (Jvm.Cond.instanceMethod ({ cls := "java/lang/Object", name := "<init>", desc := "()V" } : Jvm.MethodName)) ∈ sm_AW := sm_awi 24 (by decide +kernel) (by decide +kernel)
theorem aw_25 : (Jvm.Cond.code ({ cls := "java/lang/Object", name := "<init>", desc := "()V" } : Jvm.MethodName) object_method_1_code (1 : Nat) (Option.none : Option Jvm.ClassFile.FieldType)) ∈ sm_AW := sm_awi 25 (by decide +kernel) (by decide +kernel)
theorem aw_56 : (Jvm.Cond.arrayClass Jvm.ClassFile.FieldType.int) ∈ sm_AW := sm_awi 56 (by decide +kernel) (by decide +kernel)
theorem aw_38 : (Jvm.Cond.methodLink "LinkMill$Part" (3 : Nat) ({ cls := "java/lang/Object", name := "<init>", desc := "()V" } : Jvm.MethodName)) ∈ sm_AW := sm_awi 38 (by decide +kernel) (by decide +kernel)
theorem aw_39 : (Jvm.Cond.classLink "LinkMill$Part" (9 : Nat) "LinkMill$Section") ∈ sm_AW := sm_awi 39 (by decide +kernel) (by decide +kernel)
theorem aw_40 : (Jvm.Cond.instantiable "LinkMill$Section" (2 : Nat)) ∈ sm_AW := sm_awi 40 (by decide +kernel) (by decide +kernel)
theorem aw_43 : (Jvm.Cond.code ({ cls := "LinkMill$Section", name := "<init>", desc := "(I)V" } : Jvm.MethodName) prog_9_method_1_code (2 : Nat) (Option.none : Option Jvm.ClassFile.FieldType)) ∈ sm_AW := sm_awi 43 (by decide +kernel) (by decide +kernel)
theorem aw_41 : (Jvm.Cond.methodLink "LinkMill$Part" (13 : Nat) ({ cls := "LinkMill$Section", name := "<init>", desc := "(I)V" } : Jvm.MethodName)) ∈ sm_AW := sm_awi 41 (by decide +kernel) (by decide +kernel)
theorem aw_42 : (Jvm.Cond.instanceMethod ({ cls := "LinkMill$Section", name := "<init>", desc := "(I)V" } : Jvm.MethodName)) ∈ sm_AW := sm_awi 42 (by decide +kernel) (by decide +kernel)
theorem aw_109 : (Jvm.Cond.arrayClass Jvm.ClassFile.FieldType.boolean) ∈ sm_AW := sm_awi 109 (by decide +kernel) (by decide +kernel)
theorem aw_31 : (Jvm.Cond.methodLink "LinkMill$Linker" (3 : Nat) ({ cls := "java/lang/Object", name := "<init>", desc := "()V" } : Jvm.MethodName)) ∈ sm_AW := sm_awi 31 (by decide +kernel) (by decide +kernel)
theorem aw_32 : (Jvm.Cond.classLink "LinkMill$Linker" (9 : Nat) "LinkMill$Part") ∈ sm_AW := sm_awi 32 (by decide +kernel) (by decide +kernel)
theorem aw_34 : (Jvm.Cond.instantiable "LinkMill$Part" (13 : Nat)) ∈ sm_AW := sm_awi 34 (by decide +kernel) (by decide +kernel)
theorem aw_37 : (Jvm.Cond.code ({ cls := "LinkMill$Part", name := "<init>", desc := "()V" } : Jvm.MethodName) prog_7_method_1_code (1 : Nat) (Option.none : Option Jvm.ClassFile.FieldType)) ∈ sm_AW := sm_awi 37 (by decide +kernel) (by decide +kernel)
theorem aw_35 : (Jvm.Cond.methodLink "LinkMill$Linker" (17 : Nat) ({ cls := "LinkMill$Part", name := "<init>", desc := "()V" } : Jvm.MethodName)) ∈ sm_AW := sm_awi 35 (by decide +kernel) (by decide +kernel)
theorem aw_36 : (Jvm.Cond.instanceMethod ({ cls := "LinkMill$Part", name := "<init>", desc := "()V" } : Jvm.MethodName)) ∈ sm_AW := sm_awi 36 (by decide +kernel) (by decide +kernel)
theorem aw_142 : (Jvm.Cond.methodLink "LinkMill$Image" (3 : Nat) ({ cls := "java/lang/Object", name := "<init>", desc := "()V" } : Jvm.MethodName)) ∈ sm_AW := sm_awi 142 (by decide +kernel) (by decide +kernel)
theorem aw_159 : (Jvm.Cond.methodLink "LinkMill$Machine" (3 : Nat) ({ cls := "java/lang/Object", name := "<init>", desc := "()V" } : Jvm.MethodName)) ∈ sm_AW := sm_awi 159 (by decide +kernel) (by decide +kernel)
theorem aw_23 : (Jvm.Cond.methodLink "LinkMill" (1 : Nat) ({ cls := "java/lang/Object", name := "<init>", desc := "()V" } : Jvm.MethodName)) ∈ sm_AW := sm_awi 23 (by decide +kernel) (by decide +kernel)
theorem aw_26 : (Jvm.Cond.classLink "LinkMill" (7 : Nat) "LinkMill$Linker") ∈ sm_AW := sm_awi 26 (by decide +kernel) (by decide +kernel)
theorem aw_27 : (Jvm.Cond.instantiable "LinkMill$Linker" (8 : Nat)) ∈ sm_AW := sm_awi 27 (by decide +kernel) (by decide +kernel)
theorem aw_30 : (Jvm.Cond.code ({ cls := "LinkMill$Linker", name := "<init>", desc := "()V" } : Jvm.MethodName) prog_5_method_1_code (2 : Nat) (Option.none : Option Jvm.ClassFile.FieldType)) ∈ sm_AW := sm_awi 30 (by decide +kernel) (by decide +kernel)
theorem aw_28 : (Jvm.Cond.methodLink "LinkMill" (9 : Nat) ({ cls := "LinkMill$Linker", name := "<init>", desc := "()V" } : Jvm.MethodName)) ∈ sm_AW := sm_awi 28 (by decide +kernel) (by decide +kernel)
theorem aw_29 : (Jvm.Cond.instanceMethod ({ cls := "LinkMill$Linker", name := "<init>", desc := "()V" } : Jvm.MethodName)) ∈ sm_AW := sm_awi 29 (by decide +kernel) (by decide +kernel)
theorem aw_137 : (Jvm.Cond.classLink "LinkMill" (16 : Nat) "LinkMill$Image") ∈ sm_AW := sm_awi 137 (by decide +kernel) (by decide +kernel)
theorem aw_138 : (Jvm.Cond.instantiable "LinkMill$Image" (2 : Nat)) ∈ sm_AW := sm_awi 138 (by decide +kernel) (by decide +kernel)
theorem aw_141 : (Jvm.Cond.code ({ cls := "LinkMill$Image", name := "<init>", desc := "()V" } : Jvm.MethodName) prog_3_method_1_code (1 : Nat) (Option.none : Option Jvm.ClassFile.FieldType)) ∈ sm_AW := sm_awi 141 (by decide +kernel) (by decide +kernel)
theorem aw_139 : (Jvm.Cond.methodLink "LinkMill" (18 : Nat) ({ cls := "LinkMill$Image", name := "<init>", desc := "()V" } : Jvm.MethodName)) ∈ sm_AW := sm_awi 139 (by decide +kernel) (by decide +kernel)
theorem aw_140 : (Jvm.Cond.instanceMethod ({ cls := "LinkMill$Image", name := "<init>", desc := "()V" } : Jvm.MethodName)) ∈ sm_AW := sm_awi 140 (by decide +kernel) (by decide +kernel)
theorem aw_154 : (Jvm.Cond.classLink "LinkMill" (23 : Nat) "LinkMill$Machine") ∈ sm_AW := sm_awi 154 (by decide +kernel) (by decide +kernel)
theorem aw_155 : (Jvm.Cond.instantiable "LinkMill$Machine" (11 : Nat)) ∈ sm_AW := sm_awi 155 (by decide +kernel) (by decide +kernel)
theorem aw_158 : (Jvm.Cond.code ({ cls := "LinkMill$Machine", name := "<init>", desc := "()V" } : Jvm.MethodName) prog_6_method_1_code (1 : Nat) (Option.none : Option Jvm.ClassFile.FieldType)) ∈ sm_AW := sm_awi 158 (by decide +kernel) (by decide +kernel)
theorem aw_156 : (Jvm.Cond.methodLink "LinkMill" (25 : Nat) ({ cls := "LinkMill$Machine", name := "<init>", desc := "()V" } : Jvm.MethodName)) ∈ sm_AW := sm_awi 156 (by decide +kernel) (by decide +kernel)
theorem aw_157 : (Jvm.Cond.instanceMethod ({ cls := "LinkMill$Machine", name := "<init>", desc := "()V" } : Jvm.MethodName)) ∈ sm_AW := sm_awi 157 (by decide +kernel) (by decide +kernel)
theorem aw_686 : (Jvm.Cond.methodLink "LinkMillModel" (1 : Nat) ({ cls := "java/lang/Object", name := "<init>", desc := "()V" } : Jvm.MethodName)) ∈ sm_AW := sm_awi 686 (by decide +kernel) (by decide +kernel)
theorem d_Section_init_0 : decode b_Section_init 0 = .ok (.aload_n 0, 1) := by decide +kernel
theorem d_Section_init_1 : decode b_Section_init 1 = .ok (.invokespecial 1, 3) := by decide +kernel
theorem d_Section_init_4 : decode b_Section_init 4 = .ok (.aload_n 0, 1) := by decide +kernel
theorem d_Section_init_5 : decode b_Section_init 5 = .ok (.iload_n 1, 1) := by decide +kernel
theorem d_Section_init_6 : decode b_Section_init 6 = .ok (.newarray .int, 2) := by decide +kernel
theorem d_Section_init_8 : decode b_Section_init 8 = .ok (.putfield 7, 3) := by decide +kernel
theorem d_Section_init_11 : decode b_Section_init 11 = .ok (.return_, 1) := by decide +kernel
theorem d_Part_init_0 : decode b_Part_init 0 = .ok (.aload_n 0, 1) := by decide +kernel
theorem d_Part_init_1 : decode b_Part_init 1 = .ok (.invokespecial 3, 3) := by decide +kernel
theorem d_Part_init_4 : decode b_Part_init 4 = .ok (.aload_n 0, 1) := by decide +kernel
theorem d_Part_init_5 : decode b_Part_init 5 = .ok (.new 9, 3) := by decide +kernel
theorem d_Part_init_8 : decode b_Part_init 8 = .ok (.dup, 1) := by decide +kernel
theorem d_Part_init_9 : decode b_Part_init 9 = .ok (.bipush 24, 2) := by decide +kernel
theorem d_Part_init_11 : decode b_Part_init 11 = .ok (.invokespecial 13, 3) := by decide +kernel
theorem d_Part_init_14 : decode b_Part_init 14 = .ok (.putfield 16, 3) := by decide +kernel
theorem d_Part_init_17 : decode b_Part_init 17 = .ok (.aload_n 0, 1) := by decide +kernel
theorem d_Part_init_18 : decode b_Part_init 18 = .ok (.new 9, 3) := by decide +kernel
theorem d_Part_init_21 : decode b_Part_init 21 = .ok (.dup, 1) := by decide +kernel
theorem d_Part_init_22 : decode b_Part_init 22 = .ok (.bipush 12, 2) := by decide +kernel
theorem d_Part_init_24 : decode b_Part_init 24 = .ok (.invokespecial 13, 3) := by decide +kernel
theorem d_Part_init_27 : decode b_Part_init 27 = .ok (.putfield 20, 3) := by decide +kernel
theorem d_Part_init_30 : decode b_Part_init 30 = .ok (.aload_n 0, 1) := by decide +kernel
theorem d_Part_init_31 : decode b_Part_init 31 = .ok (.bipush 8, 2) := by decide +kernel
theorem d_Part_init_33 : decode b_Part_init 33 = .ok (.newarray .int, 2) := by decide +kernel
theorem d_Part_init_35 : decode b_Part_init 35 = .ok (.putfield 23, 3) := by decide +kernel
theorem d_Part_init_38 : decode b_Part_init 38 = .ok (.aload_n 0, 1) := by decide +kernel
theorem d_Part_init_39 : decode b_Part_init 39 = .ok (.bipush 8, 2) := by decide +kernel
theorem d_Part_init_41 : decode b_Part_init 41 = .ok (.newarray .int, 2) := by decide +kernel
theorem d_Part_init_43 : decode b_Part_init 43 = .ok (.putfield 27, 3) := by decide +kernel
theorem d_Part_init_46 : decode b_Part_init 46 = .ok (.aload_n 0, 1) := by decide +kernel
theorem d_Part_init_47 : decode b_Part_init 47 = .ok (.bipush 8, 2) := by decide +kernel
theorem d_Part_init_49 : decode b_Part_init 49 = .ok (.newarray .int, 2) := by decide +kernel
theorem d_Part_init_51 : decode b_Part_init 51 = .ok (.putfield 30, 3) := by decide +kernel
theorem d_Part_init_54 : decode b_Part_init 54 = .ok (.aload_n 0, 1) := by decide +kernel
theorem d_Part_init_55 : decode b_Part_init 55 = .ok (.bipush 8, 2) := by decide +kernel
theorem d_Part_init_57 : decode b_Part_init 57 = .ok (.newarray .boolean, 2) := by decide +kernel
theorem d_Part_init_59 : decode b_Part_init 59 = .ok (.putfield 33, 3) := by decide +kernel
theorem d_Part_init_62 : decode b_Part_init 62 = .ok (.aload_n 0, 1) := by decide +kernel
theorem d_Part_init_63 : decode b_Part_init 63 = .ok (.bipush 16, 2) := by decide +kernel
theorem d_Part_init_65 : decode b_Part_init 65 = .ok (.newarray .int, 2) := by decide +kernel
theorem d_Part_init_67 : decode b_Part_init 67 = .ok (.putfield 37, 3) := by decide +kernel
theorem d_Part_init_70 : decode b_Part_init 70 = .ok (.aload_n 0, 1) := by decide +kernel
theorem d_Part_init_71 : decode b_Part_init 71 = .ok (.bipush 16, 2) := by decide +kernel
theorem d_Part_init_73 : decode b_Part_init 73 = .ok (.newarray .int, 2) := by decide +kernel
theorem d_Part_init_75 : decode b_Part_init 75 = .ok (.putfield 40, 3) := by decide +kernel
theorem d_Part_init_78 : decode b_Part_init 78 = .ok (.aload_n 0, 1) := by decide +kernel
theorem d_Part_init_79 : decode b_Part_init 79 = .ok (.bipush 16, 2) := by decide +kernel
theorem d_Part_init_81 : decode b_Part_init 81 = .ok (.newarray .int, 2) := by decide +kernel
theorem d_Part_init_83 : decode b_Part_init 83 = .ok (.putfield 43, 3) := by decide +kernel
theorem d_Part_init_86 : decode b_Part_init 86 = .ok (.aload_n 0, 1) := by decide +kernel
theorem d_Part_init_87 : decode b_Part_init 87 = .ok (.bipush 16, 2) := by decide +kernel
theorem d_Part_init_89 : decode b_Part_init 89 = .ok (.newarray .int, 2) := by decide +kernel
theorem d_Part_init_91 : decode b_Part_init 91 = .ok (.putfield 46, 3) := by decide +kernel
theorem d_Part_init_94 : decode b_Part_init 94 = .ok (.aload_n 0, 1) := by decide +kernel
theorem d_Part_init_95 : decode b_Part_init 95 = .ok (.bipush 16, 2) := by decide +kernel
theorem d_Part_init_97 : decode b_Part_init 97 = .ok (.newarray .int, 2) := by decide +kernel
theorem d_Part_init_99 : decode b_Part_init 99 = .ok (.putfield 49, 3) := by decide +kernel
theorem d_Part_init_102 : decode b_Part_init 102 = .ok (.return_, 1) := by decide +kernel
theorem d_Linker_init_0 : decode b_Linker_init 0 = .ok (.aload_n 0, 1) := by decide +kernel
theorem d_Linker_init_1 : decode b_Linker_init 1 = .ok (.invokespecial 3, 3) := by decide +kernel
theorem d_Linker_init_4 : decode b_Linker_init 4 = .ok (.aload_n 0, 1) := by decide +kernel
theorem d_Linker_init_5 : decode b_Linker_init 5 = .ok (.iconst 4, 1) := by decide +kernel
theorem d_Linker_init_6 : decode b_Linker_init 6 = .ok (.anewarray 9, 3) := by decide +kernel
theorem d_Linker_init_9 : decode b_Linker_init 9 = .ok (.putfield 11, 3) := by decide +kernel
theorem d_Linker_init_12 : decode b_Linker_init 12 = .ok (.iconst 0, 1) := by decide +kernel
theorem d_Linker_init_13 : decode b_Linker_init 13 = .ok (.istore_n 1, 1) := by decide +kernel
theorem d_Linker_init_14 : decode b_Linker_init 14 = .ok (.iload_n 1, 1) := by decide +kernel
theorem d_Linker_init_15 : decode b_Linker_init 15 = .ok (.iconst 4, 1) := by decide +kernel
theorem d_Linker_init_16 : decode b_Linker_init 16 = .ok (.if_icmp .ge 22, 3) := by decide +kernel
theorem d_Linker_init_19 : decode b_Linker_init 19 = .ok (.aload_n 0, 1) := by decide +kernel
theorem d_Linker_init_20 : decode b_Linker_init 20 = .ok (.getfield 11, 3) := by decide +kernel
theorem d_Linker_init_23 : decode b_Linker_init 23 = .ok (.iload_n 1, 1) := by decide +kernel
theorem d_Linker_init_24 : decode b_Linker_init 24 = .ok (.new 9, 3) := by decide +kernel
theorem d_Linker_init_27 : decode b_Linker_init 27 = .ok (.dup, 1) := by decide +kernel
theorem d_Linker_init_28 : decode b_Linker_init 28 = .ok (.invokespecial 17, 3) := by decide +kernel
theorem d_Linker_init_31 : decode b_Linker_init 31 = .ok (.aastore, 1) := by decide +kernel
theorem d_Linker_init_32 : decode b_Linker_init 32 = .ok (.iinc 1 1, 3) := by decide +kernel
theorem d_Linker_init_35 : decode b_Linker_init 35 = .ok (.goto (-21), 3) := by decide +kernel
theorem d_Linker_init_38 : decode b_Linker_init 38 = .ok (.aload_n 0, 1) := by decide +kernel
theorem d_Linker_init_39 : decode b_Linker_init 39 = .ok (.bipush 8, 2) := by decide +kernel
theorem d_Linker_init_41 : decode b_Linker_init 41 = .ok (.newarray .int, 2) := by decide +kernel
theorem d_Linker_init_43 : decode b_Linker_init 43 = .ok (.putfield 18, 3) := by decide +kernel
theorem d_Linker_init_46 : decode b_Linker_init 46 = .ok (.aload_n 0, 1) := by decide +kernel
theorem d_Linker_init_47 : decode b_Linker_init 47 = .ok (.bipush 16, 2) := by decide +kernel
theorem d_Linker_init_49 : decode b_Linker_init 49 = .ok (.newarray .int, 2) := by decide +kernel
theorem d_Linker_init_51 : decode b_Linker_init 51 = .ok (.putfield 22, 3) := by decide +kernel
theorem d_Linker_init_54 : decode b_Linker_init 54 = .ok (.aload_n 0, 1) := by decide +kernel
theorem d_Linker_init_55 : decode b_Linker_init 55 = .ok (.bipush 16, 2) := by decide +kernel
theorem d_Linker_init_57 : decode b_Linker_init 57 = .ok (.newarray .int, 2) := by decide +kernel
theorem d_Linker_init_59 : decode b_Linker_init 59 = .ok (.putfield 25, 3) := by decide +kernel
theorem d_Linker_init_62 : decode b_Linker_init 62 = .ok (.iconst 0, 1) := by decide +kernel
theorem d_Linker_init_63 : decode b_Linker_init 63 = .ok (.istore_n 1, 1) := by decide +kernel
theorem d_Linker_init_64 : decode b_Linker_init 64 = .ok (.iload_n 1, 1) := by decide +kernel
theorem d_Linker_init_65 : decode b_Linker_init 65 = .ok (.bipush 16, 2) := by decide +kernel
theorem d_Linker_init_67 : decode b_Linker_init 67 = .ok (.if_icmp .ge 16, 3) := by decide +kernel
theorem d_Linker_init_70 : decode b_Linker_init 70 = .ok (.aload_n 0, 1) := by decide +kernel
theorem d_Linker_init_71 : decode b_Linker_init 71 = .ok (.getfield 25, 3) := by decide +kernel
theorem d_Linker_init_74 : decode b_Linker_init 74 = .ok (.iload_n 1, 1) := by decide +kernel
theorem d_Linker_init_75 : decode b_Linker_init 75 = .ok (.iconst (-1), 1) := by decide +kernel
theorem d_Linker_init_76 : decode b_Linker_init 76 = .ok (.iastore, 1) := by decide +kernel
theorem d_Linker_init_77 : decode b_Linker_init 77 = .ok (.iinc 1 1, 3) := by decide +kernel
theorem d_Linker_init_80 : decode b_Linker_init 80 = .ok (.goto (-16), 3) := by decide +kernel
theorem d_Linker_init_83 : decode b_Linker_init 83 = .ok (.return_, 1) := by decide +kernel
theorem d_Image_init_0 : decode b_Image_init 0 = .ok (.aload_n 0, 1) := by decide +kernel
theorem d_Image_init_1 : decode b_Image_init 1 = .ok (.invokespecial 3, 3) := by decide +kernel
theorem d_Image_init_4 : decode b_Image_init 4 = .ok (.aload_n 0, 1) := by decide +kernel
theorem d_Image_init_5 : decode b_Image_init 5 = .ok (.sipush 1000, 3) := by decide +kernel
theorem d_Image_init_8 : decode b_Image_init 8 = .ok (.newarray .int, 2) := by decide +kernel
theorem d_Image_init_10 : decode b_Image_init 10 = .ok (.putfield 9, 3) := by decide +kernel
theorem d_Image_init_13 : decode b_Image_init 13 = .ok (.return_, 1) := by decide +kernel
theorem d_Machine_init_0 : decode b_Machine_init 0 = .ok (.aload_n 0, 1) := by decide +kernel
theorem d_Machine_init_1 : decode b_Machine_init 1 = .ok (.invokespecial 3, 3) := by decide +kernel
theorem d_Machine_init_4 : decode b_Machine_init 4 = .ok (.aload_n 0, 1) := by decide +kernel
theorem d_Machine_init_5 : decode b_Machine_init 5 = .ok (.sipush 241, 3) := by decide +kernel
theorem d_Machine_init_8 : decode b_Machine_init 8 = .ok (.newarray .int, 2) := by decide +kernel
theorem d_Machine_init_10 : decode b_Machine_init 10 = .ok (.putfield 11, 3) := by decide +kernel
theorem d_Machine_init_13 : decode b_Machine_init 13 = .ok (.aload_n 0, 1) := by decide +kernel
theorem d_Machine_init_14 : decode b_Machine_init 14 = .ok (.bipush 32, 2) := by decide +kernel
theorem d_Machine_init_16 : decode b_Machine_init 16 = .ok (.newarray .int, 2) := by decide +kernel
theorem d_Machine_init_18 : decode b_Machine_init 18 = .ok (.putfield 15, 3) := by decide +kernel
theorem d_Machine_init_21 : decode b_Machine_init 21 = .ok (.aload_n 0, 1) := by decide +kernel
theorem d_Machine_init_22 : decode b_Machine_init 22 = .ok (.bipush 16, 2) := by decide +kernel
theorem d_Machine_init_24 : decode b_Machine_init 24 = .ok (.newarray .int, 2) := by decide +kernel
theorem d_Machine_init_26 : decode b_Machine_init 26 = .ok (.putfield 18, 3) := by decide +kernel
theorem d_Machine_init_29 : decode b_Machine_init 29 = .ok (.return_, 1) := by decide +kernel
theorem d_Mill_init_0 : decode b_Mill_init 0 = .ok (.aload_n 0, 1) := by decide +kernel
theorem d_Mill_init_1 : decode b_Mill_init 1 = .ok (.invokespecial 1, 3) := by decide +kernel
theorem d_Mill_init_4 : decode b_Mill_init 4 = .ok (.aload_n 0, 1) := by decide +kernel
theorem d_Mill_init_5 : decode b_Mill_init 5 = .ok (.new 7, 3) := by decide +kernel
theorem d_Mill_init_8 : decode b_Mill_init 8 = .ok (.dup, 1) := by decide +kernel
theorem d_Mill_init_9 : decode b_Mill_init 9 = .ok (.invokespecial 9, 3) := by decide +kernel
theorem d_Mill_init_12 : decode b_Mill_init 12 = .ok (.putfield 10, 3) := by decide +kernel
theorem d_Mill_init_15 : decode b_Mill_init 15 = .ok (.aload_n 0, 1) := by decide +kernel
theorem d_Mill_init_16 : decode b_Mill_init 16 = .ok (.new 16, 3) := by decide +kernel
theorem d_Mill_init_19 : decode b_Mill_init 19 = .ok (.dup, 1) := by decide +kernel
theorem d_Mill_init_20 : decode b_Mill_init 20 = .ok (.invokespecial 18, 3) := by decide +kernel
theorem d_Mill_init_23 : decode b_Mill_init 23 = .ok (.putfield 19, 3) := by decide +kernel
theorem d_Mill_init_26 : decode b_Mill_init 26 = .ok (.aload_n 0, 1) := by decide +kernel
theorem d_Mill_init_27 : decode b_Mill_init 27 = .ok (.new 23, 3) := by decide +kernel
theorem d_Mill_init_30 : decode b_Mill_init 30 = .ok (.dup, 1) := by decide +kernel
theorem d_Mill_init_31 : decode b_Mill_init 31 = .ok (.invokespecial 25, 3) := by decide +kernel
theorem d_Mill_init_34 : decode b_Mill_init 34 = .ok (.putfield 26, 3) := by decide +kernel
theorem d_Mill_init_37 : decode b_Mill_init 37 = .ok (.return_, 1) := by decide +kernel
theorem d_Model_init_0 : decode b_Model_init 0 = .ok (.aload_n 0, 1) := by decide +kernel
theorem d_Model_init_1 : decode b_Model_init 1 = .ok (.invokespecial 1, 3) := by decide +kernel
theorem d_Model_init_4 : decode b_Model_init 4 = .ok (.aload_n 0, 1) := by decide +kernel
theorem d_Model_init_5 : decode b_Model_init 5 = .ok (.sipush 192, 3) := by decide +kernel
theorem d_Model_init_8 : decode b_Model_init 8 = .ok (.newarray .int, 2) := by decide +kernel
theorem d_Model_init_10 : decode b_Model_init 10 = .ok (.putfield 7, 3) := by decide +kernel
theorem d_Model_init_13 : decode b_Model_init 13 = .ok (.aload_n 0, 1) := by decide +kernel
theorem d_Model_init_14 : decode b_Model_init 14 = .ok (.bipush 8, 2) := by decide +kernel
theorem d_Model_init_16 : decode b_Model_init 16 = .ok (.newarray .int, 2) := by decide +kernel
theorem d_Model_init_18 : decode b_Model_init 18 = .ok (.putfield 13, 3) := by decide +kernel
theorem d_Model_init_21 : decode b_Model_init 21 = .ok (.aload_n 0, 1) := by decide +kernel
theorem d_Model_init_22 : decode b_Model_init 22 = .ok (.iconst 4, 1) := by decide +kernel
theorem d_Model_init_23 : decode b_Model_init 23 = .ok (.newarray .int, 2) := by decide +kernel
theorem d_Model_init_25 : decode b_Model_init 25 = .ok (.putfield 16, 3) := by decide +kernel
theorem d_Model_init_28 : decode b_Model_init 28 = .ok (.aload_n 0, 1) := by decide +kernel
theorem d_Model_init_29 : decode b_Model_init 29 = .ok (.bipush 32, 2) := by decide +kernel
theorem d_Model_init_31 : decode b_Model_init 31 = .ok (.newarray .int, 2) := by decide +kernel
theorem d_Model_init_33 : decode b_Model_init 33 = .ok (.putfield 19, 3) := by decide +kernel
theorem d_Model_init_36 : decode b_Model_init 36 = .ok (.aload_n 0, 1) := by decide +kernel
theorem d_Model_init_37 : decode b_Model_init 37 = .ok (.bipush 32, 2) := by decide +kernel
theorem d_Model_init_39 : decode b_Model_init 39 = .ok (.newarray .int, 2) := by decide +kernel
theorem d_Model_init_41 : decode b_Model_init 41 = .ok (.putfield 22, 3) := by decide +kernel
theorem d_Model_init_44 : decode b_Model_init 44 = .ok (.aload_n 0, 1) := by decide +kernel
theorem d_Model_init_45 : decode b_Model_init 45 = .ok (.bipush 32, 2) := by decide +kernel
theorem d_Model_init_47 : decode b_Model_init 47 = .ok (.newarray .int, 2) := by decide +kernel
theorem d_Model_init_49 : decode b_Model_init 49 = .ok (.putfield 25, 3) := by decide +kernel
theorem d_Model_init_52 : decode b_Model_init 52 = .ok (.aload_n 0, 1) := by decide +kernel
theorem d_Model_init_53 : decode b_Model_init 53 = .ok (.bipush 32, 2) := by decide +kernel
theorem d_Model_init_55 : decode b_Model_init 55 = .ok (.newarray .boolean, 2) := by decide +kernel
theorem d_Model_init_57 : decode b_Model_init 57 = .ok (.putfield 28, 3) := by decide +kernel
theorem d_Model_init_60 : decode b_Model_init 60 = .ok (.aload_n 0, 1) := by decide +kernel
theorem d_Model_init_61 : decode b_Model_init 61 = .ok (.iconst 4, 1) := by decide +kernel
theorem d_Model_init_62 : decode b_Model_init 62 = .ok (.newarray .int, 2) := by decide +kernel
theorem d_Model_init_64 : decode b_Model_init 64 = .ok (.putfield 32, 3) := by decide +kernel
theorem d_Model_init_67 : decode b_Model_init 67 = .ok (.aload_n 0, 1) := by decide +kernel
theorem d_Model_init_68 : decode b_Model_init 68 = .ok (.bipush 64, 2) := by decide +kernel
theorem d_Model_init_70 : decode b_Model_init 70 = .ok (.newarray .int, 2) := by decide +kernel
theorem d_Model_init_72 : decode b_Model_init 72 = .ok (.putfield 35, 3) := by decide +kernel
theorem d_Model_init_75 : decode b_Model_init 75 = .ok (.aload_n 0, 1) := by decide +kernel
theorem d_Model_init_76 : decode b_Model_init 76 = .ok (.bipush 64, 2) := by decide +kernel
theorem d_Model_init_78 : decode b_Model_init 78 = .ok (.newarray .int, 2) := by decide +kernel
theorem d_Model_init_80 : decode b_Model_init 80 = .ok (.putfield 38, 3) := by decide +kernel
theorem d_Model_init_83 : decode b_Model_init 83 = .ok (.aload_n 0, 1) := by decide +kernel
theorem d_Model_init_84 : decode b_Model_init 84 = .ok (.bipush 64, 2) := by decide +kernel
theorem d_Model_init_86 : decode b_Model_init 86 = .ok (.newarray .int, 2) := by decide +kernel
theorem d_Model_init_88 : decode b_Model_init 88 = .ok (.putfield 41, 3) := by decide +kernel
theorem d_Model_init_91 : decode b_Model_init 91 = .ok (.aload_n 0, 1) := by decide +kernel
theorem d_Model_init_92 : decode b_Model_init 92 = .ok (.bipush 64, 2) := by decide +kernel
theorem d_Model_init_94 : decode b_Model_init 94 = .ok (.newarray .int, 2) := by decide +kernel
theorem d_Model_init_96 : decode b_Model_init 96 = .ok (.putfield 44, 3) := by decide +kernel
theorem d_Model_init_99 : decode b_Model_init 99 = .ok (.aload_n 0, 1) := by decide +kernel
theorem d_Model_init_100 : decode b_Model_init 100 = .ok (.bipush 64, 2) := by decide +kernel
theorem d_Model_init_102 : decode b_Model_init 102 = .ok (.newarray .int, 2) := by decide +kernel
theorem d_Model_init_104 : decode b_Model_init 104 = .ok (.putfield 47, 3) := by decide +kernel
theorem d_Model_init_107 : decode b_Model_init 107 = .ok (.aload_n 0, 1) := by decide +kernel
theorem d_Model_init_108 : decode b_Model_init 108 = .ok (.sipush 192, 3) := by decide +kernel
theorem d_Model_init_111 : decode b_Model_init 111 = .ok (.newarray .int, 2) := by decide +kernel
theorem d_Model_init_113 : decode b_Model_init 113 = .ok (.putfield 50, 3) := by decide +kernel
theorem d_Model_init_116 : decode b_Model_init 116 = .ok (.aload_n 0, 1) := by decide +kernel
theorem d_Model_init_117 : decode b_Model_init 117 = .ok (.bipush 8, 2) := by decide +kernel
theorem d_Model_init_119 : decode b_Model_init 119 = .ok (.newarray .int, 2) := by decide +kernel
theorem d_Model_init_121 : decode b_Model_init 121 = .ok (.putfield 53, 3) := by decide +kernel
theorem d_Model_init_124 : decode b_Model_init 124 = .ok (.aload_n 0, 1) := by decide +kernel
theorem d_Model_init_125 : decode b_Model_init 125 = .ok (.bipush 16, 2) := by decide +kernel
theorem d_Model_init_127 : decode b_Model_init 127 = .ok (.newarray .boolean, 2) := by decide +kernel
theorem d_Model_init_129 : decode b_Model_init 129 = .ok (.putfield 56, 3) := by decide +kernel
theorem d_Model_init_132 : decode b_Model_init 132 = .ok (.aload_n 0, 1) := by decide +kernel
theorem d_Model_init_133 : decode b_Model_init 133 = .ok (.bipush 16, 2) := by decide +kernel
theorem d_Model_init_135 : decode b_Model_init 135 = .ok (.newarray .int, 2) := by decide +kernel
theorem d_Model_init_137 : decode b_Model_init 137 = .ok (.putfield 59, 3) := by decide +kernel
theorem d_Model_init_140 : decode b_Model_init 140 = .ok (.aload_n 0, 1) := by decide +kernel
theorem d_Model_init_141 : decode b_Model_init 141 = .ok (.sipush 1000, 3) := by decide +kernel
theorem d_Model_init_144 : decode b_Model_init 144 = .ok (.newarray .int, 2) := by decide +kernel
theorem d_Model_init_146 : decode b_Model_init 146 = .ok (.putfield 62, 3) := by decide +kernel
theorem d_Model_init_149 : decode b_Model_init 149 = .ok (.aload_n 0, 1) := by decide +kernel
theorem d_Model_init_150 : decode b_Model_init 150 = .ok (.sipush 250, 3) := by decide +kernel
theorem d_Model_init_153 : decode b_Model_init 153 = .ok (.newarray .int, 2) := by decide +kernel
theorem d_Model_init_155 : decode b_Model_init 155 = .ok (.putfield 65, 3) := by decide +kernel
theorem d_Model_init_158 : decode b_Model_init 158 = .ok (.aload_n 0, 1) := by decide +kernel
theorem d_Model_init_159 : decode b_Model_init 159 = .ok (.bipush 32, 2) := by decide +kernel
theorem d_Model_init_161 : decode b_Model_init 161 = .ok (.newarray .int, 2) := by decide +kernel
theorem d_Model_init_163 : decode b_Model_init 163 = .ok (.putfield 68, 3) := by decide +kernel
theorem d_Model_init_166 : decode b_Model_init 166 = .ok (.aload_n 0, 1) := by decide +kernel
theorem d_Model_init_167 : decode b_Model_init 167 = .ok (.bipush 16, 2) := by decide +kernel
theorem d_Model_init_169 : decode b_Model_init 169 = .ok (.newarray .int, 2) := by decide +kernel
theorem d_Model_init_171 : decode b_Model_init 171 = .ok (.putfield 71, 3) := by decide +kernel
theorem d_Model_init_174 : decode b_Model_init 174 = .ok (.return_, 1) := by decide +kernel
