theorem w_634 : Jvm.Cond.methodLink "PeaTube$AimSearch" (3 : Nat) ({ cls := "java/lang/Object", name := "<init>", desc := "()V" } : Jvm.MethodName) ∈ Gw := gwt_3 15 rfl rfl
theorem w_166 : Jvm.Cond.instanceMethod ({ cls := "java/lang/Object", name := "<init>", desc := "()V" } : Jvm.MethodName) ∈ Gw := gwt_1 27 rfl rfl
theorem w_167 : Jvm.Cond.code ({ cls := "java/lang/Object", name := "<init>", desc := "()V" } : Jvm.MethodName) object_method_1_code (1 : Nat) (Option.none : Option Jvm.ClassFile.FieldType) ∈ Gw := gwt_1 28 rfl rfl
theorem w_647 : Jvm.Cond.methodLink "PeaTube$Best" (3 : Nat) ({ cls := "java/lang/Object", name := "<init>", desc := "()V" } : Jvm.MethodName) ∈ Gw := gwt_3 28 rfl rfl
theorem w_616 : Jvm.Cond.methodLink "PeaTube$Chances" (3 : Nat) ({ cls := "java/lang/Object", name := "<init>", desc := "()V" } : Jvm.MethodName) ∈ Gw := gwt_2 237 rfl rfl
theorem w_414 : Jvm.Cond.methodLink "PeaTube$Round" (3 : Nat) ({ cls := "java/lang/Object", name := "<init>", desc := "()V" } : Jvm.MethodName) ∈ Gw := gwt_2 35 rfl rfl
theorem w_535 : Jvm.Cond.methodLink "PeaTube$Shot" (3 : Nat) ({ cls := "java/lang/Object", name := "<init>", desc := "()V" } : Jvm.MethodName) ∈ Gw := gwt_2 156 rfl rfl
theorem w_459 : Jvm.Cond.methodLink "PeaTube$Tally" (3 : Nat) ({ cls := "java/lang/Object", name := "<init>", desc := "()V" } : Jvm.MethodName) ∈ Gw := gwt_2 80 rfl rfl
theorem w_174 : Jvm.Cond.methodLink "PeaTube$Tray" (3 : Nat) ({ cls := "java/lang/Object", name := "<init>", desc := "()V" } : Jvm.MethodName) ∈ Gw := gwt_1 35 rfl rfl
theorem w_314 : Jvm.Cond.methodLink "PeaTube$Tent" (3 : Nat) ({ cls := "java/lang/Object", name := "<init>", desc := "()V" } : Jvm.MethodName) ∈ Gw := gwt_1 175 rfl rfl
theorem w_513 : Jvm.Cond.methodLink "PeaTube$Kept" (1 : Nat) ({ cls := "java/lang/Object", name := "<init>", desc := "()V" } : Jvm.MethodName) ∈ Gw := gwt_2 134 rfl rfl
theorem w_312 : Jvm.Cond.instanceMethod ({ cls := "PeaTube$Tent", name := "<init>", desc := "()V" } : Jvm.MethodName) ∈ Gw := gwt_1 173 rfl rfl
theorem w_515 : Jvm.Cond.methodLink "PeaTube$Kept" (9 : Nat) ({ cls := "PeaTube$Tent", name := "<init>", desc := "()V" } : Jvm.MethodName) ∈ Gw := gwt_2 136 rfl rfl
theorem w_412 : Jvm.Cond.instanceMethod ({ cls := "PeaTube$Round", name := "<init>", desc := "()V" } : Jvm.MethodName) ∈ Gw := gwt_2 33 rfl rfl
theorem w_457 : Jvm.Cond.instanceMethod ({ cls := "PeaTube$Tally", name := "<init>", desc := "()V" } : Jvm.MethodName) ∈ Gw := gwt_2 78 rfl rfl
theorem w_670 : Jvm.Cond.methodLink "PeaTube$Player" (3 : Nat) ({ cls := "java/lang/Object", name := "<init>", desc := "()V" } : Jvm.MethodName) ∈ Gw := gwt_3 51 rfl rfl
theorem w_533 : Jvm.Cond.instanceMethod ({ cls := "PeaTube$Shot", name := "<init>", desc := "()V" } : Jvm.MethodName) ∈ Gw := gwt_2 154 rfl rfl
theorem w_1453 : Jvm.Cond.methodLink "PeaTubeModel" (1 : Nat) ({ cls := "java/lang/Object", name := "<init>", desc := "()V" } : Jvm.MethodName) ∈ Gw := gwt_6 114 rfl rfl
theorem w_165 : Jvm.Cond.methodLink "PeaTube" (3 : Nat) ({ cls := "java/lang/Object", name := "<init>", desc := "()V" } : Jvm.MethodName) ∈ Gw := gwt_1 26 rfl rfl
theorem w_172 : Jvm.Cond.instanceMethod ({ cls := "PeaTube$Tray", name := "<init>", desc := "()V" } : Jvm.MethodName) ∈ Gw := gwt_1 33 rfl rfl
theorem w_195 : Jvm.Cond.instanceMethod ({ cls := "PeaTube$Tape", name := "<init>", desc := "()V" } : Jvm.MethodName) ∈ Gw := gwt_1 56 rfl rfl
theorem w_194 : Jvm.Cond.methodLink "PeaTube" (29 : Nat) ({ cls := "PeaTube$Tape", name := "<init>", desc := "()V" } : Jvm.MethodName) ∈ Gw := gwt_1 55 rfl rfl
theorem w_311 : Jvm.Cond.methodLink "PeaTube" (36 : Nat) ({ cls := "PeaTube$Tent", name := "<init>", desc := "()V" } : Jvm.MethodName) ∈ Gw := gwt_1 172 rfl rfl
theorem w_511 : Jvm.Cond.instanceMethod ({ cls := "PeaTube$Kept", name := "<init>", desc := "()V" } : Jvm.MethodName) ∈ Gw := gwt_2 132 rfl rfl
theorem w_614 : Jvm.Cond.instanceMethod ({ cls := "PeaTube$Chances", name := "<init>", desc := "()V" } : Jvm.MethodName) ∈ Gw := gwt_2 235 rfl rfl
theorem w_632 : Jvm.Cond.instanceMethod ({ cls := "PeaTube$AimSearch", name := "<init>", desc := "()V" } : Jvm.MethodName) ∈ Gw := gwt_3 13 rfl rfl
theorem w_645 : Jvm.Cond.instanceMethod ({ cls := "PeaTube$Best", name := "<init>", desc := "()V" } : Jvm.MethodName) ∈ Gw := gwt_3 26 rfl rfl
theorem w_668 : Jvm.Cond.instanceMethod ({ cls := "PeaTube$Player", name := "<init>", desc := "()V" } : Jvm.MethodName) ∈ Gw := gwt_3 49 rfl rfl
theorem w_633 : Jvm.Cond.code ({ cls := "PeaTube$AimSearch", name := "<init>", desc := "()V" } : Jvm.MethodName) prog_2_method_1_code (1 : Nat) (Option.none : Option Jvm.ClassFile.FieldType) ∈ Gw := gwt_3 14 rfl rfl
theorem w_646 : Jvm.Cond.code ({ cls := "PeaTube$Best", name := "<init>", desc := "()V" } : Jvm.MethodName) prog_3_method_1_code (1 : Nat) (Option.none : Option Jvm.ClassFile.FieldType) ∈ Gw := gwt_3 27 rfl rfl
theorem w_615 : Jvm.Cond.code ({ cls := "PeaTube$Chances", name := "<init>", desc := "()V" } : Jvm.MethodName) prog_4_method_1_code (1 : Nat) (Option.none : Option Jvm.ClassFile.FieldType) ∈ Gw := gwt_2 236 rfl rfl
theorem w_512 : Jvm.Cond.code ({ cls := "PeaTube$Kept", name := "<init>", desc := "()V" } : Jvm.MethodName) prog_5_method_1_code (1 : Nat) (Option.none : Option Jvm.ClassFile.FieldType) ∈ Gw := gwt_2 133 rfl rfl
theorem w_669 : Jvm.Cond.code ({ cls := "PeaTube$Player", name := "<init>", desc := "()V" } : Jvm.MethodName) prog_6_method_1_code (1 : Nat) (Option.none : Option Jvm.ClassFile.FieldType) ∈ Gw := gwt_3 50 rfl rfl
theorem w_413 : Jvm.Cond.code ({ cls := "PeaTube$Round", name := "<init>", desc := "()V" } : Jvm.MethodName) prog_7_method_1_code (1 : Nat) (Option.none : Option Jvm.ClassFile.FieldType) ∈ Gw := gwt_2 34 rfl rfl
theorem w_534 : Jvm.Cond.code ({ cls := "PeaTube$Shot", name := "<init>", desc := "()V" } : Jvm.MethodName) prog_8_method_1_code (1 : Nat) (Option.none : Option Jvm.ClassFile.FieldType) ∈ Gw := gwt_2 155 rfl rfl
theorem w_458 : Jvm.Cond.code ({ cls := "PeaTube$Tally", name := "<init>", desc := "()V" } : Jvm.MethodName) prog_9_method_1_code (1 : Nat) (Option.none : Option Jvm.ClassFile.FieldType) ∈ Gw := gwt_2 79 rfl rfl
theorem w_196 : Jvm.Cond.code ({ cls := "PeaTube$Tape", name := "<init>", desc := "()V" } : Jvm.MethodName) prog_10_method_1_code (5 : Nat) (Option.none : Option Jvm.ClassFile.FieldType) ∈ Gw := gwt_1 57 rfl rfl
theorem w_313 : Jvm.Cond.code ({ cls := "PeaTube$Tent", name := "<init>", desc := "()V" } : Jvm.MethodName) prog_11_method_1_code (1 : Nat) (Option.none : Option Jvm.ClassFile.FieldType) ∈ Gw := gwt_1 174 rfl rfl
theorem w_173 : Jvm.Cond.code ({ cls := "PeaTube$Tray", name := "<init>", desc := "()V" } : Jvm.MethodName) prog_12_method_1_code (1 : Nat) (Option.none : Option Jvm.ClassFile.FieldType) ∈ Gw := gwt_1 34 rfl rfl
theorem w_164 : Jvm.Cond.code ({ cls := "PeaTube", name := "<init>", desc := "()V" } : Jvm.MethodName) prog_1_method_1_code (2 : Nat) (Option.none : Option Jvm.ClassFile.FieldType) ∈ Gw := gwt_1 25 rfl rfl
theorem w_1452 : Jvm.Cond.code ({ cls := "PeaTubeModel", name := "<init>", desc := "()V" } : Jvm.MethodName) prog_14_method_1_code (2 : Nat) (Option.none : Option Jvm.ClassFile.FieldType) ∈ Gw := gwt_6 113 rfl rfl
theorem w_408 : Jvm.Cond.arrayClass Jvm.ClassFile.FieldType.int ∈ Gw := gwt_2 29 rfl rfl
theorem w_191 : Jvm.Cond.arrayClass Jvm.ClassFile.FieldType.long ∈ Gw := gwt_1 52 rfl rfl
theorem w_514 : Jvm.Cond.classLink "PeaTube$Kept" (7 : Nat) "PeaTube$Tent" ∈ Gw := gwt_2 135 rfl rfl
theorem w_310 : Jvm.Cond.instantiable "PeaTube$Tent" (20 : Nat) ∈ Gw := gwt_1 171 rfl rfl
theorem w_516 : Jvm.Cond.classLink "PeaTube$Kept" (16 : Nat) "PeaTube$Round" ∈ Gw := gwt_2 137 rfl rfl
theorem w_410 : Jvm.Cond.instantiable "PeaTube$Round" (10 : Nat) ∈ Gw := gwt_2 31 rfl rfl
theorem w_518 : Jvm.Cond.classLink "PeaTube$Kept" (23 : Nat) "PeaTube$Tally" ∈ Gw := gwt_2 139 rfl rfl
theorem w_455 : Jvm.Cond.instantiable "PeaTube$Tally" (11 : Nat) ∈ Gw := gwt_2 76 rfl rfl
theorem w_671 : Jvm.Cond.classLink "PeaTube$Player" (17 : Nat) "PeaTube$Shot" ∈ Gw := gwt_3 52 rfl rfl
theorem w_531 : Jvm.Cond.instantiable "PeaTube$Shot" (14 : Nat) ∈ Gw := gwt_2 152 rfl rfl
theorem w_308 : Jvm.Cond.arrayClass Jvm.ClassFile.FieldType.byte ∈ Gw := gwt_1 169 rfl rfl
theorem w_168 : Jvm.Cond.classLink "PeaTube" (20 : Nat) "PeaTube$Tray" ∈ Gw := gwt_1 29 rfl rfl
theorem w_170 : Jvm.Cond.instantiable "PeaTube$Tray" (4 : Nat) ∈ Gw := gwt_1 31 rfl rfl
theorem w_192 : Jvm.Cond.classLink "PeaTube" (27 : Nat) "PeaTube$Tape" ∈ Gw := gwt_1 53 rfl rfl
theorem w_193 : Jvm.Cond.instantiable "PeaTube$Tape" (14 : Nat) ∈ Gw := gwt_1 54 rfl rfl
theorem w_309 : Jvm.Cond.classLink "PeaTube" (34 : Nat) "PeaTube$Tent" ∈ Gw := gwt_1 170 rfl rfl
theorem w_409 : Jvm.Cond.classLink "PeaTube" (44 : Nat) "PeaTube$Round" ∈ Gw := gwt_2 30 rfl rfl
theorem w_454 : Jvm.Cond.classLink "PeaTube" (54 : Nat) "PeaTube$Tally" ∈ Gw := gwt_2 75 rfl rfl
theorem w_507 : Jvm.Cond.classLink "PeaTube" (64 : Nat) "PeaTube$Kept" ∈ Gw := gwt_2 128 rfl rfl
theorem w_509 : Jvm.Cond.instantiable "PeaTube$Kept" (3 : Nat) ∈ Gw := gwt_2 130 rfl rfl
theorem w_530 : Jvm.Cond.classLink "PeaTube" (74 : Nat) "PeaTube$Shot" ∈ Gw := gwt_2 151 rfl rfl
theorem w_611 : Jvm.Cond.classLink "PeaTube" (81 : Nat) "PeaTube$Chances" ∈ Gw := gwt_2 232 rfl rfl
theorem w_612 : Jvm.Cond.instantiable "PeaTube$Chances" (3 : Nat) ∈ Gw := gwt_2 233 rfl rfl
theorem w_629 : Jvm.Cond.classLink "PeaTube" (92 : Nat) "PeaTube$AimSearch" ∈ Gw := gwt_3 10 rfl rfl
theorem w_630 : Jvm.Cond.instantiable "PeaTube$AimSearch" (2 : Nat) ∈ Gw := gwt_3 11 rfl rfl
theorem w_642 : Jvm.Cond.classLink "PeaTube" (99 : Nat) "PeaTube$Best" ∈ Gw := gwt_3 23 rfl rfl
theorem w_643 : Jvm.Cond.instantiable "PeaTube$Best" (4 : Nat) ∈ Gw := gwt_3 24 rfl rfl
theorem w_665 : Jvm.Cond.classLink "PeaTube" (106 : Nat) "PeaTube$Player" ∈ Gw := gwt_3 46 rfl rfl
theorem w_666 : Jvm.Cond.instantiable "PeaTube$Player" (12 : Nat) ∈ Gw := gwt_3 47 rfl rfl
theorem dX0_init_0 : decode cX0_init 0 = .ok (.aload_n 0, 1) := by decide +kernel
theorem dX0_init_1 : decode cX0_init 1 = .ok (.invokespecial 3, 3) := by decide +kernel
theorem dX0_init_4 : decode cX0_init 4 = .ok (.aload_n 0, 1) := by decide +kernel
theorem dX0_init_5 : decode cX0_init 5 = .ok (.bipush 41, 2) := by decide +kernel
theorem dX0_init_7 : decode cX0_init 7 = .ok (.newarray .int, 2) := by decide +kernel
theorem dX0_init_9 : decode cX0_init 9 = .ok (.putfield 9, 3) := by decide +kernel
theorem dX0_init_12 : decode cX0_init 12 = .ok (.aload_n 0, 1) := by decide +kernel
theorem dX0_init_13 : decode cX0_init 13 = .ok (.bipush 53, 2) := by decide +kernel
theorem dX0_init_15 : decode cX0_init 15 = .ok (.newarray .int, 2) := by decide +kernel
theorem dX0_init_17 : decode cX0_init 17 = .ok (.putfield 15, 3) := by decide +kernel
theorem dX0_init_20 : decode cX0_init 20 = .ok (.return_, 1) := by decide +kernel
abbrev M0_init : MD := (yX0_init, cX0_init, 1, none)
theorem mk_0_init : MOK M0_init 0 := ⟨w_633, w_153, ⟨by decide +kernel, by decide +kernel, by decide +kernel⟩, by decide⟩
theorem dX1_init_0 : decode cX1_init 0 = .ok (.aload_n 0, 1) := by decide +kernel
theorem dX1_init_1 : decode cX1_init 1 = .ok (.invokespecial 3, 3) := by decide +kernel
theorem dX1_init_4 : decode cX1_init 4 = .ok (.return_, 1) := by decide +kernel
abbrev M1_init : MD := (yX1_init, cX1_init, 1, none)
theorem mk_1_init : MOK M1_init 0 := ⟨w_646, w_154, ⟨by decide +kernel, by decide +kernel, by decide +kernel⟩, by decide⟩
theorem dX2_init_0 : decode cX2_init 0 = .ok (.aload_n 0, 1) := by decide +kernel
theorem dX2_init_1 : decode cX2_init 1 = .ok (.invokespecial 3, 3) := by decide +kernel
theorem dX2_init_4 : decode cX2_init 4 = .ok (.aload_n 0, 1) := by decide +kernel
theorem dX2_init_5 : decode cX2_init 5 = .ok (.bipush 21, 2) := by decide +kernel
theorem dX2_init_7 : decode cX2_init 7 = .ok (.newarray .int, 2) := by decide +kernel
theorem dX2_init_9 : decode cX2_init 9 = .ok (.putfield 9, 3) := by decide +kernel
theorem dX2_init_12 : decode cX2_init 12 = .ok (.aload_n 0, 1) := by decide +kernel
theorem dX2_init_13 : decode cX2_init 13 = .ok (.bipush 101, 2) := by decide +kernel
theorem dX2_init_15 : decode cX2_init 15 = .ok (.newarray .long, 2) := by decide +kernel
theorem dX2_init_17 : decode cX2_init 17 = .ok (.putfield 15, 3) := by decide +kernel
theorem dX2_init_20 : decode cX2_init 20 = .ok (.return_, 1) := by decide +kernel
abbrev M2_init : MD := (yX2_init, cX2_init, 1, none)
theorem mk_2_init : MOK M2_init 0 := ⟨w_615, w_152, ⟨by decide +kernel, by decide +kernel, by decide +kernel⟩, by decide⟩
theorem dX3_init_0 : decode cX3_init 0 = .ok (.aload_n 0, 1) := by decide +kernel
theorem dX3_init_1 : decode cX3_init 1 = .ok (.invokespecial 1, 3) := by decide +kernel
theorem dX3_init_4 : decode cX3_init 4 = .ok (.aload_n 0, 1) := by decide +kernel
theorem dX3_init_5 : decode cX3_init 5 = .ok (.new 7, 3) := by decide +kernel
theorem dX3_init_8 : decode cX3_init 8 = .ok (.dup, 1) := by decide +kernel
theorem dX3_init_9 : decode cX3_init 9 = .ok (.invokespecial 9, 3) := by decide +kernel
theorem dX3_init_12 : decode cX3_init 12 = .ok (.putfield 10, 3) := by decide +kernel
theorem dX3_init_15 : decode cX3_init 15 = .ok (.aload_n 0, 1) := by decide +kernel
theorem dX3_init_16 : decode cX3_init 16 = .ok (.new 16, 3) := by decide +kernel
theorem dX3_init_19 : decode cX3_init 19 = .ok (.dup, 1) := by decide +kernel
theorem dX3_init_20 : decode cX3_init 20 = .ok (.invokespecial 18, 3) := by decide +kernel
theorem dX3_init_23 : decode cX3_init 23 = .ok (.putfield 19, 3) := by decide +kernel
theorem dX3_init_26 : decode cX3_init 26 = .ok (.aload_n 0, 1) := by decide +kernel
theorem dX3_init_27 : decode cX3_init 27 = .ok (.new 23, 3) := by decide +kernel
theorem dX3_init_30 : decode cX3_init 30 = .ok (.dup, 1) := by decide +kernel
theorem dX3_init_31 : decode cX3_init 31 = .ok (.invokespecial 25, 3) := by decide +kernel
theorem dX3_init_34 : decode cX3_init 34 = .ok (.putfield 26, 3) := by decide +kernel
theorem dX3_init_37 : decode cX3_init 37 = .ok (.return_, 1) := by decide +kernel
abbrev M3_init : MD := (yX3_init, cX3_init, 1, none)
theorem mk_3_init : MOK M3_init 0 := ⟨w_512, w_150, ⟨by decide +kernel, by decide +kernel, by decide +kernel⟩, by decide⟩
theorem dX4_init_0 : decode cX4_init 0 = .ok (.aload_n 0, 1) := by decide +kernel
theorem dX4_init_1 : decode cX4_init 1 = .ok (.invokespecial 3, 3) := by decide +kernel
theorem dX4_init_4 : decode cX4_init 4 = .ok (.aload_n 0, 1) := by decide +kernel
theorem dX4_init_5 : decode cX4_init 5 = .ok (.bipush 60, 2) := by decide +kernel
theorem dX4_init_7 : decode cX4_init 7 = .ok (.newarray .int, 2) := by decide +kernel
theorem dX4_init_9 : decode cX4_init 9 = .ok (.putfield 11, 3) := by decide +kernel
theorem dX4_init_12 : decode cX4_init 12 = .ok (.aload_n 0, 1) := by decide +kernel
theorem dX4_init_13 : decode cX4_init 13 = .ok (.new 17, 3) := by decide +kernel
theorem dX4_init_16 : decode cX4_init 16 = .ok (.dup, 1) := by decide +kernel
theorem dX4_init_17 : decode cX4_init 17 = .ok (.invokespecial 19, 3) := by decide +kernel
theorem dX4_init_20 : decode cX4_init 20 = .ok (.putfield 20, 3) := by decide +kernel
theorem dX4_init_23 : decode cX4_init 23 = .ok (.return_, 1) := by decide +kernel
abbrev M4_init : MD := (yX4_init, cX4_init, 1, none)
theorem mk_4_init : MOK M4_init 0 := ⟨w_669, w_155, ⟨by decide +kernel, by decide +kernel, by decide +kernel⟩, by decide⟩
theorem dX5_init_0 : decode cX5_init 0 = .ok (.aload_n 0, 1) := by decide +kernel
theorem dX5_init_1 : decode cX5_init 1 = .ok (.invokespecial 3, 3) := by decide +kernel
theorem dX5_init_4 : decode cX5_init 4 = .ok (.aload_n 0, 1) := by decide +kernel
theorem dX5_init_5 : decode cX5_init 5 = .ok (.bipush 60, 2) := by decide +kernel
theorem dX5_init_7 : decode cX5_init 7 = .ok (.newarray .int, 2) := by decide +kernel
theorem dX5_init_9 : decode cX5_init 9 = .ok (.putfield 11, 3) := by decide +kernel
theorem dX5_init_12 : decode cX5_init 12 = .ok (.aload_n 0, 1) := by decide +kernel
theorem dX5_init_13 : decode cX5_init 13 = .ok (.bipush 60, 2) := by decide +kernel
theorem dX5_init_15 : decode cX5_init 15 = .ok (.newarray .int, 2) := by decide +kernel
theorem dX5_init_17 : decode cX5_init 17 = .ok (.putfield 15, 3) := by decide +kernel
theorem dX5_init_20 : decode cX5_init 20 = .ok (.aload_n 0, 1) := by decide +kernel
theorem dX5_init_21 : decode cX5_init 21 = .ok (.bipush 60, 2) := by decide +kernel
theorem dX5_init_23 : decode cX5_init 23 = .ok (.newarray .int, 2) := by decide +kernel
theorem dX5_init_25 : decode cX5_init 25 = .ok (.putfield 18, 3) := by decide +kernel
theorem dX5_init_28 : decode cX5_init 28 = .ok (.aload_n 0, 1) := by decide +kernel
theorem dX5_init_29 : decode cX5_init 29 = .ok (.bipush 60, 2) := by decide +kernel
theorem dX5_init_31 : decode cX5_init 31 = .ok (.newarray .int, 2) := by decide +kernel
theorem dX5_init_33 : decode cX5_init 33 = .ok (.putfield 21, 3) := by decide +kernel
theorem dX5_init_36 : decode cX5_init 36 = .ok (.aload_n 0, 1) := by decide +kernel
theorem dX5_init_37 : decode cX5_init 37 = .ok (.bipush 60, 2) := by decide +kernel
theorem dX5_init_39 : decode cX5_init 39 = .ok (.newarray .int, 2) := by decide +kernel
theorem dX5_init_41 : decode cX5_init 41 = .ok (.putfield 24, 3) := by decide +kernel
theorem dX5_init_44 : decode cX5_init 44 = .ok (.aload_n 0, 1) := by decide +kernel
theorem dX5_init_45 : decode cX5_init 45 = .ok (.iconst 3, 1) := by decide +kernel
theorem dX5_init_46 : decode cX5_init 46 = .ok (.newarray .int, 2) := by decide +kernel
theorem dX5_init_48 : decode cX5_init 48 = .ok (.putfield 27, 3) := by decide +kernel
theorem dX5_init_51 : decode cX5_init 51 = .ok (.return_, 1) := by decide +kernel
abbrev M5_init : MD := (yX5_init, cX5_init, 1, none)
theorem mk_5_init : MOK M5_init 0 := ⟨w_413, w_148, ⟨by decide +kernel, by decide +kernel, by decide +kernel⟩, by decide⟩
theorem dX6_init_0 : decode cX6_init 0 = .ok (.aload_n 0, 1) := by decide +kernel
theorem dX6_init_1 : decode cX6_init 1 = .ok (.invokespecial 3, 3) := by decide +kernel
theorem dX6_init_4 : decode cX6_init 4 = .ok (.return_, 1) := by decide +kernel
abbrev M6_init : MD := (yX6_init, cX6_init, 1, none)
theorem mk_6_init : MOK M6_init 0 := ⟨w_534, w_151, ⟨by decide +kernel, by decide +kernel, by decide +kernel⟩, by decide⟩
theorem dX7_init_0 : decode cX7_init 0 = .ok (.aload_n 0, 1) := by decide +kernel
theorem dX7_init_1 : decode cX7_init 1 = .ok (.invokespecial 3, 3) := by decide +kernel
theorem dX7_init_4 : decode cX7_init 4 = .ok (.aload_n 0, 1) := by decide +kernel
theorem dX7_init_5 : decode cX7_init 5 = .ok (.bipush 60, 2) := by decide +kernel
theorem dX7_init_7 : decode cX7_init 7 = .ok (.newarray .int, 2) := by decide +kernel
theorem dX7_init_9 : decode cX7_init 9 = .ok (.putfield 9, 3) := by decide +kernel
theorem dX7_init_12 : decode cX7_init 12 = .ok (.aload_n 0, 1) := by decide +kernel
theorem dX7_init_13 : decode cX7_init 13 = .ok (.bipush 60, 2) := by decide +kernel
theorem dX7_init_15 : decode cX7_init 15 = .ok (.newarray .int, 2) := by decide +kernel
theorem dX7_init_17 : decode cX7_init 17 = .ok (.putfield 15, 3) := by decide +kernel
theorem dX7_init_20 : decode cX7_init 20 = .ok (.aload_n 0, 1) := by decide +kernel
theorem dX7_init_21 : decode cX7_init 21 = .ok (.bipush 60, 2) := by decide +kernel
theorem dX7_init_23 : decode cX7_init 23 = .ok (.newarray .int, 2) := by decide +kernel
theorem dX7_init_25 : decode cX7_init 25 = .ok (.putfield 18, 3) := by decide +kernel
theorem dX7_init_28 : decode cX7_init 28 = .ok (.aload_n 0, 1) := by decide +kernel
theorem dX7_init_29 : decode cX7_init 29 = .ok (.bipush 60, 2) := by decide +kernel
theorem dX7_init_31 : decode cX7_init 31 = .ok (.newarray .int, 2) := by decide +kernel
theorem dX7_init_33 : decode cX7_init 33 = .ok (.putfield 21, 3) := by decide +kernel
theorem dX7_init_36 : decode cX7_init 36 = .ok (.aload_n 0, 1) := by decide +kernel
theorem dX7_init_37 : decode cX7_init 37 = .ok (.bipush 6, 2) := by decide +kernel
theorem dX7_init_39 : decode cX7_init 39 = .ok (.newarray .int, 2) := by decide +kernel
theorem dX7_init_41 : decode cX7_init 41 = .ok (.putfield 24, 3) := by decide +kernel
theorem dX7_init_44 : decode cX7_init 44 = .ok (.return_, 1) := by decide +kernel
abbrev M7_init : MD := (yX7_init, cX7_init, 1, none)
theorem mk_7_init : MOK M7_init 0 := ⟨w_458, w_149, ⟨by decide +kernel, by decide +kernel, by decide +kernel⟩, by decide⟩
theorem dX8_init_0 : decode cX8_init 0 = .ok (.aload_n 0, 1) := by decide +kernel
theorem dX8_init_1 : decode cX8_init 1 = .ok (.invokespecial 3, 3) := by decide +kernel
theorem dX8_init_4 : decode cX8_init 4 = .ok (.aload_n 0, 1) := by decide +kernel
theorem dX8_init_5 : decode cX8_init 5 = .ok (.sipush 900, 3) := by decide +kernel
theorem dX8_init_8 : decode cX8_init 8 = .ok (.newarray .byte, 2) := by decide +kernel
theorem dX8_init_10 : decode cX8_init 10 = .ok (.putfield 9, 3) := by decide +kernel
theorem dX8_init_13 : decode cX8_init 13 = .ok (.aload_n 0, 1) := by decide +kernel
theorem dX8_init_14 : decode cX8_init 14 = .ok (.iconst (-1), 1) := by decide +kernel
theorem dX8_init_15 : decode cX8_init 15 = .ok (.putfield 15, 3) := by decide +kernel
theorem dX8_init_18 : decode cX8_init 18 = .ok (.aload_n 0, 1) := by decide +kernel
theorem dX8_init_19 : decode cX8_init 19 = .ok (.iconst (-1), 1) := by decide +kernel
theorem dX8_init_20 : decode cX8_init 20 = .ok (.putfield 19, 3) := by decide +kernel
theorem dX8_init_23 : decode cX8_init 23 = .ok (.aload_n 0, 1) := by decide +kernel
theorem dX8_init_24 : decode cX8_init 24 = .ok (.bipush 30, 2) := by decide +kernel
theorem dX8_init_26 : decode cX8_init 26 = .ok (.newarray .long, 2) := by decide +kernel
theorem dX8_init_28 : decode cX8_init 28 = .ok (.putfield 22, 3) := by decide +kernel
theorem dX8_init_31 : decode cX8_init 31 = .ok (.lconst 0, 1) := by decide +kernel
theorem dX8_init_32 : decode cX8_init 32 = .ok (.lstore_n 1, 1) := by decide +kernel
theorem dX8_init_33 : decode cX8_init 33 = .ok (.iconst 0, 1) := by decide +kernel
theorem dX8_init_34 : decode cX8_init 34 = .ok (.istore_n 3, 1) := by decide +kernel
theorem dX8_init_35 : decode cX8_init 35 = .ok (.iconst 0, 1) := by decide +kernel
theorem dX8_init_36 : decode cX8_init 36 = .ok (.istore 4, 2) := by decide +kernel
theorem dX8_init_38 : decode cX8_init 38 = .ok (.iload 4, 2) := by decide +kernel
theorem dX8_init_40 : decode cX8_init 40 = .ok (.ldc 26, 2) := by decide +kernel
theorem dX8_init_42 : decode cX8_init 42 = .ok (.invokevirtual 28, 3) := by decide +kernel
theorem dX8_init_45 : decode cX8_init 45 = .ok (.if_icmp .ge 55, 3) := by decide +kernel
theorem dX8_init_48 : decode cX8_init 48 = .ok (.iload_n 3, 1) := by decide +kernel
theorem dX8_init_49 : decode cX8_init 49 = .ok (.bipush 30, 2) := by decide +kernel
theorem dX8_init_51 : decode cX8_init 51 = .ok (.if_icmp .ge 49, 3) := by decide +kernel
theorem dX8_init_54 : decode cX8_init 54 = .ok (.ldc 26, 2) := by decide +kernel
theorem dX8_init_56 : decode cX8_init 56 = .ok (.iload 4, 2) := by decide +kernel
theorem dX8_init_58 : decode cX8_init 58 = .ok (.invokevirtual 34, 3) := by decide +kernel
theorem dX8_init_61 : decode cX8_init 61 = .ok (.invokestatic 38, 3) := by decide +kernel
theorem dX8_init_64 : decode cX8_init 64 = .ok (.ifCond .eq 18, 3) := by decide +kernel
theorem dX8_init_67 : decode cX8_init 67 = .ok (.lload_n 1, 1) := by decide +kernel
theorem dX8_init_68 : decode cX8_init 68 = .ok (.ldc 26, 2) := by decide +kernel
theorem dX8_init_70 : decode cX8_init 70 = .ok (.iload 4, 2) := by decide +kernel
theorem dX8_init_72 : decode cX8_init 72 = .ok (.invokevirtual 34, 3) := by decide +kernel
theorem dX8_init_75 : decode cX8_init 75 = .ok (.invokestatic 42, 3) := by decide +kernel
theorem dX8_init_78 : decode cX8_init 78 = .ok (.lstore_n 1, 1) := by decide +kernel
theorem dX8_init_79 : decode cX8_init 79 = .ok (.goto 15, 3) := by decide +kernel
theorem dX8_init_82 : decode cX8_init 82 = .ok (.aload_n 0, 1) := by decide +kernel
theorem dX8_init_83 : decode cX8_init 83 = .ok (.getfield 22, 3) := by decide +kernel
theorem dX8_init_86 : decode cX8_init 86 = .ok (.iload_n 3, 1) := by decide +kernel
theorem dX8_init_87 : decode cX8_init 87 = .ok (.lload_n 1, 1) := by decide +kernel
theorem dX8_init_88 : decode cX8_init 88 = .ok (.lastore, 1) := by decide +kernel
theorem dX8_init_89 : decode cX8_init 89 = .ok (.iinc 3 1, 3) := by decide +kernel
theorem dX8_init_92 : decode cX8_init 92 = .ok (.lconst 0, 1) := by decide +kernel
theorem dX8_init_93 : decode cX8_init 93 = .ok (.lstore_n 1, 1) := by decide +kernel
theorem dX8_init_94 : decode cX8_init 94 = .ok (.iinc 4 1, 3) := by decide +kernel
theorem dX8_init_97 : decode cX8_init 97 = .ok (.goto (-59), 3) := by decide +kernel
theorem dX8_init_100 : decode cX8_init 100 = .ok (.return_, 1) := by decide +kernel
abbrev M8_init : MD := (yX8_init, cX8_init, 5, none)
theorem mk_8_init : MOK M8_init 0 := ⟨w_196, w_142, ⟨by decide +kernel, by decide +kernel, by decide +kernel⟩, by decide⟩
theorem dX9_init_0 : decode cX9_init 0 = .ok (.aload_n 0, 1) := by decide +kernel
theorem dX9_init_1 : decode cX9_init 1 = .ok (.invokespecial 3, 3) := by decide +kernel
theorem dX9_init_4 : decode cX9_init 4 = .ok (.aload_n 0, 1) := by decide +kernel
theorem dX9_init_5 : decode cX9_init 5 = .ok (.bipush 6, 2) := by decide +kernel
theorem dX9_init_7 : decode cX9_init 7 = .ok (.newarray .int, 2) := by decide +kernel
theorem dX9_init_9 : decode cX9_init 9 = .ok (.putfield 9, 3) := by decide +kernel
theorem dX9_init_12 : decode cX9_init 12 = .ok (.aload_n 0, 1) := by decide +kernel
theorem dX9_init_13 : decode cX9_init 13 = .ok (.bipush 6, 2) := by decide +kernel
theorem dX9_init_15 : decode cX9_init 15 = .ok (.newarray .int, 2) := by decide +kernel
theorem dX9_init_17 : decode cX9_init 17 = .ok (.putfield 15, 3) := by decide +kernel
theorem dX9_init_20 : decode cX9_init 20 = .ok (.aload_n 0, 1) := by decide +kernel
theorem dX9_init_21 : decode cX9_init 21 = .ok (.bipush 8, 2) := by decide +kernel
theorem dX9_init_23 : decode cX9_init 23 = .ok (.newarray .long, 2) := by decide +kernel
theorem dX9_init_25 : decode cX9_init 25 = .ok (.putfield 18, 3) := by decide +kernel
theorem dX9_init_28 : decode cX9_init 28 = .ok (.aload_n 0, 1) := by decide +kernel
theorem dX9_init_29 : decode cX9_init 29 = .ok (.bipush 8, 2) := by decide +kernel
theorem dX9_init_31 : decode cX9_init 31 = .ok (.newarray .int, 2) := by decide +kernel
theorem dX9_init_33 : decode cX9_init 33 = .ok (.putfield 22, 3) := by decide +kernel
theorem dX9_init_36 : decode cX9_init 36 = .ok (.aload_n 0, 1) := by decide +kernel
theorem dX9_init_37 : decode cX9_init 37 = .ok (.bipush 8, 2) := by decide +kernel
theorem dX9_init_39 : decode cX9_init 39 = .ok (.newarray .int, 2) := by decide +kernel
theorem dX9_init_41 : decode cX9_init 41 = .ok (.putfield 25, 3) := by decide +kernel
theorem dX9_init_44 : decode cX9_init 44 = .ok (.aload_n 0, 1) := by decide +kernel
theorem dX9_init_45 : decode cX9_init 45 = .ok (.bipush 8, 2) := by decide +kernel
theorem dX9_init_47 : decode cX9_init 47 = .ok (.newarray .int, 2) := by decide +kernel
theorem dX9_init_49 : decode cX9_init 49 = .ok (.putfield 28, 3) := by decide +kernel
theorem dX9_init_52 : decode cX9_init 52 = .ok (.aload_n 0, 1) := by decide +kernel
theorem dX9_init_53 : decode cX9_init 53 = .ok (.bipush 8, 2) := by decide +kernel
theorem dX9_init_55 : decode cX9_init 55 = .ok (.newarray .int, 2) := by decide +kernel
theorem dX9_init_57 : decode cX9_init 57 = .ok (.putfield 31, 3) := by decide +kernel
theorem dX9_init_60 : decode cX9_init 60 = .ok (.aload_n 0, 1) := by decide +kernel
theorem dX9_init_61 : decode cX9_init 61 = .ok (.bipush 6, 2) := by decide +kernel
theorem dX9_init_63 : decode cX9_init 63 = .ok (.newarray .long, 2) := by decide +kernel
theorem dX9_init_65 : decode cX9_init 65 = .ok (.putfield 34, 3) := by decide +kernel
theorem dX9_init_68 : decode cX9_init 68 = .ok (.aload_n 0, 1) := by decide +kernel
theorem dX9_init_69 : decode cX9_init 69 = .ok (.bipush 6, 2) := by decide +kernel
theorem dX9_init_71 : decode cX9_init 71 = .ok (.newarray .int, 2) := by decide +kernel
theorem dX9_init_73 : decode cX9_init 73 = .ok (.putfield 37, 3) := by decide +kernel
theorem dX9_init_76 : decode cX9_init 76 = .ok (.aload_n 0, 1) := by decide +kernel
theorem dX9_init_77 : decode cX9_init 77 = .ok (.bipush 6, 2) := by decide +kernel
theorem dX9_init_79 : decode cX9_init 79 = .ok (.newarray .int, 2) := by decide +kernel
theorem dX9_init_81 : decode cX9_init 81 = .ok (.putfield 40, 3) := by decide +kernel
theorem dX9_init_84 : decode cX9_init 84 = .ok (.aload_n 0, 1) := by decide +kernel
theorem dX9_init_85 : decode cX9_init 85 = .ok (.bipush 6, 2) := by decide +kernel
theorem dX9_init_87 : decode cX9_init 87 = .ok (.newarray .int, 2) := by decide +kernel
theorem dX9_init_89 : decode cX9_init 89 = .ok (.putfield 43, 3) := by decide +kernel
theorem dX9_init_92 : decode cX9_init 92 = .ok (.aload_n 0, 1) := by decide +kernel
theorem dX9_init_93 : decode cX9_init 93 = .ok (.bipush 6, 2) := by decide +kernel
theorem dX9_init_95 : decode cX9_init 95 = .ok (.newarray .int, 2) := by decide +kernel
theorem dX9_init_97 : decode cX9_init 97 = .ok (.putfield 46, 3) := by decide +kernel
theorem dX9_init_100 : decode cX9_init 100 = .ok (.aload_n 0, 1) := by decide +kernel
theorem dX9_init_101 : decode cX9_init 101 = .ok (.invokevirtual 49, 3) := by decide +kernel
theorem dX9_init_104 : decode cX9_init 104 = .ok (.return_, 1) := by decide +kernel
abbrev M9_init : MD := (yX9_init, cX9_init, 1, none)
theorem mk_9_init : MOK M9_init 0 := ⟨w_313, w_147, ⟨by decide +kernel, by decide +kernel, by decide +kernel⟩, by decide⟩
theorem dX10_init_0 : decode cX10_init 0 = .ok (.aload_n 0, 1) := by decide +kernel
theorem dX10_init_1 : decode cX10_init 1 = .ok (.invokespecial 3, 3) := by decide +kernel
theorem dX10_init_4 : decode cX10_init 4 = .ok (.aload_n 0, 1) := by decide +kernel
theorem dX10_init_5 : decode cX10_init 5 = .ok (.bipush 60, 2) := by decide +kernel
theorem dX10_init_7 : decode cX10_init 7 = .ok (.newarray .long, 2) := by decide +kernel
theorem dX10_init_9 : decode cX10_init 9 = .ok (.putfield 9, 3) := by decide +kernel
theorem dX10_init_12 : decode cX10_init 12 = .ok (.return_, 1) := by decide +kernel
abbrev M10_init : MD := (yX10_init, cX10_init, 1, none)
theorem mk_10_init : MOK M10_init 0 := ⟨w_173, w_141, ⟨by decide +kernel, by decide +kernel, by decide +kernel⟩, by decide⟩
theorem dX11_init_0 : decode cX11_init 0 = .ok (.aload_n 0, 1) := by decide +kernel
theorem dX11_init_1 : decode cX11_init 1 = .ok (.invokespecial 3, 3) := by decide +kernel
theorem dX11_init_4 : decode cX11_init 4 = .ok (.aload_n 0, 1) := by decide +kernel
theorem dX11_init_5 : decode cX11_init 5 = .ok (.iconst 0, 1) := by decide +kernel
theorem dX11_init_6 : decode cX11_init 6 = .ok (.putfield 9, 3) := by decide +kernel
theorem dX11_init_9 : decode cX11_init 9 = .ok (.aload_n 0, 1) := by decide +kernel
theorem dX11_init_10 : decode cX11_init 10 = .ok (.lconst 0, 1) := by decide +kernel
theorem dX11_init_11 : decode cX11_init 11 = .ok (.putfield 13, 3) := by decide +kernel
theorem dX11_init_14 : decode cX11_init 14 = .ok (.aload_n 0, 1) := by decide +kernel
theorem dX11_init_15 : decode cX11_init 15 = .ok (.lconst 1, 1) := by decide +kernel
theorem dX11_init_16 : decode cX11_init 16 = .ok (.putfield 17, 3) := by decide +kernel
theorem dX11_init_19 : decode cX11_init 19 = .ok (.aload_n 0, 1) := by decide +kernel
theorem dX11_init_20 : decode cX11_init 20 = .ok (.iconst 4, 1) := by decide +kernel
theorem dX11_init_21 : decode cX11_init 21 = .ok (.anewarray 20, 3) := by decide +kernel
theorem dX11_init_24 : decode cX11_init 24 = .ok (.putfield 22, 3) := by decide +kernel
theorem dX11_init_27 : decode cX11_init 27 = .ok (.iconst 0, 1) := by decide +kernel
theorem dX11_init_28 : decode cX11_init 28 = .ok (.istore_n 1, 1) := by decide +kernel
theorem dX11_init_29 : decode cX11_init 29 = .ok (.iload_n 1, 1) := by decide +kernel
theorem dX11_init_30 : decode cX11_init 30 = .ok (.iconst 4, 1) := by decide +kernel
theorem dX11_init_31 : decode cX11_init 31 = .ok (.if_icmp .ge 22, 3) := by decide +kernel
theorem dX11_init_34 : decode cX11_init 34 = .ok (.aload_n 0, 1) := by decide +kernel
theorem dX11_init_35 : decode cX11_init 35 = .ok (.getfield 22, 3) := by decide +kernel
theorem dX11_init_38 : decode cX11_init 38 = .ok (.iload_n 1, 1) := by decide +kernel
theorem dX11_init_39 : decode cX11_init 39 = .ok (.new 20, 3) := by decide +kernel
theorem dX11_init_42 : decode cX11_init 42 = .ok (.dup, 1) := by decide +kernel
theorem dX11_init_43 : decode cX11_init 43 = .ok (.invokespecial 26, 3) := by decide +kernel
theorem dX11_init_46 : decode cX11_init 46 = .ok (.aastore, 1) := by decide +kernel
theorem dX11_init_47 : decode cX11_init 47 = .ok (.iinc 1 1, 3) := by decide +kernel
theorem dX11_init_50 : decode cX11_init 50 = .ok (.goto (-21), 3) := by decide +kernel
theorem dX11_init_53 : decode cX11_init 53 = .ok (.aload_n 0, 1) := by decide +kernel
theorem dX11_init_54 : decode cX11_init 54 = .ok (.new 27, 3) := by decide +kernel
theorem dX11_init_57 : decode cX11_init 57 = .ok (.dup, 1) := by decide +kernel
theorem dX11_init_58 : decode cX11_init 58 = .ok (.invokespecial 29, 3) := by decide +kernel
theorem dX11_init_61 : decode cX11_init 61 = .ok (.putfield 30, 3) := by decide +kernel
theorem dX11_init_64 : decode cX11_init 64 = .ok (.aload_n 0, 1) := by decide +kernel
theorem dX11_init_65 : decode cX11_init 65 = .ok (.new 34, 3) := by decide +kernel
theorem dX11_init_68 : decode cX11_init 68 = .ok (.dup, 1) := by decide +kernel
theorem dX11_init_69 : decode cX11_init 69 = .ok (.invokespecial 36, 3) := by decide +kernel
theorem dX11_init_72 : decode cX11_init 72 = .ok (.putfield 37, 3) := by decide +kernel
theorem dX11_init_75 : decode cX11_init 75 = .ok (.aload_n 0, 1) := by decide +kernel
theorem dX11_init_76 : decode cX11_init 76 = .ok (.new 34, 3) := by decide +kernel
theorem dX11_init_79 : decode cX11_init 79 = .ok (.dup, 1) := by decide +kernel
theorem dX11_init_80 : decode cX11_init 80 = .ok (.invokespecial 36, 3) := by decide +kernel
theorem dX11_init_83 : decode cX11_init 83 = .ok (.putfield 41, 3) := by decide +kernel
theorem dX11_init_86 : decode cX11_init 86 = .ok (.aload_n 0, 1) := by decide +kernel
theorem dX11_init_87 : decode cX11_init 87 = .ok (.new 44, 3) := by decide +kernel
theorem dX11_init_90 : decode cX11_init 90 = .ok (.dup, 1) := by decide +kernel
theorem dX11_init_91 : decode cX11_init 91 = .ok (.invokespecial 46, 3) := by decide +kernel
theorem dX11_init_94 : decode cX11_init 94 = .ok (.putfield 47, 3) := by decide +kernel
theorem dX11_init_97 : decode cX11_init 97 = .ok (.aload_n 0, 1) := by decide +kernel
theorem dX11_init_98 : decode cX11_init 98 = .ok (.new 44, 3) := by decide +kernel
theorem dX11_init_101 : decode cX11_init 101 = .ok (.dup, 1) := by decide +kernel
theorem dX11_init_102 : decode cX11_init 102 = .ok (.invokespecial 46, 3) := by decide +kernel
theorem dX11_init_105 : decode cX11_init 105 = .ok (.putfield 51, 3) := by decide +kernel
theorem dX11_init_108 : decode cX11_init 108 = .ok (.aload_n 0, 1) := by decide +kernel
theorem dX11_init_109 : decode cX11_init 109 = .ok (.new 54, 3) := by decide +kernel
theorem dX11_init_112 : decode cX11_init 112 = .ok (.dup, 1) := by decide +kernel
theorem dX11_init_113 : decode cX11_init 113 = .ok (.invokespecial 56, 3) := by decide +kernel
theorem dX11_init_116 : decode cX11_init 116 = .ok (.putfield 57, 3) := by decide +kernel
theorem dX11_init_119 : decode cX11_init 119 = .ok (.aload_n 0, 1) := by decide +kernel
theorem dX11_init_120 : decode cX11_init 120 = .ok (.new 54, 3) := by decide +kernel
theorem dX11_init_123 : decode cX11_init 123 = .ok (.dup, 1) := by decide +kernel
theorem dX11_init_124 : decode cX11_init 124 = .ok (.invokespecial 56, 3) := by decide +kernel
theorem dX11_init_127 : decode cX11_init 127 = .ok (.putfield 61, 3) := by decide +kernel
theorem dX11_init_130 : decode cX11_init 130 = .ok (.aload_n 0, 1) := by decide +kernel
theorem dX11_init_131 : decode cX11_init 131 = .ok (.iconst 3, 1) := by decide +kernel
theorem dX11_init_132 : decode cX11_init 132 = .ok (.anewarray 64, 3) := by decide +kernel
theorem dX11_init_135 : decode cX11_init 135 = .ok (.putfield 66, 3) := by decide +kernel
theorem dX11_init_138 : decode cX11_init 138 = .ok (.iconst 0, 1) := by decide +kernel
theorem dX11_init_139 : decode cX11_init 139 = .ok (.istore_n 1, 1) := by decide +kernel
theorem dX11_init_140 : decode cX11_init 140 = .ok (.iload_n 1, 1) := by decide +kernel
theorem dX11_init_141 : decode cX11_init 141 = .ok (.iconst 3, 1) := by decide +kernel
theorem dX11_init_142 : decode cX11_init 142 = .ok (.if_icmp .ge 22, 3) := by decide +kernel
theorem dX11_init_145 : decode cX11_init 145 = .ok (.aload_n 0, 1) := by decide +kernel
theorem dX11_init_146 : decode cX11_init 146 = .ok (.getfield 66, 3) := by decide +kernel
theorem dX11_init_149 : decode cX11_init 149 = .ok (.iload_n 1, 1) := by decide +kernel
theorem dX11_init_150 : decode cX11_init 150 = .ok (.new 64, 3) := by decide +kernel
theorem dX11_init_153 : decode cX11_init 153 = .ok (.dup, 1) := by decide +kernel
theorem dX11_init_154 : decode cX11_init 154 = .ok (.invokespecial 70, 3) := by decide +kernel
theorem dX11_init_157 : decode cX11_init 157 = .ok (.aastore, 1) := by decide +kernel
theorem dX11_init_158 : decode cX11_init 158 = .ok (.iinc 1 1, 3) := by decide +kernel
theorem dX11_init_161 : decode cX11_init 161 = .ok (.goto (-21), 3) := by decide +kernel
theorem dX11_init_164 : decode cX11_init 164 = .ok (.aload_n 0, 1) := by decide +kernel
theorem dX11_init_165 : decode cX11_init 165 = .ok (.iconst 0, 1) := by decide +kernel
theorem dX11_init_166 : decode cX11_init 166 = .ok (.putfield 71, 3) := by decide +kernel
theorem dX11_init_169 : decode cX11_init 169 = .ok (.aload_n 0, 1) := by decide +kernel
theorem dX11_init_170 : decode cX11_init 170 = .ok (.new 74, 3) := by decide +kernel
theorem dX11_init_173 : decode cX11_init 173 = .ok (.dup, 1) := by decide +kernel
theorem dX11_init_174 : decode cX11_init 174 = .ok (.invokespecial 76, 3) := by decide +kernel
theorem dX11_init_177 : decode cX11_init 177 = .ok (.putfield 77, 3) := by decide +kernel
theorem dX11_init_180 : decode cX11_init 180 = .ok (.aload_n 0, 1) := by decide +kernel
theorem dX11_init_181 : decode cX11_init 181 = .ok (.new 81, 3) := by decide +kernel
theorem dX11_init_184 : decode cX11_init 184 = .ok (.dup, 1) := by decide +kernel
theorem dX11_init_185 : decode cX11_init 185 = .ok (.invokespecial 83, 3) := by decide +kernel
theorem dX11_init_188 : decode cX11_init 188 = .ok (.putfield 84, 3) := by decide +kernel
theorem dX11_init_191 : decode cX11_init 191 = .ok (.aload_n 0, 1) := by decide +kernel
theorem dX11_init_192 : decode cX11_init 192 = .ok (.iconst 4, 1) := by decide +kernel
theorem dX11_init_193 : decode cX11_init 193 = .ok (.anewarray 81, 3) := by decide +kernel
theorem dX11_init_196 : decode cX11_init 196 = .ok (.putfield 88, 3) := by decide +kernel
theorem dX11_init_199 : decode cX11_init 199 = .ok (.iconst 0, 1) := by decide +kernel
theorem dX11_init_200 : decode cX11_init 200 = .ok (.istore_n 1, 1) := by decide +kernel
theorem dX11_init_201 : decode cX11_init 201 = .ok (.iload_n 1, 1) := by decide +kernel
theorem dX11_init_202 : decode cX11_init 202 = .ok (.iconst 4, 1) := by decide +kernel
theorem dX11_init_203 : decode cX11_init 203 = .ok (.if_icmp .ge 22, 3) := by decide +kernel
theorem dX11_init_206 : decode cX11_init 206 = .ok (.aload_n 0, 1) := by decide +kernel
theorem dX11_init_207 : decode cX11_init 207 = .ok (.getfield 88, 3) := by decide +kernel
theorem dX11_init_210 : decode cX11_init 210 = .ok (.iload_n 1, 1) := by decide +kernel
theorem dX11_init_211 : decode cX11_init 211 = .ok (.new 81, 3) := by decide +kernel
theorem dX11_init_214 : decode cX11_init 214 = .ok (.dup, 1) := by decide +kernel
theorem dX11_init_215 : decode cX11_init 215 = .ok (.invokespecial 83, 3) := by decide +kernel
theorem dX11_init_218 : decode cX11_init 218 = .ok (.aastore, 1) := by decide +kernel
theorem dX11_init_219 : decode cX11_init 219 = .ok (.iinc 1 1, 3) := by decide +kernel
theorem dX11_init_222 : decode cX11_init 222 = .ok (.goto (-21), 3) := by decide +kernel
theorem dX11_init_225 : decode cX11_init 225 = .ok (.aload_n 0, 1) := by decide +kernel
theorem dX11_init_226 : decode cX11_init 226 = .ok (.new 92, 3) := by decide +kernel
theorem dX11_init_229 : decode cX11_init 229 = .ok (.dup, 1) := by decide +kernel
theorem dX11_init_230 : decode cX11_init 230 = .ok (.invokespecial 94, 3) := by decide +kernel
theorem dX11_init_233 : decode cX11_init 233 = .ok (.putfield 95, 3) := by decide +kernel
theorem dX11_init_236 : decode cX11_init 236 = .ok (.aload_n 0, 1) := by decide +kernel
theorem dX11_init_237 : decode cX11_init 237 = .ok (.new 99, 3) := by decide +kernel
theorem dX11_init_240 : decode cX11_init 240 = .ok (.dup, 1) := by decide +kernel
theorem dX11_init_241 : decode cX11_init 241 = .ok (.invokespecial 101, 3) := by decide +kernel
theorem dX11_init_244 : decode cX11_init 244 = .ok (.putfield 102, 3) := by decide +kernel
theorem dX11_init_247 : decode cX11_init 247 = .ok (.aload_n 0, 1) := by decide +kernel
theorem dX11_init_248 : decode cX11_init 248 = .ok (.new 106, 3) := by decide +kernel
theorem dX11_init_251 : decode cX11_init 251 = .ok (.dup, 1) := by decide +kernel
theorem dX11_init_252 : decode cX11_init 252 = .ok (.invokespecial 108, 3) := by decide +kernel
theorem dX11_init_255 : decode cX11_init 255 = .ok (.putfield 109, 3) := by decide +kernel
theorem dX11_init_258 : decode cX11_init 258 = .ok (.aload_n 0, 1) := by decide +kernel
theorem dX11_init_259 : decode cX11_init 259 = .ok (.new 106, 3) := by decide +kernel
theorem dX11_init_262 : decode cX11_init 262 = .ok (.dup, 1) := by decide +kernel
theorem dX11_init_263 : decode cX11_init 263 = .ok (.invokespecial 108, 3) := by decide +kernel
theorem dX11_init_266 : decode cX11_init 266 = .ok (.putfield 113, 3) := by decide +kernel
theorem dX11_init_269 : decode cX11_init 269 = .ok (.return_, 1) := by decide +kernel
abbrev M11_init : MD := (yX11_init, cX11_init, 2, none)
theorem mk_11_init : MOK M11_init 0 := ⟨w_164, w_140, ⟨by decide +kernel, by decide +kernel, by decide +kernel⟩, by decide⟩
theorem dX12_init_0 : decode cX12_init 0 = .ok (.aload_n 0, 1) := by decide +kernel
theorem dX12_init_1 : decode cX12_init 1 = .ok (.invokespecial 1, 3) := by decide +kernel
theorem dX12_init_4 : decode cX12_init 4 = .ok (.aload_n 0, 1) := by decide +kernel
theorem dX12_init_5 : decode cX12_init 5 = .ok (.lconst 1, 1) := by decide +kernel
theorem dX12_init_6 : decode cX12_init 6 = .ok (.putfield 7, 3) := by decide +kernel
theorem dX12_init_9 : decode cX12_init 9 = .ok (.aload_n 0, 1) := by decide +kernel
theorem dX12_init_10 : decode cX12_init 10 = .ok (.iconst 4, 1) := by decide +kernel
theorem dX12_init_11 : decode cX12_init 11 = .ok (.newarray .int, 2) := by decide +kernel
theorem dX12_init_13 : decode cX12_init 13 = .ok (.putfield 13, 3) := by decide +kernel
theorem dX12_init_16 : decode cX12_init 16 = .ok (.aload_n 0, 1) := by decide +kernel
theorem dX12_init_17 : decode cX12_init 17 = .ok (.iconst 4, 1) := by decide +kernel
theorem dX12_init_18 : decode cX12_init 18 = .ok (.newarray .int, 2) := by decide +kernel
theorem dX12_init_20 : decode cX12_init 20 = .ok (.putfield 17, 3) := by decide +kernel
theorem dX12_init_23 : decode cX12_init 23 = .ok (.aload_n 0, 1) := by decide +kernel
theorem dX12_init_24 : decode cX12_init 24 = .ok (.sipush 240, 3) := by decide +kernel
theorem dX12_init_27 : decode cX12_init 27 = .ok (.newarray .long, 2) := by decide +kernel
theorem dX12_init_29 : decode cX12_init 29 = .ok (.putfield 20, 3) := by decide +kernel
theorem dX12_init_32 : decode cX12_init 32 = .ok (.aload_n 0, 1) := by decide +kernel
theorem dX12_init_33 : decode cX12_init 33 = .ok (.sipush 900, 3) := by decide +kernel
theorem dX12_init_36 : decode cX12_init 36 = .ok (.newarray .byte, 2) := by decide +kernel
theorem dX12_init_38 : decode cX12_init 38 = .ok (.putfield 24, 3) := by decide +kernel
theorem dX12_init_41 : decode cX12_init 41 = .ok (.aload_n 0, 1) := by decide +kernel
theorem dX12_init_42 : decode cX12_init 42 = .ok (.iconst (-1), 1) := by decide +kernel
theorem dX12_init_43 : decode cX12_init 43 = .ok (.putfield 28, 3) := by decide +kernel
theorem dX12_init_46 : decode cX12_init 46 = .ok (.aload_n 0, 1) := by decide +kernel
theorem dX12_init_47 : decode cX12_init 47 = .ok (.iconst (-1), 1) := by decide +kernel
theorem dX12_init_48 : decode cX12_init 48 = .ok (.putfield 32, 3) := by decide +kernel
theorem dX12_init_51 : decode cX12_init 51 = .ok (.aload_n 0, 1) := by decide +kernel
theorem dX12_init_52 : decode cX12_init 52 = .ok (.sipush 3000, 3) := by decide +kernel
theorem dX12_init_55 : decode cX12_init 55 = .ok (.newarray .int, 2) := by decide +kernel
theorem dX12_init_57 : decode cX12_init 57 = .ok (.putfield 35, 3) := by decide +kernel
theorem dX12_init_60 : decode cX12_init 60 = .ok (.aload_n 0, 1) := by decide +kernel
theorem dX12_init_61 : decode cX12_init 61 = .ok (.sipush 323, 3) := by decide +kernel
theorem dX12_init_64 : decode cX12_init 64 = .ok (.newarray .int, 2) := by decide +kernel
theorem dX12_init_66 : decode cX12_init 66 = .ok (.putfield 38, 3) := by decide +kernel
theorem dX12_init_69 : decode cX12_init 69 = .ok (.aload_n 0, 1) := by decide +kernel
theorem dX12_init_70 : decode cX12_init 70 = .ok (.bipush 70, 2) := by decide +kernel
theorem dX12_init_72 : decode cX12_init 72 = .ok (.newarray .long, 2) := by decide +kernel
theorem dX12_init_74 : decode cX12_init 74 = .ok (.putfield 41, 3) := by decide +kernel
theorem dX12_init_77 : decode cX12_init 77 = .ok (.aload_n 0, 1) := by decide +kernel
theorem dX12_init_78 : decode cX12_init 78 = .ok (.bipush 21, 2) := by decide +kernel
theorem dX12_init_80 : decode cX12_init 80 = .ok (.newarray .int, 2) := by decide +kernel
theorem dX12_init_82 : decode cX12_init 82 = .ok (.putfield 44, 3) := by decide +kernel
theorem dX12_init_85 : decode cX12_init 85 = .ok (.aload_n 0, 1) := by decide +kernel
theorem dX12_init_86 : decode cX12_init 86 = .ok (.bipush 101, 2) := by decide +kernel
theorem dX12_init_88 : decode cX12_init 88 = .ok (.newarray .long, 2) := by decide +kernel
theorem dX12_init_90 : decode cX12_init 90 = .ok (.putfield 47, 3) := by decide +kernel
theorem dX12_init_93 : decode cX12_init 93 = .ok (.aload_n 0, 1) := by decide +kernel
theorem dX12_init_94 : decode cX12_init 94 = .ok (.bipush 101, 2) := by decide +kernel
theorem dX12_init_96 : decode cX12_init 96 = .ok (.newarray .long, 2) := by decide +kernel
theorem dX12_init_98 : decode cX12_init 98 = .ok (.putfield 50, 3) := by decide +kernel
theorem dX12_init_101 : decode cX12_init 101 = .ok (.aload_n 0, 1) := by decide +kernel
theorem dX12_init_102 : decode cX12_init 102 = .ok (.bipush 101, 2) := by decide +kernel
theorem dX12_init_104 : decode cX12_init 104 = .ok (.newarray .long, 2) := by decide +kernel
theorem dX12_init_106 : decode cX12_init 106 = .ok (.putfield 53, 3) := by decide +kernel
theorem dX12_init_109 : decode cX12_init 109 = .ok (.aload_n 0, 1) := by decide +kernel
theorem dX12_init_110 : decode cX12_init 110 = .ok (.iconst 5, 1) := by decide +kernel
theorem dX12_init_111 : decode cX12_init 111 = .ok (.newarray .int, 2) := by decide +kernel
theorem dX12_init_113 : decode cX12_init 113 = .ok (.putfield 56, 3) := by decide +kernel
theorem dX12_init_116 : decode cX12_init 116 = .ok (.iconst 0, 1) := by decide +kernel
theorem dX12_init_117 : decode cX12_init 117 = .ok (.istore_n 1, 1) := by decide +kernel
theorem dX12_init_118 : decode cX12_init 118 = .ok (.iload_n 1, 1) := by decide +kernel
theorem dX12_init_119 : decode cX12_init 119 = .ok (.iconst 4, 1) := by decide +kernel
theorem dX12_init_120 : decode cX12_init 120 = .ok (.if_icmp .ge 16, 3) := by decide +kernel
theorem dX12_init_123 : decode cX12_init 123 = .ok (.aload_n 0, 1) := by decide +kernel
theorem dX12_init_124 : decode cX12_init 124 = .ok (.getfield 17, 3) := by decide +kernel
theorem dX12_init_127 : decode cX12_init 127 = .ok (.iload_n 1, 1) := by decide +kernel
theorem dX12_init_128 : decode cX12_init 128 = .ok (.iconst (-1), 1) := by decide +kernel
theorem dX12_init_129 : decode cX12_init 129 = .ok (.iastore, 1) := by decide +kernel
theorem dX12_init_130 : decode cX12_init 130 = .ok (.iinc 1 1, 3) := by decide +kernel
theorem dX12_init_133 : decode cX12_init 133 = .ok (.goto (-15), 3) := by decide +kernel
theorem dX12_init_136 : decode cX12_init 136 = .ok (.aload_n 0, 1) := by decide +kernel
theorem dX12_init_137 : decode cX12_init 137 = .ok (.iconst 0, 1) := by decide +kernel
theorem dX12_init_138 : decode cX12_init 138 = .ok (.invokevirtual 59, 3) := by decide +kernel
theorem dX12_init_141 : decode cX12_init 141 = .ok (.return_, 1) := by decide +kernel
abbrev M12_init : MD := (yX12_init, cX12_init, 2, none)
theorem mk_12_init : MOK M12_init 0 := ⟨w_1452, w_156, ⟨by decide +kernel, by decide +kernel, by decide +kernel⟩, by decide⟩
/-- the class's heap when it has been made -/
def iC0 : Nat → Nat → Nat → Nat → Int32 := fun a _ c => match a with
  | 8 => (match c with
    | 0 => (fun k => match k with
      | 2 => -1
      | 3 => -1
      | _ => 0)
    | _ => fun _ => 0)
  | 9 => (match c with
    | 0 => (fun k => match k with
      | 0 => 24
      | 1 => 8
      | 2 => 12
      | _ => 0)
    | _ => fun _ => 0)
  | _ => fun _ => 0
def lC0 : Nat → Nat → Nat → Nat → Int64 := fun a _ c => match a with
  | 8 => (match c with
    | 2 => (fun k => wordsN.getD k 0)
    | _ => fun _ => 0)
  | 11 => (match c with
    | 0 => (fun k => match k with
      | 2 => 1
      | _ => 0)
    | _ => fun _ => 0)
  | _ => fun _ => 0
def rC0 : Nat → Nat → Nat → Nat → Nat := fun _ _ _ k => match k with
  | 6 => 1
  | 8 => 1
  | _ => 0
def σC0 : Mem := (iC0, lC0, fun _ _ _ _ => false, rC0)
/-- the model's -/
def iM0 : Nat → Nat → Nat → Nat → Int32 := fun _ _ c => match c with
  | 0 => (fun k => match k with
    | 10 => -1
    | 11 => -1
    | _ => 0)
  | 2 => upd (upd (upd (upd (fun _ => 0) 0 (-1)) 1 (-1)) 2 (-1)) 3 (-1)
  | 5 => upd (upd (upd (fun _ => 0) 0 24) 1 8) 2 12
  | _ => fun _ => 0
def lM0 : Nat → Nat → Nat → Nat → Int64 := fun _ _ c => match c with
  | 0 => (fun k => match k with
    | 3 => 1
    | _ => 0)
  | _ => fun _ => 0
def σM0 : Mem := (iM0, lM0, fun _ _ _ _ => false, fun _ _ _ _ => 0)
def ks0 (b : Nat) : List (Nat × Nat × Nat) := [(0, b, 0), (0, b, 1), (0, b, 2)]
def ty0 (b : Nat) (cid : Nat → Nat → Nat → ClassId) : TyL := [(cid 0 b 1, .int), (cid 0 b 2, .int)]
def En0 (b h0 : Nat) : va_W → TyL → Prop := fun ws tys => ∃ (ad : Nat → Nat → Nat → Nat) (cid : Nat → Nat → Nat → ClassId), ad 0 b 0 = h0 ∧ ws = wd (ks0 b, ad, shC ad cid) σC0 ∧ tys = ty0 b cid
def ks1 (b : Nat) : List (Nat × Nat × Nat) := [(1, b, 0)]
def ty1 (b : Nat) (cid : Nat → Nat → Nat → ClassId) : TyL := []
def En1 (b h0 : Nat) : va_W → TyL → Prop := fun ws tys => ∃ (ad : Nat → Nat → Nat → Nat) (cid : Nat → Nat → Nat → ClassId), ad 1 b 0 = h0 ∧ ws = wd (ks1 b, ad, shC ad cid) σC0 ∧ tys = ty1 b cid
def ks2 (b : Nat) : List (Nat × Nat × Nat) := [(2, b, 0), (2, b, 1), (2, b, 2)]
def ty2 (b : Nat) (cid : Nat → Nat → Nat → ClassId) : TyL := [(cid 2 b 1, .int), (cid 2 b 2, .long)]
def En2 (b h0 : Nat) : va_W → TyL → Prop := fun ws tys => ∃ (ad : Nat → Nat → Nat → Nat) (cid : Nat → Nat → Nat → ClassId), ad 2 b 0 = h0 ∧ ws = wd (ks2 b, ad, shC ad cid) σC0 ∧ tys = ty2 b cid
def ks5 (b : Nat) : List (Nat × Nat × Nat) := [(5, b, 0), (5, b, 1), (5, b, 2), (5, b, 3), (5, b, 4), (5, b, 5), (5, b, 6)]
def ty5 (b : Nat) (cid : Nat → Nat → Nat → ClassId) : TyL := [(cid 5 b 1, .int), (cid 5 b 2, .int), (cid 5 b 3, .int), (cid 5 b 4, .int), (cid 5 b 5, .int), (cid 5 b 6, .int)]
def En5 (b h0 : Nat) : va_W → TyL → Prop := fun ws tys => ∃ (ad : Nat → Nat → Nat → Nat) (cid : Nat → Nat → Nat → ClassId), ad 5 b 0 = h0 ∧ ws = wd (ks5 b, ad, shC ad cid) σC0 ∧ tys = ty5 b cid
def ks6 (b : Nat) : List (Nat × Nat × Nat) := [(6, b, 0)]
def ty6 (b : Nat) (cid : Nat → Nat → Nat → ClassId) : TyL := []
def En6 (b h0 : Nat) : va_W → TyL → Prop := fun ws tys => ∃ (ad : Nat → Nat → Nat → Nat) (cid : Nat → Nat → Nat → ClassId), ad 6 b 0 = h0 ∧ ws = wd (ks6 b, ad, shC ad cid) σC0 ∧ tys = ty6 b cid
def ks7 (b : Nat) : List (Nat × Nat × Nat) := [(7, b, 0), (7, b, 1), (7, b, 2), (7, b, 3), (7, b, 4), (7, b, 5)]
def ty7 (b : Nat) (cid : Nat → Nat → Nat → ClassId) : TyL := [(cid 7 b 1, .int), (cid 7 b 2, .int), (cid 7 b 3, .int), (cid 7 b 4, .int), (cid 7 b 5, .int)]
def En7 (b h0 : Nat) : va_W → TyL → Prop := fun ws tys => ∃ (ad : Nat → Nat → Nat → Nat) (cid : Nat → Nat → Nat → ClassId), ad 7 b 0 = h0 ∧ ws = wd (ks7 b, ad, shC ad cid) σC0 ∧ tys = ty7 b cid
def ks8 (b : Nat) : List (Nat × Nat × Nat) := [(8, b, 0), (8, b, 1), (8, b, 2)]
def ty8 (b : Nat) (cid : Nat → Nat → Nat → ClassId) : TyL := [(cid 8 b 1, .byte), (cid 8 b 2, .long)]
def En8 (b h0 : Nat) : va_W → TyL → Prop := fun ws tys => ∃ (ad : Nat → Nat → Nat → Nat) (cid : Nat → Nat → Nat → ClassId), ad 8 b 0 = h0 ∧ ws = wd (ks8 b, ad, shC ad cid) σC0 ∧ tys = ty8 b cid
def ks9 (b : Nat) : List (Nat × Nat × Nat) := [(9, b, 0), (9, b, 1), (9, b, 2), (9, b, 3), (9, b, 4), (9, b, 5), (9, b, 6), (9, b, 7), (9, b, 8), (9, b, 9), (9, b, 10), (9, b, 11), (9, b, 12)]
def ty9 (b : Nat) (cid : Nat → Nat → Nat → ClassId) : TyL := [(cid 9 b 1, .int), (cid 9 b 2, .int), (cid 9 b 3, .long), (cid 9 b 4, .int), (cid 9 b 5, .int), (cid 9 b 6, .int), (cid 9 b 7, .int), (cid 9 b 8, .long), (cid 9 b 9, .int), (cid 9 b 10, .int), (cid 9 b 11, .int), (cid 9 b 12, .int)]
def En9 (b h0 : Nat) : va_W → TyL → Prop := fun ws tys => ∃ (ad : Nat → Nat → Nat → Nat) (cid : Nat → Nat → Nat → ClassId), ad 9 b 0 = h0 ∧ ws = wd (ks9 b, ad, shC ad cid) σC0 ∧ tys = ty9 b cid
def ks10 (b : Nat) : List (Nat × Nat × Nat) := [(10, b, 0), (10, b, 1)]
def ty10 (b : Nat) (cid : Nat → Nat → Nat → ClassId) : TyL := [(cid 10 b 1, .long)]
def En10 (b h0 : Nat) : va_W → TyL → Prop := fun ws tys => ∃ (ad : Nat → Nat → Nat → Nat) (cid : Nat → Nat → Nat → ClassId), ad 10 b 0 = h0 ∧ ws = wd (ks10 b, ad, shC ad cid) σC0 ∧ tys = ty10 b cid
def En11 (h0 : Nat) : va_W → TyL → Prop := fun ws tys => ∃ (ad : Nat → Nat → Nat → Nat) (cid : Nat → Nat → Nat → ClassId), ad 11 0 0 = h0 ∧ ws.Perm (wd (keysC, ad, shC ad cid) σC0) ∧ ∀ q ∈ tysC cid, q ∈ tys
def En12 (h0 : Nat) : va_W → TyL → Prop := fun ws tys => ∃ (ad : Nat → Nat → Nat → Nat) (cid : Nat → Nat → Nat → ClassId), ad 12 0 0 = h0 ∧ ws = wd (keysM, ad, shM ad cid) σM0 ∧ ∀ q ∈ tysM cid, q ∈ tys
def ks3 (b : Nat) : List (Nat × Nat × Nat) := (3, b, 0) :: (ks7 (2 + b) ++ (ks5 (2 + b) ++ (ks9 (2 + b) ++ [])))
def ty3 (b : Nat) (cid : Nat → Nat → Nat → ClassId) : TyL := (([] ++ ty9 (2 + b) cid) ++ ty5 (2 + b) cid) ++ ty7 (2 + b) cid
def En3 (b h0 : Nat) : va_W → TyL → Prop := fun ws tys => ∃ (ad : Nat → Nat → Nat → Nat) (cid : Nat → Nat → Nat → ClassId), ad 3 b 0 = h0 ∧ ws = wd (ks3 b, ad, shC ad cid) σC0 ∧ tys = ty3 b cid
def ks4 (b : Nat) : List (Nat × Nat × Nat) := (4, b, 0) :: (4, b, 1) :: (ks6 (1 + b) ++ [])
def ty4 (b : Nat) (cid : Nat → Nat → Nat → ClassId) : TyL := ([] ++ [(cid 4 b 1, .int)]) ++ ty6 (1 + b) cid
def En4 (b h0 : Nat) : va_W → TyL → Prop := fun ws tys => ∃ (ad : Nat → Nat → Nat → Nat) (cid : Nat → Nat → Nat → ClassId), ad 4 b 0 = h0 ∧ ws = wd (ks4 b, ad, shC ad cid) σC0 ∧ tys = ty4 b cid
theorem zr_0 : ∀ j, j < 2 → defaultValue (tyX0 j) = vp_V [.null, .null] j := by
  intro j hj
  match j, hj with
  | 0, _ => rfl
  | 1, _ => rfl
  | j + 2, hj => exact absurd hj (by omega)
theorem zr_1 : ∀ j, j < 4 → defaultValue (tyX1 j) = vp_V [.int 0, .int 0, .long 0, .long 0] j := by
  intro j hj
  match j, hj with
  | 0, _ => rfl
  | 1, _ => rfl
  | 2, _ => rfl
  | 3, _ => rfl
  | j + 4, hj => exact absurd hj (by omega)
theorem zr_2 : ∀ j, j < 3 → defaultValue (tyX2 j) = vp_V [.null, .int 0, .null] j := by
  intro j hj
  match j, hj with
  | 0, _ => rfl
  | 1, _ => rfl
  | 2, _ => rfl
  | j + 3, hj => exact absurd hj (by omega)
theorem zr_3 : ∀ j, j < 3 → defaultValue (tyX3 j) = vp_V [.null, .null, .null] j := by
  intro j hj
  match j, hj with
  | 0, _ => rfl
  | 1, _ => rfl
  | 2, _ => rfl
  | j + 3, hj => exact absurd hj (by omega)
theorem zr_4 : ∀ j, j < 12 → defaultValue (tyX4 j) = vp_V [.int 0, .int 0, .int 0, .int 0, .int 0, .int 0, .int 0, .int 0, .int 0, .int 0, .null, .null] j := by
  intro j hj
  match j, hj with
  | 0, _ => rfl
  | 1, _ => rfl
  | 2, _ => rfl
  | 3, _ => rfl
  | 4, _ => rfl
  | 5, _ => rfl
  | 6, _ => rfl
  | 7, _ => rfl
  | 8, _ => rfl
  | 9, _ => rfl
  | 10, _ => rfl
  | 11, _ => rfl
  | j + 12, hj => exact absurd hj (by omega)
theorem zr_5 : ∀ j, j < 10 → defaultValue (tyX5 j) = vp_V [.int 0, .int 0, .int 0, .null, .null, .null, .null, .null, .int 0, .null] j := by
  intro j hj
  match j, hj with
  | 0, _ => rfl
  | 1, _ => rfl
  | 2, _ => rfl
  | 3, _ => rfl
  | 4, _ => rfl
  | 5, _ => rfl
  | 6, _ => rfl
  | 7, _ => rfl
  | 8, _ => rfl
  | 9, _ => rfl
  | j + 10, hj => exact absurd hj (by omega)
theorem zr_6 : ∀ j, j < 14 → defaultValue (tyX6 j) = vp_V [.int 0, .int 0, .int 0, .int 0, .int 0, .int 0, .int 0, .int 0, .int 0, .int 0, .int 0, .int 0, .int 0, .int 0] j := by
  intro j hj
  match j, hj with
  | 0, _ => rfl
  | 1, _ => rfl
  | 2, _ => rfl
  | 3, _ => rfl
  | 4, _ => rfl
  | 5, _ => rfl
  | 6, _ => rfl
  | 7, _ => rfl
  | 8, _ => rfl
  | 9, _ => rfl
  | 10, _ => rfl
  | 11, _ => rfl
  | 12, _ => rfl
  | 13, _ => rfl
  | j + 14, hj => exact absurd hj (by omega)
theorem zr_7 : ∀ j, j < 11 → defaultValue (tyX7 j) = vp_V [.int 0, .int 0, .null, .null, .null, .null, .null, .int 0, .long 0, .long 0, .long 0] j := by
  intro j hj
  match j, hj with
  | 0, _ => rfl
  | 1, _ => rfl
  | 2, _ => rfl
  | 3, _ => rfl
  | 4, _ => rfl
  | 5, _ => rfl
  | 6, _ => rfl
  | 7, _ => rfl
  | 8, _ => rfl
  | 9, _ => rfl
  | 10, _ => rfl
  | j + 11, hj => exact absurd hj (by omega)
theorem zr_8 : ∀ j, j < 14 → defaultValue (tyX8 j) = vp_V [.null, .int 0, .int 0, .int 0, .int 0, .int 0, .long 0, .int 0, .int 0, .int 0, .int 0, .int 0, .int 0, .null] j := by
  intro j hj
  match j, hj with
  | 0, _ => rfl
  | 1, _ => rfl
  | 2, _ => rfl
  | 3, _ => rfl
  | 4, _ => rfl
  | 5, _ => rfl
  | 6, _ => rfl
  | 7, _ => rfl
  | 8, _ => rfl
  | 9, _ => rfl
  | 10, _ => rfl
  | 11, _ => rfl
  | 12, _ => rfl
  | 13, _ => rfl
  | j + 14, hj => exact absurd hj (by omega)
theorem zr_9 : ∀ j, j < 20 → defaultValue (tyX9 j) = vp_V [.int 0, .int 0, .int 0, .int 0, .int 0, .null, .null, .int 0, .null, .null, .null, .null, .null, .int 0, .null, .null, .null, .null, .null, .int 0] j := by
  intro j hj
  match j, hj with
  | 0, _ => rfl
  | 1, _ => rfl
  | 2, _ => rfl
  | 3, _ => rfl
  | 4, _ => rfl
  | 5, _ => rfl
  | 6, _ => rfl
  | 7, _ => rfl
  | 8, _ => rfl
  | 9, _ => rfl
  | 10, _ => rfl
  | 11, _ => rfl
  | 12, _ => rfl
  | 13, _ => rfl
  | 14, _ => rfl
  | 15, _ => rfl
  | 16, _ => rfl
  | 17, _ => rfl
  | 18, _ => rfl
  | 19, _ => rfl
  | j + 20, hj => exact absurd hj (by omega)
theorem zr_10 : ∀ j, j < 4 → defaultValue (tyX10 j) = vp_V [.int 0, .int 0, .int 0, .null] j := by
  intro j hj
  match j, hj with
  | 0, _ => rfl
  | 1, _ => rfl
  | 2, _ => rfl
  | 3, _ => rfl
  | j + 4, hj => exact absurd hj (by omega)
theorem zr_11 : ∀ j, j < 20 → defaultValue (tyX11 j) = vp_V [.int 0, .long 0, .long 0, .null, .null, .null, .null, .null, .null, .null, .null, .null, .int 0, .null, .null, .null, .null, .null, .null, .null] j := by
  intro j hj
  match j, hj with
  | 0, _ => rfl
  | 1, _ => rfl
  | 2, _ => rfl
  | 3, _ => rfl
  | 4, _ => rfl
  | 5, _ => rfl
  | 6, _ => rfl
  | 7, _ => rfl
  | 8, _ => rfl
  | 9, _ => rfl
  | 10, _ => rfl
  | 11, _ => rfl
  | 12, _ => rfl
  | 13, _ => rfl
  | 14, _ => rfl
  | 15, _ => rfl
  | 16, _ => rfl
  | 17, _ => rfl
  | 18, _ => rfl
  | 19, _ => rfl
  | j + 20, hj => exact absurd hj (by omega)
theorem zr_12 : ∀ j, j < 61 → defaultValue (tyX12 j) = vp_V [.int 0, .int 0, .long 0, .long 0, .null, .null, .null, .null, .int 0, .int 0, .int 0, .int 0, .int 0, .int 0, .int 0, .int 0, .int 0, .int 0, .int 0, .long 0, .null, .null, .null, .int 0, .int 0, .int 0, .int 0, .int 0, .int 0, .int 0, .int 0, .int 0, .null, .int 0, .int 0, .long 0, .long 0, .null, .null, .null, .long 0, .long 0, .long 0, .long 0, .long 0, .long 0, .null, .int 0, .int 0, .int 0, .int 0, .int 0, .int 0, .int 0, .int 0, .int 0, .int 0, .int 0, .int 0, .int 0, .int 0] j := by
  intro j hj
  match j, hj with
  | 0, _ => rfl
  | 1, _ => rfl
  | 2, _ => rfl
  | 3, _ => rfl
  | 4, _ => rfl
  | 5, _ => rfl
  | 6, _ => rfl
  | 7, _ => rfl
  | 8, _ => rfl
  | 9, _ => rfl
  | 10, _ => rfl
  | 11, _ => rfl
  | 12, _ => rfl
  | 13, _ => rfl
  | 14, _ => rfl
  | 15, _ => rfl
  | 16, _ => rfl
  | 17, _ => rfl
  | 18, _ => rfl
  | 19, _ => rfl
  | 20, _ => rfl
  | 21, _ => rfl
  | 22, _ => rfl
  | 23, _ => rfl
  | 24, _ => rfl
  | 25, _ => rfl
  | 26, _ => rfl
  | 27, _ => rfl
  | 28, _ => rfl
  | 29, _ => rfl
  | 30, _ => rfl
  | 31, _ => rfl
  | 32, _ => rfl
  | 33, _ => rfl
  | 34, _ => rfl
  | 35, _ => rfl
  | 36, _ => rfl
  | 37, _ => rfl
  | 38, _ => rfl
  | 39, _ => rfl
  | 40, _ => rfl
  | 41, _ => rfl
  | 42, _ => rfl
  | 43, _ => rfl
  | 44, _ => rfl
  | 45, _ => rfl
  | 46, _ => rfl
  | 47, _ => rfl
  | 48, _ => rfl
  | 49, _ => rfl
  | 50, _ => rfl
  | 51, _ => rfl
  | 52, _ => rfl
  | 53, _ => rfl
  | 54, _ => rfl
  | 55, _ => rfl
  | 56, _ => rfl
  | 57, _ => rfl
  | 58, _ => rfl
  | 59, _ => rfl
  | 60, _ => rfl
  | j + 61, hj => exact absurd hj (by omega)
