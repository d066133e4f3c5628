theorem wm_0 : (Jvm.Cond.initialized "TrueArmsLaw") ∈ wAll := wT_1 0 rfl rfl
theorem wm_1 : (Jvm.Cond.initialized "TrueArms") ∈ wAll := wT_1 1 rfl rfl
theorem wm_2 : (Jvm.Cond.initialized "TrueArms$Arm") ∈ wAll := wT_1 2 rfl rfl
theorem wm_3 : (Jvm.Cond.initialized "TrueArms$Sums") ∈ wAll := wT_1 3 rfl rfl
theorem wm_4 : (Jvm.Cond.initialized "TrueArms$Camera") ∈ wAll := wT_1 4 rfl rfl
theorem wm_5 : (Jvm.Cond.initialized "TrueArms$Going") ∈ wAll := wT_1 5 rfl rfl
theorem wm_6 : (Jvm.Cond.initialized "TrueArms$Signs") ∈ wAll := wT_1 6 rfl rfl
theorem wm_7 : (Jvm.Cond.initialized "TrueArms$Sheet") ∈ wAll := wT_1 7 rfl rfl
theorem wm_8 : (Jvm.Cond.initialized "TrueArmsModel") ∈ wAll := wT_1 8 rfl rfl
theorem wm_9 : (Jvm.Cond.initialized "TrueArms$Headings") ∈ wAll := wT_1 9 rfl rfl
theorem wm_10 : (Jvm.Cond.initialized "java/util/Arrays") ∈ wAll := wT_1 10 rfl rfl
theorem wm_11 : (Jvm.Cond.initialized "java/lang/Math") ∈ wAll := wT_1 11 rfl rfl
theorem wm_12 : (Jvm.Cond.initialized "java/lang/Integer") ∈ wAll := wT_1 12 rfl rfl
theorem wm_13 : (Jvm.Cond.initialized "java/lang/System") ∈ wAll := wT_1 13 rfl rfl
theorem wm_14 : (Jvm.Cond.classLink "TrueArmsLaw" (7 : Nat) "TrueArms") ∈ wAll := wT_1 14 rfl rfl
theorem wm_15 : (Jvm.Cond.instantiable "TrueArms" (9 : Nat)) ∈ wAll := wT_1 15 rfl rfl
theorem wm_16 : (Jvm.Cond.methodLink "TrueArmsLaw" (9 : Nat) ({ cls := "TrueArms", name := "<init>", desc := "()V" } : Jvm.MethodName)) ∈ wAll := wT_1 16 rfl rfl
theorem wm_17 : (Jvm.Cond.instanceMethod ({ cls := "TrueArms", name := "<init>", desc := "()V" } : Jvm.MethodName)) ∈ wAll := wT_1 17 rfl rfl
theorem wm_18 : (Jvm.Cond.code ({ cls := "TrueArms", name := "<init>", desc := "()V" } : Jvm.MethodName) prog_1_method_1_code (2 : Nat) (Option.none : Option Jvm.ClassFile.FieldType)) ∈ wAll := wT_1 18 rfl rfl
theorem wm_19 : (Jvm.Cond.methodLink "TrueArms" (1 : Nat) ({ cls := "java/lang/Object", name := "<init>", desc := "()V" } : Jvm.MethodName)) ∈ wAll := wT_1 19 rfl rfl
theorem wm_20 : (Jvm.Cond.instanceMethod ({ cls := "java/lang/Object", name := "<init>", desc := "()V" } : Jvm.MethodName)) ∈ wAll := wT_1 20 rfl rfl
theorem wm_21 : (Jvm.Cond.code ({ cls := "java/lang/Object", name := "<init>", desc := "()V" } : Jvm.MethodName) object_method_1_code (1 : Nat) (Option.none : Option Jvm.ClassFile.FieldType)) ∈ wAll := wT_1 21 rfl rfl
theorem wm_22 : (Jvm.Cond.classLink "TrueArms" (7 : Nat) "TrueArms$Arm") ∈ wAll := wT_1 22 rfl rfl
theorem wm_23 : (Jvm.Cond.instantiable "TrueArms$Arm" (4 : Nat)) ∈ wAll := wT_1 23 rfl rfl
theorem wm_24 : (Jvm.Cond.methodLink "TrueArms" (9 : Nat) ({ cls := "TrueArms$Arm", name := "<init>", desc := "()V" } : Jvm.MethodName)) ∈ wAll := wT_1 24 rfl rfl
theorem wm_25 : (Jvm.Cond.instanceMethod ({ cls := "TrueArms$Arm", name := "<init>", desc := "()V" } : Jvm.MethodName)) ∈ wAll := wT_1 25 rfl rfl
theorem wm_26 : (Jvm.Cond.code ({ cls := "TrueArms$Arm", name := "<init>", desc := "()V" } : Jvm.MethodName) prog_2_method_1_code (1 : Nat) (Option.none : Option Jvm.ClassFile.FieldType)) ∈ wAll := wT_1 26 rfl rfl
theorem wm_27 : (Jvm.Cond.methodLink "TrueArms$Arm" (1 : Nat) ({ cls := "java/lang/Object", name := "<init>", desc := "()V" } : Jvm.MethodName)) ∈ wAll := wT_1 27 rfl rfl
theorem wm_28 : (Jvm.Cond.fieldLink "TrueArms$Arm" (7 : Nat) "TrueArms$Arm" "lengths" "[I") ∈ wAll := wT_1 28 rfl rfl
theorem wm_29 : (Jvm.Cond.fieldLink "TrueArms" (73 : Nat) "TrueArms$Arm" "lengths" "[I") ∈ wAll := wT_1 29 rfl rfl
theorem wm_30 : (Jvm.Cond.fieldLink "TrueArms$Arm" (13 : Nat) "TrueArms$Arm" "headings" "[I") ∈ wAll := wT_1 30 rfl rfl
theorem wm_31 : (Jvm.Cond.fieldLink "TrueArms$Sums" (31 : Nat) "TrueArms$Arm" "headings" "[I") ∈ wAll := wT_1 31 rfl rfl
theorem wm_32 : (Jvm.Cond.fieldLink "TrueArms$Arm" (16 : Nat) "TrueArms$Arm" "products" "[I") ∈ wAll := wT_1 32 rfl rfl
theorem wm_33 : (Jvm.Cond.fieldLink "TrueArms$Sums" (25 : Nat) "TrueArms$Arm" "products" "[I") ∈ wAll := wT_1 33 rfl rfl
theorem wm_34 : (Jvm.Cond.fieldLink "TrueArms$Arm" (19 : Nat) "TrueArms$Arm" "postures" "I") ∈ wAll := wT_1 34 rfl rfl
theorem wm_35 : (Jvm.Cond.fieldLink "TrueArms" (76 : Nat) "TrueArms$Arm" "postures" "I") ∈ wAll := wT_1 35 rfl rfl
theorem wm_36 : (Jvm.Cond.laysFinal "TrueArms$Arm" "TrueArms$Arm" "lengths" "[I") ∈ wAll := wT_1 36 rfl rfl
theorem wm_37 : (Jvm.Cond.soleField "TrueArms$Arm" "lengths") ∈ wAll := wT_1 37 rfl rfl
theorem wm_38 : (Jvm.Cond.laysFinal "TrueArms$Arm" "TrueArms$Arm" "headings" "[I") ∈ wAll := wT_1 38 rfl rfl
theorem wm_39 : (Jvm.Cond.soleField "TrueArms$Arm" "headings") ∈ wAll := wT_1 39 rfl rfl
theorem wm_40 : (Jvm.Cond.laysFinal "TrueArms$Arm" "TrueArms$Arm" "products" "[I") ∈ wAll := wT_1 40 rfl rfl
theorem wm_41 : (Jvm.Cond.soleField "TrueArms$Arm" "products") ∈ wAll := wT_1 41 rfl rfl
theorem wm_42 : (Jvm.Cond.lays "TrueArms$Arm" "TrueArms$Arm" "postures" "I") ∈ wAll := wT_1 42 rfl rfl
theorem wm_43 : (Jvm.Cond.soleField "TrueArms$Arm" "postures") ∈ wAll := wT_1 43 rfl rfl
theorem wm_44 : (Jvm.Cond.superclass "TrueArms$Arm" "java/lang/Object") ∈ wAll := wT_1 44 rfl rfl
theorem wm_45 : (Jvm.Cond.arrayClass Jvm.ClassFile.FieldType.int) ∈ wAll := wT_1 45 rfl rfl
theorem wm_46 : (Jvm.Cond.classLink "TrueArms" (24 : Nat) "TrueArms$Sums") ∈ wAll := wT_1 46 rfl rfl
theorem wm_47 : (Jvm.Cond.instantiable "TrueArms$Sums" (3 : Nat)) ∈ wAll := wT_1 47 rfl rfl
theorem wm_48 : (Jvm.Cond.methodLink "TrueArms" (26 : Nat) ({ cls := "TrueArms$Sums", name := "<init>", desc := "()V" } : Jvm.MethodName)) ∈ wAll := wT_1 48 rfl rfl
theorem wm_49 : (Jvm.Cond.instanceMethod ({ cls := "TrueArms$Sums", name := "<init>", desc := "()V" } : Jvm.MethodName)) ∈ wAll := wT_1 49 rfl rfl
theorem wm_50 : (Jvm.Cond.code ({ cls := "TrueArms$Sums", name := "<init>", desc := "()V" } : Jvm.MethodName) prog_8_method_1_code (1 : Nat) (Option.none : Option Jvm.ClassFile.FieldType)) ∈ wAll := wT_1 50 rfl rfl
theorem wm_51 : (Jvm.Cond.methodLink "TrueArms$Sums" (1 : Nat) ({ cls := "java/lang/Object", name := "<init>", desc := "()V" } : Jvm.MethodName)) ∈ wAll := wT_1 51 rfl rfl
theorem wm_52 : (Jvm.Cond.fieldLink "TrueArms$Sums" (7 : Nat) "TrueArms$Sums" "cells" "[J") ∈ wAll := wT_1 52 rfl rfl
theorem wm_53 : (Jvm.Cond.fieldLink "TrueArms" (131 : Nat) "TrueArms$Sums" "cells" "[J") ∈ wAll := wT_1 53 rfl rfl
theorem wm_54 : (Jvm.Cond.fieldLink "TrueArms$Sums" (13 : Nat) "TrueArms$Sums" "right" "[J") ∈ wAll := wT_1 54 rfl rfl
theorem wm_55 : (Jvm.Cond.fieldLink "TrueArms$Sums" (16 : Nat) "TrueArms$Sums" "changed" "[J") ∈ wAll := wT_1 55 rfl rfl
theorem wm_56 : (Jvm.Cond.laysFinal "TrueArms$Sums" "TrueArms$Sums" "cells" "[J") ∈ wAll := wT_1 56 rfl rfl
theorem wm_57 : (Jvm.Cond.soleField "TrueArms$Sums" "cells") ∈ wAll := wT_1 57 rfl rfl
theorem wm_58 : (Jvm.Cond.laysFinal "TrueArms$Sums" "TrueArms$Sums" "right" "[J") ∈ wAll := wT_1 58 rfl rfl
theorem wm_59 : (Jvm.Cond.soleField "TrueArms$Sums" "right") ∈ wAll := wT_1 59 rfl rfl
theorem wm_60 : (Jvm.Cond.laysFinal "TrueArms$Sums" "TrueArms$Sums" "changed" "[J") ∈ wAll := wT_1 60 rfl rfl
theorem wm_61 : (Jvm.Cond.soleField "TrueArms$Sums" "changed") ∈ wAll := wT_1 61 rfl rfl
theorem wm_62 : (Jvm.Cond.superclass "TrueArms$Sums" "java/lang/Object") ∈ wAll := wT_1 62 rfl rfl
theorem wm_63 : (Jvm.Cond.arrayClass Jvm.ClassFile.FieldType.boolean) ∈ wAll := wT_1 63 rfl rfl
theorem wm_64 : (Jvm.Cond.arrayClass Jvm.ClassFile.FieldType.long) ∈ wAll := wT_1 64 rfl rfl
theorem wm_65 : (Jvm.Cond.classLink "TrueArms" (31 : Nat) "TrueArms$Camera") ∈ wAll := wT_1 65 rfl rfl
theorem wm_66 : (Jvm.Cond.instantiable "TrueArms$Camera" (5 : Nat)) ∈ wAll := wT_1 66 rfl rfl
theorem wm_67 : (Jvm.Cond.methodLink "TrueArms" (33 : Nat) ({ cls := "TrueArms$Camera", name := "<init>", desc := "()V" } : Jvm.MethodName)) ∈ wAll := wT_1 67 rfl rfl
theorem wm_68 : (Jvm.Cond.instanceMethod ({ cls := "TrueArms$Camera", name := "<init>", desc := "()V" } : Jvm.MethodName)) ∈ wAll := wT_1 68 rfl rfl
theorem wm_69 : (Jvm.Cond.code ({ cls := "TrueArms$Camera", name := "<init>", desc := "()V" } : Jvm.MethodName) prog_3_method_1_code (1 : Nat) (Option.none : Option Jvm.ClassFile.FieldType)) ∈ wAll := wT_1 69 rfl rfl
theorem wm_70 : (Jvm.Cond.methodLink "TrueArms$Camera" (3 : Nat) ({ cls := "java/lang/Object", name := "<init>", desc := "()V" } : Jvm.MethodName)) ∈ wAll := wT_1 70 rfl rfl
theorem wm_71 : (Jvm.Cond.fieldLink "TrueArms$Camera" (11 : Nat) "TrueArms$Camera" "ownP" "[I") ∈ wAll := wT_1 71 rfl rfl
theorem wm_72 : (Jvm.Cond.fieldLink "TrueArms$Camera" (15 : Nat) "TrueArms$Camera" "ownQ" "[I") ∈ wAll := wT_1 72 rfl rfl
theorem wm_73 : (Jvm.Cond.fieldLink "TrueArms$Camera" (18 : Nat) "TrueArms$Camera" "armX" "[I") ∈ wAll := wT_1 73 rfl rfl
theorem wm_74 : (Jvm.Cond.fieldLink "TrueArms$Camera" (21 : Nat) "TrueArms$Camera" "armY" "[I") ∈ wAll := wT_1 74 rfl rfl
theorem wm_75 : (Jvm.Cond.fieldLink "TrueArms$Camera" (24 : Nat) "TrueArms$Camera" "pairs" "I") ∈ wAll := wT_1 75 rfl rfl
theorem wm_76 : (Jvm.Cond.fieldLink "TrueArms" (158 : Nat) "TrueArms$Camera" "pairs" "I") ∈ wAll := wT_1 76 rfl rfl
theorem wm_77 : (Jvm.Cond.laysFinal "TrueArms$Camera" "TrueArms$Camera" "ownP" "[I") ∈ wAll := wT_1 77 rfl rfl
theorem wm_78 : (Jvm.Cond.soleField "TrueArms$Camera" "ownP") ∈ wAll := wT_1 78 rfl rfl
theorem wm_79 : (Jvm.Cond.laysFinal "TrueArms$Camera" "TrueArms$Camera" "ownQ" "[I") ∈ wAll := wT_1 79 rfl rfl
theorem wm_80 : (Jvm.Cond.soleField "TrueArms$Camera" "ownQ") ∈ wAll := wT_1 80 rfl rfl
theorem wm_81 : (Jvm.Cond.laysFinal "TrueArms$Camera" "TrueArms$Camera" "armX" "[I") ∈ wAll := wT_1 81 rfl rfl
theorem wm_82 : (Jvm.Cond.soleField "TrueArms$Camera" "armX") ∈ wAll := wT_1 82 rfl rfl
theorem wm_83 : (Jvm.Cond.laysFinal "TrueArms$Camera" "TrueArms$Camera" "armY" "[I") ∈ wAll := wT_1 83 rfl rfl
theorem wm_84 : (Jvm.Cond.soleField "TrueArms$Camera" "armY") ∈ wAll := wT_1 84 rfl rfl
theorem wm_85 : (Jvm.Cond.lays "TrueArms$Camera" "TrueArms$Camera" "pairs" "I") ∈ wAll := wT_1 85 rfl rfl
theorem wm_86 : (Jvm.Cond.soleField "TrueArms$Camera" "pairs") ∈ wAll := wT_1 86 rfl rfl
theorem wm_87 : (Jvm.Cond.superclass "TrueArms$Camera" "java/lang/Object") ∈ wAll := wT_1 87 rfl rfl
theorem wm_88 : (Jvm.Cond.classLink "TrueArms" (38 : Nat) "TrueArms$Going") ∈ wAll := wT_1 88 rfl rfl
theorem wm_89 : (Jvm.Cond.instantiable "TrueArms$Going" (4 : Nat)) ∈ wAll := wT_1 89 rfl rfl
theorem wm_90 : (Jvm.Cond.methodLink "TrueArms" (40 : Nat) ({ cls := "TrueArms$Going", name := "<init>", desc := "()V" } : Jvm.MethodName)) ∈ wAll := wT_1 90 rfl rfl
theorem wm_91 : (Jvm.Cond.instanceMethod ({ cls := "TrueArms$Going", name := "<init>", desc := "()V" } : Jvm.MethodName)) ∈ wAll := wT_1 91 rfl rfl
theorem wm_92 : (Jvm.Cond.code ({ cls := "TrueArms$Going", name := "<init>", desc := "()V" } : Jvm.MethodName) prog_4_method_1_code (2 : Nat) (Option.none : Option Jvm.ClassFile.FieldType)) ∈ wAll := wT_1 92 rfl rfl
theorem wm_93 : (Jvm.Cond.methodLink "TrueArms$Going" (1 : Nat) ({ cls := "java/lang/Object", name := "<init>", desc := "()V" } : Jvm.MethodName)) ∈ wAll := wT_1 93 rfl rfl
theorem wm_94 : (Jvm.Cond.fieldLink "TrueArms$Going" (9 : Nat) "TrueArms$Going" "may" "[Z") ∈ wAll := wT_1 94 rfl rfl
theorem wm_95 : (Jvm.Cond.fieldLink "TrueArms$Going" (15 : Nat) "TrueArms$Going" "lastLength" "I") ∈ wAll := wT_1 95 rfl rfl
theorem wm_96 : (Jvm.Cond.fieldLink "TrueArms$Going" (19 : Nat) "TrueArms$Going" "foundTurns" "I") ∈ wAll := wT_1 96 rfl rfl
theorem wm_97 : (Jvm.Cond.fieldLink "TrueArms" (187 : Nat) "TrueArms$Going" "foundTurns" "I") ∈ wAll := wT_1 97 rfl rfl
theorem wm_98 : (Jvm.Cond.fieldLink "TrueArms$Going" (22 : Nat) "TrueArms$Going" "least" "J") ∈ wAll := wT_1 98 rfl rfl
theorem wm_99 : (Jvm.Cond.fieldLink "TrueArms" (190 : Nat) "TrueArms$Going" "least" "J") ∈ wAll := wT_1 99 rfl rfl
theorem wm_100 : (Jvm.Cond.laysFinal "TrueArms$Going" "TrueArms$Going" "may" "[Z") ∈ wAll := wT_1 100 rfl rfl
theorem wm_101 : (Jvm.Cond.soleField "TrueArms$Going" "may") ∈ wAll := wT_1 101 rfl rfl
theorem wm_102 : (Jvm.Cond.lays "TrueArms$Going" "TrueArms$Going" "lastLength" "I") ∈ wAll := wT_1 102 rfl rfl
theorem wm_103 : (Jvm.Cond.soleField "TrueArms$Going" "lastLength") ∈ wAll := wT_1 103 rfl rfl
theorem wm_104 : (Jvm.Cond.lays "TrueArms$Going" "TrueArms$Going" "foundTurns" "I") ∈ wAll := wT_1 104 rfl rfl
theorem wm_105 : (Jvm.Cond.soleField "TrueArms$Going" "foundTurns") ∈ wAll := wT_1 105 rfl rfl
theorem wm_106 : (Jvm.Cond.lays "TrueArms$Going" "TrueArms$Going" "least" "J") ∈ wAll := wT_1 106 rfl rfl
theorem wm_107 : (Jvm.Cond.soleField "TrueArms$Going" "least") ∈ wAll := wT_1 107 rfl rfl
theorem wm_108 : (Jvm.Cond.superclass "TrueArms$Going" "java/lang/Object") ∈ wAll := wT_1 108 rfl rfl
theorem wm_109 : (Jvm.Cond.classLink "TrueArms" (45 : Nat) "TrueArms$Signs") ∈ wAll := wT_1 109 rfl rfl
theorem wm_110 : (Jvm.Cond.instantiable "TrueArms$Signs" (2 : Nat)) ∈ wAll := wT_1 110 rfl rfl
theorem wm_111 : (Jvm.Cond.methodLink "TrueArms" (47 : Nat) ({ cls := "TrueArms$Signs", name := "<init>", desc := "()V" } : Jvm.MethodName)) ∈ wAll := wT_1 111 rfl rfl
theorem wm_112 : (Jvm.Cond.instanceMethod ({ cls := "TrueArms$Signs", name := "<init>", desc := "()V" } : Jvm.MethodName)) ∈ wAll := wT_1 112 rfl rfl
theorem wm_113 : (Jvm.Cond.code ({ cls := "TrueArms$Signs", name := "<init>", desc := "()V" } : Jvm.MethodName) prog_7_method_1_code (1 : Nat) (Option.none : Option Jvm.ClassFile.FieldType)) ∈ wAll := wT_1 113 rfl rfl
theorem wm_114 : (Jvm.Cond.methodLink "TrueArms$Signs" (1 : Nat) ({ cls := "java/lang/Object", name := "<init>", desc := "()V" } : Jvm.MethodName)) ∈ wAll := wT_1 114 rfl rfl
theorem wm_115 : (Jvm.Cond.fieldLink "TrueArms$Signs" (7 : Nat) "TrueArms$Signs" "counted" "I") ∈ wAll := wT_1 115 rfl rfl
theorem wm_116 : (Jvm.Cond.fieldLink "TrueArms" (211 : Nat) "TrueArms$Signs" "counted" "I") ∈ wAll := wT_1 116 rfl rfl
theorem wm_117 : (Jvm.Cond.fieldLink "TrueArms$Signs" (13 : Nat) "TrueArms$Signs" "above" "I") ∈ wAll := wT_1 117 rfl rfl
theorem wm_118 : (Jvm.Cond.fieldLink "TrueArms" (214 : Nat) "TrueArms$Signs" "above" "I") ∈ wAll := wT_1 118 rfl rfl
theorem wm_119 : (Jvm.Cond.lays "TrueArms$Signs" "TrueArms$Signs" "counted" "I") ∈ wAll := wT_1 119 rfl rfl
theorem wm_120 : (Jvm.Cond.soleField "TrueArms$Signs" "counted") ∈ wAll := wT_1 120 rfl rfl
theorem wm_121 : (Jvm.Cond.lays "TrueArms$Signs" "TrueArms$Signs" "above" "I") ∈ wAll := wT_1 121 rfl rfl
theorem wm_122 : (Jvm.Cond.soleField "TrueArms$Signs" "above") ∈ wAll := wT_1 122 rfl rfl
theorem wm_123 : (Jvm.Cond.superclass "TrueArms$Signs" "java/lang/Object") ∈ wAll := wT_1 123 rfl rfl
theorem wm_124 : (Jvm.Cond.classLink "TrueArms" (52 : Nat) "TrueArms$Sheet") ∈ wAll := wT_1 124 rfl rfl
theorem wm_125 : (Jvm.Cond.instantiable "TrueArms$Sheet" (3 : Nat)) ∈ wAll := wT_1 126 rfl rfl
theorem wm_126 : (Jvm.Cond.methodLink "TrueArms" (62 : Nat) ({ cls := "TrueArms$Sheet", name := "<init>", desc := "()V" } : Jvm.MethodName)) ∈ wAll := wT_1 127 rfl rfl
theorem wm_127 : (Jvm.Cond.instanceMethod ({ cls := "TrueArms$Sheet", name := "<init>", desc := "()V" } : Jvm.MethodName)) ∈ wAll := wT_1 128 rfl rfl
theorem wm_128 : (Jvm.Cond.code ({ cls := "TrueArms$Sheet", name := "<init>", desc := "()V" } : Jvm.MethodName) prog_6_method_1_code (1 : Nat) (Option.none : Option Jvm.ClassFile.FieldType)) ∈ wAll := wT_1 129 rfl rfl
theorem wm_129 : (Jvm.Cond.methodLink "TrueArms$Sheet" (1 : Nat) ({ cls := "java/lang/Object", name := "<init>", desc := "()V" } : Jvm.MethodName)) ∈ wAll := wT_1 130 rfl rfl
theorem wm_130 : (Jvm.Cond.fieldLink "TrueArms$Sheet" (9 : Nat) "TrueArms$Sheet" "items" "[I") ∈ wAll := wT_1 131 rfl rfl
theorem wm_131 : (Jvm.Cond.fieldLink "TrueArms$Signs" (16 : Nat) "TrueArms$Sheet" "items" "[I") ∈ wAll := wT_1 132 rfl rfl
theorem wm_132 : (Jvm.Cond.fieldLink "TrueArms" (234 : Nat) "TrueArms$Sheet" "items" "[I") ∈ wAll := wT_1 133 rfl rfl
theorem wm_133 : (Jvm.Cond.fieldLink "TrueArms$Sheet" (13 : Nat) "TrueArms$Sheet" "form" "I") ∈ wAll := wT_1 134 rfl rfl
theorem wm_134 : (Jvm.Cond.fieldLink "TrueArms" (240 : Nat) "TrueArms$Sheet" "form" "I") ∈ wAll := wT_1 135 rfl rfl
theorem wm_135 : (Jvm.Cond.fieldLink "TrueArms$Sheet" (17 : Nat) "TrueArms$Sheet" "size" "I") ∈ wAll := wT_1 136 rfl rfl
theorem wm_136 : (Jvm.Cond.laysFinal "TrueArms$Sheet" "TrueArms$Sheet" "items" "[I") ∈ wAll := wT_1 137 rfl rfl
theorem wm_137 : (Jvm.Cond.soleField "TrueArms$Sheet" "items") ∈ wAll := wT_1 138 rfl rfl
theorem wm_138 : (Jvm.Cond.lays "TrueArms$Sheet" "TrueArms$Sheet" "form" "I") ∈ wAll := wT_1 139 rfl rfl
theorem wm_139 : (Jvm.Cond.soleField "TrueArms$Sheet" "form") ∈ wAll := wT_1 140 rfl rfl
theorem wm_140 : (Jvm.Cond.lays "TrueArms$Sheet" "TrueArms$Sheet" "size" "I") ∈ wAll := wT_1 141 rfl rfl
theorem wm_141 : (Jvm.Cond.soleField "TrueArms$Sheet" "size") ∈ wAll := wT_1 142 rfl rfl
theorem wm_142 : (Jvm.Cond.superclass "TrueArms$Sheet" "java/lang/Object") ∈ wAll := wT_1 143 rfl rfl
theorem wm_143 : (Jvm.Cond.fieldLink "TrueArms" (10 : Nat) "TrueArms" "arm" "LTrueArms$Arm;") ∈ wAll := wT_1 144 rfl rfl
theorem wm_144 : (Jvm.Cond.fieldLink "TrueArms" (16 : Nat) "TrueArms" "leftOut" "[Z") ∈ wAll := wT_1 145 rfl rfl
theorem wm_145 : (Jvm.Cond.fieldLink "TrueArms" (20 : Nat) "TrueArms" "usedOnes" "[I") ∈ wAll := wT_1 146 rfl rfl
theorem wm_146 : (Jvm.Cond.fieldLink "TrueArms" (27 : Nat) "TrueArms" "sums" "LTrueArms$Sums;") ∈ wAll := wT_1 147 rfl rfl
theorem wm_147 : (Jvm.Cond.fieldLink "TrueArms" (34 : Nat) "TrueArms" "camera" "LTrueArms$Camera;") ∈ wAll := wT_1 148 rfl rfl
theorem wm_148 : (Jvm.Cond.fieldLink "TrueArms" (41 : Nat) "TrueArms" "going" "LTrueArms$Going;") ∈ wAll := wT_1 149 rfl rfl
theorem wm_149 : (Jvm.Cond.fieldLink "TrueArms" (48 : Nat) "TrueArms" "signs" "LTrueArms$Signs;") ∈ wAll := wT_1 150 rfl rfl
theorem wm_150 : (Jvm.Cond.fieldLink "TrueArms" (54 : Nat) "TrueArms" "sheets" "[LTrueArms$Sheet;") ∈ wAll := wT_1 151 rfl rfl
theorem wm_151 : (Jvm.Cond.fieldLink "TrueArms" (58 : Nat) "TrueArms" "latestFinding" "I") ∈ wAll := wT_1 152 rfl rfl
theorem wm_152 : (Jvm.Cond.laysFinal "TrueArms" "TrueArms" "arm" "LTrueArms$Arm;") ∈ wAll := wT_1 153 rfl rfl
theorem wm_153 : (Jvm.Cond.soleField "TrueArms" "arm") ∈ wAll := wT_1 154 rfl rfl
theorem wm_154 : (Jvm.Cond.laysFinal "TrueArms" "TrueArms" "leftOut" "[Z") ∈ wAll := wT_1 155 rfl rfl
theorem wm_155 : (Jvm.Cond.soleField "TrueArms" "leftOut") ∈ wAll := wT_1 156 rfl rfl
theorem wm_156 : (Jvm.Cond.laysFinal "TrueArms" "TrueArms" "usedOnes" "[I") ∈ wAll := wT_1 157 rfl rfl
theorem wm_157 : (Jvm.Cond.soleField "TrueArms" "usedOnes") ∈ wAll := wT_1 158 rfl rfl
theorem wm_158 : (Jvm.Cond.laysFinal "TrueArms" "TrueArms" "sums" "LTrueArms$Sums;") ∈ wAll := wT_1 159 rfl rfl
theorem wm_159 : (Jvm.Cond.soleField "TrueArms" "sums") ∈ wAll := wT_1 160 rfl rfl
theorem wm_160 : (Jvm.Cond.laysFinal "TrueArms" "TrueArms" "camera" "LTrueArms$Camera;") ∈ wAll := wT_1 161 rfl rfl
theorem wm_161 : (Jvm.Cond.soleField "TrueArms" "camera") ∈ wAll := wT_1 162 rfl rfl
theorem wm_162 : (Jvm.Cond.laysFinal "TrueArms" "TrueArms" "going" "LTrueArms$Going;") ∈ wAll := wT_1 163 rfl rfl
theorem wm_163 : (Jvm.Cond.soleField "TrueArms" "going") ∈ wAll := wT_1 164 rfl rfl
theorem wm_164 : (Jvm.Cond.laysFinal "TrueArms" "TrueArms" "signs" "LTrueArms$Signs;") ∈ wAll := wT_1 165 rfl rfl
theorem wm_165 : (Jvm.Cond.soleField "TrueArms" "signs") ∈ wAll := wT_1 166 rfl rfl
theorem wm_166 : (Jvm.Cond.laysFinal "TrueArms" "TrueArms" "sheets" "[LTrueArms$Sheet;") ∈ wAll := wT_1 167 rfl rfl
theorem wm_167 : (Jvm.Cond.soleField "TrueArms" "sheets") ∈ wAll := wT_1 168 rfl rfl
theorem wm_168 : (Jvm.Cond.lays "TrueArms" "TrueArms" "latestFinding" "I") ∈ wAll := wT_1 169 rfl rfl
theorem wm_169 : (Jvm.Cond.soleField "TrueArms" "latestFinding") ∈ wAll := wT_1 170 rfl rfl
theorem wm_170 : (Jvm.Cond.superclass "TrueArms" "java/lang/Object") ∈ wAll := wT_1 171 rfl rfl
theorem wm_171 : (Jvm.Cond.methodLink "TrueArmsLaw" (13 : Nat) ({ cls := "TrueArms", name := "turn", desc := "(II)I" } : Jvm.MethodName)) ∈ wAll := wT_1 172 rfl rfl
theorem wm_172 : (Jvm.Cond.instanceMethod ({ cls := "TrueArms", name := "turn", desc := "(II)I" } : Jvm.MethodName)) ∈ wAll := wT_1 173 rfl rfl
theorem wm_173 : (Jvm.Cond.selects "TrueArms" ({ cls := "TrueArms", name := "turn", desc := "(II)I" } : Jvm.MethodName) ({ cls := "TrueArms", name := "turn", desc := "(II)I" } : Jvm.MethodName)) ∈ wAll := wT_1 174 rfl rfl
theorem wm_174 : (Jvm.Cond.code ({ cls := "TrueArms", name := "turn", desc := "(II)I" } : Jvm.MethodName) prog_1_method_2_code (3 : Nat) (Option.some Jvm.ClassFile.FieldType.int)) ∈ wAll := wT_1 175 rfl rfl
theorem wm_175 : (Jvm.Cond.methodLink "TrueArms" (65 : Nat) ({ cls := "TrueArms", name := "within", desc := "(III)Z" } : Jvm.MethodName)) ∈ wAll := wT_1 176 rfl rfl
theorem wm_176 : (Jvm.Cond.static ({ cls := "TrueArms", name := "within", desc := "(III)Z" } : Jvm.MethodName)) ∈ wAll := wT_1 177 rfl rfl
theorem wm_177 : (Jvm.Cond.code ({ cls := "TrueArms", name := "within", desc := "(III)Z" } : Jvm.MethodName) prog_1_method_34_code (3 : Nat) (Option.some Jvm.ClassFile.FieldType.boolean)) ∈ wAll := wT_1 178 rfl rfl
theorem wm_178 : (Jvm.Cond.methodLink "TrueArms" (69 : Nat) ({ cls := "TrueArms$Headings", name := "part", desc := "(II)I" } : Jvm.MethodName)) ∈ wAll := wT_1 179 rfl rfl
theorem wm_179 : (Jvm.Cond.static ({ cls := "TrueArms$Headings", name := "part", desc := "(II)I" } : Jvm.MethodName)) ∈ wAll := wT_1 180 rfl rfl
theorem wm_180 : (Jvm.Cond.code ({ cls := "TrueArms$Headings", name := "part", desc := "(II)I" } : Jvm.MethodName) prog_5_method_4_code (2 : Nat) (Option.some Jvm.ClassFile.FieldType.int)) ∈ wAll := wT_1 181 rfl rfl
theorem wm_181 : (Jvm.Cond.methodLink "TrueArms$Headings" (13 : Nat) ({ cls := "TrueArms$Headings", name := "cOf", desc := "(I)I" } : Jvm.MethodName)) ∈ wAll := wT_1 182 rfl rfl
theorem wm_182 : (Jvm.Cond.static ({ cls := "TrueArms$Headings", name := "cOf", desc := "(I)I" } : Jvm.MethodName)) ∈ wAll := wT_1 183 rfl rfl
theorem wm_183 : (Jvm.Cond.code ({ cls := "TrueArms$Headings", name := "cOf", desc := "(I)I" } : Jvm.MethodName) prog_5_method_2_code (1 : Nat) (Option.some Jvm.ClassFile.FieldType.int)) ∈ wAll := wT_1 184 rfl rfl
theorem wm_184 : (Jvm.Cond.fieldLink "TrueArms$Headings" (7 : Nat) "TrueArms$Headings" "C_OF" "[I") ∈ wAll := wT_1 185 rfl rfl
theorem wm_185 : (Jvm.Cond.methodLink "TrueArms$Headings" (17 : Nat) ({ cls := "TrueArms$Headings", name := "sOf", desc := "(I)I" } : Jvm.MethodName)) ∈ wAll := wT_1 187 rfl rfl
theorem wm_186 : (Jvm.Cond.static ({ cls := "TrueArms$Headings", name := "sOf", desc := "(I)I" } : Jvm.MethodName)) ∈ wAll := wT_1 188 rfl rfl
theorem wm_187 : (Jvm.Cond.code ({ cls := "TrueArms$Headings", name := "sOf", desc := "(I)I" } : Jvm.MethodName) prog_5_method_3_code (1 : Nat) (Option.some Jvm.ClassFile.FieldType.int)) ∈ wAll := wT_1 189 rfl rfl
theorem wm_188 : (Jvm.Cond.methodLink "TrueArmsLaw" (18 : Nat) ({ cls := "TrueArms", name := "length", desc := "(II)I" } : Jvm.MethodName)) ∈ wAll := wT_1 190 rfl rfl
theorem wm_189 : (Jvm.Cond.instanceMethod ({ cls := "TrueArms", name := "length", desc := "(II)I" } : Jvm.MethodName)) ∈ wAll := wT_1 191 rfl rfl
theorem wm_190 : (Jvm.Cond.selects "TrueArms" ({ cls := "TrueArms", name := "length", desc := "(II)I" } : Jvm.MethodName) ({ cls := "TrueArms", name := "length", desc := "(II)I" } : Jvm.MethodName)) ∈ wAll := wT_1 192 rfl rfl
theorem wm_191 : (Jvm.Cond.code ({ cls := "TrueArms", name := "length", desc := "(II)I" } : Jvm.MethodName) prog_1_method_3_code (4 : Nat) (Option.some Jvm.ClassFile.FieldType.int)) ∈ wAll := wT_1 193 rfl rfl
theorem wm_192 : (Jvm.Cond.methodLink "TrueArmsLaw" (22 : Nat) ({ cls := "TrueArms", name := "posture", desc := "(III)I" } : Jvm.MethodName)) ∈ wAll := wT_1 194 rfl rfl
theorem wm_193 : (Jvm.Cond.instanceMethod ({ cls := "TrueArms", name := "posture", desc := "(III)I" } : Jvm.MethodName)) ∈ wAll := wT_1 195 rfl rfl
theorem wm_194 : (Jvm.Cond.selects "TrueArms" ({ cls := "TrueArms", name := "posture", desc := "(III)I" } : Jvm.MethodName) ({ cls := "TrueArms", name := "posture", desc := "(III)I" } : Jvm.MethodName)) ∈ wAll := wT_1 196 rfl rfl
theorem wm_195 : (Jvm.Cond.code ({ cls := "TrueArms", name := "posture", desc := "(III)I" } : Jvm.MethodName) prog_1_method_4_code (4 : Nat) (Option.some Jvm.ClassFile.FieldType.int)) ∈ wAll := wT_1 197 rfl rfl
theorem wm_196 : (Jvm.Cond.methodLink "TrueArms" (79 : Nat) ({ cls := "TrueArms$Arm", name := "stand", desc := "(III)I" } : Jvm.MethodName)) ∈ wAll := wT_1 198 rfl rfl
theorem wm_197 : (Jvm.Cond.instanceMethod ({ cls := "TrueArms$Arm", name := "stand", desc := "(III)I" } : Jvm.MethodName)) ∈ wAll := wT_1 199 rfl rfl
theorem wm_198 : (Jvm.Cond.selects "TrueArms$Arm" ({ cls := "TrueArms$Arm", name := "stand", desc := "(III)I" } : Jvm.MethodName) ({ cls := "TrueArms$Arm", name := "stand", desc := "(III)I" } : Jvm.MethodName)) ∈ wAll := wT_1 200 rfl rfl
theorem wm_199 : (Jvm.Cond.code ({ cls := "TrueArms$Arm", name := "stand", desc := "(III)I" } : Jvm.MethodName) prog_2_method_2_code (7 : Nat) (Option.some Jvm.ClassFile.FieldType.int)) ∈ wAll := wT_1 201 rfl rfl
theorem wm_200 : (Jvm.Cond.methodLink "TrueArms$Arm" (23 : Nat) ({ cls := "TrueArms$Headings", name := "round", desc := "(I)I" } : Jvm.MethodName)) ∈ wAll := wT_1 202 rfl rfl
theorem wm_201 : (Jvm.Cond.static ({ cls := "TrueArms$Headings", name := "round", desc := "(I)I" } : Jvm.MethodName)) ∈ wAll := wT_1 203 rfl rfl
theorem wm_202 : (Jvm.Cond.code ({ cls := "TrueArms$Headings", name := "round", desc := "(I)I" } : Jvm.MethodName) prog_5_method_5_code (1 : Nat) (Option.some Jvm.ClassFile.FieldType.int)) ∈ wAll := wT_1 204 rfl rfl
theorem wm_203 : (Jvm.Cond.methodLink "TrueArms$Arm" (29 : Nat) ({ cls := "TrueArms$Arm", name := "productOf", desc := "(II)I" } : Jvm.MethodName)) ∈ wAll := wT_1 205 rfl rfl
theorem wm_204 : (Jvm.Cond.static ({ cls := "TrueArms$Arm", name := "productOf", desc := "(II)I" } : Jvm.MethodName)) ∈ wAll := wT_1 206 rfl rfl
theorem wm_205 : (Jvm.Cond.code ({ cls := "TrueArms$Arm", name := "productOf", desc := "(II)I" } : Jvm.MethodName) prog_2_method_3_code (2 : Nat) (Option.some Jvm.ClassFile.FieldType.int)) ∈ wAll := wT_1 207 rfl rfl
theorem wm_206 : (Jvm.Cond.methodLink "TrueArms$Arm" (33 : Nat) ({ cls := "TrueArms$Headings", name := "cOf", desc := "(I)I" } : Jvm.MethodName)) ∈ wAll := wT_1 208 rfl rfl
theorem wm_207 : (Jvm.Cond.methodLink "TrueArms$Arm" (36 : Nat) ({ cls := "TrueArms$Headings", name := "sOf", desc := "(I)I" } : Jvm.MethodName)) ∈ wAll := wT_1 209 rfl rfl
theorem wm_208 : (Jvm.Cond.methodLink "TrueArmsLaw" (27 : Nat) ({ cls := "TrueArms", name := "clear", desc := "()I" } : Jvm.MethodName)) ∈ wAll := wT_1 210 rfl rfl
theorem wm_209 : (Jvm.Cond.instanceMethod ({ cls := "TrueArms", name := "clear", desc := "()I" } : Jvm.MethodName)) ∈ wAll := wT_1 211 rfl rfl
theorem wm_210 : (Jvm.Cond.selects "TrueArms" ({ cls := "TrueArms", name := "clear", desc := "()I" } : Jvm.MethodName) ({ cls := "TrueArms", name := "clear", desc := "()I" } : Jvm.MethodName)) ∈ wAll := wT_1 212 rfl rfl
theorem wm_211 : (Jvm.Cond.code ({ cls := "TrueArms", name := "clear", desc := "()I" } : Jvm.MethodName) prog_1_method_5_code (3 : Nat) (Option.some Jvm.ClassFile.FieldType.int)) ∈ wAll := wT_1 213 rfl rfl
theorem wm_212 : (Jvm.Cond.methodLink "TrueArmsLaw" (32 : Nat) ({ cls := "TrueArms", name := "hand", desc := "(II)I" } : Jvm.MethodName)) ∈ wAll := wT_1 214 rfl rfl
theorem wm_213 : (Jvm.Cond.instanceMethod ({ cls := "TrueArms", name := "hand", desc := "(II)I" } : Jvm.MethodName)) ∈ wAll := wT_1 215 rfl rfl
theorem wm_214 : (Jvm.Cond.selects "TrueArms" ({ cls := "TrueArms", name := "hand", desc := "(II)I" } : Jvm.MethodName) ({ cls := "TrueArms", name := "hand", desc := "(II)I" } : Jvm.MethodName)) ∈ wAll := wT_1 216 rfl rfl
theorem wm_215 : (Jvm.Cond.code ({ cls := "TrueArms", name := "hand", desc := "(II)I" } : Jvm.MethodName) prog_1_method_6_code (3 : Nat) (Option.some Jvm.ClassFile.FieldType.int)) ∈ wAll := wT_1 217 rfl rfl
theorem wm_216 : (Jvm.Cond.methodLink "TrueArms" (83 : Nat) ({ cls := "TrueArms", name := "isPosture", desc := "(I)Z" } : Jvm.MethodName)) ∈ wAll := wT_1 218 rfl rfl
theorem wm_217 : (Jvm.Cond.instanceMethod ({ cls := "TrueArms", name := "isPosture", desc := "(I)Z" } : Jvm.MethodName)) ∈ wAll := wT_1 220 rfl rfl
theorem wm_218 : (Jvm.Cond.code ({ cls := "TrueArms", name := "isPosture", desc := "(I)Z" } : Jvm.MethodName) prog_1_method_35_code (2 : Nat) (Option.some Jvm.ClassFile.FieldType.boolean)) ∈ wAll := wT_1 221 rfl rfl
theorem wm_219 : (Jvm.Cond.constant "TrueArms" (87 : Nat) (-2147483648 : Int32)) ∈ wAll := wT_1 222 rfl rfl
theorem wm_220 : (Jvm.Cond.methodLink "TrueArms" (88 : Nat) ({ cls := "TrueArms$Arm", name := "reached", desc := "(II)I" } : Jvm.MethodName)) ∈ wAll := wT_1 223 rfl rfl
theorem wm_221 : (Jvm.Cond.instanceMethod ({ cls := "TrueArms$Arm", name := "reached", desc := "(II)I" } : Jvm.MethodName)) ∈ wAll := wT_1 224 rfl rfl
theorem wm_222 : (Jvm.Cond.selects "TrueArms$Arm" ({ cls := "TrueArms$Arm", name := "reached", desc := "(II)I" } : Jvm.MethodName) ({ cls := "TrueArms$Arm", name := "reached", desc := "(II)I" } : Jvm.MethodName)) ∈ wAll := wT_1 225 rfl rfl
theorem wm_223 : (Jvm.Cond.code ({ cls := "TrueArms$Arm", name := "reached", desc := "(II)I" } : Jvm.MethodName) prog_2_method_4_code (5 : Nat) (Option.some Jvm.ClassFile.FieldType.int)) ∈ wAll := wT_1 226 rfl rfl
theorem wm_224 : (Jvm.Cond.methodLink "TrueArms$Arm" (39 : Nat) ({ cls := "TrueArms$Headings", name := "part", desc := "(II)I" } : Jvm.MethodName)) ∈ wAll := wT_1 227 rfl rfl
theorem wm_225 : (Jvm.Cond.methodLink "TrueArmsLaw" (36 : Nat) ({ cls := "TrueArms", name := "mend", desc := "()I" } : Jvm.MethodName)) ∈ wAll := wT_1 228 rfl rfl
theorem wm_226 : (Jvm.Cond.instanceMethod ({ cls := "TrueArms", name := "mend", desc := "()I" } : Jvm.MethodName)) ∈ wAll := wT_1 229 rfl rfl
theorem wm_227 : (Jvm.Cond.selects "TrueArms" ({ cls := "TrueArms", name := "mend", desc := "()I" } : Jvm.MethodName) ({ cls := "TrueArms", name := "mend", desc := "()I" } : Jvm.MethodName)) ∈ wAll := wT_1 230 rfl rfl
theorem wm_228 : (Jvm.Cond.code ({ cls := "TrueArms", name := "mend", desc := "()I" } : Jvm.MethodName) prog_1_method_7_code (4 : Nat) (Option.some Jvm.ClassFile.FieldType.int)) ∈ wAll := wT_1 231 rfl rfl
theorem wm_229 : (Jvm.Cond.methodLink "TrueArms" (91 : Nat) ({ cls := "TrueArms", name := "sumUsed", desc := "()V" } : Jvm.MethodName)) ∈ wAll := wT_1 232 rfl rfl
theorem wm_230 : (Jvm.Cond.instanceMethod ({ cls := "TrueArms", name := "sumUsed", desc := "()V" } : Jvm.MethodName)) ∈ wAll := wT_1 234 rfl rfl
theorem wm_231 : (Jvm.Cond.code ({ cls := "TrueArms", name := "sumUsed", desc := "()V" } : Jvm.MethodName) prog_1_method_45_code (4 : Nat) (Option.none : Option Jvm.ClassFile.FieldType)) ∈ wAll := wT_1 235 rfl rfl
theorem wm_232 : (Jvm.Cond.methodLink "TrueArms" (126 : Nat) ({ cls := "TrueArms", name := "listUsed", desc := "()I" } : Jvm.MethodName)) ∈ wAll := wT_1 236 rfl rfl
theorem wm_233 : (Jvm.Cond.instanceMethod ({ cls := "TrueArms", name := "listUsed", desc := "()I" } : Jvm.MethodName)) ∈ wAll := wT_1 238 rfl rfl
theorem wm_234 : (Jvm.Cond.code ({ cls := "TrueArms", name := "listUsed", desc := "()I" } : Jvm.MethodName) prog_1_method_44_code (3 : Nat) (Option.some Jvm.ClassFile.FieldType.int)) ∈ wAll := wT_1 239 rfl rfl
theorem wm_235 : (Jvm.Cond.methodLink "TrueArms" (120 : Nat) ({ cls := "TrueArms", name := "isMeasured", desc := "(I)Z" } : Jvm.MethodName)) ∈ wAll := wT_2 0 rfl rfl
theorem wm_236 : (Jvm.Cond.instanceMethod ({ cls := "TrueArms", name := "isMeasured", desc := "(I)Z" } : Jvm.MethodName)) ∈ wAll := wT_2 2 rfl rfl
theorem wm_237 : (Jvm.Cond.code ({ cls := "TrueArms", name := "isMeasured", desc := "(I)Z" } : Jvm.MethodName) prog_1_method_41_code (2 : Nat) (Option.some Jvm.ClassFile.FieldType.boolean)) ∈ wAll := wT_2 3 rfl rfl
theorem wm_238 : (Jvm.Cond.methodLink "TrueArms" (265 : Nat) ({ cls := "TrueArms$Sheet", name := "hasMeasureAt", desc := "(I)Z" } : Jvm.MethodName)) ∈ wAll := wT_2 4 rfl rfl
theorem wm_239 : (Jvm.Cond.instanceMethod ({ cls := "TrueArms$Sheet", name := "hasMeasureAt", desc := "(I)Z" } : Jvm.MethodName)) ∈ wAll := wT_2 5 rfl rfl
theorem wm_240 : (Jvm.Cond.selects "TrueArms$Sheet" ({ cls := "TrueArms$Sheet", name := "hasMeasureAt", desc := "(I)Z" } : Jvm.MethodName) ({ cls := "TrueArms$Sheet", name := "hasMeasureAt", desc := "(I)Z" } : Jvm.MethodName)) ∈ wAll := wT_2 6 rfl rfl
theorem wm_241 : (Jvm.Cond.code ({ cls := "TrueArms$Sheet", name := "hasMeasureAt", desc := "(I)Z" } : Jvm.MethodName) prog_6_method_9_code (2 : Nat) (Option.some Jvm.ClassFile.FieldType.boolean)) ∈ wAll := wT_2 7 rfl rfl
theorem wm_242 : (Jvm.Cond.methodLink "TrueArms$Sheet" (26 : Nat) ({ cls := "TrueArms$Sheet", name := "has", desc := "(I)Z" } : Jvm.MethodName)) ∈ wAll := wT_2 8 rfl rfl
theorem wm_243 : (Jvm.Cond.instanceMethod ({ cls := "TrueArms$Sheet", name := "has", desc := "(I)Z" } : Jvm.MethodName)) ∈ wAll := wT_2 9 rfl rfl
theorem wm_244 : (Jvm.Cond.selects "TrueArms$Sheet" ({ cls := "TrueArms$Sheet", name := "has", desc := "(I)Z" } : Jvm.MethodName) ({ cls := "TrueArms$Sheet", name := "has", desc := "(I)Z" } : Jvm.MethodName)) ∈ wAll := wT_2 10 rfl rfl
theorem wm_245 : (Jvm.Cond.code ({ cls := "TrueArms$Sheet", name := "has", desc := "(I)Z" } : Jvm.MethodName) prog_6_method_7_code (2 : Nat) (Option.some Jvm.ClassFile.FieldType.boolean)) ∈ wAll := wT_2 11 rfl rfl
theorem wm_246 : (Jvm.Cond.methodLink "TrueArms" (273 : Nat) ({ cls := "TrueArms$Sums", name := "forget", desc := "()V" } : Jvm.MethodName)) ∈ wAll := wT_2 12 rfl rfl
theorem wm_247 : (Jvm.Cond.instanceMethod ({ cls := "TrueArms$Sums", name := "forget", desc := "()V" } : Jvm.MethodName)) ∈ wAll := wT_2 13 rfl rfl
theorem wm_248 : (Jvm.Cond.selects "TrueArms$Sums" ({ cls := "TrueArms$Sums", name := "forget", desc := "()V" } : Jvm.MethodName) ({ cls := "TrueArms$Sums", name := "forget", desc := "()V" } : Jvm.MethodName)) ∈ wAll := wT_2 14 rfl rfl
theorem wm_249 : (Jvm.Cond.code ({ cls := "TrueArms$Sums", name := "forget", desc := "()V" } : Jvm.MethodName) prog_8_method_2_code (1 : Nat) (Option.none : Option Jvm.ClassFile.FieldType)) ∈ wAll := wT_2 15 rfl rfl
theorem wm_250 : (Jvm.Cond.methodLink "TrueArms$Sums" (19 : Nat) ({ cls := "java/util/Arrays", name := "fill", desc := "([JJ)V" } : Jvm.MethodName)) ∈ wAll := wT_2 16 rfl rfl
theorem wm_251 : (Jvm.Cond.static ({ cls := "java/util/Arrays", name := "fill", desc := "([JJ)V" } : Jvm.MethodName)) ∈ wAll := wT_2 17 rfl rfl
theorem wm_252 : (Jvm.Cond.code ({ cls := "java/util/Arrays", name := "fill", desc := "([JJ)V" } : Jvm.MethodName) prog_14_method_101_code (5 : Nat) (Option.none : Option Jvm.ClassFile.FieldType)) ∈ wAll := wT_2 18 rfl rfl
theorem wm_253 : (Jvm.Cond.methodLink "TrueArms" (276 : Nat) ({ cls := "TrueArms$Sums", name := "addLeft", desc := "(LTrueArms$Arm;I)V" } : Jvm.MethodName)) ∈ wAll := wT_2 19 rfl rfl
theorem wm_254 : (Jvm.Cond.instanceMethod ({ cls := "TrueArms$Sums", name := "addLeft", desc := "(LTrueArms$Arm;I)V" } : Jvm.MethodName)) ∈ wAll := wT_2 20 rfl rfl
theorem wm_255 : (Jvm.Cond.selects "TrueArms$Sums" ({ cls := "TrueArms$Sums", name := "addLeft", desc := "(LTrueArms$Arm;I)V" } : Jvm.MethodName) ({ cls := "TrueArms$Sums", name := "addLeft", desc := "(LTrueArms$Arm;I)V" } : Jvm.MethodName)) ∈ wAll := wT_2 21 rfl rfl
theorem wm_256 : (Jvm.Cond.code ({ cls := "TrueArms$Sums", name := "addLeft", desc := "(LTrueArms$Arm;I)V" } : Jvm.MethodName) prog_8_method_3_code (4 : Nat) (Option.none : Option Jvm.ClassFile.FieldType)) ∈ wAll := wT_2 22 rfl rfl
theorem wm_257 : (Jvm.Cond.methodLink "TrueArms" (123 : Nat) ({ cls := "TrueArms", name := "measured", desc := "(II)I" } : Jvm.MethodName)) ∈ wAll := wT_2 23 rfl rfl
theorem wm_258 : (Jvm.Cond.instanceMethod ({ cls := "TrueArms", name := "measured", desc := "(II)I" } : Jvm.MethodName)) ∈ wAll := wT_2 25 rfl rfl
theorem wm_259 : (Jvm.Cond.code ({ cls := "TrueArms", name := "measured", desc := "(II)I" } : Jvm.MethodName) prog_1_method_42_code (3 : Nat) (Option.some Jvm.ClassFile.FieldType.int)) ∈ wAll := wT_2 26 rfl rfl
theorem wm_260 : (Jvm.Cond.methodLink "TrueArms" (280 : Nat) ({ cls := "TrueArms$Sums", name := "addRight", desc := "(LTrueArms$Arm;III)V" } : Jvm.MethodName)) ∈ wAll := wT_2 27 rfl rfl
theorem wm_261 : (Jvm.Cond.instanceMethod ({ cls := "TrueArms$Sums", name := "addRight", desc := "(LTrueArms$Arm;III)V" } : Jvm.MethodName)) ∈ wAll := wT_2 28 rfl rfl
theorem wm_262 : (Jvm.Cond.selects "TrueArms$Sums" ({ cls := "TrueArms$Sums", name := "addRight", desc := "(LTrueArms$Arm;III)V" } : Jvm.MethodName) ({ cls := "TrueArms$Sums", name := "addRight", desc := "(LTrueArms$Arm;III)V" } : Jvm.MethodName)) ∈ wAll := wT_2 29 rfl rfl
theorem wm_263 : (Jvm.Cond.code ({ cls := "TrueArms$Sums", name := "addRight", desc := "(LTrueArms$Arm;III)V" } : Jvm.MethodName) prog_8_method_4_code (7 : Nat) (Option.none : Option Jvm.ClassFile.FieldType)) ∈ wAll := wT_2 30 rfl rfl
theorem wm_264 : (Jvm.Cond.methodLink "TrueArms$Sums" (34 : Nat) ({ cls := "TrueArms$Headings", name := "cOf", desc := "(I)I" } : Jvm.MethodName)) ∈ wAll := wT_2 31 rfl rfl
theorem wm_265 : (Jvm.Cond.methodLink "TrueArms$Sums" (40 : Nat) ({ cls := "TrueArms$Headings", name := "sOf", desc := "(I)I" } : Jvm.MethodName)) ∈ wAll := wT_2 32 rfl rfl
theorem wm_266 : (Jvm.Cond.methodLink "TrueArms" (94 : Nat) ({ cls := "TrueArms$Sums", name := "rankOfAll", desc := "()I" } : Jvm.MethodName)) ∈ wAll := wT_2 33 rfl rfl
theorem wm_267 : (Jvm.Cond.instanceMethod ({ cls := "TrueArms$Sums", name := "rankOfAll", desc := "()I" } : Jvm.MethodName)) ∈ wAll := wT_2 34 rfl rfl
theorem wm_268 : (Jvm.Cond.selects "TrueArms$Sums" ({ cls := "TrueArms$Sums", name := "rankOfAll", desc := "()I" } : Jvm.MethodName) ({ cls := "TrueArms$Sums", name := "rankOfAll", desc := "()I" } : Jvm.MethodName)) ∈ wAll := wT_2 35 rfl rfl
theorem wm_269 : (Jvm.Cond.code ({ cls := "TrueArms$Sums", name := "rankOfAll", desc := "()I" } : Jvm.MethodName) prog_8_method_8_code (1 : Nat) (Option.some Jvm.ClassFile.FieldType.int)) ∈ wAll := wT_2 36 rfl rfl
theorem wm_270 : (Jvm.Cond.methodLink "TrueArms$Sums" (47 : Nat) ({ cls := "TrueArms$Sums", name := "determinant", desc := "()J" } : Jvm.MethodName)) ∈ wAll := wT_2 37 rfl rfl
theorem wm_271 : (Jvm.Cond.instanceMethod ({ cls := "TrueArms$Sums", name := "determinant", desc := "()J" } : Jvm.MethodName)) ∈ wAll := wT_2 38 rfl rfl
theorem wm_272 : (Jvm.Cond.selects "TrueArms$Sums" ({ cls := "TrueArms$Sums", name := "determinant", desc := "()J" } : Jvm.MethodName) ({ cls := "TrueArms$Sums", name := "determinant", desc := "()J" } : Jvm.MethodName)) ∈ wAll := wT_2 39 rfl rfl
theorem wm_273 : (Jvm.Cond.code ({ cls := "TrueArms$Sums", name := "determinant", desc := "()J" } : Jvm.MethodName) prog_8_method_5_code (1 : Nat) (Option.some Jvm.ClassFile.FieldType.long)) ∈ wAll := wT_2 40 rfl rfl
theorem wm_274 : (Jvm.Cond.methodLink "TrueArms$Sums" (43 : Nat) ({ cls := "TrueArms$Sums", name := "determinantOf", desc := "([J)J" } : Jvm.MethodName)) ∈ wAll := wT_2 41 rfl rfl
theorem wm_275 : (Jvm.Cond.static ({ cls := "TrueArms$Sums", name := "determinantOf", desc := "([J)J" } : Jvm.MethodName)) ∈ wAll := wT_2 42 rfl rfl
theorem wm_276 : (Jvm.Cond.code ({ cls := "TrueArms$Sums", name := "determinantOf", desc := "([J)J" } : Jvm.MethodName) prog_8_method_6_code (1 : Nat) (Option.some Jvm.ClassFile.FieldType.long)) ∈ wAll := wT_2 43 rfl rfl
theorem wm_277 : (Jvm.Cond.methodLink "TrueArms$Sums" (51 : Nat) ({ cls := "TrueArms$Sums", name := "rankWithout", desc := "(I)I" } : Jvm.MethodName)) ∈ wAll := wT_2 44 rfl rfl
theorem wm_278 : (Jvm.Cond.instanceMethod ({ cls := "TrueArms$Sums", name := "rankWithout", desc := "(I)I" } : Jvm.MethodName)) ∈ wAll := wT_2 46 rfl rfl
theorem wm_279 : (Jvm.Cond.code ({ cls := "TrueArms$Sums", name := "rankWithout", desc := "(I)I" } : Jvm.MethodName) prog_8_method_9_code (10 : Nat) (Option.some Jvm.ClassFile.FieldType.int)) ∈ wAll := wT_2 47 rfl rfl
theorem wm_280 : (Jvm.Cond.methodLink "TrueArms$Sums" (54 : Nat) ({ cls := "java/lang/Math", name := "max", desc := "(II)I" } : Jvm.MethodName)) ∈ wAll := wT_2 48 rfl rfl
theorem wm_281 : (Jvm.Cond.static ({ cls := "java/lang/Math", name := "max", desc := "(II)I" } : Jvm.MethodName)) ∈ wAll := wT_2 49 rfl rfl
theorem wm_282 : (Jvm.Cond.code ({ cls := "java/lang/Math", name := "max", desc := "(II)I" } : Jvm.MethodName) prog_12_method_65_code (2 : Nat) (Option.some Jvm.ClassFile.FieldType.int)) ∈ wAll := wT_2 50 rfl rfl
theorem wm_283 : (Jvm.Cond.methodLink "TrueArms" (98 : Nat) ({ cls := "TrueArms$Sums", name := "fitted", desc := "(I)J" } : Jvm.MethodName)) ∈ wAll := wT_2 51 rfl rfl
theorem wm_284 : (Jvm.Cond.instanceMethod ({ cls := "TrueArms$Sums", name := "fitted", desc := "(I)J" } : Jvm.MethodName)) ∈ wAll := wT_2 52 rfl rfl
theorem wm_285 : (Jvm.Cond.selects "TrueArms$Sums" ({ cls := "TrueArms$Sums", name := "fitted", desc := "(I)J" } : Jvm.MethodName) ({ cls := "TrueArms$Sums", name := "fitted", desc := "(I)J" } : Jvm.MethodName)) ∈ wAll := wT_2 53 rfl rfl
theorem wm_286 : (Jvm.Cond.code ({ cls := "TrueArms$Sums", name := "fitted", desc := "(I)J" } : Jvm.MethodName) prog_8_method_11_code (10 : Nat) (Option.some Jvm.ClassFile.FieldType.long)) ∈ wAll := wT_2 54 rfl rfl
theorem wm_287 : (Jvm.Cond.methodLink "TrueArms$Sums" (64 : Nat) ({ cls := "TrueArms$Sums", name := "determinantWithRight", desc := "(I)J" } : Jvm.MethodName)) ∈ wAll := wT_2 55 rfl rfl
theorem wm_288 : (Jvm.Cond.instanceMethod ({ cls := "TrueArms$Sums", name := "determinantWithRight", desc := "(I)J" } : Jvm.MethodName)) ∈ wAll := wT_2 57 rfl rfl
theorem wm_289 : (Jvm.Cond.code ({ cls := "TrueArms$Sums", name := "determinantWithRight", desc := "(I)J" } : Jvm.MethodName) prog_8_method_7_code (3 : Nat) (Option.some Jvm.ClassFile.FieldType.long)) ∈ wAll := wT_2 58 rfl rfl
theorem wm_290 : (Jvm.Cond.methodLink "TrueArms$Sums" (68 : Nat) ({ cls := "java/lang/Math", name := "floorDiv", desc := "(JJ)J" } : Jvm.MethodName)) ∈ wAll := wT_2 59 rfl rfl
theorem wm_291 : (Jvm.Cond.static ({ cls := "java/lang/Math", name := "floorDiv", desc := "(JJ)J" } : Jvm.MethodName)) ∈ wAll := wT_2 60 rfl rfl
theorem wm_292 : (Jvm.Cond.code ({ cls := "java/lang/Math", name := "floorDiv", desc := "(JJ)J" } : Jvm.MethodName) prog_12_method_49_code (6 : Nat) (Option.some Jvm.ClassFile.FieldType.long)) ∈ wAll := wT_2 61 rfl rfl
theorem wm_293 : (Jvm.Cond.constantLong "TrueArms$Sums" (72 : Nat) (6500 : Int64)) ∈ wAll := wT_2 62 rfl rfl
theorem wm_294 : (Jvm.Cond.constantLong "TrueArms" (102 : Nat) (50 : Int64)) ∈ wAll := wT_2 63 rfl rfl
theorem wm_295 : (Jvm.Cond.constantLong "TrueArms" (104 : Nat) (100 : Int64)) ∈ wAll := wT_2 64 rfl rfl
theorem wm_296 : (Jvm.Cond.methodLink "TrueArms" (106 : Nat) ({ cls := "java/lang/Math", name := "floorDiv", desc := "(JJ)J" } : Jvm.MethodName)) ∈ wAll := wT_2 65 rfl rfl
theorem wm_297 : (Jvm.Cond.constantLong "TrueArms" (112 : Nat) (999 : Int64)) ∈ wAll := wT_2 66 rfl rfl
theorem wm_298 : (Jvm.Cond.methodLink "TrueArms" (114 : Nat) ({ cls := "java/lang/Math", name := "min", desc := "(JJ)J" } : Jvm.MethodName)) ∈ wAll := wT_2 67 rfl rfl
theorem wm_299 : (Jvm.Cond.static ({ cls := "java/lang/Math", name := "min", desc := "(JJ)J" } : Jvm.MethodName)) ∈ wAll := wT_2 68 rfl rfl
theorem wm_300 : (Jvm.Cond.code ({ cls := "java/lang/Math", name := "min", desc := "(JJ)J" } : Jvm.MethodName) prog_12_method_70_code (4 : Nat) (Option.some Jvm.ClassFile.FieldType.long)) ∈ wAll := wT_2 69 rfl rfl
theorem wm_301 : (Jvm.Cond.methodLink "TrueArms" (117 : Nat) ({ cls := "java/lang/Math", name := "max", desc := "(JJ)J" } : Jvm.MethodName)) ∈ wAll := wT_2 70 rfl rfl
theorem wm_302 : (Jvm.Cond.static ({ cls := "java/lang/Math", name := "max", desc := "(JJ)J" } : Jvm.MethodName)) ∈ wAll := wT_2 71 rfl rfl
theorem wm_303 : (Jvm.Cond.code ({ cls := "java/lang/Math", name := "max", desc := "(JJ)J" } : Jvm.MethodName) prog_12_method_66_code (4 : Nat) (Option.some Jvm.ClassFile.FieldType.long)) ∈ wAll := wT_2 72 rfl rfl
theorem wm_304 : (Jvm.Cond.methodLink "TrueArmsLaw" (40 : Nat) ({ cls := "TrueArms", name := "measure", desc := "(II)I" } : Jvm.MethodName)) ∈ wAll := wT_2 73 rfl rfl
theorem wm_305 : (Jvm.Cond.instanceMethod ({ cls := "TrueArms", name := "measure", desc := "(II)I" } : Jvm.MethodName)) ∈ wAll := wT_2 74 rfl rfl
theorem wm_306 : (Jvm.Cond.selects "TrueArms" ({ cls := "TrueArms", name := "measure", desc := "(II)I" } : Jvm.MethodName) ({ cls := "TrueArms", name := "measure", desc := "(II)I" } : Jvm.MethodName)) ∈ wAll := wT_2 75 rfl rfl
theorem wm_307 : (Jvm.Cond.code ({ cls := "TrueArms", name := "measure", desc := "(II)I" } : Jvm.MethodName) prog_1_method_8_code (3 : Nat) (Option.some Jvm.ClassFile.FieldType.int)) ∈ wAll := wT_2 76 rfl rfl
theorem wm_308 : (Jvm.Cond.methodLink "TrueArmsLaw" (44 : Nat) ({ cls := "TrueArms", name := "leave", desc := "(IZ)I" } : Jvm.MethodName)) ∈ wAll := wT_2 77 rfl rfl
theorem wm_309 : (Jvm.Cond.instanceMethod ({ cls := "TrueArms", name := "leave", desc := "(IZ)I" } : Jvm.MethodName)) ∈ wAll := wT_2 78 rfl rfl
theorem wm_310 : (Jvm.Cond.selects "TrueArms" ({ cls := "TrueArms", name := "leave", desc := "(IZ)I" } : Jvm.MethodName) ({ cls := "TrueArms", name := "leave", desc := "(IZ)I" } : Jvm.MethodName)) ∈ wAll := wT_2 79 rfl rfl
theorem wm_311 : (Jvm.Cond.code ({ cls := "TrueArms", name := "leave", desc := "(IZ)I" } : Jvm.MethodName) prog_1_method_9_code (3 : Nat) (Option.some Jvm.ClassFile.FieldType.int)) ∈ wAll := wT_2 80 rfl rfl
theorem wm_312 : (Jvm.Cond.methodLink "TrueArmsLaw" (49 : Nat) ({ cls := "TrueArms", name := "used", desc := "()I" } : Jvm.MethodName)) ∈ wAll := wT_2 81 rfl rfl
theorem wm_313 : (Jvm.Cond.instanceMethod ({ cls := "TrueArms", name := "used", desc := "()I" } : Jvm.MethodName)) ∈ wAll := wT_2 82 rfl rfl
theorem wm_314 : (Jvm.Cond.selects "TrueArms" ({ cls := "TrueArms", name := "used", desc := "()I" } : Jvm.MethodName) ({ cls := "TrueArms", name := "used", desc := "()I" } : Jvm.MethodName)) ∈ wAll := wT_2 83 rfl rfl
theorem wm_315 : (Jvm.Cond.code ({ cls := "TrueArms", name := "used", desc := "()I" } : Jvm.MethodName) prog_1_method_10_code (1 : Nat) (Option.some Jvm.ClassFile.FieldType.int)) ∈ wAll := wT_2 84 rfl rfl
theorem wm_316 : (Jvm.Cond.methodLink "TrueArmsLaw" (53 : Nat) ({ cls := "TrueArms", name := "table", desc := "(II)J" } : Jvm.MethodName)) ∈ wAll := wT_2 85 rfl rfl
theorem wm_317 : (Jvm.Cond.instanceMethod ({ cls := "TrueArms", name := "table", desc := "(II)J" } : Jvm.MethodName)) ∈ wAll := wT_2 86 rfl rfl
theorem wm_318 : (Jvm.Cond.selects "TrueArms" ({ cls := "TrueArms", name := "table", desc := "(II)J" } : Jvm.MethodName) ({ cls := "TrueArms", name := "table", desc := "(II)J" } : Jvm.MethodName)) ∈ wAll := wT_2 87 rfl rfl
theorem wm_319 : (Jvm.Cond.code ({ cls := "TrueArms", name := "table", desc := "(II)J" } : Jvm.MethodName) prog_1_method_11_code (3 : Nat) (Option.some Jvm.ClassFile.FieldType.long)) ∈ wAll := wT_2 88 rfl rfl
theorem wm_320 : (Jvm.Cond.constantLong "TrueArms" (129 : Nat) (-9223372036854775806 : Int64)) ∈ wAll := wT_2 89 rfl rfl
theorem wm_321 : (Jvm.Cond.methodLink "TrueArmsLaw" (58 : Nat) ({ cls := "TrueArms", name := "rank", desc := "()I" } : Jvm.MethodName)) ∈ wAll := wT_2 90 rfl rfl
theorem wm_322 : (Jvm.Cond.instanceMethod ({ cls := "TrueArms", name := "rank", desc := "()I" } : Jvm.MethodName)) ∈ wAll := wT_2 91 rfl rfl
theorem wm_323 : (Jvm.Cond.selects "TrueArms" ({ cls := "TrueArms", name := "rank", desc := "()I" } : Jvm.MethodName) ({ cls := "TrueArms", name := "rank", desc := "()I" } : Jvm.MethodName)) ∈ wAll := wT_2 92 rfl rfl
theorem wm_324 : (Jvm.Cond.code ({ cls := "TrueArms", name := "rank", desc := "()I" } : Jvm.MethodName) prog_1_method_12_code (1 : Nat) (Option.some Jvm.ClassFile.FieldType.int)) ∈ wAll := wT_2 93 rfl rfl
theorem wm_325 : (Jvm.Cond.methodLink "TrueArmsLaw" (62 : Nat) ({ cls := "TrueArms", name := "told", desc := "(I)I" } : Jvm.MethodName)) ∈ wAll := wT_2 94 rfl rfl
theorem wm_326 : (Jvm.Cond.instanceMethod ({ cls := "TrueArms", name := "told", desc := "(I)I" } : Jvm.MethodName)) ∈ wAll := wT_2 95 rfl rfl
theorem wm_327 : (Jvm.Cond.selects "TrueArms" ({ cls := "TrueArms", name := "told", desc := "(I)I" } : Jvm.MethodName) ({ cls := "TrueArms", name := "told", desc := "(I)I" } : Jvm.MethodName)) ∈ wAll := wT_2 96 rfl rfl
theorem wm_328 : (Jvm.Cond.code ({ cls := "TrueArms", name := "told", desc := "(I)I" } : Jvm.MethodName) prog_1_method_13_code (2 : Nat) (Option.some Jvm.ClassFile.FieldType.int)) ∈ wAll := wT_2 97 rfl rfl
theorem wm_329 : (Jvm.Cond.methodLink "TrueArms" (135 : Nat) ({ cls := "TrueArms$Sums", name := "tells", desc := "(I)Z" } : Jvm.MethodName)) ∈ wAll := wT_2 98 rfl rfl
theorem wm_330 : (Jvm.Cond.instanceMethod ({ cls := "TrueArms$Sums", name := "tells", desc := "(I)Z" } : Jvm.MethodName)) ∈ wAll := wT_2 99 rfl rfl
theorem wm_331 : (Jvm.Cond.selects "TrueArms$Sums" ({ cls := "TrueArms$Sums", name := "tells", desc := "(I)Z" } : Jvm.MethodName) ({ cls := "TrueArms$Sums", name := "tells", desc := "(I)Z" } : Jvm.MethodName)) ∈ wAll := wT_2 100 rfl rfl
theorem wm_332 : (Jvm.Cond.code ({ cls := "TrueArms$Sums", name := "tells", desc := "(I)Z" } : Jvm.MethodName) prog_8_method_10_code (2 : Nat) (Option.some Jvm.ClassFile.FieldType.boolean)) ∈ wAll := wT_2 101 rfl rfl
theorem wm_333 : (Jvm.Cond.methodLink "TrueArms$Sums" (60 : Nat) ({ cls := "TrueArms$Sums", name := "rankOfAll", desc := "()I" } : Jvm.MethodName)) ∈ wAll := wT_2 102 rfl rfl
theorem wm_334 : (Jvm.Cond.methodLink "TrueArmsLaw" (67 : Nat) ({ cls := "TrueArms", name := "fit", desc := "(I)J" } : Jvm.MethodName)) ∈ wAll := wT_2 103 rfl rfl
theorem wm_335 : (Jvm.Cond.instanceMethod ({ cls := "TrueArms", name := "fit", desc := "(I)J" } : Jvm.MethodName)) ∈ wAll := wT_2 104 rfl rfl
theorem wm_336 : (Jvm.Cond.selects "TrueArms" ({ cls := "TrueArms", name := "fit", desc := "(I)J" } : Jvm.MethodName) ({ cls := "TrueArms", name := "fit", desc := "(I)J" } : Jvm.MethodName)) ∈ wAll := wT_2 105 rfl rfl
theorem wm_337 : (Jvm.Cond.code ({ cls := "TrueArms", name := "fit", desc := "(I)J" } : Jvm.MethodName) prog_1_method_14_code (2 : Nat) (Option.some Jvm.ClassFile.FieldType.long)) ∈ wAll := wT_2 106 rfl rfl
theorem wm_338 : (Jvm.Cond.constantLong "TrueArms" (138 : Nat) (-9223372036854775805 : Int64)) ∈ wAll := wT_2 107 rfl rfl
theorem wm_339 : (Jvm.Cond.methodLink "TrueArmsLaw" (72 : Nat) ({ cls := "TrueArms", name := "miss", desc := "(I)I" } : Jvm.MethodName)) ∈ wAll := wT_2 108 rfl rfl
theorem wm_340 : (Jvm.Cond.instanceMethod ({ cls := "TrueArms", name := "miss", desc := "(I)I" } : Jvm.MethodName)) ∈ wAll := wT_2 109 rfl rfl
theorem wm_341 : (Jvm.Cond.selects "TrueArms" ({ cls := "TrueArms", name := "miss", desc := "(I)I" } : Jvm.MethodName) ({ cls := "TrueArms", name := "miss", desc := "(I)I" } : Jvm.MethodName)) ∈ wAll := wT_2 110 rfl rfl
theorem wm_342 : (Jvm.Cond.code ({ cls := "TrueArms", name := "miss", desc := "(I)I" } : Jvm.MethodName) prog_1_method_15_code (2 : Nat) (Option.some Jvm.ClassFile.FieldType.int)) ∈ wAll := wT_2 111 rfl rfl
theorem wm_343 : (Jvm.Cond.methodLink "TrueArms" (140 : Nat) ({ cls := "TrueArms", name := "missOf", desc := "(I)I" } : Jvm.MethodName)) ∈ wAll := wT_2 112 rfl rfl
theorem wm_344 : (Jvm.Cond.instanceMethod ({ cls := "TrueArms", name := "missOf", desc := "(I)I" } : Jvm.MethodName)) ∈ wAll := wT_2 114 rfl rfl
theorem wm_345 : (Jvm.Cond.code ({ cls := "TrueArms", name := "missOf", desc := "(I)I" } : Jvm.MethodName) prog_1_method_43_code (4 : Nat) (Option.some Jvm.ClassFile.FieldType.int)) ∈ wAll := wT_2 115 rfl rfl
theorem wm_346 : (Jvm.Cond.methodLink "TrueArms" (268 : Nat) ({ cls := "java/lang/Math", name := "abs", desc := "(I)I" } : Jvm.MethodName)) ∈ wAll := wT_2 116 rfl rfl
theorem wm_347 : (Jvm.Cond.static ({ cls := "java/lang/Math", name := "abs", desc := "(I)I" } : Jvm.MethodName)) ∈ wAll := wT_2 117 rfl rfl
theorem wm_348 : (Jvm.Cond.code ({ cls := "java/lang/Math", name := "abs", desc := "(I)I" } : Jvm.MethodName) prog_12_method_59_code (1 : Nat) (Option.some Jvm.ClassFile.FieldType.int)) ∈ wAll := wT_2 118 rfl rfl
theorem wm_349 : (Jvm.Cond.methodLink "TrueArms" (271 : Nat) ({ cls := "java/lang/Math", name := "max", desc := "(II)I" } : Jvm.MethodName)) ∈ wAll := wT_2 119 rfl rfl
theorem wm_350 : (Jvm.Cond.methodLink "TrueArmsLaw" (76 : Nat) ({ cls := "TrueArms", name := "worst", desc := "()I" } : Jvm.MethodName)) ∈ wAll := wT_2 120 rfl rfl
theorem wm_351 : (Jvm.Cond.instanceMethod ({ cls := "TrueArms", name := "worst", desc := "()I" } : Jvm.MethodName)) ∈ wAll := wT_2 121 rfl rfl
theorem wm_352 : (Jvm.Cond.selects "TrueArms" ({ cls := "TrueArms", name := "worst", desc := "()I" } : Jvm.MethodName) ({ cls := "TrueArms", name := "worst", desc := "()I" } : Jvm.MethodName)) ∈ wAll := wT_2 122 rfl rfl
theorem wm_353 : (Jvm.Cond.code ({ cls := "TrueArms", name := "worst", desc := "()I" } : Jvm.MethodName) prog_1_method_16_code (6 : Nat) (Option.some Jvm.ClassFile.FieldType.int)) ∈ wAll := wT_2 123 rfl rfl
theorem wm_354 : (Jvm.Cond.methodLink "TrueArmsLaw" (80 : Nat) ({ cls := "TrueArms", name := "best", desc := "(I)I" } : Jvm.MethodName)) ∈ wAll := wT_2 124 rfl rfl
theorem wm_355 : (Jvm.Cond.instanceMethod ({ cls := "TrueArms", name := "best", desc := "(I)I" } : Jvm.MethodName)) ∈ wAll := wT_2 125 rfl rfl
theorem wm_356 : (Jvm.Cond.selects "TrueArms" ({ cls := "TrueArms", name := "best", desc := "(I)I" } : Jvm.MethodName) ({ cls := "TrueArms", name := "best", desc := "(I)I" } : Jvm.MethodName)) ∈ wAll := wT_2 126 rfl rfl
theorem wm_357 : (Jvm.Cond.code ({ cls := "TrueArms", name := "best", desc := "(I)I" } : Jvm.MethodName) prog_1_method_17_code (9 : Nat) (Option.some Jvm.ClassFile.FieldType.int)) ∈ wAll := wT_2 127 rfl rfl
theorem wm_358 : (Jvm.Cond.methodLink "TrueArms" (144 : Nat) ({ cls := "TrueArms", name := "choosableSets", desc := "()I" } : Jvm.MethodName)) ∈ wAll := wT_2 128 rfl rfl
theorem wm_359 : (Jvm.Cond.instanceMethod ({ cls := "TrueArms", name := "choosableSets", desc := "()I" } : Jvm.MethodName)) ∈ wAll := wT_2 130 rfl rfl
theorem wm_360 : (Jvm.Cond.code ({ cls := "TrueArms", name := "choosableSets", desc := "()I" } : Jvm.MethodName) prog_1_method_46_code (1 : Nat) (Option.some Jvm.ClassFile.FieldType.int)) ∈ wAll := wT_2 131 rfl rfl
theorem wm_361 : (Jvm.Cond.methodLink "TrueArms" (284 : Nat) ({ cls := "java/lang/Math", name := "min", desc := "(II)I" } : Jvm.MethodName)) ∈ wAll := wT_2 132 rfl rfl
theorem wm_362 : (Jvm.Cond.static ({ cls := "java/lang/Math", name := "min", desc := "(II)I" } : Jvm.MethodName)) ∈ wAll := wT_2 133 rfl rfl
theorem wm_363 : (Jvm.Cond.code ({ cls := "java/lang/Math", name := "min", desc := "(II)I" } : Jvm.MethodName) prog_12_method_69_code (2 : Nat) (Option.some Jvm.ClassFile.FieldType.int)) ∈ wAll := wT_2 134 rfl rfl
theorem wm_364 : (Jvm.Cond.methodLink "TrueArms" (147 : Nat) ({ cls := "java/lang/Integer", name := "bitCount", desc := "(I)I" } : Jvm.MethodName)) ∈ wAll := wT_2 135 rfl rfl
theorem wm_365 : (Jvm.Cond.static ({ cls := "java/lang/Integer", name := "bitCount", desc := "(I)I" } : Jvm.MethodName)) ∈ wAll := wT_2 136 rfl rfl
theorem wm_366 : (Jvm.Cond.code ({ cls := "java/lang/Integer", name := "bitCount", desc := "(I)I" } : Jvm.MethodName) prog_11_method_49_code (1 : Nat) (Option.some Jvm.ClassFile.FieldType.int)) ∈ wAll := wT_2 137 rfl rfl
theorem wm_367 : (Jvm.Cond.constant "java/lang/Integer" (265 : Nat) (1431655765 : Int32)) ∈ wAll := wT_2 138 rfl rfl
theorem wm_368 : (Jvm.Cond.constant "java/lang/Integer" (266 : Nat) (858993459 : Int32)) ∈ wAll := wT_2 139 rfl rfl
theorem wm_369 : (Jvm.Cond.constant "java/lang/Integer" (267 : Nat) (252645135 : Int32)) ∈ wAll := wT_2 140 rfl rfl
theorem wm_370 : (Jvm.Cond.methodLink "TrueArms" (152 : Nat) ({ cls := "TrueArms", name := "weightOf", desc := "(I)J" } : Jvm.MethodName)) ∈ wAll := wT_2 141 rfl rfl
theorem wm_371 : (Jvm.Cond.instanceMethod ({ cls := "TrueArms", name := "weightOf", desc := "(I)J" } : Jvm.MethodName)) ∈ wAll := wT_2 143 rfl rfl
theorem wm_372 : (Jvm.Cond.code ({ cls := "TrueArms", name := "weightOf", desc := "(I)J" } : Jvm.MethodName) prog_1_method_47_code (3 : Nat) (Option.some Jvm.ClassFile.FieldType.long)) ∈ wAll := wT_2 144 rfl rfl
theorem wm_373 : (Jvm.Cond.methodLink "TrueArms" (286 : Nat) ({ cls := "TrueArms$Sums", name := "determinant", desc := "()J" } : Jvm.MethodName)) ∈ wAll := wT_2 145 rfl rfl
theorem wm_374 : (Jvm.Cond.methodLink "TrueArmsLaw" (84 : Nat) ({ cls := "TrueArms", name := "weight", desc := "(I)J" } : Jvm.MethodName)) ∈ wAll := wT_2 146 rfl rfl
theorem wm_375 : (Jvm.Cond.instanceMethod ({ cls := "TrueArms", name := "weight", desc := "(I)J" } : Jvm.MethodName)) ∈ wAll := wT_2 147 rfl rfl
theorem wm_376 : (Jvm.Cond.selects "TrueArms" ({ cls := "TrueArms", name := "weight", desc := "(I)J" } : Jvm.MethodName) ({ cls := "TrueArms", name := "weight", desc := "(I)J" } : Jvm.MethodName)) ∈ wAll := wT_2 148 rfl rfl
theorem wm_377 : (Jvm.Cond.code ({ cls := "TrueArms", name := "weight", desc := "(I)J" } : Jvm.MethodName) prog_1_method_18_code (2 : Nat) (Option.some Jvm.ClassFile.FieldType.long)) ∈ wAll := wT_2 149 rfl rfl
theorem wm_378 : (Jvm.Cond.methodLink "TrueArmsLaw" (88 : Nat) ({ cls := "TrueArms", name := "pair", desc := "(IIII)I" } : Jvm.MethodName)) ∈ wAll := wT_2 150 rfl rfl
theorem wm_379 : (Jvm.Cond.instanceMethod ({ cls := "TrueArms", name := "pair", desc := "(IIII)I" } : Jvm.MethodName)) ∈ wAll := wT_2 151 rfl rfl
theorem wm_380 : (Jvm.Cond.selects "TrueArms" ({ cls := "TrueArms", name := "pair", desc := "(IIII)I" } : Jvm.MethodName) ({ cls := "TrueArms", name := "pair", desc := "(IIII)I" } : Jvm.MethodName)) ∈ wAll := wT_2 152 rfl rfl
theorem wm_381 : (Jvm.Cond.code ({ cls := "TrueArms", name := "pair", desc := "(IIII)I" } : Jvm.MethodName) prog_1_method_19_code (5 : Nat) (Option.some Jvm.ClassFile.FieldType.int)) ∈ wAll := wT_2 153 rfl rfl
theorem wm_382 : (Jvm.Cond.methodLink "TrueArms" (155 : Nat) ({ cls := "TrueArms$Camera", name := "mayBe", desc := "(I)Z" } : Jvm.MethodName)) ∈ wAll := wT_2 154 rfl rfl
theorem wm_383 : (Jvm.Cond.static ({ cls := "TrueArms$Camera", name := "mayBe", desc := "(I)Z" } : Jvm.MethodName)) ∈ wAll := wT_2 155 rfl rfl
theorem wm_384 : (Jvm.Cond.code ({ cls := "TrueArms$Camera", name := "mayBe", desc := "(I)Z" } : Jvm.MethodName) prog_3_method_2_code (1 : Nat) (Option.some Jvm.ClassFile.FieldType.boolean)) ∈ wAll := wT_2 156 rfl rfl
theorem wm_385 : (Jvm.Cond.methodLink "TrueArms" (161 : Nat) ({ cls := "TrueArms$Camera", name := "see", desc := "(IIII)I" } : Jvm.MethodName)) ∈ wAll := wT_2 157 rfl rfl
theorem wm_386 : (Jvm.Cond.instanceMethod ({ cls := "TrueArms$Camera", name := "see", desc := "(IIII)I" } : Jvm.MethodName)) ∈ wAll := wT_2 158 rfl rfl
theorem wm_387 : (Jvm.Cond.selects "TrueArms$Camera" ({ cls := "TrueArms$Camera", name := "see", desc := "(IIII)I" } : Jvm.MethodName) ({ cls := "TrueArms$Camera", name := "see", desc := "(IIII)I" } : Jvm.MethodName)) ∈ wAll := wT_2 159 rfl rfl
theorem wm_388 : (Jvm.Cond.code ({ cls := "TrueArms$Camera", name := "see", desc := "(IIII)I" } : Jvm.MethodName) prog_3_method_3_code (5 : Nat) (Option.some Jvm.ClassFile.FieldType.int)) ∈ wAll := wT_2 160 rfl rfl
theorem wm_389 : (Jvm.Cond.methodLink "TrueArmsLaw" (93 : Nat) ({ cls := "TrueArms", name := "shut", desc := "()I" } : Jvm.MethodName)) ∈ wAll := wT_2 161 rfl rfl
theorem wm_390 : (Jvm.Cond.instanceMethod ({ cls := "TrueArms", name := "shut", desc := "()I" } : Jvm.MethodName)) ∈ wAll := wT_2 162 rfl rfl
theorem wm_391 : (Jvm.Cond.selects "TrueArms" ({ cls := "TrueArms", name := "shut", desc := "()I" } : Jvm.MethodName) ({ cls := "TrueArms", name := "shut", desc := "()I" } : Jvm.MethodName)) ∈ wAll := wT_2 163 rfl rfl
theorem wm_392 : (Jvm.Cond.code ({ cls := "TrueArms", name := "shut", desc := "()I" } : Jvm.MethodName) prog_1_method_20_code (2 : Nat) (Option.some Jvm.ClassFile.FieldType.int)) ∈ wAll := wT_2 164 rfl rfl
theorem wm_393 : (Jvm.Cond.methodLink "TrueArmsLaw" (97 : Nat) ({ cls := "TrueArms", name := "answers", desc := "()I" } : Jvm.MethodName)) ∈ wAll := wT_2 165 rfl rfl
theorem wm_394 : (Jvm.Cond.instanceMethod ({ cls := "TrueArms", name := "answers", desc := "()I" } : Jvm.MethodName)) ∈ wAll := wT_2 166 rfl rfl
theorem wm_395 : (Jvm.Cond.selects "TrueArms" ({ cls := "TrueArms", name := "answers", desc := "()I" } : Jvm.MethodName) ({ cls := "TrueArms", name := "answers", desc := "()I" } : Jvm.MethodName)) ∈ wAll := wT_2 167 rfl rfl
theorem wm_396 : (Jvm.Cond.code ({ cls := "TrueArms", name := "answers", desc := "()I" } : Jvm.MethodName) prog_1_method_21_code (1 : Nat) (Option.some Jvm.ClassFile.FieldType.int)) ∈ wAll := wT_2 168 rfl rfl
theorem wm_397 : (Jvm.Cond.methodLink "TrueArms" (165 : Nat) ({ cls := "TrueArms$Camera", name := "headingsThatAnswer", desc := "()I" } : Jvm.MethodName)) ∈ wAll := wT_2 169 rfl rfl
theorem wm_398 : (Jvm.Cond.instanceMethod ({ cls := "TrueArms$Camera", name := "headingsThatAnswer", desc := "()I" } : Jvm.MethodName)) ∈ wAll := wT_2 170 rfl rfl
theorem wm_399 : (Jvm.Cond.selects "TrueArms$Camera" ({ cls := "TrueArms$Camera", name := "headingsThatAnswer", desc := "()I" } : Jvm.MethodName) ({ cls := "TrueArms$Camera", name := "headingsThatAnswer", desc := "()I" } : Jvm.MethodName)) ∈ wAll := wT_2 171 rfl rfl
theorem wm_400 : (Jvm.Cond.code ({ cls := "TrueArms$Camera", name := "headingsThatAnswer", desc := "()I" } : Jvm.MethodName) prog_3_method_6_code (3 : Nat) (Option.some Jvm.ClassFile.FieldType.int)) ∈ wAll := wT_2 172 rfl rfl
theorem wm_401 : (Jvm.Cond.methodLink "TrueArms$Camera" (41 : Nat) ({ cls := "TrueArms$Camera", name := "isAnswer", desc := "(I)Z" } : Jvm.MethodName)) ∈ wAll := wT_2 173 rfl rfl
theorem wm_402 : (Jvm.Cond.instanceMethod ({ cls := "TrueArms$Camera", name := "isAnswer", desc := "(I)Z" } : Jvm.MethodName)) ∈ wAll := wT_2 175 rfl rfl
theorem wm_403 : (Jvm.Cond.code ({ cls := "TrueArms$Camera", name := "isAnswer", desc := "(I)Z" } : Jvm.MethodName) prog_3_method_5_code (3 : Nat) (Option.some Jvm.ClassFile.FieldType.boolean)) ∈ wAll := wT_2 176 rfl rfl
theorem wm_404 : (Jvm.Cond.methodLink "TrueArms$Camera" (37 : Nat) ({ cls := "TrueArms$Camera", name := "shift", desc := "(III)I" } : Jvm.MethodName)) ∈ wAll := wT_2 177 rfl rfl
theorem wm_405 : (Jvm.Cond.instanceMethod ({ cls := "TrueArms$Camera", name := "shift", desc := "(III)I" } : Jvm.MethodName)) ∈ wAll := wT_2 178 rfl rfl
theorem wm_406 : (Jvm.Cond.selects "TrueArms$Camera" ({ cls := "TrueArms$Camera", name := "shift", desc := "(III)I" } : Jvm.MethodName) ({ cls := "TrueArms$Camera", name := "shift", desc := "(III)I" } : Jvm.MethodName)) ∈ wAll := wT_2 179 rfl rfl
theorem wm_407 : (Jvm.Cond.code ({ cls := "TrueArms$Camera", name := "shift", desc := "(III)I" } : Jvm.MethodName) prog_3_method_4_code (6 : Nat) (Option.some Jvm.ClassFile.FieldType.int)) ∈ wAll := wT_2 180 rfl rfl
theorem wm_408 : (Jvm.Cond.methodLink "TrueArms$Camera" (28 : Nat) ({ cls := "TrueArms$Headings", name := "cOf", desc := "(I)I" } : Jvm.MethodName)) ∈ wAll := wT_2 181 rfl rfl
theorem wm_409 : (Jvm.Cond.methodLink "TrueArms$Camera" (34 : Nat) ({ cls := "TrueArms$Headings", name := "sOf", desc := "(I)I" } : Jvm.MethodName)) ∈ wAll := wT_2 182 rfl rfl
theorem wm_410 : (Jvm.Cond.methodLink "TrueArmsLaw" (101 : Nat) ({ cls := "TrueArms", name := "answer", desc := "(II)I" } : Jvm.MethodName)) ∈ wAll := wT_2 183 rfl rfl
theorem wm_411 : (Jvm.Cond.instanceMethod ({ cls := "TrueArms", name := "answer", desc := "(II)I" } : Jvm.MethodName)) ∈ wAll := wT_2 184 rfl rfl
theorem wm_412 : (Jvm.Cond.selects "TrueArms" ({ cls := "TrueArms", name := "answer", desc := "(II)I" } : Jvm.MethodName) ({ cls := "TrueArms", name := "answer", desc := "(II)I" } : Jvm.MethodName)) ∈ wAll := wT_2 185 rfl rfl
theorem wm_413 : (Jvm.Cond.code ({ cls := "TrueArms", name := "answer", desc := "(II)I" } : Jvm.MethodName) prog_1_method_22_code (4 : Nat) (Option.some Jvm.ClassFile.FieldType.int)) ∈ wAll := wT_2 186 rfl rfl
theorem wm_414 : (Jvm.Cond.methodLink "TrueArms" (168 : Nat) ({ cls := "TrueArms$Camera", name := "headingOfAnswer", desc := "(I)I" } : Jvm.MethodName)) ∈ wAll := wT_2 187 rfl rfl
theorem wm_415 : (Jvm.Cond.instanceMethod ({ cls := "TrueArms$Camera", name := "headingOfAnswer", desc := "(I)I" } : Jvm.MethodName)) ∈ wAll := wT_2 188 rfl rfl
theorem wm_416 : (Jvm.Cond.selects "TrueArms$Camera" ({ cls := "TrueArms$Camera", name := "headingOfAnswer", desc := "(I)I" } : Jvm.MethodName) ({ cls := "TrueArms$Camera", name := "headingOfAnswer", desc := "(I)I" } : Jvm.MethodName)) ∈ wAll := wT_2 189 rfl rfl
theorem wm_417 : (Jvm.Cond.code ({ cls := "TrueArms$Camera", name := "headingOfAnswer", desc := "(I)I" } : Jvm.MethodName) prog_3_method_7_code (4 : Nat) (Option.some Jvm.ClassFile.FieldType.int)) ∈ wAll := wT_2 190 rfl rfl
theorem wm_418 : (Jvm.Cond.constant "TrueArms" (171 : Nat) (-2147483647 : Int32)) ∈ wAll := wT_2 191 rfl rfl
theorem wm_419 : (Jvm.Cond.methodLink "TrueArms" (172 : Nat) ({ cls := "TrueArms$Camera", name := "shift", desc := "(III)I" } : Jvm.MethodName)) ∈ wAll := wT_2 192 rfl rfl
theorem wm_420 : (Jvm.Cond.methodLink "TrueArmsLaw" (105 : Nat) ({ cls := "TrueArms", name := "limit", desc := "(III)I" } : Jvm.MethodName)) ∈ wAll := wT_2 193 rfl rfl
theorem wm_421 : (Jvm.Cond.instanceMethod ({ cls := "TrueArms", name := "limit", desc := "(III)I" } : Jvm.MethodName)) ∈ wAll := wT_2 194 rfl rfl
theorem wm_422 : (Jvm.Cond.selects "TrueArms" ({ cls := "TrueArms", name := "limit", desc := "(III)I" } : Jvm.MethodName) ({ cls := "TrueArms", name := "limit", desc := "(III)I" } : Jvm.MethodName)) ∈ wAll := wT_2 195 rfl rfl
theorem wm_423 : (Jvm.Cond.code ({ cls := "TrueArms", name := "limit", desc := "(III)I" } : Jvm.MethodName) prog_1_method_23_code (4 : Nat) (Option.some Jvm.ClassFile.FieldType.int)) ∈ wAll := wT_2 196 rfl rfl
theorem wm_424 : (Jvm.Cond.methodLink "TrueArms" (175 : Nat) ({ cls := "TrueArms$Going", name := "keepWithin", desc := "(III)V" } : Jvm.MethodName)) ∈ wAll := wT_2 197 rfl rfl
theorem wm_425 : (Jvm.Cond.instanceMethod ({ cls := "TrueArms$Going", name := "keepWithin", desc := "(III)V" } : Jvm.MethodName)) ∈ wAll := wT_2 198 rfl rfl
theorem wm_426 : (Jvm.Cond.selects "TrueArms$Going" ({ cls := "TrueArms$Going", name := "keepWithin", desc := "(III)V" } : Jvm.MethodName) ({ cls := "TrueArms$Going", name := "keepWithin", desc := "(III)V" } : Jvm.MethodName)) ∈ wAll := wT_2 199 rfl rfl
theorem wm_427 : (Jvm.Cond.code ({ cls := "TrueArms$Going", name := "keepWithin", desc := "(III)V" } : Jvm.MethodName) prog_4_method_3_code (5 : Nat) (Option.none : Option Jvm.ClassFile.FieldType)) ∈ wAll := wT_2 200 rfl rfl
theorem wm_428 : (Jvm.Cond.methodLink "TrueArms$Going" (26 : Nat) ({ cls := "TrueArms$Headings", name := "round", desc := "(I)I" } : Jvm.MethodName)) ∈ wAll := wT_2 201 rfl rfl
theorem wm_429 : (Jvm.Cond.methodLink "TrueArmsLaw" (109 : Nat) ({ cls := "TrueArms", name := "nearest", desc := "(II)I" } : Jvm.MethodName)) ∈ wAll := wT_2 202 rfl rfl
theorem wm_430 : (Jvm.Cond.instanceMethod ({ cls := "TrueArms", name := "nearest", desc := "(II)I" } : Jvm.MethodName)) ∈ wAll := wT_2 203 rfl rfl
theorem wm_431 : (Jvm.Cond.selects "TrueArms" ({ cls := "TrueArms", name := "nearest", desc := "(II)I" } : Jvm.MethodName) ({ cls := "TrueArms", name := "nearest", desc := "(II)I" } : Jvm.MethodName)) ∈ wAll := wT_2 204 rfl rfl
theorem wm_432 : (Jvm.Cond.code ({ cls := "TrueArms", name := "nearest", desc := "(II)I" } : Jvm.MethodName) prog_1_method_24_code (3 : Nat) (Option.some Jvm.ClassFile.FieldType.int)) ∈ wAll := wT_2 205 rfl rfl
theorem wm_433 : (Jvm.Cond.methodLink "TrueArms" (179 : Nat) ({ cls := "TrueArms$Going", name := "isPlace", desc := "(II)Z" } : Jvm.MethodName)) ∈ wAll := wT_2 206 rfl rfl
theorem wm_434 : (Jvm.Cond.static ({ cls := "TrueArms$Going", name := "isPlace", desc := "(II)Z" } : Jvm.MethodName)) ∈ wAll := wT_2 207 rfl rfl
theorem wm_435 : (Jvm.Cond.code ({ cls := "TrueArms$Going", name := "isPlace", desc := "(II)Z" } : Jvm.MethodName) prog_4_method_2_code (2 : Nat) (Option.some Jvm.ClassFile.FieldType.boolean)) ∈ wAll := wT_2 208 rfl rfl
theorem wm_436 : (Jvm.Cond.methodLink "TrueArms" (183 : Nat) ({ cls := "TrueArms$Going", name := "seek", desc := "([III)V" } : Jvm.MethodName)) ∈ wAll := wT_2 209 rfl rfl
theorem wm_437 : (Jvm.Cond.instanceMethod ({ cls := "TrueArms$Going", name := "seek", desc := "([III)V" } : Jvm.MethodName)) ∈ wAll := wT_2 210 rfl rfl
theorem wm_438 : (Jvm.Cond.selects "TrueArms$Going" ({ cls := "TrueArms$Going", name := "seek", desc := "([III)V" } : Jvm.MethodName) ({ cls := "TrueArms$Going", name := "seek", desc := "([III)V" } : Jvm.MethodName)) ∈ wAll := wT_2 211 rfl rfl
theorem wm_439 : (Jvm.Cond.code ({ cls := "TrueArms$Going", name := "seek", desc := "([III)V" } : Jvm.MethodName) prog_4_method_4_code (7 : Nat) (Option.none : Option Jvm.ClassFile.FieldType)) ∈ wAll := wT_2 212 rfl rfl
theorem wm_440 : (Jvm.Cond.constantLong "TrueArms$Going" (30 : Nat) (1152921504606846976 : Int64)) ∈ wAll := wT_2 213 rfl rfl
theorem wm_441 : (Jvm.Cond.methodLink "TrueArms$Going" (32 : Nat) ({ cls := "TrueArms$Headings", name := "cOf", desc := "(I)I" } : Jvm.MethodName)) ∈ wAll := wT_2 214 rfl rfl
theorem wm_442 : (Jvm.Cond.methodLink "TrueArms$Going" (35 : Nat) ({ cls := "TrueArms$Headings", name := "sOf", desc := "(I)I" } : Jvm.MethodName)) ∈ wAll := wT_2 215 rfl rfl
theorem wm_443 : (Jvm.Cond.methodLink "TrueArms$Going" (38 : Nat) ({ cls := "TrueArms$Going", name := "seekSecond", desc := "(IIII)V" } : Jvm.MethodName)) ∈ wAll := wT_2 216 rfl rfl
theorem wm_444 : (Jvm.Cond.instanceMethod ({ cls := "TrueArms$Going", name := "seekSecond", desc := "(IIII)V" } : Jvm.MethodName)) ∈ wAll := wT_2 218 rfl rfl
theorem wm_445 : (Jvm.Cond.code ({ cls := "TrueArms$Going", name := "seekSecond", desc := "(IIII)V" } : Jvm.MethodName) prog_4_method_5_code (9 : Nat) (Option.none : Option Jvm.ClassFile.FieldType)) ∈ wAll := wT_2 219 rfl rfl
theorem wm_446 : (Jvm.Cond.methodLink "TrueArms$Going" (42 : Nat) ({ cls := "TrueArms$Going", name := "atLeastLeft", desc := "(II)J" } : Jvm.MethodName)) ∈ wAll := wT_2 220 rfl rfl
theorem wm_447 : (Jvm.Cond.instanceMethod ({ cls := "TrueArms$Going", name := "atLeastLeft", desc := "(II)J" } : Jvm.MethodName)) ∈ wAll := wT_2 222 rfl rfl
theorem wm_448 : (Jvm.Cond.code ({ cls := "TrueArms$Going", name := "atLeastLeft", desc := "(II)J" } : Jvm.MethodName) prog_4_method_7_code (9 : Nat) (Option.some Jvm.ClassFile.FieldType.long)) ∈ wAll := wT_2 223 rfl rfl
theorem wm_449 : (Jvm.Cond.methodLink "TrueArms$Going" (49 : Nat) ({ cls := "java/lang/Math", name := "abs", desc := "(I)I" } : Jvm.MethodName)) ∈ wAll := wT_2 224 rfl rfl
theorem wm_450 : (Jvm.Cond.methodLink "TrueArms$Going" (54 : Nat) ({ cls := "java/lang/Math", name := "max", desc := "(II)I" } : Jvm.MethodName)) ∈ wAll := wT_2 225 rfl rfl
theorem wm_451 : (Jvm.Cond.methodLink "TrueArms$Going" (58 : Nat) ({ cls := "java/lang/Math", name := "min", desc := "(II)I" } : Jvm.MethodName)) ∈ wAll := wT_2 226 rfl rfl
theorem wm_452 : (Jvm.Cond.constantLong "TrueArms$Going" (61 : Nat) (65 : Int64)) ∈ wAll := wT_2 227 rfl rfl
theorem wm_453 : (Jvm.Cond.constantLong "TrueArms$Going" (63 : Nat) (2 : Int64)) ∈ wAll := wT_2 228 rfl rfl
theorem wm_454 : (Jvm.Cond.methodLink "TrueArms$Going" (46 : Nat) ({ cls := "TrueArms$Going", name := "seekThird", desc := "(IIII)V" } : Jvm.MethodName)) ∈ wAll := wT_2 229 rfl rfl
theorem wm_455 : (Jvm.Cond.instanceMethod ({ cls := "TrueArms$Going", name := "seekThird", desc := "(IIII)V" } : Jvm.MethodName)) ∈ wAll := wT_2 231 rfl rfl
theorem wm_456 : (Jvm.Cond.code ({ cls := "TrueArms$Going", name := "seekThird", desc := "(IIII)V" } : Jvm.MethodName) prog_4_method_6_code (13 : Nat) (Option.none : Option Jvm.ClassFile.FieldType)) ∈ wAll := wT_2 232 rfl rfl
theorem wm_457 : (Jvm.Cond.methodLink "TrueArmsLaw" (113 : Nat) ({ cls := "TrueArms", name := "near", desc := "(II)J" } : Jvm.MethodName)) ∈ wAll := wT_2 233 rfl rfl
theorem wm_458 : (Jvm.Cond.instanceMethod ({ cls := "TrueArms", name := "near", desc := "(II)J" } : Jvm.MethodName)) ∈ wAll := wT_2 234 rfl rfl
theorem wm_459 : (Jvm.Cond.selects "TrueArms" ({ cls := "TrueArms", name := "near", desc := "(II)J" } : Jvm.MethodName) ({ cls := "TrueArms", name := "near", desc := "(II)J" } : Jvm.MethodName)) ∈ wAll := wT_2 235 rfl rfl
theorem wm_460 : (Jvm.Cond.code ({ cls := "TrueArms", name := "near", desc := "(II)J" } : Jvm.MethodName) prog_1_method_25_code (3 : Nat) (Option.some Jvm.ClassFile.FieldType.long)) ∈ wAll := wT_2 236 rfl rfl
theorem wm_461 : (Jvm.Cond.methodLink "TrueArmsLaw" (117 : Nat) ({ cls := "TrueArms", name := "drift", desc := "(IIII)I" } : Jvm.MethodName)) ∈ wAll := wT_2 237 rfl rfl
theorem wm_462 : (Jvm.Cond.instanceMethod ({ cls := "TrueArms", name := "drift", desc := "(IIII)I" } : Jvm.MethodName)) ∈ wAll := wT_2 238 rfl rfl
theorem wm_463 : (Jvm.Cond.selects "TrueArms" ({ cls := "TrueArms", name := "drift", desc := "(IIII)I" } : Jvm.MethodName) ({ cls := "TrueArms", name := "drift", desc := "(IIII)I" } : Jvm.MethodName)) ∈ wAll := wT_2 239 rfl rfl
theorem wm_464 : (Jvm.Cond.code ({ cls := "TrueArms", name := "drift", desc := "(IIII)I" } : Jvm.MethodName) prog_1_method_26_code (6 : Nat) (Option.some Jvm.ClassFile.FieldType.int)) ∈ wAll := wT_3 0 rfl rfl
theorem wm_465 : (Jvm.Cond.methodLink "TrueArms" (194 : Nat) ({ cls := "TrueArms", name := "isSheet", desc := "(I)Z" } : Jvm.MethodName)) ∈ wAll := wT_3 1 rfl rfl
theorem wm_466 : (Jvm.Cond.static ({ cls := "TrueArms", name := "isSheet", desc := "(I)Z" } : Jvm.MethodName)) ∈ wAll := wT_3 2 rfl rfl
theorem wm_467 : (Jvm.Cond.code ({ cls := "TrueArms", name := "isSheet", desc := "(I)Z" } : Jvm.MethodName) prog_1_method_36_code (1 : Nat) (Option.some Jvm.ClassFile.FieldType.boolean)) ∈ wAll := wT_3 3 rfl rfl
theorem wm_468 : (Jvm.Cond.methodLink "TrueArms" (197 : Nat) ({ cls := "TrueArms$Sheet", name := "isLost", desc := "()Z" } : Jvm.MethodName)) ∈ wAll := wT_3 4 rfl rfl
theorem wm_469 : (Jvm.Cond.instanceMethod ({ cls := "TrueArms$Sheet", name := "isLost", desc := "()Z" } : Jvm.MethodName)) ∈ wAll := wT_3 5 rfl rfl
theorem wm_470 : (Jvm.Cond.selects "TrueArms$Sheet" ({ cls := "TrueArms$Sheet", name := "isLost", desc := "()Z" } : Jvm.MethodName) ({ cls := "TrueArms$Sheet", name := "isLost", desc := "()Z" } : Jvm.MethodName)) ∈ wAll := wT_3 6 rfl rfl
theorem wm_471 : (Jvm.Cond.code ({ cls := "TrueArms$Sheet", name := "isLost", desc := "()Z" } : Jvm.MethodName) prog_6_method_4_code (1 : Nat) (Option.some Jvm.ClassFile.FieldType.boolean)) ∈ wAll := wT_3 7 rfl rfl
theorem wm_472 : (Jvm.Cond.methodLink "TrueArms" (201 : Nat) ({ cls := "TrueArms", name := "finding", desc := "(I)I" } : Jvm.MethodName)) ∈ wAll := wT_3 8 rfl rfl
theorem wm_473 : (Jvm.Cond.instanceMethod ({ cls := "TrueArms", name := "finding", desc := "(I)I" } : Jvm.MethodName)) ∈ wAll := wT_3 10 rfl rfl
theorem wm_474 : (Jvm.Cond.code ({ cls := "TrueArms", name := "finding", desc := "(I)I" } : Jvm.MethodName) prog_1_method_37_code (2 : Nat) (Option.some Jvm.ClassFile.FieldType.int)) ∈ wAll := wT_3 11 rfl rfl
theorem wm_475 : (Jvm.Cond.methodLink "TrueArms" (204 : Nat) ({ cls := "TrueArms$Sheet", name := "has", desc := "(I)Z" } : Jvm.MethodName)) ∈ wAll := wT_3 12 rfl rfl
theorem wm_476 : (Jvm.Cond.methodLink "TrueArms" (207 : Nat) ({ cls := "TrueArms$Signs", name := "read", desc := "(LTrueArms$Sheet;II)V" } : Jvm.MethodName)) ∈ wAll := wT_3 13 rfl rfl
theorem wm_477 : (Jvm.Cond.instanceMethod ({ cls := "TrueArms$Signs", name := "read", desc := "(LTrueArms$Sheet;II)V" } : Jvm.MethodName)) ∈ wAll := wT_3 14 rfl rfl
theorem wm_478 : (Jvm.Cond.selects "TrueArms$Signs" ({ cls := "TrueArms$Signs", name := "read", desc := "(LTrueArms$Sheet;II)V" } : Jvm.MethodName) ({ cls := "TrueArms$Signs", name := "read", desc := "(LTrueArms$Sheet;II)V" } : Jvm.MethodName)) ∈ wAll := wT_3 15 rfl rfl
theorem wm_479 : (Jvm.Cond.code ({ cls := "TrueArms$Signs", name := "read", desc := "(LTrueArms$Sheet;II)V" } : Jvm.MethodName) prog_7_method_2_code (5 : Nat) (Option.none : Option Jvm.ClassFile.FieldType)) ∈ wAll := wT_3 16 rfl rfl
theorem wm_480 : (Jvm.Cond.methodLink "TrueArms" (217 : Nat) ({ cls := "TrueArms$Signs", name := "falseShare", desc := "()I" } : Jvm.MethodName)) ∈ wAll := wT_3 17 rfl rfl
theorem wm_481 : (Jvm.Cond.instanceMethod ({ cls := "TrueArms$Signs", name := "falseShare", desc := "()I" } : Jvm.MethodName)) ∈ wAll := wT_3 18 rfl rfl
theorem wm_482 : (Jvm.Cond.selects "TrueArms$Signs" ({ cls := "TrueArms$Signs", name := "falseShare", desc := "()I" } : Jvm.MethodName) ({ cls := "TrueArms$Signs", name := "falseShare", desc := "()I" } : Jvm.MethodName)) ∈ wAll := wT_3 19 rfl rfl
theorem wm_483 : (Jvm.Cond.code ({ cls := "TrueArms$Signs", name := "falseShare", desc := "()I" } : Jvm.MethodName) prog_7_method_3_code (3 : Nat) (Option.some Jvm.ClassFile.FieldType.int)) ∈ wAll := wT_3 20 rfl rfl
theorem wm_484 : (Jvm.Cond.constantLong "TrueArms$Signs" (22 : Nat) (2 : Int64)) ∈ wAll := wT_3 21 rfl rfl
theorem wm_485 : (Jvm.Cond.methodLink "TrueArms$Signs" (24 : Nat) ({ cls := "java/lang/Math", name := "min", desc := "(II)I" } : Jvm.MethodName)) ∈ wAll := wT_3 22 rfl rfl
theorem wm_486 : (Jvm.Cond.methodLink "TrueArms$Signs" (30 : Nat) ({ cls := "TrueArms$Signs", name := "rowsUpTo", desc := "(I)J" } : Jvm.MethodName)) ∈ wAll := wT_3 23 rfl rfl
theorem wm_487 : (Jvm.Cond.instanceMethod ({ cls := "TrueArms$Signs", name := "rowsUpTo", desc := "(I)J" } : Jvm.MethodName)) ∈ wAll := wT_3 25 rfl rfl
theorem wm_488 : (Jvm.Cond.code ({ cls := "TrueArms$Signs", name := "rowsUpTo", desc := "(I)J" } : Jvm.MethodName) prog_7_method_4_code (7 : Nat) (Option.some Jvm.ClassFile.FieldType.long)) ∈ wAll := wT_3 26 rfl rfl
theorem wm_489 : (Jvm.Cond.methodLink "TrueArms$Signs" (34 : Nat) ({ cls := "java/lang/Math", name := "min", desc := "(JJ)J" } : Jvm.MethodName)) ∈ wAll := wT_3 27 rfl rfl
theorem wm_490 : (Jvm.Cond.methodLink "TrueArms$Signs" (37 : Nat) ({ cls := "TrueArms$Signs", name := "millionths", desc := "(JI)I" } : Jvm.MethodName)) ∈ wAll := wT_3 28 rfl rfl
theorem wm_491 : (Jvm.Cond.static ({ cls := "TrueArms$Signs", name := "millionths", desc := "(JI)I" } : Jvm.MethodName)) ∈ wAll := wT_3 29 rfl rfl
theorem wm_492 : (Jvm.Cond.code ({ cls := "TrueArms$Signs", name := "millionths", desc := "(JI)I" } : Jvm.MethodName) prog_7_method_5_code (7 : Nat) (Option.some Jvm.ClassFile.FieldType.int)) ∈ wAll := wT_3 30 rfl rfl
theorem wm_493 : (Jvm.Cond.constantLong "TrueArms$Signs" (41 : Nat) (1000 : Int64)) ∈ wAll := wT_3 31 rfl rfl
theorem wm_494 : (Jvm.Cond.methodLink "TrueArmsLaw" (121 : Nat) ({ cls := "TrueArms", name := "sheet", desc := "(III)I" } : Jvm.MethodName)) ∈ wAll := wT_3 32 rfl rfl
theorem wm_495 : (Jvm.Cond.instanceMethod ({ cls := "TrueArms", name := "sheet", desc := "(III)I" } : Jvm.MethodName)) ∈ wAll := wT_3 33 rfl rfl
theorem wm_496 : (Jvm.Cond.selects "TrueArms" ({ cls := "TrueArms", name := "sheet", desc := "(III)I" } : Jvm.MethodName) ({ cls := "TrueArms", name := "sheet", desc := "(III)I" } : Jvm.MethodName)) ∈ wAll := wT_3 34 rfl rfl
theorem wm_497 : (Jvm.Cond.code ({ cls := "TrueArms", name := "sheet", desc := "(III)I" } : Jvm.MethodName) prog_1_method_27_code (4 : Nat) (Option.some Jvm.ClassFile.FieldType.int)) ∈ wAll := wT_3 35 rfl rfl
theorem wm_498 : (Jvm.Cond.methodLink "TrueArms" (220 : Nat) ({ cls := "TrueArms$Sheet", name := "isForm", desc := "(I)Z" } : Jvm.MethodName)) ∈ wAll := wT_3 36 rfl rfl
theorem wm_499 : (Jvm.Cond.static ({ cls := "TrueArms$Sheet", name := "isForm", desc := "(I)Z" } : Jvm.MethodName)) ∈ wAll := wT_3 37 rfl rfl
theorem wm_500 : (Jvm.Cond.code ({ cls := "TrueArms$Sheet", name := "isForm", desc := "(I)Z" } : Jvm.MethodName) prog_6_method_2_code (1 : Nat) (Option.some Jvm.ClassFile.FieldType.boolean)) ∈ wAll := wT_3 38 rfl rfl
theorem wm_501 : (Jvm.Cond.methodLink "TrueArms" (223 : Nat) ({ cls := "TrueArms$Sheet", name := "begin", desc := "(II)V" } : Jvm.MethodName)) ∈ wAll := wT_3 39 rfl rfl
theorem wm_502 : (Jvm.Cond.instanceMethod ({ cls := "TrueArms$Sheet", name := "begin", desc := "(II)V" } : Jvm.MethodName)) ∈ wAll := wT_3 40 rfl rfl
theorem wm_503 : (Jvm.Cond.selects "TrueArms$Sheet" ({ cls := "TrueArms$Sheet", name := "begin", desc := "(II)V" } : Jvm.MethodName) ({ cls := "TrueArms$Sheet", name := "begin", desc := "(II)V" } : Jvm.MethodName)) ∈ wAll := wT_3 41 rfl rfl
theorem wm_504 : (Jvm.Cond.code ({ cls := "TrueArms$Sheet", name := "begin", desc := "(II)V" } : Jvm.MethodName) prog_6_method_5_code (3 : Nat) (Option.none : Option Jvm.ClassFile.FieldType)) ∈ wAll := wT_3 42 rfl rfl
theorem wm_505 : (Jvm.Cond.methodLink "TrueArms$Sheet" (20 : Nat) ({ cls := "java/util/Arrays", name := "fill", desc := "([II)V" } : Jvm.MethodName)) ∈ wAll := wT_3 43 rfl rfl
theorem wm_506 : (Jvm.Cond.static ({ cls := "java/util/Arrays", name := "fill", desc := "([II)V" } : Jvm.MethodName)) ∈ wAll := wT_3 44 rfl rfl
theorem wm_507 : (Jvm.Cond.code ({ cls := "java/util/Arrays", name := "fill", desc := "([II)V" } : Jvm.MethodName) prog_14_method_103_code (4 : Nat) (Option.none : Option Jvm.ClassFile.FieldType)) ∈ wAll := wT_3 45 rfl rfl
theorem wm_508 : (Jvm.Cond.methodLink "TrueArmsLaw" (125 : Nat) ({ cls := "TrueArms", name := "lose", desc := "(I)I" } : Jvm.MethodName)) ∈ wAll := wT_3 46 rfl rfl
theorem wm_509 : (Jvm.Cond.instanceMethod ({ cls := "TrueArms", name := "lose", desc := "(I)I" } : Jvm.MethodName)) ∈ wAll := wT_3 47 rfl rfl
theorem wm_510 : (Jvm.Cond.selects "TrueArms" ({ cls := "TrueArms", name := "lose", desc := "(I)I" } : Jvm.MethodName) ({ cls := "TrueArms", name := "lose", desc := "(I)I" } : Jvm.MethodName)) ∈ wAll := wT_3 48 rfl rfl
theorem wm_511 : (Jvm.Cond.code ({ cls := "TrueArms", name := "lose", desc := "(I)I" } : Jvm.MethodName) prog_1_method_28_code (2 : Nat) (Option.some Jvm.ClassFile.FieldType.int)) ∈ wAll := wT_3 49 rfl rfl
theorem wm_512 : (Jvm.Cond.methodLink "TrueArms" (227 : Nat) ({ cls := "TrueArms$Sheet", name := "end", desc := "()I" } : Jvm.MethodName)) ∈ wAll := wT_3 50 rfl rfl
theorem wm_513 : (Jvm.Cond.instanceMethod ({ cls := "TrueArms$Sheet", name := "end", desc := "()I" } : Jvm.MethodName)) ∈ wAll := wT_3 51 rfl rfl
theorem wm_514 : (Jvm.Cond.selects "TrueArms$Sheet" ({ cls := "TrueArms$Sheet", name := "end", desc := "()I" } : Jvm.MethodName) ({ cls := "TrueArms$Sheet", name := "end", desc := "()I" } : Jvm.MethodName)) ∈ wAll := wT_3 52 rfl rfl
theorem wm_515 : (Jvm.Cond.code ({ cls := "TrueArms$Sheet", name := "end", desc := "()I" } : Jvm.MethodName) prog_6_method_6_code (2 : Nat) (Option.some Jvm.ClassFile.FieldType.int)) ∈ wAll := wT_3 53 rfl rfl
theorem wm_516 : (Jvm.Cond.methodLink "TrueArmsLaw" (129 : Nat) ({ cls := "TrueArms", name := "put", desc := "(IIII)I" } : Jvm.MethodName)) ∈ wAll := wT_3 54 rfl rfl
theorem wm_517 : (Jvm.Cond.instanceMethod ({ cls := "TrueArms", name := "put", desc := "(IIII)I" } : Jvm.MethodName)) ∈ wAll := wT_3 55 rfl rfl
theorem wm_518 : (Jvm.Cond.selects "TrueArms" ({ cls := "TrueArms", name := "put", desc := "(IIII)I" } : Jvm.MethodName) ({ cls := "TrueArms", name := "put", desc := "(IIII)I" } : Jvm.MethodName)) ∈ wAll := wT_3 56 rfl rfl
theorem wm_519 : (Jvm.Cond.code ({ cls := "TrueArms", name := "put", desc := "(IIII)I" } : Jvm.MethodName) prog_1_method_29_code (6 : Nat) (Option.some Jvm.ClassFile.FieldType.int)) ∈ wAll := wT_3 57 rfl rfl
theorem wm_520 : (Jvm.Cond.methodLink "TrueArms" (230 : Nat) ({ cls := "TrueArms", name := "troubleWith", desc := "(LTrueArms$Sheet;II)I" } : Jvm.MethodName)) ∈ wAll := wT_3 58 rfl rfl
theorem wm_521 : (Jvm.Cond.static ({ cls := "TrueArms", name := "troubleWith", desc := "(LTrueArms$Sheet;II)I" } : Jvm.MethodName)) ∈ wAll := wT_3 59 rfl rfl
theorem wm_522 : (Jvm.Cond.code ({ cls := "TrueArms", name := "troubleWith", desc := "(LTrueArms$Sheet;II)I" } : Jvm.MethodName) prog_1_method_38_code (3 : Nat) (Option.some Jvm.ClassFile.FieldType.int)) ∈ wAll := wT_3 60 rfl rfl
theorem wm_523 : (Jvm.Cond.methodLink "TrueArms" (237 : Nat) ({ cls := "TrueArms$Sheet", name := "lowestBits", desc := "(II)I" } : Jvm.MethodName)) ∈ wAll := wT_3 61 rfl rfl
theorem wm_524 : (Jvm.Cond.static ({ cls := "TrueArms$Sheet", name := "lowestBits", desc := "(II)I" } : Jvm.MethodName)) ∈ wAll := wT_3 62 rfl rfl
theorem wm_525 : (Jvm.Cond.code ({ cls := "TrueArms$Sheet", name := "lowestBits", desc := "(II)I" } : Jvm.MethodName) prog_6_method_3_code (2 : Nat) (Option.some Jvm.ClassFile.FieldType.int)) ∈ wAll := wT_3 63 rfl rfl
theorem wm_526 : (Jvm.Cond.methodLink "TrueArmsLaw" (133 : Nat) ({ cls := "TrueArms", name := "get", desc := "(III)I" } : Jvm.MethodName)) ∈ wAll := wT_3 64 rfl rfl
theorem wm_527 : (Jvm.Cond.instanceMethod ({ cls := "TrueArms", name := "get", desc := "(III)I" } : Jvm.MethodName)) ∈ wAll := wT_3 65 rfl rfl
theorem wm_528 : (Jvm.Cond.selects "TrueArms" ({ cls := "TrueArms", name := "get", desc := "(III)I" } : Jvm.MethodName) ({ cls := "TrueArms", name := "get", desc := "(III)I" } : Jvm.MethodName)) ∈ wAll := wT_3 66 rfl rfl
theorem wm_529 : (Jvm.Cond.code ({ cls := "TrueArms", name := "get", desc := "(III)I" } : Jvm.MethodName) prog_1_method_30_code (5 : Nat) (Option.some Jvm.ClassFile.FieldType.int)) ∈ wAll := wT_3 67 rfl rfl
theorem wm_530 : (Jvm.Cond.methodLink "TrueArmsLaw" (137 : Nat) ({ cls := "TrueArms", name := "copy", desc := "(IIIII)I" } : Jvm.MethodName)) ∈ wAll := wT_3 68 rfl rfl
theorem wm_531 : (Jvm.Cond.instanceMethod ({ cls := "TrueArms", name := "copy", desc := "(IIIII)I" } : Jvm.MethodName)) ∈ wAll := wT_3 69 rfl rfl
theorem wm_532 : (Jvm.Cond.selects "TrueArms" ({ cls := "TrueArms", name := "copy", desc := "(IIIII)I" } : Jvm.MethodName) ({ cls := "TrueArms", name := "copy", desc := "(IIIII)I" } : Jvm.MethodName)) ∈ wAll := wT_3 70 rfl rfl
theorem wm_533 : (Jvm.Cond.code ({ cls := "TrueArms", name := "copy", desc := "(IIIII)I" } : Jvm.MethodName) prog_1_method_31_code (8 : Nat) (Option.some Jvm.ClassFile.FieldType.int)) ∈ wAll := wT_3 71 rfl rfl
theorem wm_534 : (Jvm.Cond.methodLink "TrueArms" (243 : Nat) ({ cls := "TrueArms$Sheet", name := "hasRun", desc := "(II)Z" } : Jvm.MethodName)) ∈ wAll := wT_3 72 rfl rfl
theorem wm_535 : (Jvm.Cond.instanceMethod ({ cls := "TrueArms$Sheet", name := "hasRun", desc := "(II)Z" } : Jvm.MethodName)) ∈ wAll := wT_3 73 rfl rfl
theorem wm_536 : (Jvm.Cond.selects "TrueArms$Sheet" ({ cls := "TrueArms$Sheet", name := "hasRun", desc := "(II)Z" } : Jvm.MethodName) ({ cls := "TrueArms$Sheet", name := "hasRun", desc := "(II)Z" } : Jvm.MethodName)) ∈ wAll := wT_3 74 rfl rfl
theorem wm_537 : (Jvm.Cond.code ({ cls := "TrueArms$Sheet", name := "hasRun", desc := "(II)Z" } : Jvm.MethodName) prog_6_method_8_code (3 : Nat) (Option.some Jvm.ClassFile.FieldType.boolean)) ∈ wAll := wT_3 75 rfl rfl
theorem wm_538 : (Jvm.Cond.methodLink "TrueArms" (246 : Nat) ({ cls := "java/lang/System", name := "arraycopy", desc := "(Ljava/lang/Object;ILjava/lang/Object;II)V" } : Jvm.MethodName)) ∈ wAll := wT_3 76 rfl rfl
theorem wm_539 : (Jvm.Cond.static ({ cls := "java/lang/System", name := "arraycopy", desc := "(Ljava/lang/Object;ILjava/lang/Object;II)V" } : Jvm.MethodName)) ∈ wAll := wT_3 77 rfl rfl
theorem wm_540 : (Jvm.Cond.native ({ cls := "java/lang/System", name := "arraycopy", desc := "(Ljava/lang/Object;ILjava/lang/Object;II)V" } : Jvm.MethodName)) ∈ wAll := wT_3 78 rfl rfl
theorem wm_541 : (Jvm.Cond.methodLink "TrueArmsLaw" (142 : Nat) ({ cls := "TrueArms", name := "count", desc := "(I)I" } : Jvm.MethodName)) ∈ wAll := wT_3 79 rfl rfl
theorem wm_542 : (Jvm.Cond.instanceMethod ({ cls := "TrueArms", name := "count", desc := "(I)I" } : Jvm.MethodName)) ∈ wAll := wT_3 80 rfl rfl
theorem wm_543 : (Jvm.Cond.selects "TrueArms" ({ cls := "TrueArms", name := "count", desc := "(I)I" } : Jvm.MethodName) ({ cls := "TrueArms", name := "count", desc := "(I)I" } : Jvm.MethodName)) ∈ wAll := wT_3 81 rfl rfl
theorem wm_544 : (Jvm.Cond.code ({ cls := "TrueArms", name := "count", desc := "(I)I" } : Jvm.MethodName) prog_1_method_32_code (2 : Nat) (Option.some Jvm.ClassFile.FieldType.int)) ∈ wAll := wT_3 82 rfl rfl
theorem wm_545 : (Jvm.Cond.methodLink "TrueArms" (252 : Nat) ({ cls := "TrueArms", name := "countLeftOut", desc := "()I" } : Jvm.MethodName)) ∈ wAll := wT_3 83 rfl rfl
theorem wm_546 : (Jvm.Cond.instanceMethod ({ cls := "TrueArms", name := "countLeftOut", desc := "()I" } : Jvm.MethodName)) ∈ wAll := wT_3 85 rfl rfl
theorem wm_547 : (Jvm.Cond.code ({ cls := "TrueArms", name := "countLeftOut", desc := "()I" } : Jvm.MethodName) prog_1_method_39_code (3 : Nat) (Option.some Jvm.ClassFile.FieldType.int)) ∈ wAll := wT_3 86 rfl rfl
theorem wm_548 : (Jvm.Cond.methodLink "TrueArms" (255 : Nat) ({ cls := "TrueArms", name := "countLost", desc := "()I" } : Jvm.MethodName)) ∈ wAll := wT_3 87 rfl rfl
theorem wm_549 : (Jvm.Cond.instanceMethod ({ cls := "TrueArms", name := "countLost", desc := "()I" } : Jvm.MethodName)) ∈ wAll := wT_3 89 rfl rfl
theorem wm_550 : (Jvm.Cond.code ({ cls := "TrueArms", name := "countLost", desc := "()I" } : Jvm.MethodName) prog_1_method_40_code (3 : Nat) (Option.some Jvm.ClassFile.FieldType.int)) ∈ wAll := wT_3 90 rfl rfl
theorem wm_551 : (Jvm.Cond.methodLink "TrueArmsLaw" (146 : Nat) ({ cls := "TrueArms", name := "digest", desc := "()J" } : Jvm.MethodName)) ∈ wAll := wT_3 91 rfl rfl
theorem wm_552 : (Jvm.Cond.instanceMethod ({ cls := "TrueArms", name := "digest", desc := "()J" } : Jvm.MethodName)) ∈ wAll := wT_3 92 rfl rfl
theorem wm_553 : (Jvm.Cond.selects "TrueArms" ({ cls := "TrueArms", name := "digest", desc := "()J" } : Jvm.MethodName) ({ cls := "TrueArms", name := "digest", desc := "()J" } : Jvm.MethodName)) ∈ wAll := wT_3 93 rfl rfl
theorem wm_554 : (Jvm.Cond.code ({ cls := "TrueArms", name := "digest", desc := "()J" } : Jvm.MethodName) prog_1_method_33_code (4 : Nat) (Option.some Jvm.ClassFile.FieldType.long)) ∈ wAll := wT_3 94 rfl rfl
theorem wm_555 : (Jvm.Cond.constantLong "TrueArms" (258 : Nat) (17 : Int64)) ∈ wAll := wT_3 95 rfl rfl
theorem wm_556 : (Jvm.Cond.constantLong "TrueArms" (260 : Nat) (31 : Int64)) ∈ wAll := wT_3 96 rfl rfl
theorem wm_557 : (Jvm.Cond.methodLink "TrueArms" (262 : Nat) ({ cls := "TrueArms", name := "count", desc := "(I)I" } : Jvm.MethodName)) ∈ wAll := wT_3 97 rfl rfl
theorem wm_558 : (Jvm.Cond.classLink "TrueArmsLaw" (10 : Nat) "TrueArmsModel") ∈ wAll := wT_3 98 rfl rfl
theorem wm_559 : (Jvm.Cond.instantiable "TrueArmsModel" (24 : Nat)) ∈ wAll := wT_3 99 rfl rfl
theorem wm_560 : (Jvm.Cond.methodLink "TrueArmsLaw" (12 : Nat) ({ cls := "TrueArmsModel", name := "<init>", desc := "()V" } : Jvm.MethodName)) ∈ wAll := wT_3 100 rfl rfl
theorem wm_561 : (Jvm.Cond.instanceMethod ({ cls := "TrueArmsModel", name := "<init>", desc := "()V" } : Jvm.MethodName)) ∈ wAll := wT_3 101 rfl rfl
theorem wm_562 : (Jvm.Cond.code ({ cls := "TrueArmsModel", name := "<init>", desc := "()V" } : Jvm.MethodName) prog_10_method_1_code (2 : Nat) (Option.none : Option Jvm.ClassFile.FieldType)) ∈ wAll := wT_3 102 rfl rfl
theorem wm_563 : (Jvm.Cond.methodLink "TrueArmsModel" (1 : Nat) ({ cls := "java/lang/Object", name := "<init>", desc := "()V" } : Jvm.MethodName)) ∈ wAll := wT_3 103 rfl rfl
theorem wm_564 : (Jvm.Cond.fieldLink "TrueArmsModel" (7 : Nat) "TrueArmsModel" "cs" "[I") ∈ wAll := wT_3 104 rfl rfl
theorem wm_565 : (Jvm.Cond.fieldLink "TrueArmsModel" (13 : Nat) "TrueArmsModel" "lengths" "[I") ∈ wAll := wT_3 105 rfl rfl
theorem wm_566 : (Jvm.Cond.fieldLink "TrueArmsModel" (85 : Nat) "TrueArmsModel" "postures" "I") ∈ wAll := wT_3 106 rfl rfl
theorem wm_567 : (Jvm.Cond.fieldLink "TrueArmsModel" (16 : Nat) "TrueArmsModel" "headings" "[I") ∈ wAll := wT_3 107 rfl rfl
theorem wm_568 : (Jvm.Cond.fieldLink "TrueArmsModel" (19 : Nat) "TrueArmsModel" "isOut" "[Z") ∈ wAll := wT_3 108 rfl rfl
theorem wm_569 : (Jvm.Cond.fieldLink "TrueArmsModel" (23 : Nat) "TrueArmsModel" "used" "[I") ∈ wAll := wT_3 109 rfl rfl
theorem wm_570 : (Jvm.Cond.fieldLink "TrueArmsModel" (112 : Nat) "TrueArmsModel" "usedMany" "I") ∈ wAll := wT_3 110 rfl rfl
theorem wm_571 : (Jvm.Cond.fieldLink "TrueArmsModel" (26 : Nat) "TrueArmsModel" "g" "[J") ∈ wAll := wT_3 111 rfl rfl
theorem wm_572 : (Jvm.Cond.fieldLink "TrueArmsModel" (30 : Nat) "TrueArmsModel" "right" "[J") ∈ wAll := wT_3 112 rfl rfl
theorem wm_573 : (Jvm.Cond.fieldLink "TrueArmsModel" (33 : Nat) "TrueArmsModel" "upright" "[J") ∈ wAll := wT_3 113 rfl rfl
theorem wm_574 : (Jvm.Cond.fieldLink "TrueArmsModel" (179 : Nat) "TrueArmsModel" "pairs" "I") ∈ wAll := wT_3 114 rfl rfl
theorem wm_575 : (Jvm.Cond.fieldLink "TrueArmsModel" (36 : Nat) "TrueArmsModel" "pp" "[I") ∈ wAll := wT_3 115 rfl rfl
theorem wm_576 : (Jvm.Cond.fieldLink "TrueArmsModel" (39 : Nat) "TrueArmsModel" "qq" "[I") ∈ wAll := wT_3 116 rfl rfl
theorem wm_577 : (Jvm.Cond.fieldLink "TrueArmsModel" (42 : Nat) "TrueArmsModel" "xx" "[I") ∈ wAll := wT_3 117 rfl rfl
theorem wm_578 : (Jvm.Cond.fieldLink "TrueArmsModel" (45 : Nat) "TrueArmsModel" "yy" "[I") ∈ wAll := wT_3 118 rfl rfl
theorem wm_579 : (Jvm.Cond.fieldLink "TrueArmsModel" (48 : Nat) "TrueArmsModel" "lows" "[I") ∈ wAll := wT_3 119 rfl rfl
theorem wm_580 : (Jvm.Cond.fieldLink "TrueArmsModel" (51 : Nat) "TrueArmsModel" "spans" "[I") ∈ wAll := wT_3 120 rfl rfl
theorem wm_581 : (Jvm.Cond.fieldLink "TrueArmsModel" (194 : Nat) "TrueArmsModel" "nearSquare" "J") ∈ wAll := wT_3 121 rfl rfl
theorem wm_582 : (Jvm.Cond.fieldLink "TrueArmsModel" (201 : Nat) "TrueArmsModel" "nearPosture" "I") ∈ wAll := wT_3 122 rfl rfl
theorem wm_583 : (Jvm.Cond.fieldLink "TrueArmsModel" (54 : Nat) "TrueArmsModel" "forms" "[I") ∈ wAll := wT_3 123 rfl rfl
theorem wm_584 : (Jvm.Cond.fieldLink "TrueArmsModel" (57 : Nat) "TrueArmsModel" "sizes" "[I") ∈ wAll := wT_3 124 rfl rfl
theorem wm_585 : (Jvm.Cond.fieldLink "TrueArmsModel" (60 : Nat) "TrueArmsModel" "items" "[I") ∈ wAll := wT_3 125 rfl rfl
theorem wm_586 : (Jvm.Cond.fieldLink "TrueArmsModel" (63 : Nat) "TrueArmsModel" "moved" "[I") ∈ wAll := wT_3 126 rfl rfl
theorem wm_587 : (Jvm.Cond.fieldLink "TrueArmsModel" (226 : Nat) "TrueArmsModel" "latest" "I") ∈ wAll := wT_3 127 rfl rfl
theorem wm_588 : (Jvm.Cond.laysFinal "TrueArmsModel" "TrueArmsModel" "cs" "[I") ∈ wAll := wT_3 128 rfl rfl
theorem wm_589 : (Jvm.Cond.soleField "TrueArmsModel" "cs") ∈ wAll := wT_3 129 rfl rfl
theorem wm_590 : (Jvm.Cond.laysFinal "TrueArmsModel" "TrueArmsModel" "lengths" "[I") ∈ wAll := wT_3 130 rfl rfl
theorem wm_591 : (Jvm.Cond.soleField "TrueArmsModel" "lengths") ∈ wAll := wT_3 131 rfl rfl
theorem wm_592 : (Jvm.Cond.lays "TrueArmsModel" "TrueArmsModel" "postures" "I") ∈ wAll := wT_3 132 rfl rfl
theorem wm_593 : (Jvm.Cond.soleField "TrueArmsModel" "postures") ∈ wAll := wT_3 133 rfl rfl
theorem wm_594 : (Jvm.Cond.laysFinal "TrueArmsModel" "TrueArmsModel" "headings" "[I") ∈ wAll := wT_3 134 rfl rfl
theorem wm_595 : (Jvm.Cond.soleField "TrueArmsModel" "headings") ∈ wAll := wT_3 135 rfl rfl
theorem wm_596 : (Jvm.Cond.laysFinal "TrueArmsModel" "TrueArmsModel" "isOut" "[Z") ∈ wAll := wT_3 136 rfl rfl
theorem wm_597 : (Jvm.Cond.soleField "TrueArmsModel" "isOut") ∈ wAll := wT_3 137 rfl rfl
theorem wm_598 : (Jvm.Cond.laysFinal "TrueArmsModel" "TrueArmsModel" "used" "[I") ∈ wAll := wT_3 138 rfl rfl
theorem wm_599 : (Jvm.Cond.soleField "TrueArmsModel" "used") ∈ wAll := wT_3 139 rfl rfl
theorem wm_600 : (Jvm.Cond.lays "TrueArmsModel" "TrueArmsModel" "usedMany" "I") ∈ wAll := wT_3 140 rfl rfl
theorem wm_601 : (Jvm.Cond.soleField "TrueArmsModel" "usedMany") ∈ wAll := wT_3 141 rfl rfl
theorem wm_602 : (Jvm.Cond.laysFinal "TrueArmsModel" "TrueArmsModel" "g" "[J") ∈ wAll := wT_3 142 rfl rfl
theorem wm_603 : (Jvm.Cond.soleField "TrueArmsModel" "g") ∈ wAll := wT_3 143 rfl rfl
theorem wm_604 : (Jvm.Cond.laysFinal "TrueArmsModel" "TrueArmsModel" "right" "[J") ∈ wAll := wT_3 144 rfl rfl
theorem wm_605 : (Jvm.Cond.soleField "TrueArmsModel" "right") ∈ wAll := wT_3 145 rfl rfl
theorem wm_606 : (Jvm.Cond.laysFinal "TrueArmsModel" "TrueArmsModel" "upright" "[J") ∈ wAll := wT_3 146 rfl rfl
theorem wm_607 : (Jvm.Cond.soleField "TrueArmsModel" "upright") ∈ wAll := wT_3 147 rfl rfl
theorem wm_608 : (Jvm.Cond.lays "TrueArmsModel" "TrueArmsModel" "pairs" "I") ∈ wAll := wT_3 148 rfl rfl
theorem wm_609 : (Jvm.Cond.soleField "TrueArmsModel" "pairs") ∈ wAll := wT_3 149 rfl rfl
theorem wm_610 : (Jvm.Cond.laysFinal "TrueArmsModel" "TrueArmsModel" "pp" "[I") ∈ wAll := wT_3 150 rfl rfl
theorem wm_611 : (Jvm.Cond.soleField "TrueArmsModel" "pp") ∈ wAll := wT_3 151 rfl rfl
theorem wm_612 : (Jvm.Cond.laysFinal "TrueArmsModel" "TrueArmsModel" "qq" "[I") ∈ wAll := wT_3 152 rfl rfl
theorem wm_613 : (Jvm.Cond.soleField "TrueArmsModel" "qq") ∈ wAll := wT_3 153 rfl rfl
theorem wm_614 : (Jvm.Cond.laysFinal "TrueArmsModel" "TrueArmsModel" "xx" "[I") ∈ wAll := wT_3 154 rfl rfl
theorem wm_615 : (Jvm.Cond.soleField "TrueArmsModel" "xx") ∈ wAll := wT_3 155 rfl rfl
theorem wm_616 : (Jvm.Cond.laysFinal "TrueArmsModel" "TrueArmsModel" "yy" "[I") ∈ wAll := wT_3 156 rfl rfl
theorem wm_617 : (Jvm.Cond.soleField "TrueArmsModel" "yy") ∈ wAll := wT_3 157 rfl rfl
theorem wm_618 : (Jvm.Cond.laysFinal "TrueArmsModel" "TrueArmsModel" "lows" "[I") ∈ wAll := wT_3 158 rfl rfl
theorem wm_619 : (Jvm.Cond.soleField "TrueArmsModel" "lows") ∈ wAll := wT_3 159 rfl rfl
theorem wm_620 : (Jvm.Cond.laysFinal "TrueArmsModel" "TrueArmsModel" "spans" "[I") ∈ wAll := wT_3 160 rfl rfl
theorem wm_621 : (Jvm.Cond.soleField "TrueArmsModel" "spans") ∈ wAll := wT_3 161 rfl rfl
theorem wm_622 : (Jvm.Cond.lays "TrueArmsModel" "TrueArmsModel" "nearSquare" "J") ∈ wAll := wT_3 162 rfl rfl
theorem wm_623 : (Jvm.Cond.soleField "TrueArmsModel" "nearSquare") ∈ wAll := wT_3 163 rfl rfl
theorem wm_624 : (Jvm.Cond.lays "TrueArmsModel" "TrueArmsModel" "nearPosture" "I") ∈ wAll := wT_3 164 rfl rfl
theorem wm_625 : (Jvm.Cond.soleField "TrueArmsModel" "nearPosture") ∈ wAll := wT_3 165 rfl rfl
theorem wm_626 : (Jvm.Cond.laysFinal "TrueArmsModel" "TrueArmsModel" "forms" "[I") ∈ wAll := wT_3 166 rfl rfl
theorem wm_627 : (Jvm.Cond.soleField "TrueArmsModel" "forms") ∈ wAll := wT_3 167 rfl rfl
theorem wm_628 : (Jvm.Cond.laysFinal "TrueArmsModel" "TrueArmsModel" "sizes" "[I") ∈ wAll := wT_3 168 rfl rfl
theorem wm_629 : (Jvm.Cond.soleField "TrueArmsModel" "sizes") ∈ wAll := wT_3 169 rfl rfl
theorem wm_630 : (Jvm.Cond.laysFinal "TrueArmsModel" "TrueArmsModel" "items" "[I") ∈ wAll := wT_3 170 rfl rfl
theorem wm_631 : (Jvm.Cond.soleField "TrueArmsModel" "items") ∈ wAll := wT_3 171 rfl rfl
theorem wm_632 : (Jvm.Cond.laysFinal "TrueArmsModel" "TrueArmsModel" "moved" "[I") ∈ wAll := wT_3 172 rfl rfl
theorem wm_633 : (Jvm.Cond.soleField "TrueArmsModel" "moved") ∈ wAll := wT_3 173 rfl rfl
theorem wm_634 : (Jvm.Cond.lays "TrueArmsModel" "TrueArmsModel" "latest" "I") ∈ wAll := wT_3 174 rfl rfl
theorem wm_635 : (Jvm.Cond.soleField "TrueArmsModel" "latest") ∈ wAll := wT_3 175 rfl rfl
theorem wm_636 : (Jvm.Cond.superclass "TrueArmsModel" "java/lang/Object") ∈ wAll := wT_3 176 rfl rfl
theorem wm_637 : (Jvm.Cond.methodLink "TrueArmsLaw" (17 : Nat) ({ cls := "TrueArmsModel", name := "turn", desc := "(II)I" } : Jvm.MethodName)) ∈ wAll := wT_3 177 rfl rfl
theorem wm_638 : (Jvm.Cond.instanceMethod ({ cls := "TrueArmsModel", name := "turn", desc := "(II)I" } : Jvm.MethodName)) ∈ wAll := wT_3 178 rfl rfl
theorem wm_639 : (Jvm.Cond.selects "TrueArmsModel" ({ cls := "TrueArmsModel", name := "turn", desc := "(II)I" } : Jvm.MethodName) ({ cls := "TrueArmsModel", name := "turn", desc := "(II)I" } : Jvm.MethodName)) ∈ wAll := wT_3 179 rfl rfl
theorem wm_640 : (Jvm.Cond.code ({ cls := "TrueArmsModel", name := "turn", desc := "(II)I" } : Jvm.MethodName) prog_10_method_7_code (3 : Nat) (Option.some Jvm.ClassFile.FieldType.int)) ∈ wAll := wT_3 180 rfl rfl
theorem wm_641 : (Jvm.Cond.constantLong "TrueArmsModel" (68 : Nat) (35 : Int64)) ∈ wAll := wT_3 181 rfl rfl
theorem wm_642 : (Jvm.Cond.methodLink "TrueArmsModel" (70 : Nat) ({ cls := "TrueArmsModel", name := "in", desc := "(JJJ)Z" } : Jvm.MethodName)) ∈ wAll := wT_3 182 rfl rfl
theorem wm_643 : (Jvm.Cond.static ({ cls := "TrueArmsModel", name := "in", desc := "(JJJ)Z" } : Jvm.MethodName)) ∈ wAll := wT_3 183 rfl rfl
theorem wm_644 : (Jvm.Cond.code ({ cls := "TrueArmsModel", name := "in", desc := "(JJJ)Z" } : Jvm.MethodName) prog_10_method_3_code (6 : Nat) (Option.some Jvm.ClassFile.FieldType.boolean)) ∈ wAll := wT_3 184 rfl rfl
theorem wm_645 : (Jvm.Cond.methodLink "TrueArmsModel" (74 : Nat) ({ cls := "TrueArmsModel", name := "c", desc := "(I)I" } : Jvm.MethodName)) ∈ wAll := wT_3 185 rfl rfl
theorem wm_646 : (Jvm.Cond.instanceMethod ({ cls := "TrueArmsModel", name := "c", desc := "(I)I" } : Jvm.MethodName)) ∈ wAll := wT_3 187 rfl rfl
theorem wm_647 : (Jvm.Cond.code ({ cls := "TrueArmsModel", name := "c", desc := "(I)I" } : Jvm.MethodName) prog_10_method_5_code (2 : Nat) (Option.some Jvm.ClassFile.FieldType.int)) ∈ wAll := wT_3 188 rfl rfl
theorem wm_648 : (Jvm.Cond.methodLink "TrueArmsModel" (78 : Nat) ({ cls := "TrueArmsModel", name := "s", desc := "(I)I" } : Jvm.MethodName)) ∈ wAll := wT_3 189 rfl rfl
theorem wm_649 : (Jvm.Cond.instanceMethod ({ cls := "TrueArmsModel", name := "s", desc := "(I)I" } : Jvm.MethodName)) ∈ wAll := wT_3 191 rfl rfl
theorem wm_650 : (Jvm.Cond.code ({ cls := "TrueArmsModel", name := "s", desc := "(I)I" } : Jvm.MethodName) prog_10_method_6_code (2 : Nat) (Option.some Jvm.ClassFile.FieldType.int)) ∈ wAll := wT_3 192 rfl rfl
theorem wm_651 : (Jvm.Cond.methodLink "TrueArmsLaw" (21 : Nat) ({ cls := "TrueArmsModel", name := "length", desc := "(II)I" } : Jvm.MethodName)) ∈ wAll := wT_3 193 rfl rfl
theorem wm_652 : (Jvm.Cond.instanceMethod ({ cls := "TrueArmsModel", name := "length", desc := "(II)I" } : Jvm.MethodName)) ∈ wAll := wT_3 194 rfl rfl
theorem wm_653 : (Jvm.Cond.selects "TrueArmsModel" ({ cls := "TrueArmsModel", name := "length", desc := "(II)I" } : Jvm.MethodName) ({ cls := "TrueArmsModel", name := "length", desc := "(II)I" } : Jvm.MethodName)) ∈ wAll := wT_3 195 rfl rfl
theorem wm_654 : (Jvm.Cond.code ({ cls := "TrueArmsModel", name := "length", desc := "(II)I" } : Jvm.MethodName) prog_10_method_8_code (4 : Nat) (Option.some Jvm.ClassFile.FieldType.int)) ∈ wAll := wT_3 196 rfl rfl
theorem wm_655 : (Jvm.Cond.constantLong "TrueArmsModel" (81 : Nat) (2 : Int64)) ∈ wAll := wT_3 197 rfl rfl
theorem wm_656 : (Jvm.Cond.constantLong "TrueArmsModel" (83 : Nat) (999 : Int64)) ∈ wAll := wT_3 198 rfl rfl
theorem wm_657 : (Jvm.Cond.methodLink "TrueArmsLaw" (26 : Nat) ({ cls := "TrueArmsModel", name := "posture", desc := "(III)I" } : Jvm.MethodName)) ∈ wAll := wT_3 199 rfl rfl
theorem wm_658 : (Jvm.Cond.instanceMethod ({ cls := "TrueArmsModel", name := "posture", desc := "(III)I" } : Jvm.MethodName)) ∈ wAll := wT_3 200 rfl rfl
theorem wm_659 : (Jvm.Cond.selects "TrueArmsModel" ({ cls := "TrueArmsModel", name := "posture", desc := "(III)I" } : Jvm.MethodName) ({ cls := "TrueArmsModel", name := "posture", desc := "(III)I" } : Jvm.MethodName)) ∈ wAll := wT_3 201 rfl rfl
theorem wm_660 : (Jvm.Cond.code ({ cls := "TrueArmsModel", name := "posture", desc := "(III)I" } : Jvm.MethodName) prog_10_method_9_code (4 : Nat) (Option.some Jvm.ClassFile.FieldType.int)) ∈ wAll := wT_3 202 rfl rfl
theorem wm_661 : (Jvm.Cond.methodLink "TrueArmsLaw" (31 : Nat) ({ cls := "TrueArmsModel", name := "clear", desc := "()I" } : Jvm.MethodName)) ∈ wAll := wT_3 203 rfl rfl
theorem wm_662 : (Jvm.Cond.instanceMethod ({ cls := "TrueArmsModel", name := "clear", desc := "()I" } : Jvm.MethodName)) ∈ wAll := wT_3 204 rfl rfl
theorem wm_663 : (Jvm.Cond.selects "TrueArmsModel" ({ cls := "TrueArmsModel", name := "clear", desc := "()I" } : Jvm.MethodName) ({ cls := "TrueArmsModel", name := "clear", desc := "()I" } : Jvm.MethodName)) ∈ wAll := wT_3 205 rfl rfl
theorem wm_664 : (Jvm.Cond.code ({ cls := "TrueArmsModel", name := "clear", desc := "()I" } : Jvm.MethodName) prog_10_method_10_code (2 : Nat) (Option.some Jvm.ClassFile.FieldType.int)) ∈ wAll := wT_3 206 rfl rfl
theorem wm_665 : (Jvm.Cond.methodLink "TrueArmsLaw" (35 : Nat) ({ cls := "TrueArmsModel", name := "hand", desc := "(II)I" } : Jvm.MethodName)) ∈ wAll := wT_3 207 rfl rfl
theorem wm_666 : (Jvm.Cond.instanceMethod ({ cls := "TrueArmsModel", name := "hand", desc := "(II)I" } : Jvm.MethodName)) ∈ wAll := wT_3 208 rfl rfl
theorem wm_667 : (Jvm.Cond.selects "TrueArmsModel" ({ cls := "TrueArmsModel", name := "hand", desc := "(II)I" } : Jvm.MethodName) ({ cls := "TrueArmsModel", name := "hand", desc := "(II)I" } : Jvm.MethodName)) ∈ wAll := wT_3 209 rfl rfl
theorem wm_668 : (Jvm.Cond.code ({ cls := "TrueArmsModel", name := "hand", desc := "(II)I" } : Jvm.MethodName) prog_10_method_14_code (3 : Nat) (Option.some Jvm.ClassFile.FieldType.int)) ∈ wAll := wT_3 210 rfl rfl
theorem wm_669 : (Jvm.Cond.methodLink "TrueArmsModel" (93 : Nat) ({ cls := "TrueArmsModel", name := "isPosture", desc := "(I)Z" } : Jvm.MethodName)) ∈ wAll := wT_3 211 rfl rfl
theorem wm_670 : (Jvm.Cond.instanceMethod ({ cls := "TrueArmsModel", name := "isPosture", desc := "(I)Z" } : Jvm.MethodName)) ∈ wAll := wT_3 213 rfl rfl
theorem wm_671 : (Jvm.Cond.code ({ cls := "TrueArmsModel", name := "isPosture", desc := "(I)Z" } : Jvm.MethodName) prog_10_method_11_code (2 : Nat) (Option.some Jvm.ClassFile.FieldType.boolean)) ∈ wAll := wT_3 214 rfl rfl
theorem wm_672 : (Jvm.Cond.methodLink "TrueArmsModel" (97 : Nat) ({ cls := "TrueArmsModel", name := "handOf", desc := "(II)I" } : Jvm.MethodName)) ∈ wAll := wT_3 215 rfl rfl
theorem wm_673 : (Jvm.Cond.instanceMethod ({ cls := "TrueArmsModel", name := "handOf", desc := "(II)I" } : Jvm.MethodName)) ∈ wAll := wT_3 217 rfl rfl
theorem wm_674 : (Jvm.Cond.code ({ cls := "TrueArmsModel", name := "handOf", desc := "(II)I" } : Jvm.MethodName) prog_10_method_13_code (3 : Nat) (Option.some Jvm.ClassFile.FieldType.int)) ∈ wAll := wT_3 218 rfl rfl
theorem wm_675 : (Jvm.Cond.methodLink "TrueArmsModel" (89 : Nat) ({ cls := "TrueArmsModel", name := "part", desc := "(III)I" } : Jvm.MethodName)) ∈ wAll := wT_3 219 rfl rfl
theorem wm_676 : (Jvm.Cond.instanceMethod ({ cls := "TrueArmsModel", name := "part", desc := "(III)I" } : Jvm.MethodName)) ∈ wAll := wT_3 221 rfl rfl
theorem wm_677 : (Jvm.Cond.code ({ cls := "TrueArmsModel", name := "part", desc := "(III)I" } : Jvm.MethodName) prog_10_method_12_code (5 : Nat) (Option.some Jvm.ClassFile.FieldType.int)) ∈ wAll := wT_3 222 rfl rfl
theorem wm_678 : (Jvm.Cond.constant "TrueArmsModel" (101 : Nat) (-2147483648 : Int32)) ∈ wAll := wT_3 223 rfl rfl
theorem wm_679 : (Jvm.Cond.methodLink "TrueArmsLaw" (43 : Nat) ({ cls := "TrueArmsModel", name := "measure", desc := "(II)I" } : Jvm.MethodName)) ∈ wAll := wT_3 224 rfl rfl
theorem wm_680 : (Jvm.Cond.instanceMethod ({ cls := "TrueArmsModel", name := "measure", desc := "(II)I" } : Jvm.MethodName)) ∈ wAll := wT_3 225 rfl rfl
theorem wm_681 : (Jvm.Cond.selects "TrueArmsModel" ({ cls := "TrueArmsModel", name := "measure", desc := "(II)I" } : Jvm.MethodName) ({ cls := "TrueArmsModel", name := "measure", desc := "(II)I" } : Jvm.MethodName)) ∈ wAll := wT_3 226 rfl rfl
theorem wm_682 : (Jvm.Cond.code ({ cls := "TrueArmsModel", name := "measure", desc := "(II)I" } : Jvm.MethodName) prog_10_method_17_code (3 : Nat) (Option.some Jvm.ClassFile.FieldType.int)) ∈ wAll := wT_3 227 rfl rfl
theorem wm_683 : (Jvm.Cond.methodLink "TrueArmsModel" (109 : Nat) ({ cls := "TrueArmsModel", name := "hasMeasure", desc := "(I)Z" } : Jvm.MethodName)) ∈ wAll := wT_3 228 rfl rfl
theorem wm_684 : (Jvm.Cond.instanceMethod ({ cls := "TrueArmsModel", name := "hasMeasure", desc := "(I)Z" } : Jvm.MethodName)) ∈ wAll := wT_3 230 rfl rfl
theorem wm_685 : (Jvm.Cond.code ({ cls := "TrueArmsModel", name := "hasMeasure", desc := "(I)Z" } : Jvm.MethodName) prog_10_method_16_code (2 : Nat) (Option.some Jvm.ClassFile.FieldType.boolean)) ∈ wAll := wT_3 231 rfl rfl
theorem wm_686 : (Jvm.Cond.methodLink "TrueArmsModel" (102 : Nat) ({ cls := "TrueArmsModel", name := "item", desc := "(I)I" } : Jvm.MethodName)) ∈ wAll := wT_3 232 rfl rfl
theorem wm_687 : (Jvm.Cond.instanceMethod ({ cls := "TrueArmsModel", name := "item", desc := "(I)I" } : Jvm.MethodName)) ∈ wAll := wT_3 234 rfl rfl
theorem wm_688 : (Jvm.Cond.code ({ cls := "TrueArmsModel", name := "item", desc := "(I)I" } : Jvm.MethodName) prog_10_method_15_code (2 : Nat) (Option.some Jvm.ClassFile.FieldType.int)) ∈ wAll := wT_3 235 rfl rfl
theorem wm_689 : (Jvm.Cond.constantLong "TrueArmsModel" (105 : Nat) (-9999 : Int64)) ∈ wAll := wT_3 236 rfl rfl
theorem wm_690 : (Jvm.Cond.constantLong "TrueArmsModel" (107 : Nat) (9999 : Int64)) ∈ wAll := wT_3 237 rfl rfl
theorem wm_691 : (Jvm.Cond.methodLink "TrueArmsLaw" (48 : Nat) ({ cls := "TrueArmsModel", name := "leave", desc := "(IZ)I" } : Jvm.MethodName)) ∈ wAll := wT_3 238 rfl rfl
theorem wm_692 : (Jvm.Cond.instanceMethod ({ cls := "TrueArmsModel", name := "leave", desc := "(IZ)I" } : Jvm.MethodName)) ∈ wAll := wT_3 239 rfl rfl
theorem wm_693 : (Jvm.Cond.selects "TrueArmsModel" ({ cls := "TrueArmsModel", name := "leave", desc := "(IZ)I" } : Jvm.MethodName) ({ cls := "TrueArmsModel", name := "leave", desc := "(IZ)I" } : Jvm.MethodName)) ∈ wAll := wT_4 0 rfl rfl
theorem wm_694 : (Jvm.Cond.code ({ cls := "TrueArmsModel", name := "leave", desc := "(IZ)I" } : Jvm.MethodName) prog_10_method_18_code (3 : Nat) (Option.some Jvm.ClassFile.FieldType.int)) ∈ wAll := wT_4 1 rfl rfl
theorem wm_695 : (Jvm.Cond.methodLink "TrueArmsLaw" (52 : Nat) ({ cls := "TrueArmsModel", name := "used", desc := "()I" } : Jvm.MethodName)) ∈ wAll := wT_4 2 rfl rfl
theorem wm_696 : (Jvm.Cond.instanceMethod ({ cls := "TrueArmsModel", name := "used", desc := "()I" } : Jvm.MethodName)) ∈ wAll := wT_4 3 rfl rfl
theorem wm_697 : (Jvm.Cond.selects "TrueArmsModel" ({ cls := "TrueArmsModel", name := "used", desc := "()I" } : Jvm.MethodName) ({ cls := "TrueArmsModel", name := "used", desc := "()I" } : Jvm.MethodName)) ∈ wAll := wT_4 4 rfl rfl
theorem wm_698 : (Jvm.Cond.code ({ cls := "TrueArmsModel", name := "used", desc := "()I" } : Jvm.MethodName) prog_10_method_20_code (1 : Nat) (Option.some Jvm.ClassFile.FieldType.int)) ∈ wAll := wT_4 5 rfl rfl
theorem wm_699 : (Jvm.Cond.methodLink "TrueArmsModel" (115 : Nat) ({ cls := "TrueArmsModel", name := "findUsed", desc := "()V" } : Jvm.MethodName)) ∈ wAll := wT_4 6 rfl rfl
theorem wm_700 : (Jvm.Cond.instanceMethod ({ cls := "TrueArmsModel", name := "findUsed", desc := "()V" } : Jvm.MethodName)) ∈ wAll := wT_4 8 rfl rfl
theorem wm_701 : (Jvm.Cond.code ({ cls := "TrueArmsModel", name := "findUsed", desc := "()V" } : Jvm.MethodName) prog_10_method_19_code (2 : Nat) (Option.none : Option Jvm.ClassFile.FieldType)) ∈ wAll := wT_4 9 rfl rfl
theorem wm_702 : (Jvm.Cond.methodLink "TrueArmsLaw" (57 : Nat) ({ cls := "TrueArmsModel", name := "table", desc := "(II)J" } : Jvm.MethodName)) ∈ wAll := wT_4 10 rfl rfl
theorem wm_703 : (Jvm.Cond.instanceMethod ({ cls := "TrueArmsModel", name := "table", desc := "(II)J" } : Jvm.MethodName)) ∈ wAll := wT_4 11 rfl rfl
theorem wm_704 : (Jvm.Cond.selects "TrueArmsModel" ({ cls := "TrueArmsModel", name := "table", desc := "(II)J" } : Jvm.MethodName) ({ cls := "TrueArmsModel", name := "table", desc := "(II)J" } : Jvm.MethodName)) ∈ wAll := wT_4 12 rfl rfl
theorem wm_705 : (Jvm.Cond.code ({ cls := "TrueArmsModel", name := "table", desc := "(II)J" } : Jvm.MethodName) prog_10_method_24_code (3 : Nat) (Option.some Jvm.ClassFile.FieldType.long)) ∈ wAll := wT_4 13 rfl rfl
theorem wm_706 : (Jvm.Cond.methodLink "TrueArmsModel" (125 : Nat) ({ cls := "TrueArmsModel", name := "no", desc := "(I)J" } : Jvm.MethodName)) ∈ wAll := wT_4 14 rfl rfl
theorem wm_707 : (Jvm.Cond.static ({ cls := "TrueArmsModel", name := "no", desc := "(I)J" } : Jvm.MethodName)) ∈ wAll := wT_4 15 rfl rfl
theorem wm_708 : (Jvm.Cond.code ({ cls := "TrueArmsModel", name := "no", desc := "(I)J" } : Jvm.MethodName) prog_10_method_4_code (1 : Nat) (Option.some Jvm.ClassFile.FieldType.long)) ∈ wAll := wT_4 16 rfl rfl
theorem wm_709 : (Jvm.Cond.constantLong "TrueArmsModel" (66 : Nat) (-9223372036854775808 : Int64)) ∈ wAll := wT_4 17 rfl rfl
theorem wm_710 : (Jvm.Cond.methodLink "TrueArmsModel" (129 : Nat) ({ cls := "TrueArmsModel", name := "findTable", desc := "()V" } : Jvm.MethodName)) ∈ wAll := wT_4 18 rfl rfl
theorem wm_711 : (Jvm.Cond.instanceMethod ({ cls := "TrueArmsModel", name := "findTable", desc := "()V" } : Jvm.MethodName)) ∈ wAll := wT_4 20 rfl rfl
theorem wm_712 : (Jvm.Cond.code ({ cls := "TrueArmsModel", name := "findTable", desc := "()V" } : Jvm.MethodName) prog_10_method_23_code (5 : Nat) (Option.none : Option Jvm.ClassFile.FieldType)) ∈ wAll := wT_4 21 rfl rfl
theorem wm_713 : (Jvm.Cond.methodLink "TrueArmsModel" (118 : Nat) ({ cls := "TrueArmsModel", name := "nothing", desc := "()V" } : Jvm.MethodName)) ∈ wAll := wT_4 22 rfl rfl
theorem wm_714 : (Jvm.Cond.instanceMethod ({ cls := "TrueArmsModel", name := "nothing", desc := "()V" } : Jvm.MethodName)) ∈ wAll := wT_4 24 rfl rfl
theorem wm_715 : (Jvm.Cond.code ({ cls := "TrueArmsModel", name := "nothing", desc := "()V" } : Jvm.MethodName) prog_10_method_21_code (2 : Nat) (Option.none : Option Jvm.ClassFile.FieldType)) ∈ wAll := wT_4 25 rfl rfl
theorem wm_716 : (Jvm.Cond.methodLink "TrueArmsModel" (121 : Nat) ({ cls := "TrueArmsModel", name := "adds", desc := "(I)V" } : Jvm.MethodName)) ∈ wAll := wT_4 26 rfl rfl
theorem wm_717 : (Jvm.Cond.instanceMethod ({ cls := "TrueArmsModel", name := "adds", desc := "(I)V" } : Jvm.MethodName)) ∈ wAll := wT_4 28 rfl rfl
theorem wm_718 : (Jvm.Cond.code ({ cls := "TrueArmsModel", name := "adds", desc := "(I)V" } : Jvm.MethodName) prog_10_method_22_code (5 : Nat) (Option.none : Option Jvm.ClassFile.FieldType)) ∈ wAll := wT_4 29 rfl rfl
theorem wm_719 : (Jvm.Cond.methodLink "TrueArmsLaw" (61 : Nat) ({ cls := "TrueArmsModel", name := "rank", desc := "()I" } : Jvm.MethodName)) ∈ wAll := wT_4 30 rfl rfl
theorem wm_720 : (Jvm.Cond.instanceMethod ({ cls := "TrueArmsModel", name := "rank", desc := "()I" } : Jvm.MethodName)) ∈ wAll := wT_4 31 rfl rfl
theorem wm_721 : (Jvm.Cond.selects "TrueArmsModel" ({ cls := "TrueArmsModel", name := "rank", desc := "()I" } : Jvm.MethodName) ({ cls := "TrueArmsModel", name := "rank", desc := "()I" } : Jvm.MethodName)) ∈ wAll := wT_4 32 rfl rfl
theorem wm_722 : (Jvm.Cond.code ({ cls := "TrueArmsModel", name := "rank", desc := "()I" } : Jvm.MethodName) prog_10_method_29_code (1 : Nat) (Option.some Jvm.ClassFile.FieldType.int)) ∈ wAll := wT_4 33 rfl rfl
theorem wm_723 : (Jvm.Cond.methodLink "TrueArmsModel" (144 : Nat) ({ cls := "TrueArmsModel", name := "rankNow", desc := "()I" } : Jvm.MethodName)) ∈ wAll := wT_4 34 rfl rfl
theorem wm_724 : (Jvm.Cond.instanceMethod ({ cls := "TrueArmsModel", name := "rankNow", desc := "()I" } : Jvm.MethodName)) ∈ wAll := wT_4 36 rfl rfl
theorem wm_725 : (Jvm.Cond.code ({ cls := "TrueArmsModel", name := "rankNow", desc := "()I" } : Jvm.MethodName) prog_10_method_28_code (2 : Nat) (Option.some Jvm.ClassFile.FieldType.int)) ∈ wAll := wT_4 37 rfl rfl
theorem wm_726 : (Jvm.Cond.methodLink "TrueArmsModel" (136 : Nat) ({ cls := "TrueArmsModel", name := "weightNow", desc := "()J" } : Jvm.MethodName)) ∈ wAll := wT_4 38 rfl rfl
theorem wm_727 : (Jvm.Cond.instanceMethod ({ cls := "TrueArmsModel", name := "weightNow", desc := "()J" } : Jvm.MethodName)) ∈ wAll := wT_4 40 rfl rfl
theorem wm_728 : (Jvm.Cond.code ({ cls := "TrueArmsModel", name := "weightNow", desc := "()J" } : Jvm.MethodName) prog_10_method_26_code (1 : Nat) (Option.some Jvm.ClassFile.FieldType.long)) ∈ wAll := wT_4 41 rfl rfl
theorem wm_729 : (Jvm.Cond.methodLink "TrueArmsModel" (132 : Nat) ({ cls := "TrueArmsModel", name := "det", desc := "(JJJJJJJJJ)J" } : Jvm.MethodName)) ∈ wAll := wT_4 42 rfl rfl
theorem wm_730 : (Jvm.Cond.static ({ cls := "TrueArmsModel", name := "det", desc := "(JJJJJJJJJ)J" } : Jvm.MethodName)) ∈ wAll := wT_4 43 rfl rfl
theorem wm_731 : (Jvm.Cond.code ({ cls := "TrueArmsModel", name := "det", desc := "(JJJJJJJJJ)J" } : Jvm.MethodName) prog_10_method_25_code (18 : Nat) (Option.some Jvm.ClassFile.FieldType.long)) ∈ wAll := wT_4 44 rfl rfl
theorem wm_732 : (Jvm.Cond.methodLink "TrueArmsModel" (140 : Nat) ({ cls := "TrueArmsModel", name := "stands", desc := "(II)Z" } : Jvm.MethodName)) ∈ wAll := wT_4 45 rfl rfl
theorem wm_733 : (Jvm.Cond.instanceMethod ({ cls := "TrueArmsModel", name := "stands", desc := "(II)Z" } : Jvm.MethodName)) ∈ wAll := wT_4 47 rfl rfl
theorem wm_734 : (Jvm.Cond.code ({ cls := "TrueArmsModel", name := "stands", desc := "(II)Z" } : Jvm.MethodName) prog_10_method_27_code (15 : Nat) (Option.some Jvm.ClassFile.FieldType.boolean)) ∈ wAll := wT_4 48 rfl rfl
theorem wm_735 : (Jvm.Cond.methodLink "TrueArmsLaw" (66 : Nat) ({ cls := "TrueArmsModel", name := "told", desc := "(I)I" } : Jvm.MethodName)) ∈ wAll := wT_4 49 rfl rfl
theorem wm_736 : (Jvm.Cond.instanceMethod ({ cls := "TrueArmsModel", name := "told", desc := "(I)I" } : Jvm.MethodName)) ∈ wAll := wT_4 50 rfl rfl
theorem wm_737 : (Jvm.Cond.selects "TrueArmsModel" ({ cls := "TrueArmsModel", name := "told", desc := "(I)I" } : Jvm.MethodName) ({ cls := "TrueArmsModel", name := "told", desc := "(I)I" } : Jvm.MethodName)) ∈ wAll := wT_4 51 rfl rfl
theorem wm_738 : (Jvm.Cond.code ({ cls := "TrueArmsModel", name := "told", desc := "(I)I" } : Jvm.MethodName) prog_10_method_30_code (6 : Nat) (Option.some Jvm.ClassFile.FieldType.int)) ∈ wAll := wT_4 52 rfl rfl
theorem wm_739 : (Jvm.Cond.methodLink "TrueArmsLaw" (71 : Nat) ({ cls := "TrueArmsModel", name := "fit", desc := "(I)J" } : Jvm.MethodName)) ∈ wAll := wT_4 53 rfl rfl
theorem wm_740 : (Jvm.Cond.instanceMethod ({ cls := "TrueArmsModel", name := "fit", desc := "(I)J" } : Jvm.MethodName)) ∈ wAll := wT_4 54 rfl rfl
theorem wm_741 : (Jvm.Cond.selects "TrueArmsModel" ({ cls := "TrueArmsModel", name := "fit", desc := "(I)J" } : Jvm.MethodName) ({ cls := "TrueArmsModel", name := "fit", desc := "(I)J" } : Jvm.MethodName)) ∈ wAll := wT_4 55 rfl rfl
theorem wm_742 : (Jvm.Cond.code ({ cls := "TrueArmsModel", name := "fit", desc := "(I)J" } : Jvm.MethodName) prog_10_method_32_code (2 : Nat) (Option.some Jvm.ClassFile.FieldType.long)) ∈ wAll := wT_4 56 rfl rfl
theorem wm_743 : (Jvm.Cond.methodLink "TrueArmsModel" (150 : Nat) ({ cls := "TrueArmsModel", name := "fitOf", desc := "(I)J" } : Jvm.MethodName)) ∈ wAll := wT_4 57 rfl rfl
theorem wm_744 : (Jvm.Cond.instanceMethod ({ cls := "TrueArmsModel", name := "fitOf", desc := "(I)J" } : Jvm.MethodName)) ∈ wAll := wT_4 59 rfl rfl
theorem wm_745 : (Jvm.Cond.code ({ cls := "TrueArmsModel", name := "fitOf", desc := "(I)J" } : Jvm.MethodName) prog_10_method_31_code (8 : Nat) (Option.some Jvm.ClassFile.FieldType.long)) ∈ wAll := wT_4 60 rfl rfl
theorem wm_746 : (Jvm.Cond.constantLong "TrueArmsModel" (148 : Nat) (6500 : Int64)) ∈ wAll := wT_4 61 rfl rfl
theorem wm_747 : (Jvm.Cond.methodLink "TrueArmsLaw" (39 : Nat) ({ cls := "TrueArmsModel", name := "mend", desc := "()I" } : Jvm.MethodName)) ∈ wAll := wT_4 62 rfl rfl
theorem wm_748 : (Jvm.Cond.instanceMethod ({ cls := "TrueArmsModel", name := "mend", desc := "()I" } : Jvm.MethodName)) ∈ wAll := wT_4 63 rfl rfl
theorem wm_749 : (Jvm.Cond.selects "TrueArmsModel" ({ cls := "TrueArmsModel", name := "mend", desc := "()I" } : Jvm.MethodName) ({ cls := "TrueArmsModel", name := "mend", desc := "()I" } : Jvm.MethodName)) ∈ wAll := wT_4 64 rfl rfl
theorem wm_750 : (Jvm.Cond.code ({ cls := "TrueArmsModel", name := "mend", desc := "()I" } : Jvm.MethodName) prog_10_method_33_code (4 : Nat) (Option.some Jvm.ClassFile.FieldType.int)) ∈ wAll := wT_4 65 rfl rfl
theorem wm_751 : (Jvm.Cond.constantLong "TrueArmsModel" (153 : Nat) (50 : Int64)) ∈ wAll := wT_4 66 rfl rfl
theorem wm_752 : (Jvm.Cond.constantLong "TrueArmsModel" (155 : Nat) (200 : Int64)) ∈ wAll := wT_4 67 rfl rfl
theorem wm_753 : (Jvm.Cond.constantLong "TrueArmsModel" (157 : Nat) (99900 : Int64)) ∈ wAll := wT_4 68 rfl rfl
theorem wm_754 : (Jvm.Cond.constantLong "TrueArmsModel" (159 : Nat) (100 : Int64)) ∈ wAll := wT_4 69 rfl rfl
theorem wm_755 : (Jvm.Cond.methodLink "TrueArmsLaw" (75 : Nat) ({ cls := "TrueArmsModel", name := "miss", desc := "(I)I" } : Jvm.MethodName)) ∈ wAll := wT_4 70 rfl rfl
theorem wm_756 : (Jvm.Cond.instanceMethod ({ cls := "TrueArmsModel", name := "miss", desc := "(I)I" } : Jvm.MethodName)) ∈ wAll := wT_4 71 rfl rfl
theorem wm_757 : (Jvm.Cond.selects "TrueArmsModel" ({ cls := "TrueArmsModel", name := "miss", desc := "(I)I" } : Jvm.MethodName) ({ cls := "TrueArmsModel", name := "miss", desc := "(I)I" } : Jvm.MethodName)) ∈ wAll := wT_4 72 rfl rfl
theorem wm_758 : (Jvm.Cond.code ({ cls := "TrueArmsModel", name := "miss", desc := "(I)I" } : Jvm.MethodName) prog_10_method_35_code (2 : Nat) (Option.some Jvm.ClassFile.FieldType.int)) ∈ wAll := wT_4 73 rfl rfl
theorem wm_759 : (Jvm.Cond.methodLink "TrueArmsModel" (161 : Nat) ({ cls := "TrueArmsModel", name := "missOf", desc := "(I)I" } : Jvm.MethodName)) ∈ wAll := wT_4 74 rfl rfl
theorem wm_760 : (Jvm.Cond.instanceMethod ({ cls := "TrueArmsModel", name := "missOf", desc := "(I)I" } : Jvm.MethodName)) ∈ wAll := wT_4 76 rfl rfl
theorem wm_761 : (Jvm.Cond.code ({ cls := "TrueArmsModel", name := "missOf", desc := "(I)I" } : Jvm.MethodName) prog_10_method_34_code (4 : Nat) (Option.some Jvm.ClassFile.FieldType.int)) ∈ wAll := wT_4 77 rfl rfl
theorem wm_762 : (Jvm.Cond.methodLink "TrueArmsLaw" (79 : Nat) ({ cls := "TrueArmsModel", name := "worst", desc := "()I" } : Jvm.MethodName)) ∈ wAll := wT_4 78 rfl rfl
theorem wm_763 : (Jvm.Cond.instanceMethod ({ cls := "TrueArmsModel", name := "worst", desc := "()I" } : Jvm.MethodName)) ∈ wAll := wT_4 79 rfl rfl
theorem wm_764 : (Jvm.Cond.selects "TrueArmsModel" ({ cls := "TrueArmsModel", name := "worst", desc := "()I" } : Jvm.MethodName) ({ cls := "TrueArmsModel", name := "worst", desc := "()I" } : Jvm.MethodName)) ∈ wAll := wT_4 80 rfl rfl
theorem wm_765 : (Jvm.Cond.code ({ cls := "TrueArmsModel", name := "worst", desc := "()I" } : Jvm.MethodName) prog_10_method_36_code (3 : Nat) (Option.some Jvm.ClassFile.FieldType.int)) ∈ wAll := wT_4 81 rfl rfl
theorem wm_766 : (Jvm.Cond.methodLink "TrueArmsLaw" (87 : Nat) ({ cls := "TrueArmsModel", name := "weight", desc := "(I)J" } : Jvm.MethodName)) ∈ wAll := wT_4 82 rfl rfl
theorem wm_767 : (Jvm.Cond.instanceMethod ({ cls := "TrueArmsModel", name := "weight", desc := "(I)J" } : Jvm.MethodName)) ∈ wAll := wT_4 83 rfl rfl
theorem wm_768 : (Jvm.Cond.selects "TrueArmsModel" ({ cls := "TrueArmsModel", name := "weight", desc := "(I)J" } : Jvm.MethodName) ({ cls := "TrueArmsModel", name := "weight", desc := "(I)J" } : Jvm.MethodName)) ∈ wAll := wT_4 84 rfl rfl
theorem wm_769 : (Jvm.Cond.code ({ cls := "TrueArmsModel", name := "weight", desc := "(I)J" } : Jvm.MethodName) prog_10_method_39_code (2 : Nat) (Option.some Jvm.ClassFile.FieldType.long)) ∈ wAll := wT_4 85 rfl rfl
theorem wm_770 : (Jvm.Cond.methodLink "TrueArmsModel" (164 : Nat) ({ cls := "TrueArmsModel", name := "first10", desc := "()I" } : Jvm.MethodName)) ∈ wAll := wT_4 86 rfl rfl
theorem wm_771 : (Jvm.Cond.instanceMethod ({ cls := "TrueArmsModel", name := "first10", desc := "()I" } : Jvm.MethodName)) ∈ wAll := wT_4 88 rfl rfl
theorem wm_772 : (Jvm.Cond.code ({ cls := "TrueArmsModel", name := "first10", desc := "()I" } : Jvm.MethodName) prog_10_method_37_code (1 : Nat) (Option.some Jvm.ClassFile.FieldType.int)) ∈ wAll := wT_4 89 rfl rfl
theorem wm_773 : (Jvm.Cond.methodLink "TrueArmsModel" (167 : Nat) ({ cls := "TrueArmsModel", name := "weightOf", desc := "(I)J" } : Jvm.MethodName)) ∈ wAll := wT_4 90 rfl rfl
theorem wm_774 : (Jvm.Cond.instanceMethod ({ cls := "TrueArmsModel", name := "weightOf", desc := "(I)J" } : Jvm.MethodName)) ∈ wAll := wT_4 92 rfl rfl
theorem wm_775 : (Jvm.Cond.code ({ cls := "TrueArmsModel", name := "weightOf", desc := "(I)J" } : Jvm.MethodName) prog_10_method_38_code (3 : Nat) (Option.some Jvm.ClassFile.FieldType.long)) ∈ wAll := wT_4 93 rfl rfl
theorem wm_776 : (Jvm.Cond.methodLink "TrueArmsLaw" (83 : Nat) ({ cls := "TrueArmsModel", name := "best", desc := "(I)I" } : Jvm.MethodName)) ∈ wAll := wT_4 94 rfl rfl
theorem wm_777 : (Jvm.Cond.instanceMethod ({ cls := "TrueArmsModel", name := "best", desc := "(I)I" } : Jvm.MethodName)) ∈ wAll := wT_4 95 rfl rfl
theorem wm_778 : (Jvm.Cond.selects "TrueArmsModel" ({ cls := "TrueArmsModel", name := "best", desc := "(I)I" } : Jvm.MethodName) ({ cls := "TrueArmsModel", name := "best", desc := "(I)I" } : Jvm.MethodName)) ∈ wAll := wT_4 96 rfl rfl
theorem wm_779 : (Jvm.Cond.code ({ cls := "TrueArmsModel", name := "best", desc := "(I)I" } : Jvm.MethodName) prog_10_method_40_code (8 : Nat) (Option.some Jvm.ClassFile.FieldType.int)) ∈ wAll := wT_4 97 rfl rfl
theorem wm_780 : (Jvm.Cond.constantLong "TrueArmsModel" (170 : Nat) (4 : Int64)) ∈ wAll := wT_4 98 rfl rfl
theorem wm_781 : (Jvm.Cond.methodLink "TrueArmsLaw" (92 : Nat) ({ cls := "TrueArmsModel", name := "pair", desc := "(IIII)I" } : Jvm.MethodName)) ∈ wAll := wT_4 99 rfl rfl
theorem wm_782 : (Jvm.Cond.instanceMethod ({ cls := "TrueArmsModel", name := "pair", desc := "(IIII)I" } : Jvm.MethodName)) ∈ wAll := wT_4 100 rfl rfl
theorem wm_783 : (Jvm.Cond.selects "TrueArmsModel" ({ cls := "TrueArmsModel", name := "pair", desc := "(IIII)I" } : Jvm.MethodName) ({ cls := "TrueArmsModel", name := "pair", desc := "(IIII)I" } : Jvm.MethodName)) ∈ wAll := wT_4 101 rfl rfl
theorem wm_784 : (Jvm.Cond.code ({ cls := "TrueArmsModel", name := "pair", desc := "(IIII)I" } : Jvm.MethodName) prog_10_method_42_code (5 : Nat) (Option.some Jvm.ClassFile.FieldType.int)) ∈ wAll := wT_4 102 rfl rfl
theorem wm_785 : (Jvm.Cond.methodLink "TrueArmsModel" (176 : Nat) ({ cls := "TrueArmsModel", name := "isPart", desc := "(I)Z" } : Jvm.MethodName)) ∈ wAll := wT_4 103 rfl rfl
theorem wm_786 : (Jvm.Cond.static ({ cls := "TrueArmsModel", name := "isPart", desc := "(I)Z" } : Jvm.MethodName)) ∈ wAll := wT_4 104 rfl rfl
theorem wm_787 : (Jvm.Cond.code ({ cls := "TrueArmsModel", name := "isPart", desc := "(I)Z" } : Jvm.MethodName) prog_10_method_41_code (1 : Nat) (Option.some Jvm.ClassFile.FieldType.boolean)) ∈ wAll := wT_4 105 rfl rfl
theorem wm_788 : (Jvm.Cond.constantLong "TrueArmsModel" (172 : Nat) (-1000 : Int64)) ∈ wAll := wT_4 106 rfl rfl
theorem wm_789 : (Jvm.Cond.constantLong "TrueArmsModel" (174 : Nat) (1000 : Int64)) ∈ wAll := wT_4 107 rfl rfl
theorem wm_790 : (Jvm.Cond.methodLink "TrueArmsLaw" (96 : Nat) ({ cls := "TrueArmsModel", name := "shut", desc := "()I" } : Jvm.MethodName)) ∈ wAll := wT_4 108 rfl rfl
theorem wm_791 : (Jvm.Cond.instanceMethod ({ cls := "TrueArmsModel", name := "shut", desc := "()I" } : Jvm.MethodName)) ∈ wAll := wT_4 109 rfl rfl
theorem wm_792 : (Jvm.Cond.selects "TrueArmsModel" ({ cls := "TrueArmsModel", name := "shut", desc := "()I" } : Jvm.MethodName) ({ cls := "TrueArmsModel", name := "shut", desc := "()I" } : Jvm.MethodName)) ∈ wAll := wT_4 110 rfl rfl
theorem wm_793 : (Jvm.Cond.code ({ cls := "TrueArmsModel", name := "shut", desc := "()I" } : Jvm.MethodName) prog_10_method_43_code (2 : Nat) (Option.some Jvm.ClassFile.FieldType.int)) ∈ wAll := wT_4 111 rfl rfl
theorem wm_794 : (Jvm.Cond.methodLink "TrueArmsLaw" (100 : Nat) ({ cls := "TrueArmsModel", name := "answers", desc := "()I" } : Jvm.MethodName)) ∈ wAll := wT_4 112 rfl rfl
theorem wm_795 : (Jvm.Cond.instanceMethod ({ cls := "TrueArmsModel", name := "answers", desc := "()I" } : Jvm.MethodName)) ∈ wAll := wT_4 113 rfl rfl
theorem wm_796 : (Jvm.Cond.selects "TrueArmsModel" ({ cls := "TrueArmsModel", name := "answers", desc := "()I" } : Jvm.MethodName) ({ cls := "TrueArmsModel", name := "answers", desc := "()I" } : Jvm.MethodName)) ∈ wAll := wT_4 114 rfl rfl
theorem wm_797 : (Jvm.Cond.code ({ cls := "TrueArmsModel", name := "answers", desc := "()I" } : Jvm.MethodName) prog_10_method_46_code (3 : Nat) (Option.some Jvm.ClassFile.FieldType.int)) ∈ wAll := wT_4 115 rfl rfl
theorem wm_798 : (Jvm.Cond.methodLink "TrueArmsModel" (185 : Nat) ({ cls := "TrueArmsModel", name := "isAnswer", desc := "(I)Z" } : Jvm.MethodName)) ∈ wAll := wT_4 116 rfl rfl
theorem wm_799 : (Jvm.Cond.instanceMethod ({ cls := "TrueArmsModel", name := "isAnswer", desc := "(I)Z" } : Jvm.MethodName)) ∈ wAll := wT_4 118 rfl rfl
theorem wm_800 : (Jvm.Cond.code ({ cls := "TrueArmsModel", name := "isAnswer", desc := "(I)Z" } : Jvm.MethodName) prog_10_method_45_code (4 : Nat) (Option.some Jvm.ClassFile.FieldType.boolean)) ∈ wAll := wT_4 119 rfl rfl
theorem wm_801 : (Jvm.Cond.methodLink "TrueArmsModel" (182 : Nat) ({ cls := "TrueArmsModel", name := "shift", desc := "(III)I" } : Jvm.MethodName)) ∈ wAll := wT_4 120 rfl rfl
theorem wm_802 : (Jvm.Cond.instanceMethod ({ cls := "TrueArmsModel", name := "shift", desc := "(III)I" } : Jvm.MethodName)) ∈ wAll := wT_4 122 rfl rfl
theorem wm_803 : (Jvm.Cond.code ({ cls := "TrueArmsModel", name := "shift", desc := "(III)I" } : Jvm.MethodName) prog_10_method_44_code (4 : Nat) (Option.some Jvm.ClassFile.FieldType.int)) ∈ wAll := wT_4 123 rfl rfl
theorem wm_804 : (Jvm.Cond.methodLink "TrueArmsLaw" (104 : Nat) ({ cls := "TrueArmsModel", name := "answer", desc := "(II)I" } : Jvm.MethodName)) ∈ wAll := wT_4 124 rfl rfl
theorem wm_805 : (Jvm.Cond.instanceMethod ({ cls := "TrueArmsModel", name := "answer", desc := "(II)I" } : Jvm.MethodName)) ∈ wAll := wT_4 125 rfl rfl
theorem wm_806 : (Jvm.Cond.selects "TrueArmsModel" ({ cls := "TrueArmsModel", name := "answer", desc := "(II)I" } : Jvm.MethodName) ({ cls := "TrueArmsModel", name := "answer", desc := "(II)I" } : Jvm.MethodName)) ∈ wAll := wT_4 126 rfl rfl
theorem wm_807 : (Jvm.Cond.code ({ cls := "TrueArmsModel", name := "answer", desc := "(II)I" } : Jvm.MethodName) prog_10_method_47_code (5 : Nat) (Option.some Jvm.ClassFile.FieldType.int)) ∈ wAll := wT_4 127 rfl rfl
theorem wm_808 : (Jvm.Cond.methodLink "TrueArmsModel" (188 : Nat) ({ cls := "TrueArmsModel", name := "answers", desc := "()I" } : Jvm.MethodName)) ∈ wAll := wT_4 128 rfl rfl
theorem wm_809 : (Jvm.Cond.constant "TrueArmsModel" (191 : Nat) (-2147483647 : Int32)) ∈ wAll := wT_4 129 rfl rfl
theorem wm_810 : (Jvm.Cond.methodLink "TrueArmsLaw" (108 : Nat) ({ cls := "TrueArmsModel", name := "limit", desc := "(III)I" } : Jvm.MethodName)) ∈ wAll := wT_4 130 rfl rfl
theorem wm_811 : (Jvm.Cond.instanceMethod ({ cls := "TrueArmsModel", name := "limit", desc := "(III)I" } : Jvm.MethodName)) ∈ wAll := wT_4 131 rfl rfl
theorem wm_812 : (Jvm.Cond.selects "TrueArmsModel" ({ cls := "TrueArmsModel", name := "limit", desc := "(III)I" } : Jvm.MethodName) ({ cls := "TrueArmsModel", name := "limit", desc := "(III)I" } : Jvm.MethodName)) ∈ wAll := wT_4 132 rfl rfl
theorem wm_813 : (Jvm.Cond.code ({ cls := "TrueArmsModel", name := "limit", desc := "(III)I" } : Jvm.MethodName) prog_10_method_48_code (4 : Nat) (Option.some Jvm.ClassFile.FieldType.int)) ∈ wAll := wT_4 133 rfl rfl
theorem wm_814 : (Jvm.Cond.methodLink "TrueArmsLaw" (112 : Nat) ({ cls := "TrueArmsModel", name := "nearest", desc := "(II)I" } : Jvm.MethodName)) ∈ wAll := wT_4 134 rfl rfl
theorem wm_815 : (Jvm.Cond.instanceMethod ({ cls := "TrueArmsModel", name := "nearest", desc := "(II)I" } : Jvm.MethodName)) ∈ wAll := wT_4 135 rfl rfl
theorem wm_816 : (Jvm.Cond.selects "TrueArmsModel" ({ cls := "TrueArmsModel", name := "nearest", desc := "(II)I" } : Jvm.MethodName) ({ cls := "TrueArmsModel", name := "nearest", desc := "(II)I" } : Jvm.MethodName)) ∈ wAll := wT_4 136 rfl rfl
theorem wm_817 : (Jvm.Cond.code ({ cls := "TrueArmsModel", name := "nearest", desc := "(II)I" } : Jvm.MethodName) prog_10_method_52_code (3 : Nat) (Option.some Jvm.ClassFile.FieldType.int)) ∈ wAll := wT_4 137 rfl rfl
theorem wm_818 : (Jvm.Cond.methodLink "TrueArmsModel" (208 : Nat) ({ cls := "TrueArmsModel", name := "isPlace", desc := "(II)Z" } : Jvm.MethodName)) ∈ wAll := wT_4 138 rfl rfl
theorem wm_819 : (Jvm.Cond.static ({ cls := "TrueArmsModel", name := "isPlace", desc := "(II)Z" } : Jvm.MethodName)) ∈ wAll := wT_4 139 rfl rfl
theorem wm_820 : (Jvm.Cond.code ({ cls := "TrueArmsModel", name := "isPlace", desc := "(II)Z" } : Jvm.MethodName) prog_10_method_51_code (2 : Nat) (Option.some Jvm.ClassFile.FieldType.boolean)) ∈ wAll := wT_4 140 rfl rfl
theorem wm_821 : (Jvm.Cond.constantLong "TrueArmsModel" (204 : Nat) (-3000 : Int64)) ∈ wAll := wT_4 141 rfl rfl
theorem wm_822 : (Jvm.Cond.constantLong "TrueArmsModel" (206 : Nat) (3000 : Int64)) ∈ wAll := wT_4 142 rfl rfl
theorem wm_823 : (Jvm.Cond.methodLink "TrueArmsModel" (211 : Nat) ({ cls := "TrueArmsModel", name := "findNearest", desc := "(II)V" } : Jvm.MethodName)) ∈ wAll := wT_4 143 rfl rfl
theorem wm_824 : (Jvm.Cond.instanceMethod ({ cls := "TrueArmsModel", name := "findNearest", desc := "(II)V" } : Jvm.MethodName)) ∈ wAll := wT_4 145 rfl rfl
theorem wm_825 : (Jvm.Cond.code ({ cls := "TrueArmsModel", name := "findNearest", desc := "(II)V" } : Jvm.MethodName) prog_10_method_50_code (12 : Nat) (Option.none : Option Jvm.ClassFile.FieldType)) ∈ wAll := wT_4 146 rfl rfl
theorem wm_826 : (Jvm.Cond.constantLong "TrueArmsModel" (192 : Nat) (-1 : Int64)) ∈ wAll := wT_4 147 rfl rfl
theorem wm_827 : (Jvm.Cond.methodLink "TrueArmsModel" (198 : Nat) ({ cls := "TrueArmsModel", name := "may", desc := "(II)Z" } : Jvm.MethodName)) ∈ wAll := wT_4 148 rfl rfl
theorem wm_828 : (Jvm.Cond.instanceMethod ({ cls := "TrueArmsModel", name := "may", desc := "(II)Z" } : Jvm.MethodName)) ∈ wAll := wT_4 150 rfl rfl
theorem wm_829 : (Jvm.Cond.code ({ cls := "TrueArmsModel", name := "may", desc := "(II)Z" } : Jvm.MethodName) prog_10_method_49_code (3 : Nat) (Option.some Jvm.ClassFile.FieldType.boolean)) ∈ wAll := wT_4 151 rfl rfl
theorem wm_830 : (Jvm.Cond.methodLink "TrueArmsLaw" (116 : Nat) ({ cls := "TrueArmsModel", name := "near", desc := "(II)J" } : Jvm.MethodName)) ∈ wAll := wT_4 152 rfl rfl
theorem wm_831 : (Jvm.Cond.instanceMethod ({ cls := "TrueArmsModel", name := "near", desc := "(II)J" } : Jvm.MethodName)) ∈ wAll := wT_4 153 rfl rfl
theorem wm_832 : (Jvm.Cond.selects "TrueArmsModel" ({ cls := "TrueArmsModel", name := "near", desc := "(II)J" } : Jvm.MethodName) ({ cls := "TrueArmsModel", name := "near", desc := "(II)J" } : Jvm.MethodName)) ∈ wAll := wT_4 154 rfl rfl
theorem wm_833 : (Jvm.Cond.code ({ cls := "TrueArmsModel", name := "near", desc := "(II)J" } : Jvm.MethodName) prog_10_method_53_code (3 : Nat) (Option.some Jvm.ClassFile.FieldType.long)) ∈ wAll := wT_4 155 rfl rfl
theorem wm_834 : (Jvm.Cond.methodLink "TrueArmsLaw" (120 : Nat) ({ cls := "TrueArmsModel", name := "drift", desc := "(IIII)I" } : Jvm.MethodName)) ∈ wAll := wT_4 156 rfl rfl
theorem wm_835 : (Jvm.Cond.instanceMethod ({ cls := "TrueArmsModel", name := "drift", desc := "(IIII)I" } : Jvm.MethodName)) ∈ wAll := wT_4 157 rfl rfl
theorem wm_836 : (Jvm.Cond.selects "TrueArmsModel" ({ cls := "TrueArmsModel", name := "drift", desc := "(IIII)I" } : Jvm.MethodName) ({ cls := "TrueArmsModel", name := "drift", desc := "(IIII)I" } : Jvm.MethodName)) ∈ wAll := wT_4 158 rfl rfl
theorem wm_837 : (Jvm.Cond.code ({ cls := "TrueArmsModel", name := "drift", desc := "(IIII)I" } : Jvm.MethodName) prog_10_method_55_code (8 : Nat) (Option.some Jvm.ClassFile.FieldType.int)) ∈ wAll := wT_4 159 rfl rfl
theorem wm_838 : (Jvm.Cond.methodLink "TrueArmsModel" (217 : Nat) ({ cls := "TrueArmsModel", name := "isSheet", desc := "(I)Z" } : Jvm.MethodName)) ∈ wAll := wT_4 160 rfl rfl
theorem wm_839 : (Jvm.Cond.static ({ cls := "TrueArmsModel", name := "isSheet", desc := "(I)Z" } : Jvm.MethodName)) ∈ wAll := wT_4 161 rfl rfl
theorem wm_840 : (Jvm.Cond.code ({ cls := "TrueArmsModel", name := "isSheet", desc := "(I)Z" } : Jvm.MethodName) prog_10_method_57_code (1 : Nat) (Option.some Jvm.ClassFile.FieldType.boolean)) ∈ wAll := wT_4 162 rfl rfl
theorem wm_841 : (Jvm.Cond.constantLong "TrueArmsModel" (229 : Nat) (3 : Int64)) ∈ wAll := wT_4 163 rfl rfl
theorem wm_842 : (Jvm.Cond.methodLink "TrueArmsModel" (220 : Nat) ({ cls := "TrueArmsModel", name := "met", desc := "(I)I" } : Jvm.MethodName)) ∈ wAll := wT_4 164 rfl rfl
theorem wm_843 : (Jvm.Cond.instanceMethod ({ cls := "TrueArmsModel", name := "met", desc := "(I)I" } : Jvm.MethodName)) ∈ wAll := wT_4 166 rfl rfl
theorem wm_844 : (Jvm.Cond.code ({ cls := "TrueArmsModel", name := "met", desc := "(I)I" } : Jvm.MethodName) prog_10_method_56_code (2 : Nat) (Option.some Jvm.ClassFile.FieldType.int)) ∈ wAll := wT_4 167 rfl rfl
theorem wm_845 : (Jvm.Cond.methodLink "TrueArmsModel" (223 : Nat) ({ cls := "TrueArmsModel", name := "falseShare", desc := "(II)I" } : Jvm.MethodName)) ∈ wAll := wT_4 168 rfl rfl
theorem wm_846 : (Jvm.Cond.static ({ cls := "TrueArmsModel", name := "falseShare", desc := "(II)I" } : Jvm.MethodName)) ∈ wAll := wT_4 169 rfl rfl
theorem wm_847 : (Jvm.Cond.code ({ cls := "TrueArmsModel", name := "falseShare", desc := "(II)I" } : Jvm.MethodName) prog_10_method_54_code (13 : Nat) (Option.some Jvm.ClassFile.FieldType.int)) ∈ wAll := wT_4 170 rfl rfl
theorem wm_848 : (Jvm.Cond.constantLong "TrueArmsModel" (215 : Nat) (10 : Int64)) ∈ wAll := wT_4 171 rfl rfl
theorem wm_849 : (Jvm.Cond.methodLink "TrueArmsLaw" (124 : Nat) ({ cls := "TrueArmsModel", name := "sheet", desc := "(III)I" } : Jvm.MethodName)) ∈ wAll := wT_4 172 rfl rfl
theorem wm_850 : (Jvm.Cond.instanceMethod ({ cls := "TrueArmsModel", name := "sheet", desc := "(III)I" } : Jvm.MethodName)) ∈ wAll := wT_4 173 rfl rfl
theorem wm_851 : (Jvm.Cond.selects "TrueArmsModel" ({ cls := "TrueArmsModel", name := "sheet", desc := "(III)I" } : Jvm.MethodName) ({ cls := "TrueArmsModel", name := "sheet", desc := "(III)I" } : Jvm.MethodName)) ∈ wAll := wT_4 174 rfl rfl
theorem wm_852 : (Jvm.Cond.code ({ cls := "TrueArmsModel", name := "sheet", desc := "(III)I" } : Jvm.MethodName) prog_10_method_58_code (5 : Nat) (Option.some Jvm.ClassFile.FieldType.int)) ∈ wAll := wT_4 175 rfl rfl
theorem wm_853 : (Jvm.Cond.methodLink "TrueArmsLaw" (128 : Nat) ({ cls := "TrueArmsModel", name := "lose", desc := "(I)I" } : Jvm.MethodName)) ∈ wAll := wT_4 176 rfl rfl
theorem wm_854 : (Jvm.Cond.instanceMethod ({ cls := "TrueArmsModel", name := "lose", desc := "(I)I" } : Jvm.MethodName)) ∈ wAll := wT_4 177 rfl rfl
theorem wm_855 : (Jvm.Cond.selects "TrueArmsModel" ({ cls := "TrueArmsModel", name := "lose", desc := "(I)I" } : Jvm.MethodName) ({ cls := "TrueArmsModel", name := "lose", desc := "(I)I" } : Jvm.MethodName)) ∈ wAll := wT_4 178 rfl rfl
theorem wm_856 : (Jvm.Cond.code ({ cls := "TrueArmsModel", name := "lose", desc := "(I)I" } : Jvm.MethodName) prog_10_method_59_code (2 : Nat) (Option.some Jvm.ClassFile.FieldType.int)) ∈ wAll := wT_4 179 rfl rfl
theorem wm_857 : (Jvm.Cond.methodLink "TrueArmsLaw" (132 : Nat) ({ cls := "TrueArmsModel", name := "put", desc := "(IIII)I" } : Jvm.MethodName)) ∈ wAll := wT_4 180 rfl rfl
theorem wm_858 : (Jvm.Cond.instanceMethod ({ cls := "TrueArmsModel", name := "put", desc := "(IIII)I" } : Jvm.MethodName)) ∈ wAll := wT_4 181 rfl rfl
theorem wm_859 : (Jvm.Cond.selects "TrueArmsModel" ({ cls := "TrueArmsModel", name := "put", desc := "(IIII)I" } : Jvm.MethodName) ({ cls := "TrueArmsModel", name := "put", desc := "(IIII)I" } : Jvm.MethodName)) ∈ wAll := wT_4 182 rfl rfl
theorem wm_860 : (Jvm.Cond.code ({ cls := "TrueArmsModel", name := "put", desc := "(IIII)I" } : Jvm.MethodName) prog_10_method_61_code (6 : Nat) (Option.some Jvm.ClassFile.FieldType.int)) ∈ wAll := wT_4 183 rfl rfl
theorem wm_861 : (Jvm.Cond.methodLink "TrueArmsModel" (231 : Nat) ({ cls := "TrueArmsModel", name := "lacks", desc := "(III)I" } : Jvm.MethodName)) ∈ wAll := wT_4 184 rfl rfl
theorem wm_862 : (Jvm.Cond.instanceMethod ({ cls := "TrueArmsModel", name := "lacks", desc := "(III)I" } : Jvm.MethodName)) ∈ wAll := wT_4 186 rfl rfl
theorem wm_863 : (Jvm.Cond.code ({ cls := "TrueArmsModel", name := "lacks", desc := "(III)I" } : Jvm.MethodName) prog_10_method_60_code (4 : Nat) (Option.some Jvm.ClassFile.FieldType.int)) ∈ wAll := wT_4 187 rfl rfl
theorem wm_864 : (Jvm.Cond.methodLink "TrueArmsLaw" (136 : Nat) ({ cls := "TrueArmsModel", name := "get", desc := "(III)I" } : Jvm.MethodName)) ∈ wAll := wT_4 188 rfl rfl
theorem wm_865 : (Jvm.Cond.instanceMethod ({ cls := "TrueArmsModel", name := "get", desc := "(III)I" } : Jvm.MethodName)) ∈ wAll := wT_4 189 rfl rfl
theorem wm_866 : (Jvm.Cond.selects "TrueArmsModel" ({ cls := "TrueArmsModel", name := "get", desc := "(III)I" } : Jvm.MethodName) ({ cls := "TrueArmsModel", name := "get", desc := "(III)I" } : Jvm.MethodName)) ∈ wAll := wT_4 190 rfl rfl
theorem wm_867 : (Jvm.Cond.code ({ cls := "TrueArmsModel", name := "get", desc := "(III)I" } : Jvm.MethodName) prog_10_method_62_code (4 : Nat) (Option.some Jvm.ClassFile.FieldType.int)) ∈ wAll := wT_4 191 rfl rfl
theorem wm_868 : (Jvm.Cond.methodLink "TrueArmsLaw" (141 : Nat) ({ cls := "TrueArmsModel", name := "copy", desc := "(IIIII)I" } : Jvm.MethodName)) ∈ wAll := wT_4 192 rfl rfl
theorem wm_869 : (Jvm.Cond.instanceMethod ({ cls := "TrueArmsModel", name := "copy", desc := "(IIIII)I" } : Jvm.MethodName)) ∈ wAll := wT_4 193 rfl rfl
theorem wm_870 : (Jvm.Cond.selects "TrueArmsModel" ({ cls := "TrueArmsModel", name := "copy", desc := "(IIIII)I" } : Jvm.MethodName) ({ cls := "TrueArmsModel", name := "copy", desc := "(IIIII)I" } : Jvm.MethodName)) ∈ wAll := wT_4 194 rfl rfl
theorem wm_871 : (Jvm.Cond.code ({ cls := "TrueArmsModel", name := "copy", desc := "(IIIII)I" } : Jvm.MethodName) prog_10_method_63_code (7 : Nat) (Option.some Jvm.ClassFile.FieldType.int)) ∈ wAll := wT_4 195 rfl rfl
theorem wm_872 : (Jvm.Cond.methodLink "TrueArmsLaw" (145 : Nat) ({ cls := "TrueArmsModel", name := "count", desc := "(I)I" } : Jvm.MethodName)) ∈ wAll := wT_4 196 rfl rfl
theorem wm_873 : (Jvm.Cond.instanceMethod ({ cls := "TrueArmsModel", name := "count", desc := "(I)I" } : Jvm.MethodName)) ∈ wAll := wT_4 197 rfl rfl
theorem wm_874 : (Jvm.Cond.selects "TrueArmsModel" ({ cls := "TrueArmsModel", name := "count", desc := "(I)I" } : Jvm.MethodName) ({ cls := "TrueArmsModel", name := "count", desc := "(I)I" } : Jvm.MethodName)) ∈ wAll := wT_4 198 rfl rfl
theorem wm_875 : (Jvm.Cond.code ({ cls := "TrueArmsModel", name := "count", desc := "(I)I" } : Jvm.MethodName) prog_10_method_64_code (4 : Nat) (Option.some Jvm.ClassFile.FieldType.int)) ∈ wAll := wT_4 199 rfl rfl
theorem wm_876 : (Jvm.Cond.methodLink "TrueArmsLaw" (150 : Nat) ({ cls := "TrueArmsModel", name := "digest", desc := "()J" } : Jvm.MethodName)) ∈ wAll := wT_4 200 rfl rfl
theorem wm_877 : (Jvm.Cond.instanceMethod ({ cls := "TrueArmsModel", name := "digest", desc := "()J" } : Jvm.MethodName)) ∈ wAll := wT_4 201 rfl rfl
theorem wm_878 : (Jvm.Cond.selects "TrueArmsModel" ({ cls := "TrueArmsModel", name := "digest", desc := "()J" } : Jvm.MethodName) ({ cls := "TrueArmsModel", name := "digest", desc := "()J" } : Jvm.MethodName)) ∈ wAll := wT_4 202 rfl rfl
theorem wm_879 : (Jvm.Cond.code ({ cls := "TrueArmsModel", name := "digest", desc := "()J" } : Jvm.MethodName) prog_10_method_65_code (4 : Nat) (Option.some Jvm.ClassFile.FieldType.long)) ∈ wAll := wT_4 203 rfl rfl
theorem wm_880 : (Jvm.Cond.constantLong "TrueArmsModel" (234 : Nat) (17 : Int64)) ∈ wAll := wT_4 204 rfl rfl
theorem wm_881 : (Jvm.Cond.constantLong "TrueArmsModel" (236 : Nat) (31 : Int64)) ∈ wAll := wT_4 205 rfl rfl
theorem wm_882 : (Jvm.Cond.methodLink "TrueArmsModel" (238 : Nat) ({ cls := "TrueArmsModel", name := "count", desc := "(I)I" } : Jvm.MethodName)) ∈ wAll := wT_4 206 rfl rfl
theorem wm_883 : Cond.selects "TrueArms" ⟨"TrueArms", "isPosture", "(I)Z"⟩ ⟨"TrueArms", "isPosture", "(I)Z"⟩ ∈ wAll := wAll_of (List.mem_append_left _ (List.mem_of_getElem? (i := 0) rfl)) rfl
theorem wm_884 : Cond.selects "TrueArms" ⟨"TrueArms", "sumUsed", "()V"⟩ ⟨"TrueArms", "sumUsed", "()V"⟩ ∈ wAll := wAll_of (List.mem_append_left _ (List.mem_of_getElem? (i := 1) rfl)) rfl
theorem wm_885 : Cond.selects "TrueArms" ⟨"TrueArms", "listUsed", "()I"⟩ ⟨"TrueArms", "listUsed", "()I"⟩ ∈ wAll := wAll_of (List.mem_append_left _ (List.mem_of_getElem? (i := 2) rfl)) rfl
theorem wm_886 : Cond.selects "TrueArms" ⟨"TrueArms", "isMeasured", "(I)Z"⟩ ⟨"TrueArms", "isMeasured", "(I)Z"⟩ ∈ wAll := wAll_of (List.mem_append_left _ (List.mem_of_getElem? (i := 3) rfl)) rfl
theorem wm_887 : Cond.selects "TrueArms" ⟨"TrueArms", "measured", "(II)I"⟩ ⟨"TrueArms", "measured", "(II)I"⟩ ∈ wAll := wAll_of (List.mem_append_left _ (List.mem_of_getElem? (i := 4) rfl)) rfl
theorem wm_888 : Cond.selects "TrueArms$Sums" ⟨"TrueArms$Sums", "rankWithout", "(I)I"⟩ ⟨"TrueArms$Sums", "rankWithout", "(I)I"⟩ ∈ wAll := wAll_of (List.mem_append_left _ (List.mem_of_getElem? (i := 5) rfl)) rfl
theorem wm_889 : Cond.selects "TrueArms$Sums" ⟨"TrueArms$Sums", "determinantWithRight", "(I)J"⟩ ⟨"TrueArms$Sums", "determinantWithRight", "(I)J"⟩ ∈ wAll := wAll_of (List.mem_append_left _ (List.mem_of_getElem? (i := 6) rfl)) rfl
theorem wm_890 : Cond.selects "TrueArms" ⟨"TrueArms", "missOf", "(I)I"⟩ ⟨"TrueArms", "missOf", "(I)I"⟩ ∈ wAll := wAll_of (List.mem_append_left _ (List.mem_of_getElem? (i := 7) rfl)) rfl
theorem wm_891 : Cond.selects "TrueArms" ⟨"TrueArms", "choosableSets", "()I"⟩ ⟨"TrueArms", "choosableSets", "()I"⟩ ∈ wAll := wAll_of (List.mem_append_left _ (List.mem_of_getElem? (i := 8) rfl)) rfl
theorem wm_892 : Cond.selects "TrueArms" ⟨"TrueArms", "weightOf", "(I)J"⟩ ⟨"TrueArms", "weightOf", "(I)J"⟩ ∈ wAll := wAll_of (List.mem_append_left _ (List.mem_of_getElem? (i := 9) rfl)) rfl
theorem wm_893 : Cond.selects "TrueArms$Camera" ⟨"TrueArms$Camera", "isAnswer", "(I)Z"⟩ ⟨"TrueArms$Camera", "isAnswer", "(I)Z"⟩ ∈ wAll := wAll_of (List.mem_append_left _ (List.mem_of_getElem? (i := 10) rfl)) rfl
theorem wm_894 : Cond.selects "TrueArms$Going" ⟨"TrueArms$Going", "seekSecond", "(IIII)V"⟩ ⟨"TrueArms$Going", "seekSecond", "(IIII)V"⟩ ∈ wAll := wAll_of (List.mem_append_left _ (List.mem_of_getElem? (i := 11) rfl)) rfl
theorem wm_895 : Cond.selects "TrueArms$Going" ⟨"TrueArms$Going", "atLeastLeft", "(II)J"⟩ ⟨"TrueArms$Going", "atLeastLeft", "(II)J"⟩ ∈ wAll := wAll_of (List.mem_append_left _ (List.mem_of_getElem? (i := 12) rfl)) rfl
theorem wm_896 : Cond.selects "TrueArms$Going" ⟨"TrueArms$Going", "seekThird", "(IIII)V"⟩ ⟨"TrueArms$Going", "seekThird", "(IIII)V"⟩ ∈ wAll := wAll_of (List.mem_append_left _ (List.mem_of_getElem? (i := 13) rfl)) rfl
theorem wm_897 : Cond.selects "TrueArms" ⟨"TrueArms", "finding", "(I)I"⟩ ⟨"TrueArms", "finding", "(I)I"⟩ ∈ wAll := wAll_of (List.mem_append_left _ (List.mem_of_getElem? (i := 14) rfl)) rfl
theorem wm_898 : Cond.selects "TrueArms$Signs" ⟨"TrueArms$Signs", "rowsUpTo", "(I)J"⟩ ⟨"TrueArms$Signs", "rowsUpTo", "(I)J"⟩ ∈ wAll := wAll_of (List.mem_append_left _ (List.mem_of_getElem? (i := 15) rfl)) rfl
theorem wm_899 : Cond.selects "TrueArms" ⟨"TrueArms", "countLeftOut", "()I"⟩ ⟨"TrueArms", "countLeftOut", "()I"⟩ ∈ wAll := wAll_of (List.mem_append_left _ (List.mem_of_getElem? (i := 16) rfl)) rfl
theorem wm_900 : Cond.selects "TrueArms" ⟨"TrueArms", "countLost", "()I"⟩ ⟨"TrueArms", "countLost", "()I"⟩ ∈ wAll := wAll_of (List.mem_append_left _ (List.mem_of_getElem? (i := 17) rfl)) rfl
theorem wm_901 : Cond.selects "TrueArmsModel" ⟨"TrueArmsModel", "c", "(I)I"⟩ ⟨"TrueArmsModel", "c", "(I)I"⟩ ∈ wAll := wAll_of (List.mem_append_left _ (List.mem_of_getElem? (i := 18) rfl)) rfl
theorem wm_902 : Cond.selects "TrueArmsModel" ⟨"TrueArmsModel", "s", "(I)I"⟩ ⟨"TrueArmsModel", "s", "(I)I"⟩ ∈ wAll := wAll_of (List.mem_append_left _ (List.mem_of_getElem? (i := 19) rfl)) rfl
theorem wm_903 : Cond.selects "TrueArmsModel" ⟨"TrueArmsModel", "isPosture", "(I)Z"⟩ ⟨"TrueArmsModel", "isPosture", "(I)Z"⟩ ∈ wAll := wAll_of (List.mem_append_left _ (List.mem_of_getElem? (i := 20) rfl)) rfl
theorem wm_904 : Cond.selects "TrueArmsModel" ⟨"TrueArmsModel", "handOf", "(II)I"⟩ ⟨"TrueArmsModel", "handOf", "(II)I"⟩ ∈ wAll := wAll_of (List.mem_append_left _ (List.mem_of_getElem? (i := 21) rfl)) rfl
theorem wm_905 : Cond.selects "TrueArmsModel" ⟨"TrueArmsModel", "part", "(III)I"⟩ ⟨"TrueArmsModel", "part", "(III)I"⟩ ∈ wAll := wAll_of (List.mem_append_left _ (List.mem_of_getElem? (i := 22) rfl)) rfl
theorem wm_906 : Cond.selects "TrueArmsModel" ⟨"TrueArmsModel", "hasMeasure", "(I)Z"⟩ ⟨"TrueArmsModel", "hasMeasure", "(I)Z"⟩ ∈ wAll := wAll_of (List.mem_append_left _ (List.mem_of_getElem? (i := 23) rfl)) rfl
theorem wm_907 : Cond.selects "TrueArmsModel" ⟨"TrueArmsModel", "item", "(I)I"⟩ ⟨"TrueArmsModel", "item", "(I)I"⟩ ∈ wAll := wAll_of (List.mem_append_left _ (List.mem_of_getElem? (i := 24) rfl)) rfl
theorem wm_908 : Cond.selects "TrueArmsModel" ⟨"TrueArmsModel", "findUsed", "()V"⟩ ⟨"TrueArmsModel", "findUsed", "()V"⟩ ∈ wAll := wAll_of (List.mem_append_left _ (List.mem_of_getElem? (i := 25) rfl)) rfl
theorem wm_909 : Cond.selects "TrueArmsModel" ⟨"TrueArmsModel", "findTable", "()V"⟩ ⟨"TrueArmsModel", "findTable", "()V"⟩ ∈ wAll := wAll_of (List.mem_append_left _ (List.mem_of_getElem? (i := 26) rfl)) rfl
theorem wm_910 : Cond.selects "TrueArmsModel" ⟨"TrueArmsModel", "nothing", "()V"⟩ ⟨"TrueArmsModel", "nothing", "()V"⟩ ∈ wAll := wAll_of (List.mem_append_left _ (List.mem_of_getElem? (i := 27) rfl)) rfl
theorem wm_911 : Cond.selects "TrueArmsModel" ⟨"TrueArmsModel", "adds", "(I)V"⟩ ⟨"TrueArmsModel", "adds", "(I)V"⟩ ∈ wAll := wAll_of (List.mem_append_left _ (List.mem_of_getElem? (i := 28) rfl)) rfl
theorem wm_912 : Cond.selects "TrueArmsModel" ⟨"TrueArmsModel", "rankNow", "()I"⟩ ⟨"TrueArmsModel", "rankNow", "()I"⟩ ∈ wAll := wAll_of (List.mem_append_left _ (List.mem_of_getElem? (i := 29) rfl)) rfl
theorem wm_913 : Cond.selects "TrueArmsModel" ⟨"TrueArmsModel", "weightNow", "()J"⟩ ⟨"TrueArmsModel", "weightNow", "()J"⟩ ∈ wAll := wAll_of (List.mem_append_left _ (List.mem_of_getElem? (i := 30) rfl)) rfl
theorem wm_914 : Cond.selects "TrueArmsModel" ⟨"TrueArmsModel", "stands", "(II)Z"⟩ ⟨"TrueArmsModel", "stands", "(II)Z"⟩ ∈ wAll := wAll_of (List.mem_append_left _ (List.mem_of_getElem? (i := 31) rfl)) rfl
theorem wm_915 : Cond.selects "TrueArmsModel" ⟨"TrueArmsModel", "fitOf", "(I)J"⟩ ⟨"TrueArmsModel", "fitOf", "(I)J"⟩ ∈ wAll := wAll_of (List.mem_append_left _ (List.mem_of_getElem? (i := 32) rfl)) rfl
theorem wm_916 : Cond.selects "TrueArmsModel" ⟨"TrueArmsModel", "missOf", "(I)I"⟩ ⟨"TrueArmsModel", "missOf", "(I)I"⟩ ∈ wAll := wAll_of (List.mem_append_left _ (List.mem_of_getElem? (i := 33) rfl)) rfl
theorem wm_917 : Cond.selects "TrueArmsModel" ⟨"TrueArmsModel", "first10", "()I"⟩ ⟨"TrueArmsModel", "first10", "()I"⟩ ∈ wAll := wAll_of (List.mem_append_left _ (List.mem_of_getElem? (i := 34) rfl)) rfl
theorem wm_918 : Cond.selects "TrueArmsModel" ⟨"TrueArmsModel", "weightOf", "(I)J"⟩ ⟨"TrueArmsModel", "weightOf", "(I)J"⟩ ∈ wAll := wAll_of (List.mem_append_left _ (List.mem_of_getElem? (i := 35) rfl)) rfl
theorem wm_919 : Cond.selects "TrueArmsModel" ⟨"TrueArmsModel", "isAnswer", "(I)Z"⟩ ⟨"TrueArmsModel", "isAnswer", "(I)Z"⟩ ∈ wAll := wAll_of (List.mem_append_left _ (List.mem_of_getElem? (i := 36) rfl)) rfl
theorem wm_920 : Cond.selects "TrueArmsModel" ⟨"TrueArmsModel", "shift", "(III)I"⟩ ⟨"TrueArmsModel", "shift", "(III)I"⟩ ∈ wAll := wAll_of (List.mem_append_left _ (List.mem_of_getElem? (i := 37) rfl)) rfl
theorem wm_921 : Cond.selects "TrueArmsModel" ⟨"TrueArmsModel", "findNearest", "(II)V"⟩ ⟨"TrueArmsModel", "findNearest", "(II)V"⟩ ∈ wAll := wAll_of (List.mem_append_left _ (List.mem_of_getElem? (i := 38) rfl)) rfl
theorem wm_922 : Cond.selects "TrueArmsModel" ⟨"TrueArmsModel", "may", "(II)Z"⟩ ⟨"TrueArmsModel", "may", "(II)Z"⟩ ∈ wAll := wAll_of (List.mem_append_left _ (List.mem_of_getElem? (i := 39) rfl)) rfl
theorem wm_923 : Cond.selects "TrueArmsModel" ⟨"TrueArmsModel", "met", "(I)I"⟩ ⟨"TrueArmsModel", "met", "(I)I"⟩ ∈ wAll := wAll_of (List.mem_append_left _ (List.mem_of_getElem? (i := 40) rfl)) rfl
theorem wm_924 : Cond.selects "TrueArmsModel" ⟨"TrueArmsModel", "lacks", "(III)I"⟩ ⟨"TrueArmsModel", "lacks", "(III)I"⟩ ∈ wAll := wAll_of (List.mem_append_left _ (List.mem_of_getElem? (i := 41) rfl)) rfl
