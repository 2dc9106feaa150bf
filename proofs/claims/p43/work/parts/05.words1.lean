theorem u_se_JT_fillInStackTrace : (Jvm.Cond.selects "java/lang/Throwable" ({ cls := "java/lang/Throwable", name := "fillInStackTrace", desc := "(I)Ljava/lang/Throwable;" } : Jvm.MethodName) ({ cls := "java/lang/Throwable", name := "fillInStackTrace", desc := "(I)Ljava/lang/Throwable;" } : Jvm.MethodName)) ∈ uW := uW_of 0 (by decide +kernel) rfl
theorem u_se_X4_needFire : (Jvm.Cond.selects "KitchenSpits" ({ cls := "KitchenSpits", name := "needFire", desc := "(I)LKitchenSpits$Fire;" } : Jvm.MethodName) ({ cls := "KitchenSpits", name := "needFire", desc := "(I)LKitchenSpits$Fire;" } : Jvm.MethodName)) ∈ uW := uW_of 1 (by decide +kernel) rfl
theorem u_se_X4_needSpit : (Jvm.Cond.selects "KitchenSpits" ({ cls := "KitchenSpits", name := "needSpit", desc := "(I)LKitchenSpits$Spit;" } : Jvm.MethodName) ({ cls := "KitchenSpits", name := "needSpit", desc := "(I)LKitchenSpits$Spit;" } : Jvm.MethodName)) ∈ uW := uW_of 2 (by decide +kernel) rfl
theorem u_se_X4_needRoast : (Jvm.Cond.selects "KitchenSpits" ({ cls := "KitchenSpits", name := "needRoast", desc := "(I)LKitchenSpits$Roast;" } : Jvm.MethodName) ({ cls := "KitchenSpits", name := "needRoast", desc := "(I)LKitchenSpits$Roast;" } : Jvm.MethodName)) ∈ uW := uW_of 3 (by decide +kernel) rfl
theorem u_se_X4_needRoastOf : (Jvm.Cond.selects "KitchenSpits" ({ cls := "KitchenSpits", name := "needRoastOf", desc := "(LKitchenSpits$Spit;)LKitchenSpits$Roast;" } : Jvm.MethodName) ({ cls := "KitchenSpits", name := "needRoastOf", desc := "(LKitchenSpits$Spit;)LKitchenSpits$Roast;" } : Jvm.MethodName)) ∈ uW := uW_of 4 (by decide +kernel) rfl
theorem u_ini_L : (Jvm.Cond.initialized "KitchenSpitsLaw") ∈ uW := uW_of 5 (by decide +kernel) rfl
theorem u_ini_X4 : (Jvm.Cond.initialized "KitchenSpits") ∈ uW := uW_of 6 (by decide +kernel) rfl
theorem u_ini_X1 : (Jvm.Cond.initialized "KitchenSpits$Kitchen") ∈ uW := uW_of 7 (by decide +kernel) rfl
theorem u_ini_X0 : (Jvm.Cond.initialized "KitchenSpits$Fire") ∈ uW := uW_of 8 (by decide +kernel) rfl
theorem u_ini_X3 : (Jvm.Cond.initialized "KitchenSpits$Spit") ∈ uW := uW_of 9 (by decide +kernel) rfl
theorem u_ini_X2 : (Jvm.Cond.initialized "KitchenSpits$Roast") ∈ uW := uW_of 10 (by decide +kernel) rfl
theorem u_ini_X6 : (Jvm.Cond.initialized "KitchenSpitsLaw$Sim") ∈ uW := uW_of 11 (by decide +kernel) rfl
theorem u_ini_JT : (Jvm.Cond.initialized "java/lang/Throwable") ∈ uW := uW_of 12 (by decide +kernel) rfl
theorem u_ini_JE : (Jvm.Cond.initialized "java/lang/Exception") ∈ uW := uW_of 13 (by decide +kernel) rfl
theorem u_ini_JR : (Jvm.Cond.initialized "java/lang/RuntimeException") ∈ uW := uW_of 14 (by decide +kernel) rfl
theorem u_ini_JS : (Jvm.Cond.initialized "java/lang/IllegalStateException") ∈ uW := uW_of 15 (by decide +kernel) rfl
theorem u_ini_JI : (Jvm.Cond.initialized "java/lang/IndexOutOfBoundsException") ∈ uW := uW_of 16 (by decide +kernel) rfl
theorem u_ini_JA : (Jvm.Cond.initialized "java/lang/IllegalArgumentException") ∈ uW := uW_of 17 (by decide +kernel) rfl
theorem u_ini_JM : (Jvm.Cond.initialized "java/lang/Math") ∈ uW := uW_of 18 (by decide +kernel) rfl
theorem u_ini_X5 : (Jvm.Cond.initialized "KitchenSpitsLaw$Roast") ∈ uW := uW_of 19 (by decide +kernel) rfl
theorem u_cl_L_26 : (Jvm.Cond.classLink "KitchenSpitsLaw" (26 : Nat) "KitchenSpits") ∈ uW := uW_of 20 (by decide +kernel) rfl
theorem u_ins_X4 : (Jvm.Cond.instantiable "KitchenSpits" (2 : Nat)) ∈ uW := uW_of 21 (by decide +kernel) rfl
theorem u_ml_L_104 : (Jvm.Cond.methodLink "KitchenSpitsLaw" (104 : Nat) ({ cls := "KitchenSpits", name := "<init>", desc := "()V" } : Jvm.MethodName)) ∈ uW := uW_of 22 (by decide +kernel) rfl
theorem u_im_X4_init : (Jvm.Cond.instanceMethod ({ cls := "KitchenSpits", name := "<init>", desc := "()V" } : Jvm.MethodName)) ∈ uW := uW_of 23 (by decide +kernel) rfl
theorem u_co_X4_init : (Jvm.Cond.code ({ cls := "KitchenSpits", name := "<init>", desc := "()V" } : Jvm.MethodName) prog_1_method_1_code (1 : Nat) (Option.none : Option Jvm.ClassFile.FieldType)) ∈ uW := uW_of 24 (by decide +kernel) rfl
theorem u_ml_X4_1 : (Jvm.Cond.methodLink "KitchenSpits" (1 : Nat) ({ cls := "java/lang/Object", name := "<init>", desc := "()V" } : Jvm.MethodName)) ∈ uW := uW_of 25 (by decide +kernel) rfl
theorem u_im_JO_init : (Jvm.Cond.instanceMethod ({ cls := "java/lang/Object", name := "<init>", desc := "()V" } : Jvm.MethodName)) ∈ uW := uW_of 26 (by decide +kernel) rfl
theorem u_co_JO_init : (Jvm.Cond.code ({ cls := "java/lang/Object", name := "<init>", desc := "()V" } : Jvm.MethodName) object_method_1_code (1 : Nat) (Option.none : Option Jvm.ClassFile.FieldType)) ∈ uW := uW_of 27 (by decide +kernel) rfl
theorem u_cl_X4_7 : (Jvm.Cond.classLink "KitchenSpits" (7 : Nat) "KitchenSpits$Kitchen") ∈ uW := uW_of 28 (by decide +kernel) rfl
theorem u_ins_X1 : (Jvm.Cond.instantiable "KitchenSpits$Kitchen" (8 : Nat)) ∈ uW := uW_of 29 (by decide +kernel) rfl
theorem u_ml_X4_9 : (Jvm.Cond.methodLink "KitchenSpits" (9 : Nat) ({ cls := "KitchenSpits$Kitchen", name := "<init>", desc := "()V" } : Jvm.MethodName)) ∈ uW := uW_of 30 (by decide +kernel) rfl
theorem u_im_X1_init : (Jvm.Cond.instanceMethod ({ cls := "KitchenSpits$Kitchen", name := "<init>", desc := "()V" } : Jvm.MethodName)) ∈ uW := uW_of 31 (by decide +kernel) rfl
theorem u_co_X1_init : (Jvm.Cond.code ({ cls := "KitchenSpits$Kitchen", name := "<init>", desc := "()V" } : Jvm.MethodName) prog_3_method_1_code (2 : Nat) (Option.none : Option Jvm.ClassFile.FieldType)) ∈ uW := uW_of 32 (by decide +kernel) rfl
theorem u_ml_X1_3 : (Jvm.Cond.methodLink "KitchenSpits$Kitchen" (3 : Nat) ({ cls := "java/lang/Object", name := "<init>", desc := "()V" } : Jvm.MethodName)) ∈ uW := uW_of 33 (by decide +kernel) rfl
theorem u_cl_X1_9 : (Jvm.Cond.classLink "KitchenSpits$Kitchen" (9 : Nat) "KitchenSpits$Fire") ∈ uW := uW_of 34 (by decide +kernel) rfl
theorem u_cl_X1_17 : (Jvm.Cond.classLink "KitchenSpits$Kitchen" (17 : Nat) "KitchenSpits$Spit") ∈ uW := uW_of 36 (by decide +kernel) rfl
theorem u_cl_X1_23 : (Jvm.Cond.classLink "KitchenSpits$Kitchen" (23 : Nat) "KitchenSpits$Roast") ∈ uW := uW_of 38 (by decide +kernel) rfl
theorem u_ins_X0 : (Jvm.Cond.instantiable "KitchenSpits$Fire" (3 : Nat)) ∈ uW := uW_of 40 (by decide +kernel) rfl
theorem u_im_X0_init : (Jvm.Cond.instanceMethod ({ cls := "KitchenSpits$Fire", name := "<init>", desc := "()V" } : Jvm.MethodName)) ∈ uW := uW_of 42 (by decide +kernel) rfl
theorem u_co_X0_init : (Jvm.Cond.code ({ cls := "KitchenSpits$Fire", name := "<init>", desc := "()V" } : Jvm.MethodName) prog_2_method_1_code (1 : Nat) (Option.none : Option Jvm.ClassFile.FieldType)) ∈ uW := uW_of 43 (by decide +kernel) rfl
theorem u_ml_X0_3 : (Jvm.Cond.methodLink "KitchenSpits$Fire" (3 : Nat) ({ cls := "java/lang/Object", name := "<init>", desc := "()V" } : Jvm.MethodName)) ∈ uW := uW_of 44 (by decide +kernel) rfl
theorem u_fl_X0_9 : (Jvm.Cond.fieldLink "KitchenSpits$Fire" (9 : Nat) "KitchenSpits$Fire" "logs" "I") ∈ uW := uW_of 45 (by decide +kernel) rfl
theorem u_fl_X4_39 : (Jvm.Cond.fieldLink "KitchenSpits" (39 : Nat) "KitchenSpits$Fire" "logs" "I") ∈ uW := uW_of 46 (by decide +kernel) rfl
theorem u_fl_X0_15 : (Jvm.Cond.fieldLink "KitchenSpits$Fire" (15 : Nat) "KitchenSpits$Fire" "heat" "I") ∈ uW := uW_of 47 (by decide +kernel) rfl
theorem u_fl_X1_87 : (Jvm.Cond.fieldLink "KitchenSpits$Kitchen" (87 : Nat) "KitchenSpits$Fire" "heat" "I") ∈ uW := uW_of 48 (by decide +kernel) rfl
theorem u_fl_X4_128 : (Jvm.Cond.fieldLink "KitchenSpits" (128 : Nat) "KitchenSpits$Fire" "heat" "I") ∈ uW := uW_of 49 (by decide +kernel) rfl
theorem u_fl_X0_18 : (Jvm.Cond.fieldLink "KitchenSpits$Fire" (18 : Nat) "KitchenSpits$Fire" "flares" "I") ∈ uW := uW_of 50 (by decide +kernel) rfl
theorem u_fl_X1_122 : (Jvm.Cond.fieldLink "KitchenSpits$Kitchen" (122 : Nat) "KitchenSpits$Fire" "flares" "I") ∈ uW := uW_of 51 (by decide +kernel) rfl
theorem u_ins_X3 : (Jvm.Cond.instantiable "KitchenSpits$Spit" (6 : Nat)) ∈ uW := uW_of 59 (by decide +kernel) rfl
theorem u_im_X3_init : (Jvm.Cond.instanceMethod ({ cls := "KitchenSpits$Spit", name := "<init>", desc := "()V" } : Jvm.MethodName)) ∈ uW := uW_of 61 (by decide +kernel) rfl
theorem u_co_X3_init : (Jvm.Cond.code ({ cls := "KitchenSpits$Spit", name := "<init>", desc := "()V" } : Jvm.MethodName) prog_5_method_1_code (1 : Nat) (Option.none : Option Jvm.ClassFile.FieldType)) ∈ uW := uW_of 62 (by decide +kernel) rfl
theorem u_ml_X3_3 : (Jvm.Cond.methodLink "KitchenSpits$Spit" (3 : Nat) ({ cls := "java/lang/Object", name := "<init>", desc := "()V" } : Jvm.MethodName)) ∈ uW := uW_of 63 (by decide +kernel) rfl
theorem u_fl_X1_58 : (Jvm.Cond.fieldLink "KitchenSpits$Kitchen" (58 : Nat) "KitchenSpits$Spit" "fire" "I") ∈ uW := uW_of 64 (by decide +kernel) rfl
theorem u_fl_X4_134 : (Jvm.Cond.fieldLink "KitchenSpits" (134 : Nat) "KitchenSpits$Spit" "fire" "I") ∈ uW := uW_of 65 (by decide +kernel) rfl
theorem u_fl_X4_64 : (Jvm.Cond.fieldLink "KitchenSpits" (64 : Nat) "KitchenSpits$Spit" "feet" "I") ∈ uW := uW_of 66 (by decide +kernel) rfl
theorem u_fl_X1_61 : (Jvm.Cond.fieldLink "KitchenSpits$Kitchen" (61 : Nat) "KitchenSpits$Spit" "feet" "I") ∈ uW := uW_of 67 (by decide +kernel) rfl
theorem u_fl_X3_21 : (Jvm.Cond.fieldLink "KitchenSpits$Spit" (21 : Nat) "KitchenSpits$Spit" "each" "I") ∈ uW := uW_of 68 (by decide +kernel) rfl
theorem u_fl_X4_71 : (Jvm.Cond.fieldLink "KitchenSpits" (71 : Nat) "KitchenSpits$Spit" "each" "I") ∈ uW := uW_of 69 (by decide +kernel) rfl
theorem u_fl_X3_24 : (Jvm.Cond.fieldLink "KitchenSpits$Spit" (24 : Nat) "KitchenSpits$Spit" "count" "I") ∈ uW := uW_of 70 (by decide +kernel) rfl
theorem u_fl_X1_80 : (Jvm.Cond.fieldLink "KitchenSpits$Kitchen" (80 : Nat) "KitchenSpits$Spit" "count" "I") ∈ uW := uW_of 71 (by decide +kernel) rfl
theorem u_fl_X3_27 : (Jvm.Cond.fieldLink "KitchenSpits$Spit" (27 : Nat) "KitchenSpits$Spit" "drippings" "I") ∈ uW := uW_of 72 (by decide +kernel) rfl
theorem u_fl_X4_102 : (Jvm.Cond.fieldLink "KitchenSpits" (102 : Nat) "KitchenSpits$Spit" "drippings" "I") ∈ uW := uW_of 73 (by decide +kernel) rfl
theorem u_fl_X3_9 : (Jvm.Cond.fieldLink "KitchenSpits$Spit" (9 : Nat) "KitchenSpits$Spit" "roast" "I") ∈ uW := uW_of 74 (by decide +kernel) rfl
theorem u_fl_X1_68 : (Jvm.Cond.fieldLink "KitchenSpits$Kitchen" (68 : Nat) "KitchenSpits$Spit" "roast" "I") ∈ uW := uW_of 75 (by decide +kernel) rfl
theorem u_fl_X4_110 : (Jvm.Cond.fieldLink "KitchenSpits" (110 : Nat) "KitchenSpits$Spit" "roast" "I") ∈ uW := uW_of 76 (by decide +kernel) rfl
theorem u_ins_X2 : (Jvm.Cond.instantiable "KitchenSpits$Roast" (6 : Nat)) ∈ uW := uW_of 90 (by decide +kernel) rfl
theorem u_im_X2_init : (Jvm.Cond.instanceMethod ({ cls := "KitchenSpits$Roast", name := "<init>", desc := "()V" } : Jvm.MethodName)) ∈ uW := uW_of 92 (by decide +kernel) rfl
theorem u_co_X2_init : (Jvm.Cond.code ({ cls := "KitchenSpits$Roast", name := "<init>", desc := "()V" } : Jvm.MethodName) prog_4_method_1_code (1 : Nat) (Option.none : Option Jvm.ClassFile.FieldType)) ∈ uW := uW_of 93 (by decide +kernel) rfl
theorem u_ml_X2_3 : (Jvm.Cond.methodLink "KitchenSpits$Roast" (3 : Nat) ({ cls := "java/lang/Object", name := "<init>", desc := "()V" } : Jvm.MethodName)) ∈ uW := uW_of 94 (by decide +kernel) rfl
theorem u_fl_X2_9 : (Jvm.Cond.fieldLink "KitchenSpits$Roast" (9 : Nat) "KitchenSpits$Roast" "brown" "[I") ∈ uW := uW_of 95 (by decide +kernel) rfl
theorem u_fl_X1_134 : (Jvm.Cond.fieldLink "KitchenSpits$Kitchen" (134 : Nat) "KitchenSpits$Roast" "brown" "[I") ∈ uW := uW_of 96 (by decide +kernel) rfl
theorem u_fl_X4_151 : (Jvm.Cond.fieldLink "KitchenSpits" (151 : Nat) "KitchenSpits$Roast" "brown" "[I") ∈ uW := uW_of 97 (by decide +kernel) rfl
theorem u_fl_X2_19 : (Jvm.Cond.fieldLink "KitchenSpits$Roast" (19 : Nat) "KitchenSpits$Roast" "pounds" "I") ∈ uW := uW_of 98 (by decide +kernel) rfl
theorem u_fl_X1_71 : (Jvm.Cond.fieldLink "KitchenSpits$Kitchen" (71 : Nat) "KitchenSpits$Roast" "pounds" "I") ∈ uW := uW_of 99 (by decide +kernel) rfl
theorem u_fl_X4_148 : (Jvm.Cond.fieldLink "KitchenSpits" (148 : Nat) "KitchenSpits$Roast" "pounds" "I") ∈ uW := uW_of 100 (by decide +kernel) rfl
theorem u_fl_X2_15 : (Jvm.Cond.fieldLink "KitchenSpits$Roast" (15 : Nat) "KitchenSpits$Roast" "spit" "I") ∈ uW := uW_of 101 (by decide +kernel) rfl
theorem u_fl_X1_77 : (Jvm.Cond.fieldLink "KitchenSpits$Kitchen" (77 : Nat) "KitchenSpits$Roast" "spit" "I") ∈ uW := uW_of 102 (by decide +kernel) rfl
theorem u_fl_X4_113 : (Jvm.Cond.fieldLink "KitchenSpits" (113 : Nat) "KitchenSpits$Roast" "spit" "I") ∈ uW := uW_of 103 (by decide +kernel) rfl
theorem u_fl_X2_22 : (Jvm.Cond.fieldLink "KitchenSpits$Roast" (22 : Nat) "KitchenSpits$Roast" "side" "I") ∈ uW := uW_of 104 (by decide +kernel) rfl
theorem u_fl_X4_99 : (Jvm.Cond.fieldLink "KitchenSpits" (99 : Nat) "KitchenSpits$Roast" "side" "I") ∈ uW := uW_of 105 (by decide +kernel) rfl
theorem u_fl_X2_25 : (Jvm.Cond.fieldLink "KitchenSpits$Roast" (25 : Nat) "KitchenSpits$Roast" "fat" "I") ∈ uW := uW_of 106 (by decide +kernel) rfl
theorem u_fl_X1_74 : (Jvm.Cond.fieldLink "KitchenSpits$Kitchen" (74 : Nat) "KitchenSpits$Roast" "fat" "I") ∈ uW := uW_of 107 (by decide +kernel) rfl
theorem u_fl_X4_160 : (Jvm.Cond.fieldLink "KitchenSpits" (160 : Nat) "KitchenSpits$Roast" "fat" "I") ∈ uW := uW_of 108 (by decide +kernel) rfl
theorem u_fl_X2_28 : (Jvm.Cond.fieldLink "KitchenSpits$Roast" (28 : Nat) "KitchenSpits$Roast" "wet" "I") ∈ uW := uW_of 109 (by decide +kernel) rfl
theorem u_fl_X4_107 : (Jvm.Cond.fieldLink "KitchenSpits" (107 : Nat) "KitchenSpits$Roast" "wet" "I") ∈ uW := uW_of 110 (by decide +kernel) rfl
theorem u_ac_int : (Jvm.Cond.arrayClass Jvm.ClassFile.FieldType.int) ∈ uW := uW_of 124 (by decide +kernel) rfl
theorem u_fl_X1_11 : (Jvm.Cond.fieldLink "KitchenSpits$Kitchen" (11 : Nat) "KitchenSpits$Kitchen" "fires" "[LKitchenSpits$Fire;") ∈ uW := uW_of 125 (by decide +kernel) rfl
theorem u_fl_X1_19 : (Jvm.Cond.fieldLink "KitchenSpits$Kitchen" (19 : Nat) "KitchenSpits$Kitchen" "spits" "[LKitchenSpits$Spit;") ∈ uW := uW_of 126 (by decide +kernel) rfl
theorem u_fl_X1_25 : (Jvm.Cond.fieldLink "KitchenSpits$Kitchen" (25 : Nat) "KitchenSpits$Kitchen" "roasts" "[LKitchenSpits$Roast;") ∈ uW := uW_of 127 (by decide +kernel) rfl
theorem u_fl_X1_46 : (Jvm.Cond.fieldLink "KitchenSpits$Kitchen" (46 : Nat) "KitchenSpits$Kitchen" "fireCount" "I") ∈ uW := uW_of 128 (by decide +kernel) rfl
theorem u_fl_X4_125 : (Jvm.Cond.fieldLink "KitchenSpits" (125 : Nat) "KitchenSpits$Kitchen" "fireCount" "I") ∈ uW := uW_of 129 (by decide +kernel) rfl
theorem u_fl_X1_49 : (Jvm.Cond.fieldLink "KitchenSpits$Kitchen" (49 : Nat) "KitchenSpits$Kitchen" "spitCount" "I") ∈ uW := uW_of 130 (by decide +kernel) rfl
theorem u_fl_X4_131 : (Jvm.Cond.fieldLink "KitchenSpits" (131 : Nat) "KitchenSpits$Kitchen" "spitCount" "I") ∈ uW := uW_of 131 (by decide +kernel) rfl
theorem u_fl_X1_52 : (Jvm.Cond.fieldLink "KitchenSpits$Kitchen" (52 : Nat) "KitchenSpits$Kitchen" "roastCount" "I") ∈ uW := uW_of 132 (by decide +kernel) rfl
theorem u_fl_X4_141 : (Jvm.Cond.fieldLink "KitchenSpits" (141 : Nat) "KitchenSpits$Kitchen" "roastCount" "I") ∈ uW := uW_of 133 (by decide +kernel) rfl
theorem u_fl_X1_55 : (Jvm.Cond.fieldLink "KitchenSpits$Kitchen" (55 : Nat) "KitchenSpits$Kitchen" "minute" "I") ∈ uW := uW_of 134 (by decide +kernel) rfl
theorem u_fl_X4_122 : (Jvm.Cond.fieldLink "KitchenSpits" (122 : Nat) "KitchenSpits$Kitchen" "minute" "I") ∈ uW := uW_of 135 (by decide +kernel) rfl
theorem u_fl_X1_29 : (Jvm.Cond.fieldLink "KitchenSpits$Kitchen" (29 : Nat) "KitchenSpits$Kitchen" "feast" "I") ∈ uW := uW_of 136 (by decide +kernel) rfl
theorem u_fl_X4_79 : (Jvm.Cond.fieldLink "KitchenSpits" (79 : Nat) "KitchenSpits$Kitchen" "feast" "I") ∈ uW := uW_of 137 (by decide +kernel) rfl
theorem u_fl_X4_10 : (Jvm.Cond.fieldLink "KitchenSpits" (10 : Nat) "KitchenSpits" "now" "LKitchenSpits$Kitchen;") ∈ uW := uW_of 155 (by decide +kernel) rfl
theorem u_fl_X4_16 : (Jvm.Cond.fieldLink "KitchenSpits" (16 : Nat) "KitchenSpits" "ahead" "LKitchenSpits$Kitchen;") ∈ uW := uW_of 156 (by decide +kernel) rfl
theorem u_ml_L_93 : (Jvm.Cond.methodLink "KitchenSpitsLaw" (93 : Nat) ({ cls := "KitchenSpits", name := "pass", desc := "(I)I" } : Jvm.MethodName)) ∈ uW := uW_of 162 (by decide +kernel) rfl
theorem u_im_X4_pass : (Jvm.Cond.instanceMethod ({ cls := "KitchenSpits", name := "pass", desc := "(I)I" } : Jvm.MethodName)) ∈ uW := uW_of 163 (by decide +kernel) rfl
theorem u_se_X4_pass : (Jvm.Cond.selects "KitchenSpits" ({ cls := "KitchenSpits", name := "pass", desc := "(I)I" } : Jvm.MethodName) ({ cls := "KitchenSpits", name := "pass", desc := "(I)I" } : Jvm.MethodName)) ∈ uW := uW_of 164 (by decide +kernel) rfl
theorem u_co_X4_pass : (Jvm.Cond.code ({ cls := "KitchenSpits", name := "pass", desc := "(I)I" } : Jvm.MethodName) prog_1_method_13_code (2 : Nat) (Option.some Jvm.ClassFile.FieldType.int)) ∈ uW := uW_of 165 (by decide +kernel) rfl
theorem u_cl_X4_34 : (Jvm.Cond.classLink "KitchenSpits" (34 : Nat) "java/lang/IllegalArgumentException") ∈ uW := uW_of 166 (by decide +kernel) rfl
theorem u_ins_JA : (Jvm.Cond.instantiable "java/lang/IllegalArgumentException" (6 : Nat)) ∈ uW := uW_of 167 (by decide +kernel) rfl
theorem u_se_JA_fillInStackTrace : (Jvm.Cond.selects "java/lang/IllegalArgumentException" ({ cls := "java/lang/Throwable", name := "fillInStackTrace", desc := "(I)Ljava/lang/Throwable;" } : Jvm.MethodName) ({ cls := "java/lang/Throwable", name := "fillInStackTrace", desc := "(I)Ljava/lang/Throwable;" } : Jvm.MethodName)) ∈ uW := uW_of 175 (by decide +kernel) rfl
theorem u_se_JA_fillInStackTrace_176 : (Jvm.Cond.selects "java/lang/IllegalArgumentException" ({ cls := "java/lang/Throwable", name := "fillInStackTrace", desc := "()Ljava/lang/Throwable;" } : Jvm.MethodName) ({ cls := "java/lang/Throwable", name := "fillInStackTrace", desc := "()Ljava/lang/Throwable;" } : Jvm.MethodName)) ∈ uW := uW_of 176 (by decide +kernel) rfl
theorem u_fl_JT_198 : (Jvm.Cond.fieldLink "java/lang/Throwable" (198 : Nat) "java/lang/Throwable" "backtrace" "Ljava/lang/Object;") ∈ uW := uW_of 187 (by decide +kernel) rfl
theorem u_im_JT_init : (Jvm.Cond.instanceMethod ({ cls := "java/lang/Throwable", name := "<init>", desc := "()V" } : Jvm.MethodName)) ∈ uW := uW_of 189 (by decide +kernel) rfl
theorem u_co_JT_init : (Jvm.Cond.code ({ cls := "java/lang/Throwable", name := "<init>", desc := "()V" } : Jvm.MethodName) prog_17_method_1_code (1 : Nat) (Option.none : Option Jvm.ClassFile.FieldType)) ∈ uW := uW_of 190 (by decide +kernel) rfl
theorem u_ml_JT_1 : (Jvm.Cond.methodLink "java/lang/Throwable" (1 : Nat) ({ cls := "java/lang/Object", name := "<init>", desc := "()V" } : Jvm.MethodName)) ∈ uW := uW_of 191 (by decide +kernel) rfl
theorem u_fl_JT_13 : (Jvm.Cond.fieldLink "java/lang/Throwable" (13 : Nat) "java/lang/Throwable" "UNASSIGNED_STACK" "[Ljava/lang/StackTraceElement;") ∈ uW := uW_of 192 (by decide +kernel) rfl
theorem u_fl_JT_20 : (Jvm.Cond.fieldLink "java/lang/Throwable" (20 : Nat) "java/lang/Throwable" "SUPPRESSED_SENTINEL" "Ljava/util/List;") ∈ uW := uW_of 194 (by decide +kernel) rfl
theorem u_ml_JT_27 : (Jvm.Cond.methodLink "java/lang/Throwable" (27 : Nat) ({ cls := "java/lang/Throwable", name := "fillInStackTrace", desc := "()Ljava/lang/Throwable;" } : Jvm.MethodName)) ∈ uW := uW_of 196 (by decide +kernel) rfl
theorem u_im_JT_fillInStackTrace : (Jvm.Cond.instanceMethod ({ cls := "java/lang/Throwable", name := "fillInStackTrace", desc := "()Ljava/lang/Throwable;" } : Jvm.MethodName)) ∈ uW := uW_of 197 (by decide +kernel) rfl
theorem u_se_JS_fillInStackTrace : (Jvm.Cond.selects "java/lang/IllegalStateException" ({ cls := "java/lang/Throwable", name := "fillInStackTrace", desc := "()Ljava/lang/Throwable;" } : Jvm.MethodName) ({ cls := "java/lang/Throwable", name := "fillInStackTrace", desc := "()Ljava/lang/Throwable;" } : Jvm.MethodName)) ∈ uW := uW_of 199 (by decide +kernel) rfl
theorem u_se_JI_fillInStackTrace : (Jvm.Cond.selects "java/lang/IndexOutOfBoundsException" ({ cls := "java/lang/Throwable", name := "fillInStackTrace", desc := "()Ljava/lang/Throwable;" } : Jvm.MethodName) ({ cls := "java/lang/Throwable", name := "fillInStackTrace", desc := "()Ljava/lang/Throwable;" } : Jvm.MethodName)) ∈ uW := uW_of 200 (by decide +kernel) rfl
theorem u_ml_JT_202 : (Jvm.Cond.methodLink "java/lang/Throwable" (202 : Nat) ({ cls := "java/lang/Throwable", name := "fillInStackTrace", desc := "(I)Ljava/lang/Throwable;" } : Jvm.MethodName)) ∈ uW := uW_of 202 (by decide +kernel) rfl
theorem u_im_JT_fillInStackTrace_204 : (Jvm.Cond.instanceMethod ({ cls := "java/lang/Throwable", name := "fillInStackTrace", desc := "(I)Ljava/lang/Throwable;" } : Jvm.MethodName)) ∈ uW := uW_of 204 (by decide +kernel) rfl
theorem u_ins_JT : (Jvm.Cond.instantiable "java/lang/Throwable" (6 : Nat)) ∈ uW := uW_of 205 (by decide +kernel) rfl
theorem u_na_JT_fillInStackTrace : (Jvm.Cond.native ({ cls := "java/lang/Throwable", name := "fillInStackTrace", desc := "(I)Ljava/lang/Throwable;" } : Jvm.MethodName)) ∈ uW := uW_of 206 (by decide +kernel) rfl
theorem u_ml_X4_38 : (Jvm.Cond.methodLink "KitchenSpits" (38 : Nat) ({ cls := "java/lang/IllegalArgumentException", name := "<init>", desc := "(Ljava/lang/String;)V" } : Jvm.MethodName)) ∈ uW := uW_of 208 (by decide +kernel) rfl
theorem u_im_JA_init : (Jvm.Cond.instanceMethod ({ cls := "java/lang/IllegalArgumentException", name := "<init>", desc := "(Ljava/lang/String;)V" } : Jvm.MethodName)) ∈ uW := uW_of 209 (by decide +kernel) rfl
theorem u_co_JA_init : (Jvm.Cond.code ({ cls := "java/lang/IllegalArgumentException", name := "<init>", desc := "(Ljava/lang/String;)V" } : Jvm.MethodName) prog_11_method_2_code (2 : Nat) (Option.none : Option Jvm.ClassFile.FieldType)) ∈ uW := uW_of 210 (by decide +kernel) rfl
theorem u_ml_JA_7 : (Jvm.Cond.methodLink "java/lang/IllegalArgumentException" (7 : Nat) ({ cls := "java/lang/RuntimeException", name := "<init>", desc := "(Ljava/lang/String;)V" } : Jvm.MethodName)) ∈ uW := uW_of 211 (by decide +kernel) rfl
theorem u_im_JR_init : (Jvm.Cond.instanceMethod ({ cls := "java/lang/RuntimeException", name := "<init>", desc := "(Ljava/lang/String;)V" } : Jvm.MethodName)) ∈ uW := uW_of 212 (by decide +kernel) rfl
theorem u_co_JR_init : (Jvm.Cond.code ({ cls := "java/lang/RuntimeException", name := "<init>", desc := "(Ljava/lang/String;)V" } : Jvm.MethodName) prog_15_method_2_code (2 : Nat) (Option.none : Option Jvm.ClassFile.FieldType)) ∈ uW := uW_of 213 (by decide +kernel) rfl
