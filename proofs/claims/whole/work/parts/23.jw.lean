/-! words of the statement of the JDK's lists, by their places (written by gen23.py) -/
set_option maxRecDepth 100000 in
theorem p_0 : Cond.selects "java/util/ArrayList" ⟨"java/util/ArrayList", "add", "(Ljava/lang/Object;[Ljava/lang/Object;I)V"⟩ ⟨"java/util/ArrayList", "add", "(Ljava/lang/Object;[Ljava/lang/Object;I)V"⟩ ∈ WS := ws_of (i := 0) (by decide +kernel) rfl
set_option maxRecDepth 100000 in
theorem p_1 : Cond.selects "java/util/ArrayList" ⟨"java/util/ArrayList", "grow", "()[Ljava/lang/Object;"⟩ ⟨"java/util/ArrayList", "grow", "()[Ljava/lang/Object;"⟩ ∈ WS := ws_of (i := 1) (by decide +kernel) rfl
set_option maxRecDepth 100000 in
theorem p_2 : Cond.selects "java/util/ArrayList" ⟨"java/util/ArrayList", "grow", "(I)[Ljava/lang/Object;"⟩ ⟨"java/util/ArrayList", "grow", "(I)[Ljava/lang/Object;"⟩ ∈ WS := ws_of (i := 2) (by decide +kernel) rfl
set_option maxRecDepth 100000 in
theorem p_21 : Cond.selects "java/util/ArrayList" ⟨"java/util/ArrayList", "fastRemove", "([Ljava/lang/Object;I)V"⟩ ⟨"java/util/ArrayList", "fastRemove", "([Ljava/lang/Object;I)V"⟩ ∈ WS := ws_of (i := 21) (by decide +kernel) rfl
set_option maxRecDepth 100000 in
theorem p_24 : Cond.selects "java/util/ArrayList" ⟨"java/util/ArrayList", "rangeCheckForAdd", "(I)V"⟩ ⟨"java/util/ArrayList", "rangeCheckForAdd", "(I)V"⟩ ∈ WS := ws_of (i := 24) (by decide +kernel) rfl
set_option maxRecDepth 100000 in
theorem q_2 : (Jvm.Cond.initialized "java/util/AbstractCollection") ∈ WS := ws_of (i := 63) (by decide +kernel) rfl
set_option maxRecDepth 100000 in
theorem q_3 : (Jvm.Cond.initialized "java/util/AbstractList") ∈ WS := ws_of (i := 64) (by decide +kernel) rfl
set_option maxRecDepth 100000 in
theorem q_4 : (Jvm.Cond.initialized "java/util/ArrayList") ∈ WS := ws_of (i := 65) (by decide +kernel) rfl
set_option maxRecDepth 100000 in
theorem q_7 : (Jvm.Cond.initialized "jdk/internal/util/ArraysSupport") ∈ WS := ws_of (i := 68) (by decide +kernel) rfl
set_option maxRecDepth 100000 in
theorem q_8 : (Jvm.Cond.initialized "java/lang/Math") ∈ WS := ws_of (i := 69) (by decide +kernel) rfl
set_option maxRecDepth 100000 in
theorem q_9 : (Jvm.Cond.initialized "java/util/Arrays") ∈ WS := ws_of (i := 70) (by decide +kernel) rfl
set_option maxRecDepth 100000 in
theorem q_10 : (Jvm.Cond.initialized "java/lang/System") ∈ WS := ws_of (i := 71) (by decide +kernel) rfl
set_option maxRecDepth 100000 in
theorem q_16 : (Jvm.Cond.initialized "java/util/Objects") ∈ WS := ws_of (i := 77) (by decide +kernel) rfl
set_option maxRecDepth 100000 in
theorem q_17 : (Jvm.Cond.initialized "jdk/internal/util/Preconditions") ∈ WS := ws_of (i := 78) (by decide +kernel) rfl
set_option maxRecDepth 100000 in
theorem q_43 : (Jvm.Cond.instanceMethod ({ cls := "java/lang/Object", name := "<init>", desc := "()V" } : Jvm.MethodName)) ∈ WS := ws_of (i := 104) (by decide +kernel) rfl
set_option maxRecDepth 100000 in
theorem q_44 : (Jvm.Cond.code ({ cls := "java/lang/Object", name := "<init>", desc := "()V" } : Jvm.MethodName) object_method_1_code (1 : Nat) (Option.none : Option Jvm.ClassFile.FieldType)) ∈ WS := ws_of (i := 105) (by decide +kernel) rfl
set_option maxRecDepth 100000 in
theorem q_48 : (Jvm.Cond.instanceMethod ({ cls := "java/util/ArrayList", name := "<init>", desc := "()V" } : Jvm.MethodName)) ∈ WS := ws_of (i := 109) (by decide +kernel) rfl
set_option maxRecDepth 100000 in
theorem q_49 : (Jvm.Cond.code ({ cls := "java/util/ArrayList", name := "<init>", desc := "()V" } : Jvm.MethodName) prog_40_method_2_code (1 : Nat) (Option.none : Option Jvm.ClassFile.FieldType)) ∈ WS := ws_of (i := 110) (by decide +kernel) rfl
set_option maxRecDepth 100000 in
theorem q_50 : (Jvm.Cond.methodLink "java/util/ArrayList" (1 : Nat) ({ cls := "java/util/AbstractList", name := "<init>", desc := "()V" } : Jvm.MethodName)) ∈ WS := ws_of (i := 111) (by decide +kernel) rfl
set_option maxRecDepth 100000 in
theorem q_51 : (Jvm.Cond.instanceMethod ({ cls := "java/util/AbstractList", name := "<init>", desc := "()V" } : Jvm.MethodName)) ∈ WS := ws_of (i := 112) (by decide +kernel) rfl
set_option maxRecDepth 100000 in
theorem q_52 : (Jvm.Cond.code ({ cls := "java/util/AbstractList", name := "<init>", desc := "()V" } : Jvm.MethodName) prog_39_method_1_code (1 : Nat) (Option.none : Option Jvm.ClassFile.FieldType)) ∈ WS := ws_of (i := 113) (by decide +kernel) rfl
set_option maxRecDepth 100000 in
theorem q_53 : (Jvm.Cond.methodLink "java/util/AbstractList" (1 : Nat) ({ cls := "java/util/AbstractCollection", name := "<init>", desc := "()V" } : Jvm.MethodName)) ∈ WS := ws_of (i := 114) (by decide +kernel) rfl
set_option maxRecDepth 100000 in
theorem q_54 : (Jvm.Cond.instanceMethod ({ cls := "java/util/AbstractCollection", name := "<init>", desc := "()V" } : Jvm.MethodName)) ∈ WS := ws_of (i := 115) (by decide +kernel) rfl
set_option maxRecDepth 100000 in
theorem q_55 : (Jvm.Cond.code ({ cls := "java/util/AbstractCollection", name := "<init>", desc := "()V" } : Jvm.MethodName) prog_38_method_1_code (1 : Nat) (Option.none : Option Jvm.ClassFile.FieldType)) ∈ WS := ws_of (i := 116) (by decide +kernel) rfl
set_option maxRecDepth 100000 in
theorem q_56 : (Jvm.Cond.methodLink "java/util/AbstractCollection" (1 : Nat) ({ cls := "java/lang/Object", name := "<init>", desc := "()V" } : Jvm.MethodName)) ∈ WS := ws_of (i := 117) (by decide +kernel) rfl
set_option maxRecDepth 100000 in
theorem q_57 : (Jvm.Cond.fieldLink "java/util/ArrayList" (39 : Nat) "java/util/ArrayList" "DEFAULTCAPACITY_EMPTY_ELEMENTDATA" "[Ljava/lang/Object;") ∈ WS := ws_of (i := 118) (by decide +kernel) rfl
set_option maxRecDepth 100000 in
theorem q_59 : (Jvm.Cond.fieldLink "java/util/ArrayList" (9 : Nat) "java/util/ArrayList" "elementData" "[Ljava/lang/Object;") ∈ WS := ws_of (i := 120) (by decide +kernel) rfl
set_option maxRecDepth 100000 in
theorem q_60 : (Jvm.Cond.fieldLink "java/util/ArrayList" (48 : Nat) "java/util/ArrayList" "size" "I") ∈ WS := ws_of (i := 121) (by decide +kernel) rfl
set_option maxRecDepth 100000 in
theorem q_61 : (Jvm.Cond.fieldLink "java/util/AbstractList" (7 : Nat) "java/util/AbstractList" "modCount" "I") ∈ WS := ws_of (i := 122) (by decide +kernel) rfl
set_option maxRecDepth 100000 in
theorem q_62 : (Jvm.Cond.fieldLink "java/util/ArrayList" (63 : Nat) "java/util/ArrayList" "modCount" "I") ∈ WS := ws_of (i := 123) (by decide +kernel) rfl
set_option maxRecDepth 100000 in
theorem q_63 : (Jvm.Cond.sameField "java/util/ArrayList" "java/util/AbstractList" "modCount" "I") ∈ WS := ws_of (i := 124) (by decide +kernel) rfl
set_option maxRecDepth 100000 in
theorem q_117 : (Jvm.Cond.instanceMethod ({ cls := "java/util/ArrayList", name := "add", desc := "(Ljava/lang/Object;)Z" } : Jvm.MethodName)) ∈ WS := ws_of (i := 178) (by decide +kernel) rfl
set_option maxRecDepth 100000 in
theorem q_118 : (Jvm.Cond.selects "java/util/ArrayList" ({ cls := "java/util/ArrayList", name := "add", desc := "(Ljava/lang/Object;)Z" } : Jvm.MethodName) ({ cls := "java/util/ArrayList", name := "add", desc := "(Ljava/lang/Object;)Z" } : Jvm.MethodName)) ∈ WS := ws_of (i := 179) (by decide +kernel) rfl
set_option maxRecDepth 100000 in
theorem q_119 : (Jvm.Cond.code ({ cls := "java/util/ArrayList", name := "add", desc := "(Ljava/lang/Object;)Z" } : Jvm.MethodName) prog_40_method_25_code (2 : Nat) (Option.some Jvm.ClassFile.FieldType.boolean)) ∈ WS := ws_of (i := 180) (by decide +kernel) rfl
set_option maxRecDepth 100000 in
theorem q_120 : (Jvm.Cond.methodLink "java/util/ArrayList" (131 : Nat) ({ cls := "java/util/ArrayList", name := "add", desc := "(Ljava/lang/Object;[Ljava/lang/Object;I)V" } : Jvm.MethodName)) ∈ WS := ws_of (i := 181) (by decide +kernel) rfl
set_option maxRecDepth 100000 in
theorem q_122 : (Jvm.Cond.instanceMethod ({ cls := "java/util/ArrayList", name := "add", desc := "(Ljava/lang/Object;[Ljava/lang/Object;I)V" } : Jvm.MethodName)) ∈ WS := ws_of (i := 183) (by decide +kernel) rfl
set_option maxRecDepth 100000 in
theorem q_123 : (Jvm.Cond.code ({ cls := "java/util/ArrayList", name := "add", desc := "(Ljava/lang/Object;[Ljava/lang/Object;I)V" } : Jvm.MethodName) prog_40_method_24_code (4 : Nat) (Option.none : Option Jvm.ClassFile.FieldType)) ∈ WS := ws_of (i := 184) (by decide +kernel) rfl
set_option maxRecDepth 100000 in
theorem q_124 : (Jvm.Cond.methodLink "java/util/ArrayList" (129 : Nat) ({ cls := "java/util/ArrayList", name := "grow", desc := "()[Ljava/lang/Object;" } : Jvm.MethodName)) ∈ WS := ws_of (i := 185) (by decide +kernel) rfl
set_option maxRecDepth 100000 in
theorem q_126 : (Jvm.Cond.instanceMethod ({ cls := "java/util/ArrayList", name := "grow", desc := "()[Ljava/lang/Object;" } : Jvm.MethodName)) ∈ WS := ws_of (i := 187) (by decide +kernel) rfl
set_option maxRecDepth 100000 in
theorem q_127 : (Jvm.Cond.code ({ cls := "java/util/ArrayList", name := "grow", desc := "()[Ljava/lang/Object;" } : Jvm.MethodName) prog_40_method_7_code (1 : Nat) (Option.some (Jvm.ClassFile.FieldType.array (Jvm.ClassFile.FieldType.object "java/lang/Object")))) ∈ WS := ws_of (i := 188) (by decide +kernel) rfl
set_option maxRecDepth 100000 in
theorem q_128 : (Jvm.Cond.methodLink "java/util/ArrayList" (69 : Nat) ({ cls := "java/util/ArrayList", name := "grow", desc := "(I)[Ljava/lang/Object;" } : Jvm.MethodName)) ∈ WS := ws_of (i := 189) (by decide +kernel) rfl
set_option maxRecDepth 100000 in
theorem q_130 : (Jvm.Cond.instanceMethod ({ cls := "java/util/ArrayList", name := "grow", desc := "(I)[Ljava/lang/Object;" } : Jvm.MethodName)) ∈ WS := ws_of (i := 191) (by decide +kernel) rfl
set_option maxRecDepth 100000 in
theorem q_131 : (Jvm.Cond.code ({ cls := "java/util/ArrayList", name := "grow", desc := "(I)[Ljava/lang/Object;" } : Jvm.MethodName) prog_40_method_6_code (4 : Nat) (Option.some (Jvm.ClassFile.FieldType.array (Jvm.ClassFile.FieldType.object "java/lang/Object")))) ∈ WS := ws_of (i := 192) (by decide +kernel) rfl
set_option maxRecDepth 100000 in
theorem q_132 : (Jvm.Cond.methodLink "java/util/ArrayList" (73 : Nat) ({ cls := "jdk/internal/util/ArraysSupport", name := "newLength", desc := "(III)I" } : Jvm.MethodName)) ∈ WS := ws_of (i := 193) (by decide +kernel) rfl
set_option maxRecDepth 100000 in
theorem q_133 : (Jvm.Cond.static ({ cls := "jdk/internal/util/ArraysSupport", name := "newLength", desc := "(III)I" } : Jvm.MethodName)) ∈ WS := ws_of (i := 194) (by decide +kernel) rfl
set_option maxRecDepth 100000 in
theorem q_134 : (Jvm.Cond.code ({ cls := "jdk/internal/util/ArraysSupport", name := "newLength", desc := "(III)I" } : Jvm.MethodName) prog_48_method_27_code (4 : Nat) (Option.some Jvm.ClassFile.FieldType.int)) ∈ WS := ws_of (i := 195) (by decide +kernel) rfl
set_option maxRecDepth 100000 in
theorem q_135 : (Jvm.Cond.methodLink "jdk/internal/util/ArraysSupport" (194 : Nat) ({ cls := "java/lang/Math", name := "max", desc := "(II)I" } : Jvm.MethodName)) ∈ WS := ws_of (i := 196) (by decide +kernel) rfl
set_option maxRecDepth 100000 in
theorem q_136 : (Jvm.Cond.static ({ cls := "java/lang/Math", name := "max", desc := "(II)I" } : Jvm.MethodName)) ∈ WS := ws_of (i := 197) (by decide +kernel) rfl
set_option maxRecDepth 100000 in
theorem q_137 : (Jvm.Cond.code ({ cls := "java/lang/Math", name := "max", desc := "(II)I" } : Jvm.MethodName) prog_26_method_65_code (2 : Nat) (Option.some Jvm.ClassFile.FieldType.int)) ∈ WS := ws_of (i := 198) (by decide +kernel) rfl
set_option maxRecDepth 100000 in
theorem q_138 : (Jvm.Cond.constant "jdk/internal/util/ArraysSupport" (200 : Nat) (2147483639 : Int32)) ∈ WS := ws_of (i := 199) (by decide +kernel) rfl
set_option maxRecDepth 100000 in
theorem q_139 : (Jvm.Cond.methodLink "jdk/internal/util/ArraysSupport" (201 : Nat) ({ cls := "jdk/internal/util/ArraysSupport", name := "hugeLength", desc := "(II)I" } : Jvm.MethodName)) ∈ WS := ws_of (i := 200) (by decide +kernel) rfl
set_option maxRecDepth 100000 in
theorem q_140 : (Jvm.Cond.static ({ cls := "jdk/internal/util/ArraysSupport", name := "hugeLength", desc := "(II)I" } : Jvm.MethodName)) ∈ WS := ws_of (i := 201) (by decide +kernel) rfl
set_option maxRecDepth 100000 in
theorem q_141 : (Jvm.Cond.code ({ cls := "jdk/internal/util/ArraysSupport", name := "hugeLength", desc := "(II)I" } : Jvm.MethodName) prog_48_method_28_code (3 : Nat) (Option.some Jvm.ClassFile.FieldType.int)) ∈ WS := ws_of (i := 202) (by decide +kernel) rfl
set_option maxRecDepth 100000 in
theorem q_142 : (Jvm.Cond.methodLink "java/util/ArrayList" (66 : Nat) ({ cls := "java/util/Arrays", name := "copyOf", desc := "([Ljava/lang/Object;I)[Ljava/lang/Object;" } : Jvm.MethodName)) ∈ WS := ws_of (i := 203) (by decide +kernel) rfl
set_option maxRecDepth 100000 in
theorem q_143 : (Jvm.Cond.static ({ cls := "java/util/Arrays", name := "copyOf", desc := "([Ljava/lang/Object;I)[Ljava/lang/Object;" } : Jvm.MethodName)) ∈ WS := ws_of (i := 204) (by decide +kernel) rfl
set_option maxRecDepth 100000 in
theorem q_144 : (Jvm.Cond.code ({ cls := "java/util/Arrays", name := "copyOf", desc := "([Ljava/lang/Object;I)[Ljava/lang/Object;" } : Jvm.MethodName) prog_41_method_119_code (2 : Nat) (Option.some (Jvm.ClassFile.FieldType.array (Jvm.ClassFile.FieldType.object "java/lang/Object")))) ∈ WS := ws_of (i := 205) (by decide +kernel) rfl
set_option maxRecDepth 100000 in
theorem q_145 : (Jvm.Cond.methodLink "java/util/Arrays" (86 : Nat) ({ cls := "java/lang/Object", name := "getClass", desc := "()Ljava/lang/Class;" } : Jvm.MethodName)) ∈ WS := ws_of (i := 206) (by decide +kernel) rfl
set_option maxRecDepth 100000 in
theorem q_146 : (Jvm.Cond.instanceMethod ({ cls := "java/lang/Object", name := "getClass", desc := "()Ljava/lang/Class;" } : Jvm.MethodName)) ∈ WS := ws_of (i := 207) (by decide +kernel) rfl
set_option maxRecDepth 100000 in
theorem q_168 : (Jvm.Cond.native ({ cls := "java/lang/Object", name := "getClass", desc := "()Ljava/lang/Class;" } : Jvm.MethodName)) ∈ WS := ws_of (i := 229) (by decide +kernel) rfl
set_option maxRecDepth 100000 in
theorem q_169 : (Jvm.Cond.methodLink "java/util/Arrays" (300 : Nat) ({ cls := "java/util/Arrays", name := "copyOf", desc := "([Ljava/lang/Object;ILjava/lang/Class;)[Ljava/lang/Object;" } : Jvm.MethodName)) ∈ WS := ws_of (i := 230) (by decide +kernel) rfl
set_option maxRecDepth 100000 in
theorem q_170 : (Jvm.Cond.static ({ cls := "java/util/Arrays", name := "copyOf", desc := "([Ljava/lang/Object;ILjava/lang/Class;)[Ljava/lang/Object;" } : Jvm.MethodName)) ∈ WS := ws_of (i := 231) (by decide +kernel) rfl
set_option maxRecDepth 100000 in
theorem q_171 : (Jvm.Cond.code ({ cls := "java/util/Arrays", name := "copyOf", desc := "([Ljava/lang/Object;ILjava/lang/Class;)[Ljava/lang/Object;" } : Jvm.MethodName) prog_41_method_120_code (4 : Nat) (Option.some (Jvm.ClassFile.FieldType.array (Jvm.ClassFile.FieldType.object "java/lang/Object")))) ∈ WS := ws_of (i := 232) (by decide +kernel) rfl
set_option maxRecDepth 100000 in
theorem q_172 : (Jvm.Cond.classLink "java/util/Arrays" (110 : Nat) "[Ljava/lang/Object;") ∈ WS := ws_of (i := 233) (by decide +kernel) rfl
set_option maxRecDepth 100000 in
theorem q_174 : (Jvm.Cond.classLink "java/util/Arrays" (2 : Nat) "java/lang/Object") ∈ WS := ws_of (i := 235) (by decide +kernel) rfl
set_option maxRecDepth 100000 in
theorem q_175 : (Jvm.Cond.methodLink "java/util/Arrays" (304 : Nat) ({ cls := "java/lang/Math", name := "min", desc := "(II)I" } : Jvm.MethodName)) ∈ WS := ws_of (i := 236) (by decide +kernel) rfl
set_option maxRecDepth 100000 in
theorem q_176 : (Jvm.Cond.static ({ cls := "java/lang/Math", name := "min", desc := "(II)I" } : Jvm.MethodName)) ∈ WS := ws_of (i := 237) (by decide +kernel) rfl
set_option maxRecDepth 100000 in
theorem q_177 : (Jvm.Cond.code ({ cls := "java/lang/Math", name := "min", desc := "(II)I" } : Jvm.MethodName) prog_26_method_69_code (2 : Nat) (Option.some Jvm.ClassFile.FieldType.int)) ∈ WS := ws_of (i := 238) (by decide +kernel) rfl
set_option maxRecDepth 100000 in
theorem q_178 : (Jvm.Cond.methodLink "java/util/Arrays" (150 : Nat) ({ cls := "java/lang/System", name := "arraycopy", desc := "(Ljava/lang/Object;ILjava/lang/Object;II)V" } : Jvm.MethodName)) ∈ WS := ws_of (i := 239) (by decide +kernel) rfl
set_option maxRecDepth 100000 in
theorem q_179 : (Jvm.Cond.static ({ cls := "java/lang/System", name := "arraycopy", desc := "(Ljava/lang/Object;ILjava/lang/Object;II)V" } : Jvm.MethodName)) ∈ WS := ws_of (i := 240) (by decide +kernel) rfl
set_option maxRecDepth 100000 in
theorem q_180 : (Jvm.Cond.native ({ cls := "java/lang/System", name := "arraycopy", desc := "(Ljava/lang/Object;ILjava/lang/Object;II)V" } : Jvm.MethodName)) ∈ WS := ws_of (i := 241) (by decide +kernel) rfl
set_option maxRecDepth 100000 in
theorem q_181 : (Jvm.Cond.methodLink "java/util/ArrayList" (79 : Nat) ({ cls := "java/lang/Math", name := "max", desc := "(II)I" } : Jvm.MethodName)) ∈ WS := ws_of (i := 242) (by decide +kernel) rfl
set_option maxRecDepth 100000 in
theorem q_182 : (Jvm.Cond.classLink "java/util/ArrayList" (7 : Nat) "java/lang/Object") ∈ WS := ws_of (i := 243) (by decide +kernel) rfl
set_option maxRecDepth 100000 in
theorem q_217 : (Jvm.Cond.instanceMethod ({ cls := "java/util/ArrayList", name := "size", desc := "()I" } : Jvm.MethodName)) ∈ WS := ws_of (i := 278) (by decide +kernel) rfl
set_option maxRecDepth 100000 in
theorem q_218 : (Jvm.Cond.selects "java/util/ArrayList" ({ cls := "java/util/ArrayList", name := "size", desc := "()I" } : Jvm.MethodName) ({ cls := "java/util/ArrayList", name := "size", desc := "()I" } : Jvm.MethodName)) ∈ WS := ws_of (i := 279) (by decide +kernel) rfl
set_option maxRecDepth 100000 in
theorem q_219 : (Jvm.Cond.code ({ cls := "java/util/ArrayList", name := "size", desc := "()I" } : Jvm.MethodName) prog_40_method_8_code (1 : Nat) (Option.some Jvm.ClassFile.FieldType.int)) ∈ WS := ws_of (i := 280) (by decide +kernel) rfl
set_option maxRecDepth 100000 in
theorem q_225 : (Jvm.Cond.instanceMethod ({ cls := "java/util/ArrayList", name := "get", desc := "(I)Ljava/lang/Object;" } : Jvm.MethodName)) ∈ WS := ws_of (i := 286) (by decide +kernel) rfl
set_option maxRecDepth 100000 in
theorem q_226 : (Jvm.Cond.selects "java/util/ArrayList" ({ cls := "java/util/ArrayList", name := "get", desc := "(I)Ljava/lang/Object;" } : Jvm.MethodName) ({ cls := "java/util/ArrayList", name := "get", desc := "(I)Ljava/lang/Object;" } : Jvm.MethodName)) ∈ WS := ws_of (i := 287) (by decide +kernel) rfl
set_option maxRecDepth 100000 in
theorem q_227 : (Jvm.Cond.code ({ cls := "java/util/ArrayList", name := "get", desc := "(I)Ljava/lang/Object;" } : Jvm.MethodName) prog_40_method_20_code (2 : Nat) (Option.some (Jvm.ClassFile.FieldType.object "java/lang/Object"))) ∈ WS := ws_of (i := 288) (by decide +kernel) rfl
set_option maxRecDepth 100000 in
theorem q_228 : (Jvm.Cond.methodLink "java/util/ArrayList" (118 : Nat) ({ cls := "java/util/Objects", name := "checkIndex", desc := "(II)I" } : Jvm.MethodName)) ∈ WS := ws_of (i := 289) (by decide +kernel) rfl
set_option maxRecDepth 100000 in
theorem q_229 : (Jvm.Cond.static ({ cls := "java/util/Objects", name := "checkIndex", desc := "(II)I" } : Jvm.MethodName)) ∈ WS := ws_of (i := 290) (by decide +kernel) rfl
set_option maxRecDepth 100000 in
theorem q_230 : (Jvm.Cond.code ({ cls := "java/util/Objects", name := "checkIndex", desc := "(II)I" } : Jvm.MethodName) prog_45_method_17_code (2 : Nat) (Option.some Jvm.ClassFile.FieldType.int)) ∈ WS := ws_of (i := 291) (by decide +kernel) rfl
set_option maxRecDepth 100000 in
theorem q_231 : (Jvm.Cond.methodLink "java/util/Objects" (105 : Nat) ({ cls := "jdk/internal/util/Preconditions", name := "checkIndex", desc := "(IILjava/util/function/BiFunction;)I" } : Jvm.MethodName)) ∈ WS := ws_of (i := 292) (by decide +kernel) rfl
set_option maxRecDepth 100000 in
theorem q_232 : (Jvm.Cond.static ({ cls := "jdk/internal/util/Preconditions", name := "checkIndex", desc := "(IILjava/util/function/BiFunction;)I" } : Jvm.MethodName)) ∈ WS := ws_of (i := 293) (by decide +kernel) rfl
set_option maxRecDepth 100000 in
theorem q_233 : (Jvm.Cond.code ({ cls := "jdk/internal/util/Preconditions", name := "checkIndex", desc := "(IILjava/util/function/BiFunction;)I" } : Jvm.MethodName) prog_49_method_11_code (3 : Nat) (Option.some Jvm.ClassFile.FieldType.int)) ∈ WS := ws_of (i := 294) (by decide +kernel) rfl
set_option maxRecDepth 100000 in
theorem q_234 : (Jvm.Cond.methodLink "java/util/ArrayList" (123 : Nat) ({ cls := "java/util/ArrayList", name := "elementData", desc := "(I)Ljava/lang/Object;" } : Jvm.MethodName)) ∈ WS := ws_of (i := 295) (by decide +kernel) rfl
set_option maxRecDepth 100000 in
theorem q_235 : (Jvm.Cond.instanceMethod ({ cls := "java/util/ArrayList", name := "elementData", desc := "(I)Ljava/lang/Object;" } : Jvm.MethodName)) ∈ WS := ws_of (i := 296) (by decide +kernel) rfl
set_option maxRecDepth 100000 in
theorem q_236 : (Jvm.Cond.selects "java/util/ArrayList" ({ cls := "java/util/ArrayList", name := "elementData", desc := "(I)Ljava/lang/Object;" } : Jvm.MethodName) ({ cls := "java/util/ArrayList", name := "elementData", desc := "(I)Ljava/lang/Object;" } : Jvm.MethodName)) ∈ WS := ws_of (i := 297) (by decide +kernel) rfl
set_option maxRecDepth 100000 in
theorem q_237 : (Jvm.Cond.code ({ cls := "java/util/ArrayList", name := "elementData", desc := "(I)Ljava/lang/Object;" } : Jvm.MethodName) prog_40_method_18_code (2 : Nat) (Option.some (Jvm.ClassFile.FieldType.object "java/lang/Object"))) ∈ WS := ws_of (i := 298) (by decide +kernel) rfl
set_option maxRecDepth 100000 in
theorem q_553 : (Jvm.Cond.instanceMethod ({ cls := "java/util/ArrayList", name := "remove", desc := "(I)Ljava/lang/Object;" } : Jvm.MethodName)) ∈ WS := ws_of (i := 614) (by decide +kernel) rfl
set_option maxRecDepth 100000 in
theorem q_554 : (Jvm.Cond.selects "java/util/ArrayList" ({ cls := "java/util/ArrayList", name := "remove", desc := "(I)Ljava/lang/Object;" } : Jvm.MethodName) ({ cls := "java/util/ArrayList", name := "remove", desc := "(I)Ljava/lang/Object;" } : Jvm.MethodName)) ∈ WS := ws_of (i := 615) (by decide +kernel) rfl
set_option maxRecDepth 100000 in
theorem q_555 : (Jvm.Cond.code ({ cls := "java/util/ArrayList", name := "remove", desc := "(I)Ljava/lang/Object;" } : Jvm.MethodName) prog_40_method_29_code (4 : Nat) (Option.some (Jvm.ClassFile.FieldType.object "java/lang/Object"))) ∈ WS := ws_of (i := 616) (by decide +kernel) rfl
set_option maxRecDepth 100000 in
theorem q_556 : (Jvm.Cond.methodLink "java/util/ArrayList" (144 : Nat) ({ cls := "java/util/ArrayList", name := "fastRemove", desc := "([Ljava/lang/Object;I)V" } : Jvm.MethodName)) ∈ WS := ws_of (i := 617) (by decide +kernel) rfl
set_option maxRecDepth 100000 in
theorem q_558 : (Jvm.Cond.instanceMethod ({ cls := "java/util/ArrayList", name := "fastRemove", desc := "([Ljava/lang/Object;I)V" } : Jvm.MethodName)) ∈ WS := ws_of (i := 619) (by decide +kernel) rfl
set_option maxRecDepth 100000 in
theorem q_559 : (Jvm.Cond.code ({ cls := "java/util/ArrayList", name := "fastRemove", desc := "([Ljava/lang/Object;I)V" } : Jvm.MethodName) prog_40_method_39_code (4 : Nat) (Option.none : Option Jvm.ClassFile.FieldType)) ∈ WS := ws_of (i := 620) (by decide +kernel) rfl
set_option maxRecDepth 100000 in
theorem q_560 : (Jvm.Cond.methodLink "java/util/ArrayList" (112 : Nat) ({ cls := "java/lang/System", name := "arraycopy", desc := "(Ljava/lang/Object;ILjava/lang/Object;II)V" } : Jvm.MethodName)) ∈ WS := ws_of (i := 621) (by decide +kernel) rfl
set_option maxRecDepth 100000 in
theorem q_562 : (Jvm.Cond.instanceMethod ({ cls := "java/util/ArrayList", name := "clear", desc := "()V" } : Jvm.MethodName)) ∈ WS := ws_of (i := 623) (by decide +kernel) rfl
set_option maxRecDepth 100000 in
theorem q_563 : (Jvm.Cond.selects "java/util/ArrayList" ({ cls := "java/util/ArrayList", name := "clear", desc := "()V" } : Jvm.MethodName) ({ cls := "java/util/ArrayList", name := "clear", desc := "()V" } : Jvm.MethodName)) ∈ WS := ws_of (i := 624) (by decide +kernel) rfl
set_option maxRecDepth 100000 in
theorem q_564 : (Jvm.Cond.code ({ cls := "java/util/ArrayList", name := "clear", desc := "()V" } : Jvm.MethodName) prog_40_method_40_code (4 : Nat) (Option.none : Option Jvm.ClassFile.FieldType)) ∈ WS := ws_of (i := 625) (by decide +kernel) rfl
set_option maxRecDepth 100000 in
theorem q_581 : (Jvm.Cond.instanceMethod ({ cls := "java/util/ArrayList", name := "add", desc := "(ILjava/lang/Object;)V" } : Jvm.MethodName)) ∈ WS := ws_of (i := 642) (by decide +kernel) rfl
set_option maxRecDepth 100000 in
theorem q_582 : (Jvm.Cond.selects "java/util/ArrayList" ({ cls := "java/util/ArrayList", name := "add", desc := "(ILjava/lang/Object;)V" } : Jvm.MethodName) ({ cls := "java/util/ArrayList", name := "add", desc := "(ILjava/lang/Object;)V" } : Jvm.MethodName)) ∈ WS := ws_of (i := 643) (by decide +kernel) rfl
set_option maxRecDepth 100000 in
theorem q_583 : (Jvm.Cond.code ({ cls := "java/util/ArrayList", name := "add", desc := "(ILjava/lang/Object;)V" } : Jvm.MethodName) prog_40_method_26_code (5 : Nat) (Option.none : Option Jvm.ClassFile.FieldType)) ∈ WS := ws_of (i := 644) (by decide +kernel) rfl
set_option maxRecDepth 100000 in
theorem q_584 : (Jvm.Cond.methodLink "java/util/ArrayList" (135 : Nat) ({ cls := "java/util/ArrayList", name := "rangeCheckForAdd", desc := "(I)V" } : Jvm.MethodName)) ∈ WS := ws_of (i := 645) (by decide +kernel) rfl
set_option maxRecDepth 100000 in
theorem q_586 : (Jvm.Cond.instanceMethod ({ cls := "java/util/ArrayList", name := "rangeCheckForAdd", desc := "(I)V" } : Jvm.MethodName)) ∈ WS := ws_of (i := 647) (by decide +kernel) rfl
set_option maxRecDepth 100000 in
theorem q_587 : (Jvm.Cond.code ({ cls := "java/util/ArrayList", name := "rangeCheckForAdd", desc := "(I)V" } : Jvm.MethodName) prog_40_method_45_code (2 : Nat) (Option.none : Option Jvm.ClassFile.FieldType)) ∈ WS := ws_of (i := 648) (by decide +kernel) rfl
set_option maxRecDepth 100000 in
theorem q_676 : (Jvm.Cond.static ({ cls := "jdk/internal/util/Preconditions", name := "checkFromToIndex", desc := "(IIILjava/util/function/BiFunction;)I" } : Jvm.MethodName)) ∈ WS := ws_of (i := 737) (by decide +kernel) rfl
set_option maxRecDepth 100000 in
theorem q_677 : (Jvm.Cond.code ({ cls := "jdk/internal/util/Preconditions", name := "checkFromToIndex", desc := "(IIILjava/util/function/BiFunction;)I" } : Jvm.MethodName) prog_49_method_12_code (4 : Nat) (Option.some Jvm.ClassFile.FieldType.int)) ∈ WS := ws_of (i := 738) (by decide +kernel) rfl
set_option maxRecDepth 100000 in
theorem q_722 : (Jvm.Cond.static ({ cls := "jdk/internal/util/Preconditions", name := "checkFromIndexSize", desc := "(IIILjava/util/function/BiFunction;)I" } : Jvm.MethodName)) ∈ WS := ws_of (i := 783) (by decide +kernel) rfl
set_option maxRecDepth 100000 in
theorem q_723 : (Jvm.Cond.code ({ cls := "jdk/internal/util/Preconditions", name := "checkFromIndexSize", desc := "(IIILjava/util/function/BiFunction;)I" } : Jvm.MethodName) prog_49_method_13_code (4 : Nat) (Option.some Jvm.ClassFile.FieldType.int)) ∈ WS := ws_of (i := 784) (by decide +kernel) rfl
set_option maxRecDepth 100000 in
theorem q_789 : (Jvm.Cond.methodLink "java/util/Arrays" (343 : Nat) ({ cls := "java/util/Arrays", name := "checkLength", desc := "(II)V" } : Jvm.MethodName)) ∈ WS := ws_of (i := 850) (by decide +kernel) rfl
set_option maxRecDepth 100000 in
theorem q_790 : (Jvm.Cond.static ({ cls := "java/util/Arrays", name := "checkLength", desc := "(II)V" } : Jvm.MethodName)) ∈ WS := ws_of (i := 851) (by decide +kernel) rfl
set_option maxRecDepth 100000 in
theorem q_791 : (Jvm.Cond.code ({ cls := "java/util/Arrays", name := "checkLength", desc := "(II)V" } : Jvm.MethodName) prog_41_method_131_code (2 : Nat) (Option.none : Option Jvm.ClassFile.FieldType)) ∈ WS := ws_of (i := 852) (by decide +kernel) rfl
set_option maxRecDepth 100000 in
theorem q_1733 : (Jvm.Cond.selects "[Ljava/lang/Object;" ({ cls := "java/lang/Object", name := "getClass", desc := "()Ljava/lang/Class;" } : Jvm.MethodName) ({ cls := "java/lang/Object", name := "getClass", desc := "()Ljava/lang/Class;" } : Jvm.MethodName)) ∈ WS := ws_of (i := 1794) (by decide +kernel) rfl
abbrev cCI3 : ByteArray := prog_49_method_11_code
abbrev yCI3 : MethodName := ⟨"jdk/internal/util/Preconditions", "checkIndex", "(IILjava/util/function/BiFunction;)I"⟩
theorem eCI3_0 : decode cCI3 0 = .ok (.iload_n 0, 1) := by decide +kernel
theorem eCI3_1 : decode cCI3 1 = .ok (.ifCond .lt 8, 3) := by decide +kernel
theorem eCI3_4 : decode cCI3 4 = .ok (.iload_n 0, 1) := by decide +kernel
theorem eCI3_5 : decode cCI3 5 = .ok (.iload_n 1, 1) := by decide +kernel
theorem eCI3_6 : decode cCI3 6 = .ok (.if_icmp .lt 10, 3) := by decide +kernel
theorem eCI3_9 : decode cCI3 9 = .ok (.aload_n 2, 1) := by decide +kernel
theorem eCI3_10 : decode cCI3 10 = .ok (.iload_n 0, 1) := by decide +kernel
theorem eCI3_11 : decode cCI3 11 = .ok (.iload_n 1, 1) := by decide +kernel
theorem eCI3_12 : decode cCI3 12 = .ok (.invokestatic 95, 3) := by decide +kernel
theorem eCI3_15 : decode cCI3 15 = .ok (.athrow, 1) := by decide +kernel
theorem eCI3_16 : decode cCI3 16 = .ok (.iload_n 0, 1) := by decide +kernel
theorem eCI3_17 : decode cCI3 17 = .ok (.ireturn, 1) := by decide +kernel
abbrev cCI2 : ByteArray := prog_45_method_17_code
abbrev yCI2 : MethodName := ⟨"java/util/Objects", "checkIndex", "(II)I"⟩
theorem eCI2_0 : decode cCI2 0 = .ok (.iload_n 0, 1) := by decide +kernel
theorem eCI2_1 : decode cCI2 1 = .ok (.iload_n 1, 1) := by decide +kernel
theorem eCI2_2 : decode cCI2 2 = .ok (.aconst_null, 1) := by decide +kernel
theorem eCI2_3 : decode cCI2 3 = .ok (.invokestatic 105, 3) := by decide +kernel
theorem eCI2_6 : decode cCI2 6 = .ok (.ireturn, 1) := by decide +kernel
abbrev cED : ByteArray := prog_40_method_18_code
abbrev yED : MethodName := ⟨"java/util/ArrayList", "elementData", "(I)Ljava/lang/Object;"⟩
theorem eED_0 : decode cED 0 = .ok (.aload_n 0, 1) := by decide +kernel
theorem eED_1 : decode cED 1 = .ok (.getfield 9, 3) := by decide +kernel
theorem eED_4 : decode cED 4 = .ok (.iload_n 1, 1) := by decide +kernel
theorem eED_5 : decode cED 5 = .ok (.aaload, 1) := by decide +kernel
theorem eED_6 : decode cED 6 = .ok (.areturn, 1) := by decide +kernel
abbrev cGT : ByteArray := prog_40_method_20_code
abbrev yGT : MethodName := ⟨"java/util/ArrayList", "get", "(I)Ljava/lang/Object;"⟩
theorem eGT_0 : decode cGT 0 = .ok (.iload_n 1, 1) := by decide +kernel
theorem eGT_1 : decode cGT 1 = .ok (.aload_n 0, 1) := by decide +kernel
theorem eGT_2 : decode cGT 2 = .ok (.getfield 48, 3) := by decide +kernel
theorem eGT_5 : decode cGT 5 = .ok (.invokestatic 118, 3) := by decide +kernel
theorem eGT_8 : decode cGT 8 = .ok (.pop, 1) := by decide +kernel
theorem eGT_9 : decode cGT 9 = .ok (.aload_n 0, 1) := by decide +kernel
theorem eGT_10 : decode cGT 10 = .ok (.iload_n 1, 1) := by decide +kernel
theorem eGT_11 : decode cGT 11 = .ok (.invokevirtual 123, 3) := by decide +kernel
theorem eGT_14 : decode cGT 14 = .ok (.areturn, 1) := by decide +kernel
abbrev cSZ : ByteArray := prog_40_method_8_code
abbrev ySZ : MethodName := ⟨"java/util/ArrayList", "size", "()I"⟩
theorem eSZ_0 : decode cSZ 0 = .ok (.aload_n 0, 1) := by decide +kernel
theorem eSZ_1 : decode cSZ 1 = .ok (.getfield 48, 3) := by decide +kernel
theorem eSZ_4 : decode cSZ 4 = .ok (.ireturn, 1) := by decide +kernel
abbrev cRC : ByteArray := prog_40_method_45_code
abbrev yRC : MethodName := ⟨"java/util/ArrayList", "rangeCheckForAdd", "(I)V"⟩
theorem eRC_0 : decode cRC 0 = .ok (.iload_n 1, 1) := by decide +kernel
theorem eRC_1 : decode cRC 1 = .ok (.aload_n 0, 1) := by decide +kernel
theorem eRC_2 : decode cRC 2 = .ok (.getfield 48, 3) := by decide +kernel
theorem eRC_5 : decode cRC 5 = .ok (.if_icmp .gt 7, 3) := by decide +kernel
theorem eRC_8 : decode cRC 8 = .ok (.iload_n 1, 1) := by decide +kernel
theorem eRC_9 : decode cRC 9 = .ok (.ifCond .ge 16, 3) := by decide +kernel
theorem eRC_12 : decode cRC 12 = .ok (.new 187, 3) := by decide +kernel
theorem eRC_15 : decode cRC 15 = .ok (.dup, 1) := by decide +kernel
theorem eRC_16 : decode cRC 16 = .ok (.aload_n 0, 1) := by decide +kernel
theorem eRC_17 : decode cRC 17 = .ok (.iload_n 1, 1) := by decide +kernel
theorem eRC_18 : decode cRC 18 = .ok (.invokevirtual 198, 3) := by decide +kernel
theorem eRC_21 : decode cRC 21 = .ok (.invokespecial 193, 3) := by decide +kernel
theorem eRC_24 : decode cRC 24 = .ok (.athrow, 1) := by decide +kernel
theorem eRC_25 : decode cRC 25 = .ok (.return_, 1) := by decide +kernel
abbrev cNL : ByteArray := prog_48_method_27_code
abbrev yNL : MethodName := ⟨"jdk/internal/util/ArraysSupport", "newLength", "(III)I"⟩
theorem eNL_0 : decode cNL 0 = .ok (.iload_n 0, 1) := by decide +kernel
theorem eNL_1 : decode cNL 1 = .ok (.iload_n 1, 1) := by decide +kernel
theorem eNL_2 : decode cNL 2 = .ok (.iload_n 2, 1) := by decide +kernel
theorem eNL_3 : decode cNL 3 = .ok (.invokestatic 194, 3) := by decide +kernel
theorem eNL_6 : decode cNL 6 = .ok (.iadd, 1) := by decide +kernel
theorem eNL_7 : decode cNL 7 = .ok (.istore_n 3, 1) := by decide +kernel
theorem eNL_8 : decode cNL 8 = .ok (.iconst 0, 1) := by decide +kernel
theorem eNL_9 : decode cNL 9 = .ok (.iload_n 3, 1) := by decide +kernel
theorem eNL_10 : decode cNL 10 = .ok (.if_icmp .ge 11, 3) := by decide +kernel
theorem eNL_13 : decode cNL 13 = .ok (.iload_n 3, 1) := by decide +kernel
theorem eNL_14 : decode cNL 14 = .ok (.ldc 200, 2) := by decide +kernel
theorem eNL_16 : decode cNL 16 = .ok (.if_icmp .gt 5, 3) := by decide +kernel
theorem eNL_19 : decode cNL 19 = .ok (.iload_n 3, 1) := by decide +kernel
theorem eNL_20 : decode cNL 20 = .ok (.ireturn, 1) := by decide +kernel
theorem eNL_21 : decode cNL 21 = .ok (.iload_n 0, 1) := by decide +kernel
theorem eNL_22 : decode cNL 22 = .ok (.iload_n 1, 1) := by decide +kernel
theorem eNL_23 : decode cNL 23 = .ok (.invokestatic 201, 3) := by decide +kernel
theorem eNL_26 : decode cNL 26 = .ok (.ireturn, 1) := by decide +kernel
abbrev cCP3 : ByteArray := prog_41_method_120_code
abbrev yCP3 : MethodName := ⟨"java/util/Arrays", "copyOf", "([Ljava/lang/Object;ILjava/lang/Class;)[Ljava/lang/Object;"⟩
theorem eCP3_0 : decode cCP3 0 = .ok (.aload_n 2, 1) := by decide +kernel
theorem eCP3_1 : decode cCP3 1 = .ok (.ldc 110, 2) := by decide +kernel
theorem eCP3_3 : decode cCP3 3 = .ok (.if_acmp .ne 10, 3) := by decide +kernel
theorem eCP3_6 : decode cCP3 6 = .ok (.iload_n 1, 1) := by decide +kernel
theorem eCP3_7 : decode cCP3 7 = .ok (.anewarray 2, 3) := by decide +kernel
theorem eCP3_10 : decode cCP3 10 = .ok (.goto 14, 3) := by decide +kernel
theorem eCP3_13 : decode cCP3 13 = .ok (.aload_n 2, 1) := by decide +kernel
theorem eCP3_14 : decode cCP3 14 = .ok (.invokevirtual 90, 3) := by decide +kernel
theorem eCP3_17 : decode cCP3 17 = .ok (.iload_n 1, 1) := by decide +kernel
theorem eCP3_18 : decode cCP3 18 = .ok (.invokestatic 95, 3) := by decide +kernel
theorem eCP3_21 : decode cCP3 21 = .ok (.checkcast 110, 3) := by decide +kernel
theorem eCP3_24 : decode cCP3 24 = .ok (.astore_n 3, 1) := by decide +kernel
theorem eCP3_25 : decode cCP3 25 = .ok (.aload_n 0, 1) := by decide +kernel
theorem eCP3_26 : decode cCP3 26 = .ok (.iconst 0, 1) := by decide +kernel
theorem eCP3_27 : decode cCP3 27 = .ok (.aload_n 3, 1) := by decide +kernel
theorem eCP3_28 : decode cCP3 28 = .ok (.iconst 0, 1) := by decide +kernel
theorem eCP3_29 : decode cCP3 29 = .ok (.aload_n 0, 1) := by decide +kernel
theorem eCP3_30 : decode cCP3 30 = .ok (.arraylength, 1) := by decide +kernel
theorem eCP3_31 : decode cCP3 31 = .ok (.iload_n 1, 1) := by decide +kernel
theorem eCP3_32 : decode cCP3 32 = .ok (.invokestatic 304, 3) := by decide +kernel
theorem eCP3_35 : decode cCP3 35 = .ok (.invokestatic 150, 3) := by decide +kernel
theorem eCP3_38 : decode cCP3 38 = .ok (.aload_n 3, 1) := by decide +kernel
theorem eCP3_39 : decode cCP3 39 = .ok (.areturn, 1) := by decide +kernel
abbrev cCP2 : ByteArray := prog_41_method_119_code
abbrev yCP2 : MethodName := ⟨"java/util/Arrays", "copyOf", "([Ljava/lang/Object;I)[Ljava/lang/Object;"⟩
theorem eCP2_0 : decode cCP2 0 = .ok (.aload_n 0, 1) := by decide +kernel
theorem eCP2_1 : decode cCP2 1 = .ok (.iload_n 1, 1) := by decide +kernel
theorem eCP2_2 : decode cCP2 2 = .ok (.aload_n 0, 1) := by decide +kernel
theorem eCP2_3 : decode cCP2 3 = .ok (.invokevirtual 86, 3) := by decide +kernel
theorem eCP2_6 : decode cCP2 6 = .ok (.invokestatic 300, 3) := by decide +kernel
theorem eCP2_9 : decode cCP2 9 = .ok (.areturn, 1) := by decide +kernel
abbrev cGI : ByteArray := prog_40_method_6_code
abbrev yGI : MethodName := ⟨"java/util/ArrayList", "grow", "(I)[Ljava/lang/Object;"⟩
theorem eGI_0 : decode cGI 0 = .ok (.aload_n 0, 1) := by decide +kernel
theorem eGI_1 : decode cGI 1 = .ok (.getfield 9, 3) := by decide +kernel
theorem eGI_4 : decode cGI 4 = .ok (.arraylength, 1) := by decide +kernel
theorem eGI_5 : decode cGI 5 = .ok (.istore_n 2, 1) := by decide +kernel
theorem eGI_6 : decode cGI 6 = .ok (.iload_n 2, 1) := by decide +kernel
theorem eGI_7 : decode cGI 7 = .ok (.ifCond .gt 13, 3) := by decide +kernel
theorem eGI_10 : decode cGI 10 = .ok (.aload_n 0, 1) := by decide +kernel
theorem eGI_11 : decode cGI 11 = .ok (.getfield 9, 3) := by decide +kernel
theorem eGI_14 : decode cGI 14 = .ok (.getstatic 39, 3) := by decide +kernel
theorem eGI_17 : decode cGI 17 = .ok (.if_acmp .eq 28, 3) := by decide +kernel
theorem eGI_20 : decode cGI 20 = .ok (.iload_n 2, 1) := by decide +kernel
theorem eGI_21 : decode cGI 21 = .ok (.iload_n 1, 1) := by decide +kernel
theorem eGI_22 : decode cGI 22 = .ok (.iload_n 2, 1) := by decide +kernel
theorem eGI_23 : decode cGI 23 = .ok (.isub, 1) := by decide +kernel
theorem eGI_24 : decode cGI 24 = .ok (.iload_n 2, 1) := by decide +kernel
theorem eGI_25 : decode cGI 25 = .ok (.iconst 1, 1) := by decide +kernel
theorem eGI_26 : decode cGI 26 = .ok (.ishr, 1) := by decide +kernel
theorem eGI_27 : decode cGI 27 = .ok (.invokestatic 73, 3) := by decide +kernel
theorem eGI_30 : decode cGI 30 = .ok (.istore_n 3, 1) := by decide +kernel
theorem eGI_31 : decode cGI 31 = .ok (.aload_n 0, 1) := by decide +kernel
theorem eGI_32 : decode cGI 32 = .ok (.aload_n 0, 1) := by decide +kernel
theorem eGI_33 : decode cGI 33 = .ok (.getfield 9, 3) := by decide +kernel
theorem eGI_36 : decode cGI 36 = .ok (.iload_n 3, 1) := by decide +kernel
theorem eGI_37 : decode cGI 37 = .ok (.invokestatic 66, 3) := by decide +kernel
theorem eGI_40 : decode cGI 40 = .ok (.dup_x1, 1) := by decide +kernel
theorem eGI_41 : decode cGI 41 = .ok (.putfield 9, 3) := by decide +kernel
theorem eGI_44 : decode cGI 44 = .ok (.areturn, 1) := by decide +kernel
theorem eGI_45 : decode cGI 45 = .ok (.aload_n 0, 1) := by decide +kernel
theorem eGI_46 : decode cGI 46 = .ok (.bipush 10, 2) := by decide +kernel
theorem eGI_48 : decode cGI 48 = .ok (.iload_n 1, 1) := by decide +kernel
theorem eGI_49 : decode cGI 49 = .ok (.invokestatic 79, 3) := by decide +kernel
theorem eGI_52 : decode cGI 52 = .ok (.anewarray 7, 3) := by decide +kernel
theorem eGI_55 : decode cGI 55 = .ok (.dup_x1, 1) := by decide +kernel
theorem eGI_56 : decode cGI 56 = .ok (.putfield 9, 3) := by decide +kernel
theorem eGI_59 : decode cGI 59 = .ok (.areturn, 1) := by decide +kernel
abbrev cGR : ByteArray := prog_40_method_7_code
abbrev yGR : MethodName := ⟨"java/util/ArrayList", "grow", "()[Ljava/lang/Object;"⟩
theorem eGR_0 : decode cGR 0 = .ok (.aload_n 0, 1) := by decide +kernel
theorem eGR_1 : decode cGR 1 = .ok (.aload_n 0, 1) := by decide +kernel
theorem eGR_2 : decode cGR 2 = .ok (.getfield 48, 3) := by decide +kernel
theorem eGR_5 : decode cGR 5 = .ok (.iconst 1, 1) := by decide +kernel
theorem eGR_6 : decode cGR 6 = .ok (.iadd, 1) := by decide +kernel
theorem eGR_7 : decode cGR 7 = .ok (.invokevirtual 69, 3) := by decide +kernel
theorem eGR_10 : decode cGR 10 = .ok (.areturn, 1) := by decide +kernel
abbrev cA3 : ByteArray := prog_40_method_24_code
abbrev yA3 : MethodName := ⟨"java/util/ArrayList", "add", "(Ljava/lang/Object;[Ljava/lang/Object;I)V"⟩
theorem eA3_0 : decode cA3 0 = .ok (.iload_n 3, 1) := by decide +kernel
theorem eA3_1 : decode cA3 1 = .ok (.aload_n 2, 1) := by decide +kernel
theorem eA3_2 : decode cA3 2 = .ok (.arraylength, 1) := by decide +kernel
theorem eA3_3 : decode cA3 3 = .ok (.if_icmp .ne 8, 3) := by decide +kernel
theorem eA3_6 : decode cA3 6 = .ok (.aload_n 0, 1) := by decide +kernel
theorem eA3_7 : decode cA3 7 = .ok (.invokevirtual 129, 3) := by decide +kernel
theorem eA3_10 : decode cA3 10 = .ok (.astore_n 2, 1) := by decide +kernel
theorem eA3_11 : decode cA3 11 = .ok (.aload_n 2, 1) := by decide +kernel
theorem eA3_12 : decode cA3 12 = .ok (.iload_n 3, 1) := by decide +kernel
theorem eA3_13 : decode cA3 13 = .ok (.aload_n 1, 1) := by decide +kernel
theorem eA3_14 : decode cA3 14 = .ok (.aastore, 1) := by decide +kernel
theorem eA3_15 : decode cA3 15 = .ok (.aload_n 0, 1) := by decide +kernel
theorem eA3_16 : decode cA3 16 = .ok (.iload_n 3, 1) := by decide +kernel
theorem eA3_17 : decode cA3 17 = .ok (.iconst 1, 1) := by decide +kernel
theorem eA3_18 : decode cA3 18 = .ok (.iadd, 1) := by decide +kernel
theorem eA3_19 : decode cA3 19 = .ok (.putfield 48, 3) := by decide +kernel
theorem eA3_22 : decode cA3 22 = .ok (.return_, 1) := by decide +kernel
abbrev cA1 : ByteArray := prog_40_method_25_code
abbrev yA1 : MethodName := ⟨"java/util/ArrayList", "add", "(Ljava/lang/Object;)Z"⟩
theorem eA1_0 : decode cA1 0 = .ok (.aload_n 0, 1) := by decide +kernel
theorem eA1_1 : decode cA1 1 = .ok (.dup, 1) := by decide +kernel
theorem eA1_2 : decode cA1 2 = .ok (.getfield 63, 3) := by decide +kernel
theorem eA1_5 : decode cA1 5 = .ok (.iconst 1, 1) := by decide +kernel
theorem eA1_6 : decode cA1 6 = .ok (.iadd, 1) := by decide +kernel
theorem eA1_7 : decode cA1 7 = .ok (.putfield 63, 3) := by decide +kernel
theorem eA1_10 : decode cA1 10 = .ok (.aload_n 0, 1) := by decide +kernel
theorem eA1_11 : decode cA1 11 = .ok (.aload_n 1, 1) := by decide +kernel
theorem eA1_12 : decode cA1 12 = .ok (.aload_n 0, 1) := by decide +kernel
theorem eA1_13 : decode cA1 13 = .ok (.getfield 9, 3) := by decide +kernel
theorem eA1_16 : decode cA1 16 = .ok (.aload_n 0, 1) := by decide +kernel
theorem eA1_17 : decode cA1 17 = .ok (.getfield 48, 3) := by decide +kernel
theorem eA1_20 : decode cA1 20 = .ok (.invokevirtual 131, 3) := by decide +kernel
theorem eA1_23 : decode cA1 23 = .ok (.iconst 1, 1) := by decide +kernel
theorem eA1_24 : decode cA1 24 = .ok (.ireturn, 1) := by decide +kernel
abbrev cAI : ByteArray := prog_40_method_26_code
abbrev yAI : MethodName := ⟨"java/util/ArrayList", "add", "(ILjava/lang/Object;)V"⟩
theorem eAI_0 : decode cAI 0 = .ok (.aload_n 0, 1) := by decide +kernel
theorem eAI_1 : decode cAI 1 = .ok (.iload_n 1, 1) := by decide +kernel
theorem eAI_2 : decode cAI 2 = .ok (.invokevirtual 135, 3) := by decide +kernel
theorem eAI_5 : decode cAI 5 = .ok (.aload_n 0, 1) := by decide +kernel
theorem eAI_6 : decode cAI 6 = .ok (.dup, 1) := by decide +kernel
theorem eAI_7 : decode cAI 7 = .ok (.getfield 63, 3) := by decide +kernel
theorem eAI_10 : decode cAI 10 = .ok (.iconst 1, 1) := by decide +kernel
theorem eAI_11 : decode cAI 11 = .ok (.iadd, 1) := by decide +kernel
theorem eAI_12 : decode cAI 12 = .ok (.putfield 63, 3) := by decide +kernel
theorem eAI_15 : decode cAI 15 = .ok (.aload_n 0, 1) := by decide +kernel
theorem eAI_16 : decode cAI 16 = .ok (.getfield 48, 3) := by decide +kernel
theorem eAI_19 : decode cAI 19 = .ok (.dup, 1) := by decide +kernel
theorem eAI_20 : decode cAI 20 = .ok (.istore_n 3, 1) := by decide +kernel
theorem eAI_21 : decode cAI 21 = .ok (.aload_n 0, 1) := by decide +kernel
theorem eAI_22 : decode cAI 22 = .ok (.getfield 9, 3) := by decide +kernel
theorem eAI_25 : decode cAI 25 = .ok (.dup, 1) := by decide +kernel
theorem eAI_26 : decode cAI 26 = .ok (.astore 4, 2) := by decide +kernel
theorem eAI_28 : decode cAI 28 = .ok (.arraylength, 1) := by decide +kernel
theorem eAI_29 : decode cAI 29 = .ok (.if_icmp .ne 9, 3) := by decide +kernel
theorem eAI_32 : decode cAI 32 = .ok (.aload_n 0, 1) := by decide +kernel
theorem eAI_33 : decode cAI 33 = .ok (.invokevirtual 129, 3) := by decide +kernel
theorem eAI_36 : decode cAI 36 = .ok (.astore 4, 2) := by decide +kernel
theorem eAI_38 : decode cAI 38 = .ok (.aload 4, 2) := by decide +kernel
theorem eAI_40 : decode cAI 40 = .ok (.iload_n 1, 1) := by decide +kernel
theorem eAI_41 : decode cAI 41 = .ok (.aload 4, 2) := by decide +kernel
theorem eAI_43 : decode cAI 43 = .ok (.iload_n 1, 1) := by decide +kernel
theorem eAI_44 : decode cAI 44 = .ok (.iconst 1, 1) := by decide +kernel
theorem eAI_45 : decode cAI 45 = .ok (.iadd, 1) := by decide +kernel
theorem eAI_46 : decode cAI 46 = .ok (.iload_n 3, 1) := by decide +kernel
theorem eAI_47 : decode cAI 47 = .ok (.iload_n 1, 1) := by decide +kernel
theorem eAI_48 : decode cAI 48 = .ok (.isub, 1) := by decide +kernel
theorem eAI_49 : decode cAI 49 = .ok (.invokestatic 112, 3) := by decide +kernel
theorem eAI_52 : decode cAI 52 = .ok (.aload 4, 2) := by decide +kernel
theorem eAI_54 : decode cAI 54 = .ok (.iload_n 1, 1) := by decide +kernel
theorem eAI_55 : decode cAI 55 = .ok (.aload_n 2, 1) := by decide +kernel
theorem eAI_56 : decode cAI 56 = .ok (.aastore, 1) := by decide +kernel
theorem eAI_57 : decode cAI 57 = .ok (.aload_n 0, 1) := by decide +kernel
theorem eAI_58 : decode cAI 58 = .ok (.iload_n 3, 1) := by decide +kernel
theorem eAI_59 : decode cAI 59 = .ok (.iconst 1, 1) := by decide +kernel
theorem eAI_60 : decode cAI 60 = .ok (.iadd, 1) := by decide +kernel
theorem eAI_61 : decode cAI 61 = .ok (.putfield 48, 3) := by decide +kernel
theorem eAI_64 : decode cAI 64 = .ok (.return_, 1) := by decide +kernel
abbrev cFR : ByteArray := prog_40_method_39_code
abbrev yFR : MethodName := ⟨"java/util/ArrayList", "fastRemove", "([Ljava/lang/Object;I)V"⟩
theorem eFR_0 : decode cFR 0 = .ok (.aload_n 0, 1) := by decide +kernel
theorem eFR_1 : decode cFR 1 = .ok (.dup, 1) := by decide +kernel
theorem eFR_2 : decode cFR 2 = .ok (.getfield 63, 3) := by decide +kernel
theorem eFR_5 : decode cFR 5 = .ok (.iconst 1, 1) := by decide +kernel
theorem eFR_6 : decode cFR 6 = .ok (.iadd, 1) := by decide +kernel
theorem eFR_7 : decode cFR 7 = .ok (.putfield 63, 3) := by decide +kernel
theorem eFR_10 : decode cFR 10 = .ok (.aload_n 0, 1) := by decide +kernel
theorem eFR_11 : decode cFR 11 = .ok (.getfield 48, 3) := by decide +kernel
theorem eFR_14 : decode cFR 14 = .ok (.iconst 1, 1) := by decide +kernel
theorem eFR_15 : decode cFR 15 = .ok (.isub, 1) := by decide +kernel
theorem eFR_16 : decode cFR 16 = .ok (.dup, 1) := by decide +kernel
theorem eFR_17 : decode cFR 17 = .ok (.istore_n 3, 1) := by decide +kernel
theorem eFR_18 : decode cFR 18 = .ok (.iload_n 2, 1) := by decide +kernel
theorem eFR_19 : decode cFR 19 = .ok (.if_icmp .le 15, 3) := by decide +kernel
theorem eFR_22 : decode cFR 22 = .ok (.aload_n 1, 1) := by decide +kernel
theorem eFR_23 : decode cFR 23 = .ok (.iload_n 2, 1) := by decide +kernel
theorem eFR_24 : decode cFR 24 = .ok (.iconst 1, 1) := by decide +kernel
theorem eFR_25 : decode cFR 25 = .ok (.iadd, 1) := by decide +kernel
theorem eFR_26 : decode cFR 26 = .ok (.aload_n 1, 1) := by decide +kernel
theorem eFR_27 : decode cFR 27 = .ok (.iload_n 2, 1) := by decide +kernel
theorem eFR_28 : decode cFR 28 = .ok (.iload_n 3, 1) := by decide +kernel
theorem eFR_29 : decode cFR 29 = .ok (.iload_n 2, 1) := by decide +kernel
theorem eFR_30 : decode cFR 30 = .ok (.isub, 1) := by decide +kernel
theorem eFR_31 : decode cFR 31 = .ok (.invokestatic 112, 3) := by decide +kernel
theorem eFR_34 : decode cFR 34 = .ok (.aload_n 1, 1) := by decide +kernel
theorem eFR_35 : decode cFR 35 = .ok (.aload_n 0, 1) := by decide +kernel
theorem eFR_36 : decode cFR 36 = .ok (.iload_n 3, 1) := by decide +kernel
theorem eFR_37 : decode cFR 37 = .ok (.dup_x1, 1) := by decide +kernel
theorem eFR_38 : decode cFR 38 = .ok (.putfield 48, 3) := by decide +kernel
theorem eFR_41 : decode cFR 41 = .ok (.aconst_null, 1) := by decide +kernel
theorem eFR_42 : decode cFR 42 = .ok (.aastore, 1) := by decide +kernel
theorem eFR_43 : decode cFR 43 = .ok (.return_, 1) := by decide +kernel
abbrev cRM : ByteArray := prog_40_method_29_code
abbrev yRM : MethodName := ⟨"java/util/ArrayList", "remove", "(I)Ljava/lang/Object;"⟩
theorem eRM_0 : decode cRM 0 = .ok (.iload_n 1, 1) := by decide +kernel
theorem eRM_1 : decode cRM 1 = .ok (.aload_n 0, 1) := by decide +kernel
theorem eRM_2 : decode cRM 2 = .ok (.getfield 48, 3) := by decide +kernel
theorem eRM_5 : decode cRM 5 = .ok (.invokestatic 118, 3) := by decide +kernel
theorem eRM_8 : decode cRM 8 = .ok (.pop, 1) := by decide +kernel
theorem eRM_9 : decode cRM 9 = .ok (.aload_n 0, 1) := by decide +kernel
theorem eRM_10 : decode cRM 10 = .ok (.getfield 9, 3) := by decide +kernel
theorem eRM_13 : decode cRM 13 = .ok (.astore_n 2, 1) := by decide +kernel
theorem eRM_14 : decode cRM 14 = .ok (.aload_n 2, 1) := by decide +kernel
theorem eRM_15 : decode cRM 15 = .ok (.iload_n 1, 1) := by decide +kernel
theorem eRM_16 : decode cRM 16 = .ok (.aaload, 1) := by decide +kernel
theorem eRM_17 : decode cRM 17 = .ok (.astore_n 3, 1) := by decide +kernel
theorem eRM_18 : decode cRM 18 = .ok (.aload_n 0, 1) := by decide +kernel
theorem eRM_19 : decode cRM 19 = .ok (.aload_n 2, 1) := by decide +kernel
theorem eRM_20 : decode cRM 20 = .ok (.iload_n 1, 1) := by decide +kernel
theorem eRM_21 : decode cRM 21 = .ok (.invokevirtual 144, 3) := by decide +kernel
theorem eRM_24 : decode cRM 24 = .ok (.aload_n 3, 1) := by decide +kernel
theorem eRM_25 : decode cRM 25 = .ok (.areturn, 1) := by decide +kernel
abbrev cCL : ByteArray := prog_40_method_40_code
abbrev yCL : MethodName := ⟨"java/util/ArrayList", "clear", "()V"⟩
theorem eCL_0 : decode cCL 0 = .ok (.aload_n 0, 1) := by decide +kernel
theorem eCL_1 : decode cCL 1 = .ok (.dup, 1) := by decide +kernel
theorem eCL_2 : decode cCL 2 = .ok (.getfield 63, 3) := by decide +kernel
theorem eCL_5 : decode cCL 5 = .ok (.iconst 1, 1) := by decide +kernel
theorem eCL_6 : decode cCL 6 = .ok (.iadd, 1) := by decide +kernel
theorem eCL_7 : decode cCL 7 = .ok (.putfield 63, 3) := by decide +kernel
theorem eCL_10 : decode cCL 10 = .ok (.aload_n 0, 1) := by decide +kernel
theorem eCL_11 : decode cCL 11 = .ok (.getfield 9, 3) := by decide +kernel
theorem eCL_14 : decode cCL 14 = .ok (.astore_n 1, 1) := by decide +kernel
theorem eCL_15 : decode cCL 15 = .ok (.aload_n 0, 1) := by decide +kernel
theorem eCL_16 : decode cCL 16 = .ok (.getfield 48, 3) := by decide +kernel
theorem eCL_19 : decode cCL 19 = .ok (.istore_n 2, 1) := by decide +kernel
theorem eCL_20 : decode cCL 20 = .ok (.aload_n 0, 1) := by decide +kernel
theorem eCL_21 : decode cCL 21 = .ok (.iconst 0, 1) := by decide +kernel
theorem eCL_22 : decode cCL 22 = .ok (.dup_x1, 1) := by decide +kernel
theorem eCL_23 : decode cCL 23 = .ok (.putfield 48, 3) := by decide +kernel
theorem eCL_26 : decode cCL 26 = .ok (.istore_n 3, 1) := by decide +kernel
theorem eCL_27 : decode cCL 27 = .ok (.iload_n 3, 1) := by decide +kernel
theorem eCL_28 : decode cCL 28 = .ok (.iload_n 2, 1) := by decide +kernel
theorem eCL_29 : decode cCL 29 = .ok (.if_icmp .ge 13, 3) := by decide +kernel
theorem eCL_32 : decode cCL 32 = .ok (.aload_n 1, 1) := by decide +kernel
theorem eCL_33 : decode cCL 33 = .ok (.iload_n 3, 1) := by decide +kernel
theorem eCL_34 : decode cCL 34 = .ok (.aconst_null, 1) := by decide +kernel
theorem eCL_35 : decode cCL 35 = .ok (.aastore, 1) := by decide +kernel
theorem eCL_36 : decode cCL 36 = .ok (.iinc 3 1, 3) := by decide +kernel
theorem eCL_39 : decode cCL 39 = .ok (.goto (-12), 3) := by decide +kernel
theorem eCL_42 : decode cCL 42 = .ok (.return_, 1) := by decide +kernel
abbrev cIN : ByteArray := prog_40_method_2_code
abbrev yIN : MethodName := ⟨"java/util/ArrayList", "<init>", "()V"⟩
theorem eIN_0 : decode cIN 0 = .ok (.aload_n 0, 1) := by decide +kernel
theorem eIN_1 : decode cIN 1 = .ok (.invokespecial 1, 3) := by decide +kernel
theorem eIN_4 : decode cIN 4 = .ok (.aload_n 0, 1) := by decide +kernel
theorem eIN_5 : decode cIN 5 = .ok (.getstatic 39, 3) := by decide +kernel
theorem eIN_8 : decode cIN 8 = .ok (.putfield 9, 3) := by decide +kernel
theorem eIN_11 : decode cIN 11 = .ok (.return_, 1) := by decide +kernel
abbrev cIL : ByteArray := prog_39_method_1_code
abbrev yIL : MethodName := ⟨"java/util/AbstractList", "<init>", "()V"⟩
theorem eIL_0 : decode cIL 0 = .ok (.aload_n 0, 1) := by decide +kernel
theorem eIL_1 : decode cIL 1 = .ok (.invokespecial 1, 3) := by decide +kernel
theorem eIL_4 : decode cIL 4 = .ok (.aload_n 0, 1) := by decide +kernel
theorem eIL_5 : decode cIL 5 = .ok (.iconst 0, 1) := by decide +kernel
theorem eIL_6 : decode cIL 6 = .ok (.putfield 7, 3) := by decide +kernel
theorem eIL_9 : decode cIL 9 = .ok (.return_, 1) := by decide +kernel
abbrev cIC : ByteArray := prog_38_method_1_code
abbrev yIC : MethodName := ⟨"java/util/AbstractCollection", "<init>", "()V"⟩
theorem eIC_0 : decode cIC 0 = .ok (.aload_n 0, 1) := by decide +kernel
theorem eIC_1 : decode cIC 1 = .ok (.invokespecial 1, 3) := by decide +kernel
theorem eIC_4 : decode cIC 4 = .ok (.return_, 1) := by decide +kernel
