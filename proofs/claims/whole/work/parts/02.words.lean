def LW : List Cond := lw_tbl.filter goodWord
theorem lwm {w : Cond} (i : Nat) (h : lw_tbl[i]? = some w) (g : goodWord w = true) : w ∈ LW := List.mem_filter.mpr ⟨List.mem_of_getElem? h, g⟩
theorem lw_LW {args : Array Value} {s : State} (h : ∀ w ∈ lw_tbl, w.before args s = true) : ∀ w ∈ LW, w.before args s = true := fun w hw => h w (List.mem_filter.mp hw).1
theorem lw_good {y : Cond} {c : Cond} (hc : c ∈ LW) : GoodIn (y :: LW) (c :: LW) := fun w hw => by
  rcases List.mem_cons.mp hw with rfl | h
  · exact ⟨List.mem_cons_of_mem _ hc, good_of_word (List.mem_filter.mp hc).2⟩
  · exact ⟨List.mem_cons_of_mem _ h, good_of_word (List.mem_filter.mp h).2⟩
theorem lw_good0 {c : Cond} (hc : c ∈ LW) : GoodIn LW (c :: LW) := fun w hw => by
  rcases List.mem_cons.mp hw with rfl | h
  · exact ⟨hc, good_of_word (List.mem_filter.mp hc).2⟩
  · exact ⟨h, good_of_word (List.mem_filter.mp h).2⟩
theorem lwt1 {w : Cond} (i : Nat) (h : tables_1_1[i]? = some w) (g : goodWord w = true) : w ∈ LW := List.mem_filter.mpr ⟨List.mem_append_right _ (List.mem_append_left _ (List.mem_of_getElem? h)), g⟩
theorem lwt2 {w : Cond} (i : Nat) (h : tables_1_2[i]? = some w) (g : goodWord w = true) : w ∈ LW := List.mem_filter.mpr ⟨List.mem_append_right _ (List.mem_append_right _ (List.mem_append_left _ (List.mem_of_getElem? h))), g⟩
theorem lwt3 {w : Cond} (i : Nat) (h : tables_1_3[i]? = some w) (g : goodWord w = true) : w ∈ LW := List.mem_filter.mpr ⟨List.mem_append_right _ (List.mem_append_right _ (List.mem_append_right _ (List.mem_append_left _ (List.mem_of_getElem? h)))), g⟩
theorem lwt4 {w : Cond} (i : Nat) (h : tables_1_4[i]? = some w) (g : goodWord w = true) : w ∈ LW := List.mem_filter.mpr ⟨List.mem_append_right _ (List.mem_append_right _ (List.mem_append_right _ (List.mem_append_right _ (List.mem_of_getElem? h)))), g⟩
theorem kw37 : (Jvm.Cond.initialized "DishRoundsLaw") ∈ LW := lwt1 0 rfl rfl
theorem kw38 : (Jvm.Cond.initialized "DishRounds") ∈ LW := lwt1 1 rfl rfl
theorem kw39 : (Jvm.Cond.initialized "DishRounds$World") ∈ LW := lwt1 2 rfl rfl
theorem kw40 : (Jvm.Cond.initialized "DishRounds$Sky") ∈ LW := lwt1 3 rfl rfl
theorem kw41 : (Jvm.Cond.initialized "DishRounds$Flight") ∈ LW := lwt1 4 rfl rfl
theorem kw42 : (Jvm.Cond.initialized "DishRounds$Mount") ∈ LW := lwt1 5 rfl rfl
theorem kw43 : (Jvm.Cond.initialized "DishRounds$Search") ∈ LW := lwt1 6 rfl rfl
theorem kw44 : (Jvm.Cond.initialized "DishRounds$Way") ∈ LW := lwt1 7 rfl rfl
theorem kw45 : (Jvm.Cond.initialized "DishRoundsModel") ∈ LW := lwt1 8 rfl rfl
theorem kw46 : (Jvm.Cond.initialized "java/lang/Math") ∈ LW := lwt1 9 rfl rfl
theorem kw47 : (Jvm.Cond.initialized "java/util/Arrays") ∈ LW := lwt1 10 rfl rfl
theorem kw48 : (Jvm.Cond.initialized "java/lang/System") ∈ LW := lwt1 11 rfl rfl
theorem kw49 : (Jvm.Cond.classLink "DishRoundsLaw" (7 : Nat) "DishRounds") ∈ LW := lwt1 12 rfl rfl
theorem kw50 : (Jvm.Cond.instantiable "DishRounds" (4 : Nat)) ∈ LW := lwt1 13 rfl rfl
theorem kw51 : (Jvm.Cond.methodLink "DishRoundsLaw" (9 : Nat) ({ cls := "DishRounds", name := "<init>", desc := "()V" } : Jvm.MethodName)) ∈ LW := lwt1 14 rfl rfl
theorem kw52 : (Jvm.Cond.instanceMethod ({ cls := "DishRounds", name := "<init>", desc := "()V" } : Jvm.MethodName)) ∈ LW := lwt1 15 rfl rfl
theorem kw53 : (Jvm.Cond.code ({ cls := "DishRounds", name := "<init>", desc := "()V" } : Jvm.MethodName) prog_1_method_1_code (2 : Nat) (Option.none : Option Jvm.ClassFile.FieldType)) ∈ LW := lwt1 16 rfl rfl
theorem kw54 : (Jvm.Cond.methodLink "DishRounds" (3 : Nat) ({ cls := "java/lang/Object", name := "<init>", desc := "()V" } : Jvm.MethodName)) ∈ LW := lwt1 17 rfl rfl
theorem kw55 : (Jvm.Cond.instanceMethod ({ cls := "java/lang/Object", name := "<init>", desc := "()V" } : Jvm.MethodName)) ∈ LW := lwt1 18 rfl rfl
theorem kw56 : (Jvm.Cond.code ({ cls := "java/lang/Object", name := "<init>", desc := "()V" } : Jvm.MethodName) object_method_1_code (1 : Nat) (Option.none : Option Jvm.ClassFile.FieldType)) ∈ LW := lwt1 19 rfl rfl
theorem kw57 : (Jvm.Cond.classLink "DishRounds" (9 : Nat) "DishRounds$World") ∈ LW := lwt1 20 rfl rfl
theorem kw58 : (Jvm.Cond.instantiable "DishRounds$World" (5 : Nat)) ∈ LW := lwt1 21 rfl rfl
theorem kw59 : (Jvm.Cond.methodLink "DishRounds" (11 : Nat) ({ cls := "DishRounds$World", name := "<init>", desc := "()V" } : Jvm.MethodName)) ∈ LW := lwt1 22 rfl rfl
theorem kw60 : (Jvm.Cond.instanceMethod ({ cls := "DishRounds$World", name := "<init>", desc := "()V" } : Jvm.MethodName)) ∈ LW := lwt1 23 rfl rfl
theorem kw61 : (Jvm.Cond.code ({ cls := "DishRounds$World", name := "<init>", desc := "()V" } : Jvm.MethodName) prog_7_method_1_code (2 : Nat) (Option.none : Option Jvm.ClassFile.FieldType)) ∈ LW := lwt1 24 rfl rfl
theorem kw62 : (Jvm.Cond.methodLink "DishRounds$World" (3 : Nat) ({ cls := "java/lang/Object", name := "<init>", desc := "()V" } : Jvm.MethodName)) ∈ LW := lwt1 25 rfl rfl
theorem kw63 : (Jvm.Cond.classLink "DishRounds$World" (9 : Nat) "DishRounds$Flight") ∈ LW := lwt1 26 rfl rfl
theorem kw65 : (Jvm.Cond.classLink "DishRounds$World" (17 : Nat) "DishRounds$Mount") ∈ LW := lwt1 28 rfl rfl
theorem kw67 : (Jvm.Cond.classLink "DishRounds$World" (23 : Nat) "DishRounds$Sky") ∈ LW := lwt1 30 rfl rfl
theorem kw68 : (Jvm.Cond.instantiable "DishRounds$Sky" (7 : Nat)) ∈ LW := lwt1 31 rfl rfl
theorem kw70 : (Jvm.Cond.instanceMethod ({ cls := "DishRounds$Sky", name := "<init>", desc := "()V" } : Jvm.MethodName)) ∈ LW := lwt1 33 rfl rfl
theorem kw71 : (Jvm.Cond.code ({ cls := "DishRounds$Sky", name := "<init>", desc := "()V" } : Jvm.MethodName) prog_5_method_1_code (1 : Nat) (Option.none : Option Jvm.ClassFile.FieldType)) ∈ LW := lwt1 34 rfl rfl
theorem kw72 : (Jvm.Cond.methodLink "DishRounds$Sky" (3 : Nat) ({ cls := "java/lang/Object", name := "<init>", desc := "()V" } : Jvm.MethodName)) ∈ LW := lwt1 35 rfl rfl
theorem kw73 : (Jvm.Cond.fieldLink "DishRounds$Sky" (9 : Nat) "DishRounds$Sky" "sunFrom" "I") ∈ LW := lwt1 36 rfl rfl
theorem kw74 : (Jvm.Cond.fieldLink "DishRounds" (233 : Nat) "DishRounds$Sky" "sunFrom" "I") ∈ LW := lwt1 37 rfl rfl
theorem kw75 : (Jvm.Cond.fieldLink "DishRounds$Sky" (15 : Nat) "DishRounds$Sky" "sunEvery" "I") ∈ LW := lwt1 38 rfl rfl
theorem kw76 : (Jvm.Cond.fieldLink "DishRounds$Sky" (18 : Nat) "DishRounds$Sky" "sunHeight" "I") ∈ LW := lwt1 39 rfl rfl
theorem kw77 : (Jvm.Cond.fieldLink "DishRounds" (236 : Nat) "DishRounds$Sky" "sunHeight" "I") ∈ LW := lwt1 40 rfl rfl
theorem kw78 : (Jvm.Cond.fieldLink "DishRounds$Sky" (21 : Nat) "DishRounds$Sky" "cone" "I") ∈ LW := lwt1 41 rfl rfl
theorem kw79 : (Jvm.Cond.fieldLink "DishRounds" (239 : Nat) "DishRounds$Sky" "cone" "I") ∈ LW := lwt1 42 rfl rfl
theorem kw80 : (Jvm.Cond.fieldLink "DishRounds$Sky" (24 : Nat) "DishRounds$Sky" "stormFrom" "I") ∈ LW := lwt1 43 rfl rfl
theorem kw81 : (Jvm.Cond.fieldLink "DishRounds" (121 : Nat) "DishRounds$Sky" "stormFrom" "I") ∈ LW := lwt1 44 rfl rfl
theorem kw82 : (Jvm.Cond.fieldLink "DishRounds$Sky" (27 : Nat) "DishRounds$Sky" "stormTill" "I") ∈ LW := lwt1 45 rfl rfl
theorem kw83 : (Jvm.Cond.fieldLink "DishRounds" (124 : Nat) "DishRounds$Sky" "stormTill" "I") ∈ LW := lwt1 46 rfl rfl
theorem kw84 : (Jvm.Cond.fieldLink "DishRounds$Sky" (30 : Nat) "DishRounds$Sky" "highest" "I") ∈ LW := lwt1 47 rfl rfl
theorem kw85 : (Jvm.Cond.fieldLink "DishRounds" (127 : Nat) "DishRounds$Sky" "highest" "I") ∈ LW := lwt1 48 rfl rfl
theorem kw86 : (Jvm.Cond.fieldLink "DishRounds$Search" (228 : Nat) "DishRounds$Sky" "highest" "I") ∈ LW := lwt1 49 rfl rfl
theorem kw102 : (Jvm.Cond.instantiable "DishRounds$Flight" (7 : Nat)) ∈ LW := lwt1 65 rfl rfl
theorem kw104 : (Jvm.Cond.instanceMethod ({ cls := "DishRounds$Flight", name := "<init>", desc := "()V" } : Jvm.MethodName)) ∈ LW := lwt1 67 rfl rfl
theorem kw105 : (Jvm.Cond.code ({ cls := "DishRounds$Flight", name := "<init>", desc := "()V" } : Jvm.MethodName) prog_2_method_1_code (1 : Nat) (Option.none : Option Jvm.ClassFile.FieldType)) ∈ LW := lwt1 68 rfl rfl
theorem kw106 : (Jvm.Cond.methodLink "DishRounds$Flight" (3 : Nat) ({ cls := "java/lang/Object", name := "<init>", desc := "()V" } : Jvm.MethodName)) ∈ LW := lwt1 69 rfl rfl
theorem kw107 : (Jvm.Cond.fieldLink "DishRounds$Flight" (9 : Nat) "DishRounds$Flight" "sides" "[I") ∈ LW := lwt1 70 rfl rfl
theorem kw108 : (Jvm.Cond.fieldLink "DishRounds$Search" (231 : Nat) "DishRounds$Flight" "sides" "[I") ∈ LW := lwt1 71 rfl rfl
theorem kw109 : (Jvm.Cond.fieldLink "DishRounds" (252 : Nat) "DishRounds$Flight" "sides" "[I") ∈ LW := lwt1 72 rfl rfl
theorem kw110 : (Jvm.Cond.fieldLink "DishRounds$Flight" (15 : Nat) "DishRounds$Flight" "heights" "[I") ∈ LW := lwt1 73 rfl rfl
theorem kw111 : (Jvm.Cond.fieldLink "DishRounds$Search" (225 : Nat) "DishRounds$Flight" "heights" "[I") ∈ LW := lwt1 74 rfl rfl
theorem kw112 : (Jvm.Cond.fieldLink "DishRounds" (255 : Nat) "DishRounds$Flight" "heights" "[I") ∈ LW := lwt1 75 rfl rfl
theorem kw113 : (Jvm.Cond.fieldLink "DishRounds$Flight" (18 : Nat) "DishRounds$Flight" "name" "I") ∈ LW := lwt1 76 rfl rfl
theorem kw114 : (Jvm.Cond.fieldLink "DishRounds$Search" (67 : Nat) "DishRounds$Flight" "name" "I") ∈ LW := lwt1 77 rfl rfl
theorem kw115 : (Jvm.Cond.fieldLink "DishRounds$World" (56 : Nat) "DishRounds$Flight" "name" "I") ∈ LW := lwt1 78 rfl rfl
theorem kw116 : (Jvm.Cond.fieldLink "DishRounds" (142 : Nat) "DishRounds$Flight" "name" "I") ∈ LW := lwt1 79 rfl rfl
theorem kw117 : (Jvm.Cond.fieldLink "DishRounds$Flight" (22 : Nat) "DishRounds$Flight" "begin" "I") ∈ LW := lwt1 80 rfl rfl
theorem kw118 : (Jvm.Cond.fieldLink "DishRounds$World" (63 : Nat) "DishRounds$Flight" "begin" "I") ∈ LW := lwt1 81 rfl rfl
theorem kw119 : (Jvm.Cond.fieldLink "DishRounds$Search" (192 : Nat) "DishRounds$Flight" "begin" "I") ∈ LW := lwt1 82 rfl rfl
theorem kw120 : (Jvm.Cond.fieldLink "DishRounds" (133 : Nat) "DishRounds$Flight" "begin" "I") ∈ LW := lwt1 83 rfl rfl
theorem kw121 : (Jvm.Cond.fieldLink "DishRounds$Flight" (25 : Nat) "DishRounds$Flight" "size" "I") ∈ LW := lwt1 84 rfl rfl
theorem kw122 : (Jvm.Cond.fieldLink "DishRounds" (66 : Nat) "DishRounds$Flight" "size" "I") ∈ LW := lwt1 85 rfl rfl
theorem kw123 : (Jvm.Cond.fieldLink "DishRounds$World" (69 : Nat) "DishRounds$Flight" "size" "I") ∈ LW := lwt1 86 rfl rfl
theorem kw124 : (Jvm.Cond.fieldLink "DishRounds$Search" (189 : Nat) "DishRounds$Flight" "size" "I") ∈ LW := lwt1 87 rfl rfl
theorem kw125 : (Jvm.Cond.fieldLink "DishRounds$Flight" (28 : Nat) "DishRounds$Flight" "taker" "I") ∈ LW := lwt1 88 rfl rfl
theorem kw126 : (Jvm.Cond.fieldLink "DishRounds" (136 : Nat) "DishRounds$Flight" "taker" "I") ∈ LW := lwt1 89 rfl rfl
theorem kw127 : (Jvm.Cond.fieldLink "DishRounds$Flight" (31 : Nat) "DishRounds$Flight" "seenThen" "I") ∈ LW := lwt1 90 rfl rfl
theorem kw128 : (Jvm.Cond.fieldLink "DishRounds" (139 : Nat) "DishRounds$Flight" "seenThen" "I") ∈ LW := lwt1 91 rfl rfl
theorem kw144 : (Jvm.Cond.arrayClass Jvm.ClassFile.FieldType.int) ∈ LW := lwt1 107 rfl rfl
theorem kw145 : (Jvm.Cond.instantiable "DishRounds$Mount" (5 : Nat)) ∈ LW := lwt1 108 rfl rfl
theorem kw147 : (Jvm.Cond.instanceMethod ({ cls := "DishRounds$Mount", name := "<init>", desc := "()V" } : Jvm.MethodName)) ∈ LW := lwt1 110 rfl rfl
theorem kw148 : (Jvm.Cond.code ({ cls := "DishRounds$Mount", name := "<init>", desc := "()V" } : Jvm.MethodName) prog_3_method_1_code (1 : Nat) (Option.none : Option Jvm.ClassFile.FieldType)) ∈ LW := lwt1 111 rfl rfl
theorem kw149 : (Jvm.Cond.methodLink "DishRounds$Mount" (3 : Nat) ({ cls := "java/lang/Object", name := "<init>", desc := "()V" } : Jvm.MethodName)) ∈ LW := lwt1 112 rfl rfl
theorem kw150 : (Jvm.Cond.fieldLink "DishRounds$Mount" (9 : Nat) "DishRounds$Mount" "wind" "I") ∈ LW := lwt1 113 rfl rfl
theorem kw151 : (Jvm.Cond.fieldLink "DishRounds$Search" (126 : Nat) "DishRounds$Mount" "wind" "I") ∈ LW := lwt1 114 rfl rfl
theorem kw152 : (Jvm.Cond.fieldLink "DishRounds" (102 : Nat) "DishRounds$Mount" "wind" "I") ∈ LW := lwt1 115 rfl rfl
theorem kw153 : (Jvm.Cond.fieldLink "DishRounds$Mount" (15 : Nat) "DishRounds$Mount" "height" "I") ∈ LW := lwt1 116 rfl rfl
theorem kw154 : (Jvm.Cond.fieldLink "DishRounds$Search" (132 : Nat) "DishRounds$Mount" "height" "I") ∈ LW := lwt1 117 rfl rfl
theorem kw155 : (Jvm.Cond.fieldLink "DishRounds" (145 : Nat) "DishRounds$Mount" "height" "I") ∈ LW := lwt1 118 rfl rfl
theorem kw156 : (Jvm.Cond.fieldLink "DishRounds$Mount" (18 : Nat) "DishRounds$Mount" "free" "I") ∈ LW := lwt1 119 rfl rfl
theorem kw157 : (Jvm.Cond.fieldLink "DishRounds$Search" (74 : Nat) "DishRounds$Mount" "free" "I") ∈ LW := lwt1 120 rfl rfl
theorem kw158 : (Jvm.Cond.fieldLink "DishRounds" (148 : Nat) "DishRounds$Mount" "free" "I") ∈ LW := lwt1 121 rfl rfl
theorem kw159 : (Jvm.Cond.fieldLink "DishRounds$Mount" (21 : Nat) "DishRounds$Mount" "limit" "I") ∈ LW := lwt1 122 rfl rfl
theorem kw160 : (Jvm.Cond.fieldLink "DishRounds" (84 : Nat) "DishRounds$Mount" "limit" "I") ∈ LW := lwt1 123 rfl rfl
theorem kw161 : (Jvm.Cond.fieldLink "DishRounds$Search" (129 : Nat) "DishRounds$Mount" "limit" "I") ∈ LW := lwt1 124 rfl rfl
theorem kw162 : (Jvm.Cond.fieldLink "DishRounds$Mount" (24 : Nat) "DishRounds$Mount" "speed" "I") ∈ LW := lwt1 125 rfl rfl
theorem kw163 : (Jvm.Cond.fieldLink "DishRounds" (105 : Nat) "DishRounds$Mount" "speed" "I") ∈ LW := lwt1 126 rfl rfl
theorem kw164 : (Jvm.Cond.fieldLink "DishRounds$Search" (164 : Nat) "DishRounds$Mount" "speed" "I") ∈ LW := lwt1 127 rfl rfl
theorem kw176 : (Jvm.Cond.fieldLink "DishRounds$World" (11 : Nat) "DishRounds$World" "flights" "[LDishRounds$Flight;") ∈ LW := lwt1 139 rfl rfl
theorem kw177 : (Jvm.Cond.fieldLink "DishRounds$Search" (55 : Nat) "DishRounds$World" "flights" "[LDishRounds$Flight;") ∈ LW := lwt1 140 rfl rfl
theorem kw178 : (Jvm.Cond.fieldLink "DishRounds" (45 : Nat) "DishRounds$World" "flights" "[LDishRounds$Flight;") ∈ LW := lwt1 141 rfl rfl
theorem kw179 : (Jvm.Cond.fieldLink "DishRounds$World" (19 : Nat) "DishRounds$World" "mounts" "[LDishRounds$Mount;") ∈ LW := lwt1 142 rfl rfl
theorem kw180 : (Jvm.Cond.fieldLink "DishRounds$Search" (45 : Nat) "DishRounds$World" "mounts" "[LDishRounds$Mount;") ∈ LW := lwt1 143 rfl rfl
theorem kw181 : (Jvm.Cond.fieldLink "DishRounds" (80 : Nat) "DishRounds$World" "mounts" "[LDishRounds$Mount;") ∈ LW := lwt1 144 rfl rfl
theorem kw182 : (Jvm.Cond.fieldLink "DishRounds$World" (26 : Nat) "DishRounds$World" "sky" "LDishRounds$Sky;") ∈ LW := lwt1 145 rfl rfl
theorem kw183 : (Jvm.Cond.fieldLink "DishRounds" (111 : Nat) "DishRounds$World" "sky" "LDishRounds$Sky;") ∈ LW := lwt1 146 rfl rfl
theorem kw184 : (Jvm.Cond.fieldLink "DishRounds$Search" (206 : Nat) "DishRounds$World" "sky" "LDishRounds$Sky;") ∈ LW := lwt1 147 rfl rfl
theorem kw185 : (Jvm.Cond.fieldLink "DishRounds$World" (30 : Nat) "DishRounds$World" "looks" "[I") ∈ LW := lwt1 148 rfl rfl
theorem kw186 : (Jvm.Cond.fieldLink "DishRounds" (217 : Nat) "DishRounds$World" "looks" "[I") ∈ LW := lwt1 149 rfl rfl
theorem kw187 : (Jvm.Cond.fieldLink "DishRounds$World" (34 : Nat) "DishRounds$World" "flightCount" "I") ∈ LW := lwt1 150 rfl rfl
theorem kw188 : (Jvm.Cond.fieldLink "DishRounds" (41 : Nat) "DishRounds$World" "flightCount" "I") ∈ LW := lwt1 151 rfl rfl
theorem kw201 : (Jvm.Cond.classLink "DishRounds" (24 : Nat) "DishRounds$Search") ∈ LW := lwt1 164 rfl rfl
theorem kw202 : (Jvm.Cond.instantiable "DishRounds$Search" (11 : Nat)) ∈ LW := lwt1 165 rfl rfl
theorem kw203 : (Jvm.Cond.methodLink "DishRounds" (26 : Nat) ({ cls := "DishRounds$Search", name := "<init>", desc := "(LDishRounds$World;)V" } : Jvm.MethodName)) ∈ LW := lwt1 166 rfl rfl
theorem kw204 : (Jvm.Cond.instanceMethod ({ cls := "DishRounds$Search", name := "<init>", desc := "(LDishRounds$World;)V" } : Jvm.MethodName)) ∈ LW := lwt1 167 rfl rfl
theorem kw205 : (Jvm.Cond.code ({ cls := "DishRounds$Search", name := "<init>", desc := "(LDishRounds$World;)V" } : Jvm.MethodName) prog_4_method_1_code (3 : Nat) (Option.none : Option Jvm.ClassFile.FieldType)) ∈ LW := lwt1 168 rfl rfl
theorem kw206 : (Jvm.Cond.methodLink "DishRounds$Search" (3 : Nat) ({ cls := "java/lang/Object", name := "<init>", desc := "()V" } : Jvm.MethodName)) ∈ LW := lwt1 169 rfl rfl
theorem kw207 : (Jvm.Cond.classLink "DishRounds$Search" (9 : Nat) "DishRounds$Way") ∈ LW := lwt1 170 rfl rfl
theorem kw209 : (Jvm.Cond.constant "DishRounds$Search" (17 : Nat) (38836 : Int32)) ∈ LW := lwt1 172 rfl rfl
theorem kw210 : (Jvm.Cond.instantiable "DishRounds$Way" (14 : Nat)) ∈ LW := lwt1 173 rfl rfl
theorem kw212 : (Jvm.Cond.instanceMethod ({ cls := "DishRounds$Way", name := "<init>", desc := "()V" } : Jvm.MethodName)) ∈ LW := lwt1 175 rfl rfl
theorem kw213 : (Jvm.Cond.code ({ cls := "DishRounds$Way", name := "<init>", desc := "()V" } : Jvm.MethodName) prog_6_method_1_code (1 : Nat) (Option.none : Option Jvm.ClassFile.FieldType)) ∈ LW := lwt1 176 rfl rfl
theorem kw214 : (Jvm.Cond.methodLink "DishRounds$Way" (3 : Nat) ({ cls := "java/lang/Object", name := "<init>", desc := "()V" } : Jvm.MethodName)) ∈ LW := lwt1 177 rfl rfl
theorem kw215 : (Jvm.Cond.fieldLink "DishRounds$Way" (9 : Nat) "DishRounds$Way" "winds" "[I") ∈ LW := lwt1 178 rfl rfl
theorem kw216 : (Jvm.Cond.fieldLink "DishRounds" (179 : Nat) "DishRounds$Way" "winds" "[I") ∈ LW := lwt1 179 rfl rfl
theorem kw217 : (Jvm.Cond.fieldLink "DishRounds$Way" (15 : Nat) "DishRounds$Way" "heights" "[I") ∈ LW := lwt1 180 rfl rfl
theorem kw218 : (Jvm.Cond.fieldLink "DishRounds" (186 : Nat) "DishRounds$Way" "heights" "[I") ∈ LW := lwt1 181 rfl rfl
theorem kw219 : (Jvm.Cond.fieldLink "DishRounds$Way" (18 : Nat) "DishRounds$Way" "sights" "[Z") ∈ LW := lwt1 182 rfl rfl
theorem kw220 : (Jvm.Cond.fieldLink "DishRounds" (190 : Nat) "DishRounds$Way" "sights" "[Z") ∈ LW := lwt1 183 rfl rfl
theorem kw221 : (Jvm.Cond.fieldLink "DishRounds$Way" (22 : Nat) "DishRounds$Way" "seenBefore" "[I") ∈ LW := lwt1 184 rfl rfl
theorem kw222 : (Jvm.Cond.fieldLink "DishRounds$Search" (179 : Nat) "DishRounds$Way" "seenBefore" "[I") ∈ LW := lwt1 185 rfl rfl
theorem kw223 : (Jvm.Cond.fieldLink "DishRounds" (204 : Nat) "DishRounds$Way" "seenBefore" "[I") ∈ LW := lwt1 186 rfl rfl
theorem kw224 : (Jvm.Cond.fieldLink "DishRounds$Way" (25 : Nat) "DishRounds$Way" "seenFrom" "[I") ∈ LW := lwt1 187 rfl rfl
theorem kw225 : (Jvm.Cond.fieldLink "DishRounds$Search" (186 : Nat) "DishRounds$Way" "seenFrom" "[I") ∈ LW := lwt1 188 rfl rfl
theorem kw226 : (Jvm.Cond.fieldLink "DishRounds" (207 : Nat) "DishRounds$Way" "seenFrom" "[I") ∈ LW := lwt1 189 rfl rfl
theorem kw227 : (Jvm.Cond.fieldLink "DishRounds$Way" (28 : Nat) "DishRounds$Way" "name" "I") ∈ LW := lwt1 190 rfl rfl
theorem kw228 : (Jvm.Cond.fieldLink "DishRounds$Search" (64 : Nat) "DishRounds$Way" "name" "I") ∈ LW := lwt1 191 rfl rfl
theorem kw229 : (Jvm.Cond.fieldLink "DishRounds$Way" (32 : Nat) "DishRounds$Way" "found" "Z") ∈ LW := lwt1 192 rfl rfl
theorem kw230 : (Jvm.Cond.fieldLink "DishRounds" (161 : Nat) "DishRounds$Way" "found" "Z") ∈ LW := lwt1 193 rfl rfl
theorem kw231 : (Jvm.Cond.fieldLink "DishRounds$Way" (36 : Nat) "DishRounds$Way" "isShared" "Z") ∈ LW := lwt1 194 rfl rfl
theorem kw232 : (Jvm.Cond.fieldLink "DishRounds$Search" (96 : Nat) "DishRounds$Way" "isShared" "Z") ∈ LW := lwt1 195 rfl rfl
theorem kw233 : (Jvm.Cond.fieldLink "DishRounds$Way" (39 : Nat) "DishRounds$Way" "free" "I") ∈ LW := lwt1 196 rfl rfl
theorem kw234 : (Jvm.Cond.fieldLink "DishRounds" (189 : Nat) "DishRounds$Way" "free" "I") ∈ LW := lwt1 197 rfl rfl
theorem kw235 : (Jvm.Cond.fieldLink "DishRounds$Way" (42 : Nat) "DishRounds$Way" "last" "I") ∈ LW := lwt1 198 rfl rfl
theorem kw236 : (Jvm.Cond.fieldLink "DishRounds" (183 : Nat) "DishRounds$Way" "last" "I") ∈ LW := lwt1 199 rfl rfl
theorem kw237 : (Jvm.Cond.fieldLink "DishRounds$Way" (45 : Nat) "DishRounds$Way" "seen" "I") ∈ LW := lwt1 200 rfl rfl
theorem kw238 : (Jvm.Cond.fieldLink "DishRounds$Search" (195 : Nat) "DishRounds$Way" "seen" "I") ∈ LW := lwt1 201 rfl rfl
theorem kw239 : (Jvm.Cond.fieldLink "DishRounds" (167 : Nat) "DishRounds$Way" "seen" "I") ∈ LW := lwt1 202 rfl rfl
theorem kw240 : (Jvm.Cond.fieldLink "DishRounds$Way" (48 : Nat) "DishRounds$Way" "steps" "I") ∈ LW := lwt1 203 rfl rfl
theorem kw241 : (Jvm.Cond.fieldLink "DishRounds" (170 : Nat) "DishRounds$Way" "steps" "I") ∈ LW := lwt1 204 rfl rfl
theorem kw242 : (Jvm.Cond.fieldLink "DishRounds$Way" (51 : Nat) "DishRounds$Way" "firstSeen" "I") ∈ LW := lwt1 205 rfl rfl
theorem kw243 : (Jvm.Cond.fieldLink "DishRounds" (173 : Nat) "DishRounds$Way" "firstSeen" "I") ∈ LW := lwt1 206 rfl rfl
theorem kw244 : (Jvm.Cond.fieldLink "DishRounds$Way" (54 : Nat) "DishRounds$Way" "lastSeen" "I") ∈ LW := lwt1 207 rfl rfl
theorem kw245 : (Jvm.Cond.fieldLink "DishRounds" (176 : Nat) "DishRounds$Way" "lastSeen" "I") ∈ LW := lwt1 208 rfl rfl
theorem kw275 : (Jvm.Cond.arrayClass Jvm.ClassFile.FieldType.boolean) ∈ LW := lwt1 238 rfl rfl
theorem kw276 : (Jvm.Cond.fieldLink "DishRounds$Search" (41 : Nat) "DishRounds$Search" "world" "LDishRounds$World;") ∈ LW := lwt1 239 rfl rfl
theorem kw277 : (Jvm.Cond.fieldLink "DishRounds$Search" (11 : Nat) "DishRounds$Search" "ways" "[LDishRounds$Way;") ∈ LW := lwt2 0 rfl rfl
theorem kw278 : (Jvm.Cond.fieldLink "DishRounds$Search" (18 : Nat) "DishRounds$Search" "rest" "[I") ∈ LW := lwt2 1 rfl rfl
theorem kw279 : (Jvm.Cond.fieldLink "DishRounds$Search" (22 : Nat) "DishRounds$Search" "front" "[I") ∈ LW := lwt2 2 rfl rfl
theorem kw280 : (Jvm.Cond.fieldLink "DishRounds$Search" (25 : Nat) "DishRounds$Search" "reached" "[I") ∈ LW := lwt2 3 rfl rfl
theorem kw281 : (Jvm.Cond.fieldLink "DishRounds$Search" (28 : Nat) "DishRounds$Search" "spare" "[I") ∈ LW := lwt2 4 rfl rfl
theorem kw282 : (Jvm.Cond.fieldLink "DishRounds$Search" (51 : Nat) "DishRounds$Search" "mount" "LDishRounds$Mount;") ∈ LW := lwt2 5 rfl rfl
theorem kw283 : (Jvm.Cond.fieldLink "DishRounds$Search" (59 : Nat) "DishRounds$Search" "flight" "LDishRounds$Flight;") ∈ LW := lwt2 6 rfl rfl
theorem kw284 : (Jvm.Cond.fieldLink "DishRounds$Search" (31 : Nat) "DishRounds$Search" "rows" "I") ∈ LW := lwt2 7 rfl rfl
theorem kw285 : (Jvm.Cond.fieldLink "DishRounds$Search" (35 : Nat) "DishRounds$Search" "goalSide" "I") ∈ LW := lwt2 8 rfl rfl
theorem kw286 : (Jvm.Cond.fieldLink "DishRounds$Search" (38 : Nat) "DishRounds$Search" "goalHeight" "I") ∈ LW := lwt2 9 rfl rfl
theorem kw310 : (Jvm.Cond.fieldLink "DishRounds" (12 : Nat) "DishRounds" "now" "LDishRounds$World;") ∈ LW := lwt2 33 rfl rfl
theorem kw311 : (Jvm.Cond.fieldLink "DishRounds" (16 : Nat) "DishRounds" "images" "[LDishRounds$World;") ∈ LW := lwt2 34 rfl rfl
theorem kw312 : (Jvm.Cond.fieldLink "DishRounds" (20 : Nat) "DishRounds" "kept" "[Z") ∈ LW := lwt2 35 rfl rfl
theorem kw313 : (Jvm.Cond.fieldLink "DishRounds" (29 : Nat) "DishRounds" "search" "LDishRounds$Search;") ∈ LW := lwt2 36 rfl rfl
theorem kw323 : (Jvm.Cond.methodLink "DishRoundsLaw" (13 : Nat) ({ cls := "DishRounds", name := "pass", desc := "(II)I" } : Jvm.MethodName)) ∈ LW := lwt2 46 rfl rfl
theorem kw324 : (Jvm.Cond.instanceMethod ({ cls := "DishRounds", name := "pass", desc := "(II)I" } : Jvm.MethodName)) ∈ LW := lwt2 47 rfl rfl
theorem kw325 : (Jvm.Cond.selects "DishRounds" ({ cls := "DishRounds", name := "pass", desc := "(II)I" } : Jvm.MethodName) ({ cls := "DishRounds", name := "pass", desc := "(II)I" } : Jvm.MethodName)) ∈ LW := lwt2 48 rfl rfl
theorem kw326 : (Jvm.Cond.code ({ cls := "DishRounds", name := "pass", desc := "(II)I" } : Jvm.MethodName) prog_1_method_2_code (3 : Nat) (Option.some Jvm.ClassFile.FieldType.int)) ∈ LW := lwt2 49 rfl rfl
theorem kw327 : (Jvm.Cond.methodLink "DishRounds" (33 : Nat) ({ cls := "DishRounds", name := "isIn", desc := "(III)Z" } : Jvm.MethodName)) ∈ LW := lwt2 50 rfl rfl
theorem kw328 : (Jvm.Cond.static ({ cls := "DishRounds", name := "isIn", desc := "(III)Z" } : Jvm.MethodName)) ∈ LW := lwt2 51 rfl rfl
theorem kw329 : (Jvm.Cond.code ({ cls := "DishRounds", name := "isIn", desc := "(III)Z" } : Jvm.MethodName) prog_1_method_24_code (3 : Nat) (Option.some Jvm.ClassFile.FieldType.boolean)) ∈ LW := lwt2 52 rfl rfl
theorem kw330 : (Jvm.Cond.methodLink "DishRounds" (37 : Nat) ({ cls := "DishRounds$World", name := "indexOf", desc := "(I)I" } : Jvm.MethodName)) ∈ LW := lwt2 53 rfl rfl
theorem kw331 : (Jvm.Cond.instanceMethod ({ cls := "DishRounds$World", name := "indexOf", desc := "(I)I" } : Jvm.MethodName)) ∈ LW := lwt2 54 rfl rfl
theorem kw332 : (Jvm.Cond.selects "DishRounds$World" ({ cls := "DishRounds$World", name := "indexOf", desc := "(I)I" } : Jvm.MethodName) ({ cls := "DishRounds$World", name := "indexOf", desc := "(I)I" } : Jvm.MethodName)) ∈ LW := lwt2 55 rfl rfl
theorem kw333 : (Jvm.Cond.code ({ cls := "DishRounds$World", name := "indexOf", desc := "(I)I" } : Jvm.MethodName) prog_7_method_3_code (3 : Nat) (Option.some Jvm.ClassFile.FieldType.int)) ∈ LW := lwt2 56 rfl rfl
theorem kw334 : (Jvm.Cond.methodLink "DishRounds" (49 : Nat) ({ cls := "DishRounds$Flight", name := "start", desc := "(II)V" } : Jvm.MethodName)) ∈ LW := lwt2 57 rfl rfl
theorem kw335 : (Jvm.Cond.instanceMethod ({ cls := "DishRounds$Flight", name := "start", desc := "(II)V" } : Jvm.MethodName)) ∈ LW := lwt2 58 rfl rfl
theorem kw336 : (Jvm.Cond.selects "DishRounds$Flight" ({ cls := "DishRounds$Flight", name := "start", desc := "(II)V" } : Jvm.MethodName) ({ cls := "DishRounds$Flight", name := "start", desc := "(II)V" } : Jvm.MethodName)) ∈ LW := lwt2 59 rfl rfl
theorem kw337 : (Jvm.Cond.code ({ cls := "DishRounds$Flight", name := "start", desc := "(II)V" } : Jvm.MethodName) prog_2_method_2_code (3 : Nat) (Option.none : Option Jvm.ClassFile.FieldType)) ∈ LW := lwt2 60 rfl rfl
theorem kw338 : (Jvm.Cond.methodLink "DishRounds" (55 : Nat) ({ cls := "DishRounds$Search", name := "forgetWays", desc := "()V" } : Jvm.MethodName)) ∈ LW := lwt2 61 rfl rfl
theorem kw339 : (Jvm.Cond.instanceMethod ({ cls := "DishRounds$Search", name := "forgetWays", desc := "()V" } : Jvm.MethodName)) ∈ LW := lwt2 62 rfl rfl
theorem kw340 : (Jvm.Cond.selects "DishRounds$Search" ({ cls := "DishRounds$Search", name := "forgetWays", desc := "()V" } : Jvm.MethodName) ({ cls := "DishRounds$Search", name := "forgetWays", desc := "()V" } : Jvm.MethodName)) ∈ LW := lwt2 63 rfl rfl
theorem kw341 : (Jvm.Cond.code ({ cls := "DishRounds$Search", name := "forgetWays", desc := "()V" } : Jvm.MethodName) prog_4_method_2_code (2 : Nat) (Option.none : Option Jvm.ClassFile.FieldType)) ∈ LW := lwt2 64 rfl rfl
theorem kw342 : (Jvm.Cond.methodLink "DishRoundsLaw" (18 : Nat) ({ cls := "DishRounds", name := "point", desc := "(III)I" } : Jvm.MethodName)) ∈ LW := lwt2 65 rfl rfl
theorem kw343 : (Jvm.Cond.instanceMethod ({ cls := "DishRounds", name := "point", desc := "(III)I" } : Jvm.MethodName)) ∈ LW := lwt2 66 rfl rfl
theorem kw344 : (Jvm.Cond.selects "DishRounds" ({ cls := "DishRounds", name := "point", desc := "(III)I" } : Jvm.MethodName) ({ cls := "DishRounds", name := "point", desc := "(III)I" } : Jvm.MethodName)) ∈ LW := lwt2 67 rfl rfl
theorem kw345 : (Jvm.Cond.code ({ cls := "DishRounds", name := "point", desc := "(III)I" } : Jvm.MethodName) prog_1_method_3_code (6 : Nat) (Option.some Jvm.ClassFile.FieldType.int)) ∈ LW := lwt2 68 rfl rfl
theorem kw346 : (Jvm.Cond.methodLink "DishRounds" (58 : Nat) ({ cls := "DishRounds", name := "isDirection", desc := "(II)Z" } : Jvm.MethodName)) ∈ LW := lwt2 69 rfl rfl
theorem kw347 : (Jvm.Cond.static ({ cls := "DishRounds", name := "isDirection", desc := "(II)Z" } : Jvm.MethodName)) ∈ LW := lwt2 70 rfl rfl
theorem kw348 : (Jvm.Cond.code ({ cls := "DishRounds", name := "isDirection", desc := "(II)Z" } : Jvm.MethodName) prog_1_method_28_code (2 : Nat) (Option.some Jvm.ClassFile.FieldType.boolean)) ∈ LW := lwt2 71 rfl rfl
theorem kw349 : (Jvm.Cond.methodLink "DishRounds" (108 : Nat) ({ cls := "DishRounds", name := "isSide", desc := "(I)Z" } : Jvm.MethodName)) ∈ LW := lwt2 72 rfl rfl
theorem kw350 : (Jvm.Cond.static ({ cls := "DishRounds", name := "isSide", desc := "(I)Z" } : Jvm.MethodName)) ∈ LW := lwt2 73 rfl rfl
theorem kw351 : (Jvm.Cond.code ({ cls := "DishRounds", name := "isSide", desc := "(I)Z" } : Jvm.MethodName) prog_1_method_26_code (1 : Nat) (Option.some Jvm.ClassFile.FieldType.boolean)) ∈ LW := lwt2 74 rfl rfl
theorem kw352 : (Jvm.Cond.methodLink "DishRounds" (89 : Nat) ({ cls := "DishRounds", name := "isHeight", desc := "(I)Z" } : Jvm.MethodName)) ∈ LW := lwt2 75 rfl rfl
theorem kw353 : (Jvm.Cond.static ({ cls := "DishRounds", name := "isHeight", desc := "(I)Z" } : Jvm.MethodName)) ∈ LW := lwt2 76 rfl rfl
theorem kw354 : (Jvm.Cond.code ({ cls := "DishRounds", name := "isHeight", desc := "(I)Z" } : Jvm.MethodName) prog_1_method_27_code (1 : Nat) (Option.some Jvm.ClassFile.FieldType.boolean)) ∈ LW := lwt2 77 rfl rfl
theorem kw355 : (Jvm.Cond.methodLink "DishRounds" (62 : Nat) ({ cls := "DishRounds$Flight", name := "isTaken", desc := "()Z" } : Jvm.MethodName)) ∈ LW := lwt2 78 rfl rfl
theorem kw356 : (Jvm.Cond.instanceMethod ({ cls := "DishRounds$Flight", name := "isTaken", desc := "()Z" } : Jvm.MethodName)) ∈ LW := lwt2 79 rfl rfl
theorem kw357 : (Jvm.Cond.selects "DishRounds$Flight" ({ cls := "DishRounds$Flight", name := "isTaken", desc := "()Z" } : Jvm.MethodName) ({ cls := "DishRounds$Flight", name := "isTaken", desc := "()Z" } : Jvm.MethodName)) ∈ LW := lwt2 80 rfl rfl
theorem kw358 : (Jvm.Cond.code ({ cls := "DishRounds$Flight", name := "isTaken", desc := "()Z" } : Jvm.MethodName) prog_2_method_4_code (1 : Nat) (Option.some Jvm.ClassFile.FieldType.boolean)) ∈ LW := lwt2 81 rfl rfl
theorem kw359 : (Jvm.Cond.methodLink "DishRounds" (69 : Nat) ({ cls := "DishRounds$Flight", name := "addPoint", desc := "(II)V" } : Jvm.MethodName)) ∈ LW := lwt2 82 rfl rfl
theorem kw360 : (Jvm.Cond.instanceMethod ({ cls := "DishRounds$Flight", name := "addPoint", desc := "(II)V" } : Jvm.MethodName)) ∈ LW := lwt2 83 rfl rfl
theorem kw361 : (Jvm.Cond.selects "DishRounds$Flight" ({ cls := "DishRounds$Flight", name := "addPoint", desc := "(II)V" } : Jvm.MethodName) ({ cls := "DishRounds$Flight", name := "addPoint", desc := "(II)V" } : Jvm.MethodName)) ∈ LW := lwt2 84 rfl rfl
theorem kw362 : (Jvm.Cond.code ({ cls := "DishRounds$Flight", name := "addPoint", desc := "(II)V" } : Jvm.MethodName) prog_2_method_3_code (3 : Nat) (Option.none : Option Jvm.ClassFile.FieldType)) ∈ LW := lwt2 85 rfl rfl
theorem kw363 : (Jvm.Cond.methodLink "DishRoundsLaw" (23 : Nat) ({ cls := "DishRounds", name := "drop", desc := "(I)I" } : Jvm.MethodName)) ∈ LW := lwt2 86 rfl rfl
theorem kw364 : (Jvm.Cond.instanceMethod ({ cls := "DishRounds", name := "drop", desc := "(I)I" } : Jvm.MethodName)) ∈ LW := lwt2 87 rfl rfl
theorem kw365 : (Jvm.Cond.selects "DishRounds" ({ cls := "DishRounds", name := "drop", desc := "(I)I" } : Jvm.MethodName) ({ cls := "DishRounds", name := "drop", desc := "(I)I" } : Jvm.MethodName)) ∈ LW := lwt2 88 rfl rfl
theorem kw366 : (Jvm.Cond.code ({ cls := "DishRounds", name := "drop", desc := "(I)I" } : Jvm.MethodName) prog_1_method_4_code (3 : Nat) (Option.some Jvm.ClassFile.FieldType.int)) ∈ LW := lwt2 89 rfl rfl
theorem kw367 : (Jvm.Cond.methodLink "DishRounds" (72 : Nat) ({ cls := "DishRounds$World", name := "removeFlight", desc := "(I)V" } : Jvm.MethodName)) ∈ LW := lwt2 90 rfl rfl
theorem kw368 : (Jvm.Cond.instanceMethod ({ cls := "DishRounds$World", name := "removeFlight", desc := "(I)V" } : Jvm.MethodName)) ∈ LW := lwt2 91 rfl rfl
theorem kw369 : (Jvm.Cond.selects "DishRounds$World" ({ cls := "DishRounds$World", name := "removeFlight", desc := "(I)V" } : Jvm.MethodName) ({ cls := "DishRounds$World", name := "removeFlight", desc := "(I)V" } : Jvm.MethodName)) ∈ LW := lwt2 92 rfl rfl
theorem kw370 : (Jvm.Cond.code ({ cls := "DishRounds$World", name := "removeFlight", desc := "(I)V" } : Jvm.MethodName) prog_7_method_4_code (4 : Nat) (Option.none : Option Jvm.ClassFile.FieldType)) ∈ LW := lwt2 93 rfl rfl
theorem kw371 : (Jvm.Cond.methodLink "DishRoundsLaw" (28 : Nat) ({ cls := "DishRounds", name := "stand", desc := "(IIII)I" } : Jvm.MethodName)) ∈ LW := lwt2 94 rfl rfl
theorem kw372 : (Jvm.Cond.instanceMethod ({ cls := "DishRounds", name := "stand", desc := "(IIII)I" } : Jvm.MethodName)) ∈ LW := lwt2 95 rfl rfl
theorem kw373 : (Jvm.Cond.selects "DishRounds" ({ cls := "DishRounds", name := "stand", desc := "(IIII)I" } : Jvm.MethodName) ({ cls := "DishRounds", name := "stand", desc := "(IIII)I" } : Jvm.MethodName)) ∈ LW := lwt2 96 rfl rfl
theorem kw374 : (Jvm.Cond.code ({ cls := "DishRounds", name := "stand", desc := "(IIII)I" } : Jvm.MethodName) prog_1_method_5_code (6 : Nat) (Option.some Jvm.ClassFile.FieldType.int)) ∈ LW := lwt2 97 rfl rfl
theorem kw375 : (Jvm.Cond.methodLink "DishRounds" (76 : Nat) ({ cls := "DishRounds", name := "isDish", desc := "(I)Z" } : Jvm.MethodName)) ∈ LW := lwt2 98 rfl rfl
theorem kw376 : (Jvm.Cond.static ({ cls := "DishRounds", name := "isDish", desc := "(I)Z" } : Jvm.MethodName)) ∈ LW := lwt2 99 rfl rfl
theorem kw377 : (Jvm.Cond.code ({ cls := "DishRounds", name := "isDish", desc := "(I)Z" } : Jvm.MethodName) prog_1_method_25_code (1 : Nat) (Option.some Jvm.ClassFile.FieldType.boolean)) ∈ LW := lwt2 100 rfl rfl
theorem kw378 : (Jvm.Cond.methodLink "DishRounds" (92 : Nat) ({ cls := "DishRounds", name := "isTick", desc := "(I)Z" } : Jvm.MethodName)) ∈ LW := lwt2 101 rfl rfl
theorem kw379 : (Jvm.Cond.static ({ cls := "DishRounds", name := "isTick", desc := "(I)Z" } : Jvm.MethodName)) ∈ LW := lwt2 102 rfl rfl
theorem kw380 : (Jvm.Cond.code ({ cls := "DishRounds", name := "isTick", desc := "(I)Z" } : Jvm.MethodName) prog_1_method_29_code (1 : Nat) (Option.some Jvm.ClassFile.FieldType.boolean)) ∈ LW := lwt2 103 rfl rfl
theorem kw381 : (Jvm.Cond.methodLink "DishRounds" (95 : Nat) ({ cls := "DishRounds$Mount", name := "turnTo", desc := "(III)V" } : Jvm.MethodName)) ∈ LW := lwt2 104 rfl rfl
theorem kw382 : (Jvm.Cond.instanceMethod ({ cls := "DishRounds$Mount", name := "turnTo", desc := "(III)V" } : Jvm.MethodName)) ∈ LW := lwt2 105 rfl rfl
theorem kw383 : (Jvm.Cond.selects "DishRounds$Mount" ({ cls := "DishRounds$Mount", name := "turnTo", desc := "(III)V" } : Jvm.MethodName) ({ cls := "DishRounds$Mount", name := "turnTo", desc := "(III)V" } : Jvm.MethodName)) ∈ LW := lwt2 106 rfl rfl
theorem kw384 : (Jvm.Cond.code ({ cls := "DishRounds$Mount", name := "turnTo", desc := "(III)V" } : Jvm.MethodName) prog_3_method_2_code (4 : Nat) (Option.none : Option Jvm.ClassFile.FieldType)) ∈ LW := lwt2 107 rfl rfl
theorem kw385 : (Jvm.Cond.methodLink "DishRoundsLaw" (33 : Nat) ({ cls := "DishRounds", name := "set", desc := "(III)I" } : Jvm.MethodName)) ∈ LW := lwt2 108 rfl rfl
theorem kw386 : (Jvm.Cond.instanceMethod ({ cls := "DishRounds", name := "set", desc := "(III)I" } : Jvm.MethodName)) ∈ LW := lwt2 109 rfl rfl
theorem kw387 : (Jvm.Cond.selects "DishRounds" ({ cls := "DishRounds", name := "set", desc := "(III)I" } : Jvm.MethodName) ({ cls := "DishRounds", name := "set", desc := "(III)I" } : Jvm.MethodName)) ∈ LW := lwt2 110 rfl rfl
theorem kw388 : (Jvm.Cond.code ({ cls := "DishRounds", name := "set", desc := "(III)I" } : Jvm.MethodName) prog_1_method_6_code (6 : Nat) (Option.some Jvm.ClassFile.FieldType.int)) ∈ LW := lwt2 111 rfl rfl
theorem kw389 : (Jvm.Cond.methodLink "DishRounds" (99 : Nat) ({ cls := "DishRounds", name := "isSetting", desc := "(II)Z" } : Jvm.MethodName)) ∈ LW := lwt2 112 rfl rfl
theorem kw390 : (Jvm.Cond.static ({ cls := "DishRounds", name := "isSetting", desc := "(II)Z" } : Jvm.MethodName)) ∈ LW := lwt2 113 rfl rfl
theorem kw391 : (Jvm.Cond.code ({ cls := "DishRounds", name := "isSetting", desc := "(II)Z" } : Jvm.MethodName) prog_1_method_30_code (2 : Nat) (Option.some Jvm.ClassFile.FieldType.boolean)) ∈ LW := lwt2 114 rfl rfl
theorem kw392 : (Jvm.Cond.methodLink "DishRoundsLaw" (37 : Nat) ({ cls := "DishRounds", name := "sun", desc := "(IIII)I" } : Jvm.MethodName)) ∈ LW := lwt2 115 rfl rfl
theorem kw393 : (Jvm.Cond.instanceMethod ({ cls := "DishRounds", name := "sun", desc := "(IIII)I" } : Jvm.MethodName)) ∈ LW := lwt2 116 rfl rfl
theorem kw394 : (Jvm.Cond.selects "DishRounds" ({ cls := "DishRounds", name := "sun", desc := "(IIII)I" } : Jvm.MethodName) ({ cls := "DishRounds", name := "sun", desc := "(IIII)I" } : Jvm.MethodName)) ∈ LW := lwt2 117 rfl rfl
theorem kw395 : (Jvm.Cond.code ({ cls := "DishRounds", name := "sun", desc := "(IIII)I" } : Jvm.MethodName) prog_1_method_7_code (5 : Nat) (Option.some Jvm.ClassFile.FieldType.int)) ∈ LW := lwt2 118 rfl rfl
theorem kw396 : (Jvm.Cond.methodLink "DishRounds" (115 : Nat) ({ cls := "DishRounds$Sky", name := "putSun", desc := "(IIII)V" } : Jvm.MethodName)) ∈ LW := lwt2 119 rfl rfl
theorem kw397 : (Jvm.Cond.instanceMethod ({ cls := "DishRounds$Sky", name := "putSun", desc := "(IIII)V" } : Jvm.MethodName)) ∈ LW := lwt2 120 rfl rfl
theorem kw398 : (Jvm.Cond.selects "DishRounds$Sky" ({ cls := "DishRounds$Sky", name := "putSun", desc := "(IIII)V" } : Jvm.MethodName) ({ cls := "DishRounds$Sky", name := "putSun", desc := "(IIII)V" } : Jvm.MethodName)) ∈ LW := lwt2 121 rfl rfl
theorem kw399 : (Jvm.Cond.code ({ cls := "DishRounds$Sky", name := "putSun", desc := "(IIII)V" } : Jvm.MethodName) prog_5_method_2_code (5 : Nat) (Option.none : Option Jvm.ClassFile.FieldType)) ∈ LW := lwt2 122 rfl rfl
theorem kw400 : (Jvm.Cond.methodLink "DishRoundsLaw" (41 : Nat) ({ cls := "DishRounds", name := "storm", desc := "(II)I" } : Jvm.MethodName)) ∈ LW := lwt2 123 rfl rfl
theorem kw401 : (Jvm.Cond.instanceMethod ({ cls := "DishRounds", name := "storm", desc := "(II)I" } : Jvm.MethodName)) ∈ LW := lwt2 124 rfl rfl
theorem kw402 : (Jvm.Cond.selects "DishRounds" ({ cls := "DishRounds", name := "storm", desc := "(II)I" } : Jvm.MethodName) ({ cls := "DishRounds", name := "storm", desc := "(II)I" } : Jvm.MethodName)) ∈ LW := lwt2 125 rfl rfl
theorem kw403 : (Jvm.Cond.code ({ cls := "DishRounds", name := "storm", desc := "(II)I" } : Jvm.MethodName) prog_1_method_8_code (3 : Nat) (Option.some Jvm.ClassFile.FieldType.int)) ∈ LW := lwt2 126 rfl rfl
theorem kw404 : (Jvm.Cond.methodLink "DishRoundsLaw" (45 : Nat) ({ cls := "DishRounds", name := "key", desc := "(I)I" } : Jvm.MethodName)) ∈ LW := lwt2 127 rfl rfl
theorem kw405 : (Jvm.Cond.instanceMethod ({ cls := "DishRounds", name := "key", desc := "(I)I" } : Jvm.MethodName)) ∈ LW := lwt2 128 rfl rfl
theorem kw406 : (Jvm.Cond.selects "DishRounds" ({ cls := "DishRounds", name := "key", desc := "(I)I" } : Jvm.MethodName) ({ cls := "DishRounds", name := "key", desc := "(I)I" } : Jvm.MethodName)) ∈ LW := lwt2 129 rfl rfl
theorem kw407 : (Jvm.Cond.code ({ cls := "DishRounds", name := "key", desc := "(I)I" } : Jvm.MethodName) prog_1_method_9_code (3 : Nat) (Option.some Jvm.ClassFile.FieldType.int)) ∈ LW := lwt2 130 rfl rfl
theorem kw408 : (Jvm.Cond.methodLink "DishRoundsLaw" (49 : Nat) ({ cls := "DishRounds", name := "burnt", desc := "(III)I" } : Jvm.MethodName)) ∈ LW := lwt2 131 rfl rfl
theorem kw409 : (Jvm.Cond.instanceMethod ({ cls := "DishRounds", name := "burnt", desc := "(III)I" } : Jvm.MethodName)) ∈ LW := lwt2 132 rfl rfl
theorem kw410 : (Jvm.Cond.selects "DishRounds" ({ cls := "DishRounds", name := "burnt", desc := "(III)I" } : Jvm.MethodName) ({ cls := "DishRounds", name := "burnt", desc := "(III)I" } : Jvm.MethodName)) ∈ LW := lwt2 133 rfl rfl
theorem kw411 : (Jvm.Cond.code ({ cls := "DishRounds", name := "burnt", desc := "(III)I" } : Jvm.MethodName) prog_1_method_10_code (4 : Nat) (Option.some Jvm.ClassFile.FieldType.int)) ∈ LW := lwt2 134 rfl rfl
theorem kw412 : (Jvm.Cond.methodLink "DishRounds" (130 : Nat) ({ cls := "DishRounds$Sky", name := "isBurnt", desc := "(III)Z" } : Jvm.MethodName)) ∈ LW := lwt2 135 rfl rfl
theorem kw413 : (Jvm.Cond.instanceMethod ({ cls := "DishRounds$Sky", name := "isBurnt", desc := "(III)Z" } : Jvm.MethodName)) ∈ LW := lwt2 136 rfl rfl
theorem kw414 : (Jvm.Cond.selects "DishRounds$Sky" ({ cls := "DishRounds$Sky", name := "isBurnt", desc := "(III)Z" } : Jvm.MethodName) ({ cls := "DishRounds$Sky", name := "isBurnt", desc := "(III)Z" } : Jvm.MethodName)) ∈ LW := lwt2 137 rfl rfl
theorem kw415 : (Jvm.Cond.code ({ cls := "DishRounds$Sky", name := "isBurnt", desc := "(III)Z" } : Jvm.MethodName) prog_5_method_5_code (4 : Nat) (Option.some Jvm.ClassFile.FieldType.boolean)) ∈ LW := lwt2 138 rfl rfl
theorem kw416 : (Jvm.Cond.methodLink "DishRounds$Sky" (43 : Nat) ({ cls := "DishRounds$Sky", name := "isSunSide", desc := "(II)Z" } : Jvm.MethodName)) ∈ LW := lwt2 139 rfl rfl
theorem kw417 : (Jvm.Cond.instanceMethod ({ cls := "DishRounds$Sky", name := "isSunSide", desc := "(II)Z" } : Jvm.MethodName)) ∈ LW := lwt2 140 rfl rfl
theorem kw418 : (Jvm.Cond.selects "DishRounds$Sky" ({ cls := "DishRounds$Sky", name := "isSunSide", desc := "(II)Z" } : Jvm.MethodName) ({ cls := "DishRounds$Sky", name := "isSunSide", desc := "(II)Z" } : Jvm.MethodName)) ∈ LW := lwt2 141 rfl rfl
theorem kw419 : (Jvm.Cond.code ({ cls := "DishRounds$Sky", name := "isSunSide", desc := "(II)Z" } : Jvm.MethodName) prog_5_method_3_code (5 : Nat) (Option.some Jvm.ClassFile.FieldType.boolean)) ∈ LW := lwt2 142 rfl rfl
theorem kw420 : (Jvm.Cond.methodLink "DishRounds$Sky" (33 : Nat) ({ cls := "java/lang/Math", name := "abs", desc := "(I)I" } : Jvm.MethodName)) ∈ LW := lwt2 143 rfl rfl
theorem kw421 : (Jvm.Cond.static ({ cls := "java/lang/Math", name := "abs", desc := "(I)I" } : Jvm.MethodName)) ∈ LW := lwt2 144 rfl rfl
theorem kw422 : (Jvm.Cond.code ({ cls := "java/lang/Math", name := "abs", desc := "(I)I" } : Jvm.MethodName) prog_10_method_59_code (1 : Nat) (Option.some Jvm.ClassFile.FieldType.int)) ∈ LW := lwt2 145 rfl rfl
theorem kw423 : (Jvm.Cond.methodLink "DishRounds$Sky" (39 : Nat) ({ cls := "java/lang/Math", name := "min", desc := "(II)I" } : Jvm.MethodName)) ∈ LW := lwt2 146 rfl rfl
theorem kw424 : (Jvm.Cond.static ({ cls := "java/lang/Math", name := "min", desc := "(II)I" } : Jvm.MethodName)) ∈ LW := lwt2 147 rfl rfl
theorem kw425 : (Jvm.Cond.code ({ cls := "java/lang/Math", name := "min", desc := "(II)I" } : Jvm.MethodName) prog_10_method_69_code (2 : Nat) (Option.some Jvm.ClassFile.FieldType.int)) ∈ LW := lwt2 148 rfl rfl
theorem kw426 : (Jvm.Cond.methodLink "DishRounds$Sky" (47 : Nat) ({ cls := "DishRounds$Sky", name := "isSunHeight", desc := "(I)Z" } : Jvm.MethodName)) ∈ LW := lwt2 149 rfl rfl
theorem kw427 : (Jvm.Cond.instanceMethod ({ cls := "DishRounds$Sky", name := "isSunHeight", desc := "(I)Z" } : Jvm.MethodName)) ∈ LW := lwt2 150 rfl rfl
theorem kw428 : (Jvm.Cond.selects "DishRounds$Sky" ({ cls := "DishRounds$Sky", name := "isSunHeight", desc := "(I)Z" } : Jvm.MethodName) ({ cls := "DishRounds$Sky", name := "isSunHeight", desc := "(I)Z" } : Jvm.MethodName)) ∈ LW := lwt2 151 rfl rfl
theorem kw429 : (Jvm.Cond.code ({ cls := "DishRounds$Sky", name := "isSunHeight", desc := "(I)Z" } : Jvm.MethodName) prog_5_method_4_code (2 : Nat) (Option.some Jvm.ClassFile.FieldType.boolean)) ∈ LW := lwt2 152 rfl rfl
theorem kw430 : (Jvm.Cond.methodLink "DishRoundsLaw" (53 : Nat) ({ cls := "DishRounds", name := "told", desc := "(II)I" } : Jvm.MethodName)) ∈ LW := lwt2 153 rfl rfl
theorem kw431 : (Jvm.Cond.instanceMethod ({ cls := "DishRounds", name := "told", desc := "(II)I" } : Jvm.MethodName)) ∈ LW := lwt2 154 rfl rfl
theorem kw432 : (Jvm.Cond.selects "DishRounds" ({ cls := "DishRounds", name := "told", desc := "(II)I" } : Jvm.MethodName) ({ cls := "DishRounds", name := "told", desc := "(II)I" } : Jvm.MethodName)) ∈ LW := lwt2 155 rfl rfl
theorem kw433 : (Jvm.Cond.code ({ cls := "DishRounds", name := "told", desc := "(II)I" } : Jvm.MethodName) prog_1_method_11_code (5 : Nat) (Option.some Jvm.ClassFile.FieldType.int)) ∈ LW := lwt2 156 rfl rfl
theorem kw434 : (Jvm.Cond.methodLink "DishRoundsLaw" (57 : Nat) ({ cls := "DishRounds", name := "order", desc := "(I)I" } : Jvm.MethodName)) ∈ LW := lwt2 157 rfl rfl
theorem kw435 : (Jvm.Cond.instanceMethod ({ cls := "DishRounds", name := "order", desc := "(I)I" } : Jvm.MethodName)) ∈ LW := lwt2 158 rfl rfl
theorem kw436 : (Jvm.Cond.selects "DishRounds" ({ cls := "DishRounds", name := "order", desc := "(I)I" } : Jvm.MethodName) ({ cls := "DishRounds", name := "order", desc := "(I)I" } : Jvm.MethodName)) ∈ LW := lwt2 159 rfl rfl
theorem kw437 : (Jvm.Cond.code ({ cls := "DishRounds", name := "order", desc := "(I)I" } : Jvm.MethodName) prog_1_method_12_code (2 : Nat) (Option.some Jvm.ClassFile.FieldType.int)) ∈ LW := lwt2 160 rfl rfl
theorem kw438 : (Jvm.Cond.methodLink "DishRoundsLaw" (61 : Nat) ({ cls := "DishRounds", name := "dish", desc := "(II)I" } : Jvm.MethodName)) ∈ LW := lwt2 161 rfl rfl
theorem kw439 : (Jvm.Cond.instanceMethod ({ cls := "DishRounds", name := "dish", desc := "(II)I" } : Jvm.MethodName)) ∈ LW := lwt2 162 rfl rfl
theorem kw440 : (Jvm.Cond.selects "DishRounds" ({ cls := "DishRounds", name := "dish", desc := "(II)I" } : Jvm.MethodName) ({ cls := "DishRounds", name := "dish", desc := "(II)I" } : Jvm.MethodName)) ∈ LW := lwt2 163 rfl rfl
theorem kw441 : (Jvm.Cond.code ({ cls := "DishRounds", name := "dish", desc := "(II)I" } : Jvm.MethodName) prog_1_method_13_code (4 : Nat) (Option.some Jvm.ClassFile.FieldType.int)) ∈ LW := lwt2 164 rfl rfl
theorem kw442 : (Jvm.Cond.methodLink "DishRounds" (151 : Nat) ({ cls := "DishRounds", name := "sideOf", desc := "(I)I" } : Jvm.MethodName)) ∈ LW := lwt2 165 rfl rfl
theorem kw443 : (Jvm.Cond.static ({ cls := "DishRounds", name := "sideOf", desc := "(I)I" } : Jvm.MethodName)) ∈ LW := lwt2 166 rfl rfl
theorem kw444 : (Jvm.Cond.code ({ cls := "DishRounds", name := "sideOf", desc := "(I)I" } : Jvm.MethodName) prog_1_method_31_code (1 : Nat) (Option.some Jvm.ClassFile.FieldType.int)) ∈ LW := lwt2 167 rfl rfl
theorem kw445 : (Jvm.Cond.methodLink "DishRoundsLaw" (65 : Nat) ({ cls := "DishRounds", name := "way", desc := "(III)I" } : Jvm.MethodName)) ∈ LW := lwt2 168 rfl rfl
theorem kw446 : (Jvm.Cond.instanceMethod ({ cls := "DishRounds", name := "way", desc := "(III)I" } : Jvm.MethodName)) ∈ LW := lwt2 169 rfl rfl
theorem kw447 : (Jvm.Cond.selects "DishRounds" ({ cls := "DishRounds", name := "way", desc := "(III)I" } : Jvm.MethodName) ({ cls := "DishRounds", name := "way", desc := "(III)I" } : Jvm.MethodName)) ∈ LW := lwt2 170 rfl rfl
theorem kw448 : (Jvm.Cond.code ({ cls := "DishRounds", name := "way", desc := "(III)I" } : Jvm.MethodName) prog_1_method_14_code (6 : Nat) (Option.some Jvm.ClassFile.FieldType.int)) ∈ LW := lwt2 171 rfl rfl
theorem kw449 : (Jvm.Cond.methodLink "DishRounds" (154 : Nat) ({ cls := "DishRounds$Flight", name := "isOpen", desc := "()Z" } : Jvm.MethodName)) ∈ LW := lwt2 172 rfl rfl
theorem kw450 : (Jvm.Cond.instanceMethod ({ cls := "DishRounds$Flight", name := "isOpen", desc := "()Z" } : Jvm.MethodName)) ∈ LW := lwt2 173 rfl rfl
theorem kw451 : (Jvm.Cond.selects "DishRounds$Flight" ({ cls := "DishRounds$Flight", name := "isOpen", desc := "()Z" } : Jvm.MethodName) ({ cls := "DishRounds$Flight", name := "isOpen", desc := "()Z" } : Jvm.MethodName)) ∈ LW := lwt2 174 rfl rfl
theorem kw452 : (Jvm.Cond.code ({ cls := "DishRounds$Flight", name := "isOpen", desc := "()Z" } : Jvm.MethodName) prog_2_method_5_code (1 : Nat) (Option.some Jvm.ClassFile.FieldType.boolean)) ∈ LW := lwt2 175 rfl rfl
theorem kw453 : (Jvm.Cond.methodLink "DishRounds$Flight" (34 : Nat) ({ cls := "DishRounds$Flight", name := "isTaken", desc := "()Z" } : Jvm.MethodName)) ∈ LW := lwt2 176 rfl rfl
theorem kw454 : (Jvm.Cond.methodLink "DishRounds" (157 : Nat) ({ cls := "DishRounds$Search", name := "bestWay", desc := "(ILDishRounds$Flight;)LDishRounds$Way;" } : Jvm.MethodName)) ∈ LW := lwt2 177 rfl rfl
theorem kw455 : (Jvm.Cond.instanceMethod ({ cls := "DishRounds$Search", name := "bestWay", desc := "(ILDishRounds$Flight;)LDishRounds$Way;" } : Jvm.MethodName)) ∈ LW := lwt2 178 rfl rfl
theorem kw456 : (Jvm.Cond.selects "DishRounds$Search" ({ cls := "DishRounds$Search", name := "bestWay", desc := "(ILDishRounds$Flight;)LDishRounds$Way;" } : Jvm.MethodName) ({ cls := "DishRounds$Search", name := "bestWay", desc := "(ILDishRounds$Flight;)LDishRounds$Way;" } : Jvm.MethodName)) ∈ LW := lwt2 179 rfl rfl
theorem kw457 : (Jvm.Cond.code ({ cls := "DishRounds$Search", name := "bestWay", desc := "(ILDishRounds$Flight;)LDishRounds$Way;" } : Jvm.MethodName) prog_4_method_3_code (4 : Nat) (Option.some (Jvm.ClassFile.FieldType.object "DishRounds$Way"))) ∈ LW := lwt2 180 rfl rfl
theorem kw458 : (Jvm.Cond.methodLink "DishRounds$Search" (70 : Nat) ({ cls := "DishRounds$Flight", name := "lastTick", desc := "()I" } : Jvm.MethodName)) ∈ LW := lwt2 181 rfl rfl
theorem kw459 : (Jvm.Cond.instanceMethod ({ cls := "DishRounds$Flight", name := "lastTick", desc := "()I" } : Jvm.MethodName)) ∈ LW := lwt2 182 rfl rfl
theorem kw460 : (Jvm.Cond.selects "DishRounds$Flight" ({ cls := "DishRounds$Flight", name := "lastTick", desc := "()I" } : Jvm.MethodName) ({ cls := "DishRounds$Flight", name := "lastTick", desc := "()I" } : Jvm.MethodName)) ∈ LW := lwt2 183 rfl rfl
theorem kw461 : (Jvm.Cond.code ({ cls := "DishRounds$Flight", name := "lastTick", desc := "()I" } : Jvm.MethodName) prog_2_method_6_code (1 : Nat) (Option.some Jvm.ClassFile.FieldType.int)) ∈ LW := lwt2 184 rfl rfl
theorem kw462 : (Jvm.Cond.methodLink "DishRounds$Search" (79 : Nat) ({ cls := "java/lang/Math", name := "min", desc := "(II)I" } : Jvm.MethodName)) ∈ LW := lwt2 185 rfl rfl
theorem kw463 : (Jvm.Cond.methodLink "DishRounds$Search" (85 : Nat) ({ cls := "DishRounds$Way", name := "clear", desc := "(I)V" } : Jvm.MethodName)) ∈ LW := lwt2 186 rfl rfl
theorem kw464 : (Jvm.Cond.instanceMethod ({ cls := "DishRounds$Way", name := "clear", desc := "(I)V" } : Jvm.MethodName)) ∈ LW := lwt2 187 rfl rfl
theorem kw465 : (Jvm.Cond.selects "DishRounds$Way" ({ cls := "DishRounds$Way", name := "clear", desc := "(I)V" } : Jvm.MethodName) ({ cls := "DishRounds$Way", name := "clear", desc := "(I)V" } : Jvm.MethodName)) ∈ LW := lwt2 188 rfl rfl
theorem kw466 : (Jvm.Cond.code ({ cls := "DishRounds$Way", name := "clear", desc := "(I)V" } : Jvm.MethodName) prog_6_method_2_code (3 : Nat) (Option.none : Option Jvm.ClassFile.FieldType)) ∈ LW := lwt2 189 rfl rfl
theorem kw467 : (Jvm.Cond.methodLink "DishRounds$Way" (57 : Nat) ({ cls := "java/util/Arrays", name := "fill", desc := "([II)V" } : Jvm.MethodName)) ∈ LW := lwt2 190 rfl rfl
theorem kw468 : (Jvm.Cond.static ({ cls := "java/util/Arrays", name := "fill", desc := "([II)V" } : Jvm.MethodName)) ∈ LW := lwt2 191 rfl rfl
theorem kw469 : (Jvm.Cond.code ({ cls := "java/util/Arrays", name := "fill", desc := "([II)V" } : Jvm.MethodName) prog_12_method_103_code (4 : Nat) (Option.none : Option Jvm.ClassFile.FieldType)) ∈ LW := lwt2 192 rfl rfl
theorem kw470 : (Jvm.Cond.methodLink "DishRounds$Search" (89 : Nat) ({ cls := "DishRounds$Search", name := "goBack", desc := "()V" } : Jvm.MethodName)) ∈ LW := lwt2 193 rfl rfl
theorem kw472 : (Jvm.Cond.instanceMethod ({ cls := "DishRounds$Search", name := "goBack", desc := "()V" } : Jvm.MethodName)) ∈ LW := lwt2 195 rfl rfl
theorem kw473 : (Jvm.Cond.code ({ cls := "DishRounds$Search", name := "goBack", desc := "()V" } : Jvm.MethodName) prog_4_method_5_code (2 : Nat) (Option.none : Option Jvm.ClassFile.FieldType)) ∈ LW := lwt2 196 rfl rfl
theorem kw474 : (Jvm.Cond.methodLink "DishRounds$Search" (107 : Nat) ({ cls := "java/util/Arrays", name := "fill", desc := "([II)V" } : Jvm.MethodName)) ∈ LW := lwt2 197 rfl rfl
theorem kw475 : (Jvm.Cond.methodLink "DishRounds$Search" (113 : Nat) ({ cls := "DishRounds$Search", name := "reach", desc := "([III)V" } : Jvm.MethodName)) ∈ LW := lwt2 198 rfl rfl
theorem kw477 : (Jvm.Cond.instanceMethod ({ cls := "DishRounds$Search", name := "reach", desc := "([III)V" } : Jvm.MethodName)) ∈ LW := lwt2 200 rfl rfl
theorem kw478 : (Jvm.Cond.code ({ cls := "DishRounds$Search", name := "reach", desc := "([III)V" } : Jvm.MethodName) prog_4_method_9_code (7 : Nat) (Option.none : Option Jvm.ClassFile.FieldType)) ∈ LW := lwt2 201 rfl rfl
theorem kw479 : (Jvm.Cond.constant "DishRounds$Search" (198 : Nat) (-1000000 : Int32)) ∈ LW := lwt2 202 rfl rfl
theorem kw480 : (Jvm.Cond.methodLink "DishRounds$Search" (167 : Nat) ({ cls := "DishRounds$Search", name := "lowWind", desc := "(I)I" } : Jvm.MethodName)) ∈ LW := lwt2 203 rfl rfl
theorem kw482 : (Jvm.Cond.instanceMethod ({ cls := "DishRounds$Search", name := "lowWind", desc := "(I)I" } : Jvm.MethodName)) ∈ LW := lwt2 205 rfl rfl
theorem kw483 : (Jvm.Cond.code ({ cls := "DishRounds$Search", name := "lowWind", desc := "(I)I" } : Jvm.MethodName) prog_4_method_18_code (2 : Nat) (Option.some Jvm.ClassFile.FieldType.int)) ∈ LW := lwt2 206 rfl rfl
theorem kw484 : (Jvm.Cond.methodLink "DishRounds$Search" (170 : Nat) ({ cls := "java/lang/Math", name := "max", desc := "(II)I" } : Jvm.MethodName)) ∈ LW := lwt2 207 rfl rfl
theorem kw485 : (Jvm.Cond.static ({ cls := "java/lang/Math", name := "max", desc := "(II)I" } : Jvm.MethodName)) ∈ LW := lwt2 208 rfl rfl
theorem kw486 : (Jvm.Cond.code ({ cls := "java/lang/Math", name := "max", desc := "(II)I" } : Jvm.MethodName) prog_10_method_65_code (2 : Nat) (Option.some Jvm.ClassFile.FieldType.int)) ∈ LW := lwt2 209 rfl rfl
theorem kw487 : (Jvm.Cond.methodLink "DishRounds$Search" (160 : Nat) ({ cls := "DishRounds$Search", name := "highWind", desc := "(I)I" } : Jvm.MethodName)) ∈ LW := lwt2 210 rfl rfl
theorem kw489 : (Jvm.Cond.instanceMethod ({ cls := "DishRounds$Search", name := "highWind", desc := "(I)I" } : Jvm.MethodName)) ∈ LW := lwt2 212 rfl rfl
theorem kw490 : (Jvm.Cond.code ({ cls := "DishRounds$Search", name := "highWind", desc := "(I)I" } : Jvm.MethodName) prog_4_method_19_code (2 : Nat) (Option.some Jvm.ClassFile.FieldType.int)) ∈ LW := lwt2 213 rfl rfl
theorem kw491 : (Jvm.Cond.methodLink "DishRounds$Search" (199 : Nat) ({ cls := "DishRounds$Search", name := "tilt", desc := "([IIII)V" } : Jvm.MethodName)) ∈ LW := lwt2 214 rfl rfl
theorem kw493 : (Jvm.Cond.instanceMethod ({ cls := "DishRounds$Search", name := "tilt", desc := "([IIII)V" } : Jvm.MethodName)) ∈ LW := lwt2 216 rfl rfl
theorem kw494 : (Jvm.Cond.code ({ cls := "DishRounds$Search", name := "tilt", desc := "([IIII)V" } : Jvm.MethodName) prog_4_method_10_code (10 : Nat) (Option.none : Option Jvm.ClassFile.FieldType)) ∈ LW := lwt2 217 rfl rfl
theorem kw495 : (Jvm.Cond.methodLink "DishRounds$Search" (203 : Nat) ({ cls := "DishRounds$Search", name := "turn", desc := "(II)V" } : Jvm.MethodName)) ∈ LW := lwt2 218 rfl rfl
theorem kw497 : (Jvm.Cond.instanceMethod ({ cls := "DishRounds$Search", name := "turn", desc := "(II)V" } : Jvm.MethodName)) ∈ LW := lwt2 220 rfl rfl
theorem kw498 : (Jvm.Cond.code ({ cls := "DishRounds$Search", name := "turn", desc := "(II)V" } : Jvm.MethodName) prog_4_method_11_code (6 : Nat) (Option.none : Option Jvm.ClassFile.FieldType)) ∈ LW := lwt2 221 rfl rfl
theorem kw499 : (Jvm.Cond.methodLink "DishRounds$Search" (117 : Nat) ({ cls := "DishRounds$Search", name := "enterRow", desc := "([III)V" } : Jvm.MethodName)) ∈ LW := lwt2 222 rfl rfl
theorem kw501 : (Jvm.Cond.instanceMethod ({ cls := "DishRounds$Search", name := "enterRow", desc := "([III)V" } : Jvm.MethodName)) ∈ LW := lwt2 224 rfl rfl
theorem kw502 : (Jvm.Cond.code ({ cls := "DishRounds$Search", name := "enterRow", desc := "([III)V" } : Jvm.MethodName) prog_4_method_12_code (13 : Nat) (Option.none : Option Jvm.ClassFile.FieldType)) ∈ LW := lwt2 225 rfl rfl
theorem kw503 : (Jvm.Cond.methodLink "DishRounds$Search" (210 : Nat) ({ cls := "DishRounds$Sky", name := "isStormy", desc := "(I)Z" } : Jvm.MethodName)) ∈ LW := lwt2 226 rfl rfl
theorem kw504 : (Jvm.Cond.instanceMethod ({ cls := "DishRounds$Sky", name := "isStormy", desc := "(I)Z" } : Jvm.MethodName)) ∈ LW := lwt2 227 rfl rfl
theorem kw505 : (Jvm.Cond.selects "DishRounds$Sky" ({ cls := "DishRounds$Sky", name := "isStormy", desc := "(I)Z" } : Jvm.MethodName) ({ cls := "DishRounds$Sky", name := "isStormy", desc := "(I)Z" } : Jvm.MethodName)) ∈ LW := lwt2 228 rfl rfl
theorem kw506 : (Jvm.Cond.code ({ cls := "DishRounds$Sky", name := "isStormy", desc := "(I)Z" } : Jvm.MethodName) prog_5_method_7_code (2 : Nat) (Option.some Jvm.ClassFile.FieldType.boolean)) ∈ LW := lwt2 229 rfl rfl
theorem kw509 : (Jvm.Cond.methodLink "DishRounds$Search" (218 : Nat) ({ cls := "DishRounds$Sky", name := "isSunSide", desc := "(II)Z" } : Jvm.MethodName)) ∈ LW := lwt2 232 rfl rfl
theorem kw510 : (Jvm.Cond.methodLink "DishRounds$Search" (222 : Nat) ({ cls := "DishRounds$Sky", name := "isSunHeight", desc := "(I)Z" } : Jvm.MethodName)) ∈ LW := lwt2 233 rfl rfl
theorem kw511 : (Jvm.Cond.methodLink "DishRounds$Search" (120 : Nat) ({ cls := "DishRounds$Search", name := "aimAt", desc := "(I)V" } : Jvm.MethodName)) ∈ LW := lwt2 234 rfl rfl
theorem kw513 : (Jvm.Cond.instanceMethod ({ cls := "DishRounds$Search", name := "aimAt", desc := "(I)V" } : Jvm.MethodName)) ∈ LW := lwt2 236 rfl rfl
theorem kw514 : (Jvm.Cond.code ({ cls := "DishRounds$Search", name := "aimAt", desc := "(I)V" } : Jvm.MethodName) prog_4_method_13_code (4 : Nat) (Option.none : Option Jvm.ClassFile.FieldType)) ∈ LW := lwt2 237 rfl rfl
theorem kw515 : (Jvm.Cond.methodLink "DishRounds$Search" (176 : Nat) ({ cls := "DishRounds$Search", name := "pointOf", desc := "(I)I" } : Jvm.MethodName)) ∈ LW := lwt2 238 rfl rfl
theorem kw517 : (Jvm.Cond.instanceMethod ({ cls := "DishRounds$Search", name := "pointOf", desc := "(I)I" } : Jvm.MethodName)) ∈ LW := lwt3 0 rfl rfl
theorem kw518 : (Jvm.Cond.code ({ cls := "DishRounds$Search", name := "pointOf", desc := "(I)I" } : Jvm.MethodName) prog_4_method_16_code (3 : Nat) (Option.some Jvm.ClassFile.FieldType.int)) ∈ LW := lwt3 1 rfl rfl
theorem kw520 : (Jvm.Cond.methodLink "DishRounds$Search" (234 : Nat) ({ cls := "DishRounds$Sky", name := "isBurnt", desc := "(III)Z" } : Jvm.MethodName)) ∈ LW := lwt3 3 rfl rfl
theorem kw521 : (Jvm.Cond.methodLink "DishRounds$Search" (123 : Nat) ({ cls := "DishRounds$Search", name := "addGain", desc := "([III)V" } : Jvm.MethodName)) ∈ LW := lwt3 4 rfl rfl
theorem kw523 : (Jvm.Cond.instanceMethod ({ cls := "DishRounds$Search", name := "addGain", desc := "([III)V" } : Jvm.MethodName)) ∈ LW := lwt3 6 rfl rfl
theorem kw524 : (Jvm.Cond.code ({ cls := "DishRounds$Search", name := "addGain", desc := "([III)V" } : Jvm.MethodName) prog_4_method_14_code (7 : Nat) (Option.none : Option Jvm.ClassFile.FieldType)) ∈ LW := lwt3 7 rfl rfl
theorem kw526 : (Jvm.Cond.methodLink "DishRounds$Search" (139 : Nat) ({ cls := "DishRounds$Search", name := "isDead", desc := "(I)Z" } : Jvm.MethodName)) ∈ LW := lwt3 9 rfl rfl
theorem kw527 : (Jvm.Cond.static ({ cls := "DishRounds$Search", name := "isDead", desc := "(I)Z" } : Jvm.MethodName)) ∈ LW := lwt3 10 rfl rfl
theorem kw528 : (Jvm.Cond.code ({ cls := "DishRounds$Search", name := "isDead", desc := "(I)Z" } : Jvm.MethodName) prog_4_method_21_code (1 : Nat) (Option.some Jvm.ClassFile.FieldType.boolean)) ∈ LW := lwt3 11 rfl rfl
theorem kw529 : (Jvm.Cond.constant "DishRounds$Search" (244 : Nat) (-500000 : Int32)) ∈ LW := lwt3 12 rfl rfl
theorem kw530 : (Jvm.Cond.methodLink "DishRounds$Search" (154 : Nat) ({ cls := "DishRounds$Search", name := "gain", desc := "(II)I" } : Jvm.MethodName)) ∈ LW := lwt3 13 rfl rfl
theorem kw532 : (Jvm.Cond.instanceMethod ({ cls := "DishRounds$Search", name := "gain", desc := "(II)I" } : Jvm.MethodName)) ∈ LW := lwt3 15 rfl rfl
theorem kw533 : (Jvm.Cond.code ({ cls := "DishRounds$Search", name := "gain", desc := "(II)I" } : Jvm.MethodName) prog_4_method_15_code (3 : Nat) (Option.some Jvm.ClassFile.FieldType.int)) ∈ LW := lwt3 16 rfl rfl
theorem kw534 : (Jvm.Cond.methodLink "DishRounds$Search" (92 : Nat) ({ cls := "DishRounds$Search", name := "follow", desc := "(LDishRounds$Way;)V" } : Jvm.MethodName)) ∈ LW := lwt3 17 rfl rfl
theorem kw536 : (Jvm.Cond.instanceMethod ({ cls := "DishRounds$Search", name := "follow", desc := "(LDishRounds$Way;)V" } : Jvm.MethodName)) ∈ LW := lwt3 19 rfl rfl
theorem kw537 : (Jvm.Cond.code ({ cls := "DishRounds$Search", name := "follow", desc := "(LDishRounds$Way;)V" } : Jvm.MethodName) prog_4_method_6_code (6 : Nat) (Option.none : Option Jvm.ClassFile.FieldType)) ∈ LW := lwt3 20 rfl rfl
theorem kw538 : (Jvm.Cond.methodLink "DishRounds$Search" (135 : Nat) ({ cls := "DishRounds$Search", name := "cell", desc := "(III)I" } : Jvm.MethodName)) ∈ LW := lwt3 21 rfl rfl
theorem kw539 : (Jvm.Cond.static ({ cls := "DishRounds$Search", name := "cell", desc := "(III)I" } : Jvm.MethodName)) ∈ LW := lwt3 22 rfl rfl
theorem kw540 : (Jvm.Cond.code ({ cls := "DishRounds$Search", name := "cell", desc := "(III)I" } : Jvm.MethodName) prog_4_method_20_code (3 : Nat) (Option.some Jvm.ClassFile.FieldType.int)) ∈ LW := lwt3 23 rfl rfl
theorem kw541 : (Jvm.Cond.methodLink "DishRounds$Search" (143 : Nat) ({ cls := "DishRounds$Way", name := "startAt", desc := "(III)V" } : Jvm.MethodName)) ∈ LW := lwt3 24 rfl rfl
theorem kw542 : (Jvm.Cond.instanceMethod ({ cls := "DishRounds$Way", name := "startAt", desc := "(III)V" } : Jvm.MethodName)) ∈ LW := lwt3 25 rfl rfl
theorem kw543 : (Jvm.Cond.selects "DishRounds$Way" ({ cls := "DishRounds$Way", name := "startAt", desc := "(III)V" } : Jvm.MethodName) ({ cls := "DishRounds$Way", name := "startAt", desc := "(III)V" } : Jvm.MethodName)) ∈ LW := lwt3 26 rfl rfl
theorem kw544 : (Jvm.Cond.code ({ cls := "DishRounds$Way", name := "startAt", desc := "(III)V" } : Jvm.MethodName) prog_6_method_3_code (4 : Nat) (Option.none : Option Jvm.ClassFile.FieldType)) ∈ LW := lwt3 27 rfl rfl
theorem kw545 : (Jvm.Cond.methodLink "DishRounds$Search" (147 : Nat) ({ cls := "DishRounds$Search", name := "nextCell", desc := "(III)I" } : Jvm.MethodName)) ∈ LW := lwt3 28 rfl rfl
theorem kw547 : (Jvm.Cond.instanceMethod ({ cls := "DishRounds$Search", name := "nextCell", desc := "(III)I" } : Jvm.MethodName)) ∈ LW := lwt3 30 rfl rfl
theorem kw548 : (Jvm.Cond.code ({ cls := "DishRounds$Search", name := "nextCell", desc := "(III)I" } : Jvm.MethodName) prog_4_method_7_code (9 : Nat) (Option.some Jvm.ClassFile.FieldType.int)) ∈ LW := lwt3 31 rfl rfl
theorem kw549 : (Jvm.Cond.methodLink "DishRounds$Search" (173 : Nat) ({ cls := "java/lang/Math", name := "abs", desc := "(I)I" } : Jvm.MethodName)) ∈ LW := lwt3 32 rfl rfl
theorem kw550 : (Jvm.Cond.methodLink "DishRounds$Search" (150 : Nat) ({ cls := "DishRounds$Way", name := "goTo", desc := "(II)V" } : Jvm.MethodName)) ∈ LW := lwt3 33 rfl rfl
theorem kw551 : (Jvm.Cond.instanceMethod ({ cls := "DishRounds$Way", name := "goTo", desc := "(II)V" } : Jvm.MethodName)) ∈ LW := lwt3 34 rfl rfl
theorem kw552 : (Jvm.Cond.selects "DishRounds$Way" ({ cls := "DishRounds$Way", name := "goTo", desc := "(II)V" } : Jvm.MethodName) ({ cls := "DishRounds$Way", name := "goTo", desc := "(II)V" } : Jvm.MethodName)) ∈ LW := lwt3 35 rfl rfl
theorem kw553 : (Jvm.Cond.code ({ cls := "DishRounds$Way", name := "goTo", desc := "(II)V" } : Jvm.MethodName) prog_6_method_4_code (3 : Nat) (Option.none : Option Jvm.ClassFile.FieldType)) ∈ LW := lwt3 36 rfl rfl
theorem kw554 : (Jvm.Cond.methodLink "DishRounds$Way" (63 : Nat) ({ cls := "java/lang/Math", name := "abs", desc := "(I)I" } : Jvm.MethodName)) ∈ LW := lwt3 37 rfl rfl
theorem kw555 : (Jvm.Cond.methodLink "DishRounds$Search" (157 : Nat) ({ cls := "DishRounds$Way", name := "see", desc := "()V" } : Jvm.MethodName)) ∈ LW := lwt3 38 rfl rfl
theorem kw556 : (Jvm.Cond.instanceMethod ({ cls := "DishRounds$Way", name := "see", desc := "()V" } : Jvm.MethodName)) ∈ LW := lwt3 39 rfl rfl
theorem kw557 : (Jvm.Cond.selects "DishRounds$Way" ({ cls := "DishRounds$Way", name := "see", desc := "()V" } : Jvm.MethodName) ({ cls := "DishRounds$Way", name := "see", desc := "()V" } : Jvm.MethodName)) ∈ LW := lwt3 40 rfl rfl
theorem kw558 : (Jvm.Cond.code ({ cls := "DishRounds$Way", name := "see", desc := "()V" } : Jvm.MethodName) prog_6_method_5_code (1 : Nat) (Option.none : Option Jvm.ClassFile.FieldType)) ∈ LW := lwt3 41 rfl rfl
theorem kw559 : (Jvm.Cond.methodLink "DishRoundsLaw" (69 : Nat) ({ cls := "DishRounds", name := "where", desc := "(IIII)I" } : Jvm.MethodName)) ∈ LW := lwt3 42 rfl rfl
theorem kw560 : (Jvm.Cond.instanceMethod ({ cls := "DishRounds", name := "where", desc := "(IIII)I" } : Jvm.MethodName)) ∈ LW := lwt3 43 rfl rfl
theorem kw561 : (Jvm.Cond.selects "DishRounds" ({ cls := "DishRounds", name := "where", desc := "(IIII)I" } : Jvm.MethodName) ({ cls := "DishRounds", name := "where", desc := "(IIII)I" } : Jvm.MethodName)) ∈ LW := lwt3 44 rfl rfl
theorem kw562 : (Jvm.Cond.code ({ cls := "DishRounds", name := "where", desc := "(IIII)I" } : Jvm.MethodName) prog_1_method_15_code (7 : Nat) (Option.some Jvm.ClassFile.FieldType.int)) ∈ LW := lwt3 45 rfl rfl
theorem kw563 : (Jvm.Cond.methodLink "DishRoundsLaw" (73 : Nat) ({ cls := "DishRounds", name := "offer", desc := "(II)I" } : Jvm.MethodName)) ∈ LW := lwt3 46 rfl rfl
theorem kw564 : (Jvm.Cond.instanceMethod ({ cls := "DishRounds", name := "offer", desc := "(II)I" } : Jvm.MethodName)) ∈ LW := lwt3 47 rfl rfl
theorem kw565 : (Jvm.Cond.selects "DishRounds" ({ cls := "DishRounds", name := "offer", desc := "(II)I" } : Jvm.MethodName) ({ cls := "DishRounds", name := "offer", desc := "(II)I" } : Jvm.MethodName)) ∈ LW := lwt3 48 rfl rfl
theorem kw566 : (Jvm.Cond.code ({ cls := "DishRounds", name := "offer", desc := "(II)I" } : Jvm.MethodName) prog_1_method_16_code (5 : Nat) (Option.some Jvm.ClassFile.FieldType.int)) ∈ LW := lwt3 49 rfl rfl
theorem kw567 : (Jvm.Cond.methodLink "DishRounds" (193 : Nat) ({ cls := "DishRounds", name := "bestDish", desc := "(LDishRounds$Flight;)I" } : Jvm.MethodName)) ∈ LW := lwt3 50 rfl rfl
theorem kw569 : (Jvm.Cond.instanceMethod ({ cls := "DishRounds", name := "bestDish", desc := "(LDishRounds$Flight;)I" } : Jvm.MethodName)) ∈ LW := lwt3 52 rfl rfl
theorem kw570 : (Jvm.Cond.code ({ cls := "DishRounds", name := "bestDish", desc := "(LDishRounds$Flight;)I" } : Jvm.MethodName) prog_1_method_32_code (5 : Nat) (Option.some Jvm.ClassFile.FieldType.int)) ∈ LW := lwt3 53 rfl rfl
theorem kw571 : (Jvm.Cond.methodLink "DishRounds" (248 : Nat) ({ cls := "DishRounds$Way", name := "isBetterThan", desc := "(LDishRounds$Way;)Z" } : Jvm.MethodName)) ∈ LW := lwt3 54 rfl rfl
theorem kw572 : (Jvm.Cond.instanceMethod ({ cls := "DishRounds$Way", name := "isBetterThan", desc := "(LDishRounds$Way;)Z" } : Jvm.MethodName)) ∈ LW := lwt3 55 rfl rfl
theorem kw573 : (Jvm.Cond.selects "DishRounds$Way" ({ cls := "DishRounds$Way", name := "isBetterThan", desc := "(LDishRounds$Way;)Z" } : Jvm.MethodName) ({ cls := "DishRounds$Way", name := "isBetterThan", desc := "(LDishRounds$Way;)Z" } : Jvm.MethodName)) ∈ LW := lwt3 56 rfl rfl
theorem kw574 : (Jvm.Cond.code ({ cls := "DishRounds$Way", name := "isBetterThan", desc := "(LDishRounds$Way;)Z" } : Jvm.MethodName) prog_6_method_6_code (2 : Nat) (Option.some Jvm.ClassFile.FieldType.boolean)) ∈ LW := lwt3 57 rfl rfl
theorem kw575 : (Jvm.Cond.methodLink "DishRoundsLaw" (77 : Nat) ({ cls := "DishRounds", name := "share", desc := "(IIII)I" } : Jvm.MethodName)) ∈ LW := lwt3 58 rfl rfl
theorem kw576 : (Jvm.Cond.instanceMethod ({ cls := "DishRounds", name := "share", desc := "(IIII)I" } : Jvm.MethodName)) ∈ LW := lwt3 59 rfl rfl
theorem kw577 : (Jvm.Cond.selects "DishRounds" ({ cls := "DishRounds", name := "share", desc := "(IIII)I" } : Jvm.MethodName) ({ cls := "DishRounds", name := "share", desc := "(IIII)I" } : Jvm.MethodName)) ∈ LW := lwt3 60 rfl rfl
theorem kw578 : (Jvm.Cond.code ({ cls := "DishRounds", name := "share", desc := "(IIII)I" } : Jvm.MethodName) prog_1_method_17_code (9 : Nat) (Option.some Jvm.ClassFile.FieldType.int)) ∈ LW := lwt3 61 rfl rfl
theorem kw579 : (Jvm.Cond.methodLink "DishRounds" (197 : Nat) ({ cls := "DishRounds$Search", name := "sharedWay", desc := "(ILDishRounds$Flight;)LDishRounds$Way;" } : Jvm.MethodName)) ∈ LW := lwt3 62 rfl rfl
theorem kw580 : (Jvm.Cond.instanceMethod ({ cls := "DishRounds$Search", name := "sharedWay", desc := "(ILDishRounds$Flight;)LDishRounds$Way;" } : Jvm.MethodName)) ∈ LW := lwt3 63 rfl rfl
theorem kw581 : (Jvm.Cond.selects "DishRounds$Search" ({ cls := "DishRounds$Search", name := "sharedWay", desc := "(ILDishRounds$Flight;)LDishRounds$Way;" } : Jvm.MethodName) ({ cls := "DishRounds$Search", name := "sharedWay", desc := "(ILDishRounds$Flight;)LDishRounds$Way;" } : Jvm.MethodName)) ∈ LW := lwt3 64 rfl rfl
theorem kw582 : (Jvm.Cond.code ({ cls := "DishRounds$Search", name := "sharedWay", desc := "(ILDishRounds$Flight;)LDishRounds$Way;" } : Jvm.MethodName) prog_4_method_4_code (4 : Nat) (Option.some (Jvm.ClassFile.FieldType.object "DishRounds$Way"))) ∈ LW := lwt3 65 rfl rfl
theorem kw583 : (Jvm.Cond.methodLink "DishRounds$Search" (100 : Nat) ({ cls := "DishRounds$Search", name := "bestWay", desc := "(ILDishRounds$Flight;)LDishRounds$Way;" } : Jvm.MethodName)) ∈ LW := lwt3 66 rfl rfl
theorem kw584 : (Jvm.Cond.methodLink "DishRounds$Search" (104 : Nat) ({ cls := "DishRounds$Search", name := "goForth", desc := "(LDishRounds$Way;)V" } : Jvm.MethodName)) ∈ LW := lwt3 67 rfl rfl
theorem kw586 : (Jvm.Cond.instanceMethod ({ cls := "DishRounds$Search", name := "goForth", desc := "(LDishRounds$Way;)V" } : Jvm.MethodName)) ∈ LW := lwt3 69 rfl rfl
theorem kw587 : (Jvm.Cond.code ({ cls := "DishRounds$Search", name := "goForth", desc := "(LDishRounds$Way;)V" } : Jvm.MethodName) prog_4_method_8_code (4 : Nat) (Option.none : Option Jvm.ClassFile.FieldType)) ∈ LW := lwt3 70 rfl rfl
theorem kw588 : (Jvm.Cond.methodLink "DishRounds$Search" (182 : Nat) ({ cls := "DishRounds$Search", name := "mostSeen", desc := "([III)I" } : Jvm.MethodName)) ∈ LW := lwt3 71 rfl rfl
theorem kw590 : (Jvm.Cond.instanceMethod ({ cls := "DishRounds$Search", name := "mostSeen", desc := "([III)I" } : Jvm.MethodName)) ∈ LW := lwt3 73 rfl rfl
theorem kw591 : (Jvm.Cond.code ({ cls := "DishRounds$Search", name := "mostSeen", desc := "([III)I" } : Jvm.MethodName) prog_4_method_17_code (7 : Nat) (Option.some Jvm.ClassFile.FieldType.int)) ∈ LW := lwt3 74 rfl rfl
theorem kw592 : (Jvm.Cond.methodLink "DishRounds" (200 : Nat) ({ cls := "DishRounds", name := "bestHandOver", desc := "(LDishRounds$Way;LDishRounds$Way;I)I" } : Jvm.MethodName)) ∈ LW := lwt3 75 rfl rfl
theorem kw593 : (Jvm.Cond.static ({ cls := "DishRounds", name := "bestHandOver", desc := "(LDishRounds$Way;LDishRounds$Way;I)I" } : Jvm.MethodName)) ∈ LW := lwt3 76 rfl rfl
theorem kw594 : (Jvm.Cond.code ({ cls := "DishRounds", name := "bestHandOver", desc := "(LDishRounds$Way;LDishRounds$Way;I)I" } : Jvm.MethodName) prog_1_method_33_code (5 : Nat) (Option.some Jvm.ClassFile.FieldType.int)) ∈ LW := lwt3 77 rfl rfl
theorem kw595 : (Jvm.Cond.methodLink "DishRoundsLaw" (81 : Nat) ({ cls := "DishRounds", name := "take", desc := "(II)I" } : Jvm.MethodName)) ∈ LW := lwt3 78 rfl rfl
theorem kw596 : (Jvm.Cond.instanceMethod ({ cls := "DishRounds", name := "take", desc := "(II)I" } : Jvm.MethodName)) ∈ LW := lwt3 79 rfl rfl
theorem kw597 : (Jvm.Cond.selects "DishRounds" ({ cls := "DishRounds", name := "take", desc := "(II)I" } : Jvm.MethodName) ({ cls := "DishRounds", name := "take", desc := "(II)I" } : Jvm.MethodName)) ∈ LW := lwt3 80 rfl rfl
theorem kw598 : (Jvm.Cond.code ({ cls := "DishRounds", name := "take", desc := "(II)I" } : Jvm.MethodName) prog_1_method_18_code (6 : Nat) (Option.some Jvm.ClassFile.FieldType.int)) ∈ LW := lwt3 81 rfl rfl
theorem kw599 : (Jvm.Cond.methodLink "DishRounds" (210 : Nat) ({ cls := "DishRounds", name := "goAlong", desc := "(ILDishRounds$Flight;LDishRounds$Way;)V" } : Jvm.MethodName)) ∈ LW := lwt3 82 rfl rfl
theorem kw601 : (Jvm.Cond.instanceMethod ({ cls := "DishRounds", name := "goAlong", desc := "(ILDishRounds$Flight;LDishRounds$Way;)V" } : Jvm.MethodName)) ∈ LW := lwt3 84 rfl rfl
theorem kw602 : (Jvm.Cond.code ({ cls := "DishRounds", name := "goAlong", desc := "(ILDishRounds$Flight;LDishRounds$Way;)V" } : Jvm.MethodName) prog_1_method_34_code (5 : Nat) (Option.none : Option Jvm.ClassFile.FieldType)) ∈ LW := lwt3 85 rfl rfl
theorem kw603 : (Jvm.Cond.methodLink "DishRoundsLaw" (85 : Nat) ({ cls := "DishRounds", name := "round", desc := "()I" } : Jvm.MethodName)) ∈ LW := lwt3 86 rfl rfl
theorem kw604 : (Jvm.Cond.instanceMethod ({ cls := "DishRounds", name := "round", desc := "()I" } : Jvm.MethodName)) ∈ LW := lwt3 87 rfl rfl
theorem kw605 : (Jvm.Cond.selects "DishRounds" ({ cls := "DishRounds", name := "round", desc := "()I" } : Jvm.MethodName) ({ cls := "DishRounds", name := "round", desc := "()I" } : Jvm.MethodName)) ∈ LW := lwt3 88 rfl rfl
theorem kw606 : (Jvm.Cond.code ({ cls := "DishRounds", name := "round", desc := "()I" } : Jvm.MethodName) prog_1_method_19_code (7 : Nat) (Option.some Jvm.ClassFile.FieldType.int)) ∈ LW := lwt3 89 rfl rfl
theorem kw607 : (Jvm.Cond.methodLink "DishRounds" (214 : Nat) ({ cls := "DishRounds$World", name := "nextOpen", desc := "(I)I" } : Jvm.MethodName)) ∈ LW := lwt3 90 rfl rfl
theorem kw608 : (Jvm.Cond.instanceMethod ({ cls := "DishRounds$World", name := "nextOpen", desc := "(I)I" } : Jvm.MethodName)) ∈ LW := lwt3 91 rfl rfl
theorem kw609 : (Jvm.Cond.selects "DishRounds$World" ({ cls := "DishRounds$World", name := "nextOpen", desc := "(I)I" } : Jvm.MethodName) ({ cls := "DishRounds$World", name := "nextOpen", desc := "(I)I" } : Jvm.MethodName)) ∈ LW := lwt3 92 rfl rfl
theorem kw610 : (Jvm.Cond.code ({ cls := "DishRounds$World", name := "nextOpen", desc := "(I)I" } : Jvm.MethodName) prog_7_method_5_code (5 : Nat) (Option.some Jvm.ClassFile.FieldType.int)) ∈ LW := lwt3 93 rfl rfl
theorem kw611 : (Jvm.Cond.methodLink "DishRounds$World" (59 : Nat) ({ cls := "DishRounds$Flight", name := "isOpen", desc := "()Z" } : Jvm.MethodName)) ∈ LW := lwt3 94 rfl rfl
theorem kw612 : (Jvm.Cond.methodLink "DishRoundsLaw" (90 : Nat) ({ cls := "DishRounds", name := "looked", desc := "(II)I" } : Jvm.MethodName)) ∈ LW := lwt3 95 rfl rfl
theorem kw613 : (Jvm.Cond.instanceMethod ({ cls := "DishRounds", name := "looked", desc := "(II)I" } : Jvm.MethodName)) ∈ LW := lwt3 96 rfl rfl
theorem kw614 : (Jvm.Cond.selects "DishRounds" ({ cls := "DishRounds", name := "looked", desc := "(II)I" } : Jvm.MethodName) ({ cls := "DishRounds", name := "looked", desc := "(II)I" } : Jvm.MethodName)) ∈ LW := lwt3 97 rfl rfl
theorem kw615 : (Jvm.Cond.code ({ cls := "DishRounds", name := "looked", desc := "(II)I" } : Jvm.MethodName) prog_1_method_20_code (3 : Nat) (Option.some Jvm.ClassFile.FieldType.int)) ∈ LW := lwt3 98 rfl rfl
theorem kw616 : (Jvm.Cond.methodLink "DishRoundsLaw" (94 : Nat) ({ cls := "DishRounds", name := "count", desc := "(I)I" } : Jvm.MethodName)) ∈ LW := lwt3 99 rfl rfl
theorem kw617 : (Jvm.Cond.instanceMethod ({ cls := "DishRounds", name := "count", desc := "(I)I" } : Jvm.MethodName)) ∈ LW := lwt3 100 rfl rfl
theorem kw618 : (Jvm.Cond.selects "DishRounds" ({ cls := "DishRounds", name := "count", desc := "(I)I" } : Jvm.MethodName) ({ cls := "DishRounds", name := "count", desc := "(I)I" } : Jvm.MethodName)) ∈ LW := lwt3 101 rfl rfl
theorem kw619 : (Jvm.Cond.code ({ cls := "DishRounds", name := "count", desc := "(I)I" } : Jvm.MethodName) prog_1_method_21_code (3 : Nat) (Option.some Jvm.ClassFile.FieldType.int)) ∈ LW := lwt3 102 rfl rfl
theorem kw620 : (Jvm.Cond.methodLink "DishRounds" (220 : Nat) ({ cls := "DishRounds$World", name := "takenFlights", desc := "()I" } : Jvm.MethodName)) ∈ LW := lwt3 103 rfl rfl
theorem kw621 : (Jvm.Cond.instanceMethod ({ cls := "DishRounds$World", name := "takenFlights", desc := "()I" } : Jvm.MethodName)) ∈ LW := lwt3 104 rfl rfl
theorem kw622 : (Jvm.Cond.selects "DishRounds$World" ({ cls := "DishRounds$World", name := "takenFlights", desc := "()I" } : Jvm.MethodName) ({ cls := "DishRounds$World", name := "takenFlights", desc := "()I" } : Jvm.MethodName)) ∈ LW := lwt3 105 rfl rfl
theorem kw623 : (Jvm.Cond.code ({ cls := "DishRounds$World", name := "takenFlights", desc := "()I" } : Jvm.MethodName) prog_7_method_6_code (3 : Nat) (Option.some Jvm.ClassFile.FieldType.int)) ∈ LW := lwt3 106 rfl rfl
theorem kw624 : (Jvm.Cond.methodLink "DishRounds$World" (66 : Nat) ({ cls := "DishRounds$Flight", name := "isTaken", desc := "()Z" } : Jvm.MethodName)) ∈ LW := lwt3 107 rfl rfl
theorem kw625 : (Jvm.Cond.methodLink "DishRounds" (224 : Nat) ({ cls := "DishRounds$World", name := "allPoints", desc := "()I" } : Jvm.MethodName)) ∈ LW := lwt3 108 rfl rfl
theorem kw626 : (Jvm.Cond.instanceMethod ({ cls := "DishRounds$World", name := "allPoints", desc := "()I" } : Jvm.MethodName)) ∈ LW := lwt3 109 rfl rfl
theorem kw627 : (Jvm.Cond.selects "DishRounds$World" ({ cls := "DishRounds$World", name := "allPoints", desc := "()I" } : Jvm.MethodName) ({ cls := "DishRounds$World", name := "allPoints", desc := "()I" } : Jvm.MethodName)) ∈ LW := lwt3 110 rfl rfl
theorem kw628 : (Jvm.Cond.code ({ cls := "DishRounds$World", name := "allPoints", desc := "()I" } : Jvm.MethodName) prog_7_method_7_code (3 : Nat) (Option.some Jvm.ClassFile.FieldType.int)) ∈ LW := lwt3 111 rfl rfl
theorem kw629 : (Jvm.Cond.methodLink "DishRounds" (227 : Nat) ({ cls := "DishRounds$World", name := "allLooks", desc := "()I" } : Jvm.MethodName)) ∈ LW := lwt3 112 rfl rfl
theorem kw630 : (Jvm.Cond.instanceMethod ({ cls := "DishRounds$World", name := "allLooks", desc := "()I" } : Jvm.MethodName)) ∈ LW := lwt3 113 rfl rfl
theorem kw631 : (Jvm.Cond.selects "DishRounds$World" ({ cls := "DishRounds$World", name := "allLooks", desc := "()I" } : Jvm.MethodName) ({ cls := "DishRounds$World", name := "allLooks", desc := "()I" } : Jvm.MethodName)) ∈ LW := lwt3 114 rfl rfl
theorem kw632 : (Jvm.Cond.code ({ cls := "DishRounds$World", name := "allLooks", desc := "()I" } : Jvm.MethodName) prog_7_method_8_code (3 : Nat) (Option.some Jvm.ClassFile.FieldType.int)) ∈ LW := lwt3 115 rfl rfl
theorem kw633 : (Jvm.Cond.methodLink "DishRounds" (230 : Nat) ({ cls := "DishRounds$World", name := "unlikeLooks", desc := "()I" } : Jvm.MethodName)) ∈ LW := lwt3 116 rfl rfl
theorem kw634 : (Jvm.Cond.instanceMethod ({ cls := "DishRounds$World", name := "unlikeLooks", desc := "()I" } : Jvm.MethodName)) ∈ LW := lwt3 117 rfl rfl
theorem kw635 : (Jvm.Cond.selects "DishRounds$World" ({ cls := "DishRounds$World", name := "unlikeLooks", desc := "()I" } : Jvm.MethodName) ({ cls := "DishRounds$World", name := "unlikeLooks", desc := "()I" } : Jvm.MethodName)) ∈ LW := lwt3 118 rfl rfl
theorem kw636 : (Jvm.Cond.code ({ cls := "DishRounds$World", name := "unlikeLooks", desc := "()I" } : Jvm.MethodName) prog_7_method_9_code (3 : Nat) (Option.some Jvm.ClassFile.FieldType.int)) ∈ LW := lwt3 119 rfl rfl
theorem kw637 : (Jvm.Cond.methodLink "DishRounds" (242 : Nat) ({ cls := "DishRounds$Sky", name := "hasStorm", desc := "()Z" } : Jvm.MethodName)) ∈ LW := lwt3 120 rfl rfl
theorem kw638 : (Jvm.Cond.instanceMethod ({ cls := "DishRounds$Sky", name := "hasStorm", desc := "()Z" } : Jvm.MethodName)) ∈ LW := lwt3 121 rfl rfl
theorem kw639 : (Jvm.Cond.selects "DishRounds$Sky" ({ cls := "DishRounds$Sky", name := "hasStorm", desc := "()Z" } : Jvm.MethodName) ({ cls := "DishRounds$Sky", name := "hasStorm", desc := "()Z" } : Jvm.MethodName)) ∈ LW := lwt3 122 rfl rfl
theorem kw640 : (Jvm.Cond.code ({ cls := "DishRounds$Sky", name := "hasStorm", desc := "()Z" } : Jvm.MethodName) prog_5_method_6_code (1 : Nat) (Option.some Jvm.ClassFile.FieldType.boolean)) ∈ LW := lwt3 123 rfl rfl
theorem kw641 : (Jvm.Cond.methodLink "DishRoundsLaw" (98 : Nat) ({ cls := "DishRounds", name := "image", desc := "(I)I" } : Jvm.MethodName)) ∈ LW := lwt3 124 rfl rfl
theorem kw642 : (Jvm.Cond.instanceMethod ({ cls := "DishRounds", name := "image", desc := "(I)I" } : Jvm.MethodName)) ∈ LW := lwt3 125 rfl rfl
theorem kw643 : (Jvm.Cond.selects "DishRounds" ({ cls := "DishRounds", name := "image", desc := "(I)I" } : Jvm.MethodName) ({ cls := "DishRounds", name := "image", desc := "(I)I" } : Jvm.MethodName)) ∈ LW := lwt3 126 rfl rfl
theorem kw644 : (Jvm.Cond.code ({ cls := "DishRounds", name := "image", desc := "(I)I" } : Jvm.MethodName) prog_1_method_22_code (2 : Nat) (Option.some Jvm.ClassFile.FieldType.int)) ∈ LW := lwt3 127 rfl rfl
theorem kw645 : (Jvm.Cond.methodLink "DishRounds" (245 : Nat) ({ cls := "DishRounds$World", name := "copyFrom", desc := "(LDishRounds$World;)V" } : Jvm.MethodName)) ∈ LW := lwt3 128 rfl rfl
theorem kw646 : (Jvm.Cond.instanceMethod ({ cls := "DishRounds$World", name := "copyFrom", desc := "(LDishRounds$World;)V" } : Jvm.MethodName)) ∈ LW := lwt3 129 rfl rfl
theorem kw647 : (Jvm.Cond.selects "DishRounds$World" ({ cls := "DishRounds$World", name := "copyFrom", desc := "(LDishRounds$World;)V" } : Jvm.MethodName) ({ cls := "DishRounds$World", name := "copyFrom", desc := "(LDishRounds$World;)V" } : Jvm.MethodName)) ∈ LW := lwt3 130 rfl rfl
theorem kw648 : (Jvm.Cond.code ({ cls := "DishRounds$World", name := "copyFrom", desc := "(LDishRounds$World;)V" } : Jvm.MethodName) prog_7_method_2_code (3 : Nat) (Option.none : Option Jvm.ClassFile.FieldType)) ∈ LW := lwt3 131 rfl rfl
theorem kw649 : (Jvm.Cond.methodLink "DishRounds$World" (40 : Nat) ({ cls := "DishRounds$Flight", name := "copyFrom", desc := "(LDishRounds$Flight;)V" } : Jvm.MethodName)) ∈ LW := lwt3 132 rfl rfl
theorem kw650 : (Jvm.Cond.instanceMethod ({ cls := "DishRounds$Flight", name := "copyFrom", desc := "(LDishRounds$Flight;)V" } : Jvm.MethodName)) ∈ LW := lwt3 133 rfl rfl
theorem kw651 : (Jvm.Cond.selects "DishRounds$Flight" ({ cls := "DishRounds$Flight", name := "copyFrom", desc := "(LDishRounds$Flight;)V" } : Jvm.MethodName) ({ cls := "DishRounds$Flight", name := "copyFrom", desc := "(LDishRounds$Flight;)V" } : Jvm.MethodName)) ∈ LW := lwt3 134 rfl rfl
theorem kw652 : (Jvm.Cond.code ({ cls := "DishRounds$Flight", name := "copyFrom", desc := "(LDishRounds$Flight;)V" } : Jvm.MethodName) prog_2_method_7_code (2 : Nat) (Option.none : Option Jvm.ClassFile.FieldType)) ∈ LW := lwt3 135 rfl rfl
theorem kw653 : (Jvm.Cond.methodLink "DishRounds$Flight" (38 : Nat) ({ cls := "java/lang/System", name := "arraycopy", desc := "(Ljava/lang/Object;ILjava/lang/Object;II)V" } : Jvm.MethodName)) ∈ LW := lwt3 136 rfl rfl
theorem kw654 : (Jvm.Cond.static ({ cls := "java/lang/System", name := "arraycopy", desc := "(Ljava/lang/Object;ILjava/lang/Object;II)V" } : Jvm.MethodName)) ∈ LW := lwt3 137 rfl rfl
theorem kw655 : (Jvm.Cond.native ({ cls := "java/lang/System", name := "arraycopy", desc := "(Ljava/lang/Object;ILjava/lang/Object;II)V" } : Jvm.MethodName)) ∈ LW := lwt3 138 rfl rfl
theorem kw656 : (Jvm.Cond.methodLink "DishRounds$World" (44 : Nat) ({ cls := "DishRounds$Mount", name := "copyFrom", desc := "(LDishRounds$Mount;)V" } : Jvm.MethodName)) ∈ LW := lwt3 139 rfl rfl
theorem kw657 : (Jvm.Cond.instanceMethod ({ cls := "DishRounds$Mount", name := "copyFrom", desc := "(LDishRounds$Mount;)V" } : Jvm.MethodName)) ∈ LW := lwt3 140 rfl rfl
theorem kw658 : (Jvm.Cond.selects "DishRounds$Mount" ({ cls := "DishRounds$Mount", name := "copyFrom", desc := "(LDishRounds$Mount;)V" } : Jvm.MethodName) ({ cls := "DishRounds$Mount", name := "copyFrom", desc := "(LDishRounds$Mount;)V" } : Jvm.MethodName)) ∈ LW := lwt3 141 rfl rfl
theorem kw659 : (Jvm.Cond.code ({ cls := "DishRounds$Mount", name := "copyFrom", desc := "(LDishRounds$Mount;)V" } : Jvm.MethodName) prog_3_method_3_code (2 : Nat) (Option.none : Option Jvm.ClassFile.FieldType)) ∈ LW := lwt3 142 rfl rfl
theorem kw660 : (Jvm.Cond.methodLink "DishRounds$Mount" (27 : Nat) ({ cls := "DishRounds$Mount", name := "turnTo", desc := "(III)V" } : Jvm.MethodName)) ∈ LW := lwt3 143 rfl rfl
theorem kw661 : (Jvm.Cond.methodLink "DishRounds$World" (47 : Nat) ({ cls := "DishRounds$Sky", name := "copyFrom", desc := "(LDishRounds$Sky;)V" } : Jvm.MethodName)) ∈ LW := lwt3 144 rfl rfl
theorem kw662 : (Jvm.Cond.instanceMethod ({ cls := "DishRounds$Sky", name := "copyFrom", desc := "(LDishRounds$Sky;)V" } : Jvm.MethodName)) ∈ LW := lwt3 145 rfl rfl
theorem kw663 : (Jvm.Cond.selects "DishRounds$Sky" ({ cls := "DishRounds$Sky", name := "copyFrom", desc := "(LDishRounds$Sky;)V" } : Jvm.MethodName) ({ cls := "DishRounds$Sky", name := "copyFrom", desc := "(LDishRounds$Sky;)V" } : Jvm.MethodName)) ∈ LW := lwt3 146 rfl rfl
theorem kw664 : (Jvm.Cond.code ({ cls := "DishRounds$Sky", name := "copyFrom", desc := "(LDishRounds$Sky;)V" } : Jvm.MethodName) prog_5_method_8_code (2 : Nat) (Option.none : Option Jvm.ClassFile.FieldType)) ∈ LW := lwt3 147 rfl rfl
theorem kw665 : (Jvm.Cond.methodLink "DishRounds$Sky" (55 : Nat) ({ cls := "DishRounds$Sky", name := "putSun", desc := "(IIII)V" } : Jvm.MethodName)) ∈ LW := lwt3 148 rfl rfl
theorem kw666 : (Jvm.Cond.methodLink "DishRounds$World" (50 : Nat) ({ cls := "java/lang/System", name := "arraycopy", desc := "(Ljava/lang/Object;ILjava/lang/Object;II)V" } : Jvm.MethodName)) ∈ LW := lwt3 149 rfl rfl
theorem kw667 : (Jvm.Cond.methodLink "DishRoundsLaw" (102 : Nat) ({ cls := "DishRounds", name := "restore", desc := "(I)I" } : Jvm.MethodName)) ∈ LW := lwt3 150 rfl rfl
theorem kw668 : (Jvm.Cond.instanceMethod ({ cls := "DishRounds", name := "restore", desc := "(I)I" } : Jvm.MethodName)) ∈ LW := lwt3 151 rfl rfl
theorem kw669 : (Jvm.Cond.selects "DishRounds" ({ cls := "DishRounds", name := "restore", desc := "(I)I" } : Jvm.MethodName) ({ cls := "DishRounds", name := "restore", desc := "(I)I" } : Jvm.MethodName)) ∈ LW := lwt3 152 rfl rfl
theorem kw670 : (Jvm.Cond.code ({ cls := "DishRounds", name := "restore", desc := "(I)I" } : Jvm.MethodName) prog_1_method_23_code (2 : Nat) (Option.some Jvm.ClassFile.FieldType.int)) ∈ LW := lwt3 153 rfl rfl
theorem kw671 : (Jvm.Cond.classLink "DishRoundsLaw" (10 : Nat) "DishRoundsModel") ∈ LW := lwt3 154 rfl rfl
theorem kw672 : (Jvm.Cond.instantiable "DishRoundsModel" (12 : Nat)) ∈ LW := lwt3 155 rfl rfl
theorem kw673 : (Jvm.Cond.methodLink "DishRoundsLaw" (12 : Nat) ({ cls := "DishRoundsModel", name := "<init>", desc := "()V" } : Jvm.MethodName)) ∈ LW := lwt3 156 rfl rfl
theorem kw674 : (Jvm.Cond.instanceMethod ({ cls := "DishRoundsModel", name := "<init>", desc := "()V" } : Jvm.MethodName)) ∈ LW := lwt3 157 rfl rfl
theorem kw675 : (Jvm.Cond.code ({ cls := "DishRoundsModel", name := "<init>", desc := "()V" } : Jvm.MethodName) prog_9_method_1_code (2 : Nat) (Option.none : Option Jvm.ClassFile.FieldType)) ∈ LW := lwt3 158 rfl rfl
theorem kw676 : (Jvm.Cond.methodLink "DishRoundsModel" (1 : Nat) ({ cls := "java/lang/Object", name := "<init>", desc := "()V" } : Jvm.MethodName)) ∈ LW := lwt3 159 rfl rfl
theorem kw677 : (Jvm.Cond.constant "DishRoundsModel" (20 : Nat) (40880 : Int32)) ∈ LW := lwt3 160 rfl rfl
theorem kw678 : (Jvm.Cond.fieldLink "DishRoundsModel" (7 : Nat) "DishRoundsModel" "state" "[I") ∈ LW := lwt3 161 rfl rfl
theorem kw679 : (Jvm.Cond.fieldLink "DishRoundsModel" (13 : Nat) "DishRoundsModel" "images" "[I") ∈ LW := lwt3 162 rfl rfl
theorem kw680 : (Jvm.Cond.fieldLink "DishRoundsModel" (16 : Nat) "DishRoundsModel" "isKept" "[Z") ∈ LW := lwt3 163 rfl rfl
theorem kw681 : (Jvm.Cond.fieldLink "DishRoundsModel" (21 : Nat) "DishRoundsModel" "best" "[I") ∈ LW := lwt3 164 rfl rfl
theorem kw682 : (Jvm.Cond.fieldLink "DishRoundsModel" (71 : Nat) "DishRoundsModel" "dish" "I") ∈ LW := lwt3 165 rfl rfl
theorem kw683 : (Jvm.Cond.fieldLink "DishRoundsModel" (61 : Nat) "DishRoundsModel" "pass" "I") ∈ LW := lwt3 166 rfl rfl
theorem kw684 : (Jvm.Cond.fieldLink "DishRoundsModel" (68 : Nat) "DishRoundsModel" "points" "I") ∈ LW := lwt3 167 rfl rfl
theorem kw685 : (Jvm.Cond.fieldLink "DishRoundsModel" (65 : Nat) "DishRoundsModel" "firstSeen" "I") ∈ LW := lwt3 168 rfl rfl
theorem kw686 : (Jvm.Cond.fieldLink "DishRoundsModel" (24 : Nat) "DishRoundsModel" "winds" "[I") ∈ LW := lwt3 169 rfl rfl
theorem kw687 : (Jvm.Cond.fieldLink "DishRoundsModel" (27 : Nat) "DishRoundsModel" "heights" "[I") ∈ LW := lwt3 170 rfl rfl
theorem kw688 : (Jvm.Cond.fieldLink "DishRoundsModel" (30 : Nat) "DishRoundsModel" "isSeen" "[Z") ∈ LW := lwt3 171 rfl rfl
theorem kw689 : (Jvm.Cond.fieldLink "DishRoundsModel" (125 : Nat) "DishRoundsModel" "offered" "I") ∈ LW := lwt3 172 rfl rfl
theorem kw715 : (Jvm.Cond.methodLink "DishRoundsLaw" (17 : Nat) ({ cls := "DishRoundsModel", name := "pass", desc := "(II)I" } : Jvm.MethodName)) ∈ LW := lwt3 198 rfl rfl
theorem kw716 : (Jvm.Cond.instanceMethod ({ cls := "DishRoundsModel", name := "pass", desc := "(II)I" } : Jvm.MethodName)) ∈ LW := lwt3 199 rfl rfl
theorem kw717 : (Jvm.Cond.selects "DishRoundsModel" ({ cls := "DishRoundsModel", name := "pass", desc := "(II)I" } : Jvm.MethodName) ({ cls := "DishRoundsModel", name := "pass", desc := "(II)I" } : Jvm.MethodName)) ∈ LW := lwt3 200 rfl rfl
theorem kw718 : (Jvm.Cond.code ({ cls := "DishRoundsModel", name := "pass", desc := "(II)I" } : Jvm.MethodName) prog_9_method_9_code (4 : Nat) (Option.some Jvm.ClassFile.FieldType.int)) ∈ LW := lwt3 201 rfl rfl
theorem kw719 : (Jvm.Cond.methodLink "DishRoundsModel" (33 : Nat) ({ cls := "DishRoundsModel", name := "in", desc := "(III)Z" } : Jvm.MethodName)) ∈ LW := lwt3 202 rfl rfl
theorem kw720 : (Jvm.Cond.static ({ cls := "DishRoundsModel", name := "in", desc := "(III)Z" } : Jvm.MethodName)) ∈ LW := lwt3 203 rfl rfl
theorem kw721 : (Jvm.Cond.code ({ cls := "DishRoundsModel", name := "in", desc := "(III)Z" } : Jvm.MethodName) prog_9_method_2_code (3 : Nat) (Option.some Jvm.ClassFile.FieldType.boolean)) ∈ LW := lwt3 204 rfl rfl
theorem kw722 : (Jvm.Cond.methodLink "DishRoundsModel" (37 : Nat) ({ cls := "DishRoundsModel", name := "passOf", desc := "(I)I" } : Jvm.MethodName)) ∈ LW := lwt3 205 rfl rfl
theorem kw724 : (Jvm.Cond.instanceMethod ({ cls := "DishRoundsModel", name := "passOf", desc := "(I)I" } : Jvm.MethodName)) ∈ LW := lwt3 207 rfl rfl
theorem kw725 : (Jvm.Cond.code ({ cls := "DishRoundsModel", name := "passOf", desc := "(I)I" } : Jvm.MethodName) prog_9_method_7_code (4 : Nat) (Option.some Jvm.ClassFile.FieldType.int)) ∈ LW := lwt3 208 rfl rfl
theorem kw726 : (Jvm.Cond.methodLink "DishRoundsLaw" (22 : Nat) ({ cls := "DishRoundsModel", name := "point", desc := "(III)I" } : Jvm.MethodName)) ∈ LW := lwt3 209 rfl rfl
theorem kw727 : (Jvm.Cond.instanceMethod ({ cls := "DishRoundsModel", name := "point", desc := "(III)I" } : Jvm.MethodName)) ∈ LW := lwt3 210 rfl rfl
theorem kw728 : (Jvm.Cond.selects "DishRoundsModel" ({ cls := "DishRoundsModel", name := "point", desc := "(III)I" } : Jvm.MethodName) ({ cls := "DishRoundsModel", name := "point", desc := "(III)I" } : Jvm.MethodName)) ∈ LW := lwt3 211 rfl rfl
theorem kw729 : (Jvm.Cond.code ({ cls := "DishRoundsModel", name := "point", desc := "(III)I" } : Jvm.MethodName) prog_9_method_10_code (6 : Nat) (Option.some Jvm.ClassFile.FieldType.int)) ∈ LW := lwt3 212 rfl rfl
theorem kw730 : (Jvm.Cond.methodLink "DishRoundsModel" (41 : Nat) ({ cls := "DishRoundsModel", name := "isDirection", desc := "(II)Z" } : Jvm.MethodName)) ∈ LW := lwt3 213 rfl rfl
theorem kw731 : (Jvm.Cond.static ({ cls := "DishRoundsModel", name := "isDirection", desc := "(II)Z" } : Jvm.MethodName)) ∈ LW := lwt3 214 rfl rfl
theorem kw732 : (Jvm.Cond.code ({ cls := "DishRoundsModel", name := "isDirection", desc := "(II)Z" } : Jvm.MethodName) prog_9_method_6_code (2 : Nat) (Option.some Jvm.ClassFile.FieldType.boolean)) ∈ LW := lwt3 215 rfl rfl
theorem kw733 : (Jvm.Cond.methodLink "DishRoundsLaw" (27 : Nat) ({ cls := "DishRoundsModel", name := "drop", desc := "(I)I" } : Jvm.MethodName)) ∈ LW := lwt3 216 rfl rfl
theorem kw734 : (Jvm.Cond.instanceMethod ({ cls := "DishRoundsModel", name := "drop", desc := "(I)I" } : Jvm.MethodName)) ∈ LW := lwt3 217 rfl rfl
theorem kw735 : (Jvm.Cond.selects "DishRoundsModel" ({ cls := "DishRoundsModel", name := "drop", desc := "(I)I" } : Jvm.MethodName) ({ cls := "DishRoundsModel", name := "drop", desc := "(I)I" } : Jvm.MethodName)) ∈ LW := lwt3 218 rfl rfl
theorem kw736 : (Jvm.Cond.code ({ cls := "DishRoundsModel", name := "drop", desc := "(I)I" } : Jvm.MethodName) prog_9_method_11_code (5 : Nat) (Option.some Jvm.ClassFile.FieldType.int)) ∈ LW := lwt3 219 rfl rfl
theorem kw737 : (Jvm.Cond.methodLink "DishRoundsLaw" (32 : Nat) ({ cls := "DishRoundsModel", name := "stand", desc := "(IIII)I" } : Jvm.MethodName)) ∈ LW := lwt3 220 rfl rfl
theorem kw738 : (Jvm.Cond.instanceMethod ({ cls := "DishRoundsModel", name := "stand", desc := "(IIII)I" } : Jvm.MethodName)) ∈ LW := lwt3 221 rfl rfl
theorem kw739 : (Jvm.Cond.selects "DishRoundsModel" ({ cls := "DishRoundsModel", name := "stand", desc := "(IIII)I" } : Jvm.MethodName) ({ cls := "DishRoundsModel", name := "stand", desc := "(IIII)I" } : Jvm.MethodName)) ∈ LW := lwt3 222 rfl rfl
theorem kw740 : (Jvm.Cond.code ({ cls := "DishRoundsModel", name := "stand", desc := "(IIII)I" } : Jvm.MethodName) prog_9_method_12_code (5 : Nat) (Option.some Jvm.ClassFile.FieldType.int)) ∈ LW := lwt3 223 rfl rfl
theorem kw741 : (Jvm.Cond.methodLink "DishRoundsModel" (45 : Nat) ({ cls := "DishRoundsModel", name := "isDish", desc := "(I)Z" } : Jvm.MethodName)) ∈ LW := lwt3 224 rfl rfl
theorem kw742 : (Jvm.Cond.static ({ cls := "DishRoundsModel", name := "isDish", desc := "(I)Z" } : Jvm.MethodName)) ∈ LW := lwt3 225 rfl rfl
theorem kw743 : (Jvm.Cond.code ({ cls := "DishRoundsModel", name := "isDish", desc := "(I)Z" } : Jvm.MethodName) prog_9_method_5_code (1 : Nat) (Option.some Jvm.ClassFile.FieldType.boolean)) ∈ LW := lwt3 226 rfl rfl
theorem kw744 : (Jvm.Cond.methodLink "DishRoundsModel" (49 : Nat) ({ cls := "DishRoundsModel", name := "isTick", desc := "(I)Z" } : Jvm.MethodName)) ∈ LW := lwt3 227 rfl rfl
theorem kw745 : (Jvm.Cond.static ({ cls := "DishRoundsModel", name := "isTick", desc := "(I)Z" } : Jvm.MethodName)) ∈ LW := lwt3 228 rfl rfl
theorem kw746 : (Jvm.Cond.code ({ cls := "DishRoundsModel", name := "isTick", desc := "(I)Z" } : Jvm.MethodName) prog_9_method_4_code (1 : Nat) (Option.some Jvm.ClassFile.FieldType.boolean)) ∈ LW := lwt3 229 rfl rfl
theorem kw747 : (Jvm.Cond.methodLink "DishRoundsLaw" (36 : Nat) ({ cls := "DishRoundsModel", name := "set", desc := "(III)I" } : Jvm.MethodName)) ∈ LW := lwt3 230 rfl rfl
theorem kw748 : (Jvm.Cond.instanceMethod ({ cls := "DishRoundsModel", name := "set", desc := "(III)I" } : Jvm.MethodName)) ∈ LW := lwt3 231 rfl rfl
theorem kw749 : (Jvm.Cond.selects "DishRoundsModel" ({ cls := "DishRoundsModel", name := "set", desc := "(III)I" } : Jvm.MethodName) ({ cls := "DishRoundsModel", name := "set", desc := "(III)I" } : Jvm.MethodName)) ∈ LW := lwt3 232 rfl rfl
theorem kw750 : (Jvm.Cond.code ({ cls := "DishRoundsModel", name := "set", desc := "(III)I" } : Jvm.MethodName) prog_9_method_13_code (6 : Nat) (Option.some Jvm.ClassFile.FieldType.int)) ∈ LW := lwt3 233 rfl rfl
theorem kw751 : (Jvm.Cond.methodLink "DishRoundsModel" (52 : Nat) ({ cls := "DishRoundsModel", name := "size", desc := "(I)I" } : Jvm.MethodName)) ∈ LW := lwt3 234 rfl rfl
theorem kw752 : (Jvm.Cond.static ({ cls := "DishRoundsModel", name := "size", desc := "(I)I" } : Jvm.MethodName)) ∈ LW := lwt3 235 rfl rfl
theorem kw753 : (Jvm.Cond.code ({ cls := "DishRoundsModel", name := "size", desc := "(I)I" } : Jvm.MethodName) prog_9_method_3_code (1 : Nat) (Option.some Jvm.ClassFile.FieldType.int)) ∈ LW := lwt3 236 rfl rfl
theorem kw754 : (Jvm.Cond.methodLink "DishRoundsLaw" (40 : Nat) ({ cls := "DishRoundsModel", name := "sun", desc := "(IIII)I" } : Jvm.MethodName)) ∈ LW := lwt3 237 rfl rfl
theorem kw755 : (Jvm.Cond.instanceMethod ({ cls := "DishRoundsModel", name := "sun", desc := "(IIII)I" } : Jvm.MethodName)) ∈ LW := lwt3 238 rfl rfl
theorem kw756 : (Jvm.Cond.selects "DishRoundsModel" ({ cls := "DishRoundsModel", name := "sun", desc := "(IIII)I" } : Jvm.MethodName) ({ cls := "DishRoundsModel", name := "sun", desc := "(IIII)I" } : Jvm.MethodName)) ∈ LW := lwt3 239 rfl rfl
theorem kw757 : (Jvm.Cond.code ({ cls := "DishRoundsModel", name := "sun", desc := "(IIII)I" } : Jvm.MethodName) prog_9_method_14_code (5 : Nat) (Option.some Jvm.ClassFile.FieldType.int)) ∈ LW := lwt4 0 rfl rfl
theorem kw758 : (Jvm.Cond.methodLink "DishRoundsLaw" (44 : Nat) ({ cls := "DishRoundsModel", name := "storm", desc := "(II)I" } : Jvm.MethodName)) ∈ LW := lwt4 1 rfl rfl
theorem kw759 : (Jvm.Cond.instanceMethod ({ cls := "DishRoundsModel", name := "storm", desc := "(II)I" } : Jvm.MethodName)) ∈ LW := lwt4 2 rfl rfl
theorem kw760 : (Jvm.Cond.selects "DishRoundsModel" ({ cls := "DishRoundsModel", name := "storm", desc := "(II)I" } : Jvm.MethodName) ({ cls := "DishRoundsModel", name := "storm", desc := "(II)I" } : Jvm.MethodName)) ∈ LW := lwt4 3 rfl rfl
theorem kw761 : (Jvm.Cond.code ({ cls := "DishRoundsModel", name := "storm", desc := "(II)I" } : Jvm.MethodName) prog_9_method_15_code (3 : Nat) (Option.some Jvm.ClassFile.FieldType.int)) ∈ LW := lwt4 4 rfl rfl
theorem kw762 : (Jvm.Cond.methodLink "DishRoundsLaw" (48 : Nat) ({ cls := "DishRoundsModel", name := "key", desc := "(I)I" } : Jvm.MethodName)) ∈ LW := lwt4 5 rfl rfl
theorem kw763 : (Jvm.Cond.instanceMethod ({ cls := "DishRoundsModel", name := "key", desc := "(I)I" } : Jvm.MethodName)) ∈ LW := lwt4 6 rfl rfl
theorem kw764 : (Jvm.Cond.selects "DishRoundsModel" ({ cls := "DishRoundsModel", name := "key", desc := "(I)I" } : Jvm.MethodName) ({ cls := "DishRoundsModel", name := "key", desc := "(I)I" } : Jvm.MethodName)) ∈ LW := lwt4 7 rfl rfl
theorem kw765 : (Jvm.Cond.code ({ cls := "DishRoundsModel", name := "key", desc := "(I)I" } : Jvm.MethodName) prog_9_method_16_code (3 : Nat) (Option.some Jvm.ClassFile.FieldType.int)) ∈ LW := lwt4 8 rfl rfl
theorem kw766 : (Jvm.Cond.methodLink "DishRoundsLaw" (52 : Nat) ({ cls := "DishRoundsModel", name := "burnt", desc := "(III)I" } : Jvm.MethodName)) ∈ LW := lwt4 9 rfl rfl
theorem kw767 : (Jvm.Cond.instanceMethod ({ cls := "DishRoundsModel", name := "burnt", desc := "(III)I" } : Jvm.MethodName)) ∈ LW := lwt4 10 rfl rfl
theorem kw768 : (Jvm.Cond.selects "DishRoundsModel" ({ cls := "DishRoundsModel", name := "burnt", desc := "(III)I" } : Jvm.MethodName) ({ cls := "DishRoundsModel", name := "burnt", desc := "(III)I" } : Jvm.MethodName)) ∈ LW := lwt4 11 rfl rfl
theorem kw769 : (Jvm.Cond.code ({ cls := "DishRoundsModel", name := "burnt", desc := "(III)I" } : Jvm.MethodName) prog_9_method_18_code (4 : Nat) (Option.some Jvm.ClassFile.FieldType.int)) ∈ LW := lwt4 12 rfl rfl
theorem kw770 : (Jvm.Cond.methodLink "DishRoundsModel" (55 : Nat) ({ cls := "DishRoundsModel", name := "isBurnt", desc := "(III)Z" } : Jvm.MethodName)) ∈ LW := lwt4 13 rfl rfl
theorem kw772 : (Jvm.Cond.instanceMethod ({ cls := "DishRoundsModel", name := "isBurnt", desc := "(III)Z" } : Jvm.MethodName)) ∈ LW := lwt4 15 rfl rfl
theorem kw773 : (Jvm.Cond.code ({ cls := "DishRoundsModel", name := "isBurnt", desc := "(III)Z" } : Jvm.MethodName) prog_9_method_17_code (7 : Nat) (Option.some Jvm.ClassFile.FieldType.boolean)) ∈ LW := lwt4 16 rfl rfl
theorem kw774 : (Jvm.Cond.methodLink "DishRoundsLaw" (56 : Nat) ({ cls := "DishRoundsModel", name := "told", desc := "(II)I" } : Jvm.MethodName)) ∈ LW := lwt4 17 rfl rfl
theorem kw775 : (Jvm.Cond.instanceMethod ({ cls := "DishRoundsModel", name := "told", desc := "(II)I" } : Jvm.MethodName)) ∈ LW := lwt4 18 rfl rfl
theorem kw776 : (Jvm.Cond.selects "DishRoundsModel" ({ cls := "DishRoundsModel", name := "told", desc := "(II)I" } : Jvm.MethodName) ({ cls := "DishRoundsModel", name := "told", desc := "(II)I" } : Jvm.MethodName)) ∈ LW := lwt4 19 rfl rfl
theorem kw777 : (Jvm.Cond.code ({ cls := "DishRoundsModel", name := "told", desc := "(II)I" } : Jvm.MethodName) prog_9_method_19_code (4 : Nat) (Option.some Jvm.ClassFile.FieldType.int)) ∈ LW := lwt4 20 rfl rfl
theorem kw778 : (Jvm.Cond.methodLink "DishRoundsLaw" (60 : Nat) ({ cls := "DishRoundsModel", name := "order", desc := "(I)I" } : Jvm.MethodName)) ∈ LW := lwt4 21 rfl rfl
theorem kw779 : (Jvm.Cond.instanceMethod ({ cls := "DishRoundsModel", name := "order", desc := "(I)I" } : Jvm.MethodName)) ∈ LW := lwt4 22 rfl rfl
theorem kw780 : (Jvm.Cond.selects "DishRoundsModel" ({ cls := "DishRoundsModel", name := "order", desc := "(I)I" } : Jvm.MethodName) ({ cls := "DishRoundsModel", name := "order", desc := "(I)I" } : Jvm.MethodName)) ∈ LW := lwt4 23 rfl rfl
theorem kw781 : (Jvm.Cond.code ({ cls := "DishRoundsModel", name := "order", desc := "(I)I" } : Jvm.MethodName) prog_9_method_20_code (2 : Nat) (Option.some Jvm.ClassFile.FieldType.int)) ∈ LW := lwt4 24 rfl rfl
theorem kw782 : (Jvm.Cond.methodLink "DishRoundsLaw" (64 : Nat) ({ cls := "DishRoundsModel", name := "dish", desc := "(II)I" } : Jvm.MethodName)) ∈ LW := lwt4 25 rfl rfl
theorem kw783 : (Jvm.Cond.instanceMethod ({ cls := "DishRoundsModel", name := "dish", desc := "(II)I" } : Jvm.MethodName)) ∈ LW := lwt4 26 rfl rfl
theorem kw784 : (Jvm.Cond.selects "DishRoundsModel" ({ cls := "DishRoundsModel", name := "dish", desc := "(II)I" } : Jvm.MethodName) ({ cls := "DishRoundsModel", name := "dish", desc := "(II)I" } : Jvm.MethodName)) ∈ LW := lwt4 27 rfl rfl
theorem kw785 : (Jvm.Cond.code ({ cls := "DishRoundsModel", name := "dish", desc := "(II)I" } : Jvm.MethodName) prog_9_method_21_code (3 : Nat) (Option.some Jvm.ClassFile.FieldType.int)) ∈ LW := lwt4 28 rfl rfl
theorem kw786 : (Jvm.Cond.methodLink "DishRoundsModel" (58 : Nat) ({ cls := "DishRoundsModel", name := "sideOf", desc := "(I)I" } : Jvm.MethodName)) ∈ LW := lwt4 29 rfl rfl
theorem kw787 : (Jvm.Cond.static ({ cls := "DishRoundsModel", name := "sideOf", desc := "(I)I" } : Jvm.MethodName)) ∈ LW := lwt4 30 rfl rfl
theorem kw788 : (Jvm.Cond.code ({ cls := "DishRoundsModel", name := "sideOf", desc := "(I)I" } : Jvm.MethodName) prog_9_method_8_code (1 : Nat) (Option.some Jvm.ClassFile.FieldType.int)) ∈ LW := lwt4 31 rfl rfl
theorem kw789 : (Jvm.Cond.methodLink "DishRoundsLaw" (68 : Nat) ({ cls := "DishRoundsModel", name := "way", desc := "(III)I" } : Jvm.MethodName)) ∈ LW := lwt4 32 rfl rfl
theorem kw790 : (Jvm.Cond.instanceMethod ({ cls := "DishRoundsModel", name := "way", desc := "(III)I" } : Jvm.MethodName)) ∈ LW := lwt4 33 rfl rfl
theorem kw791 : (Jvm.Cond.selects "DishRoundsModel" ({ cls := "DishRoundsModel", name := "way", desc := "(III)I" } : Jvm.MethodName) ({ cls := "DishRoundsModel", name := "way", desc := "(III)I" } : Jvm.MethodName)) ∈ LW := lwt4 34 rfl rfl
theorem kw792 : (Jvm.Cond.code ({ cls := "DishRoundsModel", name := "way", desc := "(III)I" } : Jvm.MethodName) prog_9_method_36_code (6 : Nat) (Option.some Jvm.ClassFile.FieldType.int)) ∈ LW := lwt4 35 rfl rfl
theorem kw793 : (Jvm.Cond.methodLink "DishRoundsModel" (108 : Nat) ({ cls := "DishRoundsModel", name := "isOpen", desc := "(I)Z" } : Jvm.MethodName)) ∈ LW := lwt4 36 rfl rfl
theorem kw795 : (Jvm.Cond.instanceMethod ({ cls := "DishRoundsModel", name := "isOpen", desc := "(I)Z" } : Jvm.MethodName)) ∈ LW := lwt4 38 rfl rfl
theorem kw796 : (Jvm.Cond.code ({ cls := "DishRoundsModel", name := "isOpen", desc := "(I)Z" } : Jvm.MethodName) prog_9_method_34_code (2 : Nat) (Option.some Jvm.ClassFile.FieldType.boolean)) ∈ LW := lwt4 39 rfl rfl
theorem kw797 : (Jvm.Cond.methodLink "DishRoundsModel" (111 : Nat) ({ cls := "DishRoundsModel", name := "layAll", desc := "(II)I" } : Jvm.MethodName)) ∈ LW := lwt4 40 rfl rfl
theorem kw799 : (Jvm.Cond.instanceMethod ({ cls := "DishRoundsModel", name := "layAll", desc := "(II)I" } : Jvm.MethodName)) ∈ LW := lwt4 42 rfl rfl
theorem kw800 : (Jvm.Cond.code ({ cls := "DishRoundsModel", name := "layAll", desc := "(II)I" } : Jvm.MethodName) prog_9_method_33_code (3 : Nat) (Option.some Jvm.ClassFile.FieldType.int)) ∈ LW := lwt4 43 rfl rfl
theorem kw801 : (Jvm.Cond.methodLink "DishRoundsModel" (104 : Nat) ({ cls := "DishRoundsModel", name := "lay", desc := "(IIII)I" } : Jvm.MethodName)) ∈ LW := lwt4 44 rfl rfl
theorem kw803 : (Jvm.Cond.instanceMethod ({ cls := "DishRoundsModel", name := "lay", desc := "(IIII)I" } : Jvm.MethodName)) ∈ LW := lwt4 46 rfl rfl
theorem kw804 : (Jvm.Cond.code ({ cls := "DishRoundsModel", name := "lay", desc := "(IIII)I" } : Jvm.MethodName) prog_9_method_28_code (10 : Nat) (Option.some Jvm.ClassFile.FieldType.int)) ∈ LW := lwt4 47 rfl rfl
theorem kw805 : (Jvm.Cond.methodLink "DishRoundsModel" (82 : Nat) ({ cls := "DishRoundsModel", name := "lastTick", desc := "()I" } : Jvm.MethodName)) ∈ LW := lwt4 48 rfl rfl
theorem kw807 : (Jvm.Cond.instanceMethod ({ cls := "DishRoundsModel", name := "lastTick", desc := "()I" } : Jvm.MethodName)) ∈ LW := lwt4 50 rfl rfl
theorem kw808 : (Jvm.Cond.code ({ cls := "DishRoundsModel", name := "lastTick", desc := "()I" } : Jvm.MethodName) prog_9_method_25_code (1 : Nat) (Option.some Jvm.ClassFile.FieldType.int)) ∈ LW := lwt4 51 rfl rfl
theorem kw809 : (Jvm.Cond.constant "DishRoundsModel" (74 : Nat) (-1000000 : Int32)) ∈ LW := lwt4 52 rfl rfl
theorem kw810 : (Jvm.Cond.methodLink "DishRoundsModel" (75 : Nat) ({ cls := "DishRoundsModel", name := "placeOf", desc := "(II)I" } : Jvm.MethodName)) ∈ LW := lwt4 53 rfl rfl
theorem kw811 : (Jvm.Cond.static ({ cls := "DishRoundsModel", name := "placeOf", desc := "(II)I" } : Jvm.MethodName)) ∈ LW := lwt4 54 rfl rfl
theorem kw812 : (Jvm.Cond.code ({ cls := "DishRoundsModel", name := "placeOf", desc := "(II)I" } : Jvm.MethodName) prog_9_method_22_code (2 : Nat) (Option.some Jvm.ClassFile.FieldType.int)) ∈ LW := lwt4 55 rfl rfl
theorem kw813 : (Jvm.Cond.methodLink "DishRoundsModel" (90 : Nat) ({ cls := "DishRoundsModel", name := "mayStand", desc := "(III)Z" } : Jvm.MethodName)) ∈ LW := lwt4 56 rfl rfl
theorem kw815 : (Jvm.Cond.instanceMethod ({ cls := "DishRoundsModel", name := "mayStand", desc := "(III)Z" } : Jvm.MethodName)) ∈ LW := lwt4 58 rfl rfl
theorem kw816 : (Jvm.Cond.code ({ cls := "DishRoundsModel", name := "mayStand", desc := "(III)Z" } : Jvm.MethodName) prog_9_method_24_code (5 : Nat) (Option.some Jvm.ClassFile.FieldType.boolean)) ∈ LW := lwt4 59 rfl rfl
theorem kw817 : (Jvm.Cond.methodLink "DishRoundsModel" (93 : Nat) ({ cls := "DishRoundsModel", name := "from", desc := "(III)I" } : Jvm.MethodName)) ∈ LW := lwt4 60 rfl rfl
theorem kw819 : (Jvm.Cond.instanceMethod ({ cls := "DishRoundsModel", name := "from", desc := "(III)I" } : Jvm.MethodName)) ∈ LW := lwt4 62 rfl rfl
theorem kw820 : (Jvm.Cond.code ({ cls := "DishRoundsModel", name := "from", desc := "(III)I" } : Jvm.MethodName) prog_9_method_27_code (10 : Nat) (Option.some Jvm.ClassFile.FieldType.int)) ∈ LW := lwt4 63 rfl rfl
theorem kw821 : (Jvm.Cond.methodLink "DishRoundsModel" (79 : Nat) ({ cls := "DishRoundsModel", name := "sees", desc := "(III)Z" } : Jvm.MethodName)) ∈ LW := lwt4 64 rfl rfl
theorem kw823 : (Jvm.Cond.instanceMethod ({ cls := "DishRoundsModel", name := "sees", desc := "(III)Z" } : Jvm.MethodName)) ∈ LW := lwt4 66 rfl rfl
theorem kw824 : (Jvm.Cond.code ({ cls := "DishRoundsModel", name := "sees", desc := "(III)Z" } : Jvm.MethodName) prog_9_method_23_code (6 : Nat) (Option.some Jvm.ClassFile.FieldType.boolean)) ∈ LW := lwt4 67 rfl rfl
theorem kw825 : (Jvm.Cond.methodLink "DishRoundsModel" (86 : Nat) ({ cls := "DishRoundsModel", name := "goTo", desc := "(IIIII)I" } : Jvm.MethodName)) ∈ LW := lwt4 68 rfl rfl
theorem kw827 : (Jvm.Cond.instanceMethod ({ cls := "DishRoundsModel", name := "goTo", desc := "(IIIII)I" } : Jvm.MethodName)) ∈ LW := lwt4 70 rfl rfl
theorem kw828 : (Jvm.Cond.code ({ cls := "DishRoundsModel", name := "goTo", desc := "(IIIII)I" } : Jvm.MethodName) prog_9_method_26_code (7 : Nat) (Option.some Jvm.ClassFile.FieldType.int)) ∈ LW := lwt4 71 rfl rfl
theorem kw829 : (Jvm.Cond.methodLink "DishRoundsModel" (114 : Nat) ({ cls := "DishRoundsModel", name := "walk", desc := "(I)V" } : Jvm.MethodName)) ∈ LW := lwt4 72 rfl rfl
theorem kw831 : (Jvm.Cond.instanceMethod ({ cls := "DishRoundsModel", name := "walk", desc := "(I)V" } : Jvm.MethodName)) ∈ LW := lwt4 74 rfl rfl
theorem kw832 : (Jvm.Cond.code ({ cls := "DishRoundsModel", name := "walk", desc := "(I)V" } : Jvm.MethodName) prog_9_method_32_code (4 : Nat) (Option.none : Option Jvm.ClassFile.FieldType)) ∈ LW := lwt4 75 rfl rfl
theorem kw833 : (Jvm.Cond.methodLink "DishRoundsModel" (100 : Nat) ({ cls := "DishRoundsModel", name := "stepFrom", desc := "(II)V" } : Jvm.MethodName)) ∈ LW := lwt4 76 rfl rfl
theorem kw835 : (Jvm.Cond.instanceMethod ({ cls := "DishRoundsModel", name := "stepFrom", desc := "(II)V" } : Jvm.MethodName)) ∈ LW := lwt4 78 rfl rfl
theorem kw836 : (Jvm.Cond.code ({ cls := "DishRoundsModel", name := "stepFrom", desc := "(II)V" } : Jvm.MethodName) prog_9_method_31_code (9 : Nat) (Option.none : Option Jvm.ClassFile.FieldType)) ∈ LW := lwt4 79 rfl rfl
theorem kw837 : (Jvm.Cond.methodLink "DishRoundsModel" (97 : Nat) ({ cls := "DishRoundsModel", name := "seenOf", desc := "(I)I" } : Jvm.MethodName)) ∈ LW := lwt4 80 rfl rfl
theorem kw838 : (Jvm.Cond.static ({ cls := "DishRoundsModel", name := "seenOf", desc := "(I)I" } : Jvm.MethodName)) ∈ LW := lwt4 81 rfl rfl
theorem kw839 : (Jvm.Cond.code ({ cls := "DishRoundsModel", name := "seenOf", desc := "(I)I" } : Jvm.MethodName) prog_9_method_29_code (1 : Nat) (Option.some Jvm.ClassFile.FieldType.int)) ∈ LW := lwt4 82 rfl rfl
theorem kw840 : (Jvm.Cond.methodLink "DishRoundsModel" (118 : Nat) ({ cls := "DishRoundsModel", name := "stepsOf", desc := "(I)I" } : Jvm.MethodName)) ∈ LW := lwt4 83 rfl rfl
theorem kw841 : (Jvm.Cond.static ({ cls := "DishRoundsModel", name := "stepsOf", desc := "(I)I" } : Jvm.MethodName)) ∈ LW := lwt4 84 rfl rfl
theorem kw842 : (Jvm.Cond.code ({ cls := "DishRoundsModel", name := "stepsOf", desc := "(I)I" } : Jvm.MethodName) prog_9_method_30_code (1 : Nat) (Option.some Jvm.ClassFile.FieldType.int)) ∈ LW := lwt4 85 rfl rfl
theorem kw843 : (Jvm.Cond.methodLink "DishRoundsModel" (121 : Nat) ({ cls := "DishRoundsModel", name := "seenTick", desc := "(Z)I" } : Jvm.MethodName)) ∈ LW := lwt4 86 rfl rfl
theorem kw845 : (Jvm.Cond.instanceMethod ({ cls := "DishRoundsModel", name := "seenTick", desc := "(Z)I" } : Jvm.MethodName)) ∈ LW := lwt4 88 rfl rfl
theorem kw846 : (Jvm.Cond.code ({ cls := "DishRoundsModel", name := "seenTick", desc := "(Z)I" } : Jvm.MethodName) prog_9_method_35_code (4 : Nat) (Option.some Jvm.ClassFile.FieldType.int)) ∈ LW := lwt4 89 rfl rfl
theorem kw847 : (Jvm.Cond.methodLink "DishRoundsLaw" (72 : Nat) ({ cls := "DishRoundsModel", name := "where", desc := "(IIII)I" } : Jvm.MethodName)) ∈ LW := lwt4 90 rfl rfl
theorem kw848 : (Jvm.Cond.instanceMethod ({ cls := "DishRoundsModel", name := "where", desc := "(IIII)I" } : Jvm.MethodName)) ∈ LW := lwt4 91 rfl rfl
theorem kw849 : (Jvm.Cond.selects "DishRoundsModel" ({ cls := "DishRoundsModel", name := "where", desc := "(IIII)I" } : Jvm.MethodName) ({ cls := "DishRoundsModel", name := "where", desc := "(IIII)I" } : Jvm.MethodName)) ∈ LW := lwt4 92 rfl rfl
theorem kw850 : (Jvm.Cond.code ({ cls := "DishRoundsModel", name := "where", desc := "(IIII)I" } : Jvm.MethodName) prog_9_method_37_code (7 : Nat) (Option.some Jvm.ClassFile.FieldType.int)) ∈ LW := lwt4 93 rfl rfl
theorem kw851 : (Jvm.Cond.methodLink "DishRoundsLaw" (76 : Nat) ({ cls := "DishRoundsModel", name := "offer", desc := "(II)I" } : Jvm.MethodName)) ∈ LW := lwt4 94 rfl rfl
theorem kw852 : (Jvm.Cond.instanceMethod ({ cls := "DishRoundsModel", name := "offer", desc := "(II)I" } : Jvm.MethodName)) ∈ LW := lwt4 95 rfl rfl
theorem kw853 : (Jvm.Cond.selects "DishRoundsModel" ({ cls := "DishRoundsModel", name := "offer", desc := "(II)I" } : Jvm.MethodName) ({ cls := "DishRoundsModel", name := "offer", desc := "(II)I" } : Jvm.MethodName)) ∈ LW := lwt4 96 rfl rfl
theorem kw854 : (Jvm.Cond.code ({ cls := "DishRoundsModel", name := "offer", desc := "(II)I" } : Jvm.MethodName) prog_9_method_39_code (5 : Nat) (Option.some Jvm.ClassFile.FieldType.int)) ∈ LW := lwt4 97 rfl rfl
theorem kw855 : (Jvm.Cond.methodLink "DishRoundsModel" (128 : Nat) ({ cls := "DishRoundsModel", name := "offerOf", desc := "(I)I" } : Jvm.MethodName)) ∈ LW := lwt4 98 rfl rfl
theorem kw857 : (Jvm.Cond.instanceMethod ({ cls := "DishRoundsModel", name := "offerOf", desc := "(I)I" } : Jvm.MethodName)) ∈ LW := lwt4 100 rfl rfl
theorem kw858 : (Jvm.Cond.code ({ cls := "DishRoundsModel", name := "offerOf", desc := "(I)I" } : Jvm.MethodName) prog_9_method_38_code (5 : Nat) (Option.some Jvm.ClassFile.FieldType.int)) ∈ LW := lwt4 101 rfl rfl
theorem kw859 : (Jvm.Cond.methodLink "DishRoundsLaw" (80 : Nat) ({ cls := "DishRoundsModel", name := "share", desc := "(IIII)I" } : Jvm.MethodName)) ∈ LW := lwt4 102 rfl rfl
theorem kw860 : (Jvm.Cond.instanceMethod ({ cls := "DishRoundsModel", name := "share", desc := "(IIII)I" } : Jvm.MethodName)) ∈ LW := lwt4 103 rfl rfl
theorem kw861 : (Jvm.Cond.selects "DishRoundsModel" ({ cls := "DishRoundsModel", name := "share", desc := "(IIII)I" } : Jvm.MethodName) ({ cls := "DishRoundsModel", name := "share", desc := "(IIII)I" } : Jvm.MethodName)) ∈ LW := lwt4 104 rfl rfl
theorem kw862 : (Jvm.Cond.code ({ cls := "DishRoundsModel", name := "share", desc := "(IIII)I" } : Jvm.MethodName) prog_9_method_41_code (10 : Nat) (Option.some Jvm.ClassFile.FieldType.int)) ∈ LW := lwt4 105 rfl rfl
theorem kw863 : (Jvm.Cond.methodLink "DishRoundsModel" (131 : Nat) ({ cls := "DishRoundsModel", name := "seenBy", desc := "(IIII)I" } : Jvm.MethodName)) ∈ LW := lwt4 106 rfl rfl
theorem kw865 : (Jvm.Cond.instanceMethod ({ cls := "DishRoundsModel", name := "seenBy", desc := "(IIII)I" } : Jvm.MethodName)) ∈ LW := lwt4 108 rfl rfl
theorem kw866 : (Jvm.Cond.code ({ cls := "DishRoundsModel", name := "seenBy", desc := "(IIII)I" } : Jvm.MethodName) prog_9_method_40_code (6 : Nat) (Option.some Jvm.ClassFile.FieldType.int)) ∈ LW := lwt4 109 rfl rfl
theorem kw867 : (Jvm.Cond.methodLink "DishRoundsLaw" (84 : Nat) ({ cls := "DishRoundsModel", name := "take", desc := "(II)I" } : Jvm.MethodName)) ∈ LW := lwt4 110 rfl rfl
theorem kw868 : (Jvm.Cond.instanceMethod ({ cls := "DishRoundsModel", name := "take", desc := "(II)I" } : Jvm.MethodName)) ∈ LW := lwt4 111 rfl rfl
theorem kw869 : (Jvm.Cond.selects "DishRoundsModel" ({ cls := "DishRoundsModel", name := "take", desc := "(II)I" } : Jvm.MethodName) ({ cls := "DishRoundsModel", name := "take", desc := "(II)I" } : Jvm.MethodName)) ∈ LW := lwt4 112 rfl rfl
theorem kw870 : (Jvm.Cond.code ({ cls := "DishRoundsModel", name := "take", desc := "(II)I" } : Jvm.MethodName) prog_9_method_43_code (4 : Nat) (Option.some Jvm.ClassFile.FieldType.int)) ∈ LW := lwt4 113 rfl rfl
theorem kw871 : (Jvm.Cond.methodLink "DishRoundsModel" (134 : Nat) ({ cls := "DishRoundsModel", name := "takeBy", desc := "(II)I" } : Jvm.MethodName)) ∈ LW := lwt4 114 rfl rfl
theorem kw873 : (Jvm.Cond.instanceMethod ({ cls := "DishRoundsModel", name := "takeBy", desc := "(II)I" } : Jvm.MethodName)) ∈ LW := lwt4 116 rfl rfl
theorem kw874 : (Jvm.Cond.code ({ cls := "DishRoundsModel", name := "takeBy", desc := "(II)I" } : Jvm.MethodName) prog_9_method_42_code (5 : Nat) (Option.some Jvm.ClassFile.FieldType.int)) ∈ LW := lwt4 117 rfl rfl
theorem kw875 : (Jvm.Cond.methodLink "DishRoundsLaw" (89 : Nat) ({ cls := "DishRoundsModel", name := "round", desc := "()I" } : Jvm.MethodName)) ∈ LW := lwt4 118 rfl rfl
theorem kw876 : (Jvm.Cond.instanceMethod ({ cls := "DishRoundsModel", name := "round", desc := "()I" } : Jvm.MethodName)) ∈ LW := lwt4 119 rfl rfl
theorem kw877 : (Jvm.Cond.selects "DishRoundsModel" ({ cls := "DishRoundsModel", name := "round", desc := "()I" } : Jvm.MethodName) ({ cls := "DishRoundsModel", name := "round", desc := "()I" } : Jvm.MethodName)) ∈ LW := lwt4 120 rfl rfl
theorem kw878 : (Jvm.Cond.code ({ cls := "DishRoundsModel", name := "round", desc := "()I" } : Jvm.MethodName) prog_9_method_45_code (4 : Nat) (Option.some Jvm.ClassFile.FieldType.int)) ∈ LW := lwt4 121 rfl rfl
theorem kw879 : (Jvm.Cond.methodLink "DishRoundsModel" (137 : Nat) ({ cls := "DishRoundsModel", name := "nextPass", desc := "(II)I" } : Jvm.MethodName)) ∈ LW := lwt4 122 rfl rfl
theorem kw881 : (Jvm.Cond.instanceMethod ({ cls := "DishRoundsModel", name := "nextPass", desc := "(II)I" } : Jvm.MethodName)) ∈ LW := lwt4 124 rfl rfl
theorem kw882 : (Jvm.Cond.code ({ cls := "DishRoundsModel", name := "nextPass", desc := "(II)I" } : Jvm.MethodName) prog_9_method_44_code (7 : Nat) (Option.some Jvm.ClassFile.FieldType.int)) ∈ LW := lwt4 125 rfl rfl
theorem kw883 : (Jvm.Cond.methodLink "DishRoundsLaw" (93 : Nat) ({ cls := "DishRoundsModel", name := "looked", desc := "(II)I" } : Jvm.MethodName)) ∈ LW := lwt4 126 rfl rfl
theorem kw884 : (Jvm.Cond.instanceMethod ({ cls := "DishRoundsModel", name := "looked", desc := "(II)I" } : Jvm.MethodName)) ∈ LW := lwt4 127 rfl rfl
theorem kw885 : (Jvm.Cond.selects "DishRoundsModel" ({ cls := "DishRoundsModel", name := "looked", desc := "(II)I" } : Jvm.MethodName) ({ cls := "DishRoundsModel", name := "looked", desc := "(II)I" } : Jvm.MethodName)) ∈ LW := lwt4 128 rfl rfl
theorem kw886 : (Jvm.Cond.code ({ cls := "DishRoundsModel", name := "looked", desc := "(II)I" } : Jvm.MethodName) prog_9_method_46_code (3 : Nat) (Option.some Jvm.ClassFile.FieldType.int)) ∈ LW := lwt4 129 rfl rfl
theorem kw887 : (Jvm.Cond.methodLink "DishRoundsLaw" (97 : Nat) ({ cls := "DishRoundsModel", name := "count", desc := "(I)I" } : Jvm.MethodName)) ∈ LW := lwt4 130 rfl rfl
theorem kw888 : (Jvm.Cond.instanceMethod ({ cls := "DishRoundsModel", name := "count", desc := "(I)I" } : Jvm.MethodName)) ∈ LW := lwt4 131 rfl rfl
theorem kw889 : (Jvm.Cond.selects "DishRoundsModel" ({ cls := "DishRoundsModel", name := "count", desc := "(I)I" } : Jvm.MethodName) ({ cls := "DishRoundsModel", name := "count", desc := "(I)I" } : Jvm.MethodName)) ∈ LW := lwt4 132 rfl rfl
theorem kw890 : (Jvm.Cond.code ({ cls := "DishRoundsModel", name := "count", desc := "(I)I" } : Jvm.MethodName) prog_9_method_50_code (2 : Nat) (Option.some Jvm.ClassFile.FieldType.int)) ∈ LW := lwt4 133 rfl rfl
theorem kw891 : (Jvm.Cond.methodLink "DishRoundsModel" (140 : Nat) ({ cls := "DishRoundsModel", name := "takenOnes", desc := "()I" } : Jvm.MethodName)) ∈ LW := lwt4 134 rfl rfl
theorem kw893 : (Jvm.Cond.instanceMethod ({ cls := "DishRoundsModel", name := "takenOnes", desc := "()I" } : Jvm.MethodName)) ∈ LW := lwt4 136 rfl rfl
theorem kw894 : (Jvm.Cond.code ({ cls := "DishRoundsModel", name := "takenOnes", desc := "()I" } : Jvm.MethodName) prog_9_method_47_code (3 : Nat) (Option.some Jvm.ClassFile.FieldType.int)) ∈ LW := lwt4 137 rfl rfl
theorem kw895 : (Jvm.Cond.methodLink "DishRoundsModel" (143 : Nat) ({ cls := "DishRoundsModel", name := "pointsOfAll", desc := "()I" } : Jvm.MethodName)) ∈ LW := lwt4 138 rfl rfl
theorem kw897 : (Jvm.Cond.instanceMethod ({ cls := "DishRoundsModel", name := "pointsOfAll", desc := "()I" } : Jvm.MethodName)) ∈ LW := lwt4 140 rfl rfl
theorem kw898 : (Jvm.Cond.code ({ cls := "DishRoundsModel", name := "pointsOfAll", desc := "()I" } : Jvm.MethodName) prog_9_method_48_code (3 : Nat) (Option.some Jvm.ClassFile.FieldType.int)) ∈ LW := lwt4 141 rfl rfl
theorem kw899 : (Jvm.Cond.methodLink "DishRoundsModel" (146 : Nat) ({ cls := "DishRoundsModel", name := "looks", desc := "(Z)I" } : Jvm.MethodName)) ∈ LW := lwt4 142 rfl rfl
theorem kw901 : (Jvm.Cond.instanceMethod ({ cls := "DishRoundsModel", name := "looks", desc := "(Z)I" } : Jvm.MethodName)) ∈ LW := lwt4 144 rfl rfl
theorem kw902 : (Jvm.Cond.code ({ cls := "DishRoundsModel", name := "looks", desc := "(Z)I" } : Jvm.MethodName) prog_9_method_49_code (4 : Nat) (Option.some Jvm.ClassFile.FieldType.int)) ∈ LW := lwt4 145 rfl rfl
theorem kw903 : (Jvm.Cond.methodLink "DishRoundsLaw" (101 : Nat) ({ cls := "DishRoundsModel", name := "image", desc := "(I)I" } : Jvm.MethodName)) ∈ LW := lwt4 146 rfl rfl
theorem kw904 : (Jvm.Cond.instanceMethod ({ cls := "DishRoundsModel", name := "image", desc := "(I)I" } : Jvm.MethodName)) ∈ LW := lwt4 147 rfl rfl
theorem kw905 : (Jvm.Cond.selects "DishRoundsModel" ({ cls := "DishRoundsModel", name := "image", desc := "(I)I" } : Jvm.MethodName) ({ cls := "DishRoundsModel", name := "image", desc := "(I)I" } : Jvm.MethodName)) ∈ LW := lwt4 148 rfl rfl
theorem kw906 : (Jvm.Cond.code ({ cls := "DishRoundsModel", name := "image", desc := "(I)I" } : Jvm.MethodName) prog_9_method_51_code (3 : Nat) (Option.some Jvm.ClassFile.FieldType.int)) ∈ LW := lwt4 149 rfl rfl
theorem kw907 : (Jvm.Cond.methodLink "DishRoundsLaw" (105 : Nat) ({ cls := "DishRoundsModel", name := "restore", desc := "(I)I" } : Jvm.MethodName)) ∈ LW := lwt4 150 rfl rfl
theorem kw908 : (Jvm.Cond.instanceMethod ({ cls := "DishRoundsModel", name := "restore", desc := "(I)I" } : Jvm.MethodName)) ∈ LW := lwt4 151 rfl rfl
theorem kw909 : (Jvm.Cond.selects "DishRoundsModel" ({ cls := "DishRoundsModel", name := "restore", desc := "(I)I" } : Jvm.MethodName) ({ cls := "DishRoundsModel", name := "restore", desc := "(I)I" } : Jvm.MethodName)) ∈ LW := lwt4 152 rfl rfl
theorem kw910 : (Jvm.Cond.code ({ cls := "DishRoundsModel", name := "restore", desc := "(I)I" } : Jvm.MethodName) prog_9_method_52_code (3 : Nat) (Option.some Jvm.ClassFile.FieldType.int)) ∈ LW := lwt4 153 rfl rfl
theorem kw0 : Cond.selects "DishRounds$Search" ⟨"DishRounds$Search", "goBack", "()V"⟩ ⟨"DishRounds$Search", "goBack", "()V"⟩ ∈ LW := lwm 0 rfl rfl
theorem kw1 : Cond.selects "DishRounds$Search" ⟨"DishRounds$Search", "reach", "([III)V"⟩ ⟨"DishRounds$Search", "reach", "([III)V"⟩ ∈ LW := lwm 1 rfl rfl
theorem kw2 : Cond.selects "DishRounds$Search" ⟨"DishRounds$Search", "lowWind", "(I)I"⟩ ⟨"DishRounds$Search", "lowWind", "(I)I"⟩ ∈ LW := lwm 2 rfl rfl
theorem kw3 : Cond.selects "DishRounds$Search" ⟨"DishRounds$Search", "highWind", "(I)I"⟩ ⟨"DishRounds$Search", "highWind", "(I)I"⟩ ∈ LW := lwm 3 rfl rfl
theorem kw4 : Cond.selects "DishRounds$Search" ⟨"DishRounds$Search", "tilt", "([IIII)V"⟩ ⟨"DishRounds$Search", "tilt", "([IIII)V"⟩ ∈ LW := lwm 4 rfl rfl
theorem kw5 : Cond.selects "DishRounds$Search" ⟨"DishRounds$Search", "turn", "(II)V"⟩ ⟨"DishRounds$Search", "turn", "(II)V"⟩ ∈ LW := lwm 5 rfl rfl
theorem kw6 : Cond.selects "DishRounds$Search" ⟨"DishRounds$Search", "enterRow", "([III)V"⟩ ⟨"DishRounds$Search", "enterRow", "([III)V"⟩ ∈ LW := lwm 6 rfl rfl
theorem kw7 : Cond.selects "DishRounds$Search" ⟨"DishRounds$Search", "aimAt", "(I)V"⟩ ⟨"DishRounds$Search", "aimAt", "(I)V"⟩ ∈ LW := lwm 7 rfl rfl
theorem kw8 : Cond.selects "DishRounds$Search" ⟨"DishRounds$Search", "pointOf", "(I)I"⟩ ⟨"DishRounds$Search", "pointOf", "(I)I"⟩ ∈ LW := lwm 8 rfl rfl
theorem kw9 : Cond.selects "DishRounds$Search" ⟨"DishRounds$Search", "addGain", "([III)V"⟩ ⟨"DishRounds$Search", "addGain", "([III)V"⟩ ∈ LW := lwm 9 rfl rfl
theorem kw10 : Cond.selects "DishRounds$Search" ⟨"DishRounds$Search", "gain", "(II)I"⟩ ⟨"DishRounds$Search", "gain", "(II)I"⟩ ∈ LW := lwm 10 rfl rfl
theorem kw11 : Cond.selects "DishRounds$Search" ⟨"DishRounds$Search", "follow", "(LDishRounds$Way;)V"⟩ ⟨"DishRounds$Search", "follow", "(LDishRounds$Way;)V"⟩ ∈ LW := lwm 11 rfl rfl
theorem kw12 : Cond.selects "DishRounds$Search" ⟨"DishRounds$Search", "nextCell", "(III)I"⟩ ⟨"DishRounds$Search", "nextCell", "(III)I"⟩ ∈ LW := lwm 12 rfl rfl
theorem kw13 : Cond.selects "DishRounds" ⟨"DishRounds", "bestDish", "(LDishRounds$Flight;)I"⟩ ⟨"DishRounds", "bestDish", "(LDishRounds$Flight;)I"⟩ ∈ LW := lwm 13 rfl rfl
theorem kw14 : Cond.selects "DishRounds$Search" ⟨"DishRounds$Search", "goForth", "(LDishRounds$Way;)V"⟩ ⟨"DishRounds$Search", "goForth", "(LDishRounds$Way;)V"⟩ ∈ LW := lwm 14 rfl rfl
theorem kw15 : Cond.selects "DishRounds$Search" ⟨"DishRounds$Search", "mostSeen", "([III)I"⟩ ⟨"DishRounds$Search", "mostSeen", "([III)I"⟩ ∈ LW := lwm 15 rfl rfl
theorem kw16 : Cond.selects "DishRounds" ⟨"DishRounds", "goAlong", "(ILDishRounds$Flight;LDishRounds$Way;)V"⟩ ⟨"DishRounds", "goAlong", "(ILDishRounds$Flight;LDishRounds$Way;)V"⟩ ∈ LW := lwm 16 rfl rfl
theorem kw17 : Cond.selects "DishRoundsModel" ⟨"DishRoundsModel", "passOf", "(I)I"⟩ ⟨"DishRoundsModel", "passOf", "(I)I"⟩ ∈ LW := lwm 17 rfl rfl
theorem kw18 : Cond.selects "DishRoundsModel" ⟨"DishRoundsModel", "isBurnt", "(III)Z"⟩ ⟨"DishRoundsModel", "isBurnt", "(III)Z"⟩ ∈ LW := lwm 18 rfl rfl
theorem kw19 : Cond.selects "DishRoundsModel" ⟨"DishRoundsModel", "isOpen", "(I)Z"⟩ ⟨"DishRoundsModel", "isOpen", "(I)Z"⟩ ∈ LW := lwm 19 rfl rfl
theorem kw20 : Cond.selects "DishRoundsModel" ⟨"DishRoundsModel", "layAll", "(II)I"⟩ ⟨"DishRoundsModel", "layAll", "(II)I"⟩ ∈ LW := lwm 20 rfl rfl
theorem kw21 : Cond.selects "DishRoundsModel" ⟨"DishRoundsModel", "lay", "(IIII)I"⟩ ⟨"DishRoundsModel", "lay", "(IIII)I"⟩ ∈ LW := lwm 21 rfl rfl
theorem kw22 : Cond.selects "DishRoundsModel" ⟨"DishRoundsModel", "lastTick", "()I"⟩ ⟨"DishRoundsModel", "lastTick", "()I"⟩ ∈ LW := lwm 22 rfl rfl
theorem kw23 : Cond.selects "DishRoundsModel" ⟨"DishRoundsModel", "mayStand", "(III)Z"⟩ ⟨"DishRoundsModel", "mayStand", "(III)Z"⟩ ∈ LW := lwm 23 rfl rfl
theorem kw24 : Cond.selects "DishRoundsModel" ⟨"DishRoundsModel", "from", "(III)I"⟩ ⟨"DishRoundsModel", "from", "(III)I"⟩ ∈ LW := lwm 24 rfl rfl
theorem kw25 : Cond.selects "DishRoundsModel" ⟨"DishRoundsModel", "sees", "(III)Z"⟩ ⟨"DishRoundsModel", "sees", "(III)Z"⟩ ∈ LW := lwm 25 rfl rfl
theorem kw26 : Cond.selects "DishRoundsModel" ⟨"DishRoundsModel", "goTo", "(IIIII)I"⟩ ⟨"DishRoundsModel", "goTo", "(IIIII)I"⟩ ∈ LW := lwm 26 rfl rfl
theorem kw27 : Cond.selects "DishRoundsModel" ⟨"DishRoundsModel", "walk", "(I)V"⟩ ⟨"DishRoundsModel", "walk", "(I)V"⟩ ∈ LW := lwm 27 rfl rfl
theorem kw28 : Cond.selects "DishRoundsModel" ⟨"DishRoundsModel", "stepFrom", "(II)V"⟩ ⟨"DishRoundsModel", "stepFrom", "(II)V"⟩ ∈ LW := lwm 28 rfl rfl
theorem kw29 : Cond.selects "DishRoundsModel" ⟨"DishRoundsModel", "seenTick", "(Z)I"⟩ ⟨"DishRoundsModel", "seenTick", "(Z)I"⟩ ∈ LW := lwm 29 rfl rfl
theorem kw30 : Cond.selects "DishRoundsModel" ⟨"DishRoundsModel", "offerOf", "(I)I"⟩ ⟨"DishRoundsModel", "offerOf", "(I)I"⟩ ∈ LW := lwm 30 rfl rfl
theorem kw31 : Cond.selects "DishRoundsModel" ⟨"DishRoundsModel", "seenBy", "(IIII)I"⟩ ⟨"DishRoundsModel", "seenBy", "(IIII)I"⟩ ∈ LW := lwm 31 rfl rfl
theorem kw32 : Cond.selects "DishRoundsModel" ⟨"DishRoundsModel", "takeBy", "(II)I"⟩ ⟨"DishRoundsModel", "takeBy", "(II)I"⟩ ∈ LW := lwm 32 rfl rfl
theorem kw33 : Cond.selects "DishRoundsModel" ⟨"DishRoundsModel", "nextPass", "(II)I"⟩ ⟨"DishRoundsModel", "nextPass", "(II)I"⟩ ∈ LW := lwm 33 rfl rfl
theorem kw34 : Cond.selects "DishRoundsModel" ⟨"DishRoundsModel", "takenOnes", "()I"⟩ ⟨"DishRoundsModel", "takenOnes", "()I"⟩ ∈ LW := lwm 34 rfl rfl
theorem kw35 : Cond.selects "DishRoundsModel" ⟨"DishRoundsModel", "pointsOfAll", "()I"⟩ ⟨"DishRoundsModel", "pointsOfAll", "()I"⟩ ∈ LW := lwm 35 rfl rfl
theorem kw36 : Cond.selects "DishRoundsModel" ⟨"DishRoundsModel", "looks", "(Z)I"⟩ ⟨"DishRoundsModel", "looks", "(Z)I"⟩ ∈ LW := lwm 36 rfl rfl
