theorem aw_0 : (Jvm.Cond.initialized "SaltTableLaw") ∈ am_T := am_in (List.mem_append_right _ (List.mem_append_left _ (List.mem_of_getElem? (i := 0) rfl))) rfl
theorem aw_373 : (Jvm.Cond.methodLink "SaltTableLaw" (123 : Nat) ({ cls := "SaltTable", name := "feed", desc := "(IIIII)I" } : Jvm.MethodName)) ∈ am_T := am_in (List.mem_append_right _ (List.mem_append_right _ (List.mem_append_left _ (List.mem_of_getElem? (i := 133) rfl)))) rfl
theorem aw_381 : (Jvm.Cond.methodLink "SaltTableLaw" (128 : Nat) ({ cls := "SaltTable", name := "end", desc := "(I)Z" } : Jvm.MethodName)) ∈ am_T := am_in (List.mem_append_right _ (List.mem_append_right _ (List.mem_append_left _ (List.mem_of_getElem? (i := 141) rfl)))) rfl
theorem aw_385 : (Jvm.Cond.methodLink "SaltTableLaw" (145 : Nat) ({ cls := "SaltTable", name := "fault", desc := "()I" } : Jvm.MethodName)) ∈ am_T := am_in (List.mem_append_right _ (List.mem_append_right _ (List.mem_append_left _ (List.mem_of_getElem? (i := 145) rfl)))) rfl
theorem aw_389 : (Jvm.Cond.methodLink "SaltTableLaw" (188 : Nat) ({ cls := "SaltTable", name := "all", desc := "()I" } : Jvm.MethodName)) ∈ am_T := am_in (List.mem_append_right _ (List.mem_append_right _ (List.mem_append_left _ (List.mem_of_getElem? (i := 149) rfl)))) rfl
theorem aw_476 : (Jvm.Cond.methodLink "SaltTableLaw" (192 : Nat) ({ cls := "SaltTable", name := "held", desc := "()I" } : Jvm.MethodName)) ∈ am_T := am_in (List.mem_append_right _ (List.mem_append_right _ (List.mem_append_left _ (List.mem_of_getElem? (i := 236) rfl)))) rfl
theorem aw_480 : (Jvm.Cond.methodLink "SaltTableLaw" (208 : Nat) ({ cls := "SaltTable", name := "swap", desc := "()I" } : Jvm.MethodName)) ∈ am_T := am_in (List.mem_append_right _ (List.mem_append_right _ (List.mem_append_right _ (List.mem_append_left _ (List.mem_of_getElem? (i := 0) rfl))))) rfl
theorem aw_489 : (Jvm.Cond.methodLink "SaltTableLaw" (225 : Nat) ({ cls := "SaltTable", name := "alike", desc := "()I" } : Jvm.MethodName)) ∈ am_T := am_in (List.mem_append_right _ (List.mem_append_right _ (List.mem_append_right _ (List.mem_append_left _ (List.mem_of_getElem? (i := 9) rfl))))) rfl
theorem aw_498 : (Jvm.Cond.methodLink "SaltTableLaw" (232 : Nat) ({ cls := "SaltTable", name := "whole", desc := "()I" } : Jvm.MethodName)) ∈ am_T := am_in (List.mem_append_right _ (List.mem_append_right _ (List.mem_append_right _ (List.mem_append_left _ (List.mem_of_getElem? (i := 18) rfl))))) rfl
theorem aw_510 : (Jvm.Cond.methodLink "SaltTableLaw" (242 : Nat) ({ cls := "SaltTable", name := "fair", desc := "()Z" } : Jvm.MethodName)) ∈ am_T := am_in (List.mem_append_right _ (List.mem_append_right _ (List.mem_append_right _ (List.mem_append_left _ (List.mem_of_getElem? (i := 30) rfl))))) rfl
theorem aw_518 : (Jvm.Cond.methodLink "SaltTableLaw" (250 : Nat) ({ cls := "SaltTable", name := "crowd", desc := "()I" } : Jvm.MethodName)) ∈ am_T := am_in (List.mem_append_right _ (List.mem_append_right _ (List.mem_append_right _ (List.mem_append_left _ (List.mem_of_getElem? (i := 38) rfl))))) rfl
theorem aw_532 : (Jvm.Cond.methodLink "SaltTableLaw" (254 : Nat) ({ cls := "SaltTable", name := "gaps", desc := "()I" } : Jvm.MethodName)) ∈ am_T := am_in (List.mem_append_right _ (List.mem_append_right _ (List.mem_append_right _ (List.mem_append_left _ (List.mem_of_getElem? (i := 52) rfl))))) rfl
theorem aw_536 : (Jvm.Cond.methodLink "SaltTableLaw" (276 : Nat) ({ cls := "SaltTable", name := "seed", desc := "(I)I" } : Jvm.MethodName)) ∈ am_T := am_in (List.mem_append_right _ (List.mem_append_right _ (List.mem_append_right _ (List.mem_append_left _ (List.mem_of_getElem? (i := 56) rfl))))) rfl
theorem aw_540 : (Jvm.Cond.methodLink "SaltTableLaw" (280 : Nat) ({ cls := "SaltTable", name := "undo", desc := "()Z" } : Jvm.MethodName)) ∈ am_T := am_in (List.mem_append_right _ (List.mem_append_right _ (List.mem_append_right _ (List.mem_append_left _ (List.mem_of_getElem? (i := 60) rfl))))) rfl
theorem aw_554 : (Jvm.Cond.methodLink "SaltTableLaw" (284 : Nat) ({ cls := "SaltTable", name := "image", desc := "()V" } : Jvm.MethodName)) ∈ am_T := am_in (List.mem_append_right _ (List.mem_append_right _ (List.mem_append_right _ (List.mem_append_left _ (List.mem_of_getElem? (i := 74) rfl))))) rfl
theorem aw_567 : (Jvm.Cond.methodLink "SaltTableLaw" (288 : Nat) ({ cls := "SaltTable", name := "back", desc := "()Z" } : Jvm.MethodName)) ∈ am_T := am_in (List.mem_append_right _ (List.mem_append_right _ (List.mem_append_right _ (List.mem_append_left _ (List.mem_of_getElem? (i := 87) rfl))))) rfl
theorem aw_571 : (Jvm.Cond.methodLink "SaltTableLaw" (292 : Nat) ({ cls := "SaltTable", name := "count", desc := "(I)I" } : Jvm.MethodName)) ∈ am_T := am_in (List.mem_append_right _ (List.mem_append_right _ (List.mem_append_right _ (List.mem_append_left _ (List.mem_of_getElem? (i := 91) rfl))))) rfl
theorem aw_575 : (Jvm.Cond.methodLink "SaltTableLaw" (133 : Nat) ({ cls := "SaltTableLaw", name := "table", desc := "(LSaltTable;[J)I" } : Jvm.MethodName)) ∈ am_T := am_in (List.mem_append_right _ (List.mem_append_right _ (List.mem_append_right _ (List.mem_append_left _ (List.mem_of_getElem? (i := 95) rfl))))) rfl
theorem aw_576 : (Jvm.Cond.static ({ cls := "SaltTableLaw", name := "table", desc := "(LSaltTable;[J)I" } : Jvm.MethodName)) ∈ am_T := am_in (List.mem_append_right _ (List.mem_append_right _ (List.mem_append_right _ (List.mem_append_left _ (List.mem_of_getElem? (i := 96) rfl))))) rfl
theorem aw_577 : (Jvm.Cond.codeWith ({ cls := "SaltTableLaw", name := "table", desc := "(LSaltTable;[J)I" } : Jvm.MethodName) method_3_code (3 : Nat) (Option.some Jvm.ClassFile.FieldType.int) [((0 : Nat), (8 : Nat), (11 : Nat), (13 : Nat)), ((0 : Nat), (8 : Nat), (14 : Nat), (15 : Nat))]) ∈ am_T := am_in (List.mem_append_right _ (List.mem_append_right _ (List.mem_append_right _ (List.mem_append_left _ (List.mem_of_getElem? (i := 97) rfl))))) rfl
theorem aw_578 : (Jvm.Cond.classLink "SaltTableLaw" (13 : Nat) "java/lang/IllegalArgumentException") ∈ am_T := am_in (List.mem_append_right _ (List.mem_append_right _ (List.mem_append_right _ (List.mem_append_left _ (List.mem_of_getElem? (i := 98) rfl))))) rfl
theorem aw_579 : (Jvm.Cond.classLink "SaltTableLaw" (15 : Nat) "java/lang/UnsupportedOperationException") ∈ am_T := am_in (List.mem_append_right _ (List.mem_append_right _ (List.mem_append_right _ (List.mem_append_left _ (List.mem_of_getElem? (i := 99) rfl))))) rfl
theorem aw_580 : (Jvm.Cond.methodLink "SaltTableLaw" (7 : Nat) ({ cls := "SaltTable", name := "table", desc := "()I" } : Jvm.MethodName)) ∈ am_T := am_in (List.mem_append_right _ (List.mem_append_right _ (List.mem_append_right _ (List.mem_append_left _ (List.mem_of_getElem? (i := 100) rfl))))) rfl
theorem aw_794 : (Jvm.Cond.methodLink "SaltTableLaw" (142 : Nat) ({ cls := "SaltTableLaw", name := "law", desc := "(LSaltTable;[J)I" } : Jvm.MethodName)) ∈ am_T := am_in (List.mem_append_right _ (List.mem_append_right _ (List.mem_append_right _ (List.mem_append_right _ (List.mem_append_left _ (List.mem_of_getElem? (i := 74) rfl)))))) rfl
theorem aw_795 : (Jvm.Cond.static ({ cls := "SaltTableLaw", name := "law", desc := "(LSaltTable;[J)I" } : Jvm.MethodName)) ∈ am_T := am_in (List.mem_append_right _ (List.mem_append_right _ (List.mem_append_right _ (List.mem_append_right _ (List.mem_append_left _ (List.mem_of_getElem? (i := 75) rfl)))))) rfl
theorem aw_796 : (Jvm.Cond.codeWith ({ cls := "SaltTableLaw", name := "law", desc := "(LSaltTable;[J)I" } : Jvm.MethodName) method_4_code (3 : Nat) (Option.some Jvm.ClassFile.FieldType.int) [((0 : Nat), (8 : Nat), (11 : Nat), (13 : Nat))]) ∈ am_T := am_in (List.mem_append_right _ (List.mem_append_right _ (List.mem_append_right _ (List.mem_append_right _ (List.mem_append_left _ (List.mem_of_getElem? (i := 76) rfl)))))) rfl
theorem aw_797 : (Jvm.Cond.methodLink "SaltTableLaw" (17 : Nat) ({ cls := "SaltTable", name := "law", desc := "()I" } : Jvm.MethodName)) ∈ am_T := am_in (List.mem_append_right _ (List.mem_append_right _ (List.mem_append_right _ (List.mem_append_right _ (List.mem_append_left _ (List.mem_of_getElem? (i := 77) rfl)))))) rfl
theorem aw_834 : (Jvm.Cond.methodLink "SaltTableLaw" (149 : Nat) ({ cls := "SaltTableLaw", name := "diner", desc := "(LSaltTable;II[J)I" } : Jvm.MethodName)) ∈ am_T := am_in (List.mem_append_right _ (List.mem_append_right _ (List.mem_append_right _ (List.mem_append_right _ (List.mem_append_left _ (List.mem_of_getElem? (i := 114) rfl)))))) rfl
theorem aw_835 : (Jvm.Cond.static ({ cls := "SaltTableLaw", name := "diner", desc := "(LSaltTable;II[J)I" } : Jvm.MethodName)) ∈ am_T := am_in (List.mem_append_right _ (List.mem_append_right _ (List.mem_append_right _ (List.mem_append_right _ (List.mem_append_left _ (List.mem_of_getElem? (i := 115) rfl)))))) rfl
theorem aw_836 : (Jvm.Cond.codeWith ({ cls := "SaltTableLaw", name := "diner", desc := "(LSaltTable;II[J)I" } : Jvm.MethodName) method_5_code (5 : Nat) (Option.some Jvm.ClassFile.FieldType.int) [((0 : Nat), (10 : Nat), (13 : Nat), (24 : Nat)), ((0 : Nat), (10 : Nat), (17 : Nat), (26 : Nat))]) ∈ am_T := am_in (List.mem_append_right _ (List.mem_append_right _ (List.mem_append_right _ (List.mem_append_right _ (List.mem_append_left _ (List.mem_of_getElem? (i := 116) rfl)))))) rfl
theorem aw_837 : (Jvm.Cond.classLink "SaltTableLaw" (24 : Nat) "java/lang/IndexOutOfBoundsException") ∈ am_T := am_in (List.mem_append_right _ (List.mem_append_right _ (List.mem_append_right _ (List.mem_append_right _ (List.mem_append_left _ (List.mem_of_getElem? (i := 117) rfl)))))) rfl
theorem aw_838 : (Jvm.Cond.classLink "SaltTableLaw" (26 : Nat) "java/util/NoSuchElementException") ∈ am_T := am_in (List.mem_append_right _ (List.mem_append_right _ (List.mem_append_right _ (List.mem_append_right _ (List.mem_append_left _ (List.mem_of_getElem? (i := 118) rfl)))))) rfl
theorem aw_839 : (Jvm.Cond.methodLink "SaltTableLaw" (20 : Nat) ({ cls := "SaltTable", name := "diner", desc := "(II)I" } : Jvm.MethodName)) ∈ am_T := am_in (List.mem_append_right _ (List.mem_append_right _ (List.mem_append_right _ (List.mem_append_right _ (List.mem_append_left _ (List.mem_of_getElem? (i := 119) rfl)))))) rfl
theorem aw_892 : (Jvm.Cond.methodLink "SaltTableLaw" (153 : Nat) ({ cls := "SaltTableLaw", name := "has", desc := "(LSaltTable;II[J)I" } : Jvm.MethodName)) ∈ am_T := am_in (List.mem_append_right _ (List.mem_append_right _ (List.mem_append_right _ (List.mem_append_right _ (List.mem_append_left _ (List.mem_of_getElem? (i := 172) rfl)))))) rfl
theorem aw_893 : (Jvm.Cond.static ({ cls := "SaltTableLaw", name := "has", desc := "(LSaltTable;II[J)I" } : Jvm.MethodName)) ∈ am_T := am_in (List.mem_append_right _ (List.mem_append_right _ (List.mem_append_right _ (List.mem_append_right _ (List.mem_append_left _ (List.mem_of_getElem? (i := 173) rfl)))))) rfl
theorem aw_894 : (Jvm.Cond.codeWith ({ cls := "SaltTableLaw", name := "has", desc := "(LSaltTable;II[J)I" } : Jvm.MethodName) method_6_code (5 : Nat) (Option.some Jvm.ClassFile.FieldType.int) [((0 : Nat), (10 : Nat), (13 : Nat), (24 : Nat))]) ∈ am_T := am_in (List.mem_append_right _ (List.mem_append_right _ (List.mem_append_right _ (List.mem_append_right _ (List.mem_append_left _ (List.mem_of_getElem? (i := 174) rfl)))))) rfl
theorem aw_895 : (Jvm.Cond.methodLink "SaltTableLaw" (28 : Nat) ({ cls := "SaltTable", name := "has", desc := "(II)I" } : Jvm.MethodName)) ∈ am_T := am_in (List.mem_append_right _ (List.mem_append_right _ (List.mem_append_right _ (List.mem_append_right _ (List.mem_append_left _ (List.mem_of_getElem? (i := 175) rfl)))))) rfl
theorem aw_905 : (Jvm.Cond.methodLink "SaltTableLaw" (156 : Nat) ({ cls := "SaltTableLaw", name := "cellar", desc := "(LSaltTable;II[J)I" } : Jvm.MethodName)) ∈ am_T := am_in (List.mem_append_right _ (List.mem_append_right _ (List.mem_append_right _ (List.mem_append_right _ (List.mem_append_left _ (List.mem_of_getElem? (i := 185) rfl)))))) rfl
theorem aw_906 : (Jvm.Cond.static ({ cls := "SaltTableLaw", name := "cellar", desc := "(LSaltTable;II[J)I" } : Jvm.MethodName)) ∈ am_T := am_in (List.mem_append_right _ (List.mem_append_right _ (List.mem_append_right _ (List.mem_append_right _ (List.mem_append_left _ (List.mem_of_getElem? (i := 186) rfl)))))) rfl
theorem aw_907 : (Jvm.Cond.codeWith ({ cls := "SaltTableLaw", name := "cellar", desc := "(LSaltTable;II[J)I" } : Jvm.MethodName) method_7_code (5 : Nat) (Option.some Jvm.ClassFile.FieldType.int) [((0 : Nat), (10 : Nat), (13 : Nat), (24 : Nat)), ((0 : Nat), (10 : Nat), (17 : Nat), (26 : Nat))]) ∈ am_T := am_in (List.mem_append_right _ (List.mem_append_right _ (List.mem_append_right _ (List.mem_append_right _ (List.mem_append_left _ (List.mem_of_getElem? (i := 187) rfl)))))) rfl
theorem aw_908 : (Jvm.Cond.methodLink "SaltTableLaw" (31 : Nat) ({ cls := "SaltTable", name := "cellar", desc := "(II)I" } : Jvm.MethodName)) ∈ am_T := am_in (List.mem_append_right _ (List.mem_append_right _ (List.mem_append_right _ (List.mem_append_right _ (List.mem_append_left _ (List.mem_of_getElem? (i := 188) rfl)))))) rfl
theorem aw_931 : (Jvm.Cond.methodLink "SaltTableLaw" (159 : Nat) ({ cls := "SaltTableLaw", name := "seat", desc := "(LSaltTable;I[J)I" } : Jvm.MethodName)) ∈ am_T := am_in (List.mem_append_right _ (List.mem_append_right _ (List.mem_append_right _ (List.mem_append_right _ (List.mem_append_left _ (List.mem_of_getElem? (i := 211) rfl)))))) rfl
theorem aw_932 : (Jvm.Cond.static ({ cls := "SaltTableLaw", name := "seat", desc := "(LSaltTable;I[J)I" } : Jvm.MethodName)) ∈ am_T := am_in (List.mem_append_right _ (List.mem_append_right _ (List.mem_append_right _ (List.mem_append_right _ (List.mem_append_left _ (List.mem_of_getElem? (i := 212) rfl)))))) rfl
theorem aw_933 : (Jvm.Cond.codeWith ({ cls := "SaltTableLaw", name := "seat", desc := "(LSaltTable;I[J)I" } : Jvm.MethodName) method_8_code (4 : Nat) (Option.some Jvm.ClassFile.FieldType.int) [((0 : Nat), (9 : Nat), (12 : Nat), (24 : Nat))]) ∈ am_T := am_in (List.mem_append_right _ (List.mem_append_right _ (List.mem_append_right _ (List.mem_append_right _ (List.mem_append_left _ (List.mem_of_getElem? (i := 213) rfl)))))) rfl
theorem aw_934 : (Jvm.Cond.methodLink "SaltTableLaw" (34 : Nat) ({ cls := "SaltTable", name := "seat", desc := "(I)I" } : Jvm.MethodName)) ∈ am_T := am_in (List.mem_append_right _ (List.mem_append_right _ (List.mem_append_right _ (List.mem_append_right _ (List.mem_append_left _ (List.mem_of_getElem? (i := 214) rfl)))))) rfl
theorem aw_943 : (Jvm.Cond.methodLink "SaltTableLaw" (163 : Nat) ({ cls := "SaltTableLaw", name := "pass", desc := "(LSaltTable;II[J)I" } : Jvm.MethodName)) ∈ am_T := am_in (List.mem_append_right _ (List.mem_append_right _ (List.mem_append_right _ (List.mem_append_right _ (List.mem_append_left _ (List.mem_of_getElem? (i := 223) rfl)))))) rfl
theorem aw_944 : (Jvm.Cond.static ({ cls := "SaltTableLaw", name := "pass", desc := "(LSaltTable;II[J)I" } : Jvm.MethodName)) ∈ am_T := am_in (List.mem_append_right _ (List.mem_append_right _ (List.mem_append_right _ (List.mem_append_right _ (List.mem_append_left _ (List.mem_of_getElem? (i := 224) rfl)))))) rfl
theorem aw_945 : (Jvm.Cond.codeWith ({ cls := "SaltTableLaw", name := "pass", desc := "(LSaltTable;II[J)I" } : Jvm.MethodName) method_9_code (5 : Nat) (Option.some Jvm.ClassFile.FieldType.int) [((0 : Nat), (10 : Nat), (13 : Nat), (24 : Nat))]) ∈ am_T := am_in (List.mem_append_right _ (List.mem_append_right _ (List.mem_append_right _ (List.mem_append_right _ (List.mem_append_left _ (List.mem_of_getElem? (i := 225) rfl)))))) rfl
theorem aw_946 : (Jvm.Cond.methodLink "SaltTableLaw" (38 : Nat) ({ cls := "SaltTable", name := "pass", desc := "(II)I" } : Jvm.MethodName)) ∈ am_T := am_in (List.mem_append_right _ (List.mem_append_right _ (List.mem_append_right _ (List.mem_append_right _ (List.mem_append_left _ (List.mem_of_getElem? (i := 226) rfl)))))) rfl
theorem aw_955 : (Jvm.Cond.methodLink "SaltTableLaw" (166 : Nat) ({ cls := "SaltTableLaw", name := "knock", desc := "(LSaltTable;I[J)I" } : Jvm.MethodName)) ∈ am_T := am_in (List.mem_append_right _ (List.mem_append_right _ (List.mem_append_right _ (List.mem_append_right _ (List.mem_append_left _ (List.mem_of_getElem? (i := 235) rfl)))))) rfl
theorem aw_956 : (Jvm.Cond.static ({ cls := "SaltTableLaw", name := "knock", desc := "(LSaltTable;I[J)I" } : Jvm.MethodName)) ∈ am_T := am_in (List.mem_append_right _ (List.mem_append_right _ (List.mem_append_right _ (List.mem_append_right _ (List.mem_append_left _ (List.mem_of_getElem? (i := 236) rfl)))))) rfl
theorem aw_957 : (Jvm.Cond.codeWith ({ cls := "SaltTableLaw", name := "knock", desc := "(LSaltTable;I[J)I" } : Jvm.MethodName) method_10_code (4 : Nat) (Option.some Jvm.ClassFile.FieldType.int) [((0 : Nat), (9 : Nat), (12 : Nat), (24 : Nat))]) ∈ am_T := am_in (List.mem_append_right _ (List.mem_append_right _ (List.mem_append_right _ (List.mem_append_right _ (List.mem_append_left _ (List.mem_of_getElem? (i := 237) rfl)))))) rfl
theorem aw_958 : (Jvm.Cond.methodLink "SaltTableLaw" (41 : Nat) ({ cls := "SaltTable", name := "knock", desc := "(I)I" } : Jvm.MethodName)) ∈ am_T := am_in (List.mem_append_right _ (List.mem_append_right _ (List.mem_append_right _ (List.mem_append_right _ (List.mem_append_left _ (List.mem_of_getElem? (i := 238) rfl)))))) rfl
theorem aw_962 : (Jvm.Cond.methodLink "SaltTableLaw" (169 : Nat) ({ cls := "SaltTableLaw", name := "fill", desc := "(LSaltTable;II[J)I" } : Jvm.MethodName)) ∈ am_T := am_in (List.mem_append_right _ (List.mem_append_right _ (List.mem_append_right _ (List.mem_append_right _ (List.mem_append_right _ (List.mem_append_left _ (List.mem_of_getElem? (i := 2) rfl))))))) rfl
theorem aw_963 : (Jvm.Cond.static ({ cls := "SaltTableLaw", name := "fill", desc := "(LSaltTable;II[J)I" } : Jvm.MethodName)) ∈ am_T := am_in (List.mem_append_right _ (List.mem_append_right _ (List.mem_append_right _ (List.mem_append_right _ (List.mem_append_right _ (List.mem_append_left _ (List.mem_of_getElem? (i := 3) rfl))))))) rfl
theorem aw_964 : (Jvm.Cond.codeWith ({ cls := "SaltTableLaw", name := "fill", desc := "(LSaltTable;II[J)I" } : Jvm.MethodName) method_11_code (5 : Nat) (Option.some Jvm.ClassFile.FieldType.int) [((0 : Nat), (10 : Nat), (13 : Nat), (24 : Nat)), ((0 : Nat), (10 : Nat), (17 : Nat), (13 : Nat))]) ∈ am_T := am_in (List.mem_append_right _ (List.mem_append_right _ (List.mem_append_right _ (List.mem_append_right _ (List.mem_append_right _ (List.mem_append_left _ (List.mem_of_getElem? (i := 4) rfl))))))) rfl
theorem aw_965 : (Jvm.Cond.methodLink "SaltTableLaw" (44 : Nat) ({ cls := "SaltTable", name := "fill", desc := "(II)I" } : Jvm.MethodName)) ∈ am_T := am_in (List.mem_append_right _ (List.mem_append_right _ (List.mem_append_right _ (List.mem_append_right _ (List.mem_append_right _ (List.mem_append_left _ (List.mem_of_getElem? (i := 5) rfl))))))) rfl
theorem aw_974 : (Jvm.Cond.methodLink "SaltTableLaw" (172 : Nat) ({ cls := "SaltTableLaw", name := "change", desc := "(LSaltTable;II[J)I" } : Jvm.MethodName)) ∈ am_T := am_in (List.mem_append_right _ (List.mem_append_right _ (List.mem_append_right _ (List.mem_append_right _ (List.mem_append_right _ (List.mem_append_left _ (List.mem_of_getElem? (i := 14) rfl))))))) rfl
theorem aw_975 : (Jvm.Cond.static ({ cls := "SaltTableLaw", name := "change", desc := "(LSaltTable;II[J)I" } : Jvm.MethodName)) ∈ am_T := am_in (List.mem_append_right _ (List.mem_append_right _ (List.mem_append_right _ (List.mem_append_right _ (List.mem_append_right _ (List.mem_append_left _ (List.mem_of_getElem? (i := 15) rfl))))))) rfl
theorem aw_976 : (Jvm.Cond.codeWith ({ cls := "SaltTableLaw", name := "change", desc := "(LSaltTable;II[J)I" } : Jvm.MethodName) method_12_code (5 : Nat) (Option.some Jvm.ClassFile.FieldType.int) [((0 : Nat), (10 : Nat), (13 : Nat), (24 : Nat)), ((0 : Nat), (10 : Nat), (17 : Nat), (13 : Nat))]) ∈ am_T := am_in (List.mem_append_right _ (List.mem_append_right _ (List.mem_append_right _ (List.mem_append_right _ (List.mem_append_right _ (List.mem_append_left _ (List.mem_of_getElem? (i := 16) rfl))))))) rfl
theorem aw_977 : (Jvm.Cond.methodLink "SaltTableLaw" (47 : Nat) ({ cls := "SaltTable", name := "change", desc := "(II)I" } : Jvm.MethodName)) ∈ am_T := am_in (List.mem_append_right _ (List.mem_append_right _ (List.mem_append_right _ (List.mem_append_right _ (List.mem_append_right _ (List.mem_append_left _ (List.mem_of_getElem? (i := 17) rfl))))))) rfl
theorem aw_982 : (Jvm.Cond.methodLink "SaltTableLaw" (175 : Nat) ({ cls := "SaltTableLaw", name := "diet", desc := "(LSaltTable;IZ[J)I" } : Jvm.MethodName)) ∈ am_T := am_in (List.mem_append_right _ (List.mem_append_right _ (List.mem_append_right _ (List.mem_append_right _ (List.mem_append_right _ (List.mem_append_left _ (List.mem_of_getElem? (i := 22) rfl))))))) rfl
theorem aw_983 : (Jvm.Cond.static ({ cls := "SaltTableLaw", name := "diet", desc := "(LSaltTable;IZ[J)I" } : Jvm.MethodName)) ∈ am_T := am_in (List.mem_append_right _ (List.mem_append_right _ (List.mem_append_right _ (List.mem_append_right _ (List.mem_append_right _ (List.mem_append_left _ (List.mem_of_getElem? (i := 23) rfl))))))) rfl
theorem aw_984 : (Jvm.Cond.codeWith ({ cls := "SaltTableLaw", name := "diet", desc := "(LSaltTable;IZ[J)I" } : Jvm.MethodName) method_13_code (5 : Nat) (Option.some Jvm.ClassFile.FieldType.int) [((0 : Nat), (17 : Nat), (20 : Nat), (24 : Nat))]) ∈ am_T := am_in (List.mem_append_right _ (List.mem_append_right _ (List.mem_append_right _ (List.mem_append_right _ (List.mem_append_right _ (List.mem_append_left _ (List.mem_of_getElem? (i := 24) rfl))))))) rfl
theorem aw_985 : (Jvm.Cond.methodLink "SaltTableLaw" (50 : Nat) ({ cls := "SaltTable", name := "diet", desc := "(IZ)Z" } : Jvm.MethodName)) ∈ am_T := am_in (List.mem_append_right _ (List.mem_append_right _ (List.mem_append_right _ (List.mem_append_right _ (List.mem_append_right _ (List.mem_append_left _ (List.mem_of_getElem? (i := 25) rfl))))))) rfl
theorem aw_989 : (Jvm.Cond.methodLink "SaltTableLaw" (179 : Nat) ({ cls := "SaltTableLaw", name := "sweet", desc := "(LSaltTable;IZ[J)I" } : Jvm.MethodName)) ∈ am_T := am_in (List.mem_append_right _ (List.mem_append_right _ (List.mem_append_right _ (List.mem_append_right _ (List.mem_append_right _ (List.mem_append_left _ (List.mem_of_getElem? (i := 29) rfl))))))) rfl
theorem aw_990 : (Jvm.Cond.static ({ cls := "SaltTableLaw", name := "sweet", desc := "(LSaltTable;IZ[J)I" } : Jvm.MethodName)) ∈ am_T := am_in (List.mem_append_right _ (List.mem_append_right _ (List.mem_append_right _ (List.mem_append_right _ (List.mem_append_right _ (List.mem_append_left _ (List.mem_of_getElem? (i := 30) rfl))))))) rfl
theorem aw_991 : (Jvm.Cond.codeWith ({ cls := "SaltTableLaw", name := "sweet", desc := "(LSaltTable;IZ[J)I" } : Jvm.MethodName) method_14_code (5 : Nat) (Option.some Jvm.ClassFile.FieldType.int) [((0 : Nat), (17 : Nat), (20 : Nat), (24 : Nat))]) ∈ am_T := am_in (List.mem_append_right _ (List.mem_append_right _ (List.mem_append_right _ (List.mem_append_right _ (List.mem_append_right _ (List.mem_append_left _ (List.mem_of_getElem? (i := 31) rfl))))))) rfl
theorem aw_992 : (Jvm.Cond.methodLink "SaltTableLaw" (54 : Nat) ({ cls := "SaltTable", name := "sweet", desc := "(IZ)Z" } : Jvm.MethodName)) ∈ am_T := am_in (List.mem_append_right _ (List.mem_append_right _ (List.mem_append_right _ (List.mem_append_right _ (List.mem_append_right _ (List.mem_append_left _ (List.mem_of_getElem? (i := 32) rfl))))))) rfl
theorem aw_998 : (Jvm.Cond.methodLink "SaltTableLaw" (182 : Nat) ({ cls := "SaltTableLaw", name := "courses", desc := "(LSaltTable;I[J)I" } : Jvm.MethodName)) ∈ am_T := am_in (List.mem_append_right _ (List.mem_append_right _ (List.mem_append_right _ (List.mem_append_right _ (List.mem_append_right _ (List.mem_append_left _ (List.mem_of_getElem? (i := 38) rfl))))))) rfl
theorem aw_999 : (Jvm.Cond.static ({ cls := "SaltTableLaw", name := "courses", desc := "(LSaltTable;I[J)I" } : Jvm.MethodName)) ∈ am_T := am_in (List.mem_append_right _ (List.mem_append_right _ (List.mem_append_right _ (List.mem_append_right _ (List.mem_append_right _ (List.mem_append_left _ (List.mem_of_getElem? (i := 39) rfl))))))) rfl
theorem aw_1000 : (Jvm.Cond.codeWith ({ cls := "SaltTableLaw", name := "courses", desc := "(LSaltTable;I[J)I" } : Jvm.MethodName) method_15_code (4 : Nat) (Option.some Jvm.ClassFile.FieldType.int) [((0 : Nat), (9 : Nat), (12 : Nat), (13 : Nat))]) ∈ am_T := am_in (List.mem_append_right _ (List.mem_append_right _ (List.mem_append_right _ (List.mem_append_right _ (List.mem_append_right _ (List.mem_append_left _ (List.mem_of_getElem? (i := 40) rfl))))))) rfl
theorem aw_1001 : (Jvm.Cond.methodLink "SaltTableLaw" (57 : Nat) ({ cls := "SaltTable", name := "courses", desc := "(I)I" } : Jvm.MethodName)) ∈ am_T := am_in (List.mem_append_right _ (List.mem_append_right _ (List.mem_append_right _ (List.mem_append_right _ (List.mem_append_right _ (List.mem_append_left _ (List.mem_of_getElem? (i := 41) rfl))))))) rfl
theorem aw_1024 : (Jvm.Cond.methodLink "SaltTableLaw" (185 : Nat) ({ cls := "SaltTableLaw", name := "frees", desc := "(LSaltTable;I[J)I" } : Jvm.MethodName)) ∈ am_T := am_in (List.mem_append_right _ (List.mem_append_right _ (List.mem_append_right _ (List.mem_append_right _ (List.mem_append_right _ (List.mem_append_left _ (List.mem_of_getElem? (i := 64) rfl))))))) rfl
theorem aw_1025 : (Jvm.Cond.static ({ cls := "SaltTableLaw", name := "frees", desc := "(LSaltTable;I[J)I" } : Jvm.MethodName)) ∈ am_T := am_in (List.mem_append_right _ (List.mem_append_right _ (List.mem_append_right _ (List.mem_append_right _ (List.mem_append_right _ (List.mem_append_left _ (List.mem_of_getElem? (i := 65) rfl))))))) rfl
theorem aw_1026 : (Jvm.Cond.codeWith ({ cls := "SaltTableLaw", name := "frees", desc := "(LSaltTable;I[J)I" } : Jvm.MethodName) method_16_code (4 : Nat) (Option.some Jvm.ClassFile.FieldType.int) [((0 : Nat), (9 : Nat), (12 : Nat), (24 : Nat))]) ∈ am_T := am_in (List.mem_append_right _ (List.mem_append_right _ (List.mem_append_right _ (List.mem_append_right _ (List.mem_append_right _ (List.mem_append_left _ (List.mem_of_getElem? (i := 66) rfl))))))) rfl
theorem aw_1027 : (Jvm.Cond.methodLink "SaltTableLaw" (60 : Nat) ({ cls := "SaltTable", name := "frees", desc := "(I)I" } : Jvm.MethodName)) ∈ am_T := am_in (List.mem_append_right _ (List.mem_append_right _ (List.mem_append_right _ (List.mem_append_right _ (List.mem_append_right _ (List.mem_append_left _ (List.mem_of_getElem? (i := 67) rfl))))))) rfl
theorem aw_1031 : (Jvm.Cond.methodLink "SaltTableLaw" (196 : Nat) ({ cls := "SaltTableLaw", name := "takes", desc := "(LSaltTable;II[J)I" } : Jvm.MethodName)) ∈ am_T := am_in (List.mem_append_right _ (List.mem_append_right _ (List.mem_append_right _ (List.mem_append_right _ (List.mem_append_right _ (List.mem_append_left _ (List.mem_of_getElem? (i := 71) rfl))))))) rfl
theorem aw_1032 : (Jvm.Cond.static ({ cls := "SaltTableLaw", name := "takes", desc := "(LSaltTable;II[J)I" } : Jvm.MethodName)) ∈ am_T := am_in (List.mem_append_right _ (List.mem_append_right _ (List.mem_append_right _ (List.mem_append_right _ (List.mem_append_right _ (List.mem_append_left _ (List.mem_of_getElem? (i := 72) rfl))))))) rfl
theorem aw_1033 : (Jvm.Cond.codeWith ({ cls := "SaltTableLaw", name := "takes", desc := "(LSaltTable;II[J)I" } : Jvm.MethodName) method_17_code (5 : Nat) (Option.some Jvm.ClassFile.FieldType.int) [((0 : Nat), (10 : Nat), (13 : Nat), (24 : Nat)), ((0 : Nat), (10 : Nat), (17 : Nat), (13 : Nat))]) ∈ am_T := am_in (List.mem_append_right _ (List.mem_append_right _ (List.mem_append_right _ (List.mem_append_right _ (List.mem_append_right _ (List.mem_append_left _ (List.mem_of_getElem? (i := 73) rfl))))))) rfl
theorem aw_1034 : (Jvm.Cond.methodLink "SaltTableLaw" (63 : Nat) ({ cls := "SaltTable", name := "takes", desc := "(II)I" } : Jvm.MethodName)) ∈ am_T := am_in (List.mem_append_right _ (List.mem_append_right _ (List.mem_append_right _ (List.mem_append_right _ (List.mem_append_right _ (List.mem_append_left _ (List.mem_of_getElem? (i := 74) rfl))))))) rfl
theorem aw_1042 : (Jvm.Cond.methodLink "SaltTableLaw" (199 : Nat) ({ cls := "SaltTableLaw", name := "keenest", desc := "(LSaltTable;I[J)I" } : Jvm.MethodName)) ∈ am_T := am_in (List.mem_append_right _ (List.mem_append_right _ (List.mem_append_right _ (List.mem_append_right _ (List.mem_append_right _ (List.mem_append_left _ (List.mem_of_getElem? (i := 82) rfl))))))) rfl
theorem aw_1043 : (Jvm.Cond.static ({ cls := "SaltTableLaw", name := "keenest", desc := "(LSaltTable;I[J)I" } : Jvm.MethodName)) ∈ am_T := am_in (List.mem_append_right _ (List.mem_append_right _ (List.mem_append_right _ (List.mem_append_right _ (List.mem_append_right _ (List.mem_append_left _ (List.mem_of_getElem? (i := 83) rfl))))))) rfl
theorem aw_1044 : (Jvm.Cond.codeWith ({ cls := "SaltTableLaw", name := "keenest", desc := "(LSaltTable;I[J)I" } : Jvm.MethodName) method_18_code (4 : Nat) (Option.some Jvm.ClassFile.FieldType.int) [((0 : Nat), (9 : Nat), (12 : Nat), (13 : Nat))]) ∈ am_T := am_in (List.mem_append_right _ (List.mem_append_right _ (List.mem_append_right _ (List.mem_append_right _ (List.mem_append_right _ (List.mem_append_left _ (List.mem_of_getElem? (i := 84) rfl))))))) rfl
theorem aw_1045 : (Jvm.Cond.methodLink "SaltTableLaw" (66 : Nat) ({ cls := "SaltTable", name := "keenest", desc := "(I)I" } : Jvm.MethodName)) ∈ am_T := am_in (List.mem_append_right _ (List.mem_append_right _ (List.mem_append_right _ (List.mem_append_right _ (List.mem_append_right _ (List.mem_append_left _ (List.mem_of_getElem? (i := 85) rfl))))))) rfl
theorem aw_1049 : (Jvm.Cond.methodLink "SaltTableLaw" (202 : Nat) ({ cls := "SaltTableLaw", name := "goes", desc := "(LSaltTable;II[J)I" } : Jvm.MethodName)) ∈ am_T := am_in (List.mem_append_right _ (List.mem_append_right _ (List.mem_append_right _ (List.mem_append_right _ (List.mem_append_right _ (List.mem_append_left _ (List.mem_of_getElem? (i := 89) rfl))))))) rfl
theorem aw_1050 : (Jvm.Cond.static ({ cls := "SaltTableLaw", name := "goes", desc := "(LSaltTable;II[J)I" } : Jvm.MethodName)) ∈ am_T := am_in (List.mem_append_right _ (List.mem_append_right _ (List.mem_append_right _ (List.mem_append_right _ (List.mem_append_right _ (List.mem_append_left _ (List.mem_of_getElem? (i := 90) rfl))))))) rfl
theorem aw_1051 : (Jvm.Cond.codeWith ({ cls := "SaltTableLaw", name := "goes", desc := "(LSaltTable;II[J)I" } : Jvm.MethodName) method_19_code (5 : Nat) (Option.some Jvm.ClassFile.FieldType.int) [((0 : Nat), (10 : Nat), (13 : Nat), (24 : Nat)), ((0 : Nat), (10 : Nat), (17 : Nat), (13 : Nat))]) ∈ am_T := am_in (List.mem_append_right _ (List.mem_append_right _ (List.mem_append_right _ (List.mem_append_right _ (List.mem_append_right _ (List.mem_append_left _ (List.mem_of_getElem? (i := 91) rfl))))))) rfl
theorem aw_1052 : (Jvm.Cond.methodLink "SaltTableLaw" (69 : Nat) ({ cls := "SaltTable", name := "goes", desc := "(II)I" } : Jvm.MethodName)) ∈ am_T := am_in (List.mem_append_right _ (List.mem_append_right _ (List.mem_append_right _ (List.mem_append_right _ (List.mem_append_right _ (List.mem_append_left _ (List.mem_of_getElem? (i := 92) rfl))))))) rfl
theorem aw_1056 : (Jvm.Cond.methodLink "SaltTableLaw" (205 : Nat) ({ cls := "SaltTableLaw", name := "ahead", desc := "(LSaltTable;II[J)I" } : Jvm.MethodName)) ∈ am_T := am_in (List.mem_append_right _ (List.mem_append_right _ (List.mem_append_right _ (List.mem_append_right _ (List.mem_append_right _ (List.mem_append_left _ (List.mem_of_getElem? (i := 96) rfl))))))) rfl
theorem aw_1057 : (Jvm.Cond.static ({ cls := "SaltTableLaw", name := "ahead", desc := "(LSaltTable;II[J)I" } : Jvm.MethodName)) ∈ am_T := am_in (List.mem_append_right _ (List.mem_append_right _ (List.mem_append_right _ (List.mem_append_right _ (List.mem_append_right _ (List.mem_append_left _ (List.mem_of_getElem? (i := 97) rfl))))))) rfl
theorem aw_1058 : (Jvm.Cond.codeWith ({ cls := "SaltTableLaw", name := "ahead", desc := "(LSaltTable;II[J)I" } : Jvm.MethodName) method_20_code (5 : Nat) (Option.some Jvm.ClassFile.FieldType.int) [((0 : Nat), (10 : Nat), (13 : Nat), (24 : Nat)), ((0 : Nat), (10 : Nat), (17 : Nat), (13 : Nat))]) ∈ am_T := am_in (List.mem_append_right _ (List.mem_append_right _ (List.mem_append_right _ (List.mem_append_right _ (List.mem_append_right _ (List.mem_append_left _ (List.mem_of_getElem? (i := 98) rfl))))))) rfl
theorem aw_1059 : (Jvm.Cond.methodLink "SaltTableLaw" (72 : Nat) ({ cls := "SaltTable", name := "ahead", desc := "(II)I" } : Jvm.MethodName)) ∈ am_T := am_in (List.mem_append_right _ (List.mem_append_right _ (List.mem_append_right _ (List.mem_append_right _ (List.mem_append_right _ (List.mem_append_left _ (List.mem_of_getElem? (i := 99) rfl))))))) rfl
theorem aw_1063 : (Jvm.Cond.methodLink "SaltTableLaw" (212 : Nat) ({ cls := "SaltTableLaw", name := "fewest", desc := "(LSaltTable;II[J)I" } : Jvm.MethodName)) ∈ am_T := am_in (List.mem_append_right _ (List.mem_append_right _ (List.mem_append_right _ (List.mem_append_right _ (List.mem_append_right _ (List.mem_append_left _ (List.mem_of_getElem? (i := 103) rfl))))))) rfl
theorem aw_1064 : (Jvm.Cond.static ({ cls := "SaltTableLaw", name := "fewest", desc := "(LSaltTable;II[J)I" } : Jvm.MethodName)) ∈ am_T := am_in (List.mem_append_right _ (List.mem_append_right _ (List.mem_append_right _ (List.mem_append_right _ (List.mem_append_right _ (List.mem_append_left _ (List.mem_of_getElem? (i := 104) rfl))))))) rfl
theorem aw_1065 : (Jvm.Cond.codeWith ({ cls := "SaltTableLaw", name := "fewest", desc := "(LSaltTable;II[J)I" } : Jvm.MethodName) method_21_code (5 : Nat) (Option.some Jvm.ClassFile.FieldType.int) [((0 : Nat), (10 : Nat), (13 : Nat), (24 : Nat)), ((0 : Nat), (10 : Nat), (17 : Nat), (13 : Nat))]) ∈ am_T := am_in (List.mem_append_right _ (List.mem_append_right _ (List.mem_append_right _ (List.mem_append_right _ (List.mem_append_right _ (List.mem_append_left _ (List.mem_of_getElem? (i := 105) rfl))))))) rfl
theorem aw_1066 : (Jvm.Cond.methodLink "SaltTableLaw" (75 : Nat) ({ cls := "SaltTable", name := "fewest", desc := "(II)I" } : Jvm.MethodName)) ∈ am_T := am_in (List.mem_append_right _ (List.mem_append_right _ (List.mem_append_right _ (List.mem_append_right _ (List.mem_append_right _ (List.mem_append_left _ (List.mem_of_getElem? (i := 106) rfl))))))) rfl
theorem aw_1070 : (Jvm.Cond.methodLink "SaltTableLaw" (215 : Nat) ({ cls := "SaltTableLaw", name := "bribes", desc := "(LSaltTable;Z[J)I" } : Jvm.MethodName)) ∈ am_T := am_in (List.mem_append_right _ (List.mem_append_right _ (List.mem_append_right _ (List.mem_append_right _ (List.mem_append_right _ (List.mem_append_left _ (List.mem_of_getElem? (i := 110) rfl))))))) rfl
theorem aw_1071 : (Jvm.Cond.static ({ cls := "SaltTableLaw", name := "bribes", desc := "(LSaltTable;Z[J)I" } : Jvm.MethodName)) ∈ am_T := am_in (List.mem_append_right _ (List.mem_append_right _ (List.mem_append_right _ (List.mem_append_right _ (List.mem_append_right _ (List.mem_append_left _ (List.mem_of_getElem? (i := 111) rfl))))))) rfl
theorem aw_1072 : (Jvm.Cond.codeWith ({ cls := "SaltTableLaw", name := "bribes", desc := "(LSaltTable;Z[J)I" } : Jvm.MethodName) method_22_code (4 : Nat) (Option.some Jvm.ClassFile.FieldType.int) [((0 : Nat), (9 : Nat), (12 : Nat), (13 : Nat))]) ∈ am_T := am_in (List.mem_append_right _ (List.mem_append_right _ (List.mem_append_right _ (List.mem_append_right _ (List.mem_append_right _ (List.mem_append_left _ (List.mem_of_getElem? (i := 112) rfl))))))) rfl
theorem aw_1073 : (Jvm.Cond.methodLink "SaltTableLaw" (78 : Nat) ({ cls := "SaltTable", name := "bribes", desc := "(Z)I" } : Jvm.MethodName)) ∈ am_T := am_in (List.mem_append_right _ (List.mem_append_right _ (List.mem_append_right _ (List.mem_append_right _ (List.mem_append_right _ (List.mem_append_left _ (List.mem_of_getElem? (i := 113) rfl))))))) rfl
theorem aw_1103 : (Jvm.Cond.methodLink "SaltTableLaw" (219 : Nat) ({ cls := "SaltTableLaw", name := "ask", desc := "(LSaltTable;I[J)I" } : Jvm.MethodName)) ∈ am_T := am_in (List.mem_append_right _ (List.mem_append_right _ (List.mem_append_right _ (List.mem_append_right _ (List.mem_append_right _ (List.mem_append_left _ (List.mem_of_getElem? (i := 143) rfl))))))) rfl
theorem aw_1104 : (Jvm.Cond.static ({ cls := "SaltTableLaw", name := "ask", desc := "(LSaltTable;I[J)I" } : Jvm.MethodName)) ∈ am_T := am_in (List.mem_append_right _ (List.mem_append_right _ (List.mem_append_right _ (List.mem_append_right _ (List.mem_append_right _ (List.mem_append_left _ (List.mem_of_getElem? (i := 144) rfl))))))) rfl
theorem aw_1105 : (Jvm.Cond.codeWith ({ cls := "SaltTableLaw", name := "ask", desc := "(LSaltTable;I[J)I" } : Jvm.MethodName) method_23_code (4 : Nat) (Option.some Jvm.ClassFile.FieldType.int) [((0 : Nat), (9 : Nat), (12 : Nat), (13 : Nat))]) ∈ am_T := am_in (List.mem_append_right _ (List.mem_append_right _ (List.mem_append_right _ (List.mem_append_right _ (List.mem_append_right _ (List.mem_append_left _ (List.mem_of_getElem? (i := 145) rfl))))))) rfl
theorem aw_1106 : (Jvm.Cond.methodLink "SaltTableLaw" (82 : Nat) ({ cls := "SaltTable", name := "ask", desc := "(I)I" } : Jvm.MethodName)) ∈ am_T := am_in (List.mem_append_right _ (List.mem_append_right _ (List.mem_append_right _ (List.mem_append_right _ (List.mem_append_right _ (List.mem_append_left _ (List.mem_of_getElem? (i := 146) rfl))))))) rfl
theorem aw_1115 : (Jvm.Cond.methodLink "SaltTableLaw" (222 : Nat) ({ cls := "SaltTableLaw", name := "worst", desc := "(LSaltTable;I[J)I" } : Jvm.MethodName)) ∈ am_T := am_in (List.mem_append_right _ (List.mem_append_right _ (List.mem_append_right _ (List.mem_append_right _ (List.mem_append_right _ (List.mem_append_left _ (List.mem_of_getElem? (i := 155) rfl))))))) rfl
theorem aw_1116 : (Jvm.Cond.static ({ cls := "SaltTableLaw", name := "worst", desc := "(LSaltTable;I[J)I" } : Jvm.MethodName)) ∈ am_T := am_in (List.mem_append_right _ (List.mem_append_right _ (List.mem_append_right _ (List.mem_append_right _ (List.mem_append_right _ (List.mem_append_left _ (List.mem_of_getElem? (i := 156) rfl))))))) rfl
theorem aw_1117 : (Jvm.Cond.codeWith ({ cls := "SaltTableLaw", name := "worst", desc := "(LSaltTable;I[J)I" } : Jvm.MethodName) method_24_code (4 : Nat) (Option.some Jvm.ClassFile.FieldType.int) [((0 : Nat), (9 : Nat), (12 : Nat), (24 : Nat))]) ∈ am_T := am_in (List.mem_append_right _ (List.mem_append_right _ (List.mem_append_right _ (List.mem_append_right _ (List.mem_append_right _ (List.mem_append_left _ (List.mem_of_getElem? (i := 157) rfl))))))) rfl
theorem aw_1118 : (Jvm.Cond.methodLink "SaltTableLaw" (85 : Nat) ({ cls := "SaltTable", name := "worst", desc := "(I)I" } : Jvm.MethodName)) ∈ am_T := am_in (List.mem_append_right _ (List.mem_append_right _ (List.mem_append_right _ (List.mem_append_right _ (List.mem_append_right _ (List.mem_append_left _ (List.mem_of_getElem? (i := 158) rfl))))))) rfl
theorem aw_1122 : (Jvm.Cond.methodLink "SaltTableLaw" (229 : Nat) ({ cls := "SaltTableLaw", name := "share", desc := "(LSaltTable;II[J)I" } : Jvm.MethodName)) ∈ am_T := am_in (List.mem_append_right _ (List.mem_append_right _ (List.mem_append_right _ (List.mem_append_right _ (List.mem_append_right _ (List.mem_append_left _ (List.mem_of_getElem? (i := 162) rfl))))))) rfl
theorem aw_1123 : (Jvm.Cond.static ({ cls := "SaltTableLaw", name := "share", desc := "(LSaltTable;II[J)I" } : Jvm.MethodName)) ∈ am_T := am_in (List.mem_append_right _ (List.mem_append_right _ (List.mem_append_right _ (List.mem_append_right _ (List.mem_append_right _ (List.mem_append_left _ (List.mem_of_getElem? (i := 163) rfl))))))) rfl
theorem aw_1124 : (Jvm.Cond.codeWith ({ cls := "SaltTableLaw", name := "share", desc := "(LSaltTable;II[J)I" } : Jvm.MethodName) method_25_code (5 : Nat) (Option.some Jvm.ClassFile.FieldType.int) [((0 : Nat), (10 : Nat), (13 : Nat), (24 : Nat))]) ∈ am_T := am_in (List.mem_append_right _ (List.mem_append_right _ (List.mem_append_right _ (List.mem_append_right _ (List.mem_append_right _ (List.mem_append_left _ (List.mem_of_getElem? (i := 164) rfl))))))) rfl
theorem aw_1125 : (Jvm.Cond.methodLink "SaltTableLaw" (88 : Nat) ({ cls := "SaltTable", name := "share", desc := "(II)I" } : Jvm.MethodName)) ∈ am_T := am_in (List.mem_append_right _ (List.mem_append_right _ (List.mem_append_right _ (List.mem_append_right _ (List.mem_append_right _ (List.mem_append_left _ (List.mem_of_getElem? (i := 165) rfl))))))) rfl
theorem aw_1129 : (Jvm.Cond.methodLink "SaltTableLaw" (236 : Nat) ({ cls := "SaltTableLaw", name := "sentence", desc := "(LSaltTable;I[J)I" } : Jvm.MethodName)) ∈ am_T := am_in (List.mem_append_right _ (List.mem_append_right _ (List.mem_append_right _ (List.mem_append_right _ (List.mem_append_right _ (List.mem_append_left _ (List.mem_of_getElem? (i := 169) rfl))))))) rfl
theorem aw_1130 : (Jvm.Cond.static ({ cls := "SaltTableLaw", name := "sentence", desc := "(LSaltTable;I[J)I" } : Jvm.MethodName)) ∈ am_T := am_in (List.mem_append_right _ (List.mem_append_right _ (List.mem_append_right _ (List.mem_append_right _ (List.mem_append_right _ (List.mem_append_left _ (List.mem_of_getElem? (i := 170) rfl))))))) rfl
theorem aw_1131 : (Jvm.Cond.codeWith ({ cls := "SaltTableLaw", name := "sentence", desc := "(LSaltTable;I[J)I" } : Jvm.MethodName) method_26_code (4 : Nat) (Option.some Jvm.ClassFile.FieldType.int) [((0 : Nat), (9 : Nat), (12 : Nat), (24 : Nat))]) ∈ am_T := am_in (List.mem_append_right _ (List.mem_append_right _ (List.mem_append_right _ (List.mem_append_right _ (List.mem_append_right _ (List.mem_append_left _ (List.mem_of_getElem? (i := 171) rfl))))))) rfl
theorem aw_1132 : (Jvm.Cond.methodLink "SaltTableLaw" (91 : Nat) ({ cls := "SaltTable", name := "sentence", desc := "(I)I" } : Jvm.MethodName)) ∈ am_T := am_in (List.mem_append_right _ (List.mem_append_right _ (List.mem_append_right _ (List.mem_append_right _ (List.mem_append_right _ (List.mem_append_left _ (List.mem_of_getElem? (i := 172) rfl))))))) rfl
theorem aw_1136 : (Jvm.Cond.methodLink "SaltTableLaw" (239 : Nat) ({ cls := "SaltTableLaw", name := "alone", desc := "(LSaltTable;II[J)I" } : Jvm.MethodName)) ∈ am_T := am_in (List.mem_append_right _ (List.mem_append_right _ (List.mem_append_right _ (List.mem_append_right _ (List.mem_append_right _ (List.mem_append_left _ (List.mem_of_getElem? (i := 176) rfl))))))) rfl
theorem aw_1137 : (Jvm.Cond.static ({ cls := "SaltTableLaw", name := "alone", desc := "(LSaltTable;II[J)I" } : Jvm.MethodName)) ∈ am_T := am_in (List.mem_append_right _ (List.mem_append_right _ (List.mem_append_right _ (List.mem_append_right _ (List.mem_append_right _ (List.mem_append_left _ (List.mem_of_getElem? (i := 177) rfl))))))) rfl
theorem aw_1138 : (Jvm.Cond.codeWith ({ cls := "SaltTableLaw", name := "alone", desc := "(LSaltTable;II[J)I" } : Jvm.MethodName) method_27_code (5 : Nat) (Option.some Jvm.ClassFile.FieldType.int) [((0 : Nat), (10 : Nat), (13 : Nat), (24 : Nat))]) ∈ am_T := am_in (List.mem_append_right _ (List.mem_append_right _ (List.mem_append_right _ (List.mem_append_right _ (List.mem_append_right _ (List.mem_append_left _ (List.mem_of_getElem? (i := 178) rfl))))))) rfl
theorem aw_1139 : (Jvm.Cond.methodLink "SaltTableLaw" (94 : Nat) ({ cls := "SaltTable", name := "alone", desc := "(II)I" } : Jvm.MethodName)) ∈ am_T := am_in (List.mem_append_right _ (List.mem_append_right _ (List.mem_append_right _ (List.mem_append_right _ (List.mem_append_right _ (List.mem_append_left _ (List.mem_of_getElem? (i := 179) rfl))))))) rfl
theorem aw_1143 : (Jvm.Cond.methodLink "SaltTableLaw" (247 : Nat) ({ cls := "SaltTableLaw", name := "game", desc := "(LSaltTable;I[J)I" } : Jvm.MethodName)) ∈ am_T := am_in (List.mem_append_right _ (List.mem_append_right _ (List.mem_append_right _ (List.mem_append_right _ (List.mem_append_right _ (List.mem_append_left _ (List.mem_of_getElem? (i := 183) rfl))))))) rfl
theorem aw_1144 : (Jvm.Cond.static ({ cls := "SaltTableLaw", name := "game", desc := "(LSaltTable;I[J)I" } : Jvm.MethodName)) ∈ am_T := am_in (List.mem_append_right _ (List.mem_append_right _ (List.mem_append_right _ (List.mem_append_right _ (List.mem_append_right _ (List.mem_append_left _ (List.mem_of_getElem? (i := 184) rfl))))))) rfl
theorem aw_1145 : (Jvm.Cond.codeWith ({ cls := "SaltTableLaw", name := "game", desc := "(LSaltTable;I[J)I" } : Jvm.MethodName) method_28_code (4 : Nat) (Option.some Jvm.ClassFile.FieldType.int) [((0 : Nat), (9 : Nat), (12 : Nat), (24 : Nat))]) ∈ am_T := am_in (List.mem_append_right _ (List.mem_append_right _ (List.mem_append_right _ (List.mem_append_right _ (List.mem_append_right _ (List.mem_append_left _ (List.mem_of_getElem? (i := 185) rfl))))))) rfl
theorem aw_1146 : (Jvm.Cond.methodLink "SaltTableLaw" (97 : Nat) ({ cls := "SaltTable", name := "game", desc := "(I)I" } : Jvm.MethodName)) ∈ am_T := am_in (List.mem_append_right _ (List.mem_append_right _ (List.mem_append_right _ (List.mem_append_right _ (List.mem_append_right _ (List.mem_append_left _ (List.mem_of_getElem? (i := 186) rfl))))))) rfl
theorem aw_1162 : (Jvm.Cond.methodLink "SaltTableLaw" (258 : Nat) ({ cls := "SaltTableLaw", name := "meets", desc := "(LSaltTable;I[J)I" } : Jvm.MethodName)) ∈ am_T := am_in (List.mem_append_right _ (List.mem_append_right _ (List.mem_append_right _ (List.mem_append_right _ (List.mem_append_right _ (List.mem_append_left _ (List.mem_of_getElem? (i := 202) rfl))))))) rfl
theorem aw_1163 : (Jvm.Cond.static ({ cls := "SaltTableLaw", name := "meets", desc := "(LSaltTable;I[J)I" } : Jvm.MethodName)) ∈ am_T := am_in (List.mem_append_right _ (List.mem_append_right _ (List.mem_append_right _ (List.mem_append_right _ (List.mem_append_right _ (List.mem_append_left _ (List.mem_of_getElem? (i := 203) rfl))))))) rfl
theorem aw_1164 : (Jvm.Cond.codeWith ({ cls := "SaltTableLaw", name := "meets", desc := "(LSaltTable;I[J)I" } : Jvm.MethodName) method_29_code (4 : Nat) (Option.some Jvm.ClassFile.FieldType.int) [((0 : Nat), (9 : Nat), (12 : Nat), (24 : Nat))]) ∈ am_T := am_in (List.mem_append_right _ (List.mem_append_right _ (List.mem_append_right _ (List.mem_append_right _ (List.mem_append_right _ (List.mem_append_left _ (List.mem_of_getElem? (i := 204) rfl))))))) rfl
theorem aw_1165 : (Jvm.Cond.methodLink "SaltTableLaw" (100 : Nat) ({ cls := "SaltTable", name := "meets", desc := "(I)I" } : Jvm.MethodName)) ∈ am_T := am_in (List.mem_append_right _ (List.mem_append_right _ (List.mem_append_right _ (List.mem_append_right _ (List.mem_append_right _ (List.mem_append_left _ (List.mem_of_getElem? (i := 205) rfl))))))) rfl
theorem aw_1169 : (Jvm.Cond.methodLink "SaltTableLaw" (261 : Nat) ({ cls := "SaltTableLaw", name := "least", desc := "(LSaltTable;I[J)I" } : Jvm.MethodName)) ∈ am_T := am_in (List.mem_append_right _ (List.mem_append_right _ (List.mem_append_right _ (List.mem_append_right _ (List.mem_append_right _ (List.mem_append_left _ (List.mem_of_getElem? (i := 209) rfl))))))) rfl
theorem aw_1170 : (Jvm.Cond.static ({ cls := "SaltTableLaw", name := "least", desc := "(LSaltTable;I[J)I" } : Jvm.MethodName)) ∈ am_T := am_in (List.mem_append_right _ (List.mem_append_right _ (List.mem_append_right _ (List.mem_append_right _ (List.mem_append_right _ (List.mem_append_left _ (List.mem_of_getElem? (i := 210) rfl))))))) rfl
theorem aw_1171 : (Jvm.Cond.codeWith ({ cls := "SaltTableLaw", name := "least", desc := "(LSaltTable;I[J)I" } : Jvm.MethodName) method_30_code (4 : Nat) (Option.some Jvm.ClassFile.FieldType.int) [((0 : Nat), (9 : Nat), (12 : Nat), (13 : Nat))]) ∈ am_T := am_in (List.mem_append_right _ (List.mem_append_right _ (List.mem_append_right _ (List.mem_append_right _ (List.mem_append_right _ (List.mem_append_left _ (List.mem_of_getElem? (i := 211) rfl))))))) rfl
theorem aw_1172 : (Jvm.Cond.methodLink "SaltTableLaw" (103 : Nat) ({ cls := "SaltTable", name := "least", desc := "(I)I" } : Jvm.MethodName)) ∈ am_T := am_in (List.mem_append_right _ (List.mem_append_right _ (List.mem_append_right _ (List.mem_append_right _ (List.mem_append_right _ (List.mem_append_left _ (List.mem_of_getElem? (i := 212) rfl))))))) rfl
theorem aw_1176 : (Jvm.Cond.methodLink "SaltTableLaw" (264 : Nat) ({ cls := "SaltTableLaw", name := "trial", desc := "(LSaltTable;IZ[J)I" } : Jvm.MethodName)) ∈ am_T := am_in (List.mem_append_right _ (List.mem_append_right _ (List.mem_append_right _ (List.mem_append_right _ (List.mem_append_right _ (List.mem_append_left _ (List.mem_of_getElem? (i := 216) rfl))))))) rfl
theorem aw_1177 : (Jvm.Cond.static ({ cls := "SaltTableLaw", name := "trial", desc := "(LSaltTable;IZ[J)I" } : Jvm.MethodName)) ∈ am_T := am_in (List.mem_append_right _ (List.mem_append_right _ (List.mem_append_right _ (List.mem_append_right _ (List.mem_append_right _ (List.mem_append_left _ (List.mem_of_getElem? (i := 217) rfl))))))) rfl
theorem aw_1178 : (Jvm.Cond.codeWith ({ cls := "SaltTableLaw", name := "trial", desc := "(LSaltTable;IZ[J)I" } : Jvm.MethodName) method_31_code (5 : Nat) (Option.some Jvm.ClassFile.FieldType.int) [((0 : Nat), (10 : Nat), (13 : Nat), (13 : Nat))]) ∈ am_T := am_in (List.mem_append_right _ (List.mem_append_right _ (List.mem_append_right _ (List.mem_append_right _ (List.mem_append_right _ (List.mem_append_left _ (List.mem_of_getElem? (i := 218) rfl))))))) rfl
theorem aw_1179 : (Jvm.Cond.methodLink "SaltTableLaw" (106 : Nat) ({ cls := "SaltTable", name := "trial", desc := "(IZ)I" } : Jvm.MethodName)) ∈ am_T := am_in (List.mem_append_right _ (List.mem_append_right _ (List.mem_append_right _ (List.mem_append_right _ (List.mem_append_right _ (List.mem_append_left _ (List.mem_of_getElem? (i := 219) rfl))))))) rfl
theorem aw_1187 : (Jvm.Cond.methodLink "SaltTableLaw" (267 : Nat) ({ cls := "SaltTableLaw", name := "span", desc := "(LSaltTable;IZ[J)I" } : Jvm.MethodName)) ∈ am_T := am_in (List.mem_append_right _ (List.mem_append_right _ (List.mem_append_right _ (List.mem_append_right _ (List.mem_append_right _ (List.mem_append_left _ (List.mem_of_getElem? (i := 227) rfl))))))) rfl
theorem aw_1188 : (Jvm.Cond.static ({ cls := "SaltTableLaw", name := "span", desc := "(LSaltTable;IZ[J)I" } : Jvm.MethodName)) ∈ am_T := am_in (List.mem_append_right _ (List.mem_append_right _ (List.mem_append_right _ (List.mem_append_right _ (List.mem_append_right _ (List.mem_append_left _ (List.mem_of_getElem? (i := 228) rfl))))))) rfl
theorem aw_1189 : (Jvm.Cond.codeWith ({ cls := "SaltTableLaw", name := "span", desc := "(LSaltTable;IZ[J)I" } : Jvm.MethodName) method_32_code (5 : Nat) (Option.some Jvm.ClassFile.FieldType.int) [((0 : Nat), (10 : Nat), (13 : Nat), (13 : Nat))]) ∈ am_T := am_in (List.mem_append_right _ (List.mem_append_right _ (List.mem_append_right _ (List.mem_append_right _ (List.mem_append_right _ (List.mem_append_left _ (List.mem_of_getElem? (i := 229) rfl))))))) rfl
theorem aw_1190 : (Jvm.Cond.methodLink "SaltTableLaw" (110 : Nat) ({ cls := "SaltTable", name := "span", desc := "(IZ)I" } : Jvm.MethodName)) ∈ am_T := am_in (List.mem_append_right _ (List.mem_append_right _ (List.mem_append_right _ (List.mem_append_right _ (List.mem_append_right _ (List.mem_append_left _ (List.mem_of_getElem? (i := 230) rfl))))))) rfl
theorem aw_1194 : (Jvm.Cond.methodLink "SaltTableLaw" (270 : Nat) ({ cls := "SaltTableLaw", name := "led", desc := "(LSaltTable;IZ[J)I" } : Jvm.MethodName)) ∈ am_T := am_in (List.mem_append_right _ (List.mem_append_right _ (List.mem_append_right _ (List.mem_append_right _ (List.mem_append_right _ (List.mem_append_left _ (List.mem_of_getElem? (i := 234) rfl))))))) rfl
theorem aw_1195 : (Jvm.Cond.static ({ cls := "SaltTableLaw", name := "led", desc := "(LSaltTable;IZ[J)I" } : Jvm.MethodName)) ∈ am_T := am_in (List.mem_append_right _ (List.mem_append_right _ (List.mem_append_right _ (List.mem_append_right _ (List.mem_append_right _ (List.mem_append_left _ (List.mem_of_getElem? (i := 235) rfl))))))) rfl
theorem aw_1196 : (Jvm.Cond.codeWith ({ cls := "SaltTableLaw", name := "led", desc := "(LSaltTable;IZ[J)I" } : Jvm.MethodName) method_33_code (5 : Nat) (Option.some Jvm.ClassFile.FieldType.int) [((0 : Nat), (10 : Nat), (13 : Nat), (24 : Nat))]) ∈ am_T := am_in (List.mem_append_right _ (List.mem_append_right _ (List.mem_append_right _ (List.mem_append_right _ (List.mem_append_right _ (List.mem_append_left _ (List.mem_of_getElem? (i := 236) rfl))))))) rfl
theorem aw_1197 : (Jvm.Cond.methodLink "SaltTableLaw" (113 : Nat) ({ cls := "SaltTable", name := "led", desc := "(IZ)I" } : Jvm.MethodName)) ∈ am_T := am_in (List.mem_append_right _ (List.mem_append_right _ (List.mem_append_right _ (List.mem_append_right _ (List.mem_append_right _ (List.mem_append_left _ (List.mem_of_getElem? (i := 237) rfl))))))) rfl
theorem aw_1213 : (Jvm.Cond.methodLink "SaltTableLaw" (273 : Nat) ({ cls := "SaltTableLaw", name := "log", desc := "(LSaltTable;II[J)I" } : Jvm.MethodName)) ∈ am_T := am_in (List.mem_append_right _ (List.mem_append_right _ (List.mem_append_right _ (List.mem_append_right _ (List.mem_append_right _ (List.mem_append_right _ (List.mem_append_left _ (List.mem_of_getElem? (i := 13) rfl)))))))) rfl
theorem aw_1214 : (Jvm.Cond.static ({ cls := "SaltTableLaw", name := "log", desc := "(LSaltTable;II[J)I" } : Jvm.MethodName)) ∈ am_T := am_in (List.mem_append_right _ (List.mem_append_right _ (List.mem_append_right _ (List.mem_append_right _ (List.mem_append_right _ (List.mem_append_right _ (List.mem_append_left _ (List.mem_of_getElem? (i := 14) rfl)))))))) rfl
theorem aw_1215 : (Jvm.Cond.codeWith ({ cls := "SaltTableLaw", name := "log", desc := "(LSaltTable;II[J)I" } : Jvm.MethodName) method_34_code (5 : Nat) (Option.some Jvm.ClassFile.FieldType.int) [((0 : Nat), (10 : Nat), (13 : Nat), (26 : Nat))]) ∈ am_T := am_in (List.mem_append_right _ (List.mem_append_right _ (List.mem_append_right _ (List.mem_append_right _ (List.mem_append_right _ (List.mem_append_right _ (List.mem_append_left _ (List.mem_of_getElem? (i := 15) rfl)))))))) rfl
theorem aw_1216 : (Jvm.Cond.methodLink "SaltTableLaw" (116 : Nat) ({ cls := "SaltTable", name := "log", desc := "(II)I" } : Jvm.MethodName)) ∈ am_T := am_in (List.mem_append_right _ (List.mem_append_right _ (List.mem_append_right _ (List.mem_append_right _ (List.mem_append_right _ (List.mem_append_right _ (List.mem_append_left _ (List.mem_of_getElem? (i := 16) rfl)))))))) rfl
theorem aw_1221 : (Jvm.Cond.methodLink "SaltTableLaw" (139 : Nat) ({ cls := "SaltTableModel", name := "thrown", desc := "()I" } : Jvm.MethodName)) ∈ am_T := am_in (List.mem_append_right _ (List.mem_append_right _ (List.mem_append_right _ (List.mem_append_right _ (List.mem_append_right _ (List.mem_append_right _ (List.mem_append_left _ (List.mem_of_getElem? (i := 21) rfl)))))))) rfl
theorem aw_1295 : (Jvm.Cond.methodLink "SaltTableLaw" (287 : Nat) ({ cls := "SaltTableModel", name := "image", desc := "()V" } : Jvm.MethodName)) ∈ am_T := am_in (List.mem_append_right _ (List.mem_append_right _ (List.mem_append_right _ (List.mem_append_right _ (List.mem_append_right _ (List.mem_append_right _ (List.mem_append_left _ (List.mem_of_getElem? (i := 95) rfl)))))))) rfl
theorem aw_1299 : (Jvm.Cond.methodLink "SaltTableLaw" (291 : Nat) ({ cls := "SaltTableModel", name := "back", desc := "()Z" } : Jvm.MethodName)) ∈ am_T := am_in (List.mem_append_right _ (List.mem_append_right _ (List.mem_append_right _ (List.mem_append_right _ (List.mem_append_right _ (List.mem_append_right _ (List.mem_append_left _ (List.mem_of_getElem? (i := 99) rfl)))))))) rfl
theorem aw_1303 : (Jvm.Cond.methodLink "SaltTableLaw" (283 : Nat) ({ cls := "SaltTableModel", name := "undo", desc := "()Z" } : Jvm.MethodName)) ∈ am_T := am_in (List.mem_append_right _ (List.mem_append_right _ (List.mem_append_right _ (List.mem_append_right _ (List.mem_append_right _ (List.mem_append_right _ (List.mem_append_left _ (List.mem_of_getElem? (i := 103) rfl)))))))) rfl
theorem aw_1307 : (Jvm.Cond.methodLink "SaltTableLaw" (127 : Nat) ({ cls := "SaltTableModel", name := "feed", desc := "(IIIII)I" } : Jvm.MethodName)) ∈ am_T := am_in (List.mem_append_right _ (List.mem_append_right _ (List.mem_append_right _ (List.mem_append_right _ (List.mem_append_right _ (List.mem_append_right _ (List.mem_append_left _ (List.mem_of_getElem? (i := 107) rfl)))))))) rfl
theorem aw_1311 : (Jvm.Cond.methodLink "SaltTableLaw" (132 : Nat) ({ cls := "SaltTableModel", name := "end", desc := "(I)Z" } : Jvm.MethodName)) ∈ am_T := am_in (List.mem_append_right _ (List.mem_append_right _ (List.mem_append_right _ (List.mem_append_right _ (List.mem_append_right _ (List.mem_append_right _ (List.mem_append_left _ (List.mem_of_getElem? (i := 111) rfl)))))))) rfl
theorem aw_1315 : (Jvm.Cond.methodLink "SaltTableLaw" (148 : Nat) ({ cls := "SaltTableModel", name := "fault", desc := "()I" } : Jvm.MethodName)) ∈ am_T := am_in (List.mem_append_right _ (List.mem_append_right _ (List.mem_append_right _ (List.mem_append_right _ (List.mem_append_right _ (List.mem_append_right _ (List.mem_append_left _ (List.mem_of_getElem? (i := 115) rfl)))))))) rfl
theorem aw_1319 : (Jvm.Cond.methodLink "SaltTableLaw" (138 : Nat) ({ cls := "SaltTableModel", name := "table", desc := "()I" } : Jvm.MethodName)) ∈ am_T := am_in (List.mem_append_right _ (List.mem_append_right _ (List.mem_append_right _ (List.mem_append_right _ (List.mem_append_right _ (List.mem_append_right _ (List.mem_append_left _ (List.mem_of_getElem? (i := 119) rfl)))))))) rfl
theorem aw_1474 : (Jvm.Cond.methodLink "SaltTableLaw" (144 : Nat) ({ cls := "SaltTableModel", name := "law", desc := "()I" } : Jvm.MethodName)) ∈ am_T := am_in (List.mem_append_right _ (List.mem_append_right _ (List.mem_append_right _ (List.mem_append_right _ (List.mem_append_right _ (List.mem_append_right _ (List.mem_append_right _ (List.mem_append_left _ (List.mem_of_getElem? (i := 34) rfl))))))))) rfl
theorem aw_1478 : (Jvm.Cond.methodLink "SaltTableLaw" (152 : Nat) ({ cls := "SaltTableModel", name := "diner", desc := "(II)I" } : Jvm.MethodName)) ∈ am_T := am_in (List.mem_append_right _ (List.mem_append_right _ (List.mem_append_right _ (List.mem_append_right _ (List.mem_append_right _ (List.mem_append_right _ (List.mem_append_right _ (List.mem_append_left _ (List.mem_of_getElem? (i := 38) rfl))))))))) rfl
theorem aw_1494 : (Jvm.Cond.methodLink "SaltTableLaw" (155 : Nat) ({ cls := "SaltTableModel", name := "has", desc := "(II)I" } : Jvm.MethodName)) ∈ am_T := am_in (List.mem_append_right _ (List.mem_append_right _ (List.mem_append_right _ (List.mem_append_right _ (List.mem_append_right _ (List.mem_append_right _ (List.mem_append_right _ (List.mem_append_left _ (List.mem_of_getElem? (i := 54) rfl))))))))) rfl
theorem aw_1498 : (Jvm.Cond.methodLink "SaltTableLaw" (158 : Nat) ({ cls := "SaltTableModel", name := "cellar", desc := "(II)I" } : Jvm.MethodName)) ∈ am_T := am_in (List.mem_append_right _ (List.mem_append_right _ (List.mem_append_right _ (List.mem_append_right _ (List.mem_append_right _ (List.mem_append_right _ (List.mem_append_right _ (List.mem_append_left _ (List.mem_of_getElem? (i := 58) rfl))))))))) rfl
theorem aw_1555 : (Jvm.Cond.methodLink "SaltTableLaw" (162 : Nat) ({ cls := "SaltTableModel", name := "seat", desc := "(I)I" } : Jvm.MethodName)) ∈ am_T := am_in (List.mem_append_right _ (List.mem_append_right _ (List.mem_append_right _ (List.mem_append_right _ (List.mem_append_right _ (List.mem_append_right _ (List.mem_append_right _ (List.mem_append_left _ (List.mem_of_getElem? (i := 115) rfl))))))))) rfl
theorem aw_1562 : (Jvm.Cond.methodLink "SaltTableLaw" (165 : Nat) ({ cls := "SaltTableModel", name := "pass", desc := "(II)I" } : Jvm.MethodName)) ∈ am_T := am_in (List.mem_append_right _ (List.mem_append_right _ (List.mem_append_right _ (List.mem_append_right _ (List.mem_append_right _ (List.mem_append_right _ (List.mem_append_right _ (List.mem_append_left _ (List.mem_of_getElem? (i := 122) rfl))))))))) rfl
theorem aw_1570 : (Jvm.Cond.methodLink "SaltTableLaw" (168 : Nat) ({ cls := "SaltTableModel", name := "knock", desc := "(I)I" } : Jvm.MethodName)) ∈ am_T := am_in (List.mem_append_right _ (List.mem_append_right _ (List.mem_append_right _ (List.mem_append_right _ (List.mem_append_right _ (List.mem_append_right _ (List.mem_append_right _ (List.mem_append_left _ (List.mem_of_getElem? (i := 130) rfl))))))))) rfl
theorem aw_1574 : (Jvm.Cond.methodLink "SaltTableLaw" (171 : Nat) ({ cls := "SaltTableModel", name := "fill", desc := "(II)I" } : Jvm.MethodName)) ∈ am_T := am_in (List.mem_append_right _ (List.mem_append_right _ (List.mem_append_right _ (List.mem_append_right _ (List.mem_append_right _ (List.mem_append_right _ (List.mem_append_right _ (List.mem_append_left _ (List.mem_of_getElem? (i := 134) rfl))))))))) rfl
theorem aw_1578 : (Jvm.Cond.methodLink "SaltTableLaw" (174 : Nat) ({ cls := "SaltTableModel", name := "change", desc := "(II)I" } : Jvm.MethodName)) ∈ am_T := am_in (List.mem_append_right _ (List.mem_append_right _ (List.mem_append_right _ (List.mem_append_right _ (List.mem_append_right _ (List.mem_append_right _ (List.mem_append_right _ (List.mem_append_left _ (List.mem_of_getElem? (i := 138) rfl))))))))) rfl
theorem aw_1586 : (Jvm.Cond.methodLink "SaltTableLaw" (178 : Nat) ({ cls := "SaltTableModel", name := "diet", desc := "(IZ)Z" } : Jvm.MethodName)) ∈ am_T := am_in (List.mem_append_right _ (List.mem_append_right _ (List.mem_append_right _ (List.mem_append_right _ (List.mem_append_right _ (List.mem_append_right _ (List.mem_append_right _ (List.mem_append_left _ (List.mem_of_getElem? (i := 146) rfl))))))))) rfl
theorem aw_1590 : (Jvm.Cond.methodLink "SaltTableLaw" (181 : Nat) ({ cls := "SaltTableModel", name := "sweet", desc := "(IZ)Z" } : Jvm.MethodName)) ∈ am_T := am_in (List.mem_append_right _ (List.mem_append_right _ (List.mem_append_right _ (List.mem_append_right _ (List.mem_append_right _ (List.mem_append_right _ (List.mem_append_right _ (List.mem_append_left _ (List.mem_of_getElem? (i := 150) rfl))))))))) rfl
theorem aw_1594 : (Jvm.Cond.methodLink "SaltTableLaw" (184 : Nat) ({ cls := "SaltTableModel", name := "courses", desc := "(I)I" } : Jvm.MethodName)) ∈ am_T := am_in (List.mem_append_right _ (List.mem_append_right _ (List.mem_append_right _ (List.mem_append_right _ (List.mem_append_right _ (List.mem_append_right _ (List.mem_append_right _ (List.mem_append_left _ (List.mem_of_getElem? (i := 154) rfl))))))))) rfl
theorem aw_1631 : (Jvm.Cond.methodLink "SaltTableLaw" (187 : Nat) ({ cls := "SaltTableModel", name := "frees", desc := "(I)I" } : Jvm.MethodName)) ∈ am_T := am_in (List.mem_append_right _ (List.mem_append_right _ (List.mem_append_right _ (List.mem_append_right _ (List.mem_append_right _ (List.mem_append_right _ (List.mem_append_right _ (List.mem_append_left _ (List.mem_of_getElem? (i := 191) rfl))))))))) rfl
theorem aw_1655 : (Jvm.Cond.methodLink "SaltTableLaw" (191 : Nat) ({ cls := "SaltTableModel", name := "all", desc := "()I" } : Jvm.MethodName)) ∈ am_T := am_in (List.mem_append_right _ (List.mem_append_right _ (List.mem_append_right _ (List.mem_append_right _ (List.mem_append_right _ (List.mem_append_right _ (List.mem_append_right _ (List.mem_append_left _ (List.mem_of_getElem? (i := 215) rfl))))))))) rfl
theorem aw_1659 : (Jvm.Cond.methodLink "SaltTableLaw" (195 : Nat) ({ cls := "SaltTableModel", name := "held", desc := "()I" } : Jvm.MethodName)) ∈ am_T := am_in (List.mem_append_right _ (List.mem_append_right _ (List.mem_append_right _ (List.mem_append_right _ (List.mem_append_right _ (List.mem_append_right _ (List.mem_append_right _ (List.mem_append_left _ (List.mem_of_getElem? (i := 219) rfl))))))))) rfl
theorem aw_1663 : (Jvm.Cond.methodLink "SaltTableLaw" (198 : Nat) ({ cls := "SaltTableModel", name := "takes", desc := "(II)I" } : Jvm.MethodName)) ∈ am_T := am_in (List.mem_append_right _ (List.mem_append_right _ (List.mem_append_right _ (List.mem_append_right _ (List.mem_append_right _ (List.mem_append_right _ (List.mem_append_right _ (List.mem_append_left _ (List.mem_of_getElem? (i := 223) rfl))))))))) rfl
theorem aw_1674 : (Jvm.Cond.methodLink "SaltTableLaw" (201 : Nat) ({ cls := "SaltTableModel", name := "keenest", desc := "(I)I" } : Jvm.MethodName)) ∈ am_T := am_in (List.mem_append_right _ (List.mem_append_right _ (List.mem_append_right _ (List.mem_append_right _ (List.mem_append_right _ (List.mem_append_right _ (List.mem_append_right _ (List.mem_append_left _ (List.mem_of_getElem? (i := 234) rfl))))))))) rfl
theorem aw_1678 : (Jvm.Cond.methodLink "SaltTableLaw" (204 : Nat) ({ cls := "SaltTableModel", name := "goes", desc := "(II)I" } : Jvm.MethodName)) ∈ am_T := am_in (List.mem_append_right _ (List.mem_append_right _ (List.mem_append_right _ (List.mem_append_right _ (List.mem_append_right _ (List.mem_append_right _ (List.mem_append_right _ (List.mem_append_left _ (List.mem_of_getElem? (i := 238) rfl))))))))) rfl
theorem aw_1682 : (Jvm.Cond.methodLink "SaltTableLaw" (207 : Nat) ({ cls := "SaltTableModel", name := "ahead", desc := "(II)I" } : Jvm.MethodName)) ∈ am_T := am_in (List.mem_append_right _ (List.mem_append_right _ (List.mem_append_right _ (List.mem_append_right _ (List.mem_append_right _ (List.mem_append_right _ (List.mem_append_right _ (List.mem_append_right _ (List.mem_of_getElem? (i := 2) rfl))))))))) rfl
theorem aw_1690 : (Jvm.Cond.methodLink "SaltTableLaw" (263 : Nat) ({ cls := "SaltTableModel", name := "least", desc := "(I)I" } : Jvm.MethodName)) ∈ am_T := am_in (List.mem_append_right _ (List.mem_append_right _ (List.mem_append_right _ (List.mem_append_right _ (List.mem_append_right _ (List.mem_append_right _ (List.mem_append_right _ (List.mem_append_right _ (List.mem_of_getElem? (i := 10) rfl))))))))) rfl
theorem aw_1694 : (Jvm.Cond.methodLink "SaltTableLaw" (211 : Nat) ({ cls := "SaltTableModel", name := "swap", desc := "()I" } : Jvm.MethodName)) ∈ am_T := am_in (List.mem_append_right _ (List.mem_append_right _ (List.mem_append_right _ (List.mem_append_right _ (List.mem_append_right _ (List.mem_append_right _ (List.mem_append_right _ (List.mem_append_right _ (List.mem_of_getElem? (i := 14) rfl))))))))) rfl
theorem aw_1698 : (Jvm.Cond.methodLink "SaltTableLaw" (214 : Nat) ({ cls := "SaltTableModel", name := "fewest", desc := "(II)I" } : Jvm.MethodName)) ∈ am_T := am_in (List.mem_append_right _ (List.mem_append_right _ (List.mem_append_right _ (List.mem_append_right _ (List.mem_append_right _ (List.mem_append_right _ (List.mem_append_right _ (List.mem_append_right _ (List.mem_of_getElem? (i := 18) rfl))))))))) rfl
theorem aw_1711 : (Jvm.Cond.methodLink "SaltTableLaw" (218 : Nat) ({ cls := "SaltTableModel", name := "bribes", desc := "(Z)I" } : Jvm.MethodName)) ∈ am_T := am_in (List.mem_append_right _ (List.mem_append_right _ (List.mem_append_right _ (List.mem_append_right _ (List.mem_append_right _ (List.mem_append_right _ (List.mem_append_right _ (List.mem_append_right _ (List.mem_of_getElem? (i := 31) rfl))))))))) rfl
theorem aw_1723 : (Jvm.Cond.methodLink "SaltTableLaw" (221 : Nat) ({ cls := "SaltTableModel", name := "ask", desc := "(I)I" } : Jvm.MethodName)) ∈ am_T := am_in (List.mem_append_right _ (List.mem_append_right _ (List.mem_append_right _ (List.mem_append_right _ (List.mem_append_right _ (List.mem_append_right _ (List.mem_append_right _ (List.mem_append_right _ (List.mem_of_getElem? (i := 43) rfl))))))))) rfl
theorem aw_1735 : (Jvm.Cond.methodLink "SaltTableLaw" (224 : Nat) ({ cls := "SaltTableModel", name := "worst", desc := "(I)I" } : Jvm.MethodName)) ∈ am_T := am_in (List.mem_append_right _ (List.mem_append_right _ (List.mem_append_right _ (List.mem_append_right _ (List.mem_append_right _ (List.mem_append_right _ (List.mem_append_right _ (List.mem_append_right _ (List.mem_of_getElem? (i := 55) rfl))))))))) rfl
theorem aw_1739 : (Jvm.Cond.methodLink "SaltTableLaw" (228 : Nat) ({ cls := "SaltTableModel", name := "alike", desc := "()I" } : Jvm.MethodName)) ∈ am_T := am_in (List.mem_append_right _ (List.mem_append_right _ (List.mem_append_right _ (List.mem_append_right _ (List.mem_append_right _ (List.mem_append_right _ (List.mem_append_right _ (List.mem_append_right _ (List.mem_of_getElem? (i := 59) rfl))))))))) rfl
theorem aw_1747 : (Jvm.Cond.methodLink "SaltTableLaw" (231 : Nat) ({ cls := "SaltTableModel", name := "share", desc := "(II)I" } : Jvm.MethodName)) ∈ am_T := am_in (List.mem_append_right _ (List.mem_append_right _ (List.mem_append_right _ (List.mem_append_right _ (List.mem_append_right _ (List.mem_append_right _ (List.mem_append_right _ (List.mem_append_right _ (List.mem_of_getElem? (i := 67) rfl))))))))) rfl
theorem aw_1755 : (Jvm.Cond.methodLink "SaltTableLaw" (235 : Nat) ({ cls := "SaltTableModel", name := "whole", desc := "()I" } : Jvm.MethodName)) ∈ am_T := am_in (List.mem_append_right _ (List.mem_append_right _ (List.mem_append_right _ (List.mem_append_right _ (List.mem_append_right _ (List.mem_append_right _ (List.mem_append_right _ (List.mem_append_right _ (List.mem_of_getElem? (i := 75) rfl))))))))) rfl
theorem aw_1763 : (Jvm.Cond.methodLink "SaltTableLaw" (238 : Nat) ({ cls := "SaltTableModel", name := "sentence", desc := "(I)I" } : Jvm.MethodName)) ∈ am_T := am_in (List.mem_append_right _ (List.mem_append_right _ (List.mem_append_right _ (List.mem_append_right _ (List.mem_append_right _ (List.mem_append_right _ (List.mem_append_right _ (List.mem_append_right _ (List.mem_of_getElem? (i := 83) rfl))))))))) rfl
theorem aw_1771 : (Jvm.Cond.methodLink "SaltTableLaw" (246 : Nat) ({ cls := "SaltTableModel", name := "fair", desc := "()Z" } : Jvm.MethodName)) ∈ am_T := am_in (List.mem_append_right _ (List.mem_append_right _ (List.mem_append_right _ (List.mem_append_right _ (List.mem_append_right _ (List.mem_append_right _ (List.mem_append_right _ (List.mem_append_right _ (List.mem_of_getElem? (i := 91) rfl))))))))) rfl
theorem aw_1775 : (Jvm.Cond.methodLink "SaltTableLaw" (241 : Nat) ({ cls := "SaltTableModel", name := "alone", desc := "(II)I" } : Jvm.MethodName)) ∈ am_T := am_in (List.mem_append_right _ (List.mem_append_right _ (List.mem_append_right _ (List.mem_append_right _ (List.mem_append_right _ (List.mem_append_right _ (List.mem_append_right _ (List.mem_append_right _ (List.mem_of_getElem? (i := 95) rfl))))))))) rfl
theorem aw_1779 : (Jvm.Cond.methodLink "SaltTableLaw" (249 : Nat) ({ cls := "SaltTableModel", name := "game", desc := "(I)I" } : Jvm.MethodName)) ∈ am_T := am_in (List.mem_append_right _ (List.mem_append_right _ (List.mem_append_right _ (List.mem_append_right _ (List.mem_append_right _ (List.mem_append_right _ (List.mem_append_right _ (List.mem_append_right _ (List.mem_of_getElem? (i := 99) rfl))))))))) rfl
theorem aw_1795 : (Jvm.Cond.methodLink "SaltTableLaw" (253 : Nat) ({ cls := "SaltTableModel", name := "crowd", desc := "()I" } : Jvm.MethodName)) ∈ am_T := am_in (List.mem_append_right _ (List.mem_append_right _ (List.mem_append_right _ (List.mem_append_right _ (List.mem_append_right _ (List.mem_append_right _ (List.mem_append_right _ (List.mem_append_right _ (List.mem_of_getElem? (i := 115) rfl))))))))) rfl
theorem aw_1799 : (Jvm.Cond.methodLink "SaltTableLaw" (257 : Nat) ({ cls := "SaltTableModel", name := "gaps", desc := "()I" } : Jvm.MethodName)) ∈ am_T := am_in (List.mem_append_right _ (List.mem_append_right _ (List.mem_append_right _ (List.mem_append_right _ (List.mem_append_right _ (List.mem_append_right _ (List.mem_append_right _ (List.mem_append_right _ (List.mem_of_getElem? (i := 119) rfl))))))))) rfl
theorem aw_1803 : (Jvm.Cond.methodLink "SaltTableLaw" (260 : Nat) ({ cls := "SaltTableModel", name := "meets", desc := "(I)I" } : Jvm.MethodName)) ∈ am_T := am_in (List.mem_append_right _ (List.mem_append_right _ (List.mem_append_right _ (List.mem_append_right _ (List.mem_append_right _ (List.mem_append_right _ (List.mem_append_right _ (List.mem_append_right _ (List.mem_of_getElem? (i := 123) rfl))))))))) rfl
theorem aw_1807 : (Jvm.Cond.methodLink "SaltTableLaw" (266 : Nat) ({ cls := "SaltTableModel", name := "trial", desc := "(IZ)I" } : Jvm.MethodName)) ∈ am_T := am_in (List.mem_append_right _ (List.mem_append_right _ (List.mem_append_right _ (List.mem_append_right _ (List.mem_append_right _ (List.mem_append_right _ (List.mem_append_right _ (List.mem_append_right _ (List.mem_of_getElem? (i := 127) rfl))))))))) rfl
theorem aw_1811 : (Jvm.Cond.methodLink "SaltTableLaw" (269 : Nat) ({ cls := "SaltTableModel", name := "span", desc := "(IZ)I" } : Jvm.MethodName)) ∈ am_T := am_in (List.mem_append_right _ (List.mem_append_right _ (List.mem_append_right _ (List.mem_append_right _ (List.mem_append_right _ (List.mem_append_right _ (List.mem_append_right _ (List.mem_append_right _ (List.mem_of_getElem? (i := 131) rfl))))))))) rfl
theorem aw_1815 : (Jvm.Cond.methodLink "SaltTableLaw" (272 : Nat) ({ cls := "SaltTableModel", name := "led", desc := "(IZ)I" } : Jvm.MethodName)) ∈ am_T := am_in (List.mem_append_right _ (List.mem_append_right _ (List.mem_append_right _ (List.mem_append_right _ (List.mem_append_right _ (List.mem_append_right _ (List.mem_append_right _ (List.mem_append_right _ (List.mem_of_getElem? (i := 135) rfl))))))))) rfl
theorem aw_1823 : (Jvm.Cond.methodLink "SaltTableLaw" (275 : Nat) ({ cls := "SaltTableModel", name := "log", desc := "(II)I" } : Jvm.MethodName)) ∈ am_T := am_in (List.mem_append_right _ (List.mem_append_right _ (List.mem_append_right _ (List.mem_append_right _ (List.mem_append_right _ (List.mem_append_right _ (List.mem_append_right _ (List.mem_append_right _ (List.mem_of_getElem? (i := 143) rfl))))))))) rfl
theorem aw_1827 : (Jvm.Cond.methodLink "SaltTableLaw" (279 : Nat) ({ cls := "SaltTableModel", name := "seed", desc := "(I)I" } : Jvm.MethodName)) ∈ am_T := am_in (List.mem_append_right _ (List.mem_append_right _ (List.mem_append_right _ (List.mem_append_right _ (List.mem_append_right _ (List.mem_append_right _ (List.mem_append_right _ (List.mem_append_right _ (List.mem_of_getElem? (i := 147) rfl))))))))) rfl
theorem aw_1831 : (Jvm.Cond.methodLink "SaltTableLaw" (295 : Nat) ({ cls := "SaltTableModel", name := "count", desc := "(I)I" } : Jvm.MethodName)) ∈ am_T := am_in (List.mem_append_right _ (List.mem_append_right _ (List.mem_append_right _ (List.mem_append_right _ (List.mem_append_right _ (List.mem_append_right _ (List.mem_append_right _ (List.mem_append_right _ (List.mem_of_getElem? (i := 151) rfl))))))))) rfl
def f_L_table (N : Nat) (M : Mm) : Option (Int32 × Mm) :=
  bnx (f_X10_table N M) (fun r1 M2 => grd (inb (0 : Int32) 1) (lt (wr M2 219 ((0 : Int32)).toNatClampNeg r1) (fun M5 => some ((0 : Int32), M5)))) (fun r1 M2 => (if r1 = "java/lang/IllegalArgumentException" then some ((1 : Int32), M2) else (if r1 = "java/lang/UnsupportedOperationException" then some ((2 : Int32), M2) else none)))
set_option maxRecDepth 20000 in
set_option maxHeartbeats 4000000 in
theorem ok_L_table {l : Launch} {N : Nat} {M : Mm} {r : Int32} {M' : Mm} (hl : l.stackTraces = false) (h : f_L_table N M = some (r, M')) : am_H l yL_table cL_table 3 [(0, 8, 11, 13), (0, 8, 14, 15)] 10 1 6 LY M [.ref 0, .ref 219] (.inl (some (.int r))) M' := by
  unfold f_L_table at h
  refine am_introH (by decide) (by simp [Value.category]) (Nat.le_of_ble_eq_true rfl) (fun X hC hT => ?_)
  refine am_start (L := [some (.ref 0), some (.ref 219), none]) rfl ?_
  refine v_aload_n hC dL_table_0 rfl ?_
  refine v_iconst (v := (0 : Int32)) hC dL_table_1 rfl ?_
  refine v_aload_n hC dL_table_2 rfl ?_
  rcases bnx_some h with ⟨r1, M2, q3, h⟩ | ⟨r1, M2, q3, h⟩
  · refine w_callVi hC [] [.int (0 : Int32), .ref 219] (ok_X10_table hl q3) mv_X10_table aw_580 ly_0 rfl (Nat.le_of_ble_eq_true rfl) ⟨by decide, by decide⟩ ⟨by decide, by decide⟩ dL_table_3 ?_
    refine v_i2l hC dL_table_6 ?_
    obtain ⟨g4, h⟩ := grd_some h
    obtain ⟨M5, e_M5, h⟩ := lt_some h
    refine w_last hC rfl ly_219 (inb_in g4) dL_table_7 e_M5 ?_
    refine v_goto (tg := 17) hC dL_table_8 rfl ?_
    refine v_iconst (v := (0 : Int32)) hC dL_table_17 rfl ?_
    cases h
    exact v_iret hC (by decide) (by decide) dL_table_18
  · by_cases c6 : r1 = "java/lang/IllegalArgumentException"
    · rw [if_pos c6] at h
      subst c6
      cases h
      exact w_catch hC hT [] [.int (0 : Int32), .ref 219] [] [(0, 8, 14, 15)] (0, 8, 11, 13) (1 : Int32) 1 2 (ok_X10_table hl q3) mv_X10_table aw_580 ly_0 rfl (Nat.le_of_ble_eq_true rfl) ⟨by decide, by decide⟩ ⟨by decide, by decide⟩ dL_table_3 (by decide) (by decide) rfl (fun z hz => nomatch hz) (by decide) (by decide) (by decide) aw_578 (by decide +kernel) rfl (ltk rfl) (Or.inl ⟨2, rfl, dL_table_11, dL_table_12, dL_table_13⟩)
    · rw [if_neg c6] at h
      by_cases c7 : r1 = "java/lang/UnsupportedOperationException"
      · rw [if_pos c7] at h
        subst c7
        cases h
        exact w_catch hC hT [] [.int (0 : Int32), .ref 219] [(0, 8, 11, 13)] [] (0, 8, 14, 15) (2 : Int32) 2 2 (ok_X10_table hl q3) mv_X10_table aw_580 ly_0 rfl (Nat.le_of_ble_eq_true rfl) ⟨by decide, by decide⟩ ⟨by decide, by decide⟩ dL_table_3 (by decide) (by decide) rfl (fun z hz => by rw [List.mem_singleton] at hz; subst hz; exact ⟨⟨by decide, by decide⟩, by decide, "java/lang/IllegalArgumentException", aw_578, by decide +kernel⟩) (by decide) (by decide) (by decide) aw_579 (by decide +kernel) rfl (ltk rfl) (Or.inl ⟨2, rfl, dL_table_14, dL_table_15, dL_table_16⟩)
      · rw [if_neg c7] at h
        cases h
theorem mh_L_table : am_MH yL_table cL_table 3 [(0, 8, 11, 13), (0, 8, 14, 15)] 2 := ⟨aw_577, aw_0, ⟨by decide, by decide⟩, by decide +kernel, aw_576⟩
def f_L_law (N : Nat) (M : Mm) : Option (Int32 × Mm) :=
  bnx (f_X10_law N M) (fun r1 M2 => grd (inb (0 : Int32) 1) (lt (wr M2 219 ((0 : Int32)).toNatClampNeg r1) (fun M5 => some ((0 : Int32), M5)))) (fun r1 M2 => (if r1 = "java/lang/IllegalArgumentException" then some ((1 : Int32), M2) else none))
set_option maxRecDepth 20000 in
set_option maxHeartbeats 4000000 in
theorem ok_L_law {l : Launch} {N : Nat} {M : Mm} {r : Int32} {M' : Mm} (hl : l.stackTraces = false) (h : f_L_law N M = some (r, M')) : am_H l yL_law cL_law 3 [(0, 8, 11, 13)] 74 1 6 LY M [.ref 0, .ref 219] (.inl (some (.int r))) M' := by
  unfold f_L_law at h
  refine am_introH (by decide) (by simp [Value.category]) (Nat.le_of_ble_eq_true rfl) (fun X hC hT => ?_)
  refine am_start (L := [some (.ref 0), some (.ref 219), none]) rfl ?_
  refine v_aload_n hC dL_law_0 rfl ?_
  refine v_iconst (v := (0 : Int32)) hC dL_law_1 rfl ?_
  refine v_aload_n hC dL_law_2 rfl ?_
  rcases bnx_some h with ⟨r1, M2, q3, h⟩ | ⟨r1, M2, q3, h⟩
  · refine w_callVi hC [] [.int (0 : Int32), .ref 219] (ok_X10_law hl q3) mv_X10_law aw_797 ly_0 rfl (Nat.le_of_ble_eq_true rfl) ⟨by decide, by decide⟩ ⟨by decide, by decide⟩ dL_law_3 ?_
    refine v_i2l hC dL_law_6 ?_
    obtain ⟨g4, h⟩ := grd_some h
    obtain ⟨M5, e_M5, h⟩ := lt_some h
    refine w_last hC rfl ly_219 (inb_in g4) dL_law_7 e_M5 ?_
    refine v_goto (tg := 14) hC dL_law_8 rfl ?_
    refine v_iconst (v := (0 : Int32)) hC dL_law_14 rfl ?_
    cases h
    exact v_iret hC (by decide) (by decide) dL_law_15
  · by_cases c6 : r1 = "java/lang/IllegalArgumentException"
    · rw [if_pos c6] at h
      subst c6
      cases h
      exact w_catch hC hT [] [.int (0 : Int32), .ref 219] [] [] (0, 8, 11, 13) (1 : Int32) 1 2 (ok_X10_law hl q3) mv_X10_law aw_797 ly_0 rfl (Nat.le_of_ble_eq_true rfl) ⟨by decide, by decide⟩ ⟨by decide, by decide⟩ dL_law_3 (by decide) (by decide) rfl (fun z hz => nomatch hz) (by decide) (by decide) (by decide) aw_578 (by decide +kernel) rfl (ltk rfl) (Or.inl ⟨2, rfl, dL_law_11, dL_law_12, dL_law_13⟩)
    · rw [if_neg c6] at h
      cases h
theorem mh_L_law : am_MH yL_law cL_law 3 [(0, 8, 11, 13)] 2 := ⟨aw_796, aw_0, ⟨by decide, by decide⟩, by decide +kernel, aw_795⟩
def f_L_diner (N : Nat) (v1 v2 : Int32) (M : Mm) : Option (Int32 × Mm) :=
  bnx (f_X10_diner N v1 v2 M) (fun r1 M2 => grd (inb (0 : Int32) 1) (lt (wr M2 219 ((0 : Int32)).toNatClampNeg r1) (fun M5 => some ((0 : Int32), M5)))) (fun r1 M2 => (if r1 = "java/lang/IndexOutOfBoundsException" then some ((1 : Int32), M2) else (if r1 = "java/util/NoSuchElementException" then some ((2 : Int32), M2) else none)))
set_option maxRecDepth 20000 in
set_option maxHeartbeats 4000000 in
theorem ok_L_diner {l : Launch} {N : Nat} {v1 v2 : Int32} {M : Mm} {r : Int32} {M' : Mm} (hl : l.stackTraces = false) (h : f_L_diner N v1 v2 M = some (r, M')) : am_H l yL_diner cL_diner 5 [(0, 10, 13, 24), (0, 10, 17, 26)] 8 2 12 LY M [.ref 0, .int v1, .int v2, .ref 219] (.inl (some (.int r))) M' := by
  unfold f_L_diner at h
  refine am_introH (by decide) (by simp [Value.category]) (Nat.le_of_ble_eq_true rfl) (fun X hC hT => ?_)
  refine am_start (L := [some (.ref 0), some (.int v1), some (.int v2), some (.ref 219), none]) rfl ?_
  refine v_aload_n hC dL_diner_0 rfl ?_
  refine v_iconst (v := (0 : Int32)) hC dL_diner_1 rfl ?_
  refine v_aload_n hC dL_diner_2 rfl ?_
  refine v_iload_n hC dL_diner_3 rfl ?_
  refine v_iload_n hC dL_diner_4 rfl ?_
  rcases bnx_some h with ⟨r1, M2, q3, h⟩ | ⟨r1, M2, q3, h⟩
  · refine w_callVi hC [.int v1, .int v2] [.int (0 : Int32), .ref 219] (ok_X10_diner hl q3) mv_X10_diner aw_839 ly_0 rfl (Nat.le_of_ble_eq_true rfl) ⟨by decide, by decide⟩ ⟨by decide, by decide⟩ dL_diner_5 ?_
    refine v_i2l hC dL_diner_8 ?_
    obtain ⟨g4, h⟩ := grd_some h
    obtain ⟨M5, e_M5, h⟩ := lt_some h
    refine w_last hC rfl ly_219 (inb_in g4) dL_diner_9 e_M5 ?_
    refine v_goto (tg := 21) hC dL_diner_10 rfl ?_
    refine v_iconst (v := (0 : Int32)) hC dL_diner_21 rfl ?_
    cases h
    exact v_iret hC (by decide) (by decide) dL_diner_22
  · by_cases c6 : r1 = "java/lang/IndexOutOfBoundsException"
    · rw [if_pos c6] at h
      subst c6
      cases h
      exact w_catch hC hT [.int v1, .int v2] [.int (0 : Int32), .ref 219] [] [(0, 10, 17, 26)] (0, 10, 13, 24) (1 : Int32) 1 4 (ok_X10_diner hl q3) mv_X10_diner aw_839 ly_0 rfl (Nat.le_of_ble_eq_true rfl) ⟨by decide, by decide⟩ ⟨by decide, by decide⟩ dL_diner_5 (by decide) (by decide) rfl (fun z hz => nomatch hz) (by decide) (by decide) (by decide) aw_837 (by decide +kernel) rfl (ltk rfl) (Or.inr ⟨dL_diner_13, dL_diner_15, dL_diner_16⟩)
    · rw [if_neg c6] at h
      by_cases c7 : r1 = "java/util/NoSuchElementException"
      · rw [if_pos c7] at h
        subst c7
        cases h
        exact w_catch hC hT [.int v1, .int v2] [.int (0 : Int32), .ref 219] [(0, 10, 13, 24)] [] (0, 10, 17, 26) (2 : Int32) 2 4 (ok_X10_diner hl q3) mv_X10_diner aw_839 ly_0 rfl (Nat.le_of_ble_eq_true rfl) ⟨by decide, by decide⟩ ⟨by decide, by decide⟩ dL_diner_5 (by decide) (by decide) rfl (fun z hz => by rw [List.mem_singleton] at hz; subst hz; exact ⟨⟨by decide, by decide⟩, by decide, "java/lang/IndexOutOfBoundsException", aw_837, by decide +kernel⟩) (by decide) (by decide) (by decide) aw_838 (by decide +kernel) rfl (ltk rfl) (Or.inr ⟨dL_diner_17, dL_diner_19, dL_diner_20⟩)
      · rw [if_neg c7] at h
        cases h
theorem mh_L_diner : am_MH yL_diner cL_diner 5 [(0, 10, 13, 24), (0, 10, 17, 26)] 4 := ⟨aw_836, aw_0, ⟨by decide, by decide⟩, by decide +kernel, aw_835⟩
def f_L_has (N : Nat) (v1 v2 : Int32) (M : Mm) : Option (Int32 × Mm) :=
  bnx (f_X10_has N v1 v2 M) (fun r1 M2 => grd (inb (0 : Int32) 1) (lt (wr M2 219 ((0 : Int32)).toNatClampNeg r1) (fun M5 => some ((0 : Int32), M5)))) (fun r1 M2 => (if r1 = "java/lang/IndexOutOfBoundsException" then some ((1 : Int32), M2) else none))
set_option maxRecDepth 20000 in
set_option maxHeartbeats 4000000 in
theorem ok_L_has {l : Launch} {N : Nat} {v1 v2 : Int32} {M : Mm} {r : Int32} {M' : Mm} (hl : l.stackTraces = false) (h : f_L_has N v1 v2 M = some (r, M')) : am_H l yL_has cL_has 5 [(0, 10, 13, 24)] 8 2 12 LY M [.ref 0, .int v1, .int v2, .ref 219] (.inl (some (.int r))) M' := by
  unfold f_L_has at h
  refine am_introH (by decide) (by simp [Value.category]) (Nat.le_of_ble_eq_true rfl) (fun X hC hT => ?_)
  refine am_start (L := [some (.ref 0), some (.int v1), some (.int v2), some (.ref 219), none]) rfl ?_
  refine v_aload_n hC dL_has_0 rfl ?_
  refine v_iconst (v := (0 : Int32)) hC dL_has_1 rfl ?_
  refine v_aload_n hC dL_has_2 rfl ?_
  refine v_iload_n hC dL_has_3 rfl ?_
  refine v_iload_n hC dL_has_4 rfl ?_
  rcases bnx_some h with ⟨r1, M2, q3, h⟩ | ⟨r1, M2, q3, h⟩
  · refine w_callVi hC [.int v1, .int v2] [.int (0 : Int32), .ref 219] (ok_X10_has hl q3) mv_X10_has aw_895 ly_0 rfl (Nat.le_of_ble_eq_true rfl) ⟨by decide, by decide⟩ ⟨by decide, by decide⟩ dL_has_5 ?_
    refine v_i2l hC dL_has_8 ?_
    obtain ⟨g4, h⟩ := grd_some h
    obtain ⟨M5, e_M5, h⟩ := lt_some h
    refine w_last hC rfl ly_219 (inb_in g4) dL_has_9 e_M5 ?_
    refine v_goto (tg := 17) hC dL_has_10 rfl ?_
    refine v_iconst (v := (0 : Int32)) hC dL_has_17 rfl ?_
    cases h
    exact v_iret hC (by decide) (by decide) dL_has_18
  · by_cases c6 : r1 = "java/lang/IndexOutOfBoundsException"
    · rw [if_pos c6] at h
      subst c6
      cases h
      exact w_catch hC hT [.int v1, .int v2] [.int (0 : Int32), .ref 219] [] [] (0, 10, 13, 24) (1 : Int32) 1 4 (ok_X10_has hl q3) mv_X10_has aw_895 ly_0 rfl (Nat.le_of_ble_eq_true rfl) ⟨by decide, by decide⟩ ⟨by decide, by decide⟩ dL_has_5 (by decide) (by decide) rfl (fun z hz => nomatch hz) (by decide) (by decide) (by decide) aw_837 (by decide +kernel) rfl (ltk rfl) (Or.inr ⟨dL_has_13, dL_has_15, dL_has_16⟩)
    · rw [if_neg c6] at h
      cases h
theorem mh_L_has : am_MH yL_has cL_has 5 [(0, 10, 13, 24)] 4 := ⟨aw_894, aw_0, ⟨by decide, by decide⟩, by decide +kernel, aw_893⟩
def f_L_cellar (N : Nat) (v1 v2 : Int32) (M : Mm) : Option (Int32 × Mm) :=
  bnx (f_X10_cellar N v1 v2 M) (fun r1 M2 => grd (inb (0 : Int32) 1) (lt (wr M2 219 ((0 : Int32)).toNatClampNeg r1) (fun M5 => some ((0 : Int32), M5)))) (fun r1 M2 => (if r1 = "java/lang/IndexOutOfBoundsException" then some ((1 : Int32), M2) else (if r1 = "java/util/NoSuchElementException" then some ((2 : Int32), M2) else none)))
set_option maxRecDepth 20000 in
set_option maxHeartbeats 4000000 in
theorem ok_L_cellar {l : Launch} {N : Nat} {v1 v2 : Int32} {M : Mm} {r : Int32} {M' : Mm} (hl : l.stackTraces = false) (h : f_L_cellar N v1 v2 M = some (r, M')) : am_H l yL_cellar cL_cellar 5 [(0, 10, 13, 24), (0, 10, 17, 26)] 8 2 12 LY M [.ref 0, .int v1, .int v2, .ref 219] (.inl (some (.int r))) M' := by
  unfold f_L_cellar at h
  refine am_introH (by decide) (by simp [Value.category]) (Nat.le_of_ble_eq_true rfl) (fun X hC hT => ?_)
  refine am_start (L := [some (.ref 0), some (.int v1), some (.int v2), some (.ref 219), none]) rfl ?_
  refine v_aload_n hC dL_cellar_0 rfl ?_
  refine v_iconst (v := (0 : Int32)) hC dL_cellar_1 rfl ?_
  refine v_aload_n hC dL_cellar_2 rfl ?_
  refine v_iload_n hC dL_cellar_3 rfl ?_
  refine v_iload_n hC dL_cellar_4 rfl ?_
  rcases bnx_some h with ⟨r1, M2, q3, h⟩ | ⟨r1, M2, q3, h⟩
  · refine w_callVi hC [.int v1, .int v2] [.int (0 : Int32), .ref 219] (ok_X10_cellar hl q3) mv_X10_cellar aw_908 ly_0 rfl (Nat.le_of_ble_eq_true rfl) ⟨by decide, by decide⟩ ⟨by decide, by decide⟩ dL_cellar_5 ?_
    refine v_i2l hC dL_cellar_8 ?_
    obtain ⟨g4, h⟩ := grd_some h
    obtain ⟨M5, e_M5, h⟩ := lt_some h
    refine w_last hC rfl ly_219 (inb_in g4) dL_cellar_9 e_M5 ?_
    refine v_goto (tg := 21) hC dL_cellar_10 rfl ?_
    refine v_iconst (v := (0 : Int32)) hC dL_cellar_21 rfl ?_
    cases h
    exact v_iret hC (by decide) (by decide) dL_cellar_22
  · by_cases c6 : r1 = "java/lang/IndexOutOfBoundsException"
    · rw [if_pos c6] at h
      subst c6
      cases h
      exact w_catch hC hT [.int v1, .int v2] [.int (0 : Int32), .ref 219] [] [(0, 10, 17, 26)] (0, 10, 13, 24) (1 : Int32) 1 4 (ok_X10_cellar hl q3) mv_X10_cellar aw_908 ly_0 rfl (Nat.le_of_ble_eq_true rfl) ⟨by decide, by decide⟩ ⟨by decide, by decide⟩ dL_cellar_5 (by decide) (by decide) rfl (fun z hz => nomatch hz) (by decide) (by decide) (by decide) aw_837 (by decide +kernel) rfl (ltk rfl) (Or.inr ⟨dL_cellar_13, dL_cellar_15, dL_cellar_16⟩)
    · rw [if_neg c6] at h
      by_cases c7 : r1 = "java/util/NoSuchElementException"
      · rw [if_pos c7] at h
        subst c7
        cases h
        exact w_catch hC hT [.int v1, .int v2] [.int (0 : Int32), .ref 219] [(0, 10, 13, 24)] [] (0, 10, 17, 26) (2 : Int32) 2 4 (ok_X10_cellar hl q3) mv_X10_cellar aw_908 ly_0 rfl (Nat.le_of_ble_eq_true rfl) ⟨by decide, by decide⟩ ⟨by decide, by decide⟩ dL_cellar_5 (by decide) (by decide) rfl (fun z hz => by rw [List.mem_singleton] at hz; subst hz; exact ⟨⟨by decide, by decide⟩, by decide, "java/lang/IndexOutOfBoundsException", aw_837, by decide +kernel⟩) (by decide) (by decide) (by decide) aw_838 (by decide +kernel) rfl (ltk rfl) (Or.inr ⟨dL_cellar_17, dL_cellar_19, dL_cellar_20⟩)
      · rw [if_neg c7] at h
        cases h
theorem mh_L_cellar : am_MH yL_cellar cL_cellar 5 [(0, 10, 13, 24), (0, 10, 17, 26)] 4 := ⟨aw_907, aw_0, ⟨by decide, by decide⟩, by decide +kernel, aw_906⟩
def f_L_seat (N : Nat) (v1 : Int32) (M : Mm) : Option (Int32 × Mm) :=
  bnx (f_X10_seat N v1 M) (fun r1 M2 => grd (inb (0 : Int32) 1) (lt (wr M2 219 ((0 : Int32)).toNatClampNeg r1) (fun M5 => some ((0 : Int32), M5)))) (fun r1 M2 => (if r1 = "java/lang/IndexOutOfBoundsException" then some ((1 : Int32), M2) else none))
set_option maxRecDepth 20000 in
set_option maxHeartbeats 4000000 in
theorem ok_L_seat {l : Launch} {N : Nat} {v1 : Int32} {M : Mm} {r : Int32} {M' : Mm} (hl : l.stackTraces = false) (h : f_L_seat N v1 M = some (r, M')) : am_H l yL_seat cL_seat 4 [(0, 9, 12, 24)] 8 1 6 LY M [.ref 0, .int v1, .ref 219] (.inl (some (.int r))) M' := by
  unfold f_L_seat at h
  refine am_introH (by decide) (by simp [Value.category]) (Nat.le_of_ble_eq_true rfl) (fun X hC hT => ?_)
  refine am_start (L := [some (.ref 0), some (.int v1), some (.ref 219), none]) rfl ?_
  refine v_aload_n hC dL_seat_0 rfl ?_
  refine v_iconst (v := (0 : Int32)) hC dL_seat_1 rfl ?_
  refine v_aload_n hC dL_seat_2 rfl ?_
  refine v_iload_n hC dL_seat_3 rfl ?_
  rcases bnx_some h with ⟨r1, M2, q3, h⟩ | ⟨r1, M2, q3, h⟩
  · refine w_callVi hC [.int v1] [.int (0 : Int32), .ref 219] (ok_X10_seat hl q3) mv_X10_seat aw_934 ly_0 rfl (Nat.le_of_ble_eq_true rfl) ⟨by decide, by decide⟩ ⟨by decide, by decide⟩ dL_seat_4 ?_
    refine v_i2l hC dL_seat_7 ?_
    obtain ⟨g4, h⟩ := grd_some h
    obtain ⟨M5, e_M5, h⟩ := lt_some h
    refine w_last hC rfl ly_219 (inb_in g4) dL_seat_8 e_M5 ?_
    refine v_goto (tg := 15) hC dL_seat_9 rfl ?_
    refine v_iconst (v := (0 : Int32)) hC dL_seat_15 rfl ?_
    cases h
    exact v_iret hC (by decide) (by decide) dL_seat_16
  · by_cases c6 : r1 = "java/lang/IndexOutOfBoundsException"
    · rw [if_pos c6] at h
      subst c6
      cases h
      exact w_catch hC hT [.int v1] [.int (0 : Int32), .ref 219] [] [] (0, 9, 12, 24) (1 : Int32) 1 3 (ok_X10_seat hl q3) mv_X10_seat aw_934 ly_0 rfl (Nat.le_of_ble_eq_true rfl) ⟨by decide, by decide⟩ ⟨by decide, by decide⟩ dL_seat_4 (by decide) (by decide) rfl (fun z hz => nomatch hz) (by decide) (by decide) (by decide) aw_837 (by decide +kernel) rfl (ltk rfl) (Or.inl ⟨3, rfl, dL_seat_12, dL_seat_13, dL_seat_14⟩)
    · rw [if_neg c6] at h
      cases h
theorem mh_L_seat : am_MH yL_seat cL_seat 4 [(0, 9, 12, 24)] 3 := ⟨aw_933, aw_0, ⟨by decide, by decide⟩, by decide +kernel, aw_932⟩
def f_L_pass (N : Nat) (v1 v2 : Int32) (M : Mm) : Option (Int32 × Mm) :=
  bnx (f_X10_pass N v1 v2 M) (fun r1 M2 => grd (inb (0 : Int32) 1) (lt (wr M2 219 ((0 : Int32)).toNatClampNeg r1) (fun M5 => some ((0 : Int32), M5)))) (fun r1 M2 => (if r1 = "java/lang/IndexOutOfBoundsException" then some ((1 : Int32), M2) else none))
set_option maxRecDepth 20000 in
set_option maxHeartbeats 4000000 in
theorem ok_L_pass {l : Launch} {N : Nat} {v1 v2 : Int32} {M : Mm} {r : Int32} {M' : Mm} (hl : l.stackTraces = false) (h : f_L_pass N v1 v2 M = some (r, M')) : am_H l yL_pass cL_pass 5 [(0, 10, 13, 24)] 8 2 12 LY M [.ref 0, .int v1, .int v2, .ref 219] (.inl (some (.int r))) M' := by
  unfold f_L_pass at h
  refine am_introH (by decide) (by simp [Value.category]) (Nat.le_of_ble_eq_true rfl) (fun X hC hT => ?_)
  refine am_start (L := [some (.ref 0), some (.int v1), some (.int v2), some (.ref 219), none]) rfl ?_
  refine v_aload_n hC dL_pass_0 rfl ?_
  refine v_iconst (v := (0 : Int32)) hC dL_pass_1 rfl ?_
  refine v_aload_n hC dL_pass_2 rfl ?_
  refine v_iload_n hC dL_pass_3 rfl ?_
  refine v_iload_n hC dL_pass_4 rfl ?_
  rcases bnx_some h with ⟨r1, M2, q3, h⟩ | ⟨r1, M2, q3, h⟩
  · refine w_callVi hC [.int v1, .int v2] [.int (0 : Int32), .ref 219] (ok_X10_pass hl q3) mv_X10_pass aw_946 ly_0 rfl (Nat.le_of_ble_eq_true rfl) ⟨by decide, by decide⟩ ⟨by decide, by decide⟩ dL_pass_5 ?_
    refine v_i2l hC dL_pass_8 ?_
    obtain ⟨g4, h⟩ := grd_some h
    obtain ⟨M5, e_M5, h⟩ := lt_some h
    refine w_last hC rfl ly_219 (inb_in g4) dL_pass_9 e_M5 ?_
    refine v_goto (tg := 17) hC dL_pass_10 rfl ?_
    refine v_iconst (v := (0 : Int32)) hC dL_pass_17 rfl ?_
    cases h
    exact v_iret hC (by decide) (by decide) dL_pass_18
  · by_cases c6 : r1 = "java/lang/IndexOutOfBoundsException"
    · rw [if_pos c6] at h
      subst c6
      cases h
      exact w_catch hC hT [.int v1, .int v2] [.int (0 : Int32), .ref 219] [] [] (0, 10, 13, 24) (1 : Int32) 1 4 (ok_X10_pass hl q3) mv_X10_pass aw_946 ly_0 rfl (Nat.le_of_ble_eq_true rfl) ⟨by decide, by decide⟩ ⟨by decide, by decide⟩ dL_pass_5 (by decide) (by decide) rfl (fun z hz => nomatch hz) (by decide) (by decide) (by decide) aw_837 (by decide +kernel) rfl (ltk rfl) (Or.inr ⟨dL_pass_13, dL_pass_15, dL_pass_16⟩)
    · rw [if_neg c6] at h
      cases h
theorem mh_L_pass : am_MH yL_pass cL_pass 5 [(0, 10, 13, 24)] 4 := ⟨aw_945, aw_0, ⟨by decide, by decide⟩, by decide +kernel, aw_944⟩
def f_L_knock (N : Nat) (v1 : Int32) (M : Mm) : Option (Int32 × Mm) :=
  bnx (f_X10_knock N v1 M) (fun r1 M2 => grd (inb (0 : Int32) 1) (lt (wr M2 219 ((0 : Int32)).toNatClampNeg r1) (fun M5 => some ((0 : Int32), M5)))) (fun r1 M2 => (if r1 = "java/lang/IndexOutOfBoundsException" then some ((1 : Int32), M2) else none))
set_option maxRecDepth 20000 in
set_option maxHeartbeats 4000000 in
theorem ok_L_knock {l : Launch} {N : Nat} {v1 : Int32} {M : Mm} {r : Int32} {M' : Mm} (hl : l.stackTraces = false) (h : f_L_knock N v1 M = some (r, M')) : am_H l yL_knock cL_knock 4 [(0, 9, 12, 24)] 8 1 6 LY M [.ref 0, .int v1, .ref 219] (.inl (some (.int r))) M' := by
  unfold f_L_knock at h
  refine am_introH (by decide) (by simp [Value.category]) (Nat.le_of_ble_eq_true rfl) (fun X hC hT => ?_)
  refine am_start (L := [some (.ref 0), some (.int v1), some (.ref 219), none]) rfl ?_
  refine v_aload_n hC dL_knock_0 rfl ?_
  refine v_iconst (v := (0 : Int32)) hC dL_knock_1 rfl ?_
  refine v_aload_n hC dL_knock_2 rfl ?_
  refine v_iload_n hC dL_knock_3 rfl ?_
  rcases bnx_some h with ⟨r1, M2, q3, h⟩ | ⟨r1, M2, q3, h⟩
  · refine w_callVi hC [.int v1] [.int (0 : Int32), .ref 219] (ok_X10_knock hl q3) mv_X10_knock aw_958 ly_0 rfl (Nat.le_of_ble_eq_true rfl) ⟨by decide, by decide⟩ ⟨by decide, by decide⟩ dL_knock_4 ?_
    refine v_i2l hC dL_knock_7 ?_
    obtain ⟨g4, h⟩ := grd_some h
    obtain ⟨M5, e_M5, h⟩ := lt_some h
    refine w_last hC rfl ly_219 (inb_in g4) dL_knock_8 e_M5 ?_
    refine v_goto (tg := 15) hC dL_knock_9 rfl ?_
    refine v_iconst (v := (0 : Int32)) hC dL_knock_15 rfl ?_
    cases h
    exact v_iret hC (by decide) (by decide) dL_knock_16
  · by_cases c6 : r1 = "java/lang/IndexOutOfBoundsException"
    · rw [if_pos c6] at h
      subst c6
      cases h
      exact w_catch hC hT [.int v1] [.int (0 : Int32), .ref 219] [] [] (0, 9, 12, 24) (1 : Int32) 1 3 (ok_X10_knock hl q3) mv_X10_knock aw_958 ly_0 rfl (Nat.le_of_ble_eq_true rfl) ⟨by decide, by decide⟩ ⟨by decide, by decide⟩ dL_knock_4 (by decide) (by decide) rfl (fun z hz => nomatch hz) (by decide) (by decide) (by decide) aw_837 (by decide +kernel) rfl (ltk rfl) (Or.inl ⟨3, rfl, dL_knock_12, dL_knock_13, dL_knock_14⟩)
    · rw [if_neg c6] at h
      cases h
theorem mh_L_knock : am_MH yL_knock cL_knock 4 [(0, 9, 12, 24)] 3 := ⟨aw_957, aw_0, ⟨by decide, by decide⟩, by decide +kernel, aw_956⟩
def f_L_fill (N : Nat) (v1 v2 : Int32) (M : Mm) : Option (Int32 × Mm) :=
  bnx (f_X10_fill N v1 v2 M) (fun r1 M2 => grd (inb (0 : Int32) 1) (lt (wr M2 219 ((0 : Int32)).toNatClampNeg r1) (fun M5 => some ((0 : Int32), M5)))) (fun r1 M2 => (if r1 = "java/lang/IndexOutOfBoundsException" then some ((1 : Int32), M2) else (if r1 = "java/lang/IllegalArgumentException" then some ((2 : Int32), M2) else none)))
set_option maxRecDepth 20000 in
set_option maxHeartbeats 4000000 in
theorem ok_L_fill {l : Launch} {N : Nat} {v1 v2 : Int32} {M : Mm} {r : Int32} {M' : Mm} (hl : l.stackTraces = false) (h : f_L_fill N v1 v2 M = some (r, M')) : am_H l yL_fill cL_fill 5 [(0, 10, 13, 24), (0, 10, 17, 13)] 8 2 12 LY M [.ref 0, .int v1, .int v2, .ref 219] (.inl (some (.int r))) M' := by
  unfold f_L_fill at h
  refine am_introH (by decide) (by simp [Value.category]) (Nat.le_of_ble_eq_true rfl) (fun X hC hT => ?_)
  refine am_start (L := [some (.ref 0), some (.int v1), some (.int v2), some (.ref 219), none]) rfl ?_
  refine v_aload_n hC dL_fill_0 rfl ?_
  refine v_iconst (v := (0 : Int32)) hC dL_fill_1 rfl ?_
  refine v_aload_n hC dL_fill_2 rfl ?_
  refine v_iload_n hC dL_fill_3 rfl ?_
  refine v_iload_n hC dL_fill_4 rfl ?_
  rcases bnx_some h with ⟨r1, M2, q3, h⟩ | ⟨r1, M2, q3, h⟩
  · refine w_callVi hC [.int v1, .int v2] [.int (0 : Int32), .ref 219] (ok_X10_fill hl q3) mv_X10_fill aw_965 ly_0 rfl (Nat.le_of_ble_eq_true rfl) ⟨by decide, by decide⟩ ⟨by decide, by decide⟩ dL_fill_5 ?_
    refine v_i2l hC dL_fill_8 ?_
    obtain ⟨g4, h⟩ := grd_some h
    obtain ⟨M5, e_M5, h⟩ := lt_some h
    refine w_last hC rfl ly_219 (inb_in g4) dL_fill_9 e_M5 ?_
    refine v_goto (tg := 21) hC dL_fill_10 rfl ?_
    refine v_iconst (v := (0 : Int32)) hC dL_fill_21 rfl ?_
    cases h
    exact v_iret hC (by decide) (by decide) dL_fill_22
  · by_cases c6 : r1 = "java/lang/IndexOutOfBoundsException"
    · rw [if_pos c6] at h
      subst c6
      cases h
      exact w_catch hC hT [.int v1, .int v2] [.int (0 : Int32), .ref 219] [] [(0, 10, 17, 13)] (0, 10, 13, 24) (1 : Int32) 1 4 (ok_X10_fill hl q3) mv_X10_fill aw_965 ly_0 rfl (Nat.le_of_ble_eq_true rfl) ⟨by decide, by decide⟩ ⟨by decide, by decide⟩ dL_fill_5 (by decide) (by decide) rfl (fun z hz => nomatch hz) (by decide) (by decide) (by decide) aw_837 (by decide +kernel) rfl (ltk rfl) (Or.inr ⟨dL_fill_13, dL_fill_15, dL_fill_16⟩)
    · rw [if_neg c6] at h
      by_cases c7 : r1 = "java/lang/IllegalArgumentException"
      · rw [if_pos c7] at h
        subst c7
        cases h
        exact w_catch hC hT [.int v1, .int v2] [.int (0 : Int32), .ref 219] [(0, 10, 13, 24)] [] (0, 10, 17, 13) (2 : Int32) 2 4 (ok_X10_fill hl q3) mv_X10_fill aw_965 ly_0 rfl (Nat.le_of_ble_eq_true rfl) ⟨by decide, by decide⟩ ⟨by decide, by decide⟩ dL_fill_5 (by decide) (by decide) rfl (fun z hz => by rw [List.mem_singleton] at hz; subst hz; exact ⟨⟨by decide, by decide⟩, by decide, "java/lang/IndexOutOfBoundsException", aw_837, by decide +kernel⟩) (by decide) (by decide) (by decide) aw_578 (by decide +kernel) rfl (ltk rfl) (Or.inr ⟨dL_fill_17, dL_fill_19, dL_fill_20⟩)
      · rw [if_neg c7] at h
        cases h
theorem mh_L_fill : am_MH yL_fill cL_fill 5 [(0, 10, 13, 24), (0, 10, 17, 13)] 4 := ⟨aw_964, aw_0, ⟨by decide, by decide⟩, by decide +kernel, aw_963⟩
def f_L_change (N : Nat) (v1 v2 : Int32) (M : Mm) : Option (Int32 × Mm) :=
  bnx (f_X10_change N v1 v2 M) (fun r1 M2 => grd (inb (0 : Int32) 1) (lt (wr M2 219 ((0 : Int32)).toNatClampNeg r1) (fun M5 => some ((0 : Int32), M5)))) (fun r1 M2 => (if r1 = "java/lang/IndexOutOfBoundsException" then some ((1 : Int32), M2) else (if r1 = "java/lang/IllegalArgumentException" then some ((2 : Int32), M2) else none)))
set_option maxRecDepth 20000 in
set_option maxHeartbeats 4000000 in
theorem ok_L_change {l : Launch} {N : Nat} {v1 v2 : Int32} {M : Mm} {r : Int32} {M' : Mm} (hl : l.stackTraces = false) (h : f_L_change N v1 v2 M = some (r, M')) : am_H l yL_change cL_change 5 [(0, 10, 13, 24), (0, 10, 17, 13)] 8 3 18 LY M [.ref 0, .int v1, .int v2, .ref 219] (.inl (some (.int r))) M' := by
  unfold f_L_change at h
  refine am_introH (by decide) (by simp [Value.category]) (Nat.le_of_ble_eq_true rfl) (fun X hC hT => ?_)
  refine am_start (L := [some (.ref 0), some (.int v1), some (.int v2), some (.ref 219), none]) rfl ?_
  refine v_aload_n hC dL_change_0 rfl ?_
  refine v_iconst (v := (0 : Int32)) hC dL_change_1 rfl ?_
  refine v_aload_n hC dL_change_2 rfl ?_
  refine v_iload_n hC dL_change_3 rfl ?_
  refine v_iload_n hC dL_change_4 rfl ?_
  rcases bnx_some h with ⟨r1, M2, q3, h⟩ | ⟨r1, M2, q3, h⟩
  · refine w_callVi hC [.int v1, .int v2] [.int (0 : Int32), .ref 219] (ok_X10_change hl q3) mv_X10_change aw_977 ly_0 rfl (Nat.le_of_ble_eq_true rfl) ⟨by decide, by decide⟩ ⟨by decide, by decide⟩ dL_change_5 ?_
    refine v_i2l hC dL_change_8 ?_
    obtain ⟨g4, h⟩ := grd_some h
    obtain ⟨M5, e_M5, h⟩ := lt_some h
    refine w_last hC rfl ly_219 (inb_in g4) dL_change_9 e_M5 ?_
    refine v_goto (tg := 21) hC dL_change_10 rfl ?_
    refine v_iconst (v := (0 : Int32)) hC dL_change_21 rfl ?_
    cases h
    exact v_iret hC (by decide) (by decide) dL_change_22
  · by_cases c6 : r1 = "java/lang/IndexOutOfBoundsException"
    · rw [if_pos c6] at h
      subst c6
      cases h
      exact w_catch hC hT [.int v1, .int v2] [.int (0 : Int32), .ref 219] [] [(0, 10, 17, 13)] (0, 10, 13, 24) (1 : Int32) 1 4 (ok_X10_change hl q3) mv_X10_change aw_977 ly_0 rfl (Nat.le_of_ble_eq_true rfl) ⟨by decide, by decide⟩ ⟨by decide, by decide⟩ dL_change_5 (by decide) (by decide) rfl (fun z hz => nomatch hz) (by decide) (by decide) (by decide) aw_837 (by decide +kernel) rfl (ltk rfl) (Or.inr ⟨dL_change_13, dL_change_15, dL_change_16⟩)
    · rw [if_neg c6] at h
      by_cases c7 : r1 = "java/lang/IllegalArgumentException"
      · rw [if_pos c7] at h
        subst c7
        cases h
        exact w_catch hC hT [.int v1, .int v2] [.int (0 : Int32), .ref 219] [(0, 10, 13, 24)] [] (0, 10, 17, 13) (2 : Int32) 2 4 (ok_X10_change hl q3) mv_X10_change aw_977 ly_0 rfl (Nat.le_of_ble_eq_true rfl) ⟨by decide, by decide⟩ ⟨by decide, by decide⟩ dL_change_5 (by decide) (by decide) rfl (fun z hz => by rw [List.mem_singleton] at hz; subst hz; exact ⟨⟨by decide, by decide⟩, by decide, "java/lang/IndexOutOfBoundsException", aw_837, by decide +kernel⟩) (by decide) (by decide) (by decide) aw_578 (by decide +kernel) rfl (ltk rfl) (Or.inr ⟨dL_change_17, dL_change_19, dL_change_20⟩)
      · rw [if_neg c7] at h
        cases h
theorem mh_L_change : am_MH yL_change cL_change 5 [(0, 10, 13, 24), (0, 10, 17, 13)] 4 := ⟨aw_976, aw_0, ⟨by decide, by decide⟩, by decide +kernel, aw_975⟩
def f_L_diet (N : Nat) (v1 v2 : Int32) (M : Mm) : Option (Int32 × Mm) :=
  bnx (f_X10_diet N v1 v2 M) (fun r1 M2 => (if r1 = (0 : Int32) then grd (inb (0 : Int32) 1) (lt (wr M2 219 ((0 : Int32)).toNatClampNeg (0 : Int32)) (fun M6 => some ((0 : Int32), M6))) else grd (inb (0 : Int32) 1) (lt (wr M2 219 ((0 : Int32)).toNatClampNeg (1 : Int32)) (fun M8 => some ((0 : Int32), M8))))) (fun r1 M2 => (if r1 = "java/lang/IndexOutOfBoundsException" then some ((1 : Int32), M2) else none))
set_option maxRecDepth 20000 in
set_option maxHeartbeats 4000000 in
theorem ok_L_diet {l : Launch} {N : Nat} {v1 v2 : Int32} {M : Mm} {r : Int32} {M' : Mm} (hl : l.stackTraces = false) (h : f_L_diet N v1 v2 M = some (r, M')) : am_H l yL_diet cL_diet 5 [(0, 17, 20, 24)] 8 1 6 LY M [.ref 0, .int v1, .int v2, .ref 219] (.inl (some (.int r))) M' := by
  unfold f_L_diet at h
  refine am_introH (by decide) (by simp [Value.category]) (Nat.le_of_ble_eq_true rfl) (fun X hC hT => ?_)
  refine am_start (L := [some (.ref 0), some (.int v1), some (.int v2), some (.ref 219), none]) rfl ?_
  refine v_aload_n hC dL_diet_0 rfl ?_
  refine v_iconst (v := (0 : Int32)) hC dL_diet_1 rfl ?_
  refine v_aload_n hC dL_diet_2 rfl ?_
  refine v_iload_n hC dL_diet_3 rfl ?_
  refine v_iload_n hC dL_diet_4 rfl ?_
  rcases bnx_some h with ⟨r1, M2, q3, h⟩ | ⟨r1, M2, q3, h⟩
  · refine w_callVi hC [.int v1, .int v2] [.int (0 : Int32), .ref 219] (ok_X10_diet hl q3) mv_X10_diet aw_985 ly_0 rfl (Nat.le_of_ble_eq_true rfl) ⟨by decide, by decide⟩ ⟨by decide, by decide⟩ dL_diet_5 ?_
    refine v_if_eq hC 15 dL_diet_8 rfl (fun c4 => ?_) (fun c4 => ?_)
    · rw [if_pos c4] at h
      refine v_lconst (v := (0 : Int64)) hC dL_diet_15 rfl ?_
      obtain ⟨g5, h⟩ := grd_some h
      obtain ⟨M6, e_M6, h⟩ := lt_some h
      refine w_last hC rfl ly_219 (inb_in g5) dL_diet_16 e_M6 ?_
      refine v_goto (tg := 24) hC dL_diet_17 rfl ?_
      refine v_iconst (v := (0 : Int32)) hC dL_diet_24 rfl ?_
      cases h
      exact v_iret hC (by decide) (by decide) dL_diet_25
    · rw [if_neg c4] at h
      refine v_lconst (v := (1 : Int64)) hC dL_diet_11 rfl ?_
      refine v_goto (tg := 16) hC dL_diet_12 rfl ?_
      obtain ⟨g7, h⟩ := grd_some h
      obtain ⟨M8, e_M8, h⟩ := lt_some h
      refine w_last hC rfl ly_219 (inb_in g7) dL_diet_16 e_M8 ?_
      refine v_goto (tg := 24) hC dL_diet_17 rfl ?_
      refine v_iconst (v := (0 : Int32)) hC dL_diet_24 rfl ?_
      cases h
      exact v_iret hC (by decide) (by decide) dL_diet_25
  · by_cases c9 : r1 = "java/lang/IndexOutOfBoundsException"
    · rw [if_pos c9] at h
      subst c9
      cases h
      exact w_catch hC hT [.int v1, .int v2] [.int (0 : Int32), .ref 219] [] [] (0, 17, 20, 24) (1 : Int32) 1 4 (ok_X10_diet hl q3) mv_X10_diet aw_985 ly_0 rfl (Nat.le_of_ble_eq_true rfl) ⟨by decide, by decide⟩ ⟨by decide, by decide⟩ dL_diet_5 (by decide) (by decide) rfl (fun z hz => nomatch hz) (by decide) (by decide) (by decide) aw_837 (by decide +kernel) rfl (ltk rfl) (Or.inr ⟨dL_diet_20, dL_diet_22, dL_diet_23⟩)
    · rw [if_neg c9] at h
      cases h
theorem mh_L_diet : am_MH yL_diet cL_diet 5 [(0, 17, 20, 24)] 4 := ⟨aw_984, aw_0, ⟨by decide, by decide⟩, by decide +kernel, aw_983⟩
def f_L_sweet (N : Nat) (v1 v2 : Int32) (M : Mm) : Option (Int32 × Mm) :=
  bnx (f_X10_sweet N v1 v2 M) (fun r1 M2 => (if r1 = (0 : Int32) then grd (inb (0 : Int32) 1) (lt (wr M2 219 ((0 : Int32)).toNatClampNeg (0 : Int32)) (fun M6 => some ((0 : Int32), M6))) else grd (inb (0 : Int32) 1) (lt (wr M2 219 ((0 : Int32)).toNatClampNeg (1 : Int32)) (fun M8 => some ((0 : Int32), M8))))) (fun r1 M2 => (if r1 = "java/lang/IndexOutOfBoundsException" then some ((1 : Int32), M2) else none))
set_option maxRecDepth 20000 in
set_option maxHeartbeats 4000000 in
theorem ok_L_sweet {l : Launch} {N : Nat} {v1 v2 : Int32} {M : Mm} {r : Int32} {M' : Mm} (hl : l.stackTraces = false) (h : f_L_sweet N v1 v2 M = some (r, M')) : am_H l yL_sweet cL_sweet 5 [(0, 17, 20, 24)] 7 1 6 LY M [.ref 0, .int v1, .int v2, .ref 219] (.inl (some (.int r))) M' := by
  unfold f_L_sweet at h
  refine am_introH (by decide) (by simp [Value.category]) (Nat.le_of_ble_eq_true rfl) (fun X hC hT => ?_)
  refine am_start (L := [some (.ref 0), some (.int v1), some (.int v2), some (.ref 219), none]) rfl ?_
  refine v_aload_n hC dL_sweet_0 rfl ?_
  refine v_iconst (v := (0 : Int32)) hC dL_sweet_1 rfl ?_
  refine v_aload_n hC dL_sweet_2 rfl ?_
  refine v_iload_n hC dL_sweet_3 rfl ?_
  refine v_iload_n hC dL_sweet_4 rfl ?_
  rcases bnx_some h with ⟨r1, M2, q3, h⟩ | ⟨r1, M2, q3, h⟩
  · refine w_callVi hC [.int v1, .int v2] [.int (0 : Int32), .ref 219] (ok_X10_sweet hl q3) mv_X10_sweet aw_992 ly_0 rfl (Nat.le_of_ble_eq_true rfl) ⟨by decide, by decide⟩ ⟨by decide, by decide⟩ dL_sweet_5 ?_
    refine v_if_eq hC 15 dL_sweet_8 rfl (fun c4 => ?_) (fun c4 => ?_)
    · rw [if_pos c4] at h
      refine v_lconst (v := (0 : Int64)) hC dL_sweet_15 rfl ?_
      obtain ⟨g5, h⟩ := grd_some h
      obtain ⟨M6, e_M6, h⟩ := lt_some h
      refine w_last hC rfl ly_219 (inb_in g5) dL_sweet_16 e_M6 ?_
      refine v_goto (tg := 24) hC dL_sweet_17 rfl ?_
      refine v_iconst (v := (0 : Int32)) hC dL_sweet_24 rfl ?_
      cases h
      exact v_iret hC (by decide) (by decide) dL_sweet_25
    · rw [if_neg c4] at h
      refine v_lconst (v := (1 : Int64)) hC dL_sweet_11 rfl ?_
      refine v_goto (tg := 16) hC dL_sweet_12 rfl ?_
      obtain ⟨g7, h⟩ := grd_some h
      obtain ⟨M8, e_M8, h⟩ := lt_some h
      refine w_last hC rfl ly_219 (inb_in g7) dL_sweet_16 e_M8 ?_
      refine v_goto (tg := 24) hC dL_sweet_17 rfl ?_
      refine v_iconst (v := (0 : Int32)) hC dL_sweet_24 rfl ?_
      cases h
      exact v_iret hC (by decide) (by decide) dL_sweet_25
  · by_cases c9 : r1 = "java/lang/IndexOutOfBoundsException"
    · rw [if_pos c9] at h
      subst c9
      cases h
      exact w_catch hC hT [.int v1, .int v2] [.int (0 : Int32), .ref 219] [] [] (0, 17, 20, 24) (1 : Int32) 1 4 (ok_X10_sweet hl q3) mv_X10_sweet aw_992 ly_0 rfl (Nat.le_of_ble_eq_true rfl) ⟨by decide, by decide⟩ ⟨by decide, by decide⟩ dL_sweet_5 (by decide) (by decide) rfl (fun z hz => nomatch hz) (by decide) (by decide) (by decide) aw_837 (by decide +kernel) rfl (ltk rfl) (Or.inr ⟨dL_sweet_20, dL_sweet_22, dL_sweet_23⟩)
    · rw [if_neg c9] at h
      cases h
theorem mh_L_sweet : am_MH yL_sweet cL_sweet 5 [(0, 17, 20, 24)] 4 := ⟨aw_991, aw_0, ⟨by decide, by decide⟩, by decide +kernel, aw_990⟩
def f_L_courses (N : Nat) (v1 : Int32) (M : Mm) : Option (Int32 × Mm) :=
  bnx (f_X10_courses N v1 M) (fun r1 M2 => grd (inb (0 : Int32) 1) (lt (wr M2 219 ((0 : Int32)).toNatClampNeg r1) (fun M5 => some ((0 : Int32), M5)))) (fun r1 M2 => (if r1 = "java/lang/IllegalArgumentException" then some ((1 : Int32), M2) else none))
set_option maxRecDepth 20000 in
set_option maxHeartbeats 4000000 in
theorem ok_L_courses {l : Launch} {N : Nat} {v1 : Int32} {M : Mm} {r : Int32} {M' : Mm} (hl : l.stackTraces = false) (h : f_L_courses N v1 M = some (r, M')) : am_H l yL_courses cL_courses 4 [(0, 9, 12, 13)] 8 1 6 LY M [.ref 0, .int v1, .ref 219] (.inl (some (.int r))) M' := by
  unfold f_L_courses at h
  refine am_introH (by decide) (by simp [Value.category]) (Nat.le_of_ble_eq_true rfl) (fun X hC hT => ?_)
  refine am_start (L := [some (.ref 0), some (.int v1), some (.ref 219), none]) rfl ?_
  refine v_aload_n hC dL_courses_0 rfl ?_
  refine v_iconst (v := (0 : Int32)) hC dL_courses_1 rfl ?_
  refine v_aload_n hC dL_courses_2 rfl ?_
  refine v_iload_n hC dL_courses_3 rfl ?_
  rcases bnx_some h with ⟨r1, M2, q3, h⟩ | ⟨r1, M2, q3, h⟩
  · refine w_callVi hC [.int v1] [.int (0 : Int32), .ref 219] (ok_X10_courses hl q3) mv_X10_courses aw_1001 ly_0 rfl (Nat.le_of_ble_eq_true rfl) ⟨by decide, by decide⟩ ⟨by decide, by decide⟩ dL_courses_4 ?_
    refine v_i2l hC dL_courses_7 ?_
    obtain ⟨g4, h⟩ := grd_some h
    obtain ⟨M5, e_M5, h⟩ := lt_some h
    refine w_last hC rfl ly_219 (inb_in g4) dL_courses_8 e_M5 ?_
    refine v_goto (tg := 15) hC dL_courses_9 rfl ?_
    refine v_iconst (v := (0 : Int32)) hC dL_courses_15 rfl ?_
    cases h
    exact v_iret hC (by decide) (by decide) dL_courses_16
  · by_cases c6 : r1 = "java/lang/IllegalArgumentException"
    · rw [if_pos c6] at h
      subst c6
      cases h
      exact w_catch hC hT [.int v1] [.int (0 : Int32), .ref 219] [] [] (0, 9, 12, 13) (1 : Int32) 1 3 (ok_X10_courses hl q3) mv_X10_courses aw_1001 ly_0 rfl (Nat.le_of_ble_eq_true rfl) ⟨by decide, by decide⟩ ⟨by decide, by decide⟩ dL_courses_4 (by decide) (by decide) rfl (fun z hz => nomatch hz) (by decide) (by decide) (by decide) aw_578 (by decide +kernel) rfl (ltk rfl) (Or.inl ⟨3, rfl, dL_courses_12, dL_courses_13, dL_courses_14⟩)
    · rw [if_neg c6] at h
      cases h
theorem mh_L_courses : am_MH yL_courses cL_courses 4 [(0, 9, 12, 13)] 3 := ⟨aw_1000, aw_0, ⟨by decide, by decide⟩, by decide +kernel, aw_999⟩
def f_L_frees (N : Nat) (v1 : Int32) (M : Mm) : Option (Int32 × Mm) :=
  bnx (f_X10_frees N v1 M) (fun r1 M2 => grd (inb (0 : Int32) 1) (lt (wr M2 219 ((0 : Int32)).toNatClampNeg r1) (fun M5 => some ((0 : Int32), M5)))) (fun r1 M2 => (if r1 = "java/lang/IndexOutOfBoundsException" then some ((1 : Int32), M2) else none))
set_option maxRecDepth 20000 in
set_option maxHeartbeats 4000000 in
theorem ok_L_frees {l : Launch} {N : Nat} {v1 : Int32} {M : Mm} {r : Int32} {M' : Mm} (hl : l.stackTraces = false) (h : f_L_frees N v1 M = some (r, M')) : am_H l yL_frees cL_frees 4 [(0, 9, 12, 24)] 9 1 6 LY M [.ref 0, .int v1, .ref 219] (.inl (some (.int r))) M' := by
  unfold f_L_frees at h
  refine am_introH (by decide) (by simp [Value.category]) (Nat.le_of_ble_eq_true rfl) (fun X hC hT => ?_)
  refine am_start (L := [some (.ref 0), some (.int v1), some (.ref 219), none]) rfl ?_
  refine v_aload_n hC dL_frees_0 rfl ?_
  refine v_iconst (v := (0 : Int32)) hC dL_frees_1 rfl ?_
  refine v_aload_n hC dL_frees_2 rfl ?_
  refine v_iload_n hC dL_frees_3 rfl ?_
  rcases bnx_some h with ⟨r1, M2, q3, h⟩ | ⟨r1, M2, q3, h⟩
  · refine w_callVi hC [.int v1] [.int (0 : Int32), .ref 219] (ok_X10_frees hl q3) mv_X10_frees aw_1027 ly_0 rfl (Nat.le_of_ble_eq_true rfl) ⟨by decide, by decide⟩ ⟨by decide, by decide⟩ dL_frees_4 ?_
    refine v_i2l hC dL_frees_7 ?_
    obtain ⟨g4, h⟩ := grd_some h
    obtain ⟨M5, e_M5, h⟩ := lt_some h
    refine w_last hC rfl ly_219 (inb_in g4) dL_frees_8 e_M5 ?_
    refine v_goto (tg := 15) hC dL_frees_9 rfl ?_
    refine v_iconst (v := (0 : Int32)) hC dL_frees_15 rfl ?_
    cases h
    exact v_iret hC (by decide) (by decide) dL_frees_16
  · by_cases c6 : r1 = "java/lang/IndexOutOfBoundsException"
    · rw [if_pos c6] at h
      subst c6
      cases h
      exact w_catch hC hT [.int v1] [.int (0 : Int32), .ref 219] [] [] (0, 9, 12, 24) (1 : Int32) 1 3 (ok_X10_frees hl q3) mv_X10_frees aw_1027 ly_0 rfl (Nat.le_of_ble_eq_true rfl) ⟨by decide, by decide⟩ ⟨by decide, by decide⟩ dL_frees_4 (by decide) (by decide) rfl (fun z hz => nomatch hz) (by decide) (by decide) (by decide) aw_837 (by decide +kernel) rfl (ltk rfl) (Or.inl ⟨3, rfl, dL_frees_12, dL_frees_13, dL_frees_14⟩)
    · rw [if_neg c6] at h
      cases h
theorem mh_L_frees : am_MH yL_frees cL_frees 4 [(0, 9, 12, 24)] 3 := ⟨aw_1026, aw_0, ⟨by decide, by decide⟩, by decide +kernel, aw_1025⟩
def f_L_takes (N : Nat) (v1 v2 : Int32) (M : Mm) : Option (Int32 × Mm) :=
  bnx (f_X10_takes N v1 v2 M) (fun r1 M2 => grd (inb (0 : Int32) 1) (lt (wr M2 219 ((0 : Int32)).toNatClampNeg r1) (fun M5 => some ((0 : Int32), M5)))) (fun r1 M2 => (if r1 = "java/lang/IndexOutOfBoundsException" then some ((1 : Int32), M2) else (if r1 = "java/lang/IllegalArgumentException" then some ((2 : Int32), M2) else none)))
set_option maxRecDepth 20000 in
set_option maxHeartbeats 4000000 in
theorem ok_L_takes {l : Launch} {N : Nat} {v1 v2 : Int32} {M : Mm} {r : Int32} {M' : Mm} (hl : l.stackTraces = false) (h : f_L_takes N v1 v2 M = some (r, M')) : am_H l yL_takes cL_takes 5 [(0, 10, 13, 24), (0, 10, 17, 13)] 9 2 12 LY M [.ref 0, .int v1, .int v2, .ref 219] (.inl (some (.int r))) M' := by
  unfold f_L_takes at h
  refine am_introH (by decide) (by simp [Value.category]) (Nat.le_of_ble_eq_true rfl) (fun X hC hT => ?_)
  refine am_start (L := [some (.ref 0), some (.int v1), some (.int v2), some (.ref 219), none]) rfl ?_
  refine v_aload_n hC dL_takes_0 rfl ?_
  refine v_iconst (v := (0 : Int32)) hC dL_takes_1 rfl ?_
  refine v_aload_n hC dL_takes_2 rfl ?_
  refine v_iload_n hC dL_takes_3 rfl ?_
  refine v_iload_n hC dL_takes_4 rfl ?_
  rcases bnx_some h with ⟨r1, M2, q3, h⟩ | ⟨r1, M2, q3, h⟩
  · refine w_callVi hC [.int v1, .int v2] [.int (0 : Int32), .ref 219] (ok_X10_takes hl q3) mv_X10_takes aw_1034 ly_0 rfl (Nat.le_of_ble_eq_true rfl) ⟨by decide, by decide⟩ ⟨by decide, by decide⟩ dL_takes_5 ?_
    refine v_i2l hC dL_takes_8 ?_
    obtain ⟨g4, h⟩ := grd_some h
    obtain ⟨M5, e_M5, h⟩ := lt_some h
    refine w_last hC rfl ly_219 (inb_in g4) dL_takes_9 e_M5 ?_
    refine v_goto (tg := 21) hC dL_takes_10 rfl ?_
    refine v_iconst (v := (0 : Int32)) hC dL_takes_21 rfl ?_
    cases h
    exact v_iret hC (by decide) (by decide) dL_takes_22
  · by_cases c6 : r1 = "java/lang/IndexOutOfBoundsException"
    · rw [if_pos c6] at h
      subst c6
      cases h
      exact w_catch hC hT [.int v1, .int v2] [.int (0 : Int32), .ref 219] [] [(0, 10, 17, 13)] (0, 10, 13, 24) (1 : Int32) 1 4 (ok_X10_takes hl q3) mv_X10_takes aw_1034 ly_0 rfl (Nat.le_of_ble_eq_true rfl) ⟨by decide, by decide⟩ ⟨by decide, by decide⟩ dL_takes_5 (by decide) (by decide) rfl (fun z hz => nomatch hz) (by decide) (by decide) (by decide) aw_837 (by decide +kernel) rfl (ltk rfl) (Or.inr ⟨dL_takes_13, dL_takes_15, dL_takes_16⟩)
    · rw [if_neg c6] at h
      by_cases c7 : r1 = "java/lang/IllegalArgumentException"
      · rw [if_pos c7] at h
        subst c7
        cases h
        exact w_catch hC hT [.int v1, .int v2] [.int (0 : Int32), .ref 219] [(0, 10, 13, 24)] [] (0, 10, 17, 13) (2 : Int32) 2 4 (ok_X10_takes hl q3) mv_X10_takes aw_1034 ly_0 rfl (Nat.le_of_ble_eq_true rfl) ⟨by decide, by decide⟩ ⟨by decide, by decide⟩ dL_takes_5 (by decide) (by decide) rfl (fun z hz => by rw [List.mem_singleton] at hz; subst hz; exact ⟨⟨by decide, by decide⟩, by decide, "java/lang/IndexOutOfBoundsException", aw_837, by decide +kernel⟩) (by decide) (by decide) (by decide) aw_578 (by decide +kernel) rfl (ltk rfl) (Or.inr ⟨dL_takes_17, dL_takes_19, dL_takes_20⟩)
      · rw [if_neg c7] at h
        cases h
theorem mh_L_takes : am_MH yL_takes cL_takes 5 [(0, 10, 13, 24), (0, 10, 17, 13)] 4 := ⟨aw_1033, aw_0, ⟨by decide, by decide⟩, by decide +kernel, aw_1032⟩
def f_L_keenest (N : Nat) (v1 : Int32) (M : Mm) : Option (Int32 × Mm) :=
  bnx (f_X10_keenest N v1 M) (fun r1 M2 => grd (inb (0 : Int32) 1) (lt (wr M2 219 ((0 : Int32)).toNatClampNeg r1) (fun M5 => some ((0 : Int32), M5)))) (fun r1 M2 => (if r1 = "java/lang/IllegalArgumentException" then some ((1 : Int32), M2) else none))
set_option maxRecDepth 20000 in
set_option maxHeartbeats 4000000 in
theorem ok_L_keenest {l : Launch} {N : Nat} {v1 : Int32} {M : Mm} {r : Int32} {M' : Mm} (hl : l.stackTraces = false) (h : f_L_keenest N v1 M = some (r, M')) : am_H l yL_keenest cL_keenest 4 [(0, 9, 12, 13)] 9 1 6 LY M [.ref 0, .int v1, .ref 219] (.inl (some (.int r))) M' := by
  unfold f_L_keenest at h
  refine am_introH (by decide) (by simp [Value.category]) (Nat.le_of_ble_eq_true rfl) (fun X hC hT => ?_)
  refine am_start (L := [some (.ref 0), some (.int v1), some (.ref 219), none]) rfl ?_
  refine v_aload_n hC dL_keenest_0 rfl ?_
  refine v_iconst (v := (0 : Int32)) hC dL_keenest_1 rfl ?_
  refine v_aload_n hC dL_keenest_2 rfl ?_
  refine v_iload_n hC dL_keenest_3 rfl ?_
  rcases bnx_some h with ⟨r1, M2, q3, h⟩ | ⟨r1, M2, q3, h⟩
  · refine w_callVi hC [.int v1] [.int (0 : Int32), .ref 219] (ok_X10_keenest hl q3) mv_X10_keenest aw_1045 ly_0 rfl (Nat.le_of_ble_eq_true rfl) ⟨by decide, by decide⟩ ⟨by decide, by decide⟩ dL_keenest_4 ?_
    refine v_i2l hC dL_keenest_7 ?_
    obtain ⟨g4, h⟩ := grd_some h
    obtain ⟨M5, e_M5, h⟩ := lt_some h
    refine w_last hC rfl ly_219 (inb_in g4) dL_keenest_8 e_M5 ?_
    refine v_goto (tg := 15) hC dL_keenest_9 rfl ?_
    refine v_iconst (v := (0 : Int32)) hC dL_keenest_15 rfl ?_
    cases h
    exact v_iret hC (by decide) (by decide) dL_keenest_16
  · by_cases c6 : r1 = "java/lang/IllegalArgumentException"
    · rw [if_pos c6] at h
      subst c6
      cases h
      exact w_catch hC hT [.int v1] [.int (0 : Int32), .ref 219] [] [] (0, 9, 12, 13) (1 : Int32) 1 3 (ok_X10_keenest hl q3) mv_X10_keenest aw_1045 ly_0 rfl (Nat.le_of_ble_eq_true rfl) ⟨by decide, by decide⟩ ⟨by decide, by decide⟩ dL_keenest_4 (by decide) (by decide) rfl (fun z hz => nomatch hz) (by decide) (by decide) (by decide) aw_578 (by decide +kernel) rfl (ltk rfl) (Or.inl ⟨3, rfl, dL_keenest_12, dL_keenest_13, dL_keenest_14⟩)
    · rw [if_neg c6] at h
      cases h
theorem mh_L_keenest : am_MH yL_keenest cL_keenest 4 [(0, 9, 12, 13)] 3 := ⟨aw_1044, aw_0, ⟨by decide, by decide⟩, by decide +kernel, aw_1043⟩
def f_L_goes (N : Nat) (v1 v2 : Int32) (M : Mm) : Option (Int32 × Mm) :=
  bnx (f_X10_goes N v1 v2 M) (fun r1 M2 => grd (inb (0 : Int32) 1) (lt (wr M2 219 ((0 : Int32)).toNatClampNeg r1) (fun M5 => some ((0 : Int32), M5)))) (fun r1 M2 => (if r1 = "java/lang/IndexOutOfBoundsException" then some ((1 : Int32), M2) else (if r1 = "java/lang/IllegalArgumentException" then some ((2 : Int32), M2) else none)))
set_option maxRecDepth 20000 in
set_option maxHeartbeats 4000000 in
theorem ok_L_goes {l : Launch} {N : Nat} {v1 v2 : Int32} {M : Mm} {r : Int32} {M' : Mm} (hl : l.stackTraces = false) (h : f_L_goes N v1 v2 M = some (r, M')) : am_H l yL_goes cL_goes 5 [(0, 10, 13, 24), (0, 10, 17, 13)] 8 2 12 LY M [.ref 0, .int v1, .int v2, .ref 219] (.inl (some (.int r))) M' := by
  unfold f_L_goes at h
  refine am_introH (by decide) (by simp [Value.category]) (Nat.le_of_ble_eq_true rfl) (fun X hC hT => ?_)
  refine am_start (L := [some (.ref 0), some (.int v1), some (.int v2), some (.ref 219), none]) rfl ?_
  refine v_aload_n hC dL_goes_0 rfl ?_
  refine v_iconst (v := (0 : Int32)) hC dL_goes_1 rfl ?_
  refine v_aload_n hC dL_goes_2 rfl ?_
  refine v_iload_n hC dL_goes_3 rfl ?_
  refine v_iload_n hC dL_goes_4 rfl ?_
  rcases bnx_some h with ⟨r1, M2, q3, h⟩ | ⟨r1, M2, q3, h⟩
  · refine w_callVi hC [.int v1, .int v2] [.int (0 : Int32), .ref 219] (ok_X10_goes hl q3) mv_X10_goes aw_1052 ly_0 rfl (Nat.le_of_ble_eq_true rfl) ⟨by decide, by decide⟩ ⟨by decide, by decide⟩ dL_goes_5 ?_
    refine v_i2l hC dL_goes_8 ?_
    obtain ⟨g4, h⟩ := grd_some h
    obtain ⟨M5, e_M5, h⟩ := lt_some h
    refine w_last hC rfl ly_219 (inb_in g4) dL_goes_9 e_M5 ?_
    refine v_goto (tg := 21) hC dL_goes_10 rfl ?_
    refine v_iconst (v := (0 : Int32)) hC dL_goes_21 rfl ?_
    cases h
    exact v_iret hC (by decide) (by decide) dL_goes_22
  · by_cases c6 : r1 = "java/lang/IndexOutOfBoundsException"
    · rw [if_pos c6] at h
      subst c6
      cases h
      exact w_catch hC hT [.int v1, .int v2] [.int (0 : Int32), .ref 219] [] [(0, 10, 17, 13)] (0, 10, 13, 24) (1 : Int32) 1 4 (ok_X10_goes hl q3) mv_X10_goes aw_1052 ly_0 rfl (Nat.le_of_ble_eq_true rfl) ⟨by decide, by decide⟩ ⟨by decide, by decide⟩ dL_goes_5 (by decide) (by decide) rfl (fun z hz => nomatch hz) (by decide) (by decide) (by decide) aw_837 (by decide +kernel) rfl (ltk rfl) (Or.inr ⟨dL_goes_13, dL_goes_15, dL_goes_16⟩)
    · rw [if_neg c6] at h
      by_cases c7 : r1 = "java/lang/IllegalArgumentException"
      · rw [if_pos c7] at h
        subst c7
        cases h
        exact w_catch hC hT [.int v1, .int v2] [.int (0 : Int32), .ref 219] [(0, 10, 13, 24)] [] (0, 10, 17, 13) (2 : Int32) 2 4 (ok_X10_goes hl q3) mv_X10_goes aw_1052 ly_0 rfl (Nat.le_of_ble_eq_true rfl) ⟨by decide, by decide⟩ ⟨by decide, by decide⟩ dL_goes_5 (by decide) (by decide) rfl (fun z hz => by rw [List.mem_singleton] at hz; subst hz; exact ⟨⟨by decide, by decide⟩, by decide, "java/lang/IndexOutOfBoundsException", aw_837, by decide +kernel⟩) (by decide) (by decide) (by decide) aw_578 (by decide +kernel) rfl (ltk rfl) (Or.inr ⟨dL_goes_17, dL_goes_19, dL_goes_20⟩)
      · rw [if_neg c7] at h
        cases h
theorem mh_L_goes : am_MH yL_goes cL_goes 5 [(0, 10, 13, 24), (0, 10, 17, 13)] 4 := ⟨aw_1051, aw_0, ⟨by decide, by decide⟩, by decide +kernel, aw_1050⟩
def f_L_ahead (N : Nat) (v1 v2 : Int32) (M : Mm) : Option (Int32 × Mm) :=
  bnx (f_X10_ahead N v1 v2 M) (fun r1 M2 => grd (inb (0 : Int32) 1) (lt (wr M2 219 ((0 : Int32)).toNatClampNeg r1) (fun M5 => some ((0 : Int32), M5)))) (fun r1 M2 => (if r1 = "java/lang/IndexOutOfBoundsException" then some ((1 : Int32), M2) else (if r1 = "java/lang/IllegalArgumentException" then some ((2 : Int32), M2) else none)))
set_option maxRecDepth 20000 in
set_option maxHeartbeats 4000000 in
theorem ok_L_ahead {l : Launch} {N : Nat} {v1 v2 : Int32} {M : Mm} {r : Int32} {M' : Mm} (hl : l.stackTraces = false) (h : f_L_ahead N v1 v2 M = some (r, M')) : am_H l yL_ahead cL_ahead 5 [(0, 10, 13, 24), (0, 10, 17, 13)] 9 2 12 LY M [.ref 0, .int v1, .int v2, .ref 219] (.inl (some (.int r))) M' := by
  unfold f_L_ahead at h
  refine am_introH (by decide) (by simp [Value.category]) (Nat.le_of_ble_eq_true rfl) (fun X hC hT => ?_)
  refine am_start (L := [some (.ref 0), some (.int v1), some (.int v2), some (.ref 219), none]) rfl ?_
  refine v_aload_n hC dL_ahead_0 rfl ?_
  refine v_iconst (v := (0 : Int32)) hC dL_ahead_1 rfl ?_
  refine v_aload_n hC dL_ahead_2 rfl ?_
  refine v_iload_n hC dL_ahead_3 rfl ?_
  refine v_iload_n hC dL_ahead_4 rfl ?_
  rcases bnx_some h with ⟨r1, M2, q3, h⟩ | ⟨r1, M2, q3, h⟩
  · refine w_callVi hC [.int v1, .int v2] [.int (0 : Int32), .ref 219] (ok_X10_ahead hl q3) mv_X10_ahead aw_1059 ly_0 rfl (Nat.le_of_ble_eq_true rfl) ⟨by decide, by decide⟩ ⟨by decide, by decide⟩ dL_ahead_5 ?_
    refine v_i2l hC dL_ahead_8 ?_
    obtain ⟨g4, h⟩ := grd_some h
    obtain ⟨M5, e_M5, h⟩ := lt_some h
    refine w_last hC rfl ly_219 (inb_in g4) dL_ahead_9 e_M5 ?_
    refine v_goto (tg := 21) hC dL_ahead_10 rfl ?_
    refine v_iconst (v := (0 : Int32)) hC dL_ahead_21 rfl ?_
    cases h
    exact v_iret hC (by decide) (by decide) dL_ahead_22
  · by_cases c6 : r1 = "java/lang/IndexOutOfBoundsException"
    · rw [if_pos c6] at h
      subst c6
      cases h
      exact w_catch hC hT [.int v1, .int v2] [.int (0 : Int32), .ref 219] [] [(0, 10, 17, 13)] (0, 10, 13, 24) (1 : Int32) 1 4 (ok_X10_ahead hl q3) mv_X10_ahead aw_1059 ly_0 rfl (Nat.le_of_ble_eq_true rfl) ⟨by decide, by decide⟩ ⟨by decide, by decide⟩ dL_ahead_5 (by decide) (by decide) rfl (fun z hz => nomatch hz) (by decide) (by decide) (by decide) aw_837 (by decide +kernel) rfl (ltk rfl) (Or.inr ⟨dL_ahead_13, dL_ahead_15, dL_ahead_16⟩)
    · rw [if_neg c6] at h
      by_cases c7 : r1 = "java/lang/IllegalArgumentException"
      · rw [if_pos c7] at h
        subst c7
        cases h
        exact w_catch hC hT [.int v1, .int v2] [.int (0 : Int32), .ref 219] [(0, 10, 13, 24)] [] (0, 10, 17, 13) (2 : Int32) 2 4 (ok_X10_ahead hl q3) mv_X10_ahead aw_1059 ly_0 rfl (Nat.le_of_ble_eq_true rfl) ⟨by decide, by decide⟩ ⟨by decide, by decide⟩ dL_ahead_5 (by decide) (by decide) rfl (fun z hz => by rw [List.mem_singleton] at hz; subst hz; exact ⟨⟨by decide, by decide⟩, by decide, "java/lang/IndexOutOfBoundsException", aw_837, by decide +kernel⟩) (by decide) (by decide) (by decide) aw_578 (by decide +kernel) rfl (ltk rfl) (Or.inr ⟨dL_ahead_17, dL_ahead_19, dL_ahead_20⟩)
      · rw [if_neg c7] at h
        cases h
theorem mh_L_ahead : am_MH yL_ahead cL_ahead 5 [(0, 10, 13, 24), (0, 10, 17, 13)] 4 := ⟨aw_1058, aw_0, ⟨by decide, by decide⟩, by decide +kernel, aw_1057⟩
def f_L_fewest (N : Nat) (v1 v2 : Int32) (M : Mm) : Option (Int32 × Mm) :=
  bnx (f_X10_fewest N v1 v2 M) (fun r1 M2 => grd (inb (0 : Int32) 1) (lt (wr M2 219 ((0 : Int32)).toNatClampNeg r1) (fun M5 => some ((0 : Int32), M5)))) (fun r1 M2 => (if r1 = "java/lang/IndexOutOfBoundsException" then some ((1 : Int32), M2) else (if r1 = "java/lang/IllegalArgumentException" then some ((2 : Int32), M2) else none)))
set_option maxRecDepth 20000 in
set_option maxHeartbeats 4000000 in
theorem ok_L_fewest {l : Launch} {N : Nat} {v1 v2 : Int32} {M : Mm} {r : Int32} {M' : Mm} (hl : l.stackTraces = false) (h : f_L_fewest N v1 v2 M = some (r, M')) : am_H l yL_fewest cL_fewest 5 [(0, 10, 13, 24), (0, 10, 17, 13)] 9 2 12 LY M [.ref 0, .int v1, .int v2, .ref 219] (.inl (some (.int r))) M' := by
  unfold f_L_fewest at h
  refine am_introH (by decide) (by simp [Value.category]) (Nat.le_of_ble_eq_true rfl) (fun X hC hT => ?_)
  refine am_start (L := [some (.ref 0), some (.int v1), some (.int v2), some (.ref 219), none]) rfl ?_
  refine v_aload_n hC dL_fewest_0 rfl ?_
  refine v_iconst (v := (0 : Int32)) hC dL_fewest_1 rfl ?_
  refine v_aload_n hC dL_fewest_2 rfl ?_
  refine v_iload_n hC dL_fewest_3 rfl ?_
  refine v_iload_n hC dL_fewest_4 rfl ?_
  rcases bnx_some h with ⟨r1, M2, q3, h⟩ | ⟨r1, M2, q3, h⟩
  · refine w_callVi hC [.int v1, .int v2] [.int (0 : Int32), .ref 219] (ok_X10_fewest hl q3) mv_X10_fewest aw_1066 ly_0 rfl (Nat.le_of_ble_eq_true rfl) ⟨by decide, by decide⟩ ⟨by decide, by decide⟩ dL_fewest_5 ?_
    refine v_i2l hC dL_fewest_8 ?_
    obtain ⟨g4, h⟩ := grd_some h
    obtain ⟨M5, e_M5, h⟩ := lt_some h
    refine w_last hC rfl ly_219 (inb_in g4) dL_fewest_9 e_M5 ?_
    refine v_goto (tg := 21) hC dL_fewest_10 rfl ?_
    refine v_iconst (v := (0 : Int32)) hC dL_fewest_21 rfl ?_
    cases h
    exact v_iret hC (by decide) (by decide) dL_fewest_22
  · by_cases c6 : r1 = "java/lang/IndexOutOfBoundsException"
    · rw [if_pos c6] at h
      subst c6
      cases h
      exact w_catch hC hT [.int v1, .int v2] [.int (0 : Int32), .ref 219] [] [(0, 10, 17, 13)] (0, 10, 13, 24) (1 : Int32) 1 4 (ok_X10_fewest hl q3) mv_X10_fewest aw_1066 ly_0 rfl (Nat.le_of_ble_eq_true rfl) ⟨by decide, by decide⟩ ⟨by decide, by decide⟩ dL_fewest_5 (by decide) (by decide) rfl (fun z hz => nomatch hz) (by decide) (by decide) (by decide) aw_837 (by decide +kernel) rfl (ltk rfl) (Or.inr ⟨dL_fewest_13, dL_fewest_15, dL_fewest_16⟩)
    · rw [if_neg c6] at h
      by_cases c7 : r1 = "java/lang/IllegalArgumentException"
      · rw [if_pos c7] at h
        subst c7
        cases h
        exact w_catch hC hT [.int v1, .int v2] [.int (0 : Int32), .ref 219] [(0, 10, 13, 24)] [] (0, 10, 17, 13) (2 : Int32) 2 4 (ok_X10_fewest hl q3) mv_X10_fewest aw_1066 ly_0 rfl (Nat.le_of_ble_eq_true rfl) ⟨by decide, by decide⟩ ⟨by decide, by decide⟩ dL_fewest_5 (by decide) (by decide) rfl (fun z hz => by rw [List.mem_singleton] at hz; subst hz; exact ⟨⟨by decide, by decide⟩, by decide, "java/lang/IndexOutOfBoundsException", aw_837, by decide +kernel⟩) (by decide) (by decide) (by decide) aw_578 (by decide +kernel) rfl (ltk rfl) (Or.inr ⟨dL_fewest_17, dL_fewest_19, dL_fewest_20⟩)
      · rw [if_neg c7] at h
        cases h
theorem mh_L_fewest : am_MH yL_fewest cL_fewest 5 [(0, 10, 13, 24), (0, 10, 17, 13)] 4 := ⟨aw_1065, aw_0, ⟨by decide, by decide⟩, by decide +kernel, aw_1064⟩
def f_L_bribes (N : Nat) (v1 : Int32) (M : Mm) : Option (Int32 × Mm) :=
  bnx (f_X10_bribes N v1 M) (fun r1 M2 => grd (inb (0 : Int32) 1) (lt (wr M2 219 ((0 : Int32)).toNatClampNeg r1) (fun M5 => some ((0 : Int32), M5)))) (fun r1 M2 => (if r1 = "java/lang/IllegalArgumentException" then some ((1 : Int32), M2) else none))
set_option maxRecDepth 20000 in
set_option maxHeartbeats 4000000 in
theorem ok_L_bribes {l : Launch} {N : Nat} {v1 : Int32} {M : Mm} {r : Int32} {M' : Mm} (hl : l.stackTraces = false) (h : f_L_bribes N v1 M = some (r, M')) : am_H l yL_bribes cL_bribes 4 [(0, 9, 12, 13)] 9 1 6 LY M [.ref 0, .int v1, .ref 219] (.inl (some (.int r))) M' := by
  unfold f_L_bribes at h
  refine am_introH (by decide) (by simp [Value.category]) (Nat.le_of_ble_eq_true rfl) (fun X hC hT => ?_)
  refine am_start (L := [some (.ref 0), some (.int v1), some (.ref 219), none]) rfl ?_
  refine v_aload_n hC dL_bribes_0 rfl ?_
  refine v_iconst (v := (0 : Int32)) hC dL_bribes_1 rfl ?_
  refine v_aload_n hC dL_bribes_2 rfl ?_
  refine v_iload_n hC dL_bribes_3 rfl ?_
  rcases bnx_some h with ⟨r1, M2, q3, h⟩ | ⟨r1, M2, q3, h⟩
  · refine w_callVi hC [.int v1] [.int (0 : Int32), .ref 219] (ok_X10_bribes hl q3) mv_X10_bribes aw_1073 ly_0 rfl (Nat.le_of_ble_eq_true rfl) ⟨by decide, by decide⟩ ⟨by decide, by decide⟩ dL_bribes_4 ?_
    refine v_i2l hC dL_bribes_7 ?_
    obtain ⟨g4, h⟩ := grd_some h
    obtain ⟨M5, e_M5, h⟩ := lt_some h
    refine w_last hC rfl ly_219 (inb_in g4) dL_bribes_8 e_M5 ?_
    refine v_goto (tg := 15) hC dL_bribes_9 rfl ?_
    refine v_iconst (v := (0 : Int32)) hC dL_bribes_15 rfl ?_
    cases h
    exact v_iret hC (by decide) (by decide) dL_bribes_16
  · by_cases c6 : r1 = "java/lang/IllegalArgumentException"
    · rw [if_pos c6] at h
      subst c6
      cases h
      exact w_catch hC hT [.int v1] [.int (0 : Int32), .ref 219] [] [] (0, 9, 12, 13) (1 : Int32) 1 3 (ok_X10_bribes hl q3) mv_X10_bribes aw_1073 ly_0 rfl (Nat.le_of_ble_eq_true rfl) ⟨by decide, by decide⟩ ⟨by decide, by decide⟩ dL_bribes_4 (by decide) (by decide) rfl (fun z hz => nomatch hz) (by decide) (by decide) (by decide) aw_578 (by decide +kernel) rfl (ltk rfl) (Or.inl ⟨3, rfl, dL_bribes_12, dL_bribes_13, dL_bribes_14⟩)
    · rw [if_neg c6] at h
      cases h
theorem mh_L_bribes : am_MH yL_bribes cL_bribes 4 [(0, 9, 12, 13)] 3 := ⟨aw_1072, aw_0, ⟨by decide, by decide⟩, by decide +kernel, aw_1071⟩
def f_L_ask (N : Nat) (v1 : Int32) (M : Mm) : Option (Int32 × Mm) :=
  bnx (f_X10_ask N v1 M) (fun r1 M2 => grd (inb (0 : Int32) 1) (lt (wr M2 219 ((0 : Int32)).toNatClampNeg r1) (fun M5 => some ((0 : Int32), M5)))) (fun r1 M2 => (if r1 = "java/lang/IllegalArgumentException" then some ((1 : Int32), M2) else none))
set_option maxRecDepth 20000 in
set_option maxHeartbeats 4000000 in
theorem ok_L_ask {l : Launch} {N : Nat} {v1 : Int32} {M : Mm} {r : Int32} {M' : Mm} (hl : l.stackTraces = false) (h : f_L_ask N v1 M = some (r, M')) : am_H l yL_ask cL_ask 4 [(0, 9, 12, 13)] 9 2 12 LY M [.ref 0, .int v1, .ref 219] (.inl (some (.int r))) M' := by
  unfold f_L_ask at h
  refine am_introH (by decide) (by simp [Value.category]) (Nat.le_of_ble_eq_true rfl) (fun X hC hT => ?_)
  refine am_start (L := [some (.ref 0), some (.int v1), some (.ref 219), none]) rfl ?_
  refine v_aload_n hC dL_ask_0 rfl ?_
  refine v_iconst (v := (0 : Int32)) hC dL_ask_1 rfl ?_
  refine v_aload_n hC dL_ask_2 rfl ?_
  refine v_iload_n hC dL_ask_3 rfl ?_
  rcases bnx_some h with ⟨r1, M2, q3, h⟩ | ⟨r1, M2, q3, h⟩
  · refine w_callVi hC [.int v1] [.int (0 : Int32), .ref 219] (ok_X10_ask hl q3) mv_X10_ask aw_1106 ly_0 rfl (Nat.le_of_ble_eq_true rfl) ⟨by decide, by decide⟩ ⟨by decide, by decide⟩ dL_ask_4 ?_
    refine v_i2l hC dL_ask_7 ?_
    obtain ⟨g4, h⟩ := grd_some h
    obtain ⟨M5, e_M5, h⟩ := lt_some h
    refine w_last hC rfl ly_219 (inb_in g4) dL_ask_8 e_M5 ?_
    refine v_goto (tg := 15) hC dL_ask_9 rfl ?_
    refine v_iconst (v := (0 : Int32)) hC dL_ask_15 rfl ?_
    cases h
    exact v_iret hC (by decide) (by decide) dL_ask_16
  · by_cases c6 : r1 = "java/lang/IllegalArgumentException"
    · rw [if_pos c6] at h
      subst c6
      cases h
      exact w_catch hC hT [.int v1] [.int (0 : Int32), .ref 219] [] [] (0, 9, 12, 13) (1 : Int32) 1 3 (ok_X10_ask hl q3) mv_X10_ask aw_1106 ly_0 rfl (Nat.le_of_ble_eq_true rfl) ⟨by decide, by decide⟩ ⟨by decide, by decide⟩ dL_ask_4 (by decide) (by decide) rfl (fun z hz => nomatch hz) (by decide) (by decide) (by decide) aw_578 (by decide +kernel) rfl (ltk rfl) (Or.inl ⟨3, rfl, dL_ask_12, dL_ask_13, dL_ask_14⟩)
    · rw [if_neg c6] at h
      cases h
theorem mh_L_ask : am_MH yL_ask cL_ask 4 [(0, 9, 12, 13)] 3 := ⟨aw_1105, aw_0, ⟨by decide, by decide⟩, by decide +kernel, aw_1104⟩
def f_L_worst (N : Nat) (v1 : Int32) (M : Mm) : Option (Int32 × Mm) :=
  bnx (f_X10_worst N v1 M) (fun r1 M2 => grd (inb (0 : Int32) 1) (lt (wr M2 219 ((0 : Int32)).toNatClampNeg r1) (fun M5 => some ((0 : Int32), M5)))) (fun r1 M2 => (if r1 = "java/lang/IndexOutOfBoundsException" then some ((1 : Int32), M2) else none))
set_option maxRecDepth 20000 in
set_option maxHeartbeats 4000000 in
theorem ok_L_worst {l : Launch} {N : Nat} {v1 : Int32} {M : Mm} {r : Int32} {M' : Mm} (hl : l.stackTraces = false) (h : f_L_worst N v1 M = some (r, M')) : am_H l yL_worst cL_worst 4 [(0, 9, 12, 24)] 8 1 6 LY M [.ref 0, .int v1, .ref 219] (.inl (some (.int r))) M' := by
  unfold f_L_worst at h
  refine am_introH (by decide) (by simp [Value.category]) (Nat.le_of_ble_eq_true rfl) (fun X hC hT => ?_)
  refine am_start (L := [some (.ref 0), some (.int v1), some (.ref 219), none]) rfl ?_
  refine v_aload_n hC dL_worst_0 rfl ?_
  refine v_iconst (v := (0 : Int32)) hC dL_worst_1 rfl ?_
  refine v_aload_n hC dL_worst_2 rfl ?_
  refine v_iload_n hC dL_worst_3 rfl ?_
  rcases bnx_some h with ⟨r1, M2, q3, h⟩ | ⟨r1, M2, q3, h⟩
  · refine w_callVi hC [.int v1] [.int (0 : Int32), .ref 219] (ok_X10_worst hl q3) mv_X10_worst aw_1118 ly_0 rfl (Nat.le_of_ble_eq_true rfl) ⟨by decide, by decide⟩ ⟨by decide, by decide⟩ dL_worst_4 ?_
    refine v_i2l hC dL_worst_7 ?_
    obtain ⟨g4, h⟩ := grd_some h
    obtain ⟨M5, e_M5, h⟩ := lt_some h
    refine w_last hC rfl ly_219 (inb_in g4) dL_worst_8 e_M5 ?_
    refine v_goto (tg := 15) hC dL_worst_9 rfl ?_
    refine v_iconst (v := (0 : Int32)) hC dL_worst_15 rfl ?_
    cases h
    exact v_iret hC (by decide) (by decide) dL_worst_16
  · by_cases c6 : r1 = "java/lang/IndexOutOfBoundsException"
    · rw [if_pos c6] at h
      subst c6
      cases h
      exact w_catch hC hT [.int v1] [.int (0 : Int32), .ref 219] [] [] (0, 9, 12, 24) (1 : Int32) 1 3 (ok_X10_worst hl q3) mv_X10_worst aw_1118 ly_0 rfl (Nat.le_of_ble_eq_true rfl) ⟨by decide, by decide⟩ ⟨by decide, by decide⟩ dL_worst_4 (by decide) (by decide) rfl (fun z hz => nomatch hz) (by decide) (by decide) (by decide) aw_837 (by decide +kernel) rfl (ltk rfl) (Or.inl ⟨3, rfl, dL_worst_12, dL_worst_13, dL_worst_14⟩)
    · rw [if_neg c6] at h
      cases h
theorem mh_L_worst : am_MH yL_worst cL_worst 4 [(0, 9, 12, 24)] 3 := ⟨aw_1117, aw_0, ⟨by decide, by decide⟩, by decide +kernel, aw_1116⟩
def f_L_share (N : Nat) (v1 v2 : Int32) (M : Mm) : Option (Int32 × Mm) :=
  bnx (f_X10_share N v1 v2 M) (fun r1 M2 => grd (inb (0 : Int32) 1) (lt (wr M2 219 ((0 : Int32)).toNatClampNeg r1) (fun M5 => some ((0 : Int32), M5)))) (fun r1 M2 => (if r1 = "java/lang/IndexOutOfBoundsException" then some ((1 : Int32), M2) else none))
set_option maxRecDepth 20000 in
set_option maxHeartbeats 4000000 in
theorem ok_L_share {l : Launch} {N : Nat} {v1 v2 : Int32} {M : Mm} {r : Int32} {M' : Mm} (hl : l.stackTraces = false) (h : f_L_share N v1 v2 M = some (r, M')) : am_H l yL_share cL_share 5 [(0, 10, 13, 24)] 8 2 12 LY M [.ref 0, .int v1, .int v2, .ref 219] (.inl (some (.int r))) M' := by
  unfold f_L_share at h
  refine am_introH (by decide) (by simp [Value.category]) (Nat.le_of_ble_eq_true rfl) (fun X hC hT => ?_)
  refine am_start (L := [some (.ref 0), some (.int v1), some (.int v2), some (.ref 219), none]) rfl ?_
  refine v_aload_n hC dL_share_0 rfl ?_
  refine v_iconst (v := (0 : Int32)) hC dL_share_1 rfl ?_
  refine v_aload_n hC dL_share_2 rfl ?_
  refine v_iload_n hC dL_share_3 rfl ?_
  refine v_iload_n hC dL_share_4 rfl ?_
  rcases bnx_some h with ⟨r1, M2, q3, h⟩ | ⟨r1, M2, q3, h⟩
  · refine w_callVi hC [.int v1, .int v2] [.int (0 : Int32), .ref 219] (ok_X10_share hl q3) mv_X10_share aw_1125 ly_0 rfl (Nat.le_of_ble_eq_true rfl) ⟨by decide, by decide⟩ ⟨by decide, by decide⟩ dL_share_5 ?_
    refine v_i2l hC dL_share_8 ?_
    obtain ⟨g4, h⟩ := grd_some h
    obtain ⟨M5, e_M5, h⟩ := lt_some h
    refine w_last hC rfl ly_219 (inb_in g4) dL_share_9 e_M5 ?_
    refine v_goto (tg := 17) hC dL_share_10 rfl ?_
    refine v_iconst (v := (0 : Int32)) hC dL_share_17 rfl ?_
    cases h
    exact v_iret hC (by decide) (by decide) dL_share_18
  · by_cases c6 : r1 = "java/lang/IndexOutOfBoundsException"
    · rw [if_pos c6] at h
      subst c6
      cases h
      exact w_catch hC hT [.int v1, .int v2] [.int (0 : Int32), .ref 219] [] [] (0, 10, 13, 24) (1 : Int32) 1 4 (ok_X10_share hl q3) mv_X10_share aw_1125 ly_0 rfl (Nat.le_of_ble_eq_true rfl) ⟨by decide, by decide⟩ ⟨by decide, by decide⟩ dL_share_5 (by decide) (by decide) rfl (fun z hz => nomatch hz) (by decide) (by decide) (by decide) aw_837 (by decide +kernel) rfl (ltk rfl) (Or.inr ⟨dL_share_13, dL_share_15, dL_share_16⟩)
    · rw [if_neg c6] at h
      cases h
theorem mh_L_share : am_MH yL_share cL_share 5 [(0, 10, 13, 24)] 4 := ⟨aw_1124, aw_0, ⟨by decide, by decide⟩, by decide +kernel, aw_1123⟩
def f_L_sentence (N : Nat) (v1 : Int32) (M : Mm) : Option (Int32 × Mm) :=
  bnx (f_X10_sentence N v1 M) (fun r1 M2 => grd (inb (0 : Int32) 1) (lt (wr M2 219 ((0 : Int32)).toNatClampNeg r1) (fun M5 => some ((0 : Int32), M5)))) (fun r1 M2 => (if r1 = "java/lang/IndexOutOfBoundsException" then some ((1 : Int32), M2) else none))
set_option maxRecDepth 20000 in
set_option maxHeartbeats 4000000 in
theorem ok_L_sentence {l : Launch} {N : Nat} {v1 : Int32} {M : Mm} {r : Int32} {M' : Mm} (hl : l.stackTraces = false) (h : f_L_sentence N v1 M = some (r, M')) : am_H l yL_sentence cL_sentence 4 [(0, 9, 12, 24)] 8 1 6 LY M [.ref 0, .int v1, .ref 219] (.inl (some (.int r))) M' := by
  unfold f_L_sentence at h
  refine am_introH (by decide) (by simp [Value.category]) (Nat.le_of_ble_eq_true rfl) (fun X hC hT => ?_)
  refine am_start (L := [some (.ref 0), some (.int v1), some (.ref 219), none]) rfl ?_
  refine v_aload_n hC dL_sentence_0 rfl ?_
  refine v_iconst (v := (0 : Int32)) hC dL_sentence_1 rfl ?_
  refine v_aload_n hC dL_sentence_2 rfl ?_
  refine v_iload_n hC dL_sentence_3 rfl ?_
  rcases bnx_some h with ⟨r1, M2, q3, h⟩ | ⟨r1, M2, q3, h⟩
  · refine w_callVi hC [.int v1] [.int (0 : Int32), .ref 219] (ok_X10_sentence hl q3) mv_X10_sentence aw_1132 ly_0 rfl (Nat.le_of_ble_eq_true rfl) ⟨by decide, by decide⟩ ⟨by decide, by decide⟩ dL_sentence_4 ?_
    refine v_i2l hC dL_sentence_7 ?_
    obtain ⟨g4, h⟩ := grd_some h
    obtain ⟨M5, e_M5, h⟩ := lt_some h
    refine w_last hC rfl ly_219 (inb_in g4) dL_sentence_8 e_M5 ?_
    refine v_goto (tg := 15) hC dL_sentence_9 rfl ?_
    refine v_iconst (v := (0 : Int32)) hC dL_sentence_15 rfl ?_
    cases h
    exact v_iret hC (by decide) (by decide) dL_sentence_16
  · by_cases c6 : r1 = "java/lang/IndexOutOfBoundsException"
    · rw [if_pos c6] at h
      subst c6
      cases h
      exact w_catch hC hT [.int v1] [.int (0 : Int32), .ref 219] [] [] (0, 9, 12, 24) (1 : Int32) 1 3 (ok_X10_sentence hl q3) mv_X10_sentence aw_1132 ly_0 rfl (Nat.le_of_ble_eq_true rfl) ⟨by decide, by decide⟩ ⟨by decide, by decide⟩ dL_sentence_4 (by decide) (by decide) rfl (fun z hz => nomatch hz) (by decide) (by decide) (by decide) aw_837 (by decide +kernel) rfl (ltk rfl) (Or.inl ⟨3, rfl, dL_sentence_12, dL_sentence_13, dL_sentence_14⟩)
    · rw [if_neg c6] at h
      cases h
theorem mh_L_sentence : am_MH yL_sentence cL_sentence 4 [(0, 9, 12, 24)] 3 := ⟨aw_1131, aw_0, ⟨by decide, by decide⟩, by decide +kernel, aw_1130⟩
def f_L_alone (N : Nat) (v1 v2 : Int32) (M : Mm) : Option (Int32 × Mm) :=
  bnx (f_X10_alone N v1 v2 M) (fun r1 M2 => grd (inb (0 : Int32) 1) (lt (wr M2 219 ((0 : Int32)).toNatClampNeg r1) (fun M5 => some ((0 : Int32), M5)))) (fun r1 M2 => (if r1 = "java/lang/IndexOutOfBoundsException" then some ((1 : Int32), M2) else none))
set_option maxRecDepth 20000 in
set_option maxHeartbeats 4000000 in
theorem ok_L_alone {l : Launch} {N : Nat} {v1 v2 : Int32} {M : Mm} {r : Int32} {M' : Mm} (hl : l.stackTraces = false) (h : f_L_alone N v1 v2 M = some (r, M')) : am_H l yL_alone cL_alone 5 [(0, 10, 13, 24)] 8 2 12 LY M [.ref 0, .int v1, .int v2, .ref 219] (.inl (some (.int r))) M' := by
  unfold f_L_alone at h
  refine am_introH (by decide) (by simp [Value.category]) (Nat.le_of_ble_eq_true rfl) (fun X hC hT => ?_)
  refine am_start (L := [some (.ref 0), some (.int v1), some (.int v2), some (.ref 219), none]) rfl ?_
  refine v_aload_n hC dL_alone_0 rfl ?_
  refine v_iconst (v := (0 : Int32)) hC dL_alone_1 rfl ?_
  refine v_aload_n hC dL_alone_2 rfl ?_
  refine v_iload_n hC dL_alone_3 rfl ?_
  refine v_iload_n hC dL_alone_4 rfl ?_
  rcases bnx_some h with ⟨r1, M2, q3, h⟩ | ⟨r1, M2, q3, h⟩
  · refine w_callVi hC [.int v1, .int v2] [.int (0 : Int32), .ref 219] (ok_X10_alone hl q3) mv_X10_alone aw_1139 ly_0 rfl (Nat.le_of_ble_eq_true rfl) ⟨by decide, by decide⟩ ⟨by decide, by decide⟩ dL_alone_5 ?_
    refine v_i2l hC dL_alone_8 ?_
    obtain ⟨g4, h⟩ := grd_some h
    obtain ⟨M5, e_M5, h⟩ := lt_some h
    refine w_last hC rfl ly_219 (inb_in g4) dL_alone_9 e_M5 ?_
    refine v_goto (tg := 17) hC dL_alone_10 rfl ?_
    refine v_iconst (v := (0 : Int32)) hC dL_alone_17 rfl ?_
    cases h
    exact v_iret hC (by decide) (by decide) dL_alone_18
  · by_cases c6 : r1 = "java/lang/IndexOutOfBoundsException"
    · rw [if_pos c6] at h
      subst c6
      cases h
      exact w_catch hC hT [.int v1, .int v2] [.int (0 : Int32), .ref 219] [] [] (0, 10, 13, 24) (1 : Int32) 1 4 (ok_X10_alone hl q3) mv_X10_alone aw_1139 ly_0 rfl (Nat.le_of_ble_eq_true rfl) ⟨by decide, by decide⟩ ⟨by decide, by decide⟩ dL_alone_5 (by decide) (by decide) rfl (fun z hz => nomatch hz) (by decide) (by decide) (by decide) aw_837 (by decide +kernel) rfl (ltk rfl) (Or.inr ⟨dL_alone_13, dL_alone_15, dL_alone_16⟩)
    · rw [if_neg c6] at h
      cases h
theorem mh_L_alone : am_MH yL_alone cL_alone 5 [(0, 10, 13, 24)] 4 := ⟨aw_1138, aw_0, ⟨by decide, by decide⟩, by decide +kernel, aw_1137⟩
def f_L_game (N : Nat) (v1 : Int32) (M : Mm) : Option (Int32 × Mm) :=
  bnx (f_X10_game N v1 M) (fun r1 M2 => grd (inb (0 : Int32) 1) (lt (wr M2 219 ((0 : Int32)).toNatClampNeg r1) (fun M5 => some ((0 : Int32), M5)))) (fun r1 M2 => (if r1 = "java/lang/IndexOutOfBoundsException" then some ((1 : Int32), M2) else none))
set_option maxRecDepth 20000 in
set_option maxHeartbeats 4000000 in
theorem ok_L_game {l : Launch} {N : Nat} {v1 : Int32} {M : Mm} {r : Int32} {M' : Mm} (hl : l.stackTraces = false) (h : f_L_game N v1 M = some (r, M')) : am_H l yL_game cL_game 4 [(0, 9, 12, 24)] 8 1 6 LY M [.ref 0, .int v1, .ref 219] (.inl (some (.int r))) M' := by
  unfold f_L_game at h
  refine am_introH (by decide) (by simp [Value.category]) (Nat.le_of_ble_eq_true rfl) (fun X hC hT => ?_)
  refine am_start (L := [some (.ref 0), some (.int v1), some (.ref 219), none]) rfl ?_
  refine v_aload_n hC dL_game_0 rfl ?_
  refine v_iconst (v := (0 : Int32)) hC dL_game_1 rfl ?_
  refine v_aload_n hC dL_game_2 rfl ?_
  refine v_iload_n hC dL_game_3 rfl ?_
  rcases bnx_some h with ⟨r1, M2, q3, h⟩ | ⟨r1, M2, q3, h⟩
  · refine w_callVi hC [.int v1] [.int (0 : Int32), .ref 219] (ok_X10_game hl q3) mv_X10_game aw_1146 ly_0 rfl (Nat.le_of_ble_eq_true rfl) ⟨by decide, by decide⟩ ⟨by decide, by decide⟩ dL_game_4 ?_
    refine v_i2l hC dL_game_7 ?_
    obtain ⟨g4, h⟩ := grd_some h
    obtain ⟨M5, e_M5, h⟩ := lt_some h
    refine w_last hC rfl ly_219 (inb_in g4) dL_game_8 e_M5 ?_
    refine v_goto (tg := 15) hC dL_game_9 rfl ?_
    refine v_iconst (v := (0 : Int32)) hC dL_game_15 rfl ?_
    cases h
    exact v_iret hC (by decide) (by decide) dL_game_16
  · by_cases c6 : r1 = "java/lang/IndexOutOfBoundsException"
    · rw [if_pos c6] at h
      subst c6
      cases h
      exact w_catch hC hT [.int v1] [.int (0 : Int32), .ref 219] [] [] (0, 9, 12, 24) (1 : Int32) 1 3 (ok_X10_game hl q3) mv_X10_game aw_1146 ly_0 rfl (Nat.le_of_ble_eq_true rfl) ⟨by decide, by decide⟩ ⟨by decide, by decide⟩ dL_game_4 (by decide) (by decide) rfl (fun z hz => nomatch hz) (by decide) (by decide) (by decide) aw_837 (by decide +kernel) rfl (ltk rfl) (Or.inl ⟨3, rfl, dL_game_12, dL_game_13, dL_game_14⟩)
    · rw [if_neg c6] at h
      cases h
theorem mh_L_game : am_MH yL_game cL_game 4 [(0, 9, 12, 24)] 3 := ⟨aw_1145, aw_0, ⟨by decide, by decide⟩, by decide +kernel, aw_1144⟩
def f_L_meets (N : Nat) (v1 : Int32) (M : Mm) : Option (Int32 × Mm) :=
  bnx (f_X10_meets N v1 M) (fun r1 M2 => grd (inb (0 : Int32) 1) (lt (wr M2 219 ((0 : Int32)).toNatClampNeg r1) (fun M5 => some ((0 : Int32), M5)))) (fun r1 M2 => (if r1 = "java/lang/IndexOutOfBoundsException" then some ((1 : Int32), M2) else none))
set_option maxRecDepth 20000 in
set_option maxHeartbeats 4000000 in
theorem ok_L_meets {l : Launch} {N : Nat} {v1 : Int32} {M : Mm} {r : Int32} {M' : Mm} (hl : l.stackTraces = false) (h : f_L_meets N v1 M = some (r, M')) : am_H l yL_meets cL_meets 4 [(0, 9, 12, 24)] 8 1 6 LY M [.ref 0, .int v1, .ref 219] (.inl (some (.int r))) M' := by
  unfold f_L_meets at h
  refine am_introH (by decide) (by simp [Value.category]) (Nat.le_of_ble_eq_true rfl) (fun X hC hT => ?_)
  refine am_start (L := [some (.ref 0), some (.int v1), some (.ref 219), none]) rfl ?_
  refine v_aload_n hC dL_meets_0 rfl ?_
  refine v_iconst (v := (0 : Int32)) hC dL_meets_1 rfl ?_
  refine v_aload_n hC dL_meets_2 rfl ?_
  refine v_iload_n hC dL_meets_3 rfl ?_
  rcases bnx_some h with ⟨r1, M2, q3, h⟩ | ⟨r1, M2, q3, h⟩
  · refine w_callVi hC [.int v1] [.int (0 : Int32), .ref 219] (ok_X10_meets hl q3) mv_X10_meets aw_1165 ly_0 rfl (Nat.le_of_ble_eq_true rfl) ⟨by decide, by decide⟩ ⟨by decide, by decide⟩ dL_meets_4 ?_
    refine v_i2l hC dL_meets_7 ?_
    obtain ⟨g4, h⟩ := grd_some h
    obtain ⟨M5, e_M5, h⟩ := lt_some h
    refine w_last hC rfl ly_219 (inb_in g4) dL_meets_8 e_M5 ?_
    refine v_goto (tg := 15) hC dL_meets_9 rfl ?_
    refine v_iconst (v := (0 : Int32)) hC dL_meets_15 rfl ?_
    cases h
    exact v_iret hC (by decide) (by decide) dL_meets_16
  · by_cases c6 : r1 = "java/lang/IndexOutOfBoundsException"
    · rw [if_pos c6] at h
      subst c6
      cases h
      exact w_catch hC hT [.int v1] [.int (0 : Int32), .ref 219] [] [] (0, 9, 12, 24) (1 : Int32) 1 3 (ok_X10_meets hl q3) mv_X10_meets aw_1165 ly_0 rfl (Nat.le_of_ble_eq_true rfl) ⟨by decide, by decide⟩ ⟨by decide, by decide⟩ dL_meets_4 (by decide) (by decide) rfl (fun z hz => nomatch hz) (by decide) (by decide) (by decide) aw_837 (by decide +kernel) rfl (ltk rfl) (Or.inl ⟨3, rfl, dL_meets_12, dL_meets_13, dL_meets_14⟩)
    · rw [if_neg c6] at h
      cases h
theorem mh_L_meets : am_MH yL_meets cL_meets 4 [(0, 9, 12, 24)] 3 := ⟨aw_1164, aw_0, ⟨by decide, by decide⟩, by decide +kernel, aw_1163⟩
def f_L_least (N : Nat) (v1 : Int32) (M : Mm) : Option (Int32 × Mm) :=
  bnx (f_X10_least N v1 M) (fun r1 M2 => grd (inb (0 : Int32) 1) (lt (wr M2 219 ((0 : Int32)).toNatClampNeg r1) (fun M5 => some ((0 : Int32), M5)))) (fun r1 M2 => (if r1 = "java/lang/IllegalArgumentException" then some ((1 : Int32), M2) else none))
set_option maxRecDepth 20000 in
set_option maxHeartbeats 4000000 in
theorem ok_L_least {l : Launch} {N : Nat} {v1 : Int32} {M : Mm} {r : Int32} {M' : Mm} (hl : l.stackTraces = false) (h : f_L_least N v1 M = some (r, M')) : am_H l yL_least cL_least 4 [(0, 9, 12, 13)] 8 1 6 LY M [.ref 0, .int v1, .ref 219] (.inl (some (.int r))) M' := by
  unfold f_L_least at h
  refine am_introH (by decide) (by simp [Value.category]) (Nat.le_of_ble_eq_true rfl) (fun X hC hT => ?_)
  refine am_start (L := [some (.ref 0), some (.int v1), some (.ref 219), none]) rfl ?_
  refine v_aload_n hC dL_least_0 rfl ?_
  refine v_iconst (v := (0 : Int32)) hC dL_least_1 rfl ?_
  refine v_aload_n hC dL_least_2 rfl ?_
  refine v_iload_n hC dL_least_3 rfl ?_
  rcases bnx_some h with ⟨r1, M2, q3, h⟩ | ⟨r1, M2, q3, h⟩
  · refine w_callVi hC [.int v1] [.int (0 : Int32), .ref 219] (ok_X10_least hl q3) mv_X10_least aw_1172 ly_0 rfl (Nat.le_of_ble_eq_true rfl) ⟨by decide, by decide⟩ ⟨by decide, by decide⟩ dL_least_4 ?_
    refine v_i2l hC dL_least_7 ?_
    obtain ⟨g4, h⟩ := grd_some h
    obtain ⟨M5, e_M5, h⟩ := lt_some h
    refine w_last hC rfl ly_219 (inb_in g4) dL_least_8 e_M5 ?_
    refine v_goto (tg := 15) hC dL_least_9 rfl ?_
    refine v_iconst (v := (0 : Int32)) hC dL_least_15 rfl ?_
    cases h
    exact v_iret hC (by decide) (by decide) dL_least_16
  · by_cases c6 : r1 = "java/lang/IllegalArgumentException"
    · rw [if_pos c6] at h
      subst c6
      cases h
      exact w_catch hC hT [.int v1] [.int (0 : Int32), .ref 219] [] [] (0, 9, 12, 13) (1 : Int32) 1 3 (ok_X10_least hl q3) mv_X10_least aw_1172 ly_0 rfl (Nat.le_of_ble_eq_true rfl) ⟨by decide, by decide⟩ ⟨by decide, by decide⟩ dL_least_4 (by decide) (by decide) rfl (fun z hz => nomatch hz) (by decide) (by decide) (by decide) aw_578 (by decide +kernel) rfl (ltk rfl) (Or.inl ⟨3, rfl, dL_least_12, dL_least_13, dL_least_14⟩)
    · rw [if_neg c6] at h
      cases h
theorem mh_L_least : am_MH yL_least cL_least 4 [(0, 9, 12, 13)] 3 := ⟨aw_1171, aw_0, ⟨by decide, by decide⟩, by decide +kernel, aw_1170⟩
def f_L_trial (N : Nat) (v1 v2 : Int32) (M : Mm) : Option (Int32 × Mm) :=
  bnx (f_X10_trial N v1 v2 M) (fun r1 M2 => grd (inb (0 : Int32) 1) (lt (wr M2 219 ((0 : Int32)).toNatClampNeg r1) (fun M5 => some ((0 : Int32), M5)))) (fun r1 M2 => (if r1 = "java/lang/IllegalArgumentException" then some ((1 : Int32), M2) else none))
set_option maxRecDepth 20000 in
set_option maxHeartbeats 4000000 in
theorem ok_L_trial {l : Launch} {N : Nat} {v1 v2 : Int32} {M : Mm} {r : Int32} {M' : Mm} (hl : l.stackTraces = false) (h : f_L_trial N v1 v2 M = some (r, M')) : am_H l yL_trial cL_trial 5 [(0, 10, 13, 13)] 9 1 6 LY M [.ref 0, .int v1, .int v2, .ref 219] (.inl (some (.int r))) M' := by
  unfold f_L_trial at h
  refine am_introH (by decide) (by simp [Value.category]) (Nat.le_of_ble_eq_true rfl) (fun X hC hT => ?_)
  refine am_start (L := [some (.ref 0), some (.int v1), some (.int v2), some (.ref 219), none]) rfl ?_
  refine v_aload_n hC dL_trial_0 rfl ?_
  refine v_iconst (v := (0 : Int32)) hC dL_trial_1 rfl ?_
  refine v_aload_n hC dL_trial_2 rfl ?_
  refine v_iload_n hC dL_trial_3 rfl ?_
  refine v_iload_n hC dL_trial_4 rfl ?_
  rcases bnx_some h with ⟨r1, M2, q3, h⟩ | ⟨r1, M2, q3, h⟩
  · refine w_callVi hC [.int v1, .int v2] [.int (0 : Int32), .ref 219] (ok_X10_trial hl q3) mv_X10_trial aw_1179 ly_0 rfl (Nat.le_of_ble_eq_true rfl) ⟨by decide, by decide⟩ ⟨by decide, by decide⟩ dL_trial_5 ?_
    refine v_i2l hC dL_trial_8 ?_
    obtain ⟨g4, h⟩ := grd_some h
    obtain ⟨M5, e_M5, h⟩ := lt_some h
    refine w_last hC rfl ly_219 (inb_in g4) dL_trial_9 e_M5 ?_
    refine v_goto (tg := 17) hC dL_trial_10 rfl ?_
    refine v_iconst (v := (0 : Int32)) hC dL_trial_17 rfl ?_
    cases h
    exact v_iret hC (by decide) (by decide) dL_trial_18
  · by_cases c6 : r1 = "java/lang/IllegalArgumentException"
    · rw [if_pos c6] at h
      subst c6
      cases h
      exact w_catch hC hT [.int v1, .int v2] [.int (0 : Int32), .ref 219] [] [] (0, 10, 13, 13) (1 : Int32) 1 4 (ok_X10_trial hl q3) mv_X10_trial aw_1179 ly_0 rfl (Nat.le_of_ble_eq_true rfl) ⟨by decide, by decide⟩ ⟨by decide, by decide⟩ dL_trial_5 (by decide) (by decide) rfl (fun z hz => nomatch hz) (by decide) (by decide) (by decide) aw_578 (by decide +kernel) rfl (ltk rfl) (Or.inr ⟨dL_trial_13, dL_trial_15, dL_trial_16⟩)
    · rw [if_neg c6] at h
      cases h
theorem mh_L_trial : am_MH yL_trial cL_trial 5 [(0, 10, 13, 13)] 4 := ⟨aw_1178, aw_0, ⟨by decide, by decide⟩, by decide +kernel, aw_1177⟩
def f_L_span (N : Nat) (v1 v2 : Int32) (M : Mm) : Option (Int32 × Mm) :=
  bnx (f_X10_span N v1 v2 M) (fun r1 M2 => grd (inb (0 : Int32) 1) (lt (wr M2 219 ((0 : Int32)).toNatClampNeg r1) (fun M5 => some ((0 : Int32), M5)))) (fun r1 M2 => (if r1 = "java/lang/IllegalArgumentException" then some ((1 : Int32), M2) else none))
set_option maxRecDepth 20000 in
set_option maxHeartbeats 4000000 in
theorem ok_L_span {l : Launch} {N : Nat} {v1 v2 : Int32} {M : Mm} {r : Int32} {M' : Mm} (hl : l.stackTraces = false) (h : f_L_span N v1 v2 M = some (r, M')) : am_H l yL_span cL_span 5 [(0, 10, 13, 13)] 9 1 6 LY M [.ref 0, .int v1, .int v2, .ref 219] (.inl (some (.int r))) M' := by
  unfold f_L_span at h
  refine am_introH (by decide) (by simp [Value.category]) (Nat.le_of_ble_eq_true rfl) (fun X hC hT => ?_)
  refine am_start (L := [some (.ref 0), some (.int v1), some (.int v2), some (.ref 219), none]) rfl ?_
  refine v_aload_n hC dL_span_0 rfl ?_
  refine v_iconst (v := (0 : Int32)) hC dL_span_1 rfl ?_
  refine v_aload_n hC dL_span_2 rfl ?_
  refine v_iload_n hC dL_span_3 rfl ?_
  refine v_iload_n hC dL_span_4 rfl ?_
  rcases bnx_some h with ⟨r1, M2, q3, h⟩ | ⟨r1, M2, q3, h⟩
  · refine w_callVi hC [.int v1, .int v2] [.int (0 : Int32), .ref 219] (ok_X10_span hl q3) mv_X10_span aw_1190 ly_0 rfl (Nat.le_of_ble_eq_true rfl) ⟨by decide, by decide⟩ ⟨by decide, by decide⟩ dL_span_5 ?_
    refine v_i2l hC dL_span_8 ?_
    obtain ⟨g4, h⟩ := grd_some h
    obtain ⟨M5, e_M5, h⟩ := lt_some h
    refine w_last hC rfl ly_219 (inb_in g4) dL_span_9 e_M5 ?_
    refine v_goto (tg := 17) hC dL_span_10 rfl ?_
    refine v_iconst (v := (0 : Int32)) hC dL_span_17 rfl ?_
    cases h
    exact v_iret hC (by decide) (by decide) dL_span_18
  · by_cases c6 : r1 = "java/lang/IllegalArgumentException"
    · rw [if_pos c6] at h
      subst c6
      cases h
      exact w_catch hC hT [.int v1, .int v2] [.int (0 : Int32), .ref 219] [] [] (0, 10, 13, 13) (1 : Int32) 1 4 (ok_X10_span hl q3) mv_X10_span aw_1190 ly_0 rfl (Nat.le_of_ble_eq_true rfl) ⟨by decide, by decide⟩ ⟨by decide, by decide⟩ dL_span_5 (by decide) (by decide) rfl (fun z hz => nomatch hz) (by decide) (by decide) (by decide) aw_578 (by decide +kernel) rfl (ltk rfl) (Or.inr ⟨dL_span_13, dL_span_15, dL_span_16⟩)
    · rw [if_neg c6] at h
      cases h
theorem mh_L_span : am_MH yL_span cL_span 5 [(0, 10, 13, 13)] 4 := ⟨aw_1189, aw_0, ⟨by decide, by decide⟩, by decide +kernel, aw_1188⟩
def f_L_led (N : Nat) (v1 v2 : Int32) (M : Mm) : Option (Int32 × Mm) :=
  bnx (f_X10_led N v1 v2 M) (fun r1 M2 => grd (inb (0 : Int32) 1) (lt (wr M2 219 ((0 : Int32)).toNatClampNeg r1) (fun M5 => some ((0 : Int32), M5)))) (fun r1 M2 => (if r1 = "java/lang/IndexOutOfBoundsException" then some ((1 : Int32), M2) else none))
set_option maxRecDepth 20000 in
set_option maxHeartbeats 4000000 in
theorem ok_L_led {l : Launch} {N : Nat} {v1 v2 : Int32} {M : Mm} {r : Int32} {M' : Mm} (hl : l.stackTraces = false) (h : f_L_led N v1 v2 M = some (r, M')) : am_H l yL_led cL_led 5 [(0, 10, 13, 24)] 8 1 6 LY M [.ref 0, .int v1, .int v2, .ref 219] (.inl (some (.int r))) M' := by
  unfold f_L_led at h
  refine am_introH (by decide) (by simp [Value.category]) (Nat.le_of_ble_eq_true rfl) (fun X hC hT => ?_)
  refine am_start (L := [some (.ref 0), some (.int v1), some (.int v2), some (.ref 219), none]) rfl ?_
  refine v_aload_n hC dL_led_0 rfl ?_
  refine v_iconst (v := (0 : Int32)) hC dL_led_1 rfl ?_
  refine v_aload_n hC dL_led_2 rfl ?_
  refine v_iload_n hC dL_led_3 rfl ?_
  refine v_iload_n hC dL_led_4 rfl ?_
  rcases bnx_some h with ⟨r1, M2, q3, h⟩ | ⟨r1, M2, q3, h⟩
  · refine w_callVi hC [.int v1, .int v2] [.int (0 : Int32), .ref 219] (ok_X10_led hl q3) mv_X10_led aw_1197 ly_0 rfl (Nat.le_of_ble_eq_true rfl) ⟨by decide, by decide⟩ ⟨by decide, by decide⟩ dL_led_5 ?_
    refine v_i2l hC dL_led_8 ?_
    obtain ⟨g4, h⟩ := grd_some h
    obtain ⟨M5, e_M5, h⟩ := lt_some h
    refine w_last hC rfl ly_219 (inb_in g4) dL_led_9 e_M5 ?_
    refine v_goto (tg := 17) hC dL_led_10 rfl ?_
    refine v_iconst (v := (0 : Int32)) hC dL_led_17 rfl ?_
    cases h
    exact v_iret hC (by decide) (by decide) dL_led_18
  · by_cases c6 : r1 = "java/lang/IndexOutOfBoundsException"
    · rw [if_pos c6] at h
      subst c6
      cases h
      exact w_catch hC hT [.int v1, .int v2] [.int (0 : Int32), .ref 219] [] [] (0, 10, 13, 24) (1 : Int32) 1 4 (ok_X10_led hl q3) mv_X10_led aw_1197 ly_0 rfl (Nat.le_of_ble_eq_true rfl) ⟨by decide, by decide⟩ ⟨by decide, by decide⟩ dL_led_5 (by decide) (by decide) rfl (fun z hz => nomatch hz) (by decide) (by decide) (by decide) aw_837 (by decide +kernel) rfl (ltk rfl) (Or.inr ⟨dL_led_13, dL_led_15, dL_led_16⟩)
    · rw [if_neg c6] at h
      cases h
theorem mh_L_led : am_MH yL_led cL_led 5 [(0, 10, 13, 24)] 4 := ⟨aw_1196, aw_0, ⟨by decide, by decide⟩, by decide +kernel, aw_1195⟩
def f_L_log (N : Nat) (v1 v2 : Int32) (M : Mm) : Option (Int32 × Mm) :=
  bnx (f_X10_log N v1 v2 M) (fun r1 M2 => grd (inb (0 : Int32) 1) (lt (wr M2 219 ((0 : Int32)).toNatClampNeg r1) (fun M5 => some ((0 : Int32), M5)))) (fun r1 M2 => (if r1 = "java/util/NoSuchElementException" then some ((1 : Int32), M2) else none))
set_option maxRecDepth 20000 in
set_option maxHeartbeats 4000000 in
theorem ok_L_log {l : Launch} {N : Nat} {v1 v2 : Int32} {M : Mm} {r : Int32} {M' : Mm} (hl : l.stackTraces = false) (h : f_L_log N v1 v2 M = some (r, M')) : am_H l yL_log cL_log 5 [(0, 10, 13, 26)] 8 1 6 LY M [.ref 0, .int v1, .int v2, .ref 219] (.inl (some (.int r))) M' := by
  unfold f_L_log at h
  refine am_introH (by decide) (by simp [Value.category]) (Nat.le_of_ble_eq_true rfl) (fun X hC hT => ?_)
  refine am_start (L := [some (.ref 0), some (.int v1), some (.int v2), some (.ref 219), none]) rfl ?_
  refine v_aload_n hC dL_log_0 rfl ?_
  refine v_iconst (v := (0 : Int32)) hC dL_log_1 rfl ?_
  refine v_aload_n hC dL_log_2 rfl ?_
  refine v_iload_n hC dL_log_3 rfl ?_
  refine v_iload_n hC dL_log_4 rfl ?_
  rcases bnx_some h with ⟨r1, M2, q3, h⟩ | ⟨r1, M2, q3, h⟩
  · refine w_callVi hC [.int v1, .int v2] [.int (0 : Int32), .ref 219] (ok_X10_log hl q3) mv_X10_log aw_1216 ly_0 rfl (Nat.le_of_ble_eq_true rfl) ⟨by decide, by decide⟩ ⟨by decide, by decide⟩ dL_log_5 ?_
    refine v_i2l hC dL_log_8 ?_
    obtain ⟨g4, h⟩ := grd_some h
    obtain ⟨M5, e_M5, h⟩ := lt_some h
    refine w_last hC rfl ly_219 (inb_in g4) dL_log_9 e_M5 ?_
    refine v_goto (tg := 17) hC dL_log_10 rfl ?_
    refine v_iconst (v := (0 : Int32)) hC dL_log_17 rfl ?_
    cases h
    exact v_iret hC (by decide) (by decide) dL_log_18
  · by_cases c6 : r1 = "java/util/NoSuchElementException"
    · rw [if_pos c6] at h
      subst c6
      cases h
      exact w_catch hC hT [.int v1, .int v2] [.int (0 : Int32), .ref 219] [] [] (0, 10, 13, 26) (1 : Int32) 1 4 (ok_X10_log hl q3) mv_X10_log aw_1216 ly_0 rfl (Nat.le_of_ble_eq_true rfl) ⟨by decide, by decide⟩ ⟨by decide, by decide⟩ dL_log_5 (by decide) (by decide) rfl (fun z hz => nomatch hz) (by decide) (by decide) (by decide) aw_838 (by decide +kernel) rfl (ltk rfl) (Or.inr ⟨dL_log_13, dL_log_15, dL_log_16⟩)
    · rw [if_neg c6] at h
      cases h
theorem mh_L_log : am_MH yL_log cL_log 5 [(0, 10, 13, 26)] 4 := ⟨aw_1215, aw_0, ⟨by decide, by decide⟩, by decide +kernel, aw_1214⟩
