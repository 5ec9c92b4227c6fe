theorem w_717 : Jvm.Cond.fieldLink "PeaTube" (9 : Nat) "PeaTube" "status" "I" ∈ Gw := gwt_3 98 rfl rfl
theorem w_718 : Jvm.Cond.fieldLink "PeaTube" (13 : Nat) "PeaTube" "top" "J" ∈ Gw := gwt_3 99 rfl rfl
theorem w_719 : Jvm.Cond.fieldLink "PeaTube" (17 : Nat) "PeaTube" "bottom" "J" ∈ Gw := gwt_3 100 rfl rfl
theorem w_797 : Jvm.Cond.methodLink "PeaTube" (120 : Nat) ({ cls := "PeaTube", name := "within", desc := "(III)Z" } : Jvm.MethodName) ∈ Gw := gwt_3 178 rfl rfl
theorem w_798 : Jvm.Cond.static ({ cls := "PeaTube", name := "within", desc := "(III)Z" } : Jvm.MethodName) ∈ Gw := gwt_3 179 rfl rfl
theorem w_175 : Jvm.Cond.fieldLink "PeaTube$Tray" (15 : Nat) "PeaTube$Tray" "there" "Z" ∈ Gw := gwt_1 36 rfl rfl
theorem w_177 : Jvm.Cond.fieldLink "PeaTube$Tray" (19 : Nat) "PeaTube$Tray" "sort" "I" ∈ Gw := gwt_1 38 rfl rfl
theorem w_179 : Jvm.Cond.fieldLink "PeaTube$Tray" (23 : Nat) "PeaTube$Tray" "many" "I" ∈ Gw := gwt_1 40 rfl rfl
theorem w_180 : Jvm.Cond.fieldLink "PeaTube$Tray" (9 : Nat) "PeaTube$Tray" "row" "[J" ∈ Gw := gwt_1 41 rfl rfl
theorem w_808 : Jvm.Cond.methodLink "PeaTube$Tray" (26 : Nat) ({ cls := "java/util/Arrays", name := "fill", desc := "([JJ)V" } : Jvm.MethodName) ∈ Gw := gwt_3 189 rfl rfl
theorem w_809 : Jvm.Cond.static ({ cls := "java/util/Arrays", name := "fill", desc := "([JJ)V" } : Jvm.MethodName) ∈ Gw := gwt_3 190 rfl rfl
theorem w_794 : Jvm.Cond.methodLink "PeaTube" (116 : Nat) ({ cls := "PeaTube", name := "isTray", desc := "(I)Z" } : Jvm.MethodName) ∈ Gw := gwt_3 175 rfl rfl
theorem w_795 : Jvm.Cond.static ({ cls := "PeaTube", name := "isTray", desc := "(I)Z" } : Jvm.MethodName) ∈ Gw := gwt_3 176 rfl rfl
theorem w_800 : Jvm.Cond.methodLink "PeaTube" (124 : Nat) ({ cls := "PeaTube", name := "deny", desc := "(I)Z" } : Jvm.MethodName) ∈ Gw := gwt_3 181 rfl rfl
theorem w_802 : Jvm.Cond.instanceMethod ({ cls := "PeaTube", name := "deny", desc := "(I)Z" } : Jvm.MethodName) ∈ Gw := gwt_3 183 rfl rfl
theorem w_0 : Jvm.Cond.selects "PeaTube" ({ cls := "PeaTube", name := "deny", desc := "(I)Z" } : Jvm.MethodName) ({ cls := "PeaTube", name := "deny", desc := "(I)Z" } : Jvm.MethodName) ∈ Gw := gwp_1 0 rfl rfl
theorem w_720 : Jvm.Cond.fieldLink "PeaTube" (22 : Nat) "PeaTube" "trays" "[LPeaTube$Tray;" ∈ Gw := gwt_3 101 rfl rfl
theorem w_804 : Jvm.Cond.methodLink "PeaTube" (127 : Nat) ({ cls := "PeaTube$Tray", name := "lay", desc := "(II)V" } : Jvm.MethodName) ∈ Gw := gwt_3 185 rfl rfl
theorem w_805 : Jvm.Cond.instanceMethod ({ cls := "PeaTube$Tray", name := "lay", desc := "(II)V" } : Jvm.MethodName) ∈ Gw := gwt_3 186 rfl rfl
theorem w_806 : Jvm.Cond.selects "PeaTube$Tray" ({ cls := "PeaTube$Tray", name := "lay", desc := "(II)V" } : Jvm.MethodName) ({ cls := "PeaTube$Tray", name := "lay", desc := "(II)V" } : Jvm.MethodName) ∈ Gw := gwt_3 187 rfl rfl
theorem w_811 : Jvm.Cond.methodLink "PeaTube" (131 : Nat) ({ cls := "PeaTube", name := "agree", desc := "()Z" } : Jvm.MethodName) ∈ Gw := gwt_3 192 rfl rfl
theorem w_813 : Jvm.Cond.instanceMethod ({ cls := "PeaTube", name := "agree", desc := "()Z" } : Jvm.MethodName) ∈ Gw := gwt_3 194 rfl rfl
theorem w_1 : Jvm.Cond.selects "PeaTube" ({ cls := "PeaTube", name := "agree", desc := "()Z" } : Jvm.MethodName) ({ cls := "PeaTube", name := "agree", desc := "()Z" } : Jvm.MethodName) ∈ Gw := gwp_1 1 rfl rfl
theorem w_176 : Jvm.Cond.fieldLink "PeaTube" (151 : Nat) "PeaTube$Tray" "there" "Z" ∈ Gw := gwt_1 37 rfl rfl
theorem w_823 : Jvm.Cond.methodLink "PeaTube" (158 : Nat) ({ cls := "PeaTube$Tray", name := "hasFrom", desc := "(II)Z" } : Jvm.MethodName) ∈ Gw := gwt_3 204 rfl rfl
theorem w_824 : Jvm.Cond.instanceMethod ({ cls := "PeaTube$Tray", name := "hasFrom", desc := "(II)Z" } : Jvm.MethodName) ∈ Gw := gwt_3 205 rfl rfl
theorem w_825 : Jvm.Cond.selects "PeaTube$Tray" ({ cls := "PeaTube$Tray", name := "hasFrom", desc := "(II)Z" } : Jvm.MethodName) ({ cls := "PeaTube$Tray", name := "hasFrom", desc := "(II)Z" } : Jvm.MethodName) ∈ Gw := gwt_3 206 rfl rfl
theorem w_831 : Jvm.Cond.methodLink "PeaTube$Tray" (32 : Nat) ({ cls := "PeaTube$Tray", name := "hasFrom", desc := "(II)Z" } : Jvm.MethodName) ∈ Gw := gwt_3 212 rfl rfl
theorem w_819 : Jvm.Cond.methodLink "PeaTube" (135 : Nat) ({ cls := "PeaTube", name := "wrongPlace", desc := "(II)I" } : Jvm.MethodName) ∈ Gw := gwt_3 200 rfl rfl
theorem w_821 : Jvm.Cond.instanceMethod ({ cls := "PeaTube", name := "wrongPlace", desc := "(II)I" } : Jvm.MethodName) ∈ Gw := gwt_3 202 rfl rfl
theorem w_2 : Jvm.Cond.selects "PeaTube" ({ cls := "PeaTube", name := "wrongPlace", desc := "(II)I" } : Jvm.MethodName) ({ cls := "PeaTube", name := "wrongPlace", desc := "(II)I" } : Jvm.MethodName) ∈ Gw := gwp_1 2 rfl rfl
theorem w_827 : Jvm.Cond.methodLink "PeaTube" (139 : Nat) ({ cls := "PeaTube$Tray", name := "put", desc := "(IJ)V" } : Jvm.MethodName) ∈ Gw := gwt_3 208 rfl rfl
theorem w_828 : Jvm.Cond.instanceMethod ({ cls := "PeaTube$Tray", name := "put", desc := "(IJ)V" } : Jvm.MethodName) ∈ Gw := gwt_3 209 rfl rfl
theorem w_829 : Jvm.Cond.selects "PeaTube$Tray" ({ cls := "PeaTube$Tray", name := "put", desc := "(IJ)V" } : Jvm.MethodName) ({ cls := "PeaTube$Tray", name := "put", desc := "(IJ)V" } : Jvm.MethodName) ∈ Gw := gwt_3 210 rfl rfl
theorem w_181 : Jvm.Cond.fieldLink "PeaTube" (147 : Nat) "PeaTube$Tray" "row" "[J" ∈ Gw := gwt_1 42 rfl rfl
theorem w_836 : Jvm.Cond.methodLink "PeaTube" (143 : Nat) ({ cls := "PeaTube", name := "refuse", desc := "(I)I" } : Jvm.MethodName) ∈ Gw := gwt_3 217 rfl rfl
theorem w_838 : Jvm.Cond.instanceMethod ({ cls := "PeaTube", name := "refuse", desc := "(I)I" } : Jvm.MethodName) ∈ Gw := gwt_3 219 rfl rfl
theorem w_3 : Jvm.Cond.selects "PeaTube" ({ cls := "PeaTube", name := "refuse", desc := "(I)I" } : Jvm.MethodName) ({ cls := "PeaTube", name := "refuse", desc := "(I)I" } : Jvm.MethodName) ∈ Gw := gwp_1 3 rfl rfl
theorem w_178 : Jvm.Cond.fieldLink "PeaTube" (155 : Nat) "PeaTube$Tray" "sort" "I" ∈ Gw := gwt_1 39 rfl rfl
theorem w_844 : Jvm.Cond.methodLink "PeaTube" (162 : Nat) ({ cls := "java/lang/System", name := "arraycopy", desc := "(Ljava/lang/Object;ILjava/lang/Object;II)V" } : Jvm.MethodName) ∈ Gw := gwt_3 225 rfl rfl
theorem w_845 : Jvm.Cond.static ({ cls := "java/lang/System", name := "arraycopy", desc := "(Ljava/lang/Object;ILjava/lang/Object;II)V" } : Jvm.MethodName) ∈ Gw := gwt_3 226 rfl rfl
theorem w_846 : Jvm.Cond.native ({ cls := "java/lang/System", name := "arraycopy", desc := "(Ljava/lang/Object;ILjava/lang/Object;II)V" } : Jvm.MethodName) ∈ Gw := gwt_3 227 rfl rfl
theorem w_158 : Jvm.Cond.initialized "java/lang/System" ∈ Gw := gwt_1 19 rfl rfl
theorem w_255 : Jvm.Cond.fieldLink "PeaTube$Tape" (46 : Nat) "PeaTube$Tape" "many" "I" ∈ Gw := gwt_1 116 rfl rfl
theorem w_254 : Jvm.Cond.fieldLink "PeaTube$Tape" (9 : Nat) "PeaTube$Tape" "bytes" "[B" ∈ Gw := gwt_1 115 rfl rfl
theorem w_721 : Jvm.Cond.fieldLink "PeaTube" (30 : Nat) "PeaTube" "tape" "LPeaTube$Tape;" ∈ Gw := gwt_3 102 rfl rfl
theorem w_256 : Jvm.Cond.fieldLink "PeaTube" (168 : Nat) "PeaTube$Tape" "many" "I" ∈ Gw := gwt_1 117 rfl rfl
theorem w_851 : Jvm.Cond.methodLink "PeaTube" (171 : Nat) ({ cls := "PeaTube$Tape", name := "append", desc := "(I)V" } : Jvm.MethodName) ∈ Gw := gwt_3 232 rfl rfl
theorem w_852 : Jvm.Cond.instanceMethod ({ cls := "PeaTube$Tape", name := "append", desc := "(I)V" } : Jvm.MethodName) ∈ Gw := gwt_3 233 rfl rfl
theorem w_853 : Jvm.Cond.selects "PeaTube$Tape" ({ cls := "PeaTube$Tape", name := "append", desc := "(I)V" } : Jvm.MethodName) ({ cls := "PeaTube$Tape", name := "append", desc := "(I)V" } : Jvm.MethodName) ∈ Gw := gwt_3 234 rfl rfl
theorem w_253 : Jvm.Cond.constantLong "PeaTube$Tape" (97 : Nat) (32 : Int64) ∈ Gw := gwt_1 114 rfl rfl
theorem w_276 : Jvm.Cond.fieldLink "PeaTube$Tape" (60 : Nat) "PeaTube$Tape" "at" "I" ∈ Gw := gwt_1 137 rfl rfl
theorem w_275 : Jvm.Cond.fieldLink "PeaTube$Tape" (58 : Nat) "PeaTube$Tape" "length" "I" ∈ Gw := gwt_1 136 rfl rfl
theorem w_247 : Jvm.Cond.methodLink "PeaTube$Tape" (38 : Nat) ({ cls := "PeaTube$Tape", name := "isLetter", desc := "(I)Z" } : Jvm.MethodName) ∈ Gw := gwt_1 108 rfl rfl
theorem w_248 : Jvm.Cond.static ({ cls := "PeaTube$Tape", name := "isLetter", desc := "(I)Z" } : Jvm.MethodName) ∈ Gw := gwt_1 109 rfl rfl
theorem w_250 : Jvm.Cond.methodLink "PeaTube$Tape" (42 : Nat) ({ cls := "PeaTube$Tape", name := "withLetter", desc := "(JI)J" } : Jvm.MethodName) ∈ Gw := gwt_1 111 rfl rfl
theorem w_251 : Jvm.Cond.static ({ cls := "PeaTube$Tape", name := "withLetter", desc := "(JI)J" } : Jvm.MethodName) ∈ Gw := gwt_1 112 rfl rfl
theorem w_261 : Jvm.Cond.fieldLink "PeaTube$Tape" (66 : Nat) "PeaTube$Tape" "kind" "I" ∈ Gw := gwt_1 122 rfl rfl
theorem w_277 : Jvm.Cond.fieldLink "PeaTube$Tape" (69 : Nat) "PeaTube$Tape" "start" "I" ∈ Gw := gwt_1 138 rfl rfl
theorem w_267 : Jvm.Cond.fieldLink "PeaTube$Tape" (75 : Nat) "PeaTube$Tape" "name" "J" ∈ Gw := gwt_1 128 rfl rfl
theorem w_278 : Jvm.Cond.fieldLink "PeaTube$Tape" (22 : Nat) "PeaTube$Tape" "names" "[J" ∈ Gw := gwt_1 139 rfl rfl
theorem w_266 : Jvm.Cond.fieldLink "PeaTube$Tape" (72 : Nat) "PeaTube$Tape" "word" "I" ∈ Gw := gwt_1 127 rfl rfl
theorem w_877 : Jvm.Cond.methodLink "PeaTube$Tape" (88 : Nat) ({ cls := "PeaTube$Tape", name := "isDigit", desc := "(I)Z" } : Jvm.MethodName) ∈ Gw := gwt_4 18 rfl rfl
theorem w_878 : Jvm.Cond.static ({ cls := "PeaTube$Tape", name := "isDigit", desc := "(I)Z" } : Jvm.MethodName) ∈ Gw := gwt_4 19 rfl rfl
theorem w_270 : Jvm.Cond.fieldLink "PeaTube$Tape" (79 : Nat) "PeaTube$Tape" "number" "I" ∈ Gw := gwt_1 131 rfl rfl
theorem w_271 : Jvm.Cond.fieldLink "PeaTube$Tape" (82 : Nat) "PeaTube$Tape" "sign" "I" ∈ Gw := gwt_1 132 rfl rfl
theorem w_884 : Jvm.Cond.methodLink "PeaTube$Tape" (94 : Nat) ({ cls := "PeaTube$Tape", name := "isSign", desc := "(I)Z" } : Jvm.MethodName) ∈ Gw := gwt_4 25 rfl rfl
theorem w_885 : Jvm.Cond.static ({ cls := "PeaTube$Tape", name := "isSign", desc := "(I)Z" } : Jvm.MethodName) ∈ Gw := gwt_4 26 rfl rfl
theorem w_880 : Jvm.Cond.methodLink "PeaTube$Tape" (91 : Nat) ({ cls := "PeaTube$Tape", name := "scanNumber", desc := "()V" } : Jvm.MethodName) ∈ Gw := gwt_4 21 rfl rfl
theorem w_882 : Jvm.Cond.instanceMethod ({ cls := "PeaTube$Tape", name := "scanNumber", desc := "()V" } : Jvm.MethodName) ∈ Gw := gwt_4 23 rfl rfl
theorem w_5 : Jvm.Cond.selects "PeaTube$Tape" ({ cls := "PeaTube$Tape", name := "scanNumber", desc := "()V" } : Jvm.MethodName) ({ cls := "PeaTube$Tape", name := "scanNumber", desc := "()V" } : Jvm.MethodName) ∈ Gw := gwp_1 5 rfl rfl
theorem w_873 : Jvm.Cond.methodLink "PeaTube$Tape" (85 : Nat) ({ cls := "PeaTube$Tape", name := "scanWord", desc := "()V" } : Jvm.MethodName) ∈ Gw := gwt_4 14 rfl rfl
theorem w_875 : Jvm.Cond.instanceMethod ({ cls := "PeaTube$Tape", name := "scanWord", desc := "()V" } : Jvm.MethodName) ∈ Gw := gwt_4 16 rfl rfl
theorem w_4 : Jvm.Cond.selects "PeaTube$Tape" ({ cls := "PeaTube$Tape", name := "scanWord", desc := "()V" } : Jvm.MethodName) ({ cls := "PeaTube$Tape", name := "scanWord", desc := "()V" } : Jvm.MethodName) ∈ Gw := gwp_1 4 rfl rfl
theorem w_863 : Jvm.Cond.methodLink "PeaTube$Tape" (49 : Nat) ({ cls := "java/lang/Math", name := "min", desc := "(II)I" } : Jvm.MethodName) ∈ Gw := gwt_4 4 rfl rfl
theorem w_864 : Jvm.Cond.static ({ cls := "java/lang/Math", name := "min", desc := "(II)I" } : Jvm.MethodName) ∈ Gw := gwt_4 5 rfl rfl
theorem w_159 : Jvm.Cond.initialized "java/lang/Math" ∈ Gw := gwt_1 20 rfl rfl
theorem w_865 : Jvm.Cond.code ({ cls := "java/lang/Math", name := "min", desc := "(II)I" } : Jvm.MethodName) prog_15_method_69_code (2 : Nat) (Option.some Jvm.ClassFile.FieldType.int) ∈ Gw := gwt_4 6 rfl rfl
theorem w_866 : Jvm.Cond.methodLink "PeaTube$Tape" (55 : Nat) ({ cls := "java/lang/Math", name := "max", desc := "(II)I" } : Jvm.MethodName) ∈ Gw := gwt_4 7 rfl rfl
theorem w_867 : Jvm.Cond.static ({ cls := "java/lang/Math", name := "max", desc := "(II)I" } : Jvm.MethodName) ∈ Gw := gwt_4 8 rfl rfl
theorem w_868 : Jvm.Cond.code ({ cls := "java/lang/Math", name := "max", desc := "(II)I" } : Jvm.MethodName) prog_15_method_65_code (2 : Nat) (Option.some Jvm.ClassFile.FieldType.int) ∈ Gw := gwt_4 9 rfl rfl
theorem w_257 : Jvm.Cond.fieldLink "PeaTube$Tape" (15 : Nat) "PeaTube$Tape" "fault" "I" ∈ Gw := gwt_1 118 rfl rfl
theorem w_259 : Jvm.Cond.fieldLink "PeaTube$Tape" (19 : Nat) "PeaTube$Tape" "place" "I" ∈ Gw := gwt_1 120 rfl rfl
theorem w_869 : Jvm.Cond.methodLink "PeaTube$Tape" (63 : Nat) ({ cls := "PeaTube$Tape", name := "advance", desc := "()V" } : Jvm.MethodName) ∈ Gw := gwt_4 10 rfl rfl
theorem w_870 : Jvm.Cond.instanceMethod ({ cls := "PeaTube$Tape", name := "advance", desc := "()V" } : Jvm.MethodName) ∈ Gw := gwt_4 11 rfl rfl
theorem w_871 : Jvm.Cond.selects "PeaTube$Tape" ({ cls := "PeaTube$Tape", name := "advance", desc := "()V" } : Jvm.MethodName) ({ cls := "PeaTube$Tape", name := "advance", desc := "()V" } : Jvm.MethodName) ∈ Gw := gwt_4 12 rfl rfl
theorem w_319 : Jvm.Cond.fieldLink "PeaTube$Tent" (52 : Nat) "PeaTube$Tent" "inches" "I" ∈ Gw := gwt_1 180 rfl rfl
theorem w_322 : Jvm.Cond.fieldLink "PeaTube$Tent" (56 : Nat) "PeaTube$Tent" "bore" "I" ∈ Gw := gwt_1 183 rfl rfl
theorem w_324 : Jvm.Cond.fieldLink "PeaTube$Tent" (59 : Nat) "PeaTube$Tent" "far" "I" ∈ Gw := gwt_1 185 rfl rfl
theorem w_327 : Jvm.Cond.fieldLink "PeaTube$Tent" (62 : Nat) "PeaTube$Tent" "wind" "I" ∈ Gw := gwt_1 188 rfl rfl
theorem w_330 : Jvm.Cond.fieldLink "PeaTube$Tent" (65 : Nat) "PeaTube$Tent" "rings" "I" ∈ Gw := gwt_1 191 rfl rfl
theorem w_336 : Jvm.Cond.fieldLink "PeaTube$Tent" (68 : Nat) "PeaTube$Tent" "peas" "I" ∈ Gw := gwt_1 197 rfl rfl
theorem w_351 : Jvm.Cond.fieldLink "PeaTube$Tent" (71 : Nat) "PeaTube$Tent" "shooters" "I" ∈ Gw := gwt_1 212 rfl rfl
theorem w_366 : Jvm.Cond.fieldLink "PeaTube$Tent" (74 : Nat) "PeaTube$Tent" "told" "I" ∈ Gw := gwt_1 227 rfl rfl
theorem w_903 : Jvm.Cond.methodLink "PeaTube$Tent" (114 : Nat) ({ cls := "PeaTube$Tape", name := "advance", desc := "()V" } : Jvm.MethodName) ∈ Gw := gwt_4 44 rfl rfl
theorem w_899 : Jvm.Cond.methodLink "PeaTube$Tent" (110 : Nat) ({ cls := "PeaTube$Tape", name := "refuseHere", desc := "(I)Z" } : Jvm.MethodName) ∈ Gw := gwt_4 40 rfl rfl
theorem w_900 : Jvm.Cond.instanceMethod ({ cls := "PeaTube$Tape", name := "refuseHere", desc := "(I)Z" } : Jvm.MethodName) ∈ Gw := gwt_4 41 rfl rfl
theorem w_901 : Jvm.Cond.selects "PeaTube$Tape" ({ cls := "PeaTube$Tape", name := "refuseHere", desc := "(I)Z" } : Jvm.MethodName) ({ cls := "PeaTube$Tape", name := "refuseHere", desc := "(I)Z" } : Jvm.MethodName) ∈ Gw := gwt_4 42 rfl rfl
theorem w_908 : Jvm.Cond.methodLink "PeaTube$Tape" (99 : Nat) ({ cls := "PeaTube$Tape", name := "refuseHere", desc := "(I)Z" } : Jvm.MethodName) ∈ Gw := gwt_4 49 rfl rfl
theorem w_274 : Jvm.Cond.fieldLink "PeaTube$Tape" (102 : Nat) "PeaTube$Tape" "taken" "I" ∈ Gw := gwt_1 135 rfl rfl
theorem w_913 : Jvm.Cond.methodLink "PeaTube$Tape" (105 : Nat) ({ cls := "PeaTube$Tape", name := "skipWord", desc := "(I)Z" } : Jvm.MethodName) ∈ Gw := gwt_4 54 rfl rfl
theorem w_914 : Jvm.Cond.instanceMethod ({ cls := "PeaTube$Tape", name := "skipWord", desc := "(I)Z" } : Jvm.MethodName) ∈ Gw := gwt_4 55 rfl rfl
theorem w_915 : Jvm.Cond.selects "PeaTube$Tape" ({ cls := "PeaTube$Tape", name := "skipWord", desc := "(I)Z" } : Jvm.MethodName) ({ cls := "PeaTube$Tape", name := "skipWord", desc := "(I)Z" } : Jvm.MethodName) ∈ Gw := gwt_4 56 rfl rfl
theorem w_895 : Jvm.Cond.methodLink "PeaTube$Tent" (117 : Nat) ({ cls := "PeaTube$Tent", name := "beginOnce", desc := "(LPeaTube$Tape;I)Z" } : Jvm.MethodName) ∈ Gw := gwt_4 36 rfl rfl
theorem w_897 : Jvm.Cond.instanceMethod ({ cls := "PeaTube$Tent", name := "beginOnce", desc := "(LPeaTube$Tape;I)Z" } : Jvm.MethodName) ∈ Gw := gwt_4 38 rfl rfl
theorem w_7 : Jvm.Cond.selects "PeaTube$Tent" ({ cls := "PeaTube$Tent", name := "beginOnce", desc := "(LPeaTube$Tape;I)Z" } : Jvm.MethodName) ({ cls := "PeaTube$Tent", name := "beginOnce", desc := "(LPeaTube$Tape;I)Z" } : Jvm.MethodName) ∈ Gw := gwp_1 7 rfl rfl
theorem w_904 : Jvm.Cond.methodLink "PeaTube$Tent" (121 : Nat) ({ cls := "PeaTube$Tape", name := "takeNumber", desc := "(II)Z" } : Jvm.MethodName) ∈ Gw := gwt_4 45 rfl rfl
theorem w_905 : Jvm.Cond.instanceMethod ({ cls := "PeaTube$Tape", name := "takeNumber", desc := "(II)Z" } : Jvm.MethodName) ∈ Gw := gwt_4 46 rfl rfl
theorem w_906 : Jvm.Cond.selects "PeaTube$Tape" ({ cls := "PeaTube$Tape", name := "takeNumber", desc := "(II)Z" } : Jvm.MethodName) ({ cls := "PeaTube$Tape", name := "takeNumber", desc := "(II)Z" } : Jvm.MethodName) ∈ Gw := gwt_4 47 rfl rfl
theorem w_272 : Jvm.Cond.fieldLink "PeaTube$Tent" (125 : Nat) "PeaTube$Tape" "taken" "I" ∈ Gw := gwt_1 133 rfl rfl
theorem w_909 : Jvm.Cond.methodLink "PeaTube$Tent" (128 : Nat) ({ cls := "PeaTube$Tape", name := "takeWord", desc := "(I)Z" } : Jvm.MethodName) ∈ Gw := gwt_4 50 rfl rfl
theorem w_910 : Jvm.Cond.instanceMethod ({ cls := "PeaTube$Tape", name := "takeWord", desc := "(I)Z" } : Jvm.MethodName) ∈ Gw := gwt_4 51 rfl rfl
theorem w_911 : Jvm.Cond.selects "PeaTube$Tape" ({ cls := "PeaTube$Tape", name := "takeWord", desc := "(I)Z" } : Jvm.MethodName) ({ cls := "PeaTube$Tape", name := "takeWord", desc := "(I)Z" } : Jvm.MethodName) ∈ Gw := gwt_4 52 rfl rfl
theorem w_917 : Jvm.Cond.methodLink "PeaTube$Tent" (131 : Nat) ({ cls := "PeaTube$Tape", name := "takeSemicolon", desc := "()Z" } : Jvm.MethodName) ∈ Gw := gwt_4 58 rfl rfl
theorem w_918 : Jvm.Cond.instanceMethod ({ cls := "PeaTube$Tape", name := "takeSemicolon", desc := "()Z" } : Jvm.MethodName) ∈ Gw := gwt_4 59 rfl rfl
theorem w_919 : Jvm.Cond.selects "PeaTube$Tape" ({ cls := "PeaTube$Tape", name := "takeSemicolon", desc := "()Z" } : Jvm.MethodName) ({ cls := "PeaTube$Tape", name := "takeSemicolon", desc := "()Z" } : Jvm.MethodName) ∈ Gw := gwt_4 60 rfl rfl
theorem w_929 : Jvm.Cond.methodLink "PeaTube$Tent" (135 : Nat) ({ cls := "PeaTube$Tape", name := "skipWord", desc := "(I)Z" } : Jvm.MethodName) ∈ Gw := gwt_4 70 rfl rfl
theorem w_332 : Jvm.Cond.fieldLink "PeaTube$Tent" (9 : Nat) "PeaTube$Tent" "reach" "[I" ∈ Gw := gwt_1 193 rfl rfl
theorem w_334 : Jvm.Cond.fieldLink "PeaTube$Tent" (15 : Nat) "PeaTube$Tent" "worth" "[I" ∈ Gw := gwt_1 195 rfl rfl
theorem w_339 : Jvm.Cond.fieldLink "PeaTube$Tent" (18 : Nat) "PeaTube$Tent" "peaName" "[J" ∈ Gw := gwt_1 200 rfl rfl
theorem w_354 : Jvm.Cond.fieldLink "PeaTube$Tent" (34 : Nat) "PeaTube$Tent" "shooterName" "[J" ∈ Gw := gwt_1 215 rfl rfl
theorem w_942 : Jvm.Cond.methodLink "PeaTube$Tent" (148 : Nat) ({ cls := "PeaTube$Tape", name := "atName", desc := "()Z" } : Jvm.MethodName) ∈ Gw := gwt_4 83 rfl rfl
theorem w_943 : Jvm.Cond.instanceMethod ({ cls := "PeaTube$Tape", name := "atName", desc := "()Z" } : Jvm.MethodName) ∈ Gw := gwt_4 84 rfl rfl
theorem w_944 : Jvm.Cond.selects "PeaTube$Tape" ({ cls := "PeaTube$Tape", name := "atName", desc := "()Z" } : Jvm.MethodName) ({ cls := "PeaTube$Tape", name := "atName", desc := "()Z" } : Jvm.MethodName) ∈ Gw := gwt_4 85 rfl rfl
theorem w_269 : Jvm.Cond.fieldLink "PeaTube$Tent" (138 : Nat) "PeaTube$Tape" "name" "J" ∈ Gw := gwt_1 130 rfl rfl
theorem w_946 : Jvm.Cond.methodLink "PeaTube$Tent" (151 : Nat) ({ cls := "PeaTube$Tent", name := "findPea", desc := "(J)I" } : Jvm.MethodName) ∈ Gw := gwt_4 87 rfl rfl
theorem w_947 : Jvm.Cond.instanceMethod ({ cls := "PeaTube$Tent", name := "findPea", desc := "(J)I" } : Jvm.MethodName) ∈ Gw := gwt_4 88 rfl rfl
theorem w_948 : Jvm.Cond.selects "PeaTube$Tent" ({ cls := "PeaTube$Tent", name := "findPea", desc := "(J)I" } : Jvm.MethodName) ({ cls := "PeaTube$Tent", name := "findPea", desc := "(J)I" } : Jvm.MethodName) ∈ Gw := gwt_4 89 rfl rfl
theorem w_950 : Jvm.Cond.methodLink "PeaTube$Tent" (155 : Nat) ({ cls := "PeaTube$Tent", name := "findShooter", desc := "(J)I" } : Jvm.MethodName) ∈ Gw := gwt_4 91 rfl rfl
theorem w_951 : Jvm.Cond.instanceMethod ({ cls := "PeaTube$Tent", name := "findShooter", desc := "(J)I" } : Jvm.MethodName) ∈ Gw := gwt_4 92 rfl rfl
theorem w_952 : Jvm.Cond.selects "PeaTube$Tent" ({ cls := "PeaTube$Tent", name := "findShooter", desc := "(J)I" } : Jvm.MethodName) ({ cls := "PeaTube$Tent", name := "findShooter", desc := "(J)I" } : Jvm.MethodName) ∈ Gw := gwt_4 93 rfl rfl
theorem w_938 : Jvm.Cond.methodLink "PeaTube$Tent" (142 : Nat) ({ cls := "PeaTube$Tent", name := "takeNewName", desc := "(LPeaTube$Tape;)Z" } : Jvm.MethodName) ∈ Gw := gwt_4 79 rfl rfl
theorem w_940 : Jvm.Cond.instanceMethod ({ cls := "PeaTube$Tent", name := "takeNewName", desc := "(LPeaTube$Tape;)Z" } : Jvm.MethodName) ∈ Gw := gwt_4 81 rfl rfl
theorem w_12 : Jvm.Cond.selects "PeaTube$Tent" ({ cls := "PeaTube$Tent", name := "takeNewName", desc := "(LPeaTube$Tape;)Z" } : Jvm.MethodName) ({ cls := "PeaTube$Tent", name := "takeNewName", desc := "(LPeaTube$Tape;)Z" } : Jvm.MethodName) ∈ Gw := gwp_1 12 rfl rfl
theorem w_340 : Jvm.Cond.fieldLink "PeaTube$Tent" (22 : Nat) "PeaTube$Tent" "size" "[I" ∈ Gw := gwt_1 201 rfl rfl
theorem w_342 : Jvm.Cond.fieldLink "PeaTube$Tent" (25 : Nat) "PeaTube$Tent" "weight" "[I" ∈ Gw := gwt_1 203 rfl rfl
theorem w_345 : Jvm.Cond.fieldLink "PeaTube$Tent" (28 : Nat) "PeaTube$Tent" "crooked" "[I" ∈ Gw := gwt_1 206 rfl rfl
theorem w_348 : Jvm.Cond.fieldLink "PeaTube$Tent" (31 : Nat) "PeaTube$Tent" "wet" "[I" ∈ Gw := gwt_1 209 rfl rfl
theorem w_360 : Jvm.Cond.fieldLink "PeaTube$Tent" (43 : Nat) "PeaTube$Tent" "right" "[I" ∈ Gw := gwt_1 221 rfl rfl
theorem w_363 : Jvm.Cond.fieldLink "PeaTube$Tent" (46 : Nat) "PeaTube$Tent" "up" "[I" ∈ Gw := gwt_1 224 rfl rfl
theorem w_355 : Jvm.Cond.fieldLink "PeaTube$Tent" (37 : Nat) "PeaTube$Tent" "hardest" "[I" ∈ Gw := gwt_1 216 rfl rfl
theorem w_358 : Jvm.Cond.fieldLink "PeaTube$Tent" (40 : Nat) "PeaTube$Tent" "shake" "[I" ∈ Gw := gwt_1 219 rfl rfl
theorem w_958 : Jvm.Cond.methodLink "PeaTube$Tent" (145 : Nat) ({ cls := "PeaTube$Tent", name := "parseLean", desc := "(LPeaTube$Tape;I)Z" } : Jvm.MethodName) ∈ Gw := gwt_4 99 rfl rfl
theorem w_960 : Jvm.Cond.instanceMethod ({ cls := "PeaTube$Tent", name := "parseLean", desc := "(LPeaTube$Tape;I)Z" } : Jvm.MethodName) ∈ Gw := gwt_4 101 rfl rfl
theorem w_14 : Jvm.Cond.selects "PeaTube$Tent" ({ cls := "PeaTube$Tent", name := "parseLean", desc := "(LPeaTube$Tape;I)Z" } : Jvm.MethodName) ({ cls := "PeaTube$Tent", name := "parseLean", desc := "(LPeaTube$Tape;I)Z" } : Jvm.MethodName) ∈ Gw := gwp_1 14 rfl rfl
theorem w_315 : Jvm.Cond.methodLink "PeaTube$Tent" (49 : Nat) ({ cls := "PeaTube$Tent", name := "clear", desc := "()V" } : Jvm.MethodName) ∈ Gw := gwt_1 176 rfl rfl
theorem w_316 : Jvm.Cond.instanceMethod ({ cls := "PeaTube$Tent", name := "clear", desc := "()V" } : Jvm.MethodName) ∈ Gw := gwt_1 177 rfl rfl
theorem w_317 : Jvm.Cond.selects "PeaTube$Tent" ({ cls := "PeaTube$Tent", name := "clear", desc := "()V" } : Jvm.MethodName) ({ cls := "PeaTube$Tent", name := "clear", desc := "()V" } : Jvm.MethodName) ∈ Gw := gwt_1 178 rfl rfl
theorem w_262 : Jvm.Cond.fieldLink "PeaTube$Tent" (83 : Nat) "PeaTube$Tape" "kind" "I" ∈ Gw := gwt_1 123 rfl rfl
theorem w_264 : Jvm.Cond.fieldLink "PeaTube$Tent" (88 : Nat) "PeaTube$Tape" "word" "I" ∈ Gw := gwt_1 125 rfl rfl
theorem w_891 : Jvm.Cond.methodLink "PeaTube$Tent" (91 : Nat) ({ cls := "PeaTube$Tent", name := "parseTube", desc := "(LPeaTube$Tape;)Z" } : Jvm.MethodName) ∈ Gw := gwt_4 32 rfl rfl
theorem w_893 : Jvm.Cond.instanceMethod ({ cls := "PeaTube$Tent", name := "parseTube", desc := "(LPeaTube$Tape;)Z" } : Jvm.MethodName) ∈ Gw := gwt_4 34 rfl rfl
theorem w_6 : Jvm.Cond.selects "PeaTube$Tent" ({ cls := "PeaTube$Tent", name := "parseTube", desc := "(LPeaTube$Tape;)Z" } : Jvm.MethodName) ({ cls := "PeaTube$Tent", name := "parseTube", desc := "(LPeaTube$Tape;)Z" } : Jvm.MethodName) ∈ Gw := gwp_1 6 rfl rfl
theorem w_921 : Jvm.Cond.methodLink "PeaTube$Tent" (95 : Nat) ({ cls := "PeaTube$Tent", name := "parseFar", desc := "(LPeaTube$Tape;)Z" } : Jvm.MethodName) ∈ Gw := gwt_4 62 rfl rfl
theorem w_923 : Jvm.Cond.instanceMethod ({ cls := "PeaTube$Tent", name := "parseFar", desc := "(LPeaTube$Tape;)Z" } : Jvm.MethodName) ∈ Gw := gwt_4 64 rfl rfl
theorem w_8 : Jvm.Cond.selects "PeaTube$Tent" ({ cls := "PeaTube$Tent", name := "parseFar", desc := "(LPeaTube$Tape;)Z" } : Jvm.MethodName) ({ cls := "PeaTube$Tent", name := "parseFar", desc := "(LPeaTube$Tape;)Z" } : Jvm.MethodName) ∈ Gw := gwp_1 8 rfl rfl
theorem w_925 : Jvm.Cond.methodLink "PeaTube$Tent" (98 : Nat) ({ cls := "PeaTube$Tent", name := "parseWind", desc := "(LPeaTube$Tape;)Z" } : Jvm.MethodName) ∈ Gw := gwt_4 66 rfl rfl
theorem w_927 : Jvm.Cond.instanceMethod ({ cls := "PeaTube$Tent", name := "parseWind", desc := "(LPeaTube$Tape;)Z" } : Jvm.MethodName) ∈ Gw := gwt_4 68 rfl rfl
theorem w_9 : Jvm.Cond.selects "PeaTube$Tent" ({ cls := "PeaTube$Tent", name := "parseWind", desc := "(LPeaTube$Tape;)Z" } : Jvm.MethodName) ({ cls := "PeaTube$Tent", name := "parseWind", desc := "(LPeaTube$Tape;)Z" } : Jvm.MethodName) ∈ Gw := gwp_1 9 rfl rfl
theorem w_930 : Jvm.Cond.methodLink "PeaTube$Tent" (101 : Nat) ({ cls := "PeaTube$Tent", name := "parseRing", desc := "(LPeaTube$Tape;)Z" } : Jvm.MethodName) ∈ Gw := gwt_4 71 rfl rfl
theorem w_932 : Jvm.Cond.instanceMethod ({ cls := "PeaTube$Tent", name := "parseRing", desc := "(LPeaTube$Tape;)Z" } : Jvm.MethodName) ∈ Gw := gwt_4 73 rfl rfl
theorem w_10 : Jvm.Cond.selects "PeaTube$Tent" ({ cls := "PeaTube$Tent", name := "parseRing", desc := "(LPeaTube$Tape;)Z" } : Jvm.MethodName) ({ cls := "PeaTube$Tent", name := "parseRing", desc := "(LPeaTube$Tape;)Z" } : Jvm.MethodName) ∈ Gw := gwp_1 10 rfl rfl
theorem w_934 : Jvm.Cond.methodLink "PeaTube$Tent" (104 : Nat) ({ cls := "PeaTube$Tent", name := "parsePea", desc := "(LPeaTube$Tape;)Z" } : Jvm.MethodName) ∈ Gw := gwt_4 75 rfl rfl
theorem w_936 : Jvm.Cond.instanceMethod ({ cls := "PeaTube$Tent", name := "parsePea", desc := "(LPeaTube$Tape;)Z" } : Jvm.MethodName) ∈ Gw := gwt_4 77 rfl rfl
theorem w_11 : Jvm.Cond.selects "PeaTube$Tent" ({ cls := "PeaTube$Tent", name := "parsePea", desc := "(LPeaTube$Tape;)Z" } : Jvm.MethodName) ({ cls := "PeaTube$Tent", name := "parsePea", desc := "(LPeaTube$Tape;)Z" } : Jvm.MethodName) ∈ Gw := gwp_1 11 rfl rfl
theorem w_954 : Jvm.Cond.methodLink "PeaTube$Tent" (107 : Nat) ({ cls := "PeaTube$Tent", name := "parseShooter", desc := "(LPeaTube$Tape;)Z" } : Jvm.MethodName) ∈ Gw := gwt_4 95 rfl rfl
theorem w_956 : Jvm.Cond.instanceMethod ({ cls := "PeaTube$Tent", name := "parseShooter", desc := "(LPeaTube$Tape;)Z" } : Jvm.MethodName) ∈ Gw := gwt_4 97 rfl rfl
theorem w_13 : Jvm.Cond.selects "PeaTube$Tent" ({ cls := "PeaTube$Tent", name := "parseShooter", desc := "(LPeaTube$Tape;)Z" } : Jvm.MethodName) ({ cls := "PeaTube$Tent", name := "parseShooter", desc := "(LPeaTube$Tape;)Z" } : Jvm.MethodName) ∈ Gw := gwp_1 13 rfl rfl
theorem w_460 : Jvm.Cond.fieldLink "PeaTube$Tally" (27 : Nat) "PeaTube$Tally" "spit" "I" ∈ Gw := gwt_2 81 rfl rfl
theorem w_463 : Jvm.Cond.fieldLink "PeaTube$Tally" (31 : Nat) "PeaTube$Tally" "holes" "I" ∈ Gw := gwt_2 84 rfl rfl
theorem w_474 : Jvm.Cond.fieldLink "PeaTube$Tally" (24 : Nat) "PeaTube$Tally" "scores" "[I" ∈ Gw := gwt_2 95 rfl rfl
theorem w_966 : Jvm.Cond.methodLink "PeaTube$Tally" (34 : Nat) ({ cls := "java/util/Arrays", name := "fill", desc := "([II)V" } : Jvm.MethodName) ∈ Gw := gwt_4 107 rfl rfl
theorem w_967 : Jvm.Cond.static ({ cls := "java/util/Arrays", name := "fill", desc := "([II)V" } : Jvm.MethodName) ∈ Gw := gwt_4 108 rfl rfl
theorem w_415 : Jvm.Cond.fieldLink "PeaTube$Round" (30 : Nat) "PeaTube$Round" "there" "Z" ∈ Gw := gwt_2 36 rfl rfl
theorem w_417 : Jvm.Cond.fieldLink "PeaTube$Round" (34 : Nat) "PeaTube$Round" "steps" "I" ∈ Gw := gwt_2 38 rfl rfl
theorem w_419 : Jvm.Cond.fieldLink "PeaTube$Round" (38 : Nat) "PeaTube$Round" "ops" "I" ∈ Gw := gwt_2 40 rfl rfl
theorem w_431 : Jvm.Cond.fieldLink "PeaTube$Round" (41 : Nat) "PeaTube$Round" "depth" "I" ∈ Gw := gwt_2 52 rfl rfl
theorem w_859 : Jvm.Cond.methodLink "PeaTube" (175 : Nat) ({ cls := "PeaTube$Tape", name := "begin", desc := "(I)V" } : Jvm.MethodName) ∈ Gw := gwt_4 0 rfl rfl
theorem w_860 : Jvm.Cond.instanceMethod ({ cls := "PeaTube$Tape", name := "begin", desc := "(I)V" } : Jvm.MethodName) ∈ Gw := gwt_4 1 rfl rfl
theorem w_861 : Jvm.Cond.selects "PeaTube$Tape" ({ cls := "PeaTube$Tape", name := "begin", desc := "(I)V" } : Jvm.MethodName) ({ cls := "PeaTube$Tape", name := "begin", desc := "(I)V" } : Jvm.MethodName) ∈ Gw := gwt_4 2 rfl rfl
theorem w_723 : Jvm.Cond.fieldLink "PeaTube" (41 : Nat) "PeaTube" "spareTent" "LPeaTube$Tent;" ∈ Gw := gwt_3 104 rfl rfl
theorem w_887 : Jvm.Cond.methodLink "PeaTube" (178 : Nat) ({ cls := "PeaTube$Tent", name := "parse", desc := "(LPeaTube$Tape;)Z" } : Jvm.MethodName) ∈ Gw := gwt_4 28 rfl rfl
theorem w_888 : Jvm.Cond.instanceMethod ({ cls := "PeaTube$Tent", name := "parse", desc := "(LPeaTube$Tape;)Z" } : Jvm.MethodName) ∈ Gw := gwt_4 29 rfl rfl
theorem w_889 : Jvm.Cond.selects "PeaTube$Tent" ({ cls := "PeaTube$Tent", name := "parse", desc := "(LPeaTube$Tape;)Z" } : Jvm.MethodName) ({ cls := "PeaTube$Tent", name := "parse", desc := "(LPeaTube$Tape;)Z" } : Jvm.MethodName) ∈ Gw := gwt_4 30 rfl rfl
theorem w_722 : Jvm.Cond.fieldLink "PeaTube" (37 : Nat) "PeaTube" "tent" "LPeaTube$Tent;" ∈ Gw := gwt_3 103 rfl rfl
theorem w_726 : Jvm.Cond.fieldLink "PeaTube" (57 : Nat) "PeaTube" "tally" "LPeaTube$Tally;" ∈ Gw := gwt_3 107 rfl rfl
theorem w_962 : Jvm.Cond.methodLink "PeaTube" (182 : Nat) ({ cls := "PeaTube$Tally", name := "clear", desc := "()V" } : Jvm.MethodName) ∈ Gw := gwt_4 103 rfl rfl
theorem w_963 : Jvm.Cond.instanceMethod ({ cls := "PeaTube$Tally", name := "clear", desc := "()V" } : Jvm.MethodName) ∈ Gw := gwt_4 104 rfl rfl
theorem w_964 : Jvm.Cond.selects "PeaTube$Tally" ({ cls := "PeaTube$Tally", name := "clear", desc := "()V" } : Jvm.MethodName) ({ cls := "PeaTube$Tally", name := "clear", desc := "()V" } : Jvm.MethodName) ∈ Gw := gwt_4 105 rfl rfl
theorem w_724 : Jvm.Cond.fieldLink "PeaTube" (47 : Nat) "PeaTube" "round" "LPeaTube$Round;" ∈ Gw := gwt_3 105 rfl rfl
theorem w_969 : Jvm.Cond.methodLink "PeaTube" (185 : Nat) ({ cls := "PeaTube$Round", name := "clear", desc := "()V" } : Jvm.MethodName) ∈ Gw := gwt_4 110 rfl rfl
theorem w_970 : Jvm.Cond.instanceMethod ({ cls := "PeaTube$Round", name := "clear", desc := "()V" } : Jvm.MethodName) ∈ Gw := gwt_4 111 rfl rfl
theorem w_971 : Jvm.Cond.selects "PeaTube$Round" ({ cls := "PeaTube$Round", name := "clear", desc := "()V" } : Jvm.MethodName) ({ cls := "PeaTube$Round", name := "clear", desc := "()V" } : Jvm.MethodName) ∈ Gw := gwt_4 112 rfl rfl
theorem w_338 : Jvm.Cond.fieldLink "PeaTube" (186 : Nat) "PeaTube$Tent" "peas" "I" ∈ Gw := gwt_1 199 rfl rfl
theorem w_973 : Jvm.Cond.methodLink "PeaTube" (189 : Nat) ({ cls := "PeaTube", name := "answer", desc := "(I)I" } : Jvm.MethodName) ∈ Gw := gwt_4 114 rfl rfl
theorem w_975 : Jvm.Cond.instanceMethod ({ cls := "PeaTube", name := "answer", desc := "(I)I" } : Jvm.MethodName) ∈ Gw := gwt_4 116 rfl rfl
theorem w_15 : Jvm.Cond.selects "PeaTube" ({ cls := "PeaTube", name := "answer", desc := "(I)I" } : Jvm.MethodName) ({ cls := "PeaTube", name := "answer", desc := "(I)I" } : Jvm.MethodName) ∈ Gw := gwp_1 15 rfl rfl
theorem w_991 : Jvm.Cond.methodLink "PeaTube$Round" (77 : Nat) ({ cls := "PeaTube$Tape", name := "refuseHere", desc := "(I)Z" } : Jvm.MethodName) ∈ Gw := gwt_4 132 rfl rfl
theorem w_432 : Jvm.Cond.fieldLink "PeaTube$Round" (27 : Nat) "PeaTube$Round" "open" "[I" ∈ Gw := gwt_2 53 rfl rfl
theorem w_421 : Jvm.Cond.fieldLink "PeaTube$Round" (11 : Nat) "PeaTube$Round" "op" "[I" ∈ Gw := gwt_2 42 rfl rfl
theorem w_429 : Jvm.Cond.fieldLink "PeaTube$Round" (24 : Nat) "PeaTube$Round" "mate" "[I" ∈ Gw := gwt_2 50 rfl rfl
theorem w_992 : Jvm.Cond.methodLink "PeaTube$Round" (81 : Nat) ({ cls := "PeaTube$Tape", name := "advance", desc := "()V" } : Jvm.MethodName) ∈ Gw := gwt_4 133 rfl rfl
theorem w_997 : Jvm.Cond.methodLink "PeaTube$Round" (84 : Nat) ({ cls := "PeaTube$Round", name := "isStep", desc := "(I)Z" } : Jvm.MethodName) ∈ Gw := gwt_4 138 rfl rfl
theorem w_998 : Jvm.Cond.static ({ cls := "PeaTube$Round", name := "isStep", desc := "(I)Z" } : Jvm.MethodName) ∈ Gw := gwt_4 139 rfl rfl
theorem w_1008 : Jvm.Cond.methodLink "PeaTube$Round" (114 : Nat) ({ cls := "PeaTube$Tape", name := "atName", desc := "()Z" } : Jvm.MethodName) ∈ Gw := gwt_4 149 rfl rfl
theorem w_1014 : Jvm.Cond.methodLink "PeaTube$Round" (117 : Nat) ({ cls := "PeaTube$Tape", name := "takeNumber", desc := "(II)Z" } : Jvm.MethodName) ∈ Gw := gwt_4 155 rfl rfl
theorem w_273 : Jvm.Cond.fieldLink "PeaTube$Round" (121 : Nat) "PeaTube$Tape" "taken" "I" ∈ Gw := gwt_1 134 rfl rfl
theorem w_423 : Jvm.Cond.fieldLink "PeaTube$Round" (15 : Nat) "PeaTube$Round" "first" "[I" ∈ Gw := gwt_2 44 rfl rfl
theorem w_1015 : Jvm.Cond.methodLink "PeaTube$Round" (124 : Nat) ({ cls := "PeaTube$Tape", name := "skipWord", desc := "(I)Z" } : Jvm.MethodName) ∈ Gw := gwt_4 156 rfl rfl
theorem w_425 : Jvm.Cond.fieldLink "PeaTube$Round" (18 : Nat) "PeaTube$Round" "second" "[I" ∈ Gw := gwt_2 46 rfl rfl
theorem w_1024 : Jvm.Cond.methodLink "PeaTube$Round" (127 : Nat) ({ cls := "PeaTube$Tape", name := "takeCompares", desc := "()Z" } : Jvm.MethodName) ∈ Gw := gwt_4 165 rfl rfl
theorem w_1025 : Jvm.Cond.instanceMethod ({ cls := "PeaTube$Tape", name := "takeCompares", desc := "()Z" } : Jvm.MethodName) ∈ Gw := gwt_4 166 rfl rfl
theorem w_1026 : Jvm.Cond.selects "PeaTube$Tape" ({ cls := "PeaTube$Tape", name := "takeCompares", desc := "()Z" } : Jvm.MethodName) ({ cls := "PeaTube$Tape", name := "takeCompares", desc := "()Z" } : Jvm.MethodName) ∈ Gw := gwt_4 167 rfl rfl
theorem w_427 : Jvm.Cond.fieldLink "PeaTube$Round" (21 : Nat) "PeaTube$Round" "third" "[I" ∈ Gw := gwt_2 48 rfl rfl
theorem w_268 : Jvm.Cond.fieldLink "PeaTube$Round" (87 : Nat) "PeaTube$Tape" "name" "J" ∈ Gw := gwt_1 129 rfl rfl
theorem w_1009 : Jvm.Cond.methodLink "PeaTube$Round" (100 : Nat) ({ cls := "PeaTube$Tent", name := "findShooter", desc := "(J)I" } : Jvm.MethodName) ∈ Gw := gwt_4 150 rfl rfl
theorem w_1005 : Jvm.Cond.methodLink "PeaTube$Round" (97 : Nat) ({ cls := "PeaTube$Round", name := "takeKnownName", desc := "(LPeaTube$Tape;I)Z" } : Jvm.MethodName) ∈ Gw := gwt_4 146 rfl rfl
theorem w_1006 : Jvm.Cond.static ({ cls := "PeaTube$Round", name := "takeKnownName", desc := "(LPeaTube$Tape;I)Z" } : Jvm.MethodName) ∈ Gw := gwt_4 147 rfl rfl
theorem w_1016 : Jvm.Cond.methodLink "PeaTube$Round" (106 : Nat) ({ cls := "PeaTube$Round", name := "parseNumber", desc := "(LPeaTube$Tape;III)Z" } : Jvm.MethodName) ∈ Gw := gwt_4 157 rfl rfl
theorem w_1018 : Jvm.Cond.instanceMethod ({ cls := "PeaTube$Round", name := "parseNumber", desc := "(LPeaTube$Tape;III)Z" } : Jvm.MethodName) ∈ Gw := gwt_4 159 rfl rfl
theorem w_20 : Jvm.Cond.selects "PeaTube$Round" ({ cls := "PeaTube$Round", name := "parseNumber", desc := "(LPeaTube$Tape;III)Z" } : Jvm.MethodName) ({ cls := "PeaTube$Round", name := "parseNumber", desc := "(LPeaTube$Tape;III)Z" } : Jvm.MethodName) ∈ Gw := gwp_2 4 rfl rfl
theorem w_1004 : Jvm.Cond.methodLink "PeaTube$Round" (91 : Nat) ({ cls := "PeaTube$Tent", name := "findPea", desc := "(J)I" } : Jvm.MethodName) ∈ Gw := gwt_4 145 rfl rfl
theorem w_1010 : Jvm.Cond.methodLink "PeaTube$Round" (103 : Nat) ({ cls := "PeaTube$Round", name := "parseAim", desc := "(LPeaTube$Tape;I)Z" } : Jvm.MethodName) ∈ Gw := gwt_4 151 rfl rfl
theorem w_1012 : Jvm.Cond.instanceMethod ({ cls := "PeaTube$Round", name := "parseAim", desc := "(LPeaTube$Tape;I)Z" } : Jvm.MethodName) ∈ Gw := gwt_4 153 rfl rfl
theorem w_19 : Jvm.Cond.selects "PeaTube$Round" ({ cls := "PeaTube$Round", name := "parseAim", desc := "(LPeaTube$Tape;I)Z" } : Jvm.MethodName) ({ cls := "PeaTube$Round", name := "parseAim", desc := "(LPeaTube$Tape;I)Z" } : Jvm.MethodName) ∈ Gw := gwp_2 3 rfl rfl
theorem w_1020 : Jvm.Cond.methodLink "PeaTube$Round" (110 : Nat) ({ cls := "PeaTube$Round", name := "parseTest", desc := "(LPeaTube$Tape;LPeaTube$Tent;I)Z" } : Jvm.MethodName) ∈ Gw := gwt_4 161 rfl rfl
theorem w_1022 : Jvm.Cond.instanceMethod ({ cls := "PeaTube$Round", name := "parseTest", desc := "(LPeaTube$Tape;LPeaTube$Tent;I)Z" } : Jvm.MethodName) ∈ Gw := gwt_4 163 rfl rfl
theorem w_21 : Jvm.Cond.selects "PeaTube$Round" ({ cls := "PeaTube$Round", name := "parseTest", desc := "(LPeaTube$Tape;LPeaTube$Tent;I)Z" } : Jvm.MethodName) ({ cls := "PeaTube$Round", name := "parseTest", desc := "(LPeaTube$Tape;LPeaTube$Tent;I)Z" } : Jvm.MethodName) ∈ Gw := gwp_2 5 rfl rfl
theorem w_986 : Jvm.Cond.methodLink "PeaTube$Round" (50 : Nat) ({ cls := "PeaTube$Round", name := "clear", desc := "()V" } : Jvm.MethodName) ∈ Gw := gwt_4 127 rfl rfl
theorem w_263 : Jvm.Cond.fieldLink "PeaTube$Round" (53 : Nat) "PeaTube$Tape" "kind" "I" ∈ Gw := gwt_1 124 rfl rfl
theorem w_265 : Jvm.Cond.fieldLink "PeaTube$Round" (58 : Nat) "PeaTube$Tape" "word" "I" ∈ Gw := gwt_1 126 rfl rfl
theorem w_993 : Jvm.Cond.methodLink "PeaTube$Round" (65 : Nat) ({ cls := "PeaTube$Round", name := "begins", desc := "(LPeaTube$Tape;I)Z" } : Jvm.MethodName) ∈ Gw := gwt_4 134 rfl rfl
theorem w_995 : Jvm.Cond.instanceMethod ({ cls := "PeaTube$Round", name := "begins", desc := "(LPeaTube$Tape;I)Z" } : Jvm.MethodName) ∈ Gw := gwt_4 136 rfl rfl
theorem w_17 : Jvm.Cond.selects "PeaTube$Round" ({ cls := "PeaTube$Round", name := "begins", desc := "(LPeaTube$Tape;I)Z" } : Jvm.MethodName) ({ cls := "PeaTube$Round", name := "begins", desc := "(LPeaTube$Tape;I)Z" } : Jvm.MethodName) ∈ Gw := gwp_2 1 rfl rfl
theorem w_1028 : Jvm.Cond.methodLink "PeaTube$Round" (73 : Nat) ({ cls := "PeaTube$Tape", name := "takeSemicolon", desc := "()Z" } : Jvm.MethodName) ∈ Gw := gwt_4 169 rfl rfl
theorem w_1000 : Jvm.Cond.methodLink "PeaTube$Round" (69 : Nat) ({ cls := "PeaTube$Round", name := "parseRest", desc := "(LPeaTube$Tape;LPeaTube$Tent;II)Z" } : Jvm.MethodName) ∈ Gw := gwt_4 141 rfl rfl
theorem w_1002 : Jvm.Cond.instanceMethod ({ cls := "PeaTube$Round", name := "parseRest", desc := "(LPeaTube$Tape;LPeaTube$Tent;II)Z" } : Jvm.MethodName) ∈ Gw := gwt_4 143 rfl rfl
theorem w_18 : Jvm.Cond.selects "PeaTube$Round" ({ cls := "PeaTube$Round", name := "parseRest", desc := "(LPeaTube$Tape;LPeaTube$Tent;II)Z" } : Jvm.MethodName) ({ cls := "PeaTube$Round", name := "parseRest", desc := "(LPeaTube$Tape;LPeaTube$Tent;II)Z" } : Jvm.MethodName) ∈ Gw := gwp_2 2 rfl rfl
theorem w_987 : Jvm.Cond.methodLink "PeaTube$Round" (61 : Nat) ({ cls := "PeaTube$Round", name := "ends", desc := "(LPeaTube$Tape;)Z" } : Jvm.MethodName) ∈ Gw := gwt_4 128 rfl rfl
theorem w_989 : Jvm.Cond.instanceMethod ({ cls := "PeaTube$Round", name := "ends", desc := "(LPeaTube$Tape;)Z" } : Jvm.MethodName) ∈ Gw := gwt_4 130 rfl rfl
theorem w_16 : Jvm.Cond.selects "PeaTube$Round" ({ cls := "PeaTube$Round", name := "ends", desc := "(LPeaTube$Tape;)Z" } : Jvm.MethodName) ({ cls := "PeaTube$Round", name := "ends", desc := "(LPeaTube$Tape;)Z" } : Jvm.MethodName) ∈ Gw := gwp_2 0 rfl rfl
theorem w_981 : Jvm.Cond.methodLink "PeaTube" (192 : Nat) ({ cls := "java/lang/Math", name := "min", desc := "(II)I" } : Jvm.MethodName) ∈ Gw := gwt_4 122 rfl rfl
theorem w_725 : Jvm.Cond.fieldLink "PeaTube" (51 : Nat) "PeaTube" "spareRound" "LPeaTube$Round;" ∈ Gw := gwt_3 106 rfl rfl
theorem w_982 : Jvm.Cond.methodLink "PeaTube" (197 : Nat) ({ cls := "PeaTube$Round", name := "parse", desc := "(LPeaTube$Tape;LPeaTube$Tent;)Z" } : Jvm.MethodName) ∈ Gw := gwt_4 123 rfl rfl
theorem w_983 : Jvm.Cond.instanceMethod ({ cls := "PeaTube$Round", name := "parse", desc := "(LPeaTube$Tape;LPeaTube$Tent;)Z" } : Jvm.MethodName) ∈ Gw := gwt_4 124 rfl rfl
theorem w_984 : Jvm.Cond.selects "PeaTube$Round" ({ cls := "PeaTube$Round", name := "parse", desc := "(LPeaTube$Tape;LPeaTube$Tent;)Z" } : Jvm.MethodName) ({ cls := "PeaTube$Round", name := "parse", desc := "(LPeaTube$Tape;LPeaTube$Tent;)Z" } : Jvm.MethodName) ∈ Gw := gwt_4 125 rfl rfl
theorem w_416 : Jvm.Cond.fieldLink "PeaTube" (200 : Nat) "PeaTube$Round" "there" "Z" ∈ Gw := gwt_2 37 rfl rfl
theorem w_418 : Jvm.Cond.fieldLink "PeaTube" (201 : Nat) "PeaTube$Round" "steps" "I" ∈ Gw := gwt_2 39 rfl rfl
theorem w_260 : Jvm.Cond.fieldLink "PeaTube" (207 : Nat) "PeaTube$Tape" "place" "I" ∈ Gw := gwt_1 121 rfl rfl
theorem w_258 : Jvm.Cond.fieldLink "PeaTube" (204 : Nat) "PeaTube$Tape" "fault" "I" ∈ Gw := gwt_1 119 rfl rfl
theorem w_321 : Jvm.Cond.fieldLink "PeaTube" (210 : Nat) "PeaTube$Tent" "inches" "I" ∈ Gw := gwt_1 182 rfl rfl
theorem w_323 : Jvm.Cond.fieldLink "PeaTube" (213 : Nat) "PeaTube$Tent" "bore" "I" ∈ Gw := gwt_1 184 rfl rfl
theorem w_326 : Jvm.Cond.fieldLink "PeaTube" (216 : Nat) "PeaTube$Tent" "far" "I" ∈ Gw := gwt_1 187 rfl rfl
theorem w_329 : Jvm.Cond.fieldLink "PeaTube" (219 : Nat) "PeaTube$Tent" "wind" "I" ∈ Gw := gwt_1 190 rfl rfl
theorem w_331 : Jvm.Cond.fieldLink "PeaTube" (222 : Nat) "PeaTube$Tent" "rings" "I" ∈ Gw := gwt_1 192 rfl rfl
theorem w_353 : Jvm.Cond.fieldLink "PeaTube" (225 : Nat) "PeaTube$Tent" "shooters" "I" ∈ Gw := gwt_1 214 rfl rfl
theorem w_462 : Jvm.Cond.fieldLink "PeaTube" (228 : Nat) "PeaTube$Tally" "spit" "I" ∈ Gw := gwt_2 83 rfl rfl
theorem w_465 : Jvm.Cond.fieldLink "PeaTube" (231 : Nat) "PeaTube$Tally" "holes" "I" ∈ Gw := gwt_2 86 rfl rfl
theorem w_335 : Jvm.Cond.fieldLink "PeaTube" (238 : Nat) "PeaTube$Tent" "worth" "[I" ∈ Gw := gwt_1 196 rfl rfl
theorem w_333 : Jvm.Cond.fieldLink "PeaTube" (234 : Nat) "PeaTube$Tent" "reach" "[I" ∈ Gw := gwt_1 194 rfl rfl
theorem w_1057 : Jvm.Cond.methodLink "PeaTube$Tent" (158 : Nat) ({ cls := "PeaTube$Tent", name := "fitOf", desc := "(I)I" } : Jvm.MethodName) ∈ Gw := gwt_4 198 rfl rfl
theorem w_1050 : Jvm.Cond.instanceMethod ({ cls := "PeaTube$Tent", name := "fitOf", desc := "(I)I" } : Jvm.MethodName) ∈ Gw := gwt_4 191 rfl rfl
theorem w_1051 : Jvm.Cond.selects "PeaTube$Tent" ({ cls := "PeaTube$Tent", name := "fitOf", desc := "(I)I" } : Jvm.MethodName) ({ cls := "PeaTube$Tent", name := "fitOf", desc := "(I)I" } : Jvm.MethodName) ∈ Gw := gwt_4 192 rfl rfl
theorem w_1045 : Jvm.Cond.methodLink "PeaTube" (241 : Nat) ({ cls := "PeaTube", name := "isPea", desc := "(I)Z" } : Jvm.MethodName) ∈ Gw := gwt_4 186 rfl rfl
theorem w_1047 : Jvm.Cond.instanceMethod ({ cls := "PeaTube", name := "isPea", desc := "(I)Z" } : Jvm.MethodName) ∈ Gw := gwt_4 188 rfl rfl
theorem w_22 : Jvm.Cond.selects "PeaTube" ({ cls := "PeaTube", name := "isPea", desc := "(I)Z" } : Jvm.MethodName) ({ cls := "PeaTube", name := "isPea", desc := "(I)Z" } : Jvm.MethodName) ∈ Gw := gwp_2 6 rfl rfl
theorem w_341 : Jvm.Cond.fieldLink "PeaTube" (247 : Nat) "PeaTube$Tent" "size" "[I" ∈ Gw := gwt_1 202 rfl rfl
theorem w_344 : Jvm.Cond.fieldLink "PeaTube" (250 : Nat) "PeaTube$Tent" "weight" "[I" ∈ Gw := gwt_1 205 rfl rfl
theorem w_347 : Jvm.Cond.fieldLink "PeaTube" (253 : Nat) "PeaTube$Tent" "crooked" "[I" ∈ Gw := gwt_1 208 rfl rfl
theorem w_350 : Jvm.Cond.fieldLink "PeaTube" (256 : Nat) "PeaTube$Tent" "wet" "[I" ∈ Gw := gwt_1 211 rfl rfl
theorem w_1049 : Jvm.Cond.methodLink "PeaTube" (244 : Nat) ({ cls := "PeaTube$Tent", name := "fitOf", desc := "(I)I" } : Jvm.MethodName) ∈ Gw := gwt_4 190 rfl rfl
theorem w_1053 : Jvm.Cond.methodLink "PeaTube" (259 : Nat) ({ cls := "PeaTube$Tent", name := "rattles", desc := "(I)Z" } : Jvm.MethodName) ∈ Gw := gwt_4 194 rfl rfl
theorem w_1054 : Jvm.Cond.instanceMethod ({ cls := "PeaTube$Tent", name := "rattles", desc := "(I)Z" } : Jvm.MethodName) ∈ Gw := gwt_4 195 rfl rfl
theorem w_1055 : Jvm.Cond.selects "PeaTube$Tent" ({ cls := "PeaTube$Tent", name := "rattles", desc := "(I)Z" } : Jvm.MethodName) ({ cls := "PeaTube$Tent", name := "rattles", desc := "(I)Z" } : Jvm.MethodName) ∈ Gw := gwt_4 196 rfl rfl
theorem w_477 : Jvm.Cond.fieldLink "PeaTube$Tally" (69 : Nat) "PeaTube$Tally" "found" "I" ∈ Gw := gwt_2 98 rfl rfl
theorem w_479 : Jvm.Cond.fieldLink "PeaTube$Tally" (72 : Nat) "PeaTube$Tally" "sumX" "J" ∈ Gw := gwt_2 100 rfl rfl
theorem w_481 : Jvm.Cond.fieldLink "PeaTube$Tally" (76 : Nat) "PeaTube$Tally" "sumY" "J" ∈ Gw := gwt_2 102 rfl rfl
theorem w_483 : Jvm.Cond.fieldLink "PeaTube$Tally" (79 : Nat) "PeaTube$Tally" "sumSquares" "J" ∈ Gw := gwt_2 104 rfl rfl
theorem w_466 : Jvm.Cond.fieldLink "PeaTube$Tally" (9 : Nat) "PeaTube$Tally" "holeX" "[I" ∈ Gw := gwt_2 87 rfl rfl
theorem w_468 : Jvm.Cond.fieldLink "PeaTube$Tally" (15 : Nat) "PeaTube$Tally" "holeY" "[I" ∈ Gw := gwt_2 89 rfl rfl
theorem w_472 : Jvm.Cond.fieldLink "PeaTube$Tally" (21 : Nat) "PeaTube$Tally" "holePea" "[I" ∈ Gw := gwt_2 93 rfl rfl
theorem w_470 : Jvm.Cond.fieldLink "PeaTube$Tally" (18 : Nat) "PeaTube$Tally" "holeShooter" "[I" ∈ Gw := gwt_2 91 rfl rfl
theorem w_1062 : Jvm.Cond.methodLink "PeaTube" (262 : Nat) ({ cls := "PeaTube", name := "isShooter", desc := "(I)Z" } : Jvm.MethodName) ∈ Gw := gwt_4 203 rfl rfl
theorem w_1064 : Jvm.Cond.instanceMethod ({ cls := "PeaTube", name := "isShooter", desc := "(I)Z" } : Jvm.MethodName) ∈ Gw := gwt_4 205 rfl rfl
theorem w_23 : Jvm.Cond.selects "PeaTube" ({ cls := "PeaTube", name := "isShooter", desc := "(I)Z" } : Jvm.MethodName) ({ cls := "PeaTube", name := "isShooter", desc := "(I)Z" } : Jvm.MethodName) ∈ Gw := gwp_2 7 rfl rfl
theorem w_357 : Jvm.Cond.fieldLink "PeaTube" (265 : Nat) "PeaTube$Tent" "hardest" "[I" ∈ Gw := gwt_1 218 rfl rfl
theorem w_359 : Jvm.Cond.fieldLink "PeaTube" (268 : Nat) "PeaTube$Tent" "shake" "[I" ∈ Gw := gwt_1 220 rfl rfl
theorem w_362 : Jvm.Cond.fieldLink "PeaTube" (271 : Nat) "PeaTube$Tent" "right" "[I" ∈ Gw := gwt_1 223 rfl rfl
theorem w_365 : Jvm.Cond.fieldLink "PeaTube" (274 : Nat) "PeaTube$Tent" "up" "[I" ∈ Gw := gwt_1 226 rfl rfl
theorem w_476 : Jvm.Cond.fieldLink "PeaTube" (277 : Nat) "PeaTube$Tally" "scores" "[I" ∈ Gw := gwt_2 97 rfl rfl
theorem w_1066 : Jvm.Cond.methodLink "PeaTube" (280 : Nat) ({ cls := "PeaTube$Tally", name := "gather", desc := "(II)V" } : Jvm.MethodName) ∈ Gw := gwt_4 207 rfl rfl
theorem w_1067 : Jvm.Cond.instanceMethod ({ cls := "PeaTube$Tally", name := "gather", desc := "(II)V" } : Jvm.MethodName) ∈ Gw := gwt_4 208 rfl rfl
theorem w_1068 : Jvm.Cond.selects "PeaTube$Tally" ({ cls := "PeaTube$Tally", name := "gather", desc := "(II)V" } : Jvm.MethodName) ({ cls := "PeaTube$Tally", name := "gather", desc := "(II)V" } : Jvm.MethodName) ∈ Gw := gwt_4 209 rfl rfl
theorem w_478 : Jvm.Cond.fieldLink "PeaTube" (283 : Nat) "PeaTube$Tally" "found" "I" ∈ Gw := gwt_2 99 rfl rfl
theorem w_730 : Jvm.Cond.fieldLink "PeaTube" (77 : Nat) "PeaTube" "shot" "LPeaTube$Shot;" ∈ Gw := gwt_3 111 rfl rfl
theorem w_541 : Jvm.Cond.fieldLink "PeaTube" (487 : Nat) "PeaTube$Shot" "shooter" "I" ∈ Gw := gwt_2 162 rfl rfl
theorem w_545 : Jvm.Cond.fieldLink "PeaTube" (490 : Nat) "PeaTube$Shot" "pea" "I" ∈ Gw := gwt_2 166 rfl rfl
theorem w_548 : Jvm.Cond.fieldLink "PeaTube" (493 : Nat) "PeaTube$Shot" "puff" "I" ∈ Gw := gwt_2 169 rfl rfl
theorem w_551 : Jvm.Cond.fieldLink "PeaTube" (496 : Nat) "PeaTube$Shot" "beat" "I" ∈ Gw := gwt_2 172 rfl rfl
theorem w_554 : Jvm.Cond.fieldLink "PeaTube" (499 : Nat) "PeaTube$Shot" "x" "I" ∈ Gw := gwt_2 175 rfl rfl
theorem w_557 : Jvm.Cond.fieldLink "PeaTube" (502 : Nat) "PeaTube$Shot" "y" "I" ∈ Gw := gwt_2 178 rfl rfl
theorem w_560 : Jvm.Cond.fieldLink "PeaTube" (486 : Nat) "PeaTube$Shot" "spit" "I" ∈ Gw := gwt_2 181 rfl rfl
theorem w_563 : Jvm.Cond.fieldLink "PeaTube" (373 : Nat) "PeaTube$Shot" "inches" "I" ∈ Gw := gwt_2 184 rfl rfl
theorem w_546 : Jvm.Cond.fieldLink "PeaTube$Shot" (45 : Nat) "PeaTube$Shot" "puff" "I" ∈ Gw := gwt_2 167 rfl rfl
theorem w_561 : Jvm.Cond.fieldLink "PeaTube$Shot" (48 : Nat) "PeaTube$Shot" "inches" "I" ∈ Gw := gwt_2 182 rfl rfl
theorem w_569 : Jvm.Cond.fieldLink "PeaTube$Shot" (38 : Nat) "PeaTube$Shot" "pace" "I" ∈ Gw := gwt_2 190 rfl rfl
theorem w_325 : Jvm.Cond.fieldLink "PeaTube$Shot" (51 : Nat) "PeaTube$Tent" "far" "I" ∈ Gw := gwt_1 186 rfl rfl
theorem w_571 : Jvm.Cond.fieldLink "PeaTube$Shot" (54 : Nat) "PeaTube$Shot" "time" "I" ∈ Gw := gwt_2 192 rfl rfl
theorem w_573 : Jvm.Cond.fieldLink "PeaTube$Shot" (57 : Nat) "PeaTube$Shot" "drop" "I" ∈ Gw := gwt_2 194 rfl rfl
theorem w_328 : Jvm.Cond.fieldLink "PeaTube$Shot" (60 : Nat) "PeaTube$Tent" "wind" "I" ∈ Gw := gwt_1 189 rfl rfl
theorem w_1095 : Jvm.Cond.methodLink "PeaTube$Shot" (63 : Nat) ({ cls := "java/lang/Math", name := "abs", desc := "(I)I" } : Jvm.MethodName) ∈ Gw := gwt_4 236 rfl rfl
theorem w_1096 : Jvm.Cond.static ({ cls := "java/lang/Math", name := "abs", desc := "(I)I" } : Jvm.MethodName) ∈ Gw := gwt_4 237 rfl rfl
theorem w_1097 : Jvm.Cond.code ({ cls := "java/lang/Math", name := "abs", desc := "(I)I" } : Jvm.MethodName) prog_15_method_59_code (1 : Nat) (Option.some Jvm.ClassFile.FieldType.int) ∈ Gw := gwt_4 238 rfl rfl
theorem w_575 : Jvm.Cond.fieldLink "PeaTube$Shot" (68 : Nat) "PeaTube$Shot" "aside" "I" ∈ Gw := gwt_2 196 rfl rfl
theorem w_346 : Jvm.Cond.fieldLink "PeaTube$Shot" (71 : Nat) "PeaTube$Tent" "crooked" "[I" ∈ Gw := gwt_1 207 rfl rfl
theorem w_542 : Jvm.Cond.fieldLink "PeaTube$Shot" (9 : Nat) "PeaTube$Shot" "pea" "I" ∈ Gw := gwt_2 163 rfl rfl
theorem w_1098 : Jvm.Cond.methodLink "PeaTube$Shot" (74 : Nat) ({ cls := "PeaTube$Tent", name := "rattles", desc := "(I)Z" } : Jvm.MethodName) ∈ Gw := gwt_4 239 rfl rfl
theorem w_579 : Jvm.Cond.fieldLink "PeaTube$Shot" (78 : Nat) "PeaTube$Shot" "off" "I" ∈ Gw := gwt_2 200 rfl rfl
theorem w_1086 : Jvm.Cond.methodLink "PeaTube$Shot" (15 : Nat) ({ cls := "PeaTube$Tent", name := "fitOf", desc := "(I)I" } : Jvm.MethodName) ∈ Gw := gwt_4 227 rfl rfl
theorem w_349 : Jvm.Cond.fieldLink "PeaTube$Shot" (24 : Nat) "PeaTube$Tent" "wet" "[I" ∈ Gw := gwt_1 210 rfl rfl
theorem w_343 : Jvm.Cond.fieldLink "PeaTube$Shot" (28 : Nat) "PeaTube$Tent" "weight" "[I" ∈ Gw := gwt_1 204 rfl rfl
theorem w_558 : Jvm.Cond.fieldLink "PeaTube$Shot" (31 : Nat) "PeaTube$Shot" "spit" "I" ∈ Gw := gwt_2 179 rfl rfl
theorem w_1087 : Jvm.Cond.methodLink "PeaTube$Shot" (34 : Nat) ({ cls := "PeaTube$Shot", name := "paceOf", desc := "(IZ)I" } : Jvm.MethodName) ∈ Gw := gwt_4 228 rfl rfl
theorem w_1089 : Jvm.Cond.instanceMethod ({ cls := "PeaTube$Shot", name := "paceOf", desc := "(IZ)I" } : Jvm.MethodName) ∈ Gw := gwt_4 230 rfl rfl
theorem w_26 : Jvm.Cond.selects "PeaTube$Shot" ({ cls := "PeaTube$Shot", name := "paceOf", desc := "(IZ)I" } : Jvm.MethodName) ({ cls := "PeaTube$Shot", name := "paceOf", desc := "(IZ)I" } : Jvm.MethodName) ∈ Gw := gwp_2 10 rfl rfl
theorem w_564 : Jvm.Cond.fieldLink "PeaTube$Shot" (21 : Nat) "PeaTube$Shot" "fate" "I" ∈ Gw := gwt_2 185 rfl rfl
theorem w_1091 : Jvm.Cond.methodLink "PeaTube$Shot" (41 : Nat) ({ cls := "PeaTube$Shot", name := "fly", desc := "(LPeaTube$Tent;)V" } : Jvm.MethodName) ∈ Gw := gwt_4 232 rfl rfl
theorem w_1093 : Jvm.Cond.instanceMethod ({ cls := "PeaTube$Shot", name := "fly", desc := "(LPeaTube$Tent;)V" } : Jvm.MethodName) ∈ Gw := gwt_4 234 rfl rfl
theorem w_27 : Jvm.Cond.selects "PeaTube$Shot" ({ cls := "PeaTube$Shot", name := "fly", desc := "(LPeaTube$Tent;)V" } : Jvm.MethodName) ({ cls := "PeaTube$Shot", name := "fly", desc := "(LPeaTube$Tent;)V" } : Jvm.MethodName) ∈ Gw := gwp_2 11 rfl rfl
theorem w_1078 : Jvm.Cond.methodLink "PeaTube" (312 : Nat) ({ cls := "PeaTube", name := "takeShot", desc := "(IIIIII)V" } : Jvm.MethodName) ∈ Gw := gwt_4 219 rfl rfl
theorem w_1080 : Jvm.Cond.instanceMethod ({ cls := "PeaTube", name := "takeShot", desc := "(IIIIII)V" } : Jvm.MethodName) ∈ Gw := gwt_4 221 rfl rfl
theorem w_25 : Jvm.Cond.selects "PeaTube" ({ cls := "PeaTube", name := "takeShot", desc := "(IIIIII)V" } : Jvm.MethodName) ({ cls := "PeaTube", name := "takeShot", desc := "(IIIIII)V" } : Jvm.MethodName) ∈ Gw := gwp_2 9 rfl rfl
theorem w_1082 : Jvm.Cond.methodLink "PeaTube" (316 : Nat) ({ cls := "PeaTube$Shot", name := "reckon", desc := "(LPeaTube$Tent;)V" } : Jvm.MethodName) ∈ Gw := gwt_4 223 rfl rfl
theorem w_1083 : Jvm.Cond.instanceMethod ({ cls := "PeaTube$Shot", name := "reckon", desc := "(LPeaTube$Tent;)V" } : Jvm.MethodName) ∈ Gw := gwt_4 224 rfl rfl
theorem w_1084 : Jvm.Cond.selects "PeaTube$Shot" ({ cls := "PeaTube$Shot", name := "reckon", desc := "(LPeaTube$Tent;)V" } : Jvm.MethodName) ({ cls := "PeaTube$Shot", name := "reckon", desc := "(LPeaTube$Tent;)V" } : Jvm.MethodName) ∈ Gw := gwt_4 225 rfl rfl
theorem w_1074 : Jvm.Cond.methodLink "PeaTube" (286 : Nat) ({ cls := "PeaTube", name := "wrongFlight", desc := "(III)I" } : Jvm.MethodName) ∈ Gw := gwt_4 215 rfl rfl
theorem w_1076 : Jvm.Cond.instanceMethod ({ cls := "PeaTube", name := "wrongFlight", desc := "(III)I" } : Jvm.MethodName) ∈ Gw := gwt_4 217 rfl rfl
theorem w_24 : Jvm.Cond.selects "PeaTube" ({ cls := "PeaTube", name := "wrongFlight", desc := "(III)I" } : Jvm.MethodName) ({ cls := "PeaTube", name := "wrongFlight", desc := "(III)I" } : Jvm.MethodName) ∈ Gw := gwp_2 8 rfl rfl
theorem w_568 : Jvm.Cond.fieldLink "PeaTube" (290 : Nat) "PeaTube$Shot" "fate" "I" ∈ Gw := gwt_2 189 rfl rfl
theorem w_570 : Jvm.Cond.fieldLink "PeaTube" (293 : Nat) "PeaTube$Shot" "pace" "I" ∈ Gw := gwt_2 191 rfl rfl
theorem w_572 : Jvm.Cond.fieldLink "PeaTube" (296 : Nat) "PeaTube$Shot" "time" "I" ∈ Gw := gwt_2 193 rfl rfl
theorem w_574 : Jvm.Cond.fieldLink "PeaTube" (299 : Nat) "PeaTube$Shot" "drop" "I" ∈ Gw := gwt_2 195 rfl rfl
theorem w_576 : Jvm.Cond.fieldLink "PeaTube" (302 : Nat) "PeaTube$Shot" "aside" "I" ∈ Gw := gwt_2 197 rfl rfl
theorem w_581 : Jvm.Cond.fieldLink "PeaTube" (305 : Nat) "PeaTube$Shot" "off" "I" ∈ Gw := gwt_2 202 rfl rfl
theorem w_553 : Jvm.Cond.fieldLink "PeaTube$Shot" (81 : Nat) "PeaTube$Shot" "x" "I" ∈ Gw := gwt_2 174 rfl rfl
theorem w_361 : Jvm.Cond.fieldLink "PeaTube$Shot" (84 : Nat) "PeaTube$Tent" "right" "[I" ∈ Gw := gwt_1 222 rfl rfl
theorem w_539 : Jvm.Cond.fieldLink "PeaTube$Shot" (87 : Nat) "PeaTube$Shot" "shooter" "I" ∈ Gw := gwt_2 160 rfl rfl
theorem w_556 : Jvm.Cond.fieldLink "PeaTube$Shot" (90 : Nat) "PeaTube$Shot" "y" "I" ∈ Gw := gwt_2 177 rfl rfl
theorem w_364 : Jvm.Cond.fieldLink "PeaTube$Shot" (93 : Nat) "PeaTube$Tent" "up" "[I" ∈ Gw := gwt_1 225 rfl rfl
theorem w_1111 : Jvm.Cond.methodLink "PeaTube" (308 : Nat) ({ cls := "PeaTube", name := "wrongShot", desc := "(IIIIII)I" } : Jvm.MethodName) ∈ Gw := gwt_5 12 rfl rfl
theorem w_1113 : Jvm.Cond.instanceMethod ({ cls := "PeaTube", name := "wrongShot", desc := "(IIIIII)I" } : Jvm.MethodName) ∈ Gw := gwt_5 14 rfl rfl
theorem w_28 : Jvm.Cond.selects "PeaTube" ({ cls := "PeaTube", name := "wrongShot", desc := "(IIIIII)I" } : Jvm.MethodName) ({ cls := "PeaTube", name := "wrongShot", desc := "(IIIIII)I" } : Jvm.MethodName) ∈ Gw := gwp_2 12 rfl rfl
theorem w_1119 : Jvm.Cond.methodLink "PeaTube" (324 : Nat) ({ cls := "PeaTube$Shot", name := "strikeY", desc := "(LPeaTube$Tent;)I" } : Jvm.MethodName) ∈ Gw := gwt_5 20 rfl rfl
theorem w_1120 : Jvm.Cond.instanceMethod ({ cls := "PeaTube$Shot", name := "strikeY", desc := "(LPeaTube$Tent;)I" } : Jvm.MethodName) ∈ Gw := gwt_5 21 rfl rfl
theorem w_1121 : Jvm.Cond.selects "PeaTube$Shot" ({ cls := "PeaTube$Shot", name := "strikeY", desc := "(LPeaTube$Tent;)I" } : Jvm.MethodName) ({ cls := "PeaTube$Shot", name := "strikeY", desc := "(LPeaTube$Tent;)I" } : Jvm.MethodName) ∈ Gw := gwt_5 22 rfl rfl
theorem w_1115 : Jvm.Cond.methodLink "PeaTube" (320 : Nat) ({ cls := "PeaTube$Shot", name := "strikeX", desc := "(LPeaTube$Tent;I)I" } : Jvm.MethodName) ∈ Gw := gwt_5 16 rfl rfl
theorem w_1116 : Jvm.Cond.instanceMethod ({ cls := "PeaTube$Shot", name := "strikeX", desc := "(LPeaTube$Tent;I)I" } : Jvm.MethodName) ∈ Gw := gwt_5 17 rfl rfl
theorem w_1117 : Jvm.Cond.selects "PeaTube$Shot" ({ cls := "PeaTube$Shot", name := "strikeX", desc := "(LPeaTube$Tent;I)I" } : Jvm.MethodName) ({ cls := "PeaTube$Shot", name := "strikeX", desc := "(LPeaTube$Tent;I)I" } : Jvm.MethodName) ∈ Gw := gwt_5 18 rfl rfl
theorem w_1131 : Jvm.Cond.methodLink "PeaTube$Tent" (168 : Nat) ({ cls := "PeaTube$Tent", name := "lastRing", desc := "(II)I" } : Jvm.MethodName) ∈ Gw := gwt_5 32 rfl rfl
theorem w_1132 : Jvm.Cond.instanceMethod ({ cls := "PeaTube$Tent", name := "lastRing", desc := "(II)I" } : Jvm.MethodName) ∈ Gw := gwt_5 33 rfl rfl
theorem w_1133 : Jvm.Cond.selects "PeaTube$Tent" ({ cls := "PeaTube$Tent", name := "lastRing", desc := "(II)I" } : Jvm.MethodName) ({ cls := "PeaTube$Tent", name := "lastRing", desc := "(II)I" } : Jvm.MethodName) ∈ Gw := gwt_5 34 rfl rfl
theorem w_1127 : Jvm.Cond.methodLink "PeaTube" (328 : Nat) ({ cls := "PeaTube$Tent", name := "worthAt", desc := "(II)I" } : Jvm.MethodName) ∈ Gw := gwt_5 28 rfl rfl
theorem w_1128 : Jvm.Cond.instanceMethod ({ cls := "PeaTube$Tent", name := "worthAt", desc := "(II)I" } : Jvm.MethodName) ∈ Gw := gwt_5 29 rfl rfl
theorem w_1129 : Jvm.Cond.selects "PeaTube$Tent" ({ cls := "PeaTube$Tent", name := "worthAt", desc := "(II)I" } : Jvm.MethodName) ({ cls := "PeaTube$Tent", name := "worthAt", desc := "(II)I" } : Jvm.MethodName) ∈ Gw := gwt_5 30 rfl rfl
theorem w_1139 : Jvm.Cond.methodLink "PeaTube" (331 : Nat) ({ cls := "PeaTube$Tent", name := "lastRing", desc := "(II)I" } : Jvm.MethodName) ∈ Gw := gwt_5 40 rfl rfl
theorem w_1148 : Jvm.Cond.methodLink "PeaTube$Tent" (162 : Nat) ({ cls := "java/lang/Math", name := "min", desc := "(II)I" } : Jvm.MethodName) ∈ Gw := gwt_5 49 rfl rfl
theorem w_1144 : Jvm.Cond.methodLink "PeaTube" (334 : Nat) ({ cls := "PeaTube$Tent", name := "shakeOn", desc := "(II)I" } : Jvm.MethodName) ∈ Gw := gwt_5 45 rfl rfl
theorem w_1145 : Jvm.Cond.instanceMethod ({ cls := "PeaTube$Tent", name := "shakeOn", desc := "(II)I" } : Jvm.MethodName) ∈ Gw := gwt_5 46 rfl rfl
theorem w_1146 : Jvm.Cond.selects "PeaTube$Tent" ({ cls := "PeaTube$Tent", name := "shakeOn", desc := "(II)I" } : Jvm.MethodName) ({ cls := "PeaTube$Tent", name := "shakeOn", desc := "(II)I" } : Jvm.MethodName) ∈ Gw := gwt_5 47 rfl rfl
theorem w_617 : Jvm.Cond.fieldLink "PeaTube$Chances" (9 : Nat) "PeaTube$Chances" "counts" "[I" ∈ Gw := gwt_2 238 rfl rfl
theorem w_1166 : Jvm.Cond.methodLink "PeaTube$Chances" (65 : Nat) ({ cls := "PeaTube$Tent", name := "worthAt", desc := "(II)I" } : Jvm.MethodName) ∈ Gw := gwt_5 67 rfl rfl
theorem w_1157 : Jvm.Cond.methodLink "PeaTube$Chances" (19 : Nat) ({ cls := "java/util/Arrays", name := "fill", desc := "([II)V" } : Jvm.MethodName) ∈ Gw := gwt_5 58 rfl rfl
theorem w_1158 : Jvm.Cond.methodLink "PeaTube$Chances" (25 : Nat) ({ cls := "PeaTube$Shot", name := "reckon", desc := "(LPeaTube$Tent;)V" } : Jvm.MethodName) ∈ Gw := gwt_5 59 rfl rfl
theorem w_536 : Jvm.Cond.fieldLink "PeaTube$Chances" (31 : Nat) "PeaTube$Shot" "shooter" "I" ∈ Gw := gwt_2 157 rfl rfl
theorem w_549 : Jvm.Cond.fieldLink "PeaTube$Chances" (35 : Nat) "PeaTube$Shot" "beat" "I" ∈ Gw := gwt_2 170 rfl rfl
theorem w_1159 : Jvm.Cond.methodLink "PeaTube$Chances" (38 : Nat) ({ cls := "PeaTube$Tent", name := "shakeOn", desc := "(II)I" } : Jvm.MethodName) ∈ Gw := gwt_5 60 rfl rfl
theorem w_618 : Jvm.Cond.fieldLink "PeaTube$Chances" (44 : Nat) "PeaTube$Chances" "all" "I" ∈ Gw := gwt_2 239 rfl rfl
theorem w_565 : Jvm.Cond.fieldLink "PeaTube$Chances" (47 : Nat) "PeaTube$Shot" "fate" "I" ∈ Gw := gwt_2 186 rfl rfl
theorem w_1160 : Jvm.Cond.methodLink "PeaTube$Chances" (50 : Nat) ({ cls := "PeaTube$Shot", name := "strikeY", desc := "(LPeaTube$Tent;)I" } : Jvm.MethodName) ∈ Gw := gwt_5 61 rfl rfl
theorem w_577 : Jvm.Cond.fieldLink "PeaTube$Chances" (54 : Nat) "PeaTube$Shot" "off" "I" ∈ Gw := gwt_2 198 rfl rfl
theorem w_1161 : Jvm.Cond.methodLink "PeaTube$Chances" (57 : Nat) ({ cls := "PeaTube$Shot", name := "strikeX", desc := "(LPeaTube$Tent;I)I" } : Jvm.MethodName) ∈ Gw := gwt_5 62 rfl rfl
theorem w_1162 : Jvm.Cond.methodLink "PeaTube$Chances" (61 : Nat) ({ cls := "PeaTube$Chances", name := "count", desc := "(LPeaTube$Tent;IIII)V" } : Jvm.MethodName) ∈ Gw := gwt_5 63 rfl rfl
theorem w_1164 : Jvm.Cond.instanceMethod ({ cls := "PeaTube$Chances", name := "count", desc := "(LPeaTube$Tent;IIII)V" } : Jvm.MethodName) ∈ Gw := gwt_5 65 rfl rfl
theorem w_29 : Jvm.Cond.selects "PeaTube$Chances" ({ cls := "PeaTube$Chances", name := "count", desc := "(LPeaTube$Tent;IIII)V" } : Jvm.MethodName) ({ cls := "PeaTube$Chances", name := "count", desc := "(LPeaTube$Tent;IIII)V" } : Jvm.MethodName) ∈ Gw := gwp_2 13 rfl rfl
theorem w_1171 : Jvm.Cond.methodLink "PeaTube$Chances" (68 : Nat) ({ cls := "java/lang/Math", name := "max", desc := "(II)I" } : Jvm.MethodName) ∈ Gw := gwt_5 72 rfl rfl
theorem w_1176 : Jvm.Cond.methodLink "PeaTube" (478 : Nat) ({ cls := "java/lang/Math", name := "abs", desc := "(J)J" } : Jvm.MethodName) ∈ Gw := gwt_5 77 rfl rfl
theorem w_1177 : Jvm.Cond.static ({ cls := "java/lang/Math", name := "abs", desc := "(J)J" } : Jvm.MethodName) ∈ Gw := gwt_5 78 rfl rfl
theorem w_1178 : Jvm.Cond.code ({ cls := "java/lang/Math", name := "abs", desc := "(J)J" } : Jvm.MethodName) prog_15_method_61_code (2 : Nat) (Option.some Jvm.ClassFile.FieldType.long) ∈ Gw := gwt_5 79 rfl rfl
theorem w_1179 : Jvm.Cond.methodLink "PeaTube" (482 : Nat) ({ cls := "PeaTube", name := "commonDivisor", desc := "(JJ)J" } : Jvm.MethodName) ∈ Gw := gwt_5 80 rfl rfl
theorem w_1180 : Jvm.Cond.static ({ cls := "PeaTube", name := "commonDivisor", desc := "(JJ)J" } : Jvm.MethodName) ∈ Gw := gwt_5 81 rfl rfl
theorem w_731 : Jvm.Cond.fieldLink "PeaTube" (84 : Nat) "PeaTube" "chances" "LPeaTube$Chances;" ∈ Gw := gwt_3 112 rfl rfl
theorem w_1153 : Jvm.Cond.methodLink "PeaTube" (337 : Nat) ({ cls := "PeaTube$Chances", name := "reckon", desc := "(LPeaTube$Tent;LPeaTube$Shot;)V" } : Jvm.MethodName) ∈ Gw := gwt_5 54 rfl rfl
theorem w_1154 : Jvm.Cond.instanceMethod ({ cls := "PeaTube$Chances", name := "reckon", desc := "(LPeaTube$Tent;LPeaTube$Shot;)V" } : Jvm.MethodName) ∈ Gw := gwt_5 55 rfl rfl
theorem w_1155 : Jvm.Cond.selects "PeaTube$Chances" ({ cls := "PeaTube$Chances", name := "reckon", desc := "(LPeaTube$Tent;LPeaTube$Shot;)V" } : Jvm.MethodName) ({ cls := "PeaTube$Chances", name := "reckon", desc := "(LPeaTube$Tent;LPeaTube$Shot;)V" } : Jvm.MethodName) ∈ Gw := gwt_5 56 rfl rfl
theorem w_1167 : Jvm.Cond.methodLink "PeaTube" (340 : Nat) ({ cls := "PeaTube$Chances", name := "atLeast", desc := "(I)J" } : Jvm.MethodName) ∈ Gw := gwt_5 68 rfl rfl
theorem w_1168 : Jvm.Cond.instanceMethod ({ cls := "PeaTube$Chances", name := "atLeast", desc := "(I)J" } : Jvm.MethodName) ∈ Gw := gwt_5 69 rfl rfl
theorem w_1169 : Jvm.Cond.selects "PeaTube$Chances" ({ cls := "PeaTube$Chances", name := "atLeast", desc := "(I)J" } : Jvm.MethodName) ({ cls := "PeaTube$Chances", name := "atLeast", desc := "(I)J" } : Jvm.MethodName) ∈ Gw := gwt_5 70 rfl rfl
theorem w_619 : Jvm.Cond.fieldLink "PeaTube" (344 : Nat) "PeaTube$Chances" "all" "I" ∈ Gw := gwt_3 0 rfl rfl
theorem w_1172 : Jvm.Cond.methodLink "PeaTube" (347 : Nat) ({ cls := "PeaTube", name := "tell", desc := "(JJ)V" } : Jvm.MethodName) ∈ Gw := gwt_5 73 rfl rfl
theorem w_1174 : Jvm.Cond.instanceMethod ({ cls := "PeaTube", name := "tell", desc := "(JJ)V" } : Jvm.MethodName) ∈ Gw := gwt_5 75 rfl rfl
theorem w_30 : Jvm.Cond.selects "PeaTube" ({ cls := "PeaTube", name := "tell", desc := "(JJ)V" } : Jvm.MethodName) ({ cls := "PeaTube", name := "tell", desc := "(JJ)V" } : Jvm.MethodName) ∈ Gw := gwp_2 14 rfl rfl
theorem w_1186 : Jvm.Cond.methodLink "PeaTube" (351 : Nat) ({ cls := "PeaTube$Chances", name := "sum", desc := "()J" } : Jvm.MethodName) ∈ Gw := gwt_5 87 rfl rfl
theorem w_1187 : Jvm.Cond.instanceMethod ({ cls := "PeaTube$Chances", name := "sum", desc := "()J" } : Jvm.MethodName) ∈ Gw := gwt_5 88 rfl rfl
theorem w_1188 : Jvm.Cond.selects "PeaTube$Chances" ({ cls := "PeaTube$Chances", name := "sum", desc := "()J" } : Jvm.MethodName) ({ cls := "PeaTube$Chances", name := "sum", desc := "()J" } : Jvm.MethodName) ∈ Gw := gwt_5 89 rfl rfl
theorem w_648 : Jvm.Cond.fieldLink "PeaTube$Best" (9 : Nat) "PeaTube$Best" "any" "Z" ∈ Gw := gwt_3 29 rfl rfl
theorem w_650 : Jvm.Cond.fieldLink "PeaTube$Best" (15 : Nat) "PeaTube$Best" "which" "I" ∈ Gw := gwt_3 31 rfl rfl
theorem w_652 : Jvm.Cond.fieldLink "PeaTube$Best" (19 : Nat) "PeaTube$Best" "top" "J" ∈ Gw := gwt_3 33 rfl rfl
theorem w_654 : Jvm.Cond.fieldLink "PeaTube$Best" (23 : Nat) "PeaTube$Best" "bottom" "J" ∈ Gw := gwt_3 35 rfl rfl
theorem w_1219 : Jvm.Cond.methodLink "PeaTube$AimSearch" (71 : Nat) ({ cls := "PeaTube$Shot", name := "strikeY", desc := "(LPeaTube$Tent;)I" } : Jvm.MethodName) ∈ Gw := gwt_5 120 rfl rfl
theorem w_636 : Jvm.Cond.fieldLink "PeaTube$AimSearch" (15 : Nat) "PeaTube$AimSearch" "column" "[I" ∈ Gw := gwt_3 17 rfl rfl
theorem w_1220 : Jvm.Cond.methodLink "PeaTube$AimSearch" (75 : Nat) ({ cls := "PeaTube$Tent", name := "worthAt", desc := "(II)I" } : Jvm.MethodName) ∈ Gw := gwt_5 121 rfl rfl
theorem w_635 : Jvm.Cond.fieldLink "PeaTube$AimSearch" (9 : Nat) "PeaTube$AimSearch" "sums" "[I" ∈ Gw := gwt_3 16 rfl rfl
theorem w_578 : Jvm.Cond.fieldLink "PeaTube$AimSearch" (61 : Nat) "PeaTube$Shot" "off" "I" ∈ Gw := gwt_2 199 rfl rfl
theorem w_1214 : Jvm.Cond.methodLink "PeaTube$AimSearch" (64 : Nat) ({ cls := "PeaTube$Shot", name := "strikeX", desc := "(LPeaTube$Tent;I)I" } : Jvm.MethodName) ∈ Gw := gwt_5 115 rfl rfl
theorem w_1215 : Jvm.Cond.methodLink "PeaTube$AimSearch" (68 : Nat) ({ cls := "PeaTube$AimSearch", name := "addColumn", desc := "(LPeaTube$Tent;LPeaTube$Shot;III)V" } : Jvm.MethodName) ∈ Gw := gwt_5 116 rfl rfl
theorem w_1217 : Jvm.Cond.instanceMethod ({ cls := "PeaTube$AimSearch", name := "addColumn", desc := "(LPeaTube$Tent;LPeaTube$Shot;III)V" } : Jvm.MethodName) ∈ Gw := gwt_5 118 rfl rfl
theorem w_32 : Jvm.Cond.selects "PeaTube$AimSearch" ({ cls := "PeaTube$AimSearch", name := "addColumn", desc := "(LPeaTube$Tent;LPeaTube$Shot;III)V" } : Jvm.MethodName) ({ cls := "PeaTube$AimSearch", name := "addColumn", desc := "(LPeaTube$Tent;LPeaTube$Shot;III)V" } : Jvm.MethodName) ∈ Gw := gwp_3 0 rfl rfl
theorem w_1202 : Jvm.Cond.methodLink "PeaTube$AimSearch" (18 : Nat) ({ cls := "java/util/Arrays", name := "fill", desc := "([II)V" } : Jvm.MethodName) ∈ Gw := gwt_5 103 rfl rfl
theorem w_1203 : Jvm.Cond.methodLink "PeaTube$AimSearch" (24 : Nat) ({ cls := "PeaTube$Shot", name := "reckon", desc := "(LPeaTube$Tent;)V" } : Jvm.MethodName) ∈ Gw := gwt_5 104 rfl rfl
theorem w_537 : Jvm.Cond.fieldLink "PeaTube$AimSearch" (30 : Nat) "PeaTube$Shot" "shooter" "I" ∈ Gw := gwt_2 158 rfl rfl
theorem w_550 : Jvm.Cond.fieldLink "PeaTube$AimSearch" (34 : Nat) "PeaTube$Shot" "beat" "I" ∈ Gw := gwt_2 171 rfl rfl
theorem w_1204 : Jvm.Cond.methodLink "PeaTube$AimSearch" (37 : Nat) ({ cls := "PeaTube$Tent", name := "shakeOn", desc := "(II)I" } : Jvm.MethodName) ∈ Gw := gwt_5 105 rfl rfl
theorem w_1205 : Jvm.Cond.methodLink "PeaTube$AimSearch" (43 : Nat) ({ cls := "java/lang/Math", name := "min", desc := "(II)I" } : Jvm.MethodName) ∈ Gw := gwt_5 106 rfl rfl
theorem w_566 : Jvm.Cond.fieldLink "PeaTube$AimSearch" (48 : Nat) "PeaTube$Shot" "fate" "I" ∈ Gw := gwt_2 187 rfl rfl
theorem w_1210 : Jvm.Cond.methodLink "PeaTube$AimSearch" (57 : Nat) ({ cls := "PeaTube$AimSearch", name := "addColumns", desc := "(LPeaTube$Tent;LPeaTube$Shot;III)V" } : Jvm.MethodName) ∈ Gw := gwt_5 111 rfl rfl
theorem w_1212 : Jvm.Cond.instanceMethod ({ cls := "PeaTube$AimSearch", name := "addColumns", desc := "(LPeaTube$Tent;LPeaTube$Shot;III)V" } : Jvm.MethodName) ∈ Gw := gwt_5 113 rfl rfl
theorem w_31 : Jvm.Cond.selects "PeaTube$AimSearch" ({ cls := "PeaTube$AimSearch", name := "addColumns", desc := "(LPeaTube$Tent;LPeaTube$Shot;III)V" } : Jvm.MethodName) ({ cls := "PeaTube$AimSearch", name := "addColumns", desc := "(LPeaTube$Tent;LPeaTube$Shot;III)V" } : Jvm.MethodName) ∈ Gw := gwp_2 15 rfl rfl
theorem w_1206 : Jvm.Cond.methodLink "PeaTube$AimSearch" (51 : Nat) ({ cls := "PeaTube$Best", name := "offer", desc := "(IJJ)V" } : Jvm.MethodName) ∈ Gw := gwt_5 107 rfl rfl
theorem w_1207 : Jvm.Cond.instanceMethod ({ cls := "PeaTube$Best", name := "offer", desc := "(IJJ)V" } : Jvm.MethodName) ∈ Gw := gwt_5 108 rfl rfl
theorem w_1208 : Jvm.Cond.selects "PeaTube$Best" ({ cls := "PeaTube$Best", name := "offer", desc := "(IJJ)V" } : Jvm.MethodName) ({ cls := "PeaTube$Best", name := "offer", desc := "(IJJ)V" } : Jvm.MethodName) ∈ Gw := gwt_5 109 rfl rfl
theorem w_734 : Jvm.Cond.fieldLink "PeaTube" (102 : Nat) "PeaTube" "best" "LPeaTube$Best;" ∈ Gw := gwt_3 115 rfl rfl
theorem w_1194 : Jvm.Cond.methodLink "PeaTube" (355 : Nat) ({ cls := "PeaTube$Best", name := "begin", desc := "()V" } : Jvm.MethodName) ∈ Gw := gwt_5 95 rfl rfl
theorem w_1195 : Jvm.Cond.instanceMethod ({ cls := "PeaTube$Best", name := "begin", desc := "()V" } : Jvm.MethodName) ∈ Gw := gwt_5 96 rfl rfl
theorem w_1196 : Jvm.Cond.selects "PeaTube$Best" ({ cls := "PeaTube$Best", name := "begin", desc := "()V" } : Jvm.MethodName) ({ cls := "PeaTube$Best", name := "begin", desc := "()V" } : Jvm.MethodName) ∈ Gw := gwt_5 97 rfl rfl
theorem w_733 : Jvm.Cond.fieldLink "PeaTube" (95 : Nat) "PeaTube" "aims" "LPeaTube$AimSearch;" ∈ Gw := gwt_3 114 rfl rfl
theorem w_1198 : Jvm.Cond.methodLink "PeaTube" (357 : Nat) ({ cls := "PeaTube$AimSearch", name := "search", desc := "(LPeaTube$Tent;LPeaTube$Shot;LPeaTube$Best;)V" } : Jvm.MethodName) ∈ Gw := gwt_5 99 rfl rfl
theorem w_1199 : Jvm.Cond.instanceMethod ({ cls := "PeaTube$AimSearch", name := "search", desc := "(LPeaTube$Tent;LPeaTube$Shot;LPeaTube$Best;)V" } : Jvm.MethodName) ∈ Gw := gwt_5 100 rfl rfl
theorem w_1200 : Jvm.Cond.selects "PeaTube$AimSearch" ({ cls := "PeaTube$AimSearch", name := "search", desc := "(LPeaTube$Tent;LPeaTube$Shot;LPeaTube$Best;)V" } : Jvm.MethodName) ({ cls := "PeaTube$AimSearch", name := "search", desc := "(LPeaTube$Tent;LPeaTube$Shot;LPeaTube$Best;)V" } : Jvm.MethodName) ∈ Gw := gwt_5 101 rfl rfl
theorem w_653 : Jvm.Cond.fieldLink "PeaTube" (361 : Nat) "PeaTube$Best" "top" "J" ∈ Gw := gwt_3 34 rfl rfl
theorem w_655 : Jvm.Cond.fieldLink "PeaTube" (362 : Nat) "PeaTube$Best" "bottom" "J" ∈ Gw := gwt_3 36 rfl rfl
theorem w_651 : Jvm.Cond.fieldLink "PeaTube" (363 : Nat) "PeaTube$Best" "which" "I" ∈ Gw := gwt_3 32 rfl rfl
theorem w_1229 : Jvm.Cond.methodLink "PeaTube" (380 : Nat) ({ cls := "PeaTube$Best", name := "offer", desc := "(IJJ)V" } : Jvm.MethodName) ∈ Gw := gwt_5 130 rfl rfl
theorem w_1225 : Jvm.Cond.methodLink "PeaTube" (366 : Nat) ({ cls := "PeaTube", name := "offerMean", desc := "(I)V" } : Jvm.MethodName) ∈ Gw := gwt_5 126 rfl rfl
theorem w_1227 : Jvm.Cond.instanceMethod ({ cls := "PeaTube", name := "offerMean", desc := "(I)V" } : Jvm.MethodName) ∈ Gw := gwt_5 128 rfl rfl
theorem w_33 : Jvm.Cond.selects "PeaTube" ({ cls := "PeaTube", name := "offerMean", desc := "(I)V" } : Jvm.MethodName) ({ cls := "PeaTube", name := "offerMean", desc := "(I)V" } : Jvm.MethodName) ∈ Gw := gwp_3 1 rfl rfl
theorem w_1230 : Jvm.Cond.methodLink "PeaTube" (369 : Nat) ({ cls := "PeaTube", name := "answerBest", desc := "()I" } : Jvm.MethodName) ∈ Gw := gwt_5 131 rfl rfl
theorem w_1232 : Jvm.Cond.instanceMethod ({ cls := "PeaTube", name := "answerBest", desc := "()I" } : Jvm.MethodName) ∈ Gw := gwt_5 133 rfl rfl
theorem w_34 : Jvm.Cond.selects "PeaTube" ({ cls := "PeaTube", name := "answerBest", desc := "()I" } : Jvm.MethodName) ({ cls := "PeaTube", name := "answerBest", desc := "()I" } : Jvm.MethodName) ∈ Gw := gwp_3 2 rfl rfl
theorem w_1250 : Jvm.Cond.methodLink "PeaTube" (374 : Nat) ({ cls := "PeaTube", name := "sumOfSeries", desc := "(II)J" } : Jvm.MethodName) ∈ Gw := gwt_5 151 rfl rfl
theorem w_1252 : Jvm.Cond.instanceMethod ({ cls := "PeaTube", name := "sumOfSeries", desc := "(II)J" } : Jvm.MethodName) ∈ Gw := gwt_5 153 rfl rfl
theorem w_35 : Jvm.Cond.selects "PeaTube" ({ cls := "PeaTube", name := "sumOfSeries", desc := "(II)J" } : Jvm.MethodName) ({ cls := "PeaTube", name := "sumOfSeries", desc := "(II)J" } : Jvm.MethodName) ∈ Gw := gwp_3 3 rfl rfl
theorem w_1258 : Jvm.Cond.constantLong "PeaTube" (378 : Nat) (16 : Int64) ∈ Gw := gwt_5 159 rfl rfl
theorem w_620 : Jvm.Cond.fieldLink "PeaTube$Chances" (15 : Nat) "PeaTube$Chances" "ways" "[J" ∈ Gw := gwt_3 1 rfl rfl
theorem w_1271 : Jvm.Cond.methodLink "PeaTube$Chances" (73 : Nat) ({ cls := "java/util/Arrays", name := "fill", desc := "([JJ)V" } : Jvm.MethodName) ∈ Gw := gwt_5 172 rfl rfl
theorem w_1272 : Jvm.Cond.methodLink "PeaTube$Chances" (76 : Nat) ({ cls := "PeaTube$Chances", name := "waysWithOneMore", desc := "(I)J" } : Jvm.MethodName) ∈ Gw := gwt_5 173 rfl rfl
theorem w_1274 : Jvm.Cond.instanceMethod ({ cls := "PeaTube$Chances", name := "waysWithOneMore", desc := "(I)J" } : Jvm.MethodName) ∈ Gw := gwt_5 175 rfl rfl
theorem w_37 : Jvm.Cond.selects "PeaTube$Chances" ({ cls := "PeaTube$Chances", name := "waysWithOneMore", desc := "(I)J" } : Jvm.MethodName) ({ cls := "PeaTube$Chances", name := "waysWithOneMore", desc := "(I)J" } : Jvm.MethodName) ∈ Gw := gwp_3 5 rfl rfl
theorem w_732 : Jvm.Cond.fieldLink "PeaTube" (88 : Nat) "PeaTube" "rivals" "[LPeaTube$Chances;" ∈ Gw := gwt_3 113 rfl rfl
theorem w_1267 : Jvm.Cond.methodLink "PeaTube" (505 : Nat) ({ cls := "PeaTube$Chances", name := "addUp", desc := "(I)V" } : Jvm.MethodName) ∈ Gw := gwt_5 168 rfl rfl
theorem w_1268 : Jvm.Cond.instanceMethod ({ cls := "PeaTube$Chances", name := "addUp", desc := "(I)V" } : Jvm.MethodName) ∈ Gw := gwt_5 169 rfl rfl
theorem w_1269 : Jvm.Cond.selects "PeaTube$Chances" ({ cls := "PeaTube$Chances", name := "addUp", desc := "(I)V" } : Jvm.MethodName) ({ cls := "PeaTube$Chances", name := "addUp", desc := "(I)V" } : Jvm.MethodName) ∈ Gw := gwt_5 170 rfl rfl
theorem w_1263 : Jvm.Cond.methodLink "PeaTube" (384 : Nat) ({ cls := "PeaTube", name := "setRival", desc := "(IIII)V" } : Jvm.MethodName) ∈ Gw := gwt_5 164 rfl rfl
theorem w_1265 : Jvm.Cond.instanceMethod ({ cls := "PeaTube", name := "setRival", desc := "(IIII)V" } : Jvm.MethodName) ∈ Gw := gwt_5 166 rfl rfl
theorem w_36 : Jvm.Cond.selects "PeaTube" ({ cls := "PeaTube", name := "setRival", desc := "(IIII)V" } : Jvm.MethodName) ({ cls := "PeaTube", name := "setRival", desc := "(IIII)V" } : Jvm.MethodName) ∈ Gw := gwp_3 4 rfl rfl
theorem w_1276 : Jvm.Cond.methodLink "PeaTube" (388 : Nat) ({ cls := "PeaTube$Chances", name := "waysAbove", desc := "(LPeaTube$Chances;)J" } : Jvm.MethodName) ∈ Gw := gwt_5 177 rfl rfl
theorem w_1277 : Jvm.Cond.instanceMethod ({ cls := "PeaTube$Chances", name := "waysAbove", desc := "(LPeaTube$Chances;)J" } : Jvm.MethodName) ∈ Gw := gwt_5 178 rfl rfl
theorem w_1278 : Jvm.Cond.selects "PeaTube$Chances" ({ cls := "PeaTube$Chances", name := "waysAbove", desc := "(LPeaTube$Chances;)J" } : Jvm.MethodName) ({ cls := "PeaTube$Chances", name := "waysAbove", desc := "(LPeaTube$Chances;)J" } : Jvm.MethodName) ∈ Gw := gwt_5 179 rfl rfl
theorem w_1280 : Jvm.Cond.methodLink "PeaTube" (392 : Nat) ({ cls := "PeaTube$Chances", name := "allWays", desc := "()J" } : Jvm.MethodName) ∈ Gw := gwt_5 181 rfl rfl
theorem w_1281 : Jvm.Cond.instanceMethod ({ cls := "PeaTube$Chances", name := "allWays", desc := "()J" } : Jvm.MethodName) ∈ Gw := gwt_5 182 rfl rfl
theorem w_1282 : Jvm.Cond.selects "PeaTube$Chances" ({ cls := "PeaTube$Chances", name := "allWays", desc := "()J" } : Jvm.MethodName) ({ cls := "PeaTube$Chances", name := "allWays", desc := "()J" } : Jvm.MethodName) ∈ Gw := gwt_5 183 rfl rfl
theorem w_1296 : Jvm.Cond.methodLink "PeaTube" (401 : Nat) ({ cls := "PeaTube", name := "beats", desc := "(II)J" } : Jvm.MethodName) ∈ Gw := gwt_5 197 rfl rfl
theorem w_1298 : Jvm.Cond.instanceMethod ({ cls := "PeaTube", name := "beats", desc := "(II)J" } : Jvm.MethodName) ∈ Gw := gwt_5 199 rfl rfl
theorem w_40 : Jvm.Cond.selects "PeaTube" ({ cls := "PeaTube", name := "beats", desc := "(II)J" } : Jvm.MethodName) ({ cls := "PeaTube", name := "beats", desc := "(II)J" } : Jvm.MethodName) ∈ Gw := gwp_3 8 rfl rfl
theorem w_1288 : Jvm.Cond.methodLink "PeaTube" (395 : Nat) ({ cls := "PeaTube", name := "wrongKnock", desc := "(III)I" } : Jvm.MethodName) ∈ Gw := gwt_5 189 rfl rfl
theorem w_1290 : Jvm.Cond.instanceMethod ({ cls := "PeaTube", name := "wrongKnock", desc := "(III)I" } : Jvm.MethodName) ∈ Gw := gwt_5 191 rfl rfl
theorem w_38 : Jvm.Cond.selects "PeaTube" ({ cls := "PeaTube", name := "wrongKnock", desc := "(III)I" } : Jvm.MethodName) ({ cls := "PeaTube", name := "wrongKnock", desc := "(III)I" } : Jvm.MethodName) ∈ Gw := gwp_3 6 rfl rfl
theorem w_1292 : Jvm.Cond.methodLink "PeaTube" (398 : Nat) ({ cls := "PeaTube", name := "decided", desc := "(II)J" } : Jvm.MethodName) ∈ Gw := gwt_5 193 rfl rfl
theorem w_1294 : Jvm.Cond.instanceMethod ({ cls := "PeaTube", name := "decided", desc := "(II)J" } : Jvm.MethodName) ∈ Gw := gwt_5 195 rfl rfl
theorem w_39 : Jvm.Cond.selects "PeaTube" ({ cls := "PeaTube", name := "decided", desc := "(II)J" } : Jvm.MethodName) ({ cls := "PeaTube", name := "decided", desc := "(II)J" } : Jvm.MethodName) ∈ Gw := gwp_3 7 rfl rfl
theorem w_467 : Jvm.Cond.fieldLink "PeaTube" (404 : Nat) "PeaTube$Tally" "holeX" "[I" ∈ Gw := gwt_2 88 rfl rfl
theorem w_469 : Jvm.Cond.fieldLink "PeaTube" (407 : Nat) "PeaTube$Tally" "holeY" "[I" ∈ Gw := gwt_2 90 rfl rfl
theorem w_471 : Jvm.Cond.fieldLink "PeaTube" (410 : Nat) "PeaTube$Tally" "holeShooter" "[I" ∈ Gw := gwt_2 92 rfl rfl
theorem w_473 : Jvm.Cond.fieldLink "PeaTube" (413 : Nat) "PeaTube$Tally" "holePea" "[I" ∈ Gw := gwt_2 94 rfl rfl
theorem w_1308 : Jvm.Cond.methodLink "PeaTube" (422 : Nat) ({ cls := "PeaTube$Tally", name := "spreadTop", desc := "()J" } : Jvm.MethodName) ∈ Gw := gwt_5 209 rfl rfl
theorem w_1309 : Jvm.Cond.instanceMethod ({ cls := "PeaTube$Tally", name := "spreadTop", desc := "()J" } : Jvm.MethodName) ∈ Gw := gwt_5 210 rfl rfl
theorem w_1310 : Jvm.Cond.selects "PeaTube$Tally" ({ cls := "PeaTube$Tally", name := "spreadTop", desc := "()J" } : Jvm.MethodName) ({ cls := "PeaTube$Tally", name := "spreadTop", desc := "()J" } : Jvm.MethodName) ∈ Gw := gwt_5 211 rfl rfl
theorem w_1312 : Jvm.Cond.methodLink "PeaTube" (425 : Nat) ({ cls := "PeaTube$Tally", name := "spreadBottom", desc := "()J" } : Jvm.MethodName) ∈ Gw := gwt_5 213 rfl rfl
theorem w_1313 : Jvm.Cond.instanceMethod ({ cls := "PeaTube$Tally", name := "spreadBottom", desc := "()J" } : Jvm.MethodName) ∈ Gw := gwt_5 214 rfl rfl
theorem w_1314 : Jvm.Cond.selects "PeaTube$Tally" ({ cls := "PeaTube$Tally", name := "spreadBottom", desc := "()J" } : Jvm.MethodName) ({ cls := "PeaTube$Tally", name := "spreadBottom", desc := "()J" } : Jvm.MethodName) ∈ Gw := gwt_5 215 rfl rfl
theorem w_482 : Jvm.Cond.fieldLink "PeaTube" (419 : Nat) "PeaTube$Tally" "sumY" "J" ∈ Gw := gwt_2 103 rfl rfl
theorem w_480 : Jvm.Cond.fieldLink "PeaTube" (416 : Nat) "PeaTube$Tally" "sumX" "J" ∈ Gw := gwt_2 101 rfl rfl
theorem w_1320 : Jvm.Cond.methodLink "PeaTube" (428 : Nat) ({ cls := "PeaTube$Tally", name := "distanceTop", desc := "(II)J" } : Jvm.MethodName) ∈ Gw := gwt_5 221 rfl rfl
theorem w_1321 : Jvm.Cond.instanceMethod ({ cls := "PeaTube$Tally", name := "distanceTop", desc := "(II)J" } : Jvm.MethodName) ∈ Gw := gwt_5 222 rfl rfl
theorem w_1322 : Jvm.Cond.selects "PeaTube$Tally" ({ cls := "PeaTube$Tally", name := "distanceTop", desc := "(II)J" } : Jvm.MethodName) ({ cls := "PeaTube$Tally", name := "distanceTop", desc := "(II)J" } : Jvm.MethodName) ∈ Gw := gwt_5 223 rfl rfl
theorem w_649 : Jvm.Cond.fieldLink "PeaTube" (431 : Nat) "PeaTube$Best" "any" "Z" ∈ Gw := gwt_3 30 rfl rfl
theorem w_1336 : Jvm.Cond.methodLink "PeaTube" (434 : Nat) ({ cls := "PeaTube$Tally", name := "couples", desc := "()I" } : Jvm.MethodName) ∈ Gw := gwt_5 237 rfl rfl
theorem w_1337 : Jvm.Cond.instanceMethod ({ cls := "PeaTube$Tally", name := "couples", desc := "()I" } : Jvm.MethodName) ∈ Gw := gwt_5 238 rfl rfl
theorem w_1338 : Jvm.Cond.selects "PeaTube$Tally" ({ cls := "PeaTube$Tally", name := "couples", desc := "()I" } : Jvm.MethodName) ({ cls := "PeaTube$Tally", name := "couples", desc := "()I" } : Jvm.MethodName) ∈ Gw := gwt_5 239 rfl rfl
theorem w_1348 : Jvm.Cond.methodLink "PeaTube$Tally" (46 : Nat) ({ cls := "PeaTube$Tent", name := "worthAt", desc := "(II)I" } : Jvm.MethodName) ∈ Gw := gwt_6 9 rfl rfl
theorem w_538 : Jvm.Cond.fieldLink "PeaTube$Tally" (52 : Nat) "PeaTube$Shot" "shooter" "I" ∈ Gw := gwt_2 159 rfl rfl
theorem w_1349 : Jvm.Cond.methodLink "PeaTube$Tally" (57 : Nat) ({ cls := "java/lang/Math", name := "min", desc := "(II)I" } : Jvm.MethodName) ∈ Gw := gwt_6 10 rfl rfl
theorem w_544 : Jvm.Cond.fieldLink "PeaTube$Tally" (66 : Nat) "PeaTube$Shot" "pea" "I" ∈ Gw := gwt_2 165 rfl rfl
theorem w_1344 : Jvm.Cond.methodLink "PeaTube" (437 : Nat) ({ cls := "PeaTube$Tally", name := "strike", desc := "(LPeaTube$Tent;LPeaTube$Shot;II)I" } : Jvm.MethodName) ∈ Gw := gwt_6 5 rfl rfl
theorem w_1345 : Jvm.Cond.instanceMethod ({ cls := "PeaTube$Tally", name := "strike", desc := "(LPeaTube$Tent;LPeaTube$Shot;II)I" } : Jvm.MethodName) ∈ Gw := gwt_6 6 rfl rfl
theorem w_1346 : Jvm.Cond.selects "PeaTube$Tally" ({ cls := "PeaTube$Tally", name := "strike", desc := "(LPeaTube$Tent;LPeaTube$Shot;II)I" } : Jvm.MethodName) ({ cls := "PeaTube$Tally", name := "strike", desc := "(LPeaTube$Tent;LPeaTube$Shot;II)I" } : Jvm.MethodName) ∈ Gw := gwt_6 7 rfl rfl
theorem w_673 : Jvm.Cond.fieldLink "PeaTube$Player" (24 : Nat) "PeaTube$Player" "hasRun" "Z" ∈ Gw := gwt_3 54 rfl rfl
theorem w_675 : Jvm.Cond.fieldLink "PeaTube$Player" (28 : Nat) "PeaTube$Player" "steps" "I" ∈ Gw := gwt_3 56 rfl rfl
theorem w_677 : Jvm.Cond.fieldLink "PeaTube$Player" (32 : Nat) "PeaTube$Player" "missed" "I" ∈ Gw := gwt_3 58 rfl rfl
theorem w_679 : Jvm.Cond.fieldLink "PeaTube$Player" (35 : Nat) "PeaTube$Player" "flew" "I" ∈ Gw := gwt_3 60 rfl rfl
theorem w_681 : Jvm.Cond.fieldLink "PeaTube$Player" (38 : Nat) "PeaTube$Player" "failed" "I" ∈ Gw := gwt_3 62 rfl rfl
theorem w_683 : Jvm.Cond.fieldLink "PeaTube$Player" (41 : Nat) "PeaTube$Player" "points" "I" ∈ Gw := gwt_3 64 rfl rfl
theorem w_685 : Jvm.Cond.fieldLink "PeaTube$Player" (44 : Nat) "PeaTube$Player" "left" "I" ∈ Gw := gwt_3 66 rfl rfl
theorem w_687 : Jvm.Cond.fieldLink "PeaTube$Player" (47 : Nat) "PeaTube$Player" "drawn" "I" ∈ Gw := gwt_3 68 rfl rfl
theorem w_688 : Jvm.Cond.fieldLink "PeaTube$Player" (50 : Nat) "PeaTube$Player" "beat" "I" ∈ Gw := gwt_3 69 rfl rfl
theorem w_689 : Jvm.Cond.fieldLink "PeaTube$Player" (53 : Nat) "PeaTube$Player" "puff" "I" ∈ Gw := gwt_3 70 rfl rfl
theorem w_691 : Jvm.Cond.fieldLink "PeaTube$Player" (20 : Nat) "PeaTube$Player" "shot" "LPeaTube$Shot;" ∈ Gw := gwt_3 72 rfl rfl
theorem w_543 : Jvm.Cond.fieldLink "PeaTube$Player" (56 : Nat) "PeaTube$Shot" "pea" "I" ∈ Gw := gwt_2 164 rfl rfl
theorem w_552 : Jvm.Cond.fieldLink "PeaTube$Player" (59 : Nat) "PeaTube$Shot" "x" "I" ∈ Gw := gwt_2 173 rfl rfl
theorem w_555 : Jvm.Cond.fieldLink "PeaTube$Player" (62 : Nat) "PeaTube$Shot" "y" "I" ∈ Gw := gwt_2 176 rfl rfl
theorem w_430 : Jvm.Cond.fieldLink "PeaTube$Player" (84 : Nat) "PeaTube$Round" "mate" "[I" ∈ Gw := gwt_2 51 rfl rfl
theorem w_422 : Jvm.Cond.fieldLink "PeaTube$Player" (73 : Nat) "PeaTube$Round" "op" "[I" ∈ Gw := gwt_2 43 rfl rfl
theorem w_690 : Jvm.Cond.fieldLink "PeaTube$Player" (11 : Nat) "PeaTube$Player" "toDo" "[I" ∈ Gw := gwt_3 71 rfl rfl
theorem w_424 : Jvm.Cond.fieldLink "PeaTube$Player" (95 : Nat) "PeaTube$Round" "first" "[I" ∈ Gw := gwt_2 45 rfl rfl
theorem w_426 : Jvm.Cond.fieldLink "PeaTube$Player" (109 : Nat) "PeaTube$Round" "second" "[I" ∈ Gw := gwt_2 47 rfl rfl
theorem w_428 : Jvm.Cond.fieldLink "PeaTube$Player" (112 : Nat) "PeaTube$Round" "third" "[I" ∈ Gw := gwt_2 49 rfl rfl
theorem w_475 : Jvm.Cond.fieldLink "PeaTube$Player" (106 : Nat) "PeaTube$Tally" "scores" "[I" ∈ Gw := gwt_2 96 rfl rfl
theorem w_461 : Jvm.Cond.fieldLink "PeaTube$Player" (103 : Nat) "PeaTube$Tally" "spit" "I" ∈ Gw := gwt_2 82 rfl rfl
theorem w_464 : Jvm.Cond.fieldLink "PeaTube$Player" (98 : Nat) "PeaTube$Tally" "holes" "I" ∈ Gw := gwt_2 85 rfl rfl
theorem w_1396 : Jvm.Cond.constant "PeaTube$Player" (183 : Nat) (65536 : Int32) ∈ Gw := gwt_6 57 rfl rfl
theorem w_1392 : Jvm.Cond.methodLink "PeaTube$Player" (168 : Nat) ({ cls := "PeaTube$Player", name := "draw", desc := "(I)I" } : Jvm.MethodName) ∈ Gw := gwt_6 53 rfl rfl
theorem w_1394 : Jvm.Cond.instanceMethod ({ cls := "PeaTube$Player", name := "draw", desc := "(I)I" } : Jvm.MethodName) ∈ Gw := gwt_6 55 rfl rfl
theorem w_46 : Jvm.Cond.selects "PeaTube$Player" ({ cls := "PeaTube$Player", name := "draw", desc := "(I)I" } : Jvm.MethodName) ({ cls := "PeaTube$Player", name := "draw", desc := "(I)I" } : Jvm.MethodName) ∈ Gw := gwp_3 14 rfl rfl
theorem w_352 : Jvm.Cond.fieldLink "PeaTube$Player" (128 : Nat) "PeaTube$Tent" "shooters" "I" ∈ Gw := gwt_1 213 rfl rfl
theorem w_1384 : Jvm.Cond.methodLink "PeaTube$Player" (131 : Nat) ({ cls := "PeaTube$Tent", name := "fitOf", desc := "(I)I" } : Jvm.MethodName) ∈ Gw := gwt_6 45 rfl rfl
theorem w_540 : Jvm.Cond.fieldLink "PeaTube$Player" (135 : Nat) "PeaTube$Shot" "shooter" "I" ∈ Gw := gwt_2 161 rfl rfl
theorem w_356 : Jvm.Cond.fieldLink "PeaTube$Player" (138 : Nat) "PeaTube$Tent" "hardest" "[I" ∈ Gw := gwt_1 217 rfl rfl
theorem w_1385 : Jvm.Cond.methodLink "PeaTube$Player" (141 : Nat) ({ cls := "java/lang/Math", name := "min", desc := "(II)I" } : Jvm.MethodName) ∈ Gw := gwt_6 46 rfl rfl
theorem w_547 : Jvm.Cond.fieldLink "PeaTube$Player" (147 : Nat) "PeaTube$Shot" "puff" "I" ∈ Gw := gwt_2 168 rfl rfl
theorem w_559 : Jvm.Cond.fieldLink "PeaTube$Player" (148 : Nat) "PeaTube$Shot" "spit" "I" ∈ Gw := gwt_2 180 rfl rfl
theorem w_320 : Jvm.Cond.fieldLink "PeaTube$Player" (149 : Nat) "PeaTube$Tent" "inches" "I" ∈ Gw := gwt_1 181 rfl rfl
theorem w_562 : Jvm.Cond.fieldLink "PeaTube$Player" (152 : Nat) "PeaTube$Shot" "inches" "I" ∈ Gw := gwt_2 183 rfl rfl
theorem w_1386 : Jvm.Cond.methodLink "PeaTube$Player" (153 : Nat) ({ cls := "PeaTube$Shot", name := "reckon", desc := "(LPeaTube$Tent;)V" } : Jvm.MethodName) ∈ Gw := gwt_6 47 rfl rfl
theorem w_567 : Jvm.Cond.fieldLink "PeaTube$Player" (156 : Nat) "PeaTube$Shot" "fate" "I" ∈ Gw := gwt_2 188 rfl rfl
theorem w_1387 : Jvm.Cond.methodLink "PeaTube$Player" (159 : Nat) ({ cls := "PeaTube$Tent", name := "shakeOn", desc := "(II)I" } : Jvm.MethodName) ∈ Gw := gwt_6 48 rfl rfl
theorem w_1388 : Jvm.Cond.methodLink "PeaTube$Player" (162 : Nat) ({ cls := "PeaTube$Player", name := "drawHand", desc := "(I)I" } : Jvm.MethodName) ∈ Gw := gwt_6 49 rfl rfl
theorem w_1390 : Jvm.Cond.instanceMethod ({ cls := "PeaTube$Player", name := "drawHand", desc := "(I)I" } : Jvm.MethodName) ∈ Gw := gwt_6 51 rfl rfl
theorem w_45 : Jvm.Cond.selects "PeaTube$Player" ({ cls := "PeaTube$Player", name := "drawHand", desc := "(I)I" } : Jvm.MethodName) ({ cls := "PeaTube$Player", name := "drawHand", desc := "(I)I" } : Jvm.MethodName) ∈ Gw := gwp_3 13 rfl rfl
theorem w_580 : Jvm.Cond.fieldLink "PeaTube$Player" (165 : Nat) "PeaTube$Shot" "off" "I" ∈ Gw := gwt_2 201 rfl rfl
theorem w_1397 : Jvm.Cond.methodLink "PeaTube$Player" (171 : Nat) ({ cls := "PeaTube$Shot", name := "strikeX", desc := "(LPeaTube$Tent;I)I" } : Jvm.MethodName) ∈ Gw := gwt_6 58 rfl rfl
theorem w_1398 : Jvm.Cond.methodLink "PeaTube$Player" (175 : Nat) ({ cls := "PeaTube$Shot", name := "strikeY", desc := "(LPeaTube$Tent;)I" } : Jvm.MethodName) ∈ Gw := gwt_6 59 rfl rfl
theorem w_1399 : Jvm.Cond.methodLink "PeaTube$Player" (179 : Nat) ({ cls := "PeaTube$Tally", name := "strike", desc := "(LPeaTube$Tent;LPeaTube$Shot;II)I" } : Jvm.MethodName) ∈ Gw := gwt_6 60 rfl rfl
theorem w_337 : Jvm.Cond.fieldLink "PeaTube$Player" (123 : Nat) "PeaTube$Tent" "peas" "I" ∈ Gw := gwt_1 198 rfl rfl
theorem w_1380 : Jvm.Cond.methodLink "PeaTube$Player" (115 : Nat) ({ cls := "PeaTube$Player", name := "shootOnce", desc := "(ILPeaTube$Tent;LPeaTube$Tally;)V" } : Jvm.MethodName) ∈ Gw := gwt_6 41 rfl rfl
theorem w_1382 : Jvm.Cond.instanceMethod ({ cls := "PeaTube$Player", name := "shootOnce", desc := "(ILPeaTube$Tent;LPeaTube$Tally;)V" } : Jvm.MethodName) ∈ Gw := gwt_6 43 rfl rfl
theorem w_44 : Jvm.Cond.selects "PeaTube$Player" ({ cls := "PeaTube$Player", name := "shootOnce", desc := "(ILPeaTube$Tent;LPeaTube$Tally;)V" } : Jvm.MethodName) ({ cls := "PeaTube$Player", name := "shootOnce", desc := "(ILPeaTube$Tent;LPeaTube$Tally;)V" } : Jvm.MethodName) ∈ Gw := gwp_3 12 rfl rfl
theorem w_1400 : Jvm.Cond.methodLink "PeaTube$Player" (119 : Nat) ({ cls := "PeaTube$Player", name := "loadNext", desc := "(LPeaTube$Tent;)V" } : Jvm.MethodName) ∈ Gw := gwt_6 61 rfl rfl
theorem w_1402 : Jvm.Cond.instanceMethod ({ cls := "PeaTube$Player", name := "loadNext", desc := "(LPeaTube$Tent;)V" } : Jvm.MethodName) ∈ Gw := gwt_6 63 rfl rfl
theorem w_47 : Jvm.Cond.selects "PeaTube$Player" ({ cls := "PeaTube$Player", name := "loadNext", desc := "(LPeaTube$Tent;)V" } : Jvm.MethodName) ({ cls := "PeaTube$Player", name := "loadNext", desc := "(LPeaTube$Tent;)V" } : Jvm.MethodName) ∈ Gw := gwp_3 15 rfl rfl
theorem w_1363 : Jvm.Cond.methodLink "PeaTube$Player" (65 : Nat) ({ cls := "PeaTube$Player", name := "begin", desc := "(I)V" } : Jvm.MethodName) ∈ Gw := gwt_6 24 rfl rfl
theorem w_1365 : Jvm.Cond.instanceMethod ({ cls := "PeaTube$Player", name := "begin", desc := "(I)V" } : Jvm.MethodName) ∈ Gw := gwt_6 26 rfl rfl
theorem w_41 : Jvm.Cond.selects "PeaTube$Player" ({ cls := "PeaTube$Player", name := "begin", desc := "(I)V" } : Jvm.MethodName) ({ cls := "PeaTube$Player", name := "begin", desc := "(I)V" } : Jvm.MethodName) ∈ Gw := gwp_3 9 rfl rfl
theorem w_1367 : Jvm.Cond.constant "PeaTube$Player" (69 : Nat) (1000000 : Int32) ∈ Gw := gwt_6 28 rfl rfl
theorem w_420 : Jvm.Cond.fieldLink "PeaTube$Player" (70 : Nat) "PeaTube$Round" "ops" "I" ∈ Gw := gwt_2 41 rfl rfl
theorem w_1376 : Jvm.Cond.methodLink "PeaTube$Player" (87 : Nat) ({ cls := "PeaTube$Player", name := "doStep", desc := "(LPeaTube$Round;ILPeaTube$Tent;LPeaTube$Tally;)V" } : Jvm.MethodName) ∈ Gw := gwt_6 37 rfl rfl
theorem w_1378 : Jvm.Cond.instanceMethod ({ cls := "PeaTube$Player", name := "doStep", desc := "(LPeaTube$Round;ILPeaTube$Tent;LPeaTube$Tally;)V" } : Jvm.MethodName) ∈ Gw := gwt_6 39 rfl rfl
theorem w_43 : Jvm.Cond.selects "PeaTube$Player" ({ cls := "PeaTube$Player", name := "doStep", desc := "(LPeaTube$Round;ILPeaTube$Tent;LPeaTube$Tally;)V" } : Jvm.MethodName) ({ cls := "PeaTube$Player", name := "doStep", desc := "(LPeaTube$Round;ILPeaTube$Tent;LPeaTube$Tally;)V" } : Jvm.MethodName) ∈ Gw := gwp_3 11 rfl rfl
theorem w_1373 : Jvm.Cond.methodLink "PeaTube$Player" (80 : Nat) ({ cls := "PeaTube$Player", name := "holds", desc := "(LPeaTube$Round;ILPeaTube$Tally;)Z" } : Jvm.MethodName) ∈ Gw := gwt_6 34 rfl rfl
theorem w_1374 : Jvm.Cond.static ({ cls := "PeaTube$Player", name := "holds", desc := "(LPeaTube$Round;ILPeaTube$Tally;)Z" } : Jvm.MethodName) ∈ Gw := gwt_6 35 rfl rfl
theorem w_1368 : Jvm.Cond.methodLink "PeaTube$Player" (76 : Nat) ({ cls := "PeaTube$Player", name := "behindEnd", desc := "(LPeaTube$Round;I)I" } : Jvm.MethodName) ∈ Gw := gwt_6 29 rfl rfl
theorem w_1370 : Jvm.Cond.instanceMethod ({ cls := "PeaTube$Player", name := "behindEnd", desc := "(LPeaTube$Round;I)I" } : Jvm.MethodName) ∈ Gw := gwt_6 31 rfl rfl
theorem w_42 : Jvm.Cond.selects "PeaTube$Player" ({ cls := "PeaTube$Player", name := "behindEnd", desc := "(LPeaTube$Round;I)I" } : Jvm.MethodName) ({ cls := "PeaTube$Player", name := "behindEnd", desc := "(LPeaTube$Round;I)I" } : Jvm.MethodName) ∈ Gw := gwp_3 10 rfl rfl
theorem w_735 : Jvm.Cond.fieldLink "PeaTube" (109 : Nat) "PeaTube" "player" "LPeaTube$Player;" ∈ Gw := gwt_3 116 rfl rfl
theorem w_1359 : Jvm.Cond.methodLink "PeaTube" (441 : Nat) ({ cls := "PeaTube$Player", name := "run", desc := "(LPeaTube$Round;LPeaTube$Tent;LPeaTube$Tally;I)V" } : Jvm.MethodName) ∈ Gw := gwt_6 20 rfl rfl
theorem w_1360 : Jvm.Cond.instanceMethod ({ cls := "PeaTube$Player", name := "run", desc := "(LPeaTube$Round;LPeaTube$Tent;LPeaTube$Tally;I)V" } : Jvm.MethodName) ∈ Gw := gwt_6 21 rfl rfl
theorem w_1361 : Jvm.Cond.selects "PeaTube$Player" ({ cls := "PeaTube$Player", name := "run", desc := "(LPeaTube$Round;LPeaTube$Tent;LPeaTube$Tally;I)V" } : Jvm.MethodName) ({ cls := "PeaTube$Player", name := "run", desc := "(LPeaTube$Round;LPeaTube$Tent;LPeaTube$Tally;I)V" } : Jvm.MethodName) ∈ Gw := gwt_6 22 rfl rfl
theorem w_676 : Jvm.Cond.fieldLink "PeaTube" (445 : Nat) "PeaTube$Player" "steps" "I" ∈ Gw := gwt_3 57 rfl rfl
theorem w_674 : Jvm.Cond.fieldLink "PeaTube" (446 : Nat) "PeaTube$Player" "hasRun" "Z" ∈ Gw := gwt_3 55 rfl rfl
theorem w_678 : Jvm.Cond.fieldLink "PeaTube" (449 : Nat) "PeaTube$Player" "missed" "I" ∈ Gw := gwt_3 59 rfl rfl
theorem w_680 : Jvm.Cond.fieldLink "PeaTube" (452 : Nat) "PeaTube$Player" "flew" "I" ∈ Gw := gwt_3 61 rfl rfl
theorem w_682 : Jvm.Cond.fieldLink "PeaTube" (455 : Nat) "PeaTube$Player" "failed" "I" ∈ Gw := gwt_3 63 rfl rfl
theorem w_684 : Jvm.Cond.fieldLink "PeaTube" (458 : Nat) "PeaTube$Player" "points" "I" ∈ Gw := gwt_3 65 rfl rfl
theorem w_686 : Jvm.Cond.fieldLink "PeaTube" (461 : Nat) "PeaTube$Player" "left" "I" ∈ Gw := gwt_3 67 rfl rfl
theorem w_1416 : Jvm.Cond.methodLink "PeaTube$Tally" (40 : Nat) ({ cls := "java/lang/System", name := "arraycopy", desc := "(Ljava/lang/Object;ILjava/lang/Object;II)V" } : Jvm.MethodName) ∈ Gw := gwt_6 77 rfl rfl
theorem w_727 : Jvm.Cond.fieldLink "PeaTube" (61 : Nat) "PeaTube" "trialTally" "LPeaTube$Tally;" ∈ Gw := gwt_3 108 rfl rfl
theorem w_1412 : Jvm.Cond.methodLink "PeaTube" (464 : Nat) ({ cls := "PeaTube$Tally", name := "copy", desc := "(LPeaTube$Tally;)V" } : Jvm.MethodName) ∈ Gw := gwt_6 73 rfl rfl
theorem w_1413 : Jvm.Cond.instanceMethod ({ cls := "PeaTube$Tally", name := "copy", desc := "(LPeaTube$Tally;)V" } : Jvm.MethodName) ∈ Gw := gwt_6 74 rfl rfl
theorem w_1414 : Jvm.Cond.selects "PeaTube$Tally" ({ cls := "PeaTube$Tally", name := "copy", desc := "(LPeaTube$Tally;)V" } : Jvm.MethodName) ({ cls := "PeaTube$Tally", name := "copy", desc := "(LPeaTube$Tally;)V" } : Jvm.MethodName) ∈ Gw := gwt_6 75 rfl rfl
theorem w_736 : Jvm.Cond.fieldLink "PeaTube" (113 : Nat) "PeaTube" "trialPlayer" "LPeaTube$Player;" ∈ Gw := gwt_3 117 rfl rfl
theorem w_1417 : Jvm.Cond.methodLink "PeaTube" (468 : Nat) ({ cls := "PeaTube$Tally", name := "leads", desc := "(II)Z" } : Jvm.MethodName) ∈ Gw := gwt_6 78 rfl rfl
theorem w_1418 : Jvm.Cond.instanceMethod ({ cls := "PeaTube$Tally", name := "leads", desc := "(II)Z" } : Jvm.MethodName) ∈ Gw := gwt_6 79 rfl rfl
theorem w_1419 : Jvm.Cond.selects "PeaTube$Tally" ({ cls := "PeaTube$Tally", name := "leads", desc := "(II)Z" } : Jvm.MethodName) ({ cls := "PeaTube$Tally", name := "leads", desc := "(II)Z" } : Jvm.MethodName) ∈ Gw := gwt_6 80 rfl rfl
theorem w_1433 : Jvm.Cond.methodLink "PeaTube$Tent" (77 : Nat) ({ cls := "java/lang/System", name := "arraycopy", desc := "(Ljava/lang/Object;ILjava/lang/Object;II)V" } : Jvm.MethodName) ∈ Gw := gwt_6 94 rfl rfl
theorem w_1438 : Jvm.Cond.methodLink "PeaTube$Round" (44 : Nat) ({ cls := "java/lang/System", name := "arraycopy", desc := "(Ljava/lang/Object;ILjava/lang/Object;II)V" } : Jvm.MethodName) ∈ Gw := gwt_6 99 rfl rfl
theorem w_520 : Jvm.Cond.fieldLink "PeaTube$Kept" (10 : Nat) "PeaTube$Kept" "tent" "LPeaTube$Tent;" ∈ Gw := gwt_2 141 rfl rfl
theorem w_1429 : Jvm.Cond.methodLink "PeaTube$Kept" (30 : Nat) ({ cls := "PeaTube$Tent", name := "copy", desc := "(LPeaTube$Tent;)V" } : Jvm.MethodName) ∈ Gw := gwt_6 90 rfl rfl
theorem w_1430 : Jvm.Cond.instanceMethod ({ cls := "PeaTube$Tent", name := "copy", desc := "(LPeaTube$Tent;)V" } : Jvm.MethodName) ∈ Gw := gwt_6 91 rfl rfl
theorem w_1431 : Jvm.Cond.selects "PeaTube$Tent" ({ cls := "PeaTube$Tent", name := "copy", desc := "(LPeaTube$Tent;)V" } : Jvm.MethodName) ({ cls := "PeaTube$Tent", name := "copy", desc := "(LPeaTube$Tent;)V" } : Jvm.MethodName) ∈ Gw := gwt_6 92 rfl rfl
theorem w_521 : Jvm.Cond.fieldLink "PeaTube$Kept" (19 : Nat) "PeaTube$Kept" "round" "LPeaTube$Round;" ∈ Gw := gwt_2 142 rfl rfl
theorem w_1434 : Jvm.Cond.methodLink "PeaTube$Kept" (34 : Nat) ({ cls := "PeaTube$Round", name := "copy", desc := "(LPeaTube$Round;)V" } : Jvm.MethodName) ∈ Gw := gwt_6 95 rfl rfl
theorem w_1435 : Jvm.Cond.instanceMethod ({ cls := "PeaTube$Round", name := "copy", desc := "(LPeaTube$Round;)V" } : Jvm.MethodName) ∈ Gw := gwt_6 96 rfl rfl
theorem w_1436 : Jvm.Cond.selects "PeaTube$Round" ({ cls := "PeaTube$Round", name := "copy", desc := "(LPeaTube$Round;)V" } : Jvm.MethodName) ({ cls := "PeaTube$Round", name := "copy", desc := "(LPeaTube$Round;)V" } : Jvm.MethodName) ∈ Gw := gwt_6 97 rfl rfl
theorem w_522 : Jvm.Cond.fieldLink "PeaTube$Kept" (26 : Nat) "PeaTube$Kept" "tally" "LPeaTube$Tally;" ∈ Gw := gwt_2 143 rfl rfl
theorem w_1439 : Jvm.Cond.methodLink "PeaTube$Kept" (37 : Nat) ({ cls := "PeaTube$Tally", name := "copy", desc := "(LPeaTube$Tally;)V" } : Jvm.MethodName) ∈ Gw := gwt_6 100 rfl rfl
theorem w_729 : Jvm.Cond.fieldLink "PeaTube" (71 : Nat) "PeaTube" "marked" "I" ∈ Gw := gwt_3 110 rfl rfl
theorem w_728 : Jvm.Cond.fieldLink "PeaTube" (66 : Nat) "PeaTube" "marks" "[LPeaTube$Kept;" ∈ Gw := gwt_3 109 rfl rfl
theorem w_1425 : Jvm.Cond.methodLink "PeaTube" (471 : Nat) ({ cls := "PeaTube$Kept", name := "keep", desc := "(LPeaTube$Tent;LPeaTube$Round;LPeaTube$Tally;)V" } : Jvm.MethodName) ∈ Gw := gwt_6 86 rfl rfl
theorem w_1426 : Jvm.Cond.instanceMethod ({ cls := "PeaTube$Kept", name := "keep", desc := "(LPeaTube$Tent;LPeaTube$Round;LPeaTube$Tally;)V" } : Jvm.MethodName) ∈ Gw := gwt_6 87 rfl rfl
theorem w_1427 : Jvm.Cond.selects "PeaTube$Kept" ({ cls := "PeaTube$Kept", name := "keep", desc := "(LPeaTube$Tent;LPeaTube$Round;LPeaTube$Tally;)V" } : Jvm.MethodName) ({ cls := "PeaTube$Kept", name := "keep", desc := "(LPeaTube$Tent;LPeaTube$Round;LPeaTube$Tally;)V" } : Jvm.MethodName) ∈ Gw := gwt_6 88 rfl rfl
theorem w_1444 : Jvm.Cond.methodLink "PeaTube" (475 : Nat) ({ cls := "PeaTube$Kept", name := "giveBack", desc := "(LPeaTube$Tent;LPeaTube$Round;LPeaTube$Tally;)V" } : Jvm.MethodName) ∈ Gw := gwt_6 105 rfl rfl
theorem w_1445 : Jvm.Cond.instanceMethod ({ cls := "PeaTube$Kept", name := "giveBack", desc := "(LPeaTube$Tent;LPeaTube$Round;LPeaTube$Tally;)V" } : Jvm.MethodName) ∈ Gw := gwt_6 106 rfl rfl
theorem w_1446 : Jvm.Cond.selects "PeaTube$Kept" ({ cls := "PeaTube$Kept", name := "giveBack", desc := "(LPeaTube$Tent;LPeaTube$Round;LPeaTube$Tally;)V" } : Jvm.MethodName) ({ cls := "PeaTube$Kept", name := "giveBack", desc := "(LPeaTube$Tent;LPeaTube$Round;LPeaTube$Tally;)V" } : Jvm.MethodName) ∈ Gw := gwt_6 107 rfl rfl
theorem w_1459 : Jvm.Cond.fieldLink "PeaTubeModel" (63 : Nat) "PeaTubeModel" "thrown" "I" ∈ Gw := gwt_6 120 rfl rfl
theorem w_1458 : Jvm.Cond.fieldLink "PeaTubeModel" (66 : Nat) "PeaTubeModel" "status" "I" ∈ Gw := gwt_6 119 rfl rfl
theorem w_1460 : Jvm.Cond.fieldLink "PeaTubeModel" (69 : Nat) "PeaTubeModel" "above" "J" ∈ Gw := gwt_6 121 rfl rfl
theorem w_1461 : Jvm.Cond.fieldLink "PeaTubeModel" (7 : Nat) "PeaTubeModel" "under" "J" ∈ Gw := gwt_6 122 rfl rfl
theorem w_1658 : Jvm.Cond.methodLink "PeaTubeModel" (78 : Nat) ({ cls := "PeaTubeModel", name := "no", desc := "(I)Z" } : Jvm.MethodName) ∈ Gw := gwt_7 79 rfl rfl
theorem w_1660 : Jvm.Cond.instanceMethod ({ cls := "PeaTubeModel", name := "no", desc := "(I)Z" } : Jvm.MethodName) ∈ Gw := gwt_7 81 rfl rfl
theorem w_49 : Jvm.Cond.selects "PeaTubeModel" ({ cls := "PeaTubeModel", name := "no", desc := "(I)Z" } : Jvm.MethodName) ({ cls := "PeaTubeModel", name := "no", desc := "(I)Z" } : Jvm.MethodName) ∈ Gw := gwp_4 1 rfl rfl
theorem w_1462 : Jvm.Cond.fieldLink "PeaTubeModel" (13 : Nat) "PeaTubeModel" "traySort" "[I" ∈ Gw := gwt_6 123 rfl rfl
theorem w_1463 : Jvm.Cond.fieldLink "PeaTubeModel" (17 : Nat) "PeaTubeModel" "trayMany" "[I" ∈ Gw := gwt_6 124 rfl rfl
theorem w_1464 : Jvm.Cond.fieldLink "PeaTubeModel" (20 : Nat) "PeaTubeModel" "numbers" "[J" ∈ Gw := gwt_6 125 rfl rfl
theorem w_1670 : Jvm.Cond.methodLink "PeaTubeModel" (82 : Nat) ({ cls := "PeaTubeModel", name := "trayed", desc := "(I)I" } : Jvm.MethodName) ∈ Gw := gwt_7 91 rfl rfl
theorem w_1672 : Jvm.Cond.instanceMethod ({ cls := "PeaTubeModel", name := "trayed", desc := "(I)I" } : Jvm.MethodName) ∈ Gw := gwt_7 93 rfl rfl
theorem w_51 : Jvm.Cond.selects "PeaTubeModel" ({ cls := "PeaTubeModel", name := "trayed", desc := "(I)I" } : Jvm.MethodName) ({ cls := "PeaTubeModel", name := "trayed", desc := "(I)I" } : Jvm.MethodName) ∈ Gw := gwp_4 3 rfl rfl
theorem w_1666 : Jvm.Cond.methodLink "PeaTubeModel" (86 : Nat) ({ cls := "PeaTubeModel", name := "placed", desc := "(II)I" } : Jvm.MethodName) ∈ Gw := gwt_7 87 rfl rfl
theorem w_1668 : Jvm.Cond.instanceMethod ({ cls := "PeaTubeModel", name := "placed", desc := "(II)I" } : Jvm.MethodName) ∈ Gw := gwt_7 89 rfl rfl
theorem w_50 : Jvm.Cond.selects "PeaTubeModel" ({ cls := "PeaTubeModel", name := "placed", desc := "(II)I" } : Jvm.MethodName) ({ cls := "PeaTubeModel", name := "placed", desc := "(II)I" } : Jvm.MethodName) ∈ Gw := gwp_4 2 rfl rfl
theorem w_1674 : Jvm.Cond.methodLink "PeaTubeModel" (90 : Nat) ({ cls := "PeaTubeModel", name := "cut", desc := "(IJ)J" } : Jvm.MethodName) ∈ Gw := gwt_7 95 rfl rfl
theorem w_1675 : Jvm.Cond.static ({ cls := "PeaTubeModel", name := "cut", desc := "(IJ)J" } : Jvm.MethodName) ∈ Gw := gwt_7 96 rfl rfl
theorem w_1681 : Jvm.Cond.constantLong "PeaTubeModel" (94 : Nat) (-1 : Int64) ∈ Gw := gwt_7 102 rfl rfl
theorem w_1465 : Jvm.Cond.fieldLink "PeaTubeModel" (24 : Nat) "PeaTubeModel" "tape" "[B" ∈ Gw := gwt_6 126 rfl rfl
theorem w_1466 : Jvm.Cond.fieldLink "PeaTubeModel" (232 : Nat) "PeaTubeModel" "taped" "I" ∈ Gw := gwt_6 127 rfl rfl
theorem w_1690 : Jvm.Cond.methodLink "PeaTubeModel" (235 : Nat) ({ cls := "PeaTubeModel", name := "lay", desc := "(I)V" } : Jvm.MethodName) ∈ Gw := gwt_7 111 rfl rfl
theorem w_1692 : Jvm.Cond.instanceMethod ({ cls := "PeaTubeModel", name := "lay", desc := "(I)V" } : Jvm.MethodName) ∈ Gw := gwt_7 113 rfl rfl
theorem w_52 : Jvm.Cond.selects "PeaTubeModel" ({ cls := "PeaTubeModel", name := "lay", desc := "(I)V" } : Jvm.MethodName) ({ cls := "PeaTubeModel", name := "lay", desc := "(I)V" } : Jvm.MethodName) ∈ Gw := gwp_4 4 rfl rfl
theorem w_1469 : Jvm.Cond.fieldLink "PeaTubeModel" (32 : Nat) "PeaTubeModel" "faultAt" "I" ∈ Gw := gwt_6 130 rfl rfl
theorem w_1468 : Jvm.Cond.fieldLink "PeaTubeModel" (28 : Nat) "PeaTubeModel" "faultKind" "I" ∈ Gw := gwt_6 129 rfl rfl
theorem w_1467 : Jvm.Cond.fieldLink "PeaTubeModel" (102 : Nat) "PeaTubeModel" "textEnd" "I" ∈ Gw := gwt_6 128 rfl rfl
theorem w_1474 : Jvm.Cond.fieldLink "PeaTubeModel" (105 : Nat) "PeaTubeModel" "behind" "I" ∈ Gw := gwt_6 135 rfl rfl
theorem w_1473 : Jvm.Cond.fieldLink "PeaTubeModel" (108 : Nat) "PeaTubeModel" "at" "I" ∈ Gw := gwt_6 134 rfl rfl
theorem w_1710 : Jvm.Cond.methodLink "PeaTubeModel" (111 : Nat) ({ cls := "PeaTubeModel", name := "look2", desc := "(I)I" } : Jvm.MethodName) ∈ Gw := gwt_7 131 rfl rfl
theorem w_1712 : Jvm.Cond.instanceMethod ({ cls := "PeaTubeModel", name := "look2", desc := "(I)I" } : Jvm.MethodName) ∈ Gw := gwt_7 133 rfl rfl
theorem w_55 : Jvm.Cond.selects "PeaTubeModel" ({ cls := "PeaTubeModel", name := "look2", desc := "(I)I" } : Jvm.MethodName) ({ cls := "PeaTubeModel", name := "look2", desc := "(I)I" } : Jvm.MethodName) ∈ Gw := gwp_4 7 rfl rfl
theorem w_1714 : Jvm.Cond.methodLink "PeaTubeModel" (117 : Nat) ({ cls := "PeaTubeModel", name := "isLetter", desc := "(I)Z" } : Jvm.MethodName) ∈ Gw := gwt_7 135 rfl rfl
theorem w_1715 : Jvm.Cond.static ({ cls := "PeaTubeModel", name := "isLetter", desc := "(I)Z" } : Jvm.MethodName) ∈ Gw := gwt_7 136 rfl rfl
theorem w_1719 : Jvm.Cond.methodLink "PeaTubeModel" (130 : Nat) ({ cls := "PeaTubeModel", name := "isDigit", desc := "(I)Z" } : Jvm.MethodName) ∈ Gw := gwt_7 140 rfl rfl
theorem w_1720 : Jvm.Cond.static ({ cls := "PeaTubeModel", name := "isDigit", desc := "(I)Z" } : Jvm.MethodName) ∈ Gw := gwt_7 141 rfl rfl
theorem w_1475 : Jvm.Cond.fieldLink "PeaTubeModel" (133 : Nat) "PeaTubeModel" "number" "I" ∈ Gw := gwt_6 136 rfl rfl
theorem w_1722 : Jvm.Cond.methodLink "PeaTubeModel" (136 : Nat) ({ cls := "PeaTubeModel", name := "isSignByte", desc := "(I)Z" } : Jvm.MethodName) ∈ Gw := gwt_7 143 rfl rfl
theorem w_1724 : Jvm.Cond.instanceMethod ({ cls := "PeaTubeModel", name := "isSignByte", desc := "(I)Z" } : Jvm.MethodName) ∈ Gw := gwt_7 145 rfl rfl
theorem w_56 : Jvm.Cond.selects "PeaTubeModel" ({ cls := "PeaTubeModel", name := "isSignByte", desc := "(I)Z" } : Jvm.MethodName) ({ cls := "PeaTubeModel", name := "isSignByte", desc := "(I)Z" } : Jvm.MethodName) ∈ Gw := gwp_4 8 rfl rfl
theorem w_1472 : Jvm.Cond.fieldLink "PeaTubeModel" (114 : Nat) "PeaTubeModel" "token" "I" ∈ Gw := gwt_6 133 rfl rfl
theorem w_1477 : Jvm.Cond.fieldLink "PeaTubeModel" (120 : Nat) "PeaTubeModel" "word" "J" ∈ Gw := gwt_6 138 rfl rfl
theorem w_1717 : Jvm.Cond.constantLong "PeaTubeModel" (123 : Nat) (32 : Int64) ∈ Gw := gwt_7 138 rfl rfl
theorem w_1718 : Jvm.Cond.constantLong "PeaTubeModel" (125 : Nat) (96 : Int64) ∈ Gw := gwt_7 139 rfl rfl
theorem w_1476 : Jvm.Cond.fieldLink "PeaTubeModel" (127 : Nat) "PeaTubeModel" "letters" "I" ∈ Gw := gwt_6 137 rfl rfl
theorem w_1470 : Jvm.Cond.fieldLink "PeaTubeModel" (216 : Nat) "PeaTubeModel" "bad" "I" ∈ Gw := gwt_6 131 rfl rfl
theorem w_1706 : Jvm.Cond.methodLink "PeaTubeModel" (226 : Nat) ({ cls := "PeaTubeModel", name := "next", desc := "()V" } : Jvm.MethodName) ∈ Gw := gwt_7 127 rfl rfl
theorem w_1708 : Jvm.Cond.instanceMethod ({ cls := "PeaTubeModel", name := "next", desc := "()V" } : Jvm.MethodName) ∈ Gw := gwt_7 129 rfl rfl
theorem w_54 : Jvm.Cond.selects "PeaTubeModel" ({ cls := "PeaTubeModel", name := "next", desc := "()V" } : Jvm.MethodName) ({ cls := "PeaTubeModel", name := "next", desc := "()V" } : Jvm.MethodName) ∈ Gw := gwp_4 6 rfl rfl
theorem w_1478 : Jvm.Cond.fieldLink "PeaTubeModel" (35 : Nat) "PeaTubeModel" "c" "[I" ∈ Gw := gwt_6 139 rfl rfl
theorem w_1730 : Jvm.Cond.methodLink "PeaTubeModel" (139 : Nat) ({ cls := "PeaTubeModel", name := "spelled", desc := "(IIIIII)J" } : Jvm.MethodName) ∈ Gw := gwt_7 151 rfl rfl
theorem w_1731 : Jvm.Cond.static ({ cls := "PeaTubeModel", name := "spelled", desc := "(IIIIII)J" } : Jvm.MethodName) ∈ Gw := gwt_7 152 rfl rfl
theorem w_1733 : Jvm.Cond.methodLink "PeaTubeModel" (143 : Nat) ({ cls := "PeaTubeModel", name := "isWord", desc := "(J)Z" } : Jvm.MethodName) ∈ Gw := gwt_7 154 rfl rfl
theorem w_1735 : Jvm.Cond.instanceMethod ({ cls := "PeaTubeModel", name := "isWord", desc := "(J)Z" } : Jvm.MethodName) ∈ Gw := gwt_7 156 rfl rfl
theorem w_58 : Jvm.Cond.selects "PeaTubeModel" ({ cls := "PeaTubeModel", name := "isWord", desc := "(J)Z" } : Jvm.MethodName) ({ cls := "PeaTubeModel", name := "isWord", desc := "(J)Z" } : Jvm.MethodName) ∈ Gw := gwp_4 10 rfl rfl
theorem w_1471 : Jvm.Cond.fieldLink "PeaTubeModel" (219 : Nat) "PeaTubeModel" "badAt" "I" ∈ Gw := gwt_6 132 rfl rfl
theorem w_1741 : Jvm.Cond.methodLink "PeaTubeModel" (222 : Nat) ({ cls := "PeaTubeModel", name := "fail", desc := "(II)V" } : Jvm.MethodName) ∈ Gw := gwt_7 162 rfl rfl
theorem w_1743 : Jvm.Cond.instanceMethod ({ cls := "PeaTubeModel", name := "fail", desc := "(II)V" } : Jvm.MethodName) ∈ Gw := gwt_7 164 rfl rfl
theorem w_60 : Jvm.Cond.selects "PeaTubeModel" ({ cls := "PeaTubeModel", name := "fail", desc := "(II)V" } : Jvm.MethodName) ({ cls := "PeaTubeModel", name := "fail", desc := "(II)V" } : Jvm.MethodName) ∈ Gw := gwp_4 12 rfl rfl
theorem w_1753 : Jvm.Cond.methodLink "PeaTubeModel" (98 : Nat) ({ cls := "PeaTubeModel", name := "isIn", desc := "(JJJ)Z" } : Jvm.MethodName) ∈ Gw := gwt_7 174 rfl rfl
theorem w_1754 : Jvm.Cond.static ({ cls := "PeaTubeModel", name := "isIn", desc := "(JJJ)Z" } : Jvm.MethodName) ∈ Gw := gwt_7 175 rfl rfl
theorem w_1749 : Jvm.Cond.methodLink "PeaTubeModel" (229 : Nat) ({ cls := "PeaTubeModel", name := "wrong", desc := "()V" } : Jvm.MethodName) ∈ Gw := gwt_7 170 rfl rfl
theorem w_1751 : Jvm.Cond.instanceMethod ({ cls := "PeaTubeModel", name := "wrong", desc := "()V" } : Jvm.MethodName) ∈ Gw := gwt_7 172 rfl rfl
theorem w_62 : Jvm.Cond.selects "PeaTubeModel" ({ cls := "PeaTubeModel", name := "wrong", desc := "()V" } : Jvm.MethodName) ({ cls := "PeaTubeModel", name := "wrong", desc := "()V" } : Jvm.MethodName) ∈ Gw := gwp_4 14 rfl rfl
theorem w_1482 : Jvm.Cond.fieldLink "PeaTubeModel" (238 : Nat) "PeaTubeModel" "tubeTold" "Z" ∈ Gw := gwt_6 143 rfl rfl
theorem w_1745 : Jvm.Cond.methodLink "PeaTubeModel" (242 : Nat) ({ cls := "PeaTubeModel", name := "count", desc := "(II)I" } : Jvm.MethodName) ∈ Gw := gwt_7 166 rfl rfl
theorem w_1747 : Jvm.Cond.instanceMethod ({ cls := "PeaTubeModel", name := "count", desc := "(II)I" } : Jvm.MethodName) ∈ Gw := gwt_7 168 rfl rfl
theorem w_61 : Jvm.Cond.selects "PeaTubeModel" ({ cls := "PeaTubeModel", name := "count", desc := "(II)I" } : Jvm.MethodName) ({ cls := "PeaTubeModel", name := "count", desc := "(II)I" } : Jvm.MethodName) ∈ Gw := gwp_4 13 rfl rfl
theorem w_1756 : Jvm.Cond.methodLink "PeaTubeModel" (158 : Nat) ({ cls := "PeaTubeModel", name := "isBore", desc := "()Z" } : Jvm.MethodName) ∈ Gw := gwt_7 177 rfl rfl
theorem w_1758 : Jvm.Cond.instanceMethod ({ cls := "PeaTubeModel", name := "isBore", desc := "()Z" } : Jvm.MethodName) ∈ Gw := gwt_7 179 rfl rfl
theorem w_63 : Jvm.Cond.selects "PeaTubeModel" ({ cls := "PeaTubeModel", name := "isBore", desc := "()Z" } : Jvm.MethodName) ({ cls := "PeaTubeModel", name := "isBore", desc := "()Z" } : Jvm.MethodName) ∈ Gw := gwp_4 15 rfl rfl
theorem w_1760 : Jvm.Cond.methodLink "PeaTubeModel" (245 : Nat) ({ cls := "PeaTubeModel", name := "must", desc := "(Z)V" } : Jvm.MethodName) ∈ Gw := gwt_7 181 rfl rfl
theorem w_1762 : Jvm.Cond.instanceMethod ({ cls := "PeaTubeModel", name := "must", desc := "(Z)V" } : Jvm.MethodName) ∈ Gw := gwt_7 183 rfl rfl
theorem w_64 : Jvm.Cond.selects "PeaTubeModel" ({ cls := "PeaTubeModel", name := "must", desc := "(Z)V" } : Jvm.MethodName) ({ cls := "PeaTubeModel", name := "must", desc := "(Z)V" } : Jvm.MethodName) ∈ Gw := gwp_5 0 rfl rfl
theorem w_1483 : Jvm.Cond.fieldLink "PeaTubeModel" (249 : Nat) "PeaTubeModel" "farTold" "Z" ∈ Gw := gwt_6 144 rfl rfl
theorem w_1484 : Jvm.Cond.fieldLink "PeaTubeModel" (252 : Nat) "PeaTubeModel" "windTold" "Z" ∈ Gw := gwt_6 145 rfl rfl
theorem w_1780 : Jvm.Cond.methodLink "PeaTubeModel" (167 : Nat) ({ cls := "PeaTubeModel", name := "isLeft", desc := "()Z" } : Jvm.MethodName) ∈ Gw := gwt_7 201 rfl rfl
theorem w_1782 : Jvm.Cond.instanceMethod ({ cls := "PeaTubeModel", name := "isLeft", desc := "()Z" } : Jvm.MethodName) ∈ Gw := gwt_7 203 rfl rfl
theorem w_69 : Jvm.Cond.selects "PeaTubeModel" ({ cls := "PeaTubeModel", name := "isLeft", desc := "()Z" } : Jvm.MethodName) ({ cls := "PeaTubeModel", name := "isLeft", desc := "()Z" } : Jvm.MethodName) ∈ Gw := gwp_5 5 rfl rfl
theorem w_1792 : Jvm.Cond.methodLink "PeaTubeModel" (173 : Nat) ({ cls := "PeaTubeModel", name := "isWorth", desc := "()Z" } : Jvm.MethodName) ∈ Gw := gwt_7 213 rfl rfl
theorem w_1794 : Jvm.Cond.instanceMethod ({ cls := "PeaTubeModel", name := "isWorth", desc := "()Z" } : Jvm.MethodName) ∈ Gw := gwt_7 215 rfl rfl
theorem w_72 : Jvm.Cond.selects "PeaTubeModel" ({ cls := "PeaTubeModel", name := "isWorth", desc := "()Z" } : Jvm.MethodName) ({ cls := "PeaTubeModel", name := "isWorth", desc := "()Z" } : Jvm.MethodName) ∈ Gw := gwp_5 8 rfl rfl
theorem w_1828 : Jvm.Cond.constantLong "PeaTubeModel" (147 : Nat) (4 : Int64) ∈ Gw := gwt_8 9 rfl rfl
theorem w_1837 : Jvm.Cond.constantLong "PeaTubeModel" (149 : Nat) (18 : Int64) ∈ Gw := gwt_8 18 rfl rfl
theorem w_1854 : Jvm.Cond.methodLink "PeaTubeModel" (151 : Nat) ({ cls := "PeaTubeModel", name := "isPuff", desc := "()Z" } : Jvm.MethodName) ∈ Gw := gwt_8 35 rfl rfl
theorem w_1856 : Jvm.Cond.instanceMethod ({ cls := "PeaTubeModel", name := "isPuff", desc := "()Z" } : Jvm.MethodName) ∈ Gw := gwt_8 37 rfl rfl
theorem w_87 : Jvm.Cond.selects "PeaTubeModel" ({ cls := "PeaTubeModel", name := "isPuff", desc := "()Z" } : Jvm.MethodName) ({ cls := "PeaTubeModel", name := "isPuff", desc := "()Z" } : Jvm.MethodName) ∈ Gw := gwp_6 7 rfl rfl
theorem w_1726 : Jvm.Cond.methodLink "PeaTubeModel" (155 : Nat) ({ cls := "PeaTubeModel", name := "isTube", desc := "()Z" } : Jvm.MethodName) ∈ Gw := gwt_7 147 rfl rfl
theorem w_1728 : Jvm.Cond.instanceMethod ({ cls := "PeaTubeModel", name := "isTube", desc := "()Z" } : Jvm.MethodName) ∈ Gw := gwt_7 149 rfl rfl
theorem w_57 : Jvm.Cond.selects "PeaTubeModel" ({ cls := "PeaTubeModel", name := "isTube", desc := "()Z" } : Jvm.MethodName) ({ cls := "PeaTubeModel", name := "isTube", desc := "()Z" } : Jvm.MethodName) ∈ Gw := gwp_4 9 rfl rfl
theorem w_1764 : Jvm.Cond.methodLink "PeaTubeModel" (161 : Nat) ({ cls := "PeaTubeModel", name := "isFar", desc := "()Z" } : Jvm.MethodName) ∈ Gw := gwt_7 185 rfl rfl
theorem w_1766 : Jvm.Cond.instanceMethod ({ cls := "PeaTubeModel", name := "isFar", desc := "()Z" } : Jvm.MethodName) ∈ Gw := gwt_7 187 rfl rfl
theorem w_65 : Jvm.Cond.selects "PeaTubeModel" ({ cls := "PeaTubeModel", name := "isFar", desc := "()Z" } : Jvm.MethodName) ({ cls := "PeaTubeModel", name := "isFar", desc := "()Z" } : Jvm.MethodName) ∈ Gw := gwp_5 1 rfl rfl
theorem w_1772 : Jvm.Cond.methodLink "PeaTubeModel" (164 : Nat) ({ cls := "PeaTubeModel", name := "isWind", desc := "()Z" } : Jvm.MethodName) ∈ Gw := gwt_7 193 rfl rfl
theorem w_1774 : Jvm.Cond.instanceMethod ({ cls := "PeaTubeModel", name := "isWind", desc := "()Z" } : Jvm.MethodName) ∈ Gw := gwt_7 195 rfl rfl
theorem w_67 : Jvm.Cond.selects "PeaTubeModel" ({ cls := "PeaTubeModel", name := "isWind", desc := "()Z" } : Jvm.MethodName) ({ cls := "PeaTubeModel", name := "isWind", desc := "()Z" } : Jvm.MethodName) ∈ Gw := gwp_5 3 rfl rfl
theorem w_1784 : Jvm.Cond.methodLink "PeaTubeModel" (170 : Nat) ({ cls := "PeaTubeModel", name := "isRing", desc := "()Z" } : Jvm.MethodName) ∈ Gw := gwt_7 205 rfl rfl
theorem w_1786 : Jvm.Cond.instanceMethod ({ cls := "PeaTubeModel", name := "isRing", desc := "()Z" } : Jvm.MethodName) ∈ Gw := gwt_7 207 rfl rfl
theorem w_70 : Jvm.Cond.selects "PeaTubeModel" ({ cls := "PeaTubeModel", name := "isRing", desc := "()Z" } : Jvm.MethodName) ({ cls := "PeaTubeModel", name := "isRing", desc := "()Z" } : Jvm.MethodName) ∈ Gw := gwp_5 6 rfl rfl
theorem w_1796 : Jvm.Cond.methodLink "PeaTubeModel" (176 : Nat) ({ cls := "PeaTubeModel", name := "isPea", desc := "()Z" } : Jvm.MethodName) ∈ Gw := gwt_7 217 rfl rfl
theorem w_1798 : Jvm.Cond.instanceMethod ({ cls := "PeaTubeModel", name := "isPea", desc := "()Z" } : Jvm.MethodName) ∈ Gw := gwt_7 219 rfl rfl
theorem w_73 : Jvm.Cond.selects "PeaTubeModel" ({ cls := "PeaTubeModel", name := "isPea", desc := "()Z" } : Jvm.MethodName) ({ cls := "PeaTubeModel", name := "isPea", desc := "()Z" } : Jvm.MethodName) ∈ Gw := gwp_5 9 rfl rfl
theorem w_1816 : Jvm.Cond.methodLink "PeaTubeModel" (179 : Nat) ({ cls := "PeaTubeModel", name := "isSize", desc := "()Z" } : Jvm.MethodName) ∈ Gw := gwt_7 237 rfl rfl
theorem w_1818 : Jvm.Cond.instanceMethod ({ cls := "PeaTubeModel", name := "isSize", desc := "()Z" } : Jvm.MethodName) ∈ Gw := gwt_7 239 rfl rfl
theorem w_78 : Jvm.Cond.selects "PeaTubeModel" ({ cls := "PeaTubeModel", name := "isSize", desc := "()Z" } : Jvm.MethodName) ({ cls := "PeaTubeModel", name := "isSize", desc := "()Z" } : Jvm.MethodName) ∈ Gw := gwp_5 14 rfl rfl
theorem w_1820 : Jvm.Cond.methodLink "PeaTubeModel" (182 : Nat) ({ cls := "PeaTubeModel", name := "isWeight", desc := "()Z" } : Jvm.MethodName) ∈ Gw := gwt_8 1 rfl rfl
theorem w_1822 : Jvm.Cond.instanceMethod ({ cls := "PeaTubeModel", name := "isWeight", desc := "()Z" } : Jvm.MethodName) ∈ Gw := gwt_8 3 rfl rfl
theorem w_79 : Jvm.Cond.selects "PeaTubeModel" ({ cls := "PeaTubeModel", name := "isWeight", desc := "()Z" } : Jvm.MethodName) ({ cls := "PeaTubeModel", name := "isWeight", desc := "()Z" } : Jvm.MethodName) ∈ Gw := gwp_5 15 rfl rfl
theorem w_1824 : Jvm.Cond.methodLink "PeaTubeModel" (185 : Nat) ({ cls := "PeaTubeModel", name := "isCrooked", desc := "()Z" } : Jvm.MethodName) ∈ Gw := gwt_8 5 rfl rfl
theorem w_1826 : Jvm.Cond.instanceMethod ({ cls := "PeaTubeModel", name := "isCrooked", desc := "()Z" } : Jvm.MethodName) ∈ Gw := gwt_8 7 rfl rfl
theorem w_80 : Jvm.Cond.selects "PeaTubeModel" ({ cls := "PeaTubeModel", name := "isCrooked", desc := "()Z" } : Jvm.MethodName) ({ cls := "PeaTubeModel", name := "isCrooked", desc := "()Z" } : Jvm.MethodName) ∈ Gw := gwp_6 0 rfl rfl
theorem w_1829 : Jvm.Cond.methodLink "PeaTubeModel" (188 : Nat) ({ cls := "PeaTubeModel", name := "isWet", desc := "()Z" } : Jvm.MethodName) ∈ Gw := gwt_8 10 rfl rfl
theorem w_1831 : Jvm.Cond.instanceMethod ({ cls := "PeaTubeModel", name := "isWet", desc := "()Z" } : Jvm.MethodName) ∈ Gw := gwt_8 12 rfl rfl
theorem w_81 : Jvm.Cond.selects "PeaTubeModel" ({ cls := "PeaTubeModel", name := "isWet", desc := "()Z" } : Jvm.MethodName) ({ cls := "PeaTubeModel", name := "isWet", desc := "()Z" } : Jvm.MethodName) ∈ Gw := gwp_6 1 rfl rfl
theorem w_1833 : Jvm.Cond.methodLink "PeaTubeModel" (191 : Nat) ({ cls := "PeaTubeModel", name := "isShooter", desc := "()Z" } : Jvm.MethodName) ∈ Gw := gwt_8 14 rfl rfl
theorem w_1835 : Jvm.Cond.instanceMethod ({ cls := "PeaTubeModel", name := "isShooter", desc := "()Z" } : Jvm.MethodName) ∈ Gw := gwt_8 16 rfl rfl
theorem w_82 : Jvm.Cond.selects "PeaTubeModel" ({ cls := "PeaTubeModel", name := "isShooter", desc := "()Z" } : Jvm.MethodName) ({ cls := "PeaTubeModel", name := "isShooter", desc := "()Z" } : Jvm.MethodName) ∈ Gw := gwp_6 2 rfl rfl
theorem w_1838 : Jvm.Cond.methodLink "PeaTubeModel" (194 : Nat) ({ cls := "PeaTubeModel", name := "isShake", desc := "()Z" } : Jvm.MethodName) ∈ Gw := gwt_8 19 rfl rfl
theorem w_1840 : Jvm.Cond.instanceMethod ({ cls := "PeaTubeModel", name := "isShake", desc := "()Z" } : Jvm.MethodName) ∈ Gw := gwt_8 21 rfl rfl
theorem w_83 : Jvm.Cond.selects "PeaTubeModel" ({ cls := "PeaTubeModel", name := "isShake", desc := "()Z" } : Jvm.MethodName) ({ cls := "PeaTubeModel", name := "isShake", desc := "()Z" } : Jvm.MethodName) ∈ Gw := gwp_6 3 rfl rfl
theorem w_1842 : Jvm.Cond.methodLink "PeaTubeModel" (197 : Nat) ({ cls := "PeaTubeModel", name := "isLean", desc := "()Z" } : Jvm.MethodName) ∈ Gw := gwt_8 23 rfl rfl
theorem w_1844 : Jvm.Cond.instanceMethod ({ cls := "PeaTubeModel", name := "isLean", desc := "()Z" } : Jvm.MethodName) ∈ Gw := gwt_8 25 rfl rfl
theorem w_84 : Jvm.Cond.selects "PeaTubeModel" ({ cls := "PeaTubeModel", name := "isLean", desc := "()Z" } : Jvm.MethodName) ({ cls := "PeaTubeModel", name := "isLean", desc := "()Z" } : Jvm.MethodName) ∈ Gw := gwp_6 4 rfl rfl
theorem w_1846 : Jvm.Cond.methodLink "PeaTubeModel" (200 : Nat) ({ cls := "PeaTubeModel", name := "isLow", desc := "()Z" } : Jvm.MethodName) ∈ Gw := gwt_8 27 rfl rfl
theorem w_1848 : Jvm.Cond.instanceMethod ({ cls := "PeaTubeModel", name := "isLow", desc := "()Z" } : Jvm.MethodName) ∈ Gw := gwt_8 29 rfl rfl
theorem w_85 : Jvm.Cond.selects "PeaTubeModel" ({ cls := "PeaTubeModel", name := "isLow", desc := "()Z" } : Jvm.MethodName) ({ cls := "PeaTubeModel", name := "isLow", desc := "()Z" } : Jvm.MethodName) ∈ Gw := gwp_6 5 rfl rfl
theorem w_1850 : Jvm.Cond.methodLink "PeaTubeModel" (203 : Nat) ({ cls := "PeaTubeModel", name := "stepWord", desc := "()I" } : Jvm.MethodName) ∈ Gw := gwt_8 31 rfl rfl
theorem w_1852 : Jvm.Cond.instanceMethod ({ cls := "PeaTubeModel", name := "stepWord", desc := "()I" } : Jvm.MethodName) ∈ Gw := gwt_8 33 rfl rfl
theorem w_86 : Jvm.Cond.selects "PeaTubeModel" ({ cls := "PeaTubeModel", name := "stepWord", desc := "()I" } : Jvm.MethodName) ({ cls := "PeaTubeModel", name := "stepWord", desc := "()I" } : Jvm.MethodName) ∈ Gw := gwp_6 6 rfl rfl
theorem w_1858 : Jvm.Cond.methodLink "PeaTubeModel" (207 : Nat) ({ cls := "PeaTubeModel", name := "testWord", desc := "()I" } : Jvm.MethodName) ∈ Gw := gwt_8 39 rfl rfl
theorem w_1860 : Jvm.Cond.instanceMethod ({ cls := "PeaTubeModel", name := "testWord", desc := "()I" } : Jvm.MethodName) ∈ Gw := gwt_8 41 rfl rfl
theorem w_88 : Jvm.Cond.selects "PeaTubeModel" ({ cls := "PeaTubeModel", name := "testWord", desc := "()I" } : Jvm.MethodName) ({ cls := "PeaTubeModel", name := "testWord", desc := "()I" } : Jvm.MethodName) ∈ Gw := gwp_6 8 rfl rfl
theorem w_1862 : Jvm.Cond.methodLink "PeaTubeModel" (210 : Nat) ({ cls := "PeaTubeModel", name := "isEnd", desc := "()Z" } : Jvm.MethodName) ∈ Gw := gwt_8 43 rfl rfl
theorem w_1864 : Jvm.Cond.instanceMethod ({ cls := "PeaTubeModel", name := "isEnd", desc := "()Z" } : Jvm.MethodName) ∈ Gw := gwt_8 45 rfl rfl
theorem w_89 : Jvm.Cond.selects "PeaTubeModel" ({ cls := "PeaTubeModel", name := "isEnd", desc := "()Z" } : Jvm.MethodName) ({ cls := "PeaTubeModel", name := "isEnd", desc := "()Z" } : Jvm.MethodName) ∈ Gw := gwp_6 9 rfl rfl
theorem w_1812 : Jvm.Cond.methodLink "PeaTubeModel" (213 : Nat) ({ cls := "PeaTubeModel", name := "isKept", desc := "()Z" } : Jvm.MethodName) ∈ Gw := gwt_7 233 rfl rfl
theorem w_1814 : Jvm.Cond.instanceMethod ({ cls := "PeaTubeModel", name := "isKept", desc := "()Z" } : Jvm.MethodName) ∈ Gw := gwt_7 235 rfl rfl
theorem w_77 : Jvm.Cond.selects "PeaTubeModel" ({ cls := "PeaTubeModel", name := "isKept", desc := "()Z" } : Jvm.MethodName) ({ cls := "PeaTubeModel", name := "isKept", desc := "()Z" } : Jvm.MethodName) ∈ Gw := gwp_5 13 rfl rfl
theorem w_1480 : Jvm.Cond.fieldLink "PeaTubeModel" (41 : Nat) "PeaTubeModel" "words" "[J" ∈ Gw := gwt_6 141 rfl rfl
theorem w_1808 : Jvm.Cond.methodLink "PeaTubeModel" (255 : Nat) ({ cls := "PeaTubeModel", name := "isName", desc := "()Z" } : Jvm.MethodName) ∈ Gw := gwt_7 229 rfl rfl
theorem w_1810 : Jvm.Cond.instanceMethod ({ cls := "PeaTubeModel", name := "isName", desc := "()Z" } : Jvm.MethodName) ∈ Gw := gwt_7 231 rfl rfl
theorem w_76 : Jvm.Cond.selects "PeaTubeModel" ({ cls := "PeaTubeModel", name := "isName", desc := "()Z" } : Jvm.MethodName) ({ cls := "PeaTubeModel", name := "isName", desc := "()Z" } : Jvm.MethodName) ∈ Gw := gwp_5 12 rfl rfl
theorem w_1866 : Jvm.Cond.methodLink "PeaTubeModel" (258 : Nat) ({ cls := "PeaTubeModel", name := "peaNamed", desc := "(I)I" } : Jvm.MethodName) ∈ Gw := gwt_8 47 rfl rfl
theorem w_1868 : Jvm.Cond.instanceMethod ({ cls := "PeaTubeModel", name := "peaNamed", desc := "(I)I" } : Jvm.MethodName) ∈ Gw := gwt_8 49 rfl rfl
theorem w_90 : Jvm.Cond.selects "PeaTubeModel" ({ cls := "PeaTubeModel", name := "peaNamed", desc := "(I)I" } : Jvm.MethodName) ({ cls := "PeaTubeModel", name := "peaNamed", desc := "(I)I" } : Jvm.MethodName) ∈ Gw := gwp_6 10 rfl rfl
theorem w_1870 : Jvm.Cond.methodLink "PeaTubeModel" (261 : Nat) ({ cls := "PeaTubeModel", name := "shooterNamed", desc := "(I)I" } : Jvm.MethodName) ∈ Gw := gwt_8 51 rfl rfl
theorem w_1872 : Jvm.Cond.instanceMethod ({ cls := "PeaTubeModel", name := "shooterNamed", desc := "(I)I" } : Jvm.MethodName) ∈ Gw := gwt_8 53 rfl rfl
theorem w_91 : Jvm.Cond.selects "PeaTubeModel" ({ cls := "PeaTubeModel", name := "shooterNamed", desc := "(I)I" } : Jvm.MethodName) ({ cls := "PeaTubeModel", name := "shooterNamed", desc := "(I)I" } : Jvm.MethodName) ∈ Gw := gwp_6 11 rfl rfl
theorem w_1804 : Jvm.Cond.methodLink "PeaTubeModel" (264 : Nat) ({ cls := "PeaTubeModel", name := "readNew", desc := "(I)V" } : Jvm.MethodName) ∈ Gw := gwt_7 225 rfl rfl
theorem w_1806 : Jvm.Cond.instanceMethod ({ cls := "PeaTubeModel", name := "readNew", desc := "(I)V" } : Jvm.MethodName) ∈ Gw := gwt_7 227 rfl rfl
theorem w_75 : Jvm.Cond.selects "PeaTubeModel" ({ cls := "PeaTubeModel", name := "readNew", desc := "(I)V" } : Jvm.MethodName) ({ cls := "PeaTubeModel", name := "readNew", desc := "(I)V" } : Jvm.MethodName) ∈ Gw := gwp_5 11 rfl rfl
theorem w_1702 : Jvm.Cond.methodLink "PeaTubeModel" (267 : Nat) ({ cls := "PeaTubeModel", name := "opens", desc := "(II)Z" } : Jvm.MethodName) ∈ Gw := gwt_7 123 rfl rfl
theorem w_1704 : Jvm.Cond.instanceMethod ({ cls := "PeaTubeModel", name := "opens", desc := "(II)Z" } : Jvm.MethodName) ∈ Gw := gwt_7 125 rfl rfl
theorem w_53 : Jvm.Cond.selects "PeaTubeModel" ({ cls := "PeaTubeModel", name := "opens", desc := "(II)Z" } : Jvm.MethodName) ({ cls := "PeaTubeModel", name := "opens", desc := "(II)Z" } : Jvm.MethodName) ∈ Gw := gwp_4 5 rfl rfl
theorem w_1454 : Jvm.Cond.methodLink "PeaTubeModel" (59 : Nat) ({ cls := "PeaTubeModel", name := "begins", desc := "(I)V" } : Jvm.MethodName) ∈ Gw := gwt_6 115 rfl rfl
theorem w_1456 : Jvm.Cond.instanceMethod ({ cls := "PeaTubeModel", name := "begins", desc := "(I)V" } : Jvm.MethodName) ∈ Gw := gwt_6 117 rfl rfl
theorem w_48 : Jvm.Cond.selects "PeaTubeModel" ({ cls := "PeaTubeModel", name := "begins", desc := "(I)V" } : Jvm.MethodName) ({ cls := "PeaTubeModel", name := "begins", desc := "(I)V" } : Jvm.MethodName) ∈ Gw := gwp_4 0 rfl rfl
theorem w_1878 : Jvm.Cond.methodLink "PeaTubeModel" (289 : Nat) ({ cls := "PeaTubeModel", name := "isSign", desc := "(I)Z" } : Jvm.MethodName) ∈ Gw := gwt_8 59 rfl rfl
theorem w_1880 : Jvm.Cond.instanceMethod ({ cls := "PeaTubeModel", name := "isSign", desc := "(I)Z" } : Jvm.MethodName) ∈ Gw := gwt_8 61 rfl rfl
theorem w_93 : Jvm.Cond.selects "PeaTubeModel" ({ cls := "PeaTubeModel", name := "isSign", desc := "(I)Z" } : Jvm.MethodName) ({ cls := "PeaTubeModel", name := "isSign", desc := "(I)Z" } : Jvm.MethodName) ∈ Gw := gwp_6 13 rfl rfl
theorem w_1874 : Jvm.Cond.methodLink "PeaTubeModel" (286 : Nat) ({ cls := "PeaTubeModel", name := "readShooter", desc := "()V" } : Jvm.MethodName) ∈ Gw := gwt_8 55 rfl rfl
theorem w_1876 : Jvm.Cond.instanceMethod ({ cls := "PeaTubeModel", name := "readShooter", desc := "()V" } : Jvm.MethodName) ∈ Gw := gwt_8 57 rfl rfl
theorem w_92 : Jvm.Cond.selects "PeaTubeModel" ({ cls := "PeaTubeModel", name := "readShooter", desc := "()V" } : Jvm.MethodName) ({ cls := "PeaTubeModel", name := "readShooter", desc := "()V" } : Jvm.MethodName) ∈ Gw := gwp_6 12 rfl rfl
theorem w_1800 : Jvm.Cond.methodLink "PeaTubeModel" (283 : Nat) ({ cls := "PeaTubeModel", name := "readPea", desc := "()V" } : Jvm.MethodName) ∈ Gw := gwt_7 221 rfl rfl
theorem w_1802 : Jvm.Cond.instanceMethod ({ cls := "PeaTubeModel", name := "readPea", desc := "()V" } : Jvm.MethodName) ∈ Gw := gwt_7 223 rfl rfl
theorem w_74 : Jvm.Cond.selects "PeaTubeModel" ({ cls := "PeaTubeModel", name := "readPea", desc := "()V" } : Jvm.MethodName) ({ cls := "PeaTubeModel", name := "readPea", desc := "()V" } : Jvm.MethodName) ∈ Gw := gwp_5 10 rfl rfl
theorem w_1788 : Jvm.Cond.methodLink "PeaTubeModel" (280 : Nat) ({ cls := "PeaTubeModel", name := "readRing", desc := "()V" } : Jvm.MethodName) ∈ Gw := gwt_7 209 rfl rfl
theorem w_1790 : Jvm.Cond.instanceMethod ({ cls := "PeaTubeModel", name := "readRing", desc := "()V" } : Jvm.MethodName) ∈ Gw := gwt_7 211 rfl rfl
theorem w_71 : Jvm.Cond.selects "PeaTubeModel" ({ cls := "PeaTubeModel", name := "readRing", desc := "()V" } : Jvm.MethodName) ({ cls := "PeaTubeModel", name := "readRing", desc := "()V" } : Jvm.MethodName) ∈ Gw := gwp_5 7 rfl rfl
theorem w_1776 : Jvm.Cond.methodLink "PeaTubeModel" (277 : Nat) ({ cls := "PeaTubeModel", name := "readWind", desc := "()V" } : Jvm.MethodName) ∈ Gw := gwt_7 197 rfl rfl
theorem w_1778 : Jvm.Cond.instanceMethod ({ cls := "PeaTubeModel", name := "readWind", desc := "()V" } : Jvm.MethodName) ∈ Gw := gwt_7 199 rfl rfl
theorem w_68 : Jvm.Cond.selects "PeaTubeModel" ({ cls := "PeaTubeModel", name := "readWind", desc := "()V" } : Jvm.MethodName) ({ cls := "PeaTubeModel", name := "readWind", desc := "()V" } : Jvm.MethodName) ∈ Gw := gwp_5 4 rfl rfl
theorem w_1768 : Jvm.Cond.methodLink "PeaTubeModel" (274 : Nat) ({ cls := "PeaTubeModel", name := "readFar", desc := "()V" } : Jvm.MethodName) ∈ Gw := gwt_7 189 rfl rfl
theorem w_1770 : Jvm.Cond.instanceMethod ({ cls := "PeaTubeModel", name := "readFar", desc := "()V" } : Jvm.MethodName) ∈ Gw := gwt_7 191 rfl rfl
theorem w_66 : Jvm.Cond.selects "PeaTubeModel" ({ cls := "PeaTubeModel", name := "readFar", desc := "()V" } : Jvm.MethodName) ({ cls := "PeaTubeModel", name := "readFar", desc := "()V" } : Jvm.MethodName) ∈ Gw := gwp_5 2 rfl rfl
theorem w_1737 : Jvm.Cond.methodLink "PeaTubeModel" (271 : Nat) ({ cls := "PeaTubeModel", name := "readTube", desc := "()V" } : Jvm.MethodName) ∈ Gw := gwt_7 158 rfl rfl
theorem w_1739 : Jvm.Cond.instanceMethod ({ cls := "PeaTubeModel", name := "readTube", desc := "()V" } : Jvm.MethodName) ∈ Gw := gwt_7 160 rfl rfl
theorem w_59 : Jvm.Cond.selects "PeaTubeModel" ({ cls := "PeaTubeModel", name := "readTube", desc := "()V" } : Jvm.MethodName) ({ cls := "PeaTubeModel", name := "readTube", desc := "()V" } : Jvm.MethodName) ∈ Gw := gwp_4 11 rfl rfl
theorem w_1882 : Jvm.Cond.methodLink "PeaTubeModel" (292 : Nat) ({ cls := "PeaTubeModel", name := "isWell", desc := "()Z" } : Jvm.MethodName) ∈ Gw := gwt_8 63 rfl rfl
theorem w_1884 : Jvm.Cond.instanceMethod ({ cls := "PeaTubeModel", name := "isWell", desc := "()Z" } : Jvm.MethodName) ∈ Gw := gwt_8 65 rfl rfl
theorem w_94 : Jvm.Cond.selects "PeaTubeModel" ({ cls := "PeaTubeModel", name := "isWell", desc := "()Z" } : Jvm.MethodName) ({ cls := "PeaTubeModel", name := "isWell", desc := "()Z" } : Jvm.MethodName) ∈ Gw := gwp_6 14 rfl rfl
theorem w_1886 : Jvm.Cond.methodLink "PeaTubeModel" (295 : Nat) ({ cls := "PeaTubeModel", name := "copy", desc := "(II)V" } : Jvm.MethodName) ∈ Gw := gwt_8 67 rfl rfl
theorem w_1888 : Jvm.Cond.instanceMethod ({ cls := "PeaTubeModel", name := "copy", desc := "(II)V" } : Jvm.MethodName) ∈ Gw := gwt_8 69 rfl rfl
theorem w_95 : Jvm.Cond.selects "PeaTubeModel" ({ cls := "PeaTubeModel", name := "copy", desc := "(II)V" } : Jvm.MethodName) ({ cls := "PeaTubeModel", name := "copy", desc := "(II)V" } : Jvm.MethodName) ∈ Gw := gwp_6 15 rfl rfl
theorem w_1902 : Jvm.Cond.methodLink "PeaTubeModel" (298 : Nat) ({ cls := "PeaTubeModel", name := "readTold", desc := "(Z)I" } : Jvm.MethodName) ∈ Gw := gwt_8 83 rfl rfl
theorem w_1904 : Jvm.Cond.instanceMethod ({ cls := "PeaTubeModel", name := "readTold", desc := "(Z)I" } : Jvm.MethodName) ∈ Gw := gwt_8 85 rfl rfl
theorem w_98 : Jvm.Cond.selects "PeaTubeModel" ({ cls := "PeaTubeModel", name := "readTold", desc := "(Z)I" } : Jvm.MethodName) ({ cls := "PeaTubeModel", name := "readTold", desc := "(Z)I" } : Jvm.MethodName) ∈ Gw := gwp_7 2 rfl rfl
theorem w_1910 : Jvm.Cond.methodLink "PeaTubeModel" (305 : Nat) ({ cls := "PeaTubeModel", name := "readTest", desc := "(I)V" } : Jvm.MethodName) ∈ Gw := gwt_8 91 rfl rfl
theorem w_1912 : Jvm.Cond.instanceMethod ({ cls := "PeaTubeModel", name := "readTest", desc := "(I)V" } : Jvm.MethodName) ∈ Gw := gwt_8 93 rfl rfl
theorem w_100 : Jvm.Cond.selects "PeaTubeModel" ({ cls := "PeaTubeModel", name := "readTest", desc := "(I)V" } : Jvm.MethodName) ({ cls := "PeaTubeModel", name := "readTest", desc := "(I)V" } : Jvm.MethodName) ∈ Gw := gwp_7 4 rfl rfl
theorem w_1906 : Jvm.Cond.methodLink "PeaTubeModel" (302 : Nat) ({ cls := "PeaTubeModel", name := "readAim", desc := "(I)V" } : Jvm.MethodName) ∈ Gw := gwt_8 87 rfl rfl
theorem w_1908 : Jvm.Cond.instanceMethod ({ cls := "PeaTubeModel", name := "readAim", desc := "(I)V" } : Jvm.MethodName) ∈ Gw := gwt_8 89 rfl rfl
theorem w_99 : Jvm.Cond.selects "PeaTubeModel" ({ cls := "PeaTubeModel", name := "readAim", desc := "(I)V" } : Jvm.MethodName) ({ cls := "PeaTubeModel", name := "readAim", desc := "(I)V" } : Jvm.MethodName) ∈ Gw := gwp_7 3 rfl rfl
theorem w_1485 : Jvm.Cond.fieldLink "PeaTubeModel" (308 : Nat) "PeaTubeModel" "newSteps" "I" ∈ Gw := gwt_6 146 rfl rfl
theorem w_1898 : Jvm.Cond.methodLink "PeaTubeModel" (311 : Nat) ({ cls := "PeaTubeModel", name := "readRest", desc := "(I)V" } : Jvm.MethodName) ∈ Gw := gwt_8 79 rfl rfl
theorem w_1900 : Jvm.Cond.instanceMethod ({ cls := "PeaTubeModel", name := "readRest", desc := "(I)V" } : Jvm.MethodName) ∈ Gw := gwt_8 81 rfl rfl
theorem w_97 : Jvm.Cond.selects "PeaTubeModel" ({ cls := "PeaTubeModel", name := "readRest", desc := "(I)V" } : Jvm.MethodName) ({ cls := "PeaTubeModel", name := "readRest", desc := "(I)V" } : Jvm.MethodName) ∈ Gw := gwp_7 1 rfl rfl
theorem w_1894 : Jvm.Cond.methodLink "PeaTubeModel" (314 : Nat) ({ cls := "PeaTubeModel", name := "readStep", desc := "(I)V" } : Jvm.MethodName) ∈ Gw := gwt_8 75 rfl rfl
theorem w_1896 : Jvm.Cond.instanceMethod ({ cls := "PeaTubeModel", name := "readStep", desc := "(I)V" } : Jvm.MethodName) ∈ Gw := gwt_8 77 rfl rfl
theorem w_96 : Jvm.Cond.selects "PeaTubeModel" ({ cls := "PeaTubeModel", name := "readStep", desc := "(I)V" } : Jvm.MethodName) ({ cls := "PeaTubeModel", name := "readStep", desc := "(I)V" } : Jvm.MethodName) ∈ Gw := gwp_7 0 rfl rfl
theorem w_1918 : Jvm.Cond.constantLong "PeaTubeModel" (317 : Nat) (8 : Int64) ∈ Gw := gwt_8 99 rfl rfl
theorem w_1919 : Jvm.Cond.methodLink "PeaTubeModel" (319 : Nat) ({ cls := "PeaTubeModel", name := "refuse", desc := "(I)I" } : Jvm.MethodName) ∈ Gw := gwt_8 100 rfl rfl
theorem w_1921 : Jvm.Cond.instanceMethod ({ cls := "PeaTubeModel", name := "refuse", desc := "(I)I" } : Jvm.MethodName) ∈ Gw := gwt_8 102 rfl rfl
theorem w_101 : Jvm.Cond.selects "PeaTubeModel" ({ cls := "PeaTubeModel", name := "refuse", desc := "(I)I" } : Jvm.MethodName) ({ cls := "PeaTubeModel", name := "refuse", desc := "(I)I" } : Jvm.MethodName) ∈ Gw := gwp_7 5 rfl rfl
theorem w_1931 : Jvm.Cond.methodLink "PeaTubeModel" (322 : Nat) ({ cls := "PeaTubeModel", name := "isPeaAt", desc := "(I)Z" } : Jvm.MethodName) ∈ Gw := gwt_8 112 rfl rfl
theorem w_1933 : Jvm.Cond.instanceMethod ({ cls := "PeaTubeModel", name := "isPeaAt", desc := "(I)Z" } : Jvm.MethodName) ∈ Gw := gwt_8 114 rfl rfl
theorem w_102 : Jvm.Cond.selects "PeaTubeModel" ({ cls := "PeaTubeModel", name := "isPeaAt", desc := "(I)Z" } : Jvm.MethodName) ({ cls := "PeaTubeModel", name := "isPeaAt", desc := "(I)Z" } : Jvm.MethodName) ∈ Gw := gwp_7 6 rfl rfl
theorem w_1935 : Jvm.Cond.methodLink "PeaTubeModel" (325 : Nat) ({ cls := "PeaTubeModel", name := "fitOf", desc := "(I)I" } : Jvm.MethodName) ∈ Gw := gwt_8 116 rfl rfl
theorem w_1937 : Jvm.Cond.instanceMethod ({ cls := "PeaTubeModel", name := "fitOf", desc := "(I)I" } : Jvm.MethodName) ∈ Gw := gwt_8 118 rfl rfl
theorem w_103 : Jvm.Cond.selects "PeaTubeModel" ({ cls := "PeaTubeModel", name := "fitOf", desc := "(I)I" } : Jvm.MethodName) ({ cls := "PeaTubeModel", name := "fitOf", desc := "(I)I" } : Jvm.MethodName) ∈ Gw := gwp_7 7 rfl rfl
theorem w_1955 : Jvm.Cond.methodLink "PeaTubeModel" (474 : Nat) ({ cls := "PeaTubeModel", name := "holeAt", desc := "(I)I" } : Jvm.MethodName) ∈ Gw := gwt_8 136 rfl rfl
theorem w_1956 : Jvm.Cond.static ({ cls := "PeaTubeModel", name := "holeAt", desc := "(I)I" } : Jvm.MethodName) ∈ Gw := gwt_8 137 rfl rfl
theorem w_1951 : Jvm.Cond.methodLink "PeaTubeModel" (328 : Nat) ({ cls := "PeaTubeModel", name := "isHoleOf", desc := "(III)Z" } : Jvm.MethodName) ∈ Gw := gwt_8 132 rfl rfl
theorem w_1953 : Jvm.Cond.instanceMethod ({ cls := "PeaTubeModel", name := "isHoleOf", desc := "(III)Z" } : Jvm.MethodName) ∈ Gw := gwt_8 134 rfl rfl
theorem w_106 : Jvm.Cond.selects "PeaTubeModel" ({ cls := "PeaTubeModel", name := "isHoleOf", desc := "(III)Z" } : Jvm.MethodName) ({ cls := "PeaTubeModel", name := "isHoleOf", desc := "(III)Z" } : Jvm.MethodName) ∈ Gw := gwp_7 10 rfl rfl
theorem w_1943 : Jvm.Cond.methodLink "PeaTubeModel" (332 : Nat) ({ cls := "PeaTubeModel", name := "isShooterAt", desc := "(I)Z" } : Jvm.MethodName) ∈ Gw := gwt_8 124 rfl rfl
theorem w_1945 : Jvm.Cond.instanceMethod ({ cls := "PeaTubeModel", name := "isShooterAt", desc := "(I)Z" } : Jvm.MethodName) ∈ Gw := gwt_8 126 rfl rfl
theorem w_104 : Jvm.Cond.selects "PeaTubeModel" ({ cls := "PeaTubeModel", name := "isShooterAt", desc := "(I)Z" } : Jvm.MethodName) ({ cls := "PeaTubeModel", name := "isShooterAt", desc := "(I)Z" } : Jvm.MethodName) ∈ Gw := gwp_7 8 rfl rfl
theorem w_1947 : Jvm.Cond.methodLink "PeaTubeModel" (335 : Nat) ({ cls := "PeaTubeModel", name := "holesOf", desc := "(II)I" } : Jvm.MethodName) ∈ Gw := gwt_8 128 rfl rfl
theorem w_1949 : Jvm.Cond.instanceMethod ({ cls := "PeaTubeModel", name := "holesOf", desc := "(II)I" } : Jvm.MethodName) ∈ Gw := gwt_8 130 rfl rfl
theorem w_105 : Jvm.Cond.selects "PeaTubeModel" ({ cls := "PeaTubeModel", name := "holesOf", desc := "(II)I" } : Jvm.MethodName) ({ cls := "PeaTubeModel", name := "holesOf", desc := "(II)I" } : Jvm.MethodName) ∈ Gw := gwp_7 9 rfl rfl
theorem w_1968 : Jvm.Cond.constantLong "PeaTubeModel" (359 : Nat) (20 : Int64) ∈ Gw := gwt_8 149 rfl rfl
theorem w_1973 : Jvm.Cond.methodLink "PeaTubeModel" (338 : Nat) ({ cls := "PeaTubeModel", name := "paceOf", desc := "(III)I" } : Jvm.MethodName) ∈ Gw := gwt_8 154 rfl rfl
theorem w_1975 : Jvm.Cond.instanceMethod ({ cls := "PeaTubeModel", name := "paceOf", desc := "(III)I" } : Jvm.MethodName) ∈ Gw := gwt_8 156 rfl rfl
theorem w_108 : Jvm.Cond.selects "PeaTubeModel" ({ cls := "PeaTubeModel", name := "paceOf", desc := "(III)I" } : Jvm.MethodName) ({ cls := "PeaTubeModel", name := "paceOf", desc := "(III)I" } : Jvm.MethodName) ∈ Gw := gwp_7 12 rfl rfl
theorem w_1962 : Jvm.Cond.methodLink "PeaTubeModel" (361 : Nat) ({ cls := "PeaTubeModel", name := "isPuffing", desc := "(II)Z" } : Jvm.MethodName) ∈ Gw := gwt_8 143 rfl rfl
theorem w_1963 : Jvm.Cond.static ({ cls := "PeaTubeModel", name := "isPuffing", desc := "(II)Z" } : Jvm.MethodName) ∈ Gw := gwt_8 144 rfl rfl
theorem w_1965 : Jvm.Cond.methodLink "PeaTubeModel" (364 : Nat) ({ cls := "PeaTubeModel", name := "isSpit", desc := "(I)Z" } : Jvm.MethodName) ∈ Gw := gwt_8 146 rfl rfl
theorem w_1966 : Jvm.Cond.static ({ cls := "PeaTubeModel", name := "isSpit", desc := "(I)Z" } : Jvm.MethodName) ∈ Gw := gwt_8 147 rfl rfl
theorem w_1969 : Jvm.Cond.methodLink "PeaTubeModel" (342 : Nat) ({ cls := "PeaTubeModel", name := "fateOf", desc := "(III)I" } : Jvm.MethodName) ∈ Gw := gwt_8 150 rfl rfl
theorem w_1971 : Jvm.Cond.instanceMethod ({ cls := "PeaTubeModel", name := "fateOf", desc := "(III)I" } : Jvm.MethodName) ∈ Gw := gwt_8 152 rfl rfl
theorem w_107 : Jvm.Cond.selects "PeaTubeModel" ({ cls := "PeaTubeModel", name := "fateOf", desc := "(III)I" } : Jvm.MethodName) ({ cls := "PeaTubeModel", name := "fateOf", desc := "(III)I" } : Jvm.MethodName) ∈ Gw := gwp_7 11 rfl rfl
theorem w_1486 : Jvm.Cond.fieldLink "PeaTubeModel" (345 : Nat) "PeaTubeModel" "time" "I" ∈ Gw := gwt_6 147 rfl rfl
theorem w_1487 : Jvm.Cond.fieldLink "PeaTubeModel" (348 : Nat) "PeaTubeModel" "drop" "I" ∈ Gw := gwt_6 148 rfl rfl
theorem w_1986 : Jvm.Cond.methodLink "PeaTubeModel" (351 : Nat) ({ cls := "java/lang/Math", name := "abs", desc := "(I)I" } : Jvm.MethodName) ∈ Gw := gwt_8 167 rfl rfl
theorem w_1488 : Jvm.Cond.fieldLink "PeaTubeModel" (353 : Nat) "PeaTubeModel" "aside" "I" ∈ Gw := gwt_6 149 rfl rfl
theorem w_1489 : Jvm.Cond.fieldLink "PeaTubeModel" (356 : Nat) "PeaTubeModel" "off" "I" ∈ Gw := gwt_6 150 rfl rfl
theorem w_1981 : Jvm.Cond.constantLong "PeaTubeModel" (96 : Nat) (3 : Int64) ∈ Gw := gwt_8 162 rfl rfl
theorem w_1982 : Jvm.Cond.methodLink "PeaTubeModel" (367 : Nat) ({ cls := "PeaTubeModel", name := "flies", desc := "(III)Z" } : Jvm.MethodName) ∈ Gw := gwt_8 163 rfl rfl
theorem w_1984 : Jvm.Cond.instanceMethod ({ cls := "PeaTubeModel", name := "flies", desc := "(III)Z" } : Jvm.MethodName) ∈ Gw := gwt_8 165 rfl rfl
theorem w_109 : Jvm.Cond.selects "PeaTubeModel" ({ cls := "PeaTubeModel", name := "flies", desc := "(III)Z" } : Jvm.MethodName) ({ cls := "PeaTubeModel", name := "flies", desc := "(III)Z" } : Jvm.MethodName) ∈ Gw := gwp_7 13 rfl rfl
theorem w_1998 : Jvm.Cond.constantLong "PeaTubeModel" (370 : Nat) (-60 : Int64) ∈ Gw := gwt_8 179 rfl rfl
theorem w_1999 : Jvm.Cond.constantLong "PeaTubeModel" (372 : Nat) (60 : Int64) ∈ Gw := gwt_8 180 rfl rfl
theorem w_1995 : Jvm.Cond.methodLink "PeaTubeModel" (374 : Nat) ({ cls := "PeaTubeModel", name := "isAim", desc := "(II)Z" } : Jvm.MethodName) ∈ Gw := gwt_8 176 rfl rfl
theorem w_1996 : Jvm.Cond.static ({ cls := "PeaTubeModel", name := "isAim", desc := "(II)Z" } : Jvm.MethodName) ∈ Gw := gwt_8 177 rfl rfl
theorem w_2004 : Jvm.Cond.methodLink "PeaTubeModel" (381 : Nat) ({ cls := "PeaTubeModel", name := "strikeY", desc := "(III)I" } : Jvm.MethodName) ∈ Gw := gwt_8 185 rfl rfl
theorem w_2006 : Jvm.Cond.instanceMethod ({ cls := "PeaTubeModel", name := "strikeY", desc := "(III)I" } : Jvm.MethodName) ∈ Gw := gwt_8 187 rfl rfl
theorem w_111 : Jvm.Cond.selects "PeaTubeModel" ({ cls := "PeaTubeModel", name := "strikeY", desc := "(III)I" } : Jvm.MethodName) ({ cls := "PeaTubeModel", name := "strikeY", desc := "(III)I" } : Jvm.MethodName) ∈ Gw := gwp_7 15 rfl rfl
theorem w_2000 : Jvm.Cond.methodLink "PeaTubeModel" (377 : Nat) ({ cls := "PeaTubeModel", name := "strikeX", desc := "(IIII)I" } : Jvm.MethodName) ∈ Gw := gwt_8 181 rfl rfl
theorem w_2002 : Jvm.Cond.instanceMethod ({ cls := "PeaTubeModel", name := "strikeX", desc := "(IIII)I" } : Jvm.MethodName) ∈ Gw := gwt_8 183 rfl rfl
theorem w_110 : Jvm.Cond.selects "PeaTubeModel" ({ cls := "PeaTubeModel", name := "strikeX", desc := "(IIII)I" } : Jvm.MethodName) ({ cls := "PeaTubeModel", name := "strikeX", desc := "(IIII)I" } : Jvm.MethodName) ∈ Gw := gwp_7 14 rfl rfl
theorem w_2015 : Jvm.Cond.constantLong "PeaTubeModel" (387 : Nat) (-999 : Int64) ∈ Gw := gwt_8 196 rfl rfl
theorem w_2016 : Jvm.Cond.constantLong "PeaTubeModel" (389 : Nat) (999 : Int64) ∈ Gw := gwt_8 197 rfl rfl
theorem w_2021 : Jvm.Cond.methodLink "PeaTubeModel" (384 : Nat) ({ cls := "PeaTubeModel", name := "ringOf", desc := "(II)I" } : Jvm.MethodName) ∈ Gw := gwt_8 202 rfl rfl
theorem w_2023 : Jvm.Cond.instanceMethod ({ cls := "PeaTubeModel", name := "ringOf", desc := "(II)I" } : Jvm.MethodName) ∈ Gw := gwt_8 204 rfl rfl
theorem w_113 : Jvm.Cond.selects "PeaTubeModel" ({ cls := "PeaTubeModel", name := "ringOf", desc := "(II)I" } : Jvm.MethodName) ({ cls := "PeaTubeModel", name := "ringOf", desc := "(II)I" } : Jvm.MethodName) ∈ Gw := gwp_8 1 rfl rfl
theorem w_2012 : Jvm.Cond.methodLink "PeaTubeModel" (391 : Nat) ({ cls := "PeaTubeModel", name := "isPlace", desc := "(II)Z" } : Jvm.MethodName) ∈ Gw := gwt_8 193 rfl rfl
theorem w_2013 : Jvm.Cond.static ({ cls := "PeaTubeModel", name := "isPlace", desc := "(II)Z" } : Jvm.MethodName) ∈ Gw := gwt_8 194 rfl rfl
theorem w_2017 : Jvm.Cond.methodLink "PeaTubeModel" (394 : Nat) ({ cls := "PeaTubeModel", name := "pointsOf", desc := "(II)I" } : Jvm.MethodName) ∈ Gw := gwt_8 198 rfl rfl
theorem w_2019 : Jvm.Cond.instanceMethod ({ cls := "PeaTubeModel", name := "pointsOf", desc := "(II)I" } : Jvm.MethodName) ∈ Gw := gwt_8 200 rfl rfl
theorem w_112 : Jvm.Cond.selects "PeaTubeModel" ({ cls := "PeaTubeModel", name := "pointsOf", desc := "(II)I" } : Jvm.MethodName) ({ cls := "PeaTubeModel", name := "pointsOf", desc := "(II)I" } : Jvm.MethodName) ∈ Gw := gwp_8 0 rfl rfl
theorem w_2037 : Jvm.Cond.methodLink "PeaTubeModel" (397 : Nat) ({ cls := "java/lang/Math", name := "min", desc := "(II)I" } : Jvm.MethodName) ∈ Gw := gwt_8 218 rfl rfl
theorem w_2033 : Jvm.Cond.methodLink "PeaTubeModel" (400 : Nat) ({ cls := "PeaTubeModel", name := "handOf", desc := "(II)I" } : Jvm.MethodName) ∈ Gw := gwt_8 214 rfl rfl
theorem w_2035 : Jvm.Cond.instanceMethod ({ cls := "PeaTubeModel", name := "handOf", desc := "(II)I" } : Jvm.MethodName) ∈ Gw := gwt_8 216 rfl rfl
theorem w_114 : Jvm.Cond.selects "PeaTubeModel" ({ cls := "PeaTubeModel", name := "handOf", desc := "(II)I" } : Jvm.MethodName) ({ cls := "PeaTubeModel", name := "handOf", desc := "(II)I" } : Jvm.MethodName) ∈ Gw := gwp_8 2 rfl rfl
theorem w_1490 : Jvm.Cond.fieldLink "PeaTubeModel" (44 : Nat) "PeaTubeModel" "often" "[I" ∈ Gw := gwt_6 151 rfl rfl
theorem w_1491 : Jvm.Cond.fieldLink "PeaTubeModel" (403 : Nat) "PeaTubeModel" "oftenAll" "I" ∈ Gw := gwt_6 152 rfl rfl
theorem w_1492 : Jvm.Cond.fieldLink "PeaTubeModel" (406 : Nat) "PeaTubeModel" "sumAll" "I" ∈ Gw := gwt_6 153 rfl rfl
theorem w_2054 : Jvm.Cond.methodLink "PeaTubeModel" (72 : Nat) ({ cls := "java/lang/Math", name := "abs", desc := "(J)J" } : Jvm.MethodName) ∈ Gw := gwt_8 235 rfl rfl
theorem w_2042 : Jvm.Cond.methodLink "PeaTubeModel" (409 : Nat) ({ cls := "PeaTubeModel", name := "isShot", desc := "(II)Z" } : Jvm.MethodName) ∈ Gw := gwt_8 223 rfl rfl
theorem w_2044 : Jvm.Cond.instanceMethod ({ cls := "PeaTubeModel", name := "isShot", desc := "(II)Z" } : Jvm.MethodName) ∈ Gw := gwt_8 225 rfl rfl
theorem w_115 : Jvm.Cond.selects "PeaTubeModel" ({ cls := "PeaTubeModel", name := "isShot", desc := "(II)Z" } : Jvm.MethodName) ({ cls := "PeaTubeModel", name := "isShot", desc := "(II)Z" } : Jvm.MethodName) ∈ Gw := gwp_8 3 rfl rfl
theorem w_2046 : Jvm.Cond.methodLink "PeaTubeModel" (412 : Nat) ({ cls := "PeaTubeModel", name := "counts", desc := "(IIIIIII)V" } : Jvm.MethodName) ∈ Gw := gwt_8 227 rfl rfl
theorem w_2048 : Jvm.Cond.instanceMethod ({ cls := "PeaTubeModel", name := "counts", desc := "(IIIIIII)V" } : Jvm.MethodName) ∈ Gw := gwt_8 229 rfl rfl
theorem w_116 : Jvm.Cond.selects "PeaTubeModel" ({ cls := "PeaTubeModel", name := "counts", desc := "(IIIIIII)V" } : Jvm.MethodName) ({ cls := "PeaTubeModel", name := "counts", desc := "(IIIIIII)V" } : Jvm.MethodName) ∈ Gw := gwp_8 4 rfl rfl
theorem w_2050 : Jvm.Cond.methodLink "PeaTubeModel" (416 : Nat) ({ cls := "PeaTubeModel", name := "fraction", desc := "(JJ)Z" } : Jvm.MethodName) ∈ Gw := gwt_8 231 rfl rfl
theorem w_2052 : Jvm.Cond.instanceMethod ({ cls := "PeaTubeModel", name := "fraction", desc := "(JJ)Z" } : Jvm.MethodName) ∈ Gw := gwt_8 233 rfl rfl
theorem w_117 : Jvm.Cond.selects "PeaTubeModel" ({ cls := "PeaTubeModel", name := "fraction", desc := "(JJ)Z" } : Jvm.MethodName) ({ cls := "PeaTubeModel", name := "fraction", desc := "(JJ)Z" } : Jvm.MethodName) ∈ Gw := gwp_8 5 rfl rfl
theorem w_1493 : Jvm.Cond.fieldLink "PeaTubeModel" (420 : Nat) "PeaTubeModel" "bestTop" "J" ∈ Gw := gwt_6 154 rfl rfl
theorem w_1494 : Jvm.Cond.fieldLink "PeaTubeModel" (423 : Nat) "PeaTubeModel" "bestBottom" "J" ∈ Gw := gwt_6 155 rfl rfl
theorem w_2063 : Jvm.Cond.methodLink "PeaTubeModel" (426 : Nat) ({ cls := "PeaTubeModel", name := "noBest", desc := "()V" } : Jvm.MethodName) ∈ Gw := gwt_9 4 rfl rfl
theorem w_2065 : Jvm.Cond.instanceMethod ({ cls := "PeaTubeModel", name := "noBest", desc := "()V" } : Jvm.MethodName) ∈ Gw := gwt_9 6 rfl rfl
theorem w_118 : Jvm.Cond.selects "PeaTubeModel" ({ cls := "PeaTubeModel", name := "noBest", desc := "()V" } : Jvm.MethodName) ({ cls := "PeaTubeModel", name := "noBest", desc := "()V" } : Jvm.MethodName) ∈ Gw := gwp_8 6 rfl rfl
theorem w_2067 : Jvm.Cond.methodLink "PeaTubeModel" (429 : Nat) ({ cls := "PeaTubeModel", name := "isBetter", desc := "()Z" } : Jvm.MethodName) ∈ Gw := gwt_9 8 rfl rfl
theorem w_2069 : Jvm.Cond.instanceMethod ({ cls := "PeaTubeModel", name := "isBetter", desc := "()Z" } : Jvm.MethodName) ∈ Gw := gwt_9 10 rfl rfl
theorem w_119 : Jvm.Cond.selects "PeaTubeModel" ({ cls := "PeaTubeModel", name := "isBetter", desc := "()Z" } : Jvm.MethodName) ({ cls := "PeaTubeModel", name := "isBetter", desc := "()Z" } : Jvm.MethodName) ∈ Gw := gwp_8 7 rfl rfl
theorem w_2091 : Jvm.Cond.constantLong "PeaTubeModel" (432 : Nat) (30 : Int64) ∈ Gw := gwt_9 32 rfl rfl
theorem w_2092 : Jvm.Cond.methodLink "PeaTubeModel" (434 : Nat) ({ cls := "PeaTubeModel", name := "seriesOf", desc := "(IIIIIII)J" } : Jvm.MethodName) ∈ Gw := gwt_9 33 rfl rfl
theorem w_2094 : Jvm.Cond.instanceMethod ({ cls := "PeaTubeModel", name := "seriesOf", desc := "(IIIIIII)J" } : Jvm.MethodName) ∈ Gw := gwt_9 35 rfl rfl
theorem w_120 : Jvm.Cond.selects "PeaTubeModel" ({ cls := "PeaTubeModel", name := "seriesOf", desc := "(IIIIIII)J" } : Jvm.MethodName) ({ cls := "PeaTubeModel", name := "seriesOf", desc := "(IIIIIII)J" } : Jvm.MethodName) ∈ Gw := gwp_8 8 rfl rfl
theorem w_2100 : Jvm.Cond.constantLong "PeaTubeModel" (438 : Nat) (99 : Int64) ∈ Gw := gwt_9 41 rfl rfl
theorem w_2101 : Jvm.Cond.constantLong "PeaTubeModel" (440 : Nat) (16 : Int64) ∈ Gw := gwt_9 42 rfl rfl
theorem w_1497 : Jvm.Cond.fieldLink "PeaTubeModel" (53 : Nat) "PeaTubeModel" "sumsThen" "[J" ∈ Gw := gwt_6 158 rfl rfl
theorem w_2106 : Jvm.Cond.constantLong "PeaTubeModel" (442 : Nat) (5 : Int64) ∈ Gw := gwt_9 47 rfl rfl
theorem w_2107 : Jvm.Cond.constantLong "PeaTubeModel" (444 : Nat) (2 : Int64) ∈ Gw := gwt_9 48 rfl rfl
theorem w_1495 : Jvm.Cond.fieldLink "PeaTubeModel" (47 : Nat) "PeaTubeModel" "sumsA" "[J" ∈ Gw := gwt_6 156 rfl rfl
theorem w_2108 : Jvm.Cond.methodLink "PeaTubeModel" (446 : Nat) ({ cls := "PeaTubeModel", name := "sumUp", desc := "(III[J)V" } : Jvm.MethodName) ∈ Gw := gwt_9 49 rfl rfl
theorem w_2110 : Jvm.Cond.instanceMethod ({ cls := "PeaTubeModel", name := "sumUp", desc := "(III[J)V" } : Jvm.MethodName) ∈ Gw := gwt_9 51 rfl rfl
theorem w_121 : Jvm.Cond.selects "PeaTubeModel" ({ cls := "PeaTubeModel", name := "sumUp", desc := "(III[J)V" } : Jvm.MethodName) ({ cls := "PeaTubeModel", name := "sumUp", desc := "(III[J)V" } : Jvm.MethodName) ∈ Gw := gwp_8 9 rfl rfl
theorem w_2112 : Jvm.Cond.methodLink "PeaTubeModel" (450 : Nat) ({ cls := "PeaTubeModel", name := "waysOf", desc := "(I)J" } : Jvm.MethodName) ∈ Gw := gwt_9 53 rfl rfl
theorem w_2114 : Jvm.Cond.instanceMethod ({ cls := "PeaTubeModel", name := "waysOf", desc := "(I)J" } : Jvm.MethodName) ∈ Gw := gwt_9 55 rfl rfl
theorem w_122 : Jvm.Cond.selects "PeaTubeModel" ({ cls := "PeaTubeModel", name := "waysOf", desc := "(I)J" } : Jvm.MethodName) ({ cls := "PeaTubeModel", name := "waysOf", desc := "(I)J" } : Jvm.MethodName) ∈ Gw := gwp_8 10 rfl rfl
theorem w_1498 : Jvm.Cond.fieldLink "PeaTubeModel" (454 : Nat) "PeaTubeModel" "waysA" "J" ∈ Gw := gwt_6 159 rfl rfl
theorem w_1496 : Jvm.Cond.fieldLink "PeaTubeModel" (50 : Nat) "PeaTubeModel" "sumsB" "[J" ∈ Gw := gwt_6 157 rfl rfl
theorem w_1499 : Jvm.Cond.fieldLink "PeaTubeModel" (457 : Nat) "PeaTubeModel" "waysB" "J" ∈ Gw := gwt_6 160 rfl rfl
theorem w_2132 : Jvm.Cond.methodLink "PeaTubeModel" (460 : Nat) ({ cls := "PeaTubeModel", name := "beats", desc := "(III)J" } : Jvm.MethodName) ∈ Gw := gwt_9 73 rfl rfl
theorem w_2134 : Jvm.Cond.instanceMethod ({ cls := "PeaTubeModel", name := "beats", desc := "(III)J" } : Jvm.MethodName) ∈ Gw := gwt_9 75 rfl rfl
theorem w_126 : Jvm.Cond.selects "PeaTubeModel" ({ cls := "PeaTubeModel", name := "beats", desc := "(III)J" } : Jvm.MethodName) ({ cls := "PeaTubeModel", name := "beats", desc := "(III)J" } : Jvm.MethodName) ∈ Gw := gwp_8 14 rfl rfl
theorem w_2120 : Jvm.Cond.methodLink "PeaTubeModel" (464 : Nat) ({ cls := "PeaTubeModel", name := "isTray", desc := "(I)Z" } : Jvm.MethodName) ∈ Gw := gwt_9 61 rfl rfl
theorem w_2122 : Jvm.Cond.instanceMethod ({ cls := "PeaTubeModel", name := "isTray", desc := "(I)Z" } : Jvm.MethodName) ∈ Gw := gwt_9 63 rfl rfl
theorem w_123 : Jvm.Cond.selects "PeaTubeModel" ({ cls := "PeaTubeModel", name := "isTray", desc := "(I)Z" } : Jvm.MethodName) ({ cls := "PeaTubeModel", name := "isTray", desc := "(I)Z" } : Jvm.MethodName) ∈ Gw := gwp_8 11 rfl rfl
theorem w_2124 : Jvm.Cond.methodLink "PeaTubeModel" (467 : Nat) ({ cls := "PeaTubeModel", name := "numberOf", desc := "(II)J" } : Jvm.MethodName) ∈ Gw := gwt_9 65 rfl rfl
theorem w_2126 : Jvm.Cond.instanceMethod ({ cls := "PeaTubeModel", name := "numberOf", desc := "(II)J" } : Jvm.MethodName) ∈ Gw := gwt_9 67 rfl rfl
theorem w_124 : Jvm.Cond.selects "PeaTubeModel" ({ cls := "PeaTubeModel", name := "numberOf", desc := "(II)J" } : Jvm.MethodName) ({ cls := "PeaTubeModel", name := "numberOf", desc := "(II)J" } : Jvm.MethodName) ∈ Gw := gwp_8 12 rfl rfl
theorem w_2128 : Jvm.Cond.methodLink "PeaTubeModel" (471 : Nat) ({ cls := "PeaTubeModel", name := "decides", desc := "(III)J" } : Jvm.MethodName) ∈ Gw := gwt_9 69 rfl rfl
theorem w_2130 : Jvm.Cond.instanceMethod ({ cls := "PeaTubeModel", name := "decides", desc := "(III)J" } : Jvm.MethodName) ∈ Gw := gwt_9 71 rfl rfl
theorem w_125 : Jvm.Cond.selects "PeaTubeModel" ({ cls := "PeaTubeModel", name := "decides", desc := "(III)J" } : Jvm.MethodName) ({ cls := "PeaTubeModel", name := "decides", desc := "(III)J" } : Jvm.MethodName) ∈ Gw := gwp_8 13 rfl rfl
theorem w_1500 : Jvm.Cond.fieldLink "PeaTubeModel" (477 : Nat) "PeaTubeModel" "holeMany" "J" ∈ Gw := gwt_6 161 rfl rfl
theorem w_1501 : Jvm.Cond.fieldLink "PeaTubeModel" (480 : Nat) "PeaTubeModel" "sumX" "J" ∈ Gw := gwt_6 162 rfl rfl
theorem w_1502 : Jvm.Cond.fieldLink "PeaTubeModel" (483 : Nat) "PeaTubeModel" "sumY" "J" ∈ Gw := gwt_6 163 rfl rfl
theorem w_1503 : Jvm.Cond.fieldLink "PeaTubeModel" (486 : Nat) "PeaTubeModel" "squares" "J" ∈ Gw := gwt_6 164 rfl rfl
theorem w_2144 : Jvm.Cond.methodLink "PeaTubeModel" (489 : Nat) ({ cls := "PeaTubeModel", name := "sumHoles", desc := "(II)V" } : Jvm.MethodName) ∈ Gw := gwt_9 85 rfl rfl
theorem w_2146 : Jvm.Cond.instanceMethod ({ cls := "PeaTubeModel", name := "sumHoles", desc := "(II)V" } : Jvm.MethodName) ∈ Gw := gwt_9 87 rfl rfl
theorem w_127 : Jvm.Cond.selects "PeaTubeModel" ({ cls := "PeaTubeModel", name := "sumHoles", desc := "(II)V" } : Jvm.MethodName) ({ cls := "PeaTubeModel", name := "sumHoles", desc := "(II)V" } : Jvm.MethodName) ∈ Gw := gwp_8 15 rfl rfl
theorem w_2148 : Jvm.Cond.methodLink "PeaTubeModel" (492 : Nat) ({ cls := "PeaTubeModel", name := "spread", desc := "()J" } : Jvm.MethodName) ∈ Gw := gwt_9 89 rfl rfl
theorem w_2150 : Jvm.Cond.instanceMethod ({ cls := "PeaTubeModel", name := "spread", desc := "()J" } : Jvm.MethodName) ∈ Gw := gwt_9 91 rfl rfl
theorem w_128 : Jvm.Cond.selects "PeaTubeModel" ({ cls := "PeaTubeModel", name := "spread", desc := "()J" } : Jvm.MethodName) ({ cls := "PeaTubeModel", name := "spread", desc := "()J" } : Jvm.MethodName) ∈ Gw := gwp_9 0 rfl rfl
theorem w_2156 : Jvm.Cond.constantLong "PeaTubeModel" (496 : Nat) (-99 : Int64) ∈ Gw := gwt_9 97 rfl rfl
theorem w_2165 : Jvm.Cond.constantLong "PeaTubeModel" (498 : Nat) (12 : Int64) ∈ Gw := gwt_9 106 rfl rfl
theorem w_2174 : Jvm.Cond.constantLong "PeaTubeModel" (500 : Nat) (-6 : Int64) ∈ Gw := gwt_9 115 rfl rfl
theorem w_2175 : Jvm.Cond.constantLong "PeaTubeModel" (502 : Nat) (6 : Int64) ∈ Gw := gwt_9 116 rfl rfl
theorem w_2176 : Jvm.Cond.methodLink "PeaTubeModel" (504 : Nat) ({ cls := "PeaTubeModel", name := "shoots", desc := "(IIIIIII)I" } : Jvm.MethodName) ∈ Gw := gwt_9 117 rfl rfl
theorem w_2178 : Jvm.Cond.instanceMethod ({ cls := "PeaTubeModel", name := "shoots", desc := "(IIIIIII)I" } : Jvm.MethodName) ∈ Gw := gwt_9 119 rfl rfl
theorem w_129 : Jvm.Cond.selects "PeaTubeModel" ({ cls := "PeaTubeModel", name := "shoots", desc := "(IIIIIII)I" } : Jvm.MethodName) ({ cls := "PeaTubeModel", name := "shoots", desc := "(IIIIIII)I" } : Jvm.MethodName) ∈ Gw := gwp_9 1 rfl rfl
theorem w_1507 : Jvm.Cond.fieldLink "PeaTubeModel" (508 : Nat) "PeaTubeModel" "random" "I" ∈ Gw := gwt_6 168 rfl rfl
theorem w_2217 : Jvm.Cond.constant "PeaTubeModel" (511 : Nat) (65536 : Int32) ∈ Gw := gwt_9 158 rfl rfl
theorem w_2213 : Jvm.Cond.methodLink "PeaTubeModel" (512 : Nat) ({ cls := "PeaTubeModel", name := "draw", desc := "(I)I" } : Jvm.MethodName) ∈ Gw := gwt_9 154 rfl rfl
theorem w_2215 : Jvm.Cond.instanceMethod ({ cls := "PeaTubeModel", name := "draw", desc := "(I)I" } : Jvm.MethodName) ∈ Gw := gwt_9 156 rfl rfl
theorem w_136 : Jvm.Cond.selects "PeaTubeModel" ({ cls := "PeaTubeModel", name := "draw", desc := "(I)I" } : Jvm.MethodName) ({ cls := "PeaTubeModel", name := "draw", desc := "(I)I" } : Jvm.MethodName) ∈ Gw := gwp_9 8 rfl rfl
theorem w_1514 : Jvm.Cond.fieldLink "PeaTubeModel" (515 : Nat) "PeaTubeModel" "loaded" "I" ∈ Gw := gwt_6 175 rfl rfl
theorem w_1517 : Jvm.Cond.fieldLink "PeaTubeModel" (518 : Nat) "PeaTubeModel" "puffed" "I" ∈ Gw := gwt_6 178 rfl rfl
theorem w_1518 : Jvm.Cond.fieldLink "PeaTubeModel" (524 : Nat) "PeaTubeModel" "beat" "I" ∈ Gw := gwt_6 179 rfl rfl
theorem w_2209 : Jvm.Cond.methodLink "PeaTubeModel" (527 : Nat) ({ cls := "PeaTubeModel", name := "drawHand", desc := "(I)I" } : Jvm.MethodName) ∈ Gw := gwt_9 150 rfl rfl
theorem w_2211 : Jvm.Cond.instanceMethod ({ cls := "PeaTubeModel", name := "drawHand", desc := "(I)I" } : Jvm.MethodName) ∈ Gw := gwt_9 152 rfl rfl
theorem w_135 : Jvm.Cond.selects "PeaTubeModel" ({ cls := "PeaTubeModel", name := "drawHand", desc := "(I)I" } : Jvm.MethodName) ({ cls := "PeaTubeModel", name := "drawHand", desc := "(I)I" } : Jvm.MethodName) ∈ Gw := gwp_9 7 rfl rfl
theorem w_1510 : Jvm.Cond.fieldLink "PeaTubeModel" (530 : Nat) "PeaTubeModel" "flew" "I" ∈ Gw := gwt_6 171 rfl rfl
theorem w_1512 : Jvm.Cond.fieldLink "PeaTubeModel" (533 : Nat) "PeaTubeModel" "pointsMade" "I" ∈ Gw := gwt_6 173 rfl rfl
theorem w_1515 : Jvm.Cond.fieldLink "PeaTubeModel" (536 : Nat) "PeaTubeModel" "aimX" "I" ∈ Gw := gwt_6 176 rfl rfl
theorem w_1516 : Jvm.Cond.fieldLink "PeaTubeModel" (539 : Nat) "PeaTubeModel" "aimY" "I" ∈ Gw := gwt_6 177 rfl rfl
theorem w_1511 : Jvm.Cond.fieldLink "PeaTubeModel" (521 : Nat) "PeaTubeModel" "fell" "I" ∈ Gw := gwt_6 172 rfl rfl
theorem w_2205 : Jvm.Cond.methodLink "PeaTubeModel" (542 : Nat) ({ cls := "PeaTubeModel", name := "shootsBy", desc := "(I)Z" } : Jvm.MethodName) ∈ Gw := gwt_9 146 rfl rfl
theorem w_2207 : Jvm.Cond.instanceMethod ({ cls := "PeaTubeModel", name := "shootsBy", desc := "(I)Z" } : Jvm.MethodName) ∈ Gw := gwt_9 148 rfl rfl
theorem w_134 : Jvm.Cond.selects "PeaTubeModel" ({ cls := "PeaTubeModel", name := "shootsBy", desc := "(I)Z" } : Jvm.MethodName) ({ cls := "PeaTubeModel", name := "shootsBy", desc := "(I)Z" } : Jvm.MethodName) ∈ Gw := gwp_9 6 rfl rfl
theorem w_1508 : Jvm.Cond.fieldLink "PeaTubeModel" (545 : Nat) "PeaTubeModel" "done" "I" ∈ Gw := gwt_6 169 rfl rfl
theorem w_1506 : Jvm.Cond.fieldLink "PeaTubeModel" (548 : Nat) "PeaTubeModel" "isOver" "Z" ∈ Gw := gwt_6 167 rfl rfl
theorem w_2193 : Jvm.Cond.methodLink "PeaTubeModel" (563 : Nat) ({ cls := "PeaTubeModel", name := "doAll", desc := "(II)V" } : Jvm.MethodName) ∈ Gw := gwt_9 134 rfl rfl
theorem w_2195 : Jvm.Cond.instanceMethod ({ cls := "PeaTubeModel", name := "doAll", desc := "(II)V" } : Jvm.MethodName) ∈ Gw := gwt_9 136 rfl rfl
theorem w_131 : Jvm.Cond.selects "PeaTubeModel" ({ cls := "PeaTubeModel", name := "doAll", desc := "(II)V" } : Jvm.MethodName) ({ cls := "PeaTubeModel", name := "doAll", desc := "(II)V" } : Jvm.MethodName) ∈ Gw := gwp_9 3 rfl rfl
theorem w_2218 : Jvm.Cond.methodLink "PeaTubeModel" (560 : Nat) ({ cls := "PeaTubeModel", name := "isSo", desc := "(I)Z" } : Jvm.MethodName) ∈ Gw := gwt_9 159 rfl rfl
theorem w_2220 : Jvm.Cond.instanceMethod ({ cls := "PeaTubeModel", name := "isSo", desc := "(I)Z" } : Jvm.MethodName) ∈ Gw := gwt_9 161 rfl rfl
theorem w_137 : Jvm.Cond.selects "PeaTubeModel" ({ cls := "PeaTubeModel", name := "isSo", desc := "(I)Z" } : Jvm.MethodName) ({ cls := "PeaTubeModel", name := "isSo", desc := "(I)Z" } : Jvm.MethodName) ∈ Gw := gwp_9 9 rfl rfl
theorem w_1509 : Jvm.Cond.fieldLink "PeaTubeModel" (554 : Nat) "PeaTubeModel" "missed" "I" ∈ Gw := gwt_6 170 rfl rfl
theorem w_2201 : Jvm.Cond.methodLink "PeaTubeModel" (557 : Nat) ({ cls := "PeaTubeModel", name := "does", desc := "(I)Z" } : Jvm.MethodName) ∈ Gw := gwt_9 142 rfl rfl
theorem w_2203 : Jvm.Cond.instanceMethod ({ cls := "PeaTubeModel", name := "does", desc := "(I)Z" } : Jvm.MethodName) ∈ Gw := gwt_9 144 rfl rfl
theorem w_133 : Jvm.Cond.selects "PeaTubeModel" ({ cls := "PeaTubeModel", name := "does", desc := "(I)Z" } : Jvm.MethodName) ({ cls := "PeaTubeModel", name := "does", desc := "(I)Z" } : Jvm.MethodName) ∈ Gw := gwp_9 5 rfl rfl
theorem w_1513 : Jvm.Cond.fieldLink "PeaTubeModel" (551 : Nat) "PeaTubeModel" "leftOver" "I" ∈ Gw := gwt_6 174 rfl rfl
theorem w_2197 : Jvm.Cond.methodLink "PeaTubeModel" (566 : Nat) ({ cls := "PeaTubeModel", name := "doOne", desc := "(I)V" } : Jvm.MethodName) ∈ Gw := gwt_9 138 rfl rfl
theorem w_2199 : Jvm.Cond.instanceMethod ({ cls := "PeaTubeModel", name := "doOne", desc := "(I)V" } : Jvm.MethodName) ∈ Gw := gwt_9 140 rfl rfl
theorem w_132 : Jvm.Cond.selects "PeaTubeModel" ({ cls := "PeaTubeModel", name := "doOne", desc := "(I)V" } : Jvm.MethodName) ({ cls := "PeaTubeModel", name := "doOne", desc := "(I)V" } : Jvm.MethodName) ∈ Gw := gwp_9 4 rfl rfl
theorem w_2188 : Jvm.Cond.constantLong "PeaTubeModel" (569 : Nat) (9999 : Int64) ∈ Gw := gwt_9 129 rfl rfl
theorem w_2189 : Jvm.Cond.methodLink "PeaTubeModel" (571 : Nat) ({ cls := "PeaTubeModel", name := "plays", desc := "(I)V" } : Jvm.MethodName) ∈ Gw := gwt_9 130 rfl rfl
theorem w_2191 : Jvm.Cond.instanceMethod ({ cls := "PeaTubeModel", name := "plays", desc := "(I)V" } : Jvm.MethodName) ∈ Gw := gwt_9 132 rfl rfl
theorem w_130 : Jvm.Cond.selects "PeaTubeModel" ({ cls := "PeaTubeModel", name := "plays", desc := "(I)V" } : Jvm.MethodName) ({ cls := "PeaTubeModel", name := "plays", desc := "(I)V" } : Jvm.MethodName) ∈ Gw := gwp_9 2 rfl rfl
theorem w_1504 : Jvm.Cond.fieldLink "PeaTubeModel" (56 : Nat) "PeaTubeModel" "playedLast" "[I" ∈ Gw := gwt_6 165 rfl rfl
theorem w_1505 : Jvm.Cond.fieldLink "PeaTubeModel" (574 : Nat) "PeaTubeModel" "hasPlayed" "Z" ∈ Gw := gwt_6 166 rfl rfl
theorem w_1479 : Jvm.Cond.fieldLink "PeaTubeModel" (38 : Nat) "PeaTubeModel" "kept" "[I" ∈ Gw := gwt_6 140 rfl rfl
theorem w_2230 : Jvm.Cond.methodLink "PeaTubeModel" (577 : Nat) ({ cls := "PeaTubeModel", name := "isAhead", desc := "(I)Z" } : Jvm.MethodName) ∈ Gw := gwt_9 171 rfl rfl
theorem w_2232 : Jvm.Cond.instanceMethod ({ cls := "PeaTubeModel", name := "isAhead", desc := "(I)Z" } : Jvm.MethodName) ∈ Gw := gwt_9 173 rfl rfl
theorem w_138 : Jvm.Cond.selects "PeaTubeModel" ({ cls := "PeaTubeModel", name := "isAhead", desc := "(I)Z" } : Jvm.MethodName) ({ cls := "PeaTubeModel", name := "isAhead", desc := "(I)Z" } : Jvm.MethodName) ∈ Gw := gwp_9 10 rfl rfl
theorem w_1481 : Jvm.Cond.fieldLink "PeaTubeModel" (580 : Nat) "PeaTubeModel" "markMany" "I" ∈ Gw := gwt_6 142 rfl rfl
theorem w_781 : Jvm.Cond.code ({ cls := "PeaTube", name := "status", desc := "()I" } : Jvm.MethodName) prog_1_method_2_code (1 : Nat) (Option.some Jvm.ClassFile.FieldType.int) ∈ Gw := gwt_3 162 rfl rfl
theorem w_140 : Jvm.Cond.initialized "PeaTube" ∈ Gw := gwt_1 1 rfl rfl
theorem w_785 : Jvm.Cond.code ({ cls := "PeaTube", name := "top", desc := "()J" } : Jvm.MethodName) prog_1_method_3_code (1 : Nat) (Option.some Jvm.ClassFile.FieldType.long) ∈ Gw := gwt_3 166 rfl rfl
theorem w_789 : Jvm.Cond.code ({ cls := "PeaTube", name := "bottom", desc := "()J" } : Jvm.MethodName) prog_1_method_4_code (1 : Nat) (Option.some Jvm.ClassFile.FieldType.long) ∈ Gw := gwt_3 170 rfl rfl
theorem w_799 : Jvm.Cond.code ({ cls := "PeaTube", name := "within", desc := "(III)Z" } : Jvm.MethodName) prog_1_method_54_code (3 : Nat) (Option.some Jvm.ClassFile.FieldType.boolean) ∈ Gw := gwt_3 180 rfl rfl
theorem w_796 : Jvm.Cond.code ({ cls := "PeaTube", name := "isTray", desc := "(I)Z" } : Jvm.MethodName) prog_1_method_55_code (1 : Nat) (Option.some Jvm.ClassFile.FieldType.boolean) ∈ Gw := gwt_3 177 rfl rfl
theorem w_803 : Jvm.Cond.code ({ cls := "PeaTube", name := "deny", desc := "(I)Z" } : Jvm.MethodName) prog_1_method_51_code (2 : Nat) (Option.some Jvm.ClassFile.FieldType.boolean) ∈ Gw := gwt_3 184 rfl rfl
theorem w_810 : Jvm.Cond.code ({ cls := "java/util/Arrays", name := "fill", desc := "([JJ)V" } : Jvm.MethodName) prog_20_method_101_code (5 : Nat) (Option.none : Option Jvm.ClassFile.FieldType) ∈ Gw := gwt_3 191 rfl rfl
theorem w_157 : Jvm.Cond.initialized "java/util/Arrays" ∈ Gw := gwt_1 18 rfl rfl
theorem w_807 : Jvm.Cond.code ({ cls := "PeaTube$Tray", name := "lay", desc := "(II)V" } : Jvm.MethodName) prog_12_method_2_code (3 : Nat) (Option.none : Option Jvm.ClassFile.FieldType) ∈ Gw := gwt_3 188 rfl rfl
theorem w_141 : Jvm.Cond.initialized "PeaTube$Tray" ∈ Gw := gwt_1 2 rfl rfl
theorem w_814 : Jvm.Cond.code ({ cls := "PeaTube", name := "agree", desc := "()Z" } : Jvm.MethodName) prog_1_method_50_code (1 : Nat) (Option.some Jvm.ClassFile.FieldType.boolean) ∈ Gw := gwt_3 195 rfl rfl
theorem w_793 : Jvm.Cond.code ({ cls := "PeaTube", name := "tray", desc := "(III)Z" } : Jvm.MethodName) prog_1_method_5_code (4 : Nat) (Option.some Jvm.ClassFile.FieldType.boolean) ∈ Gw := gwt_3 174 rfl rfl
theorem w_826 : Jvm.Cond.code ({ cls := "PeaTube$Tray", name := "hasFrom", desc := "(II)Z" } : Jvm.MethodName) prog_12_method_3_code (3 : Nat) (Option.some Jvm.ClassFile.FieldType.boolean) ∈ Gw := gwt_3 207 rfl rfl
theorem w_822 : Jvm.Cond.code ({ cls := "PeaTube", name := "wrongPlace", desc := "(II)I" } : Jvm.MethodName) prog_1_method_58_code (3 : Nat) (Option.some Jvm.ClassFile.FieldType.int) ∈ Gw := gwt_3 203 rfl rfl
theorem w_830 : Jvm.Cond.code ({ cls := "PeaTube$Tray", name := "put", desc := "(IJ)V" } : Jvm.MethodName) prog_12_method_4_code (4 : Nat) (Option.none : Option Jvm.ClassFile.FieldType) ∈ Gw := gwt_3 211 rfl rfl
theorem w_818 : Jvm.Cond.code ({ cls := "PeaTube", name := "write", desc := "(IIJ)Z" } : Jvm.MethodName) prog_1_method_6_code (6 : Nat) (Option.some Jvm.ClassFile.FieldType.boolean) ∈ Gw := gwt_3 199 rfl rfl
theorem w_839 : Jvm.Cond.code ({ cls := "PeaTube", name := "refuse", desc := "(I)I" } : Jvm.MethodName) prog_1_method_49_code (2 : Nat) (Option.some Jvm.ClassFile.FieldType.int) ∈ Gw := gwt_3 220 rfl rfl
theorem w_835 : Jvm.Cond.code ({ cls := "PeaTube", name := "read", desc := "(II)J" } : Jvm.MethodName) prog_1_method_7_code (4 : Nat) (Option.some Jvm.ClassFile.FieldType.long) ∈ Gw := gwt_3 216 rfl rfl
theorem w_843 : Jvm.Cond.code ({ cls := "PeaTube", name := "pour", desc := "(IIIII)Z" } : Jvm.MethodName) prog_1_method_8_code (8 : Nat) (Option.some Jvm.ClassFile.FieldType.boolean) ∈ Gw := gwt_3 224 rfl rfl
theorem w_854 : Jvm.Cond.code ({ cls := "PeaTube$Tape", name := "append", desc := "(I)V" } : Jvm.MethodName) prog_10_method_2_code (3 : Nat) (Option.none : Option Jvm.ClassFile.FieldType) ∈ Gw := gwt_3 235 rfl rfl
theorem w_142 : Jvm.Cond.initialized "PeaTube$Tape" ∈ Gw := gwt_1 3 rfl rfl
theorem w_850 : Jvm.Cond.code ({ cls := "PeaTube", name := "feed", desc := "(IIIII)I" } : Jvm.MethodName) prog_1_method_9_code (6 : Nat) (Option.some Jvm.ClassFile.FieldType.int) ∈ Gw := gwt_3 231 rfl rfl
theorem w_249 : Jvm.Cond.code ({ cls := "PeaTube$Tape", name := "isLetter", desc := "(I)Z" } : Jvm.MethodName) prog_10_method_15_code (1 : Nat) (Option.some Jvm.ClassFile.FieldType.boolean) ∈ Gw := gwt_1 110 rfl rfl
theorem w_252 : Jvm.Cond.code ({ cls := "PeaTube$Tape", name := "withLetter", desc := "(JI)J" } : Jvm.MethodName) prog_10_method_7_code (3 : Nat) (Option.some Jvm.ClassFile.FieldType.long) ∈ Gw := gwt_1 113 rfl rfl
theorem w_876 : Jvm.Cond.code ({ cls := "PeaTube$Tape", name := "scanWord", desc := "()V" } : Jvm.MethodName) prog_10_method_6_code (4 : Nat) (Option.none : Option Jvm.ClassFile.FieldType) ∈ Gw := gwt_4 17 rfl rfl
theorem w_879 : Jvm.Cond.code ({ cls := "PeaTube$Tape", name := "isDigit", desc := "(I)Z" } : Jvm.MethodName) prog_10_method_16_code (1 : Nat) (Option.some Jvm.ClassFile.FieldType.boolean) ∈ Gw := gwt_4 20 rfl rfl
theorem w_883 : Jvm.Cond.code ({ cls := "PeaTube$Tape", name := "scanNumber", desc := "()V" } : Jvm.MethodName) prog_10_method_8_code (2 : Nat) (Option.none : Option Jvm.ClassFile.FieldType) ∈ Gw := gwt_4 24 rfl rfl
theorem w_886 : Jvm.Cond.code ({ cls := "PeaTube$Tape", name := "isSign", desc := "(I)Z" } : Jvm.MethodName) prog_10_method_17_code (1 : Nat) (Option.some Jvm.ClassFile.FieldType.boolean) ∈ Gw := gwt_4 27 rfl rfl
theorem w_872 : Jvm.Cond.code ({ cls := "PeaTube$Tape", name := "advance", desc := "()V" } : Jvm.MethodName) prog_10_method_5_code (1 : Nat) (Option.none : Option Jvm.ClassFile.FieldType) ∈ Gw := gwt_4 13 rfl rfl
theorem w_862 : Jvm.Cond.code ({ cls := "PeaTube$Tape", name := "begin", desc := "(I)V" } : Jvm.MethodName) prog_10_method_3_code (2 : Nat) (Option.none : Option Jvm.ClassFile.FieldType) ∈ Gw := gwt_4 3 rfl rfl
theorem w_318 : Jvm.Cond.code ({ cls := "PeaTube$Tent", name := "clear", desc := "()V" } : Jvm.MethodName) prog_11_method_2_code (1 : Nat) (Option.none : Option Jvm.ClassFile.FieldType) ∈ Gw := gwt_1 179 rfl rfl
theorem w_147 : Jvm.Cond.initialized "PeaTube$Tent" ∈ Gw := gwt_1 8 rfl rfl
theorem w_902 : Jvm.Cond.code ({ cls := "PeaTube$Tape", name := "refuseHere", desc := "(I)Z" } : Jvm.MethodName) prog_10_method_4_code (2 : Nat) (Option.some Jvm.ClassFile.FieldType.boolean) ∈ Gw := gwt_4 43 rfl rfl
theorem w_898 : Jvm.Cond.code ({ cls := "PeaTube$Tent", name := "beginOnce", desc := "(LPeaTube$Tape;I)Z" } : Jvm.MethodName) prog_11_method_5_code (4 : Nat) (Option.some Jvm.ClassFile.FieldType.boolean) ∈ Gw := gwt_4 39 rfl rfl
theorem w_907 : Jvm.Cond.code ({ cls := "PeaTube$Tape", name := "takeNumber", desc := "(II)Z" } : Jvm.MethodName) prog_10_method_10_code (3 : Nat) (Option.some Jvm.ClassFile.FieldType.boolean) ∈ Gw := gwt_4 48 rfl rfl
theorem w_916 : Jvm.Cond.code ({ cls := "PeaTube$Tape", name := "skipWord", desc := "(I)Z" } : Jvm.MethodName) prog_10_method_12_code (2 : Nat) (Option.some Jvm.ClassFile.FieldType.boolean) ∈ Gw := gwt_4 57 rfl rfl
theorem w_912 : Jvm.Cond.code ({ cls := "PeaTube$Tape", name := "takeWord", desc := "(I)Z" } : Jvm.MethodName) prog_10_method_11_code (2 : Nat) (Option.some Jvm.ClassFile.FieldType.boolean) ∈ Gw := gwt_4 53 rfl rfl
theorem w_920 : Jvm.Cond.code ({ cls := "PeaTube$Tape", name := "takeSemicolon", desc := "()Z" } : Jvm.MethodName) prog_10_method_13_code (1 : Nat) (Option.some Jvm.ClassFile.FieldType.boolean) ∈ Gw := gwt_4 61 rfl rfl
theorem w_894 : Jvm.Cond.code ({ cls := "PeaTube$Tent", name := "parseTube", desc := "(LPeaTube$Tape;)Z" } : Jvm.MethodName) prog_11_method_6_code (2 : Nat) (Option.some Jvm.ClassFile.FieldType.boolean) ∈ Gw := gwt_4 35 rfl rfl
theorem w_924 : Jvm.Cond.code ({ cls := "PeaTube$Tent", name := "parseFar", desc := "(LPeaTube$Tape;)Z" } : Jvm.MethodName) prog_11_method_7_code (2 : Nat) (Option.some Jvm.ClassFile.FieldType.boolean) ∈ Gw := gwt_4 65 rfl rfl
theorem w_928 : Jvm.Cond.code ({ cls := "PeaTube$Tent", name := "parseWind", desc := "(LPeaTube$Tape;)Z" } : Jvm.MethodName) prog_11_method_8_code (3 : Nat) (Option.some Jvm.ClassFile.FieldType.boolean) ∈ Gw := gwt_4 69 rfl rfl
theorem w_933 : Jvm.Cond.code ({ cls := "PeaTube$Tent", name := "parseRing", desc := "(LPeaTube$Tape;)Z" } : Jvm.MethodName) prog_11_method_9_code (4 : Nat) (Option.some Jvm.ClassFile.FieldType.boolean) ∈ Gw := gwt_4 74 rfl rfl
theorem w_945 : Jvm.Cond.code ({ cls := "PeaTube$Tape", name := "atName", desc := "()Z" } : Jvm.MethodName) prog_10_method_9_code (1 : Nat) (Option.some Jvm.ClassFile.FieldType.boolean) ∈ Gw := gwt_4 86 rfl rfl
theorem w_949 : Jvm.Cond.code ({ cls := "PeaTube$Tent", name := "findPea", desc := "(J)I" } : Jvm.MethodName) prog_11_method_14_code (4 : Nat) (Option.some Jvm.ClassFile.FieldType.int) ∈ Gw := gwt_4 90 rfl rfl
theorem w_953 : Jvm.Cond.code ({ cls := "PeaTube$Tent", name := "findShooter", desc := "(J)I" } : Jvm.MethodName) prog_11_method_15_code (4 : Nat) (Option.some Jvm.ClassFile.FieldType.int) ∈ Gw := gwt_4 94 rfl rfl
theorem w_941 : Jvm.Cond.code ({ cls := "PeaTube$Tent", name := "takeNewName", desc := "(LPeaTube$Tape;)Z" } : Jvm.MethodName) prog_11_method_13_code (2 : Nat) (Option.some Jvm.ClassFile.FieldType.boolean) ∈ Gw := gwt_4 82 rfl rfl
theorem w_937 : Jvm.Cond.code ({ cls := "PeaTube$Tent", name := "parsePea", desc := "(LPeaTube$Tape;)Z" } : Jvm.MethodName) prog_11_method_10_code (3 : Nat) (Option.some Jvm.ClassFile.FieldType.boolean) ∈ Gw := gwt_4 78 rfl rfl
theorem w_961 : Jvm.Cond.code ({ cls := "PeaTube$Tent", name := "parseLean", desc := "(LPeaTube$Tape;I)Z" } : Jvm.MethodName) prog_11_method_12_code (4 : Nat) (Option.some Jvm.ClassFile.FieldType.boolean) ∈ Gw := gwt_4 102 rfl rfl
theorem w_957 : Jvm.Cond.code ({ cls := "PeaTube$Tent", name := "parseShooter", desc := "(LPeaTube$Tape;)Z" } : Jvm.MethodName) prog_11_method_11_code (3 : Nat) (Option.some Jvm.ClassFile.FieldType.boolean) ∈ Gw := gwt_4 98 rfl rfl
theorem w_890 : Jvm.Cond.code ({ cls := "PeaTube$Tent", name := "parse", desc := "(LPeaTube$Tape;)Z" } : Jvm.MethodName) prog_11_method_4_code (4 : Nat) (Option.some Jvm.ClassFile.FieldType.boolean) ∈ Gw := gwt_4 31 rfl rfl
theorem w_968 : Jvm.Cond.code ({ cls := "java/util/Arrays", name := "fill", desc := "([II)V" } : Jvm.MethodName) prog_20_method_103_code (4 : Nat) (Option.none : Option Jvm.ClassFile.FieldType) ∈ Gw := gwt_4 109 rfl rfl
theorem w_965 : Jvm.Cond.code ({ cls := "PeaTube$Tally", name := "clear", desc := "()V" } : Jvm.MethodName) prog_9_method_2_code (1 : Nat) (Option.none : Option Jvm.ClassFile.FieldType) ∈ Gw := gwt_4 106 rfl rfl
theorem w_149 : Jvm.Cond.initialized "PeaTube$Tally" ∈ Gw := gwt_1 10 rfl rfl
theorem w_972 : Jvm.Cond.code ({ cls := "PeaTube$Round", name := "clear", desc := "()V" } : Jvm.MethodName) prog_7_method_2_code (1 : Nat) (Option.none : Option Jvm.ClassFile.FieldType) ∈ Gw := gwt_4 113 rfl rfl
theorem w_148 : Jvm.Cond.initialized "PeaTube$Round" ∈ Gw := gwt_1 9 rfl rfl
theorem w_976 : Jvm.Cond.code ({ cls := "PeaTube", name := "answer", desc := "(I)I" } : Jvm.MethodName) prog_1_method_48_code (2 : Nat) (Option.some Jvm.ClassFile.FieldType.int) ∈ Gw := gwt_4 117 rfl rfl
theorem w_858 : Jvm.Cond.code ({ cls := "PeaTube", name := "tent", desc := "(I)I" } : Jvm.MethodName) prog_1_method_10_code (4 : Nat) (Option.some Jvm.ClassFile.FieldType.int) ∈ Gw := gwt_3 239 rfl rfl
theorem w_990 : Jvm.Cond.code ({ cls := "PeaTube$Round", name := "ends", desc := "(LPeaTube$Tape;)Z" } : Jvm.MethodName) prog_7_method_5_code (3 : Nat) (Option.some Jvm.ClassFile.FieldType.boolean) ∈ Gw := gwt_4 131 rfl rfl
theorem w_999 : Jvm.Cond.code ({ cls := "PeaTube$Round", name := "isStep", desc := "(I)Z" } : Jvm.MethodName) prog_7_method_7_code (1 : Nat) (Option.some Jvm.ClassFile.FieldType.boolean) ∈ Gw := gwt_4 140 rfl rfl
theorem w_996 : Jvm.Cond.code ({ cls := "PeaTube$Round", name := "begins", desc := "(LPeaTube$Tape;I)Z" } : Jvm.MethodName) prog_7_method_6_code (3 : Nat) (Option.some Jvm.ClassFile.FieldType.boolean) ∈ Gw := gwt_4 137 rfl rfl
theorem w_1007 : Jvm.Cond.code ({ cls := "PeaTube$Round", name := "takeKnownName", desc := "(LPeaTube$Tape;I)Z" } : Jvm.MethodName) prog_7_method_9_code (2 : Nat) (Option.some Jvm.ClassFile.FieldType.boolean) ∈ Gw := gwt_4 148 rfl rfl
theorem w_1013 : Jvm.Cond.code ({ cls := "PeaTube$Round", name := "parseAim", desc := "(LPeaTube$Tape;I)Z" } : Jvm.MethodName) prog_7_method_11_code (5 : Nat) (Option.some Jvm.ClassFile.FieldType.boolean) ∈ Gw := gwt_4 154 rfl rfl
theorem w_1019 : Jvm.Cond.code ({ cls := "PeaTube$Round", name := "parseNumber", desc := "(LPeaTube$Tape;III)Z" } : Jvm.MethodName) prog_7_method_10_code (5 : Nat) (Option.some Jvm.ClassFile.FieldType.boolean) ∈ Gw := gwt_4 160 rfl rfl
theorem w_1027 : Jvm.Cond.code ({ cls := "PeaTube$Tape", name := "takeCompares", desc := "()Z" } : Jvm.MethodName) prog_10_method_14_code (1 : Nat) (Option.some Jvm.ClassFile.FieldType.boolean) ∈ Gw := gwt_4 168 rfl rfl
theorem w_1023 : Jvm.Cond.code ({ cls := "PeaTube$Round", name := "parseTest", desc := "(LPeaTube$Tape;LPeaTube$Tent;I)Z" } : Jvm.MethodName) prog_7_method_12_code (5 : Nat) (Option.some Jvm.ClassFile.FieldType.boolean) ∈ Gw := gwt_4 164 rfl rfl
theorem w_1003 : Jvm.Cond.code ({ cls := "PeaTube$Round", name := "parseRest", desc := "(LPeaTube$Tape;LPeaTube$Tent;II)Z" } : Jvm.MethodName) prog_7_method_8_code (5 : Nat) (Option.some Jvm.ClassFile.FieldType.boolean) ∈ Gw := gwt_4 144 rfl rfl
theorem w_985 : Jvm.Cond.code ({ cls := "PeaTube$Round", name := "parse", desc := "(LPeaTube$Tape;LPeaTube$Tent;)Z" } : Jvm.MethodName) prog_7_method_4_code (7 : Nat) (Option.some Jvm.ClassFile.FieldType.boolean) ∈ Gw := gwt_4 126 rfl rfl
theorem w_980 : Jvm.Cond.code ({ cls := "PeaTube", name := "round", desc := "(I)I" } : Jvm.MethodName) prog_1_method_11_code (4 : Nat) (Option.some Jvm.ClassFile.FieldType.int) ∈ Gw := gwt_4 121 rfl rfl
theorem w_1032 : Jvm.Cond.code ({ cls := "PeaTube", name := "fault", desc := "(I)I" } : Jvm.MethodName) prog_1_method_12_code (2 : Nat) (Option.some Jvm.ClassFile.FieldType.int) ∈ Gw := gwt_4 173 rfl rfl
theorem w_1036 : Jvm.Cond.code ({ cls := "PeaTube", name := "many", desc := "(I)I" } : Jvm.MethodName) prog_1_method_13_code (2 : Nat) (Option.some Jvm.ClassFile.FieldType.int) ∈ Gw := gwt_4 177 rfl rfl
theorem w_1040 : Jvm.Cond.code ({ cls := "PeaTube", name := "ring", desc := "(II)I" } : Jvm.MethodName) prog_1_method_14_code (3 : Nat) (Option.some Jvm.ClassFile.FieldType.int) ∈ Gw := gwt_4 181 rfl rfl
theorem w_1048 : Jvm.Cond.code ({ cls := "PeaTube", name := "isPea", desc := "(I)Z" } : Jvm.MethodName) prog_1_method_56_code (2 : Nat) (Option.some Jvm.ClassFile.FieldType.boolean) ∈ Gw := gwt_4 189 rfl rfl
theorem w_1052 : Jvm.Cond.code ({ cls := "PeaTube$Tent", name := "fitOf", desc := "(I)I" } : Jvm.MethodName) prog_11_method_16_code (2 : Nat) (Option.some Jvm.ClassFile.FieldType.int) ∈ Gw := gwt_4 193 rfl rfl
theorem w_1056 : Jvm.Cond.code ({ cls := "PeaTube$Tent", name := "rattles", desc := "(I)Z" } : Jvm.MethodName) prog_11_method_17_code (2 : Nat) (Option.some Jvm.ClassFile.FieldType.boolean) ∈ Gw := gwt_4 197 rfl rfl
theorem w_1044 : Jvm.Cond.code ({ cls := "PeaTube", name := "pea", desc := "(II)I" } : Jvm.MethodName) prog_1_method_15_code (3 : Nat) (Option.some Jvm.ClassFile.FieldType.int) ∈ Gw := gwt_4 185 rfl rfl
theorem w_1065 : Jvm.Cond.code ({ cls := "PeaTube", name := "isShooter", desc := "(I)Z" } : Jvm.MethodName) prog_1_method_57_code (2 : Nat) (Option.some Jvm.ClassFile.FieldType.boolean) ∈ Gw := gwt_4 206 rfl rfl
theorem w_1069 : Jvm.Cond.code ({ cls := "PeaTube$Tally", name := "gather", desc := "(II)V" } : Jvm.MethodName) prog_9_method_5_code (6 : Nat) (Option.none : Option Jvm.ClassFile.FieldType) ∈ Gw := gwt_4 210 rfl rfl
theorem w_1061 : Jvm.Cond.code ({ cls := "PeaTube", name := "shooter", desc := "(II)I" } : Jvm.MethodName) prog_1_method_16_code (3 : Nat) (Option.some Jvm.ClassFile.FieldType.int) ∈ Gw := gwt_4 202 rfl rfl
theorem w_1081 : Jvm.Cond.code ({ cls := "PeaTube", name := "takeShot", desc := "(IIIIII)V" } : Jvm.MethodName) prog_1_method_62_code (7 : Nat) (Option.none : Option Jvm.ClassFile.FieldType) ∈ Gw := gwt_4 222 rfl rfl
theorem w_1090 : Jvm.Cond.code ({ cls := "PeaTube$Shot", name := "paceOf", desc := "(IZ)I" } : Jvm.MethodName) prog_8_method_3_code (4 : Nat) (Option.some Jvm.ClassFile.FieldType.int) ∈ Gw := gwt_4 231 rfl rfl
theorem w_151 : Jvm.Cond.initialized "PeaTube$Shot" ∈ Gw := gwt_1 12 rfl rfl
theorem w_1094 : Jvm.Cond.code ({ cls := "PeaTube$Shot", name := "fly", desc := "(LPeaTube$Tent;)V" } : Jvm.MethodName) prog_8_method_4_code (4 : Nat) (Option.none : Option Jvm.ClassFile.FieldType) ∈ Gw := gwt_4 235 rfl rfl
theorem w_1085 : Jvm.Cond.code ({ cls := "PeaTube$Shot", name := "reckon", desc := "(LPeaTube$Tent;)V" } : Jvm.MethodName) prog_8_method_2_code (4 : Nat) (Option.none : Option Jvm.ClassFile.FieldType) ∈ Gw := gwt_4 226 rfl rfl
theorem w_1077 : Jvm.Cond.code ({ cls := "PeaTube", name := "wrongFlight", desc := "(III)I" } : Jvm.MethodName) prog_1_method_59_code (4 : Nat) (Option.some Jvm.ClassFile.FieldType.int) ∈ Gw := gwt_4 218 rfl rfl
theorem w_1073 : Jvm.Cond.code ({ cls := "PeaTube", name := "pace", desc := "(III)I" } : Jvm.MethodName) prog_1_method_17_code (5 : Nat) (Option.some Jvm.ClassFile.FieldType.int) ∈ Gw := gwt_4 214 rfl rfl
theorem w_1102 : Jvm.Cond.code ({ cls := "PeaTube", name := "flight", desc := "(IIII)I" } : Jvm.MethodName) prog_1_method_18_code (6 : Nat) (Option.some Jvm.ClassFile.FieldType.int) ∈ Gw := gwt_5 3 rfl rfl
theorem w_1106 : Jvm.Cond.code ({ cls := "PeaTube", name := "becomes", desc := "(III)I" } : Jvm.MethodName) prog_1_method_19_code (5 : Nat) (Option.some Jvm.ClassFile.FieldType.int) ∈ Gw := gwt_5 7 rfl rfl
theorem w_1114 : Jvm.Cond.code ({ cls := "PeaTube", name := "wrongShot", desc := "(IIIIII)I" } : Jvm.MethodName) prog_1_method_60_code (8 : Nat) (Option.some Jvm.ClassFile.FieldType.int) ∈ Gw := gwt_5 15 rfl rfl
theorem w_1118 : Jvm.Cond.code ({ cls := "PeaTube$Shot", name := "strikeX", desc := "(LPeaTube$Tent;I)I" } : Jvm.MethodName) prog_8_method_5_code (3 : Nat) (Option.some Jvm.ClassFile.FieldType.int) ∈ Gw := gwt_5 19 rfl rfl
theorem w_1122 : Jvm.Cond.code ({ cls := "PeaTube$Shot", name := "strikeY", desc := "(LPeaTube$Tent;)I" } : Jvm.MethodName) prog_8_method_6_code (2 : Nat) (Option.some Jvm.ClassFile.FieldType.int) ∈ Gw := gwt_5 23 rfl rfl
theorem w_1110 : Jvm.Cond.code ({ cls := "PeaTube", name := "strikes", desc := "(IIIIIII)I" } : Jvm.MethodName) prog_1_method_20_code (9 : Nat) (Option.some Jvm.ClassFile.FieldType.int) ∈ Gw := gwt_5 11 rfl rfl
theorem w_1134 : Jvm.Cond.code ({ cls := "PeaTube$Tent", name := "lastRing", desc := "(II)I" } : Jvm.MethodName) prog_11_method_19_code (6 : Nat) (Option.some Jvm.ClassFile.FieldType.int) ∈ Gw := gwt_5 35 rfl rfl
theorem w_1130 : Jvm.Cond.code ({ cls := "PeaTube$Tent", name := "worthAt", desc := "(II)I" } : Jvm.MethodName) prog_11_method_20_code (4 : Nat) (Option.some Jvm.ClassFile.FieldType.int) ∈ Gw := gwt_5 31 rfl rfl
theorem w_1126 : Jvm.Cond.code ({ cls := "PeaTube", name := "points", desc := "(II)I" } : Jvm.MethodName) prog_1_method_21_code (3 : Nat) (Option.some Jvm.ClassFile.FieldType.int) ∈ Gw := gwt_5 27 rfl rfl
theorem w_1138 : Jvm.Cond.code ({ cls := "PeaTube", name := "ringAt", desc := "(II)I" } : Jvm.MethodName) prog_1_method_22_code (4 : Nat) (Option.some Jvm.ClassFile.FieldType.int) ∈ Gw := gwt_5 39 rfl rfl
theorem w_1147 : Jvm.Cond.code ({ cls := "PeaTube$Tent", name := "shakeOn", desc := "(II)I" } : Jvm.MethodName) prog_11_method_18_code (4 : Nat) (Option.some Jvm.ClassFile.FieldType.int) ∈ Gw := gwt_5 48 rfl rfl
theorem w_1143 : Jvm.Cond.code ({ cls := "PeaTube", name := "hand", desc := "(II)I" } : Jvm.MethodName) prog_1_method_23_code (3 : Nat) (Option.some Jvm.ClassFile.FieldType.int) ∈ Gw := gwt_5 44 rfl rfl
theorem w_1165 : Jvm.Cond.code ({ cls := "PeaTube$Chances", name := "count", desc := "(LPeaTube$Tent;IIII)V" } : Jvm.MethodName) prog_4_method_3_code (8 : Nat) (Option.none : Option Jvm.ClassFile.FieldType) ∈ Gw := gwt_5 66 rfl rfl
theorem w_152 : Jvm.Cond.initialized "PeaTube$Chances" ∈ Gw := gwt_1 13 rfl rfl
theorem w_1156 : Jvm.Cond.code ({ cls := "PeaTube$Chances", name := "reckon", desc := "(LPeaTube$Tent;LPeaTube$Shot;)V" } : Jvm.MethodName) prog_4_method_2_code (5 : Nat) (Option.none : Option Jvm.ClassFile.FieldType) ∈ Gw := gwt_5 57 rfl rfl
theorem w_1170 : Jvm.Cond.code ({ cls := "PeaTube$Chances", name := "atLeast", desc := "(I)J" } : Jvm.MethodName) prog_4_method_5_code (5 : Nat) (Option.some Jvm.ClassFile.FieldType.long) ∈ Gw := gwt_5 71 rfl rfl
theorem w_1181 : Jvm.Cond.code ({ cls := "PeaTube", name := "commonDivisor", desc := "(JJ)J" } : Jvm.MethodName) prog_1_method_53_code (11 : Nat) (Option.some Jvm.ClassFile.FieldType.long) ∈ Gw := gwt_5 82 rfl rfl
theorem w_1175 : Jvm.Cond.code ({ cls := "PeaTube", name := "tell", desc := "(JJ)V" } : Jvm.MethodName) prog_1_method_52_code (7 : Nat) (Option.none : Option Jvm.ClassFile.FieldType) ∈ Gw := gwt_5 76 rfl rfl
theorem w_1152 : Jvm.Cond.code ({ cls := "PeaTube", name := "odds", desc := "(IIIIIII)Z" } : Jvm.MethodName) prog_1_method_24_code (9 : Nat) (Option.some Jvm.ClassFile.FieldType.boolean) ∈ Gw := gwt_5 53 rfl rfl
theorem w_1189 : Jvm.Cond.code ({ cls := "PeaTube$Chances", name := "sum", desc := "()J" } : Jvm.MethodName) prog_4_method_4_code (4 : Nat) (Option.some Jvm.ClassFile.FieldType.long) ∈ Gw := gwt_5 90 rfl rfl
theorem w_1185 : Jvm.Cond.code ({ cls := "PeaTube", name := "mean", desc := "(IIIIII)Z" } : Jvm.MethodName) prog_1_method_25_code (8 : Nat) (Option.some Jvm.ClassFile.FieldType.boolean) ∈ Gw := gwt_5 86 rfl rfl
theorem w_1197 : Jvm.Cond.code ({ cls := "PeaTube$Best", name := "begin", desc := "()V" } : Jvm.MethodName) prog_3_method_2_code (1 : Nat) (Option.none : Option Jvm.ClassFile.FieldType) ∈ Gw := gwt_5 98 rfl rfl
theorem w_154 : Jvm.Cond.initialized "PeaTube$Best" ∈ Gw := gwt_1 15 rfl rfl
theorem w_1209 : Jvm.Cond.code ({ cls := "PeaTube$Best", name := "offer", desc := "(IJJ)V" } : Jvm.MethodName) prog_3_method_3_code (6 : Nat) (Option.none : Option Jvm.ClassFile.FieldType) ∈ Gw := gwt_5 110 rfl rfl
theorem w_1218 : Jvm.Cond.code ({ cls := "PeaTube$AimSearch", name := "addColumn", desc := "(LPeaTube$Tent;LPeaTube$Shot;III)V" } : Jvm.MethodName) prog_2_method_4_code (10 : Nat) (Option.none : Option Jvm.ClassFile.FieldType) ∈ Gw := gwt_5 119 rfl rfl
theorem w_153 : Jvm.Cond.initialized "PeaTube$AimSearch" ∈ Gw := gwt_1 14 rfl rfl
theorem w_1213 : Jvm.Cond.code ({ cls := "PeaTube$AimSearch", name := "addColumns", desc := "(LPeaTube$Tent;LPeaTube$Shot;III)V" } : Jvm.MethodName) prog_2_method_3_code (6 : Nat) (Option.none : Option Jvm.ClassFile.FieldType) ∈ Gw := gwt_5 114 rfl rfl
theorem w_1201 : Jvm.Cond.code ({ cls := "PeaTube$AimSearch", name := "search", desc := "(LPeaTube$Tent;LPeaTube$Shot;LPeaTube$Best;)V" } : Jvm.MethodName) prog_2_method_2_code (9 : Nat) (Option.none : Option Jvm.ClassFile.FieldType) ∈ Gw := gwt_5 102 rfl rfl
theorem w_1193 : Jvm.Cond.code ({ cls := "PeaTube", name := "bestAim", desc := "(IIIII)I" } : Jvm.MethodName) prog_1_method_26_code (8 : Nat) (Option.some Jvm.ClassFile.FieldType.int) ∈ Gw := gwt_5 94 rfl rfl
theorem w_1228 : Jvm.Cond.code ({ cls := "PeaTube", name := "offerMean", desc := "(I)V" } : Jvm.MethodName) prog_1_method_63_code (2 : Nat) (Option.none : Option Jvm.ClassFile.FieldType) ∈ Gw := gwt_5 129 rfl rfl
theorem w_1233 : Jvm.Cond.code ({ cls := "PeaTube", name := "answerBest", desc := "()I" } : Jvm.MethodName) prog_1_method_64_code (1 : Nat) (Option.some Jvm.ClassFile.FieldType.int) ∈ Gw := gwt_5 134 rfl rfl
theorem w_1224 : Jvm.Cond.code ({ cls := "PeaTube", name := "bestPuff", desc := "(IIIII)I" } : Jvm.MethodName) prog_1_method_27_code (8 : Nat) (Option.some Jvm.ClassFile.FieldType.int) ∈ Gw := gwt_5 125 rfl rfl
theorem w_1237 : Jvm.Cond.code ({ cls := "PeaTube", name := "bestBeat", desc := "(IIIII)I" } : Jvm.MethodName) prog_1_method_28_code (8 : Nat) (Option.some Jvm.ClassFile.FieldType.int) ∈ Gw := gwt_5 138 rfl rfl
theorem w_1241 : Jvm.Cond.code ({ cls := "PeaTube", name := "longest", desc := "(IIIIII)I" } : Jvm.MethodName) prog_1_method_29_code (9 : Nat) (Option.some Jvm.ClassFile.FieldType.int) ∈ Gw := gwt_5 142 rfl rfl
theorem w_1245 : Jvm.Cond.code ({ cls := "PeaTube", name := "bestPea", desc := "(III)I" } : Jvm.MethodName) prog_1_method_30_code (5 : Nat) (Option.some Jvm.ClassFile.FieldType.int) ∈ Gw := gwt_5 146 rfl rfl
theorem w_1253 : Jvm.Cond.code ({ cls := "PeaTube", name := "sumOfSeries", desc := "(II)J" } : Jvm.MethodName) prog_1_method_65_code (6 : Nat) (Option.some Jvm.ClassFile.FieldType.long) ∈ Gw := gwt_5 154 rfl rfl
theorem w_1249 : Jvm.Cond.code ({ cls := "PeaTube", name := "series", desc := "(IIIIIII)Z" } : Jvm.MethodName) prog_1_method_31_code (11 : Nat) (Option.some Jvm.ClassFile.FieldType.boolean) ∈ Gw := gwt_5 150 rfl rfl
theorem w_1257 : Jvm.Cond.code ({ cls := "PeaTube", name := "wipeEvery", desc := "(IIIII)I" } : Jvm.MethodName) prog_1_method_32_code (12 : Nat) (Option.some Jvm.ClassFile.FieldType.int) ∈ Gw := gwt_5 158 rfl rfl
theorem w_1275 : Jvm.Cond.code ({ cls := "PeaTube$Chances", name := "waysWithOneMore", desc := "(I)J" } : Jvm.MethodName) prog_4_method_7_code (5 : Nat) (Option.some Jvm.ClassFile.FieldType.long) ∈ Gw := gwt_5 176 rfl rfl
theorem w_1270 : Jvm.Cond.code ({ cls := "PeaTube$Chances", name := "addUp", desc := "(I)V" } : Jvm.MethodName) prog_4_method_6_code (4 : Nat) (Option.none : Option Jvm.ClassFile.FieldType) ∈ Gw := gwt_5 171 rfl rfl
theorem w_1266 : Jvm.Cond.code ({ cls := "PeaTube", name := "setRival", desc := "(IIII)V" } : Jvm.MethodName) prog_1_method_66_code (5 : Nat) (Option.none : Option Jvm.ClassFile.FieldType) ∈ Gw := gwt_5 167 rfl rfl
theorem w_1279 : Jvm.Cond.code ({ cls := "PeaTube$Chances", name := "waysAbove", desc := "(LPeaTube$Chances;)J" } : Jvm.MethodName) prog_4_method_9_code (7 : Nat) (Option.some Jvm.ClassFile.FieldType.long) ∈ Gw := gwt_5 180 rfl rfl
theorem w_1283 : Jvm.Cond.code ({ cls := "PeaTube$Chances", name := "allWays", desc := "()J" } : Jvm.MethodName) prog_4_method_8_code (4 : Nat) (Option.some Jvm.ClassFile.FieldType.long) ∈ Gw := gwt_5 184 rfl rfl
theorem w_1262 : Jvm.Cond.code ({ cls := "PeaTube", name := "turns", desc := "(IIIIII)Z" } : Jvm.MethodName) prog_1_method_33_code (13 : Nat) (Option.some Jvm.ClassFile.FieldType.boolean) ∈ Gw := gwt_5 163 rfl rfl
theorem w_1291 : Jvm.Cond.code ({ cls := "PeaTube", name := "wrongKnock", desc := "(III)I" } : Jvm.MethodName) prog_1_method_61_code (8 : Nat) (Option.some Jvm.ClassFile.FieldType.int) ∈ Gw := gwt_5 192 rfl rfl
theorem w_1299 : Jvm.Cond.code ({ cls := "PeaTube", name := "beats", desc := "(II)J" } : Jvm.MethodName) prog_1_method_67_code (3 : Nat) (Option.some Jvm.ClassFile.FieldType.long) ∈ Gw := gwt_5 200 rfl rfl
theorem w_1295 : Jvm.Cond.code ({ cls := "PeaTube", name := "decided", desc := "(II)J" } : Jvm.MethodName) prog_1_method_68_code (3 : Nat) (Option.some Jvm.ClassFile.FieldType.long) ∈ Gw := gwt_5 196 rfl rfl
theorem w_1287 : Jvm.Cond.code ({ cls := "PeaTube", name := "knock", desc := "(III)Z" } : Jvm.MethodName) prog_1_method_34_code (20 : Nat) (Option.some Jvm.ClassFile.FieldType.boolean) ∈ Gw := gwt_5 188 rfl rfl
theorem w_1303 : Jvm.Cond.code ({ cls := "PeaTube", name := "hole", desc := "(II)I" } : Jvm.MethodName) prog_1_method_35_code (3 : Nat) (Option.some Jvm.ClassFile.FieldType.int) ∈ Gw := gwt_5 204 rfl rfl
theorem w_1311 : Jvm.Cond.code ({ cls := "PeaTube$Tally", name := "spreadTop", desc := "()J" } : Jvm.MethodName) prog_9_method_6_code (1 : Nat) (Option.some Jvm.ClassFile.FieldType.long) ∈ Gw := gwt_5 212 rfl rfl
theorem w_1315 : Jvm.Cond.code ({ cls := "PeaTube$Tally", name := "spreadBottom", desc := "()J" } : Jvm.MethodName) prog_9_method_7_code (1 : Nat) (Option.some Jvm.ClassFile.FieldType.long) ∈ Gw := gwt_5 216 rfl rfl
theorem w_1307 : Jvm.Cond.code ({ cls := "PeaTube", name := "lean", desc := "(III)Z" } : Jvm.MethodName) prog_1_method_36_code (4 : Nat) (Option.some Jvm.ClassFile.FieldType.boolean) ∈ Gw := gwt_5 208 rfl rfl
theorem w_1323 : Jvm.Cond.code ({ cls := "PeaTube$Tally", name := "distanceTop", desc := "(II)J" } : Jvm.MethodName) prog_9_method_8_code (7 : Nat) (Option.some Jvm.ClassFile.FieldType.long) ∈ Gw := gwt_5 224 rfl rfl
theorem w_1319 : Jvm.Cond.code ({ cls := "PeaTube", name := "whose", desc := "(II)I" } : Jvm.MethodName) prog_1_method_37_code (4 : Nat) (Option.some Jvm.ClassFile.FieldType.int) ∈ Gw := gwt_5 220 rfl rfl
theorem w_1327 : Jvm.Cond.code ({ cls := "PeaTube", name := "worst", desc := "(I)I" } : Jvm.MethodName) prog_1_method_38_code (4 : Nat) (Option.some Jvm.ClassFile.FieldType.int) ∈ Gw := gwt_5 228 rfl rfl
theorem w_1331 : Jvm.Cond.code ({ cls := "PeaTube", name := "sieve", desc := "(I)I" } : Jvm.MethodName) prog_1_method_39_code (4 : Nat) (Option.some Jvm.ClassFile.FieldType.int) ∈ Gw := gwt_5 232 rfl rfl
theorem w_1339 : Jvm.Cond.code ({ cls := "PeaTube$Tally", name := "couples", desc := "()I" } : Jvm.MethodName) prog_9_method_9_code (4 : Nat) (Option.some Jvm.ClassFile.FieldType.int) ∈ Gw := gwt_6 0 rfl rfl
theorem w_1335 : Jvm.Cond.code ({ cls := "PeaTube", name := "same", desc := "()I" } : Jvm.MethodName) prog_1_method_40_code (1 : Nat) (Option.some Jvm.ClassFile.FieldType.int) ∈ Gw := gwt_5 236 rfl rfl
theorem w_1347 : Jvm.Cond.code ({ cls := "PeaTube$Tally", name := "strike", desc := "(LPeaTube$Tent;LPeaTube$Shot;II)I" } : Jvm.MethodName) prog_9_method_4_code (6 : Nat) (Option.some Jvm.ClassFile.FieldType.int) ∈ Gw := gwt_6 8 rfl rfl
theorem w_1343 : Jvm.Cond.code ({ cls := "PeaTube", name := "shoot", desc := "(IIIIIIII)I" } : Jvm.MethodName) prog_1_method_41_code (10 : Nat) (Option.some Jvm.ClassFile.FieldType.int) ∈ Gw := gwt_6 4 rfl rfl
theorem w_1354 : Jvm.Cond.code ({ cls := "PeaTube", name := "wipe", desc := "()I" } : Jvm.MethodName) prog_1_method_42_code (2 : Nat) (Option.some Jvm.ClassFile.FieldType.int) ∈ Gw := gwt_6 15 rfl rfl
theorem w_1366 : Jvm.Cond.code ({ cls := "PeaTube$Player", name := "begin", desc := "(I)V" } : Jvm.MethodName) prog_6_method_2_code (2 : Nat) (Option.none : Option Jvm.ClassFile.FieldType) ∈ Gw := gwt_6 27 rfl rfl
theorem w_155 : Jvm.Cond.initialized "PeaTube$Player" ∈ Gw := gwt_1 16 rfl rfl
theorem w_1371 : Jvm.Cond.code ({ cls := "PeaTube$Player", name := "behindEnd", desc := "(LPeaTube$Round;I)I" } : Jvm.MethodName) prog_6_method_4_code (4 : Nat) (Option.some Jvm.ClassFile.FieldType.int) ∈ Gw := gwt_6 32 rfl rfl
theorem w_1375 : Jvm.Cond.code ({ cls := "PeaTube$Player", name := "holds", desc := "(LPeaTube$Round;ILPeaTube$Tally;)Z" } : Jvm.MethodName) prog_6_method_5_code (5 : Nat) (Option.some Jvm.ClassFile.FieldType.boolean) ∈ Gw := gwt_6 36 rfl rfl
theorem w_1395 : Jvm.Cond.code ({ cls := "PeaTube$Player", name := "draw", desc := "(I)I" } : Jvm.MethodName) prog_6_method_10_code (2 : Nat) (Option.some Jvm.ClassFile.FieldType.int) ∈ Gw := gwt_6 56 rfl rfl
theorem w_1391 : Jvm.Cond.code ({ cls := "PeaTube$Player", name := "drawHand", desc := "(I)I" } : Jvm.MethodName) prog_6_method_9_code (2 : Nat) (Option.some Jvm.ClassFile.FieldType.int) ∈ Gw := gwt_6 52 rfl rfl
theorem w_1383 : Jvm.Cond.code ({ cls := "PeaTube$Player", name := "shootOnce", desc := "(ILPeaTube$Tent;LPeaTube$Tally;)V" } : Jvm.MethodName) prog_6_method_8_code (9 : Nat) (Option.none : Option Jvm.ClassFile.FieldType) ∈ Gw := gwt_6 44 rfl rfl
theorem w_1403 : Jvm.Cond.code ({ cls := "PeaTube$Player", name := "loadNext", desc := "(LPeaTube$Tent;)V" } : Jvm.MethodName) prog_6_method_7_code (2 : Nat) (Option.none : Option Jvm.ClassFile.FieldType) ∈ Gw := gwt_6 64 rfl rfl
theorem w_1379 : Jvm.Cond.code ({ cls := "PeaTube$Player", name := "doStep", desc := "(LPeaTube$Round;ILPeaTube$Tent;LPeaTube$Tally;)V" } : Jvm.MethodName) prog_6_method_6_code (6 : Nat) (Option.none : Option Jvm.ClassFile.FieldType) ∈ Gw := gwt_6 40 rfl rfl
theorem w_1362 : Jvm.Cond.code ({ cls := "PeaTube$Player", name := "run", desc := "(LPeaTube$Round;LPeaTube$Tent;LPeaTube$Tally;I)V" } : Jvm.MethodName) prog_6_method_3_code (8 : Nat) (Option.none : Option Jvm.ClassFile.FieldType) ∈ Gw := gwt_6 23 rfl rfl
theorem w_1358 : Jvm.Cond.code ({ cls := "PeaTube", name := "play", desc := "(I)I" } : Jvm.MethodName) prog_1_method_43_code (2 : Nat) (Option.some Jvm.ClassFile.FieldType.int) ∈ Gw := gwt_6 19 rfl rfl
theorem w_1407 : Jvm.Cond.code ({ cls := "PeaTube", name := "played", desc := "(I)I" } : Jvm.MethodName) prog_1_method_44_code (2 : Nat) (Option.some Jvm.ClassFile.FieldType.int) ∈ Gw := gwt_6 68 rfl rfl
theorem w_1415 : Jvm.Cond.code ({ cls := "PeaTube$Tally", name := "copy", desc := "(LPeaTube$Tally;)V" } : Jvm.MethodName) prog_9_method_3_code (2 : Nat) (Option.none : Option Jvm.ClassFile.FieldType) ∈ Gw := gwt_6 76 rfl rfl
theorem w_1420 : Jvm.Cond.code ({ cls := "PeaTube$Tally", name := "leads", desc := "(II)Z" } : Jvm.MethodName) prog_9_method_10_code (4 : Nat) (Option.some Jvm.ClassFile.FieldType.boolean) ∈ Gw := gwt_6 81 rfl rfl
theorem w_1411 : Jvm.Cond.code ({ cls := "PeaTube", name := "wins", desc := "(III)Z" } : Jvm.MethodName) prog_1_method_45_code (6 : Nat) (Option.some Jvm.ClassFile.FieldType.boolean) ∈ Gw := gwt_6 72 rfl rfl
theorem w_1432 : Jvm.Cond.code ({ cls := "PeaTube$Tent", name := "copy", desc := "(LPeaTube$Tent;)V" } : Jvm.MethodName) prog_11_method_3_code (2 : Nat) (Option.none : Option Jvm.ClassFile.FieldType) ∈ Gw := gwt_6 93 rfl rfl
theorem w_1437 : Jvm.Cond.code ({ cls := "PeaTube$Round", name := "copy", desc := "(LPeaTube$Round;)V" } : Jvm.MethodName) prog_7_method_3_code (2 : Nat) (Option.none : Option Jvm.ClassFile.FieldType) ∈ Gw := gwt_6 98 rfl rfl
theorem w_1428 : Jvm.Cond.code ({ cls := "PeaTube$Kept", name := "keep", desc := "(LPeaTube$Tent;LPeaTube$Round;LPeaTube$Tally;)V" } : Jvm.MethodName) prog_5_method_2_code (4 : Nat) (Option.none : Option Jvm.ClassFile.FieldType) ∈ Gw := gwt_6 89 rfl rfl
theorem w_150 : Jvm.Cond.initialized "PeaTube$Kept" ∈ Gw := gwt_1 11 rfl rfl
theorem w_1424 : Jvm.Cond.code ({ cls := "PeaTube", name := "mark", desc := "()I" } : Jvm.MethodName) prog_1_method_46_code (1 : Nat) (Option.some Jvm.ClassFile.FieldType.int) ∈ Gw := gwt_6 85 rfl rfl
theorem w_1447 : Jvm.Cond.code ({ cls := "PeaTube$Kept", name := "giveBack", desc := "(LPeaTube$Tent;LPeaTube$Round;LPeaTube$Tally;)V" } : Jvm.MethodName) prog_5_method_3_code (4 : Nat) (Option.none : Option Jvm.ClassFile.FieldType) ∈ Gw := gwt_6 108 rfl rfl
theorem w_1443 : Jvm.Cond.code ({ cls := "PeaTube", name := "back", desc := "()I" } : Jvm.MethodName) prog_1_method_47_code (1 : Nat) (Option.some Jvm.ClassFile.FieldType.int) ∈ Gw := gwt_6 104 rfl rfl
theorem w_1645 : Jvm.Cond.code ({ cls := "PeaTubeModel", name := "status", desc := "()I" } : Jvm.MethodName) prog_14_method_4_code (1 : Nat) (Option.some Jvm.ClassFile.FieldType.int) ∈ Gw := gwt_7 66 rfl rfl
theorem w_156 : Jvm.Cond.initialized "PeaTubeModel" ∈ Gw := gwt_1 17 rfl rfl
theorem w_1649 : Jvm.Cond.code ({ cls := "PeaTubeModel", name := "top", desc := "()J" } : Jvm.MethodName) prog_14_method_5_code (1 : Nat) (Option.some Jvm.ClassFile.FieldType.long) ∈ Gw := gwt_7 70 rfl rfl
theorem w_1653 : Jvm.Cond.code ({ cls := "PeaTubeModel", name := "bottom", desc := "()J" } : Jvm.MethodName) prog_14_method_6_code (1 : Nat) (Option.some Jvm.ClassFile.FieldType.long) ∈ Gw := gwt_7 74 rfl rfl
theorem w_1661 : Jvm.Cond.code ({ cls := "PeaTubeModel", name := "no", desc := "(I)Z" } : Jvm.MethodName) prog_14_method_8_code (2 : Nat) (Option.some Jvm.ClassFile.FieldType.boolean) ∈ Gw := gwt_7 82 rfl rfl
theorem w_1657 : Jvm.Cond.code ({ cls := "PeaTubeModel", name := "tray", desc := "(III)Z" } : Jvm.MethodName) prog_14_method_12_code (5 : Nat) (Option.some Jvm.ClassFile.FieldType.boolean) ∈ Gw := gwt_7 78 rfl rfl
theorem w_1673 : Jvm.Cond.code ({ cls := "PeaTubeModel", name := "trayed", desc := "(I)I" } : Jvm.MethodName) prog_14_method_13_code (2 : Nat) (Option.some Jvm.ClassFile.FieldType.int) ∈ Gw := gwt_7 94 rfl rfl
theorem w_1669 : Jvm.Cond.code ({ cls := "PeaTubeModel", name := "placed", desc := "(II)I" } : Jvm.MethodName) prog_14_method_14_code (4 : Nat) (Option.some Jvm.ClassFile.FieldType.int) ∈ Gw := gwt_7 90 rfl rfl
theorem w_1676 : Jvm.Cond.code ({ cls := "PeaTubeModel", name := "cut", desc := "(IJ)J" } : Jvm.MethodName) prog_14_method_11_code (3 : Nat) (Option.some Jvm.ClassFile.FieldType.long) ∈ Gw := gwt_7 97 rfl rfl
theorem w_1665 : Jvm.Cond.code ({ cls := "PeaTubeModel", name := "write", desc := "(IIJ)Z" } : Jvm.MethodName) prog_14_method_15_code (5 : Nat) (Option.some Jvm.ClassFile.FieldType.boolean) ∈ Gw := gwt_7 86 rfl rfl
theorem w_1680 : Jvm.Cond.code ({ cls := "PeaTubeModel", name := "read", desc := "(II)J" } : Jvm.MethodName) prog_14_method_16_code (3 : Nat) (Option.some Jvm.ClassFile.FieldType.long) ∈ Gw := gwt_7 101 rfl rfl
theorem w_1685 : Jvm.Cond.code ({ cls := "PeaTubeModel", name := "pour", desc := "(IIIII)Z" } : Jvm.MethodName) prog_14_method_17_code (9 : Nat) (Option.some Jvm.ClassFile.FieldType.boolean) ∈ Gw := gwt_7 106 rfl rfl
theorem w_1693 : Jvm.Cond.code ({ cls := "PeaTubeModel", name := "lay", desc := "(I)V" } : Jvm.MethodName) prog_14_method_55_code (3 : Nat) (Option.none : Option Jvm.ClassFile.FieldType) ∈ Gw := gwt_7 114 rfl rfl
theorem w_1689 : Jvm.Cond.code ({ cls := "PeaTubeModel", name := "feed", desc := "(IIIII)I" } : Jvm.MethodName) prog_14_method_54_code (6 : Nat) (Option.some Jvm.ClassFile.FieldType.int) ∈ Gw := gwt_7 110 rfl rfl
theorem w_1697 : Jvm.Cond.code ({ cls := "PeaTubeModel", name := "fault", desc := "(I)I" } : Jvm.MethodName) prog_14_method_58_code (2 : Nat) (Option.some Jvm.ClassFile.FieldType.int) ∈ Gw := gwt_7 118 rfl rfl
theorem w_1713 : Jvm.Cond.code ({ cls := "PeaTubeModel", name := "look2", desc := "(I)I" } : Jvm.MethodName) prog_14_method_20_code (2 : Nat) (Option.some Jvm.ClassFile.FieldType.int) ∈ Gw := gwt_7 134 rfl rfl
theorem w_1716 : Jvm.Cond.code ({ cls := "PeaTubeModel", name := "isLetter", desc := "(I)Z" } : Jvm.MethodName) prog_14_method_21_code (1 : Nat) (Option.some Jvm.ClassFile.FieldType.boolean) ∈ Gw := gwt_7 137 rfl rfl
theorem w_1721 : Jvm.Cond.code ({ cls := "PeaTubeModel", name := "isDigit", desc := "(I)Z" } : Jvm.MethodName) prog_14_method_22_code (1 : Nat) (Option.some Jvm.ClassFile.FieldType.boolean) ∈ Gw := gwt_7 142 rfl rfl
theorem w_1725 : Jvm.Cond.code ({ cls := "PeaTubeModel", name := "isSignByte", desc := "(I)Z" } : Jvm.MethodName) prog_14_method_23_code (2 : Nat) (Option.some Jvm.ClassFile.FieldType.boolean) ∈ Gw := gwt_7 146 rfl rfl
theorem w_1709 : Jvm.Cond.code ({ cls := "PeaTubeModel", name := "next", desc := "()V" } : Jvm.MethodName) prog_14_method_24_code (2 : Nat) (Option.none : Option Jvm.ClassFile.FieldType) ∈ Gw := gwt_7 130 rfl rfl
theorem w_1705 : Jvm.Cond.code ({ cls := "PeaTubeModel", name := "opens", desc := "(II)Z" } : Jvm.MethodName) prog_14_method_56_code (3 : Nat) (Option.some Jvm.ClassFile.FieldType.boolean) ∈ Gw := gwt_7 126 rfl rfl
theorem w_1457 : Jvm.Cond.code ({ cls := "PeaTubeModel", name := "begins", desc := "(I)V" } : Jvm.MethodName) prog_14_method_2_code (2 : Nat) (Option.none : Option Jvm.ClassFile.FieldType) ∈ Gw := gwt_6 118 rfl rfl
theorem w_1732 : Jvm.Cond.code ({ cls := "PeaTubeModel", name := "spelled", desc := "(IIIIII)J" } : Jvm.MethodName) prog_14_method_26_code (8 : Nat) (Option.some Jvm.ClassFile.FieldType.long) ∈ Gw := gwt_7 153 rfl rfl
theorem w_1736 : Jvm.Cond.code ({ cls := "PeaTubeModel", name := "isWord", desc := "(J)Z" } : Jvm.MethodName) prog_14_method_27_code (3 : Nat) (Option.some Jvm.ClassFile.FieldType.boolean) ∈ Gw := gwt_7 157 rfl rfl
theorem w_1729 : Jvm.Cond.code ({ cls := "PeaTubeModel", name := "isTube", desc := "()Z" } : Jvm.MethodName) prog_14_method_28_code (1 : Nat) (Option.some Jvm.ClassFile.FieldType.boolean) ∈ Gw := gwt_7 150 rfl rfl
theorem w_1744 : Jvm.Cond.code ({ cls := "PeaTubeModel", name := "fail", desc := "(II)V" } : Jvm.MethodName) prog_14_method_50_code (3 : Nat) (Option.none : Option Jvm.ClassFile.FieldType) ∈ Gw := gwt_7 165 rfl rfl
theorem w_1752 : Jvm.Cond.code ({ cls := "PeaTubeModel", name := "wrong", desc := "()V" } : Jvm.MethodName) prog_14_method_51_code (1 : Nat) (Option.none : Option Jvm.ClassFile.FieldType) ∈ Gw := gwt_7 173 rfl rfl
theorem w_1755 : Jvm.Cond.code ({ cls := "PeaTubeModel", name := "isIn", desc := "(JJJ)Z" } : Jvm.MethodName) prog_14_method_9_code (6 : Nat) (Option.some Jvm.ClassFile.FieldType.boolean) ∈ Gw := gwt_7 176 rfl rfl
theorem w_1748 : Jvm.Cond.code ({ cls := "PeaTubeModel", name := "count", desc := "(II)I" } : Jvm.MethodName) prog_14_method_53_code (4 : Nat) (Option.some Jvm.ClassFile.FieldType.int) ∈ Gw := gwt_7 169 rfl rfl
theorem w_1759 : Jvm.Cond.code ({ cls := "PeaTubeModel", name := "isBore", desc := "()Z" } : Jvm.MethodName) prog_14_method_29_code (1 : Nat) (Option.some Jvm.ClassFile.FieldType.boolean) ∈ Gw := gwt_7 180 rfl rfl
theorem w_1763 : Jvm.Cond.code ({ cls := "PeaTubeModel", name := "must", desc := "(Z)V" } : Jvm.MethodName) prog_14_method_52_code (2 : Nat) (Option.none : Option Jvm.ClassFile.FieldType) ∈ Gw := gwt_7 184 rfl rfl
theorem w_1740 : Jvm.Cond.code ({ cls := "PeaTubeModel", name := "readTube", desc := "()V" } : Jvm.MethodName) prog_14_method_61_code (1 : Nat) (Option.none : Option Jvm.ClassFile.FieldType) ∈ Gw := gwt_7 161 rfl rfl
theorem w_1767 : Jvm.Cond.code ({ cls := "PeaTubeModel", name := "isFar", desc := "()Z" } : Jvm.MethodName) prog_14_method_30_code (1 : Nat) (Option.some Jvm.ClassFile.FieldType.boolean) ∈ Gw := gwt_7 188 rfl rfl
theorem w_1771 : Jvm.Cond.code ({ cls := "PeaTubeModel", name := "readFar", desc := "()V" } : Jvm.MethodName) prog_14_method_62_code (1 : Nat) (Option.none : Option Jvm.ClassFile.FieldType) ∈ Gw := gwt_7 192 rfl rfl
theorem w_1775 : Jvm.Cond.code ({ cls := "PeaTubeModel", name := "isWind", desc := "()Z" } : Jvm.MethodName) prog_14_method_31_code (1 : Nat) (Option.some Jvm.ClassFile.FieldType.boolean) ∈ Gw := gwt_7 196 rfl rfl
theorem w_1783 : Jvm.Cond.code ({ cls := "PeaTubeModel", name := "isLeft", desc := "()Z" } : Jvm.MethodName) prog_14_method_32_code (1 : Nat) (Option.some Jvm.ClassFile.FieldType.boolean) ∈ Gw := gwt_7 204 rfl rfl
theorem w_1779 : Jvm.Cond.code ({ cls := "PeaTubeModel", name := "readWind", desc := "()V" } : Jvm.MethodName) prog_14_method_63_code (1 : Nat) (Option.none : Option Jvm.ClassFile.FieldType) ∈ Gw := gwt_7 200 rfl rfl
theorem w_1787 : Jvm.Cond.code ({ cls := "PeaTubeModel", name := "isRing", desc := "()Z" } : Jvm.MethodName) prog_14_method_33_code (1 : Nat) (Option.some Jvm.ClassFile.FieldType.boolean) ∈ Gw := gwt_7 208 rfl rfl
theorem w_1795 : Jvm.Cond.code ({ cls := "PeaTubeModel", name := "isWorth", desc := "()Z" } : Jvm.MethodName) prog_14_method_34_code (1 : Nat) (Option.some Jvm.ClassFile.FieldType.boolean) ∈ Gw := gwt_7 216 rfl rfl
theorem w_1791 : Jvm.Cond.code ({ cls := "PeaTubeModel", name := "readRing", desc := "()V" } : Jvm.MethodName) prog_14_method_64_code (4 : Nat) (Option.none : Option Jvm.ClassFile.FieldType) ∈ Gw := gwt_7 212 rfl rfl
theorem w_1799 : Jvm.Cond.code ({ cls := "PeaTubeModel", name := "isPea", desc := "()Z" } : Jvm.MethodName) prog_14_method_35_code (1 : Nat) (Option.some Jvm.ClassFile.FieldType.boolean) ∈ Gw := gwt_7 220 rfl rfl
theorem w_1819 : Jvm.Cond.code ({ cls := "PeaTubeModel", name := "isSize", desc := "()Z" } : Jvm.MethodName) prog_14_method_36_code (1 : Nat) (Option.some Jvm.ClassFile.FieldType.boolean) ∈ Gw := gwt_8 0 rfl rfl
theorem w_1823 : Jvm.Cond.code ({ cls := "PeaTubeModel", name := "isWeight", desc := "()Z" } : Jvm.MethodName) prog_14_method_37_code (1 : Nat) (Option.some Jvm.ClassFile.FieldType.boolean) ∈ Gw := gwt_8 4 rfl rfl
theorem w_1827 : Jvm.Cond.code ({ cls := "PeaTubeModel", name := "isCrooked", desc := "()Z" } : Jvm.MethodName) prog_14_method_38_code (1 : Nat) (Option.some Jvm.ClassFile.FieldType.boolean) ∈ Gw := gwt_8 8 rfl rfl
theorem w_1832 : Jvm.Cond.code ({ cls := "PeaTubeModel", name := "isWet", desc := "()Z" } : Jvm.MethodName) prog_14_method_39_code (1 : Nat) (Option.some Jvm.ClassFile.FieldType.boolean) ∈ Gw := gwt_8 13 rfl rfl
theorem w_1836 : Jvm.Cond.code ({ cls := "PeaTubeModel", name := "isShooter", desc := "()Z" } : Jvm.MethodName) prog_14_method_40_code (1 : Nat) (Option.some Jvm.ClassFile.FieldType.boolean) ∈ Gw := gwt_8 17 rfl rfl
theorem w_1841 : Jvm.Cond.code ({ cls := "PeaTubeModel", name := "isShake", desc := "()Z" } : Jvm.MethodName) prog_14_method_42_code (1 : Nat) (Option.some Jvm.ClassFile.FieldType.boolean) ∈ Gw := gwt_8 22 rfl rfl
theorem w_1845 : Jvm.Cond.code ({ cls := "PeaTubeModel", name := "isLean", desc := "()Z" } : Jvm.MethodName) prog_14_method_43_code (1 : Nat) (Option.some Jvm.ClassFile.FieldType.boolean) ∈ Gw := gwt_8 26 rfl rfl
theorem w_1849 : Jvm.Cond.code ({ cls := "PeaTubeModel", name := "isLow", desc := "()Z" } : Jvm.MethodName) prog_14_method_44_code (1 : Nat) (Option.some Jvm.ClassFile.FieldType.boolean) ∈ Gw := gwt_8 30 rfl rfl
theorem w_1857 : Jvm.Cond.code ({ cls := "PeaTubeModel", name := "isPuff", desc := "()Z" } : Jvm.MethodName) prog_14_method_41_code (1 : Nat) (Option.some Jvm.ClassFile.FieldType.boolean) ∈ Gw := gwt_8 38 rfl rfl
theorem w_1853 : Jvm.Cond.code ({ cls := "PeaTubeModel", name := "stepWord", desc := "()I" } : Jvm.MethodName) prog_14_method_45_code (1 : Nat) (Option.some Jvm.ClassFile.FieldType.int) ∈ Gw := gwt_8 34 rfl rfl
theorem w_1861 : Jvm.Cond.code ({ cls := "PeaTubeModel", name := "testWord", desc := "()I" } : Jvm.MethodName) prog_14_method_46_code (1 : Nat) (Option.some Jvm.ClassFile.FieldType.int) ∈ Gw := gwt_8 42 rfl rfl
theorem w_1865 : Jvm.Cond.code ({ cls := "PeaTubeModel", name := "isEnd", desc := "()Z" } : Jvm.MethodName) prog_14_method_47_code (1 : Nat) (Option.some Jvm.ClassFile.FieldType.boolean) ∈ Gw := gwt_8 46 rfl rfl
theorem w_1815 : Jvm.Cond.code ({ cls := "PeaTubeModel", name := "isKept", desc := "()Z" } : Jvm.MethodName) prog_14_method_48_code (1 : Nat) (Option.some Jvm.ClassFile.FieldType.boolean) ∈ Gw := gwt_7 236 rfl rfl
theorem w_1811 : Jvm.Cond.code ({ cls := "PeaTubeModel", name := "isName", desc := "()Z" } : Jvm.MethodName) prog_14_method_49_code (1 : Nat) (Option.some Jvm.ClassFile.FieldType.boolean) ∈ Gw := gwt_7 232 rfl rfl
theorem w_1869 : Jvm.Cond.code ({ cls := "PeaTubeModel", name := "peaNamed", desc := "(I)I" } : Jvm.MethodName) prog_14_method_59_code (3 : Nat) (Option.some Jvm.ClassFile.FieldType.int) ∈ Gw := gwt_8 50 rfl rfl
theorem w_1873 : Jvm.Cond.code ({ cls := "PeaTubeModel", name := "shooterNamed", desc := "(I)I" } : Jvm.MethodName) prog_14_method_60_code (3 : Nat) (Option.some Jvm.ClassFile.FieldType.int) ∈ Gw := gwt_8 54 rfl rfl
theorem w_1807 : Jvm.Cond.code ({ cls := "PeaTubeModel", name := "readNew", desc := "(I)V" } : Jvm.MethodName) prog_14_method_65_code (2 : Nat) (Option.none : Option Jvm.ClassFile.FieldType) ∈ Gw := gwt_7 228 rfl rfl
theorem w_1803 : Jvm.Cond.code ({ cls := "PeaTubeModel", name := "readPea", desc := "()V" } : Jvm.MethodName) prog_14_method_66_code (2 : Nat) (Option.none : Option Jvm.ClassFile.FieldType) ∈ Gw := gwt_7 224 rfl rfl
theorem w_1877 : Jvm.Cond.code ({ cls := "PeaTubeModel", name := "readShooter", desc := "()V" } : Jvm.MethodName) prog_14_method_67_code (2 : Nat) (Option.none : Option Jvm.ClassFile.FieldType) ∈ Gw := gwt_8 58 rfl rfl
theorem w_1881 : Jvm.Cond.code ({ cls := "PeaTubeModel", name := "isSign", desc := "(I)Z" } : Jvm.MethodName) prog_14_method_25_code (2 : Nat) (Option.some Jvm.ClassFile.FieldType.boolean) ∈ Gw := gwt_8 62 rfl rfl
theorem w_1885 : Jvm.Cond.code ({ cls := "PeaTubeModel", name := "isWell", desc := "()Z" } : Jvm.MethodName) prog_14_method_57_code (1 : Nat) (Option.some Jvm.ClassFile.FieldType.boolean) ∈ Gw := gwt_8 66 rfl rfl
theorem w_1889 : Jvm.Cond.code ({ cls := "PeaTubeModel", name := "copy", desc := "(II)V" } : Jvm.MethodName) prog_14_method_147_code (4 : Nat) (Option.none : Option Jvm.ClassFile.FieldType) ∈ Gw := gwt_8 70 rfl rfl
theorem w_1701 : Jvm.Cond.code ({ cls := "PeaTubeModel", name := "tent", desc := "(I)I" } : Jvm.MethodName) prog_14_method_68_code (3 : Nat) (Option.some Jvm.ClassFile.FieldType.int) ∈ Gw := gwt_7 122 rfl rfl
theorem w_1905 : Jvm.Cond.code ({ cls := "PeaTubeModel", name := "readTold", desc := "(Z)I" } : Jvm.MethodName) prog_14_method_69_code (3 : Nat) (Option.some Jvm.ClassFile.FieldType.int) ∈ Gw := gwt_8 86 rfl rfl
theorem w_1909 : Jvm.Cond.code ({ cls := "PeaTubeModel", name := "readAim", desc := "(I)V" } : Jvm.MethodName) prog_14_method_71_code (2 : Nat) (Option.none : Option Jvm.ClassFile.FieldType) ∈ Gw := gwt_8 90 rfl rfl
theorem w_1913 : Jvm.Cond.code ({ cls := "PeaTubeModel", name := "readTest", desc := "(I)V" } : Jvm.MethodName) prog_14_method_70_code (3 : Nat) (Option.none : Option Jvm.ClassFile.FieldType) ∈ Gw := gwt_8 94 rfl rfl
theorem w_1901 : Jvm.Cond.code ({ cls := "PeaTubeModel", name := "readRest", desc := "(I)V" } : Jvm.MethodName) prog_14_method_72_code (3 : Nat) (Option.none : Option Jvm.ClassFile.FieldType) ∈ Gw := gwt_8 82 rfl rfl
theorem w_1897 : Jvm.Cond.code ({ cls := "PeaTubeModel", name := "readStep", desc := "(I)V" } : Jvm.MethodName) prog_14_method_73_code (5 : Nat) (Option.none : Option Jvm.ClassFile.FieldType) ∈ Gw := gwt_8 78 rfl rfl
theorem w_1893 : Jvm.Cond.code ({ cls := "PeaTubeModel", name := "round", desc := "(I)I" } : Jvm.MethodName) prog_14_method_74_code (3 : Nat) (Option.some Jvm.ClassFile.FieldType.int) ∈ Gw := gwt_8 74 rfl rfl
theorem w_1922 : Jvm.Cond.code ({ cls := "PeaTubeModel", name := "refuse", desc := "(I)I" } : Jvm.MethodName) prog_14_method_7_code (2 : Nat) (Option.some Jvm.ClassFile.FieldType.int) ∈ Gw := gwt_8 103 rfl rfl
theorem w_1917 : Jvm.Cond.code ({ cls := "PeaTubeModel", name := "many", desc := "(I)I" } : Jvm.MethodName) prog_14_method_77_code (2 : Nat) (Option.some Jvm.ClassFile.FieldType.int) ∈ Gw := gwt_8 98 rfl rfl
theorem w_1926 : Jvm.Cond.code ({ cls := "PeaTubeModel", name := "ring", desc := "(II)I" } : Jvm.MethodName) prog_14_method_78_code (3 : Nat) (Option.some Jvm.ClassFile.FieldType.int) ∈ Gw := gwt_8 107 rfl rfl
theorem w_1934 : Jvm.Cond.code ({ cls := "PeaTubeModel", name := "isPeaAt", desc := "(I)Z" } : Jvm.MethodName) prog_14_method_75_code (2 : Nat) (Option.some Jvm.ClassFile.FieldType.boolean) ∈ Gw := gwt_8 115 rfl rfl
theorem w_1938 : Jvm.Cond.code ({ cls := "PeaTubeModel", name := "fitOf", desc := "(I)I" } : Jvm.MethodName) prog_14_method_79_code (2 : Nat) (Option.some Jvm.ClassFile.FieldType.int) ∈ Gw := gwt_8 119 rfl rfl
theorem w_1930 : Jvm.Cond.code ({ cls := "PeaTubeModel", name := "pea", desc := "(II)I" } : Jvm.MethodName) prog_14_method_80_code (3 : Nat) (Option.some Jvm.ClassFile.FieldType.int) ∈ Gw := gwt_8 111 rfl rfl
theorem w_1946 : Jvm.Cond.code ({ cls := "PeaTubeModel", name := "isShooterAt", desc := "(I)Z" } : Jvm.MethodName) prog_14_method_76_code (2 : Nat) (Option.some Jvm.ClassFile.FieldType.boolean) ∈ Gw := gwt_8 127 rfl rfl
theorem w_1957 : Jvm.Cond.code ({ cls := "PeaTubeModel", name := "holeAt", desc := "(I)I" } : Jvm.MethodName) prog_14_method_122_code (1 : Nat) (Option.some Jvm.ClassFile.FieldType.int) ∈ Gw := gwt_8 138 rfl rfl
theorem w_1954 : Jvm.Cond.code ({ cls := "PeaTubeModel", name := "isHoleOf", desc := "(III)Z" } : Jvm.MethodName) prog_14_method_123_code (4 : Nat) (Option.some Jvm.ClassFile.FieldType.boolean) ∈ Gw := gwt_8 135 rfl rfl
theorem w_1950 : Jvm.Cond.code ({ cls := "PeaTubeModel", name := "holesOf", desc := "(II)I" } : Jvm.MethodName) prog_14_method_81_code (5 : Nat) (Option.some Jvm.ClassFile.FieldType.int) ∈ Gw := gwt_8 131 rfl rfl
theorem w_1942 : Jvm.Cond.code ({ cls := "PeaTubeModel", name := "shooter", desc := "(II)I" } : Jvm.MethodName) prog_14_method_82_code (3 : Nat) (Option.some Jvm.ClassFile.FieldType.int) ∈ Gw := gwt_8 123 rfl rfl
theorem w_1964 : Jvm.Cond.code ({ cls := "PeaTubeModel", name := "isPuffing", desc := "(II)Z" } : Jvm.MethodName) prog_14_method_86_code (2 : Nat) (Option.some Jvm.ClassFile.FieldType.boolean) ∈ Gw := gwt_8 145 rfl rfl
theorem w_1967 : Jvm.Cond.code ({ cls := "PeaTubeModel", name := "isSpit", desc := "(I)Z" } : Jvm.MethodName) prog_14_method_87_code (1 : Nat) (Option.some Jvm.ClassFile.FieldType.boolean) ∈ Gw := gwt_8 148 rfl rfl
theorem w_1976 : Jvm.Cond.code ({ cls := "PeaTubeModel", name := "paceOf", desc := "(III)I" } : Jvm.MethodName) prog_14_method_83_code (5 : Nat) (Option.some Jvm.ClassFile.FieldType.int) ∈ Gw := gwt_8 157 rfl rfl
theorem w_1972 : Jvm.Cond.code ({ cls := "PeaTubeModel", name := "fateOf", desc := "(III)I" } : Jvm.MethodName) prog_14_method_84_code (4 : Nat) (Option.some Jvm.ClassFile.FieldType.int) ∈ Gw := gwt_8 153 rfl rfl
theorem w_1961 : Jvm.Cond.code ({ cls := "PeaTubeModel", name := "pace", desc := "(III)I" } : Jvm.MethodName) prog_14_method_88_code (4 : Nat) (Option.some Jvm.ClassFile.FieldType.int) ∈ Gw := gwt_8 142 rfl rfl
theorem w_1985 : Jvm.Cond.code ({ cls := "PeaTubeModel", name := "flies", desc := "(III)Z" } : Jvm.MethodName) prog_14_method_85_code (5 : Nat) (Option.some Jvm.ClassFile.FieldType.boolean) ∈ Gw := gwt_8 166 rfl rfl
theorem w_1980 : Jvm.Cond.code ({ cls := "PeaTubeModel", name := "flight", desc := "(IIII)I" } : Jvm.MethodName) prog_14_method_89_code (5 : Nat) (Option.some Jvm.ClassFile.FieldType.int) ∈ Gw := gwt_8 161 rfl rfl
theorem w_1990 : Jvm.Cond.code ({ cls := "PeaTubeModel", name := "becomes", desc := "(III)I" } : Jvm.MethodName) prog_14_method_90_code (4 : Nat) (Option.some Jvm.ClassFile.FieldType.int) ∈ Gw := gwt_8 171 rfl rfl
theorem w_1997 : Jvm.Cond.code ({ cls := "PeaTubeModel", name := "isAim", desc := "(II)Z" } : Jvm.MethodName) prog_14_method_91_code (2 : Nat) (Option.some Jvm.ClassFile.FieldType.boolean) ∈ Gw := gwt_8 178 rfl rfl
theorem w_2003 : Jvm.Cond.code ({ cls := "PeaTubeModel", name := "strikeX", desc := "(IIII)I" } : Jvm.MethodName) prog_14_method_92_code (5 : Nat) (Option.some Jvm.ClassFile.FieldType.int) ∈ Gw := gwt_8 184 rfl rfl
theorem w_2007 : Jvm.Cond.code ({ cls := "PeaTubeModel", name := "strikeY", desc := "(III)I" } : Jvm.MethodName) prog_14_method_93_code (4 : Nat) (Option.some Jvm.ClassFile.FieldType.int) ∈ Gw := gwt_8 188 rfl rfl
theorem w_1994 : Jvm.Cond.code ({ cls := "PeaTubeModel", name := "strikes", desc := "(IIIIIII)I" } : Jvm.MethodName) prog_14_method_94_code (8 : Nat) (Option.some Jvm.ClassFile.FieldType.int) ∈ Gw := gwt_8 175 rfl rfl
theorem w_2014 : Jvm.Cond.code ({ cls := "PeaTubeModel", name := "isPlace", desc := "(II)Z" } : Jvm.MethodName) prog_14_method_97_code (2 : Nat) (Option.some Jvm.ClassFile.FieldType.boolean) ∈ Gw := gwt_8 195 rfl rfl
theorem w_2024 : Jvm.Cond.code ({ cls := "PeaTubeModel", name := "ringOf", desc := "(II)I" } : Jvm.MethodName) prog_14_method_95_code (4 : Nat) (Option.some Jvm.ClassFile.FieldType.int) ∈ Gw := gwt_8 205 rfl rfl
theorem w_2020 : Jvm.Cond.code ({ cls := "PeaTubeModel", name := "pointsOf", desc := "(II)I" } : Jvm.MethodName) prog_14_method_96_code (4 : Nat) (Option.some Jvm.ClassFile.FieldType.int) ∈ Gw := gwt_8 201 rfl rfl
theorem w_2011 : Jvm.Cond.code ({ cls := "PeaTubeModel", name := "points", desc := "(II)I" } : Jvm.MethodName) prog_14_method_98_code (3 : Nat) (Option.some Jvm.ClassFile.FieldType.int) ∈ Gw := gwt_8 192 rfl rfl
theorem w_2028 : Jvm.Cond.code ({ cls := "PeaTubeModel", name := "ringAt", desc := "(II)I" } : Jvm.MethodName) prog_14_method_99_code (4 : Nat) (Option.some Jvm.ClassFile.FieldType.int) ∈ Gw := gwt_8 209 rfl rfl
theorem w_2036 : Jvm.Cond.code ({ cls := "PeaTubeModel", name := "handOf", desc := "(II)I" } : Jvm.MethodName) prog_14_method_100_code (4 : Nat) (Option.some Jvm.ClassFile.FieldType.int) ∈ Gw := gwt_8 217 rfl rfl
theorem w_2032 : Jvm.Cond.code ({ cls := "PeaTubeModel", name := "hand", desc := "(II)I" } : Jvm.MethodName) prog_14_method_101_code (3 : Nat) (Option.some Jvm.ClassFile.FieldType.int) ∈ Gw := gwt_8 213 rfl rfl
theorem w_2045 : Jvm.Cond.code ({ cls := "PeaTubeModel", name := "isShot", desc := "(II)Z" } : Jvm.MethodName) prog_14_method_103_code (3 : Nat) (Option.some Jvm.ClassFile.FieldType.boolean) ∈ Gw := gwt_8 226 rfl rfl
theorem w_2049 : Jvm.Cond.code ({ cls := "PeaTubeModel", name := "counts", desc := "(IIIIIII)V" } : Jvm.MethodName) prog_14_method_102_code (14 : Nat) (Option.none : Option Jvm.ClassFile.FieldType) ∈ Gw := gwt_8 230 rfl rfl
theorem w_2053 : Jvm.Cond.code ({ cls := "PeaTubeModel", name := "fraction", desc := "(JJ)Z" } : Jvm.MethodName) prog_14_method_10_code (11 : Nat) (Option.some Jvm.ClassFile.FieldType.boolean) ∈ Gw := gwt_8 234 rfl rfl
theorem w_2041 : Jvm.Cond.code ({ cls := "PeaTubeModel", name := "odds", desc := "(IIIIIII)Z" } : Jvm.MethodName) prog_14_method_104_code (10 : Nat) (Option.some Jvm.ClassFile.FieldType.boolean) ∈ Gw := gwt_8 222 rfl rfl
theorem w_2058 : Jvm.Cond.code ({ cls := "PeaTubeModel", name := "mean", desc := "(IIIIII)Z" } : Jvm.MethodName) prog_14_method_105_code (7 : Nat) (Option.some Jvm.ClassFile.FieldType.boolean) ∈ Gw := gwt_8 239 rfl rfl
theorem w_2066 : Jvm.Cond.code ({ cls := "PeaTubeModel", name := "noBest", desc := "()V" } : Jvm.MethodName) prog_14_method_106_code (1 : Nat) (Option.none : Option Jvm.ClassFile.FieldType) ∈ Gw := gwt_9 7 rfl rfl
theorem w_2070 : Jvm.Cond.code ({ cls := "PeaTubeModel", name := "isBetter", desc := "()Z" } : Jvm.MethodName) prog_14_method_107_code (1 : Nat) (Option.some Jvm.ClassFile.FieldType.boolean) ∈ Gw := gwt_9 11 rfl rfl
theorem w_2062 : Jvm.Cond.code ({ cls := "PeaTubeModel", name := "bestAim", desc := "(IIIII)I" } : Jvm.MethodName) prog_14_method_108_code (9 : Nat) (Option.some Jvm.ClassFile.FieldType.int) ∈ Gw := gwt_9 3 rfl rfl
theorem w_2074 : Jvm.Cond.code ({ cls := "PeaTubeModel", name := "bestPuff", desc := "(IIIII)I" } : Jvm.MethodName) prog_14_method_109_code (8 : Nat) (Option.some Jvm.ClassFile.FieldType.int) ∈ Gw := gwt_9 15 rfl rfl
theorem w_2078 : Jvm.Cond.code ({ cls := "PeaTubeModel", name := "bestBeat", desc := "(IIIII)I" } : Jvm.MethodName) prog_14_method_110_code (8 : Nat) (Option.some Jvm.ClassFile.FieldType.int) ∈ Gw := gwt_9 19 rfl rfl
theorem w_2082 : Jvm.Cond.code ({ cls := "PeaTubeModel", name := "longest", desc := "(IIIIII)I" } : Jvm.MethodName) prog_14_method_111_code (10 : Nat) (Option.some Jvm.ClassFile.FieldType.int) ∈ Gw := gwt_9 23 rfl rfl
theorem w_2086 : Jvm.Cond.code ({ cls := "PeaTubeModel", name := "bestPea", desc := "(III)I" } : Jvm.MethodName) prog_14_method_112_code (6 : Nat) (Option.some Jvm.ClassFile.FieldType.int) ∈ Gw := gwt_9 27 rfl rfl
theorem w_2095 : Jvm.Cond.code ({ cls := "PeaTubeModel", name := "seriesOf", desc := "(IIIIIII)J" } : Jvm.MethodName) prog_14_method_113_code (12 : Nat) (Option.some Jvm.ClassFile.FieldType.long) ∈ Gw := gwt_9 36 rfl rfl
theorem w_2090 : Jvm.Cond.code ({ cls := "PeaTubeModel", name := "series", desc := "(IIIIIII)Z" } : Jvm.MethodName) prog_14_method_114_code (8 : Nat) (Option.some Jvm.ClassFile.FieldType.boolean) ∈ Gw := gwt_9 31 rfl rfl
theorem w_2099 : Jvm.Cond.code ({ cls := "PeaTubeModel", name := "wipeEvery", desc := "(IIIII)I" } : Jvm.MethodName) prog_14_method_115_code (12 : Nat) (Option.some Jvm.ClassFile.FieldType.int) ∈ Gw := gwt_9 40 rfl rfl
theorem w_2111 : Jvm.Cond.code ({ cls := "PeaTubeModel", name := "sumUp", desc := "(III[J)V" } : Jvm.MethodName) prog_14_method_116_code (8 : Nat) (Option.none : Option Jvm.ClassFile.FieldType) ∈ Gw := gwt_9 52 rfl rfl
theorem w_2115 : Jvm.Cond.code ({ cls := "PeaTubeModel", name := "waysOf", desc := "(I)J" } : Jvm.MethodName) prog_14_method_117_code (5 : Nat) (Option.some Jvm.ClassFile.FieldType.long) ∈ Gw := gwt_9 56 rfl rfl
theorem w_2105 : Jvm.Cond.code ({ cls := "PeaTubeModel", name := "turns", desc := "(IIIIII)Z" } : Jvm.MethodName) prog_14_method_118_code (11 : Nat) (Option.some Jvm.ClassFile.FieldType.boolean) ∈ Gw := gwt_9 46 rfl rfl
theorem w_2123 : Jvm.Cond.code ({ cls := "PeaTubeModel", name := "isTray", desc := "(I)Z" } : Jvm.MethodName) prog_14_method_19_code (2 : Nat) (Option.some Jvm.ClassFile.FieldType.boolean) ∈ Gw := gwt_9 64 rfl rfl
theorem w_2127 : Jvm.Cond.code ({ cls := "PeaTubeModel", name := "numberOf", desc := "(II)J" } : Jvm.MethodName) prog_14_method_18_code (3 : Nat) (Option.some Jvm.ClassFile.FieldType.long) ∈ Gw := gwt_9 68 rfl rfl
theorem w_2135 : Jvm.Cond.code ({ cls := "PeaTubeModel", name := "beats", desc := "(III)J" } : Jvm.MethodName) prog_14_method_119_code (8 : Nat) (Option.some Jvm.ClassFile.FieldType.long) ∈ Gw := gwt_9 76 rfl rfl
theorem w_2131 : Jvm.Cond.code ({ cls := "PeaTubeModel", name := "decides", desc := "(III)J" } : Jvm.MethodName) prog_14_method_120_code (4 : Nat) (Option.some Jvm.ClassFile.FieldType.long) ∈ Gw := gwt_9 72 rfl rfl
theorem w_2119 : Jvm.Cond.code ({ cls := "PeaTubeModel", name := "knock", desc := "(III)Z" } : Jvm.MethodName) prog_14_method_121_code (18 : Nat) (Option.some Jvm.ClassFile.FieldType.boolean) ∈ Gw := gwt_9 60 rfl rfl
theorem w_2139 : Jvm.Cond.code ({ cls := "PeaTubeModel", name := "hole", desc := "(II)I" } : Jvm.MethodName) prog_14_method_124_code (3 : Nat) (Option.some Jvm.ClassFile.FieldType.int) ∈ Gw := gwt_9 80 rfl rfl
theorem w_2147 : Jvm.Cond.code ({ cls := "PeaTubeModel", name := "sumHoles", desc := "(II)V" } : Jvm.MethodName) prog_14_method_125_code (6 : Nat) (Option.none : Option Jvm.ClassFile.FieldType) ∈ Gw := gwt_9 88 rfl rfl
theorem w_2151 : Jvm.Cond.code ({ cls := "PeaTubeModel", name := "spread", desc := "()J" } : Jvm.MethodName) prog_14_method_126_code (1 : Nat) (Option.some Jvm.ClassFile.FieldType.long) ∈ Gw := gwt_9 92 rfl rfl
theorem w_2143 : Jvm.Cond.code ({ cls := "PeaTubeModel", name := "lean", desc := "(III)Z" } : Jvm.MethodName) prog_14_method_127_code (4 : Nat) (Option.some Jvm.ClassFile.FieldType.boolean) ∈ Gw := gwt_9 84 rfl rfl
theorem w_2155 : Jvm.Cond.code ({ cls := "PeaTubeModel", name := "whose", desc := "(II)I" } : Jvm.MethodName) prog_14_method_128_code (15 : Nat) (Option.some Jvm.ClassFile.FieldType.int) ∈ Gw := gwt_9 96 rfl rfl
theorem w_2160 : Jvm.Cond.code ({ cls := "PeaTubeModel", name := "worst", desc := "(I)I" } : Jvm.MethodName) prog_14_method_129_code (8 : Nat) (Option.some Jvm.ClassFile.FieldType.int) ∈ Gw := gwt_9 101 rfl rfl
theorem w_2164 : Jvm.Cond.code ({ cls := "PeaTubeModel", name := "sieve", desc := "(I)I" } : Jvm.MethodName) prog_14_method_130_code (4 : Nat) (Option.some Jvm.ClassFile.FieldType.int) ∈ Gw := gwt_9 105 rfl rfl
theorem w_2169 : Jvm.Cond.code ({ cls := "PeaTubeModel", name := "same", desc := "()I" } : Jvm.MethodName) prog_14_method_131_code (4 : Nat) (Option.some Jvm.ClassFile.FieldType.int) ∈ Gw := gwt_9 110 rfl rfl
theorem w_2179 : Jvm.Cond.code ({ cls := "PeaTubeModel", name := "shoots", desc := "(IIIIIII)I" } : Jvm.MethodName) prog_14_method_132_code (12 : Nat) (Option.some Jvm.ClassFile.FieldType.int) ∈ Gw := gwt_9 120 rfl rfl
theorem w_2173 : Jvm.Cond.code ({ cls := "PeaTubeModel", name := "shoot", desc := "(IIIIIIII)I" } : Jvm.MethodName) prog_14_method_133_code (9 : Nat) (Option.some Jvm.ClassFile.FieldType.int) ∈ Gw := gwt_9 114 rfl rfl
theorem w_2183 : Jvm.Cond.code ({ cls := "PeaTubeModel", name := "wipe", desc := "()I" } : Jvm.MethodName) prog_14_method_134_code (2 : Nat) (Option.some Jvm.ClassFile.FieldType.int) ∈ Gw := gwt_9 124 rfl rfl
theorem w_2216 : Jvm.Cond.code ({ cls := "PeaTubeModel", name := "draw", desc := "(I)I" } : Jvm.MethodName) prog_14_method_135_code (2 : Nat) (Option.some Jvm.ClassFile.FieldType.int) ∈ Gw := gwt_9 157 rfl rfl
theorem w_2212 : Jvm.Cond.code ({ cls := "PeaTubeModel", name := "drawHand", desc := "(I)I" } : Jvm.MethodName) prog_14_method_136_code (2 : Nat) (Option.some Jvm.ClassFile.FieldType.int) ∈ Gw := gwt_9 153 rfl rfl
theorem w_2208 : Jvm.Cond.code ({ cls := "PeaTubeModel", name := "shootsBy", desc := "(I)Z" } : Jvm.MethodName) prog_14_method_137_code (6 : Nat) (Option.some Jvm.ClassFile.FieldType.boolean) ∈ Gw := gwt_9 149 rfl rfl
theorem w_2204 : Jvm.Cond.code ({ cls := "PeaTubeModel", name := "does", desc := "(I)Z" } : Jvm.MethodName) prog_14_method_138_code (3 : Nat) (Option.some Jvm.ClassFile.FieldType.boolean) ∈ Gw := gwt_9 145 rfl rfl
theorem w_2221 : Jvm.Cond.code ({ cls := "PeaTubeModel", name := "isSo", desc := "(I)Z" } : Jvm.MethodName) prog_14_method_139_code (4 : Nat) (Option.some Jvm.ClassFile.FieldType.boolean) ∈ Gw := gwt_9 162 rfl rfl
theorem w_2200 : Jvm.Cond.code ({ cls := "PeaTubeModel", name := "doOne", desc := "(I)V" } : Jvm.MethodName) prog_14_method_140_code (5 : Nat) (Option.none : Option Jvm.ClassFile.FieldType) ∈ Gw := gwt_9 141 rfl rfl
theorem w_2196 : Jvm.Cond.code ({ cls := "PeaTubeModel", name := "doAll", desc := "(II)V" } : Jvm.MethodName) prog_14_method_141_code (4 : Nat) (Option.none : Option Jvm.ClassFile.FieldType) ∈ Gw := gwt_9 137 rfl rfl
theorem w_2192 : Jvm.Cond.code ({ cls := "PeaTubeModel", name := "plays", desc := "(I)V" } : Jvm.MethodName) prog_14_method_142_code (2 : Nat) (Option.none : Option Jvm.ClassFile.FieldType) ∈ Gw := gwt_9 133 rfl rfl
theorem w_2187 : Jvm.Cond.code ({ cls := "PeaTubeModel", name := "play", desc := "(I)I" } : Jvm.MethodName) prog_14_method_143_code (2 : Nat) (Option.some Jvm.ClassFile.FieldType.int) ∈ Gw := gwt_9 128 rfl rfl
theorem w_2225 : Jvm.Cond.code ({ cls := "PeaTubeModel", name := "played", desc := "(I)I" } : Jvm.MethodName) prog_14_method_144_code (2 : Nat) (Option.some Jvm.ClassFile.FieldType.int) ∈ Gw := gwt_9 166 rfl rfl
theorem w_2233 : Jvm.Cond.code ({ cls := "PeaTubeModel", name := "isAhead", desc := "(I)Z" } : Jvm.MethodName) prog_14_method_145_code (3 : Nat) (Option.some Jvm.ClassFile.FieldType.boolean) ∈ Gw := gwt_9 174 rfl rfl
theorem w_2229 : Jvm.Cond.code ({ cls := "PeaTubeModel", name := "wins", desc := "(III)Z" } : Jvm.MethodName) prog_14_method_146_code (7 : Nat) (Option.some Jvm.ClassFile.FieldType.boolean) ∈ Gw := gwt_9 170 rfl rfl
theorem w_2237 : Jvm.Cond.code ({ cls := "PeaTubeModel", name := "mark", desc := "()I" } : Jvm.MethodName) prog_14_method_148_code (1 : Nat) (Option.some Jvm.ClassFile.FieldType.int) ∈ Gw := gwt_9 178 rfl rfl
theorem w_2241 : Jvm.Cond.code ({ cls := "PeaTubeModel", name := "back", desc := "()I" } : Jvm.MethodName) prog_14_method_149_code (1 : Nat) (Option.some Jvm.ClassFile.FieldType.int) ∈ Gw := gwt_9 182 rfl rfl
