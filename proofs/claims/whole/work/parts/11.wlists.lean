def ma_W : List Cond := lw_tbl.filter goodWord
def ma_NW : List Cond := [(Jvm.Cond.methodLinkNest "DerivativeTape" (11 : Nat) ({ cls := "DerivativeTape$Program", name := "<init>", desc := "()V" } : Jvm.MethodName) "DerivativeTape"), (Jvm.Cond.methodLinkNest "DerivativeTape" (18 : Nat) ({ cls := "DerivativeTape$Sweep", name := "<init>", desc := "()V" } : Jvm.MethodName) "DerivativeTape"), (Jvm.Cond.methodLinkNest "DerivativeTape" (25 : Nat) ({ cls := "DerivativeTape$BackSweep", name := "<init>", desc := "()V" } : Jvm.MethodName) "DerivativeTape"), (Jvm.Cond.methodLinkNest "DerivativeTape" (32 : Nat) ({ cls := "DerivativeTape$Shrinking", name := "<init>", desc := "()V" } : Jvm.MethodName) "DerivativeTape"), (Jvm.Cond.methodLinkNest "DerivativeTape" (39 : Nat) ({ cls := "DerivativeTape$Snapshots", name := "<init>", desc := "()V" } : Jvm.MethodName) "DerivativeTape")]
theorem ma_NW_in : ∀ w ∈ ma_NW, w ∈ lw_tbl := by
  have h : ∀ q ∈ [(61, (Jvm.Cond.methodLinkNest "DerivativeTape" (11 : Nat) ({ cls := "DerivativeTape$Program", name := "<init>", desc := "()V" } : Jvm.MethodName) "DerivativeTape")), (110, (Jvm.Cond.methodLinkNest "DerivativeTape" (18 : Nat) ({ cls := "DerivativeTape$Sweep", name := "<init>", desc := "()V" } : Jvm.MethodName) "DerivativeTape")), (130, (Jvm.Cond.methodLinkNest "DerivativeTape" (25 : Nat) ({ cls := "DerivativeTape$BackSweep", name := "<init>", desc := "()V" } : Jvm.MethodName) "DerivativeTape")), (141, (Jvm.Cond.methodLinkNest "DerivativeTape" (32 : Nat) ({ cls := "DerivativeTape$Shrinking", name := "<init>", desc := "()V" } : Jvm.MethodName) "DerivativeTape")), (161, (Jvm.Cond.methodLinkNest "DerivativeTape" (39 : Nat) ({ cls := "DerivativeTape$Snapshots", name := "<init>", desc := "()V" } : Jvm.MethodName) "DerivativeTape"))], lw_tbl[q.1]? = some q.2 := by decide +kernel
  intro w hw
  have e : ma_NW = ([(61, (Jvm.Cond.methodLinkNest "DerivativeTape" (11 : Nat) ({ cls := "DerivativeTape$Program", name := "<init>", desc := "()V" } : Jvm.MethodName) "DerivativeTape")), (110, (Jvm.Cond.methodLinkNest "DerivativeTape" (18 : Nat) ({ cls := "DerivativeTape$Sweep", name := "<init>", desc := "()V" } : Jvm.MethodName) "DerivativeTape")), (130, (Jvm.Cond.methodLinkNest "DerivativeTape" (25 : Nat) ({ cls := "DerivativeTape$BackSweep", name := "<init>", desc := "()V" } : Jvm.MethodName) "DerivativeTape")), (141, (Jvm.Cond.methodLinkNest "DerivativeTape" (32 : Nat) ({ cls := "DerivativeTape$Shrinking", name := "<init>", desc := "()V" } : Jvm.MethodName) "DerivativeTape")), (161, (Jvm.Cond.methodLinkNest "DerivativeTape" (39 : Nat) ({ cls := "DerivativeTape$Snapshots", name := "<init>", desc := "()V" } : Jvm.MethodName) "DerivativeTape"))] : List (Nat × Cond)).map (fun q => q.2) := rfl
  rw [e] at hw
  obtain ⟨q, hq, rfl⟩ := List.mem_map.mp hw
  exact List.mem_of_getElem? (h q hq)
theorem ma_NW_t : ∀ w ∈ ma_NW, w.onTables = true := by
  intro w hw
  simp only [ma_NW, List.mem_cons, List.not_mem_nil, or_false] at hw
  rcases hw with rfl | rfl | rfl | rfl | rfl <;> rfl
theorem ma_NW_w {s U : State} : ∀ w ∈ ma_NW, s.WarmedH U.vm → va_Nw w s → va_Nw w U := by
  intro w hw hW h
  simp only [ma_NW, List.mem_cons, List.not_mem_nil, or_false] at hw
  rcases hw with rfl | rfl | rfl | rfl | rfl <;> exact va_Nw.warmM hW h
theorem ma_W_i {w : Cond} {i : Nat} (h : lw_tbl[i]? = some w) (hg : goodWord w = true) : w ∈ ma_W := List.mem_filter.mpr ⟨List.mem_of_getElem? h, hg⟩
def ma_wo0 : List Cond := [(Jvm.Cond.methodLink "DerivativeTape" (3 : Nat) ({ cls := "java/lang/Object", name := "<init>", desc := "()V" } : Jvm.MethodName)), (Jvm.Cond.classLink "DerivativeTape" (9 : Nat) "DerivativeTape$Program"), (Jvm.Cond.fieldLink "DerivativeTape" (12 : Nat) "DerivativeTape" "program" "LDerivativeTape$Program;"), (Jvm.Cond.classLink "DerivativeTape" (16 : Nat) "DerivativeTape$Sweep"), (Jvm.Cond.fieldLink "DerivativeTape" (19 : Nat) "DerivativeTape" "sweep" "LDerivativeTape$Sweep;"), (Jvm.Cond.classLink "DerivativeTape" (23 : Nat) "DerivativeTape$BackSweep"), (Jvm.Cond.fieldLink "DerivativeTape" (26 : Nat) "DerivativeTape" "backSweep" "LDerivativeTape$BackSweep;"), (Jvm.Cond.classLink "DerivativeTape" (30 : Nat) "DerivativeTape$Shrinking"), (Jvm.Cond.fieldLink "DerivativeTape" (33 : Nat) "DerivativeTape" "shrinking" "LDerivativeTape$Shrinking;"), (Jvm.Cond.classLink "DerivativeTape" (37 : Nat) "DerivativeTape$Snapshots"), (Jvm.Cond.fieldLink "DerivativeTape" (40 : Nat) "DerivativeTape" "snapshots" "LDerivativeTape$Snapshots;"), (Jvm.Cond.fieldLink "DerivativeTape" (44 : Nat) "DerivativeTape" "pointNumbers" "[I"), (Jvm.Cond.fieldLink "DerivativeTape" (48 : Nat) "DerivativeTape" "directionNumbers" "[I"), (Jvm.Cond.fieldLink "DerivativeTape" (51 : Nat) "DerivativeTape" "seedNumbers" "[I"), (Jvm.Cond.fieldLink "DerivativeTape" (54 : Nat) "DerivativeTape" "colourNumbers" "[I"), (Jvm.Cond.fieldLink "DerivativeTape" (57 : Nat) "DerivativeTape" "outputNodes" "[I"), (Jvm.Cond.fieldLink "DerivativeTape" (60 : Nat) "DerivativeTape" "weightNumbers" "[I"), (Jvm.Cond.classLink "DerivativeTape" (63 : Nat) "[[I"), (Jvm.Cond.fieldLink "DerivativeTape" (65 : Nat) "DerivativeTape" "stations" "[[I"), (Jvm.Cond.fieldLink "DerivativeTape" (68 : Nat) "DerivativeTape" "arrivedNumbers" "[I"), (Jvm.Cond.fieldLink "DerivativeTape" (71 : Nat) "DerivativeTape" "adjointNumbers" "[I"), (Jvm.Cond.methodLink "DerivativeTape" (74 : Nat) ({ cls := "DerivativeTape$Program", name := "isFull", desc := "()Z" } : Jvm.MethodName)), (Jvm.Cond.fieldLink "DerivativeTape" (78 : Nat) "DerivativeTape$Program" "inputs" "I"), (Jvm.Cond.methodLink "DerivativeTape" (82 : Nat) ({ cls := "DerivativeTape$Program", name := "addInput", desc := "()I" } : Jvm.MethodName)), (Jvm.Cond.methodLink "DerivativeTape" (86 : Nat) ({ cls := "DerivativeTape$Numbers", name := "standFor", desc := "(J)I" } : Jvm.MethodName)), (Jvm.Cond.methodLink "DerivativeTape" (92 : Nat) ({ cls := "DerivativeTape$Program", name := "addConstant", desc := "(I)I" } : Jvm.MethodName)), (Jvm.Cond.methodLink "DerivativeTape" (96 : Nat) ({ cls := "DerivativeTape$Program", name := "hasNode", desc := "(I)Z" } : Jvm.MethodName)), (Jvm.Cond.methodLink "DerivativeTape" (100 : Nat) ({ cls := "DerivativeTape$Program", name := "addOperation", desc := "(IIII)I" } : Jvm.MethodName)), (Jvm.Cond.fieldLink "DerivativeTape" (104 : Nat) "DerivativeTape" "outputCount" "I"), (Jvm.Cond.methodLink "DerivativeTape" (107 : Nat) ({ cls := "DerivativeTape$Program", name := "hasInput", desc := "(I)Z" } : Jvm.MethodName)), (Jvm.Cond.methodLink "DerivativeTape" (110 : Nat) ({ cls := "DerivativeTape", name := "hasOutput", desc := "(I)Z" } : Jvm.MethodName)), (Jvm.Cond.methodLink "DerivativeTape" (113 : Nat) ({ cls := "DerivativeTape$Sweep", name := "run", desc := "(LDerivativeTape$Program;[I[II)V" } : Jvm.MethodName)), (Jvm.Cond.fieldLink "DerivativeTape" (117 : Nat) "DerivativeTape$Sweep" "states" "[I"), (Jvm.Cond.fieldLink "DerivativeTape" (120 : Nat) "DerivativeTape$Sweep" "rows" "[[I"), (Jvm.Cond.methodLink "DerivativeTape" (123 : Nat) ({ cls := "DerivativeTape", name := "coefficient", desc := "(I[II)I" } : Jvm.MethodName)), (Jvm.Cond.methodLink "DerivativeTape" (127 : Nat) ({ cls := "DerivativeTape", name := "worstState", desc := "(Z)I" } : Jvm.MethodName)), (Jvm.Cond.methodLink "DerivativeTape" (131 : Nat) ({ cls := "DerivativeTape", name := "handBack", desc := "([I)V" } : Jvm.MethodName)), (Jvm.Cond.fieldLink "DerivativeTape" (135 : Nat) "DerivativeTape$BackSweep" "shares" "[I"), (Jvm.Cond.fieldLink "DerivativeTape" (138 : Nat) "DerivativeTape$Program" "inputNodes" "[I"), (Jvm.Cond.methodLink "DerivativeTape" (141 : Nat) ({ cls := "DerivativeTape", name := "clearSeed", desc := "()V" } : Jvm.MethodName)), (Jvm.Cond.methodLink "DerivativeTape" (144 : Nat) ({ cls := "DerivativeTape", name := "coefficientByInput", desc := "(III)I" } : Jvm.MethodName)), (Jvm.Cond.methodLink "DerivativeTape" (148 : Nat) ({ cls := "DerivativeTape$Program", name := "reaches", desc := "(II)Z" } : Jvm.MethodName)), (Jvm.Cond.methodLink "DerivativeTape" (152 : Nat) ({ cls := "DerivativeTape", name := "paintInputs", desc := "()V" } : Jvm.MethodName)), (Jvm.Cond.methodLink "DerivativeTape" (155 : Nat) ({ cls := "java/lang/Math", name := "max", desc := "(II)I" } : Jvm.MethodName)), (Jvm.Cond.methodLink "DerivativeTape" (161 : Nat) ({ cls := "DerivativeTape$Shrinking", name := "count", desc := "(LDerivativeTape$Program;LDerivativeTape$Sweep;[II)I" } : Jvm.MethodName)), (Jvm.Cond.methodLink "DerivativeTape" (165 : Nat) ({ cls := "DerivativeTape", name := "goAhead", desc := "(I)I" } : Jvm.MethodName)), (Jvm.Cond.methodLink "DerivativeTape" (168 : Nat) ({ cls := "DerivativeTape", name := "goBack", desc := "(I)V" } : Jvm.MethodName)), (Jvm.Cond.methodLink "DerivativeTape" (172 : Nat) ({ cls := "DerivativeTape$Snapshots", name := "stepsAgain", desc := "(II)I" } : Jvm.MethodName)), (Jvm.Cond.fieldLink "DerivativeTape" (175 : Nat) "DerivativeTape" "marchedLength" "I"), (Jvm.Cond.methodLink "DerivativeTape" (178 : Nat) ({ cls := "java/util/Arrays", name := "fill", desc := "([II)V" } : Jvm.MethodName)), (Jvm.Cond.methodLink "DerivativeTape" (184 : Nat) ({ cls := "DerivativeTape$Sweep", name := "worse", desc := "(II)I" } : Jvm.MethodName)), (Jvm.Cond.methodLink "DerivativeTape" (187 : Nat) ({ cls := "DerivativeTape$BackSweep", name := "clear", desc := "()V" } : Jvm.MethodName)), (Jvm.Cond.methodLink "DerivativeTape" (190 : Nat) ({ cls := "DerivativeTape$BackSweep", name := "give", desc := "(II)V" } : Jvm.MethodName)), (Jvm.Cond.methodLink "DerivativeTape" (194 : Nat) ({ cls := "DerivativeTape$BackSweep", name := "run", desc := "(LDerivativeTape$Program;LDerivativeTape$Sweep;)V" } : Jvm.MethodName)), (Jvm.Cond.methodLink "DerivativeTape" (197 : Nat) ({ cls := "DerivativeTape", name := "inConflict", desc := "(II)Z" } : Jvm.MethodName)), (Jvm.Cond.methodLink "DerivativeTape" (200 : Nat) ({ cls := "DerivativeTape", name := "leastFree", desc := "(I)I" } : Jvm.MethodName)), (Jvm.Cond.methodLink "DerivativeTape" (203 : Nat) ({ cls := "java/lang/System", name := "arraycopy", desc := "(Ljava/lang/Object;ILjava/lang/Object;II)V" } : Jvm.MethodName))]
theorem ma_wo0_in : ∀ w ∈ ma_wo0, w ∈ ma_W := by
  have h : ∀ q ∈ [(56, (Jvm.Cond.methodLink "DerivativeTape" (3 : Nat) ({ cls := "java/lang/Object", name := "<init>", desc := "()V" } : Jvm.MethodName))), (59, (Jvm.Cond.classLink "DerivativeTape" (9 : Nat) "DerivativeTape$Program")), (174, (Jvm.Cond.fieldLink "DerivativeTape" (12 : Nat) "DerivativeTape" "program" "LDerivativeTape$Program;")), (108, (Jvm.Cond.classLink "DerivativeTape" (16 : Nat) "DerivativeTape$Sweep")), (175, (Jvm.Cond.fieldLink "DerivativeTape" (19 : Nat) "DerivativeTape" "sweep" "LDerivativeTape$Sweep;")), (128, (Jvm.Cond.classLink "DerivativeTape" (23 : Nat) "DerivativeTape$BackSweep")), (176, (Jvm.Cond.fieldLink "DerivativeTape" (26 : Nat) "DerivativeTape" "backSweep" "LDerivativeTape$BackSweep;")), (139, (Jvm.Cond.classLink "DerivativeTape" (30 : Nat) "DerivativeTape$Shrinking")), (177, (Jvm.Cond.fieldLink "DerivativeTape" (33 : Nat) "DerivativeTape" "shrinking" "LDerivativeTape$Shrinking;")), (159, (Jvm.Cond.classLink "DerivativeTape" (37 : Nat) "DerivativeTape$Snapshots")), (178, (Jvm.Cond.fieldLink "DerivativeTape" (40 : Nat) "DerivativeTape" "snapshots" "LDerivativeTape$Snapshots;")), (179, (Jvm.Cond.fieldLink "DerivativeTape" (44 : Nat) "DerivativeTape" "pointNumbers" "[I")), (180, (Jvm.Cond.fieldLink "DerivativeTape" (48 : Nat) "DerivativeTape" "directionNumbers" "[I")), (181, (Jvm.Cond.fieldLink "DerivativeTape" (51 : Nat) "DerivativeTape" "seedNumbers" "[I")), (182, (Jvm.Cond.fieldLink "DerivativeTape" (54 : Nat) "DerivativeTape" "colourNumbers" "[I")), (183, (Jvm.Cond.fieldLink "DerivativeTape" (57 : Nat) "DerivativeTape" "outputNodes" "[I")), (184, (Jvm.Cond.fieldLink "DerivativeTape" (60 : Nat) "DerivativeTape" "weightNumbers" "[I")), (173, (Jvm.Cond.classLink "DerivativeTape" (63 : Nat) "[[I")), (186, (Jvm.Cond.fieldLink "DerivativeTape" (65 : Nat) "DerivativeTape" "stations" "[[I")), (187, (Jvm.Cond.fieldLink "DerivativeTape" (68 : Nat) "DerivativeTape" "arrivedNumbers" "[I")), (188, (Jvm.Cond.fieldLink "DerivativeTape" (71 : Nat) "DerivativeTape" "adjointNumbers" "[I")), (227, (Jvm.Cond.methodLink "DerivativeTape" (74 : Nat) ({ cls := "DerivativeTape$Program", name := "isFull", desc := "()Z" } : Jvm.MethodName))), (69, (Jvm.Cond.fieldLink "DerivativeTape" (78 : Nat) "DerivativeTape$Program" "inputs" "I")), (231, (Jvm.Cond.methodLink "DerivativeTape" (82 : Nat) ({ cls := "DerivativeTape$Program", name := "addInput", desc := "()I" } : Jvm.MethodName))), (243, (Jvm.Cond.methodLink "DerivativeTape" (86 : Nat) ({ cls := "DerivativeTape$Numbers", name := "standFor", desc := "(J)I" } : Jvm.MethodName))), (248, (Jvm.Cond.methodLink "DerivativeTape" (92 : Nat) ({ cls := "DerivativeTape$Program", name := "addConstant", desc := "(I)I" } : Jvm.MethodName))), (256, (Jvm.Cond.methodLink "DerivativeTape" (96 : Nat) ({ cls := "DerivativeTape$Program", name := "hasNode", desc := "(I)Z" } : Jvm.MethodName))), (260, (Jvm.Cond.methodLink "DerivativeTape" (100 : Nat) ({ cls := "DerivativeTape$Program", name := "addOperation", desc := "(IIII)I" } : Jvm.MethodName))), (185, (Jvm.Cond.fieldLink "DerivativeTape" (104 : Nat) "DerivativeTape" "outputCount" "I")), (272, (Jvm.Cond.methodLink "DerivativeTape" (107 : Nat) ({ cls := "DerivativeTape$Program", name := "hasInput", desc := "(I)Z" } : Jvm.MethodName))), (284, (Jvm.Cond.methodLink "DerivativeTape" (110 : Nat) ({ cls := "DerivativeTape", name := "hasOutput", desc := "(I)Z" } : Jvm.MethodName))), (292, (Jvm.Cond.methodLink "DerivativeTape" (113 : Nat) ({ cls := "DerivativeTape$Sweep", name := "run", desc := "(LDerivativeTape$Program;[I[II)V" } : Jvm.MethodName))), (122, (Jvm.Cond.fieldLink "DerivativeTape" (117 : Nat) "DerivativeTape$Sweep" "states" "[I")), (119, (Jvm.Cond.fieldLink "DerivativeTape" (120 : Nat) "DerivativeTape$Sweep" "rows" "[[I")), (350, (Jvm.Cond.methodLink "DerivativeTape" (123 : Nat) ({ cls := "DerivativeTape", name := "coefficient", desc := "(I[II)I" } : Jvm.MethodName))), (358, (Jvm.Cond.methodLink "DerivativeTape" (127 : Nat) ({ cls := "DerivativeTape", name := "worstState", desc := "(Z)I" } : Jvm.MethodName))), (363, (Jvm.Cond.methodLink "DerivativeTape" (131 : Nat) ({ cls := "DerivativeTape", name := "handBack", desc := "([I)V" } : Jvm.MethodName))), (135, (Jvm.Cond.fieldLink "DerivativeTape" (135 : Nat) "DerivativeTape$BackSweep" "shares" "[I")), (89, (Jvm.Cond.fieldLink "DerivativeTape" (138 : Nat) "DerivativeTape$Program" "inputNodes" "[I")), (402, (Jvm.Cond.methodLink "DerivativeTape" (141 : Nat) ({ cls := "DerivativeTape", name := "clearSeed", desc := "()V" } : Jvm.MethodName))), (407, (Jvm.Cond.methodLink "DerivativeTape" (144 : Nat) ({ cls := "DerivativeTape", name := "coefficientByInput", desc := "(III)I" } : Jvm.MethodName))), (415, (Jvm.Cond.methodLink "DerivativeTape" (148 : Nat) ({ cls := "DerivativeTape$Program", name := "reaches", desc := "(II)Z" } : Jvm.MethodName))), (423, (Jvm.Cond.methodLink "DerivativeTape" (152 : Nat) ({ cls := "DerivativeTape", name := "paintInputs", desc := "()V" } : Jvm.MethodName))), (438, (Jvm.Cond.methodLink "DerivativeTape" (155 : Nat) ({ cls := "java/lang/Math", name := "max", desc := "(II)I" } : Jvm.MethodName))), (449, (Jvm.Cond.methodLink "DerivativeTape" (161 : Nat) ({ cls := "DerivativeTape$Shrinking", name := "count", desc := "(LDerivativeTape$Program;LDerivativeTape$Sweep;[II)I" } : Jvm.MethodName))), (474, (Jvm.Cond.methodLink "DerivativeTape" (165 : Nat) ({ cls := "DerivativeTape", name := "goAhead", desc := "(I)I" } : Jvm.MethodName))), (479, (Jvm.Cond.methodLink "DerivativeTape" (168 : Nat) ({ cls := "DerivativeTape", name := "goBack", desc := "(I)V" } : Jvm.MethodName))), (483, (Jvm.Cond.methodLink "DerivativeTape" (172 : Nat) ({ cls := "DerivativeTape$Snapshots", name := "stepsAgain", desc := "(II)I" } : Jvm.MethodName))), (189, (Jvm.Cond.fieldLink "DerivativeTape" (175 : Nat) "DerivativeTape" "marchedLength" "I")), (406, (Jvm.Cond.methodLink "DerivativeTape" (178 : Nat) ({ cls := "java/util/Arrays", name := "fill", desc := "([II)V" } : Jvm.MethodName))), (362, (Jvm.Cond.methodLink "DerivativeTape" (184 : Nat) ({ cls := "DerivativeTape$Sweep", name := "worse", desc := "(II)I" } : Jvm.MethodName))), (367, (Jvm.Cond.methodLink "DerivativeTape" (187 : Nat) ({ cls := "DerivativeTape$BackSweep", name := "clear", desc := "()V" } : Jvm.MethodName))), (372, (Jvm.Cond.methodLink "DerivativeTape" (190 : Nat) ({ cls := "DerivativeTape$BackSweep", name := "give", desc := "(II)V" } : Jvm.MethodName))), (377, (Jvm.Cond.methodLink "DerivativeTape" (194 : Nat) ({ cls := "DerivativeTape$BackSweep", name := "run", desc := "(LDerivativeTape$Program;LDerivativeTape$Sweep;)V" } : Jvm.MethodName))), (427, (Jvm.Cond.methodLink "DerivativeTape" (197 : Nat) ({ cls := "DerivativeTape", name := "inConflict", desc := "(II)Z" } : Jvm.MethodName))), (431, (Jvm.Cond.methodLink "DerivativeTape" (200 : Nat) ({ cls := "DerivativeTape", name := "leastFree", desc := "(I)I" } : Jvm.MethodName))), (478, (Jvm.Cond.methodLink "DerivativeTape" (203 : Nat) ({ cls := "java/lang/System", name := "arraycopy", desc := "(Ljava/lang/Object;ILjava/lang/Object;II)V" } : Jvm.MethodName)))], lw_tbl[q.1]? = some q.2 ∧ goodWord q.2 = true := by decide +kernel
  intro w hw
  have e : ma_wo0 = ([(56, (Jvm.Cond.methodLink "DerivativeTape" (3 : Nat) ({ cls := "java/lang/Object", name := "<init>", desc := "()V" } : Jvm.MethodName))), (59, (Jvm.Cond.classLink "DerivativeTape" (9 : Nat) "DerivativeTape$Program")), (174, (Jvm.Cond.fieldLink "DerivativeTape" (12 : Nat) "DerivativeTape" "program" "LDerivativeTape$Program;")), (108, (Jvm.Cond.classLink "DerivativeTape" (16 : Nat) "DerivativeTape$Sweep")), (175, (Jvm.Cond.fieldLink "DerivativeTape" (19 : Nat) "DerivativeTape" "sweep" "LDerivativeTape$Sweep;")), (128, (Jvm.Cond.classLink "DerivativeTape" (23 : Nat) "DerivativeTape$BackSweep")), (176, (Jvm.Cond.fieldLink "DerivativeTape" (26 : Nat) "DerivativeTape" "backSweep" "LDerivativeTape$BackSweep;")), (139, (Jvm.Cond.classLink "DerivativeTape" (30 : Nat) "DerivativeTape$Shrinking")), (177, (Jvm.Cond.fieldLink "DerivativeTape" (33 : Nat) "DerivativeTape" "shrinking" "LDerivativeTape$Shrinking;")), (159, (Jvm.Cond.classLink "DerivativeTape" (37 : Nat) "DerivativeTape$Snapshots")), (178, (Jvm.Cond.fieldLink "DerivativeTape" (40 : Nat) "DerivativeTape" "snapshots" "LDerivativeTape$Snapshots;")), (179, (Jvm.Cond.fieldLink "DerivativeTape" (44 : Nat) "DerivativeTape" "pointNumbers" "[I")), (180, (Jvm.Cond.fieldLink "DerivativeTape" (48 : Nat) "DerivativeTape" "directionNumbers" "[I")), (181, (Jvm.Cond.fieldLink "DerivativeTape" (51 : Nat) "DerivativeTape" "seedNumbers" "[I")), (182, (Jvm.Cond.fieldLink "DerivativeTape" (54 : Nat) "DerivativeTape" "colourNumbers" "[I")), (183, (Jvm.Cond.fieldLink "DerivativeTape" (57 : Nat) "DerivativeTape" "outputNodes" "[I")), (184, (Jvm.Cond.fieldLink "DerivativeTape" (60 : Nat) "DerivativeTape" "weightNumbers" "[I")), (173, (Jvm.Cond.classLink "DerivativeTape" (63 : Nat) "[[I")), (186, (Jvm.Cond.fieldLink "DerivativeTape" (65 : Nat) "DerivativeTape" "stations" "[[I")), (187, (Jvm.Cond.fieldLink "DerivativeTape" (68 : Nat) "DerivativeTape" "arrivedNumbers" "[I")), (188, (Jvm.Cond.fieldLink "DerivativeTape" (71 : Nat) "DerivativeTape" "adjointNumbers" "[I")), (227, (Jvm.Cond.methodLink "DerivativeTape" (74 : Nat) ({ cls := "DerivativeTape$Program", name := "isFull", desc := "()Z" } : Jvm.MethodName))), (69, (Jvm.Cond.fieldLink "DerivativeTape" (78 : Nat) "DerivativeTape$Program" "inputs" "I")), (231, (Jvm.Cond.methodLink "DerivativeTape" (82 : Nat) ({ cls := "DerivativeTape$Program", name := "addInput", desc := "()I" } : Jvm.MethodName))), (243, (Jvm.Cond.methodLink "DerivativeTape" (86 : Nat) ({ cls := "DerivativeTape$Numbers", name := "standFor", desc := "(J)I" } : Jvm.MethodName))), (248, (Jvm.Cond.methodLink "DerivativeTape" (92 : Nat) ({ cls := "DerivativeTape$Program", name := "addConstant", desc := "(I)I" } : Jvm.MethodName))), (256, (Jvm.Cond.methodLink "DerivativeTape" (96 : Nat) ({ cls := "DerivativeTape$Program", name := "hasNode", desc := "(I)Z" } : Jvm.MethodName))), (260, (Jvm.Cond.methodLink "DerivativeTape" (100 : Nat) ({ cls := "DerivativeTape$Program", name := "addOperation", desc := "(IIII)I" } : Jvm.MethodName))), (185, (Jvm.Cond.fieldLink "DerivativeTape" (104 : Nat) "DerivativeTape" "outputCount" "I")), (272, (Jvm.Cond.methodLink "DerivativeTape" (107 : Nat) ({ cls := "DerivativeTape$Program", name := "hasInput", desc := "(I)Z" } : Jvm.MethodName))), (284, (Jvm.Cond.methodLink "DerivativeTape" (110 : Nat) ({ cls := "DerivativeTape", name := "hasOutput", desc := "(I)Z" } : Jvm.MethodName))), (292, (Jvm.Cond.methodLink "DerivativeTape" (113 : Nat) ({ cls := "DerivativeTape$Sweep", name := "run", desc := "(LDerivativeTape$Program;[I[II)V" } : Jvm.MethodName))), (122, (Jvm.Cond.fieldLink "DerivativeTape" (117 : Nat) "DerivativeTape$Sweep" "states" "[I")), (119, (Jvm.Cond.fieldLink "DerivativeTape" (120 : Nat) "DerivativeTape$Sweep" "rows" "[[I")), (350, (Jvm.Cond.methodLink "DerivativeTape" (123 : Nat) ({ cls := "DerivativeTape", name := "coefficient", desc := "(I[II)I" } : Jvm.MethodName))), (358, (Jvm.Cond.methodLink "DerivativeTape" (127 : Nat) ({ cls := "DerivativeTape", name := "worstState", desc := "(Z)I" } : Jvm.MethodName))), (363, (Jvm.Cond.methodLink "DerivativeTape" (131 : Nat) ({ cls := "DerivativeTape", name := "handBack", desc := "([I)V" } : Jvm.MethodName))), (135, (Jvm.Cond.fieldLink "DerivativeTape" (135 : Nat) "DerivativeTape$BackSweep" "shares" "[I")), (89, (Jvm.Cond.fieldLink "DerivativeTape" (138 : Nat) "DerivativeTape$Program" "inputNodes" "[I")), (402, (Jvm.Cond.methodLink "DerivativeTape" (141 : Nat) ({ cls := "DerivativeTape", name := "clearSeed", desc := "()V" } : Jvm.MethodName))), (407, (Jvm.Cond.methodLink "DerivativeTape" (144 : Nat) ({ cls := "DerivativeTape", name := "coefficientByInput", desc := "(III)I" } : Jvm.MethodName))), (415, (Jvm.Cond.methodLink "DerivativeTape" (148 : Nat) ({ cls := "DerivativeTape$Program", name := "reaches", desc := "(II)Z" } : Jvm.MethodName))), (423, (Jvm.Cond.methodLink "DerivativeTape" (152 : Nat) ({ cls := "DerivativeTape", name := "paintInputs", desc := "()V" } : Jvm.MethodName))), (438, (Jvm.Cond.methodLink "DerivativeTape" (155 : Nat) ({ cls := "java/lang/Math", name := "max", desc := "(II)I" } : Jvm.MethodName))), (449, (Jvm.Cond.methodLink "DerivativeTape" (161 : Nat) ({ cls := "DerivativeTape$Shrinking", name := "count", desc := "(LDerivativeTape$Program;LDerivativeTape$Sweep;[II)I" } : Jvm.MethodName))), (474, (Jvm.Cond.methodLink "DerivativeTape" (165 : Nat) ({ cls := "DerivativeTape", name := "goAhead", desc := "(I)I" } : Jvm.MethodName))), (479, (Jvm.Cond.methodLink "DerivativeTape" (168 : Nat) ({ cls := "DerivativeTape", name := "goBack", desc := "(I)V" } : Jvm.MethodName))), (483, (Jvm.Cond.methodLink "DerivativeTape" (172 : Nat) ({ cls := "DerivativeTape$Snapshots", name := "stepsAgain", desc := "(II)I" } : Jvm.MethodName))), (189, (Jvm.Cond.fieldLink "DerivativeTape" (175 : Nat) "DerivativeTape" "marchedLength" "I")), (406, (Jvm.Cond.methodLink "DerivativeTape" (178 : Nat) ({ cls := "java/util/Arrays", name := "fill", desc := "([II)V" } : Jvm.MethodName))), (362, (Jvm.Cond.methodLink "DerivativeTape" (184 : Nat) ({ cls := "DerivativeTape$Sweep", name := "worse", desc := "(II)I" } : Jvm.MethodName))), (367, (Jvm.Cond.methodLink "DerivativeTape" (187 : Nat) ({ cls := "DerivativeTape$BackSweep", name := "clear", desc := "()V" } : Jvm.MethodName))), (372, (Jvm.Cond.methodLink "DerivativeTape" (190 : Nat) ({ cls := "DerivativeTape$BackSweep", name := "give", desc := "(II)V" } : Jvm.MethodName))), (377, (Jvm.Cond.methodLink "DerivativeTape" (194 : Nat) ({ cls := "DerivativeTape$BackSweep", name := "run", desc := "(LDerivativeTape$Program;LDerivativeTape$Sweep;)V" } : Jvm.MethodName))), (427, (Jvm.Cond.methodLink "DerivativeTape" (197 : Nat) ({ cls := "DerivativeTape", name := "inConflict", desc := "(II)Z" } : Jvm.MethodName))), (431, (Jvm.Cond.methodLink "DerivativeTape" (200 : Nat) ({ cls := "DerivativeTape", name := "leastFree", desc := "(I)I" } : Jvm.MethodName))), (478, (Jvm.Cond.methodLink "DerivativeTape" (203 : Nat) ({ cls := "java/lang/System", name := "arraycopy", desc := "(Ljava/lang/Object;ILjava/lang/Object;II)V" } : Jvm.MethodName)))] : List (Nat × Cond)).map (fun q => q.2) := rfl
  rw [e] at hw
  obtain ⟨q, hq, rfl⟩ := List.mem_map.mp hw
  exact ma_W_i (h q hq).1 (h q hq).2
def ma_wo1 : List Cond := [(Jvm.Cond.methodLink "DerivativeTape$Program" (3 : Nat) ({ cls := "java/lang/Object", name := "<init>", desc := "()V" } : Jvm.MethodName)), (Jvm.Cond.fieldLink "DerivativeTape$Program" (9 : Nat) "DerivativeTape$Program" "kinds" "[I"), (Jvm.Cond.fieldLink "DerivativeTape$Program" (15 : Nat) "DerivativeTape$Program" "firsts" "[I"), (Jvm.Cond.fieldLink "DerivativeTape$Program" (18 : Nat) "DerivativeTape$Program" "seconds" "[I"), (Jvm.Cond.fieldLink "DerivativeTape$Program" (21 : Nat) "DerivativeTape$Program" "details" "[I"), (Jvm.Cond.fieldLink "DerivativeTape$Program" (24 : Nat) "DerivativeTape$Program" "reach" "[I"), (Jvm.Cond.fieldLink "DerivativeTape$Program" (27 : Nat) "DerivativeTape$Program" "inputNodes" "[I"), (Jvm.Cond.fieldLink "DerivativeTape$Program" (30 : Nat) "DerivativeTape$Program" "nodes" "I"), (Jvm.Cond.fieldLink "DerivativeTape$Program" (34 : Nat) "DerivativeTape$Program" "inputs" "I"), (Jvm.Cond.methodLink "DerivativeTape$Program" (37 : Nat) ({ cls := "DerivativeTape$Program", name := "add", desc := "(II)I" } : Jvm.MethodName))]
theorem ma_wo1_in : ∀ w ∈ ma_wo1, w ∈ ma_W := by
  have h : ∀ q ∈ [(64, (Jvm.Cond.methodLink "DerivativeTape$Program" (3 : Nat) ({ cls := "java/lang/Object", name := "<init>", desc := "()V" } : Jvm.MethodName))), (71, (Jvm.Cond.fieldLink "DerivativeTape$Program" (9 : Nat) "DerivativeTape$Program" "kinds" "[I")), (75, (Jvm.Cond.fieldLink "DerivativeTape$Program" (15 : Nat) "DerivativeTape$Program" "firsts" "[I")), (79, (Jvm.Cond.fieldLink "DerivativeTape$Program" (18 : Nat) "DerivativeTape$Program" "seconds" "[I")), (83, (Jvm.Cond.fieldLink "DerivativeTape$Program" (21 : Nat) "DerivativeTape$Program" "details" "[I")), (87, (Jvm.Cond.fieldLink "DerivativeTape$Program" (24 : Nat) "DerivativeTape$Program" "reach" "[I")), (88, (Jvm.Cond.fieldLink "DerivativeTape$Program" (27 : Nat) "DerivativeTape$Program" "inputNodes" "[I")), (65, (Jvm.Cond.fieldLink "DerivativeTape$Program" (30 : Nat) "DerivativeTape$Program" "nodes" "I")), (70, (Jvm.Cond.fieldLink "DerivativeTape$Program" (34 : Nat) "DerivativeTape$Program" "inputs" "I")), (235, (Jvm.Cond.methodLink "DerivativeTape$Program" (37 : Nat) ({ cls := "DerivativeTape$Program", name := "add", desc := "(II)I" } : Jvm.MethodName)))], lw_tbl[q.1]? = some q.2 ∧ goodWord q.2 = true := by decide +kernel
  intro w hw
  have e : ma_wo1 = ([(64, (Jvm.Cond.methodLink "DerivativeTape$Program" (3 : Nat) ({ cls := "java/lang/Object", name := "<init>", desc := "()V" } : Jvm.MethodName))), (71, (Jvm.Cond.fieldLink "DerivativeTape$Program" (9 : Nat) "DerivativeTape$Program" "kinds" "[I")), (75, (Jvm.Cond.fieldLink "DerivativeTape$Program" (15 : Nat) "DerivativeTape$Program" "firsts" "[I")), (79, (Jvm.Cond.fieldLink "DerivativeTape$Program" (18 : Nat) "DerivativeTape$Program" "seconds" "[I")), (83, (Jvm.Cond.fieldLink "DerivativeTape$Program" (21 : Nat) "DerivativeTape$Program" "details" "[I")), (87, (Jvm.Cond.fieldLink "DerivativeTape$Program" (24 : Nat) "DerivativeTape$Program" "reach" "[I")), (88, (Jvm.Cond.fieldLink "DerivativeTape$Program" (27 : Nat) "DerivativeTape$Program" "inputNodes" "[I")), (65, (Jvm.Cond.fieldLink "DerivativeTape$Program" (30 : Nat) "DerivativeTape$Program" "nodes" "I")), (70, (Jvm.Cond.fieldLink "DerivativeTape$Program" (34 : Nat) "DerivativeTape$Program" "inputs" "I")), (235, (Jvm.Cond.methodLink "DerivativeTape$Program" (37 : Nat) ({ cls := "DerivativeTape$Program", name := "add", desc := "(II)I" } : Jvm.MethodName)))] : List (Nat × Cond)).map (fun q => q.2) := rfl
  rw [e] at hw
  obtain ⟨q, hq, rfl⟩ := List.mem_map.mp hw
  exact ma_W_i (h q hq).1 (h q hq).2
def ma_wo2 : List Cond := [(Jvm.Cond.methodLink "DerivativeTape$Sweep" (3 : Nat) ({ cls := "java/lang/Object", name := "<init>", desc := "()V" } : Jvm.MethodName)), (Jvm.Cond.classLink "DerivativeTape$Sweep" (9 : Nat) "[[I"), (Jvm.Cond.fieldLink "DerivativeTape$Sweep" (11 : Nat) "DerivativeTape$Sweep" "rows" "[[I"), (Jvm.Cond.fieldLink "DerivativeTape$Sweep" (16 : Nat) "DerivativeTape$Sweep" "states" "[I"), (Jvm.Cond.fieldLink "DerivativeTape$Sweep" (20 : Nat) "DerivativeTape$Program" "nodes" "I"), (Jvm.Cond.methodLink "DerivativeTape$Sweep" (26 : Nat) ({ cls := "DerivativeTape$Program", name := "isOperation", desc := "(I)Z" } : Jvm.MethodName)), (Jvm.Cond.methodLink "DerivativeTape$Sweep" (30 : Nat) ({ cls := "DerivativeTape$Sweep", name := "findState", desc := "(LDerivativeTape$Program;I)I" } : Jvm.MethodName)), (Jvm.Cond.methodLink "DerivativeTape$Sweep" (34 : Nat) ({ cls := "DerivativeTape$Sweep", name := "operate", desc := "(LDerivativeTape$Program;II)V" } : Jvm.MethodName)), (Jvm.Cond.methodLink "DerivativeTape$Sweep" (38 : Nat) ({ cls := "DerivativeTape$Sweep", name := "begin", desc := "(LDerivativeTape$Program;I[I[I)V" } : Jvm.MethodName)), (Jvm.Cond.fieldLink "DerivativeTape$Sweep" (42 : Nat) "DerivativeTape$Program" "firsts" "[I"), (Jvm.Cond.fieldLink "DerivativeTape$Sweep" (45 : Nat) "DerivativeTape$Program" "seconds" "[I"), (Jvm.Cond.fieldLink "DerivativeTape$Sweep" (48 : Nat) "DerivativeTape$Program" "kinds" "[I"), (Jvm.Cond.methodLink "DerivativeTape$Sweep" (51 : Nat) ({ cls := "DerivativeTape$Sweep", name := "worse", desc := "(II)I" } : Jvm.MethodName)), (Jvm.Cond.fieldLink "DerivativeTape$Sweep" (55 : Nat) "DerivativeTape$Program" "details" "[I"), (Jvm.Cond.methodLink "DerivativeTape$Sweep" (58 : Nat) ({ cls := "DerivativeTape$Sweep", name := "addUp", desc := "([I[I[III)V" } : Jvm.MethodName)), (Jvm.Cond.methodLink "DerivativeTape$Sweep" (62 : Nat) ({ cls := "java/lang/System", name := "arraycopy", desc := "(Ljava/lang/Object;ILjava/lang/Object;II)V" } : Jvm.MethodName)), (Jvm.Cond.methodLink "DerivativeTape$Sweep" (68 : Nat) ({ cls := "DerivativeTape$Sweep", name := "multiplyBy", desc := "([I[II)V" } : Jvm.MethodName)), (Jvm.Cond.methodLink "DerivativeTape$Sweep" (72 : Nat) ({ cls := "DerivativeTape$Sweep", name := "divide", desc := "([I[I[II)V" } : Jvm.MethodName)), (Jvm.Cond.methodLink "DerivativeTape$Sweep" (76 : Nat) ({ cls := "DerivativeTape$Sweep", name := "raiseRow", desc := "([I[III)V" } : Jvm.MethodName)), (Jvm.Cond.methodLink "DerivativeTape$Sweep" (80 : Nat) ({ cls := "DerivativeTape$Sweep", name := "findChosen", desc := "(LDerivativeTape$Program;I)I" } : Jvm.MethodName)), (Jvm.Cond.methodLink "DerivativeTape$Sweep" (83 : Nat) ({ cls := "DerivativeTape$Numbers", name := "standFor", desc := "(J)I" } : Jvm.MethodName)), (Jvm.Cond.constantLong "DerivativeTape$Sweep" (89 : Nat) (65521 : Int64)), (Jvm.Cond.constant "DerivativeTape$Sweep" (91 : Nat) (65519 : Int32)), (Jvm.Cond.methodLink "DerivativeTape$Sweep" (92 : Nat) ({ cls := "DerivativeTape$Numbers", name := "raise", desc := "(II)I" } : Jvm.MethodName)), (Jvm.Cond.methodLink "DerivativeTape$Sweep" (95 : Nat) ({ cls := "DerivativeTape$Numbers", name := "times", desc := "(II)I" } : Jvm.MethodName)), (Jvm.Cond.methodLink "DerivativeTape$Sweep" (98 : Nat) ({ cls := "java/util/Arrays", name := "fill", desc := "([II)V" } : Jvm.MethodName))]
theorem ma_wo2_in : ∀ w ∈ ma_wo2, w ∈ ma_W := by
  have h : ∀ q ∈ [(113, (Jvm.Cond.methodLink "DerivativeTape$Sweep" (3 : Nat) ({ cls := "java/lang/Object", name := "<init>", desc := "()V" } : Jvm.MethodName))), (114, (Jvm.Cond.classLink "DerivativeTape$Sweep" (9 : Nat) "[[I")), (116, (Jvm.Cond.fieldLink "DerivativeTape$Sweep" (11 : Nat) "DerivativeTape$Sweep" "rows" "[[I")), (120, (Jvm.Cond.fieldLink "DerivativeTape$Sweep" (16 : Nat) "DerivativeTape$Sweep" "states" "[I")), (67, (Jvm.Cond.fieldLink "DerivativeTape$Sweep" (20 : Nat) "DerivativeTape$Program" "nodes" "I")), (296, (Jvm.Cond.methodLink "DerivativeTape$Sweep" (26 : Nat) ({ cls := "DerivativeTape$Program", name := "isOperation", desc := "(I)Z" } : Jvm.MethodName))), (300, (Jvm.Cond.methodLink "DerivativeTape$Sweep" (30 : Nat) ({ cls := "DerivativeTape$Sweep", name := "findState", desc := "(LDerivativeTape$Program;I)I" } : Jvm.MethodName))), (307, (Jvm.Cond.methodLink "DerivativeTape$Sweep" (34 : Nat) ({ cls := "DerivativeTape$Sweep", name := "operate", desc := "(LDerivativeTape$Program;II)V" } : Jvm.MethodName))), (342, (Jvm.Cond.methodLink "DerivativeTape$Sweep" (38 : Nat) ({ cls := "DerivativeTape$Sweep", name := "begin", desc := "(LDerivativeTape$Program;I[I[I)V" } : Jvm.MethodName))), (77, (Jvm.Cond.fieldLink "DerivativeTape$Sweep" (42 : Nat) "DerivativeTape$Program" "firsts" "[I")), (81, (Jvm.Cond.fieldLink "DerivativeTape$Sweep" (45 : Nat) "DerivativeTape$Program" "seconds" "[I")), (73, (Jvm.Cond.fieldLink "DerivativeTape$Sweep" (48 : Nat) "DerivativeTape$Program" "kinds" "[I")), (304, (Jvm.Cond.methodLink "DerivativeTape$Sweep" (51 : Nat) ({ cls := "DerivativeTape$Sweep", name := "worse", desc := "(II)I" } : Jvm.MethodName))), (86, (Jvm.Cond.fieldLink "DerivativeTape$Sweep" (55 : Nat) "DerivativeTape$Program" "details" "[I")), (311, (Jvm.Cond.methodLink "DerivativeTape$Sweep" (58 : Nat) ({ cls := "DerivativeTape$Sweep", name := "addUp", desc := "([I[I[III)V" } : Jvm.MethodName))), (315, (Jvm.Cond.methodLink "DerivativeTape$Sweep" (62 : Nat) ({ cls := "java/lang/System", name := "arraycopy", desc := "(Ljava/lang/Object;ILjava/lang/Object;II)V" } : Jvm.MethodName))), (318, (Jvm.Cond.methodLink "DerivativeTape$Sweep" (68 : Nat) ({ cls := "DerivativeTape$Sweep", name := "multiplyBy", desc := "([I[II)V" } : Jvm.MethodName))), (322, (Jvm.Cond.methodLink "DerivativeTape$Sweep" (72 : Nat) ({ cls := "DerivativeTape$Sweep", name := "divide", desc := "([I[I[II)V" } : Jvm.MethodName))), (332, (Jvm.Cond.methodLink "DerivativeTape$Sweep" (76 : Nat) ({ cls := "DerivativeTape$Sweep", name := "raiseRow", desc := "([I[III)V" } : Jvm.MethodName))), (338, (Jvm.Cond.methodLink "DerivativeTape$Sweep" (80 : Nat) ({ cls := "DerivativeTape$Sweep", name := "findChosen", desc := "(LDerivativeTape$Program;I)I" } : Jvm.MethodName))), (314, (Jvm.Cond.methodLink "DerivativeTape$Sweep" (83 : Nat) ({ cls := "DerivativeTape$Numbers", name := "standFor", desc := "(J)I" } : Jvm.MethodName))), (321, (Jvm.Cond.constantLong "DerivativeTape$Sweep" (89 : Nat) (65521 : Int64))), (325, (Jvm.Cond.constant "DerivativeTape$Sweep" (91 : Nat) (65519 : Int32))), (326, (Jvm.Cond.methodLink "DerivativeTape$Sweep" (92 : Nat) ({ cls := "DerivativeTape$Numbers", name := "raise", desc := "(II)I" } : Jvm.MethodName))), (329, (Jvm.Cond.methodLink "DerivativeTape$Sweep" (95 : Nat) ({ cls := "DerivativeTape$Numbers", name := "times", desc := "(II)I" } : Jvm.MethodName))), (335, (Jvm.Cond.methodLink "DerivativeTape$Sweep" (98 : Nat) ({ cls := "java/util/Arrays", name := "fill", desc := "([II)V" } : Jvm.MethodName)))], lw_tbl[q.1]? = some q.2 ∧ goodWord q.2 = true := by decide +kernel
  intro w hw
  have e : ma_wo2 = ([(113, (Jvm.Cond.methodLink "DerivativeTape$Sweep" (3 : Nat) ({ cls := "java/lang/Object", name := "<init>", desc := "()V" } : Jvm.MethodName))), (114, (Jvm.Cond.classLink "DerivativeTape$Sweep" (9 : Nat) "[[I")), (116, (Jvm.Cond.fieldLink "DerivativeTape$Sweep" (11 : Nat) "DerivativeTape$Sweep" "rows" "[[I")), (120, (Jvm.Cond.fieldLink "DerivativeTape$Sweep" (16 : Nat) "DerivativeTape$Sweep" "states" "[I")), (67, (Jvm.Cond.fieldLink "DerivativeTape$Sweep" (20 : Nat) "DerivativeTape$Program" "nodes" "I")), (296, (Jvm.Cond.methodLink "DerivativeTape$Sweep" (26 : Nat) ({ cls := "DerivativeTape$Program", name := "isOperation", desc := "(I)Z" } : Jvm.MethodName))), (300, (Jvm.Cond.methodLink "DerivativeTape$Sweep" (30 : Nat) ({ cls := "DerivativeTape$Sweep", name := "findState", desc := "(LDerivativeTape$Program;I)I" } : Jvm.MethodName))), (307, (Jvm.Cond.methodLink "DerivativeTape$Sweep" (34 : Nat) ({ cls := "DerivativeTape$Sweep", name := "operate", desc := "(LDerivativeTape$Program;II)V" } : Jvm.MethodName))), (342, (Jvm.Cond.methodLink "DerivativeTape$Sweep" (38 : Nat) ({ cls := "DerivativeTape$Sweep", name := "begin", desc := "(LDerivativeTape$Program;I[I[I)V" } : Jvm.MethodName))), (77, (Jvm.Cond.fieldLink "DerivativeTape$Sweep" (42 : Nat) "DerivativeTape$Program" "firsts" "[I")), (81, (Jvm.Cond.fieldLink "DerivativeTape$Sweep" (45 : Nat) "DerivativeTape$Program" "seconds" "[I")), (73, (Jvm.Cond.fieldLink "DerivativeTape$Sweep" (48 : Nat) "DerivativeTape$Program" "kinds" "[I")), (304, (Jvm.Cond.methodLink "DerivativeTape$Sweep" (51 : Nat) ({ cls := "DerivativeTape$Sweep", name := "worse", desc := "(II)I" } : Jvm.MethodName))), (86, (Jvm.Cond.fieldLink "DerivativeTape$Sweep" (55 : Nat) "DerivativeTape$Program" "details" "[I")), (311, (Jvm.Cond.methodLink "DerivativeTape$Sweep" (58 : Nat) ({ cls := "DerivativeTape$Sweep", name := "addUp", desc := "([I[I[III)V" } : Jvm.MethodName))), (315, (Jvm.Cond.methodLink "DerivativeTape$Sweep" (62 : Nat) ({ cls := "java/lang/System", name := "arraycopy", desc := "(Ljava/lang/Object;ILjava/lang/Object;II)V" } : Jvm.MethodName))), (318, (Jvm.Cond.methodLink "DerivativeTape$Sweep" (68 : Nat) ({ cls := "DerivativeTape$Sweep", name := "multiplyBy", desc := "([I[II)V" } : Jvm.MethodName))), (322, (Jvm.Cond.methodLink "DerivativeTape$Sweep" (72 : Nat) ({ cls := "DerivativeTape$Sweep", name := "divide", desc := "([I[I[II)V" } : Jvm.MethodName))), (332, (Jvm.Cond.methodLink "DerivativeTape$Sweep" (76 : Nat) ({ cls := "DerivativeTape$Sweep", name := "raiseRow", desc := "([I[III)V" } : Jvm.MethodName))), (338, (Jvm.Cond.methodLink "DerivativeTape$Sweep" (80 : Nat) ({ cls := "DerivativeTape$Sweep", name := "findChosen", desc := "(LDerivativeTape$Program;I)I" } : Jvm.MethodName))), (314, (Jvm.Cond.methodLink "DerivativeTape$Sweep" (83 : Nat) ({ cls := "DerivativeTape$Numbers", name := "standFor", desc := "(J)I" } : Jvm.MethodName))), (321, (Jvm.Cond.constantLong "DerivativeTape$Sweep" (89 : Nat) (65521 : Int64))), (325, (Jvm.Cond.constant "DerivativeTape$Sweep" (91 : Nat) (65519 : Int32))), (326, (Jvm.Cond.methodLink "DerivativeTape$Sweep" (92 : Nat) ({ cls := "DerivativeTape$Numbers", name := "raise", desc := "(II)I" } : Jvm.MethodName))), (329, (Jvm.Cond.methodLink "DerivativeTape$Sweep" (95 : Nat) ({ cls := "DerivativeTape$Numbers", name := "times", desc := "(II)I" } : Jvm.MethodName))), (335, (Jvm.Cond.methodLink "DerivativeTape$Sweep" (98 : Nat) ({ cls := "java/util/Arrays", name := "fill", desc := "([II)V" } : Jvm.MethodName)))] : List (Nat × Cond)).map (fun q => q.2) := rfl
  rw [e] at hw
  obtain ⟨q, hq, rfl⟩ := List.mem_map.mp hw
  exact ma_W_i (h q hq).1 (h q hq).2
def ma_wo3 : List Cond := [(Jvm.Cond.methodLink "DerivativeTape$BackSweep" (3 : Nat) ({ cls := "java/lang/Object", name := "<init>", desc := "()V" } : Jvm.MethodName)), (Jvm.Cond.fieldLink "DerivativeTape$BackSweep" (9 : Nat) "DerivativeTape$BackSweep" "shares" "[I"), (Jvm.Cond.methodLink "DerivativeTape$BackSweep" (15 : Nat) ({ cls := "java/util/Arrays", name := "fill", desc := "([II)V" } : Jvm.MethodName)), (Jvm.Cond.methodLink "DerivativeTape$BackSweep" (21 : Nat) ({ cls := "DerivativeTape$Numbers", name := "standFor", desc := "(J)I" } : Jvm.MethodName)), (Jvm.Cond.fieldLink "DerivativeTape$BackSweep" (27 : Nat) "DerivativeTape$Program" "nodes" "I"), (Jvm.Cond.methodLink "DerivativeTape$BackSweep" (33 : Nat) ({ cls := "DerivativeTape$Program", name := "isOperation", desc := "(I)Z" } : Jvm.MethodName)), (Jvm.Cond.methodLink "DerivativeTape$BackSweep" (37 : Nat) ({ cls := "DerivativeTape$BackSweep", name := "handOn", desc := "(LDerivativeTape$Program;LDerivativeTape$Sweep;I)V" } : Jvm.MethodName)), (Jvm.Cond.fieldLink "DerivativeTape$BackSweep" (41 : Nat) "DerivativeTape$Program" "firsts" "[I"), (Jvm.Cond.fieldLink "DerivativeTape$BackSweep" (44 : Nat) "DerivativeTape$Program" "seconds" "[I"), (Jvm.Cond.fieldLink "DerivativeTape$BackSweep" (47 : Nat) "DerivativeTape$Program" "kinds" "[I"), (Jvm.Cond.methodLink "DerivativeTape$BackSweep" (50 : Nat) ({ cls := "DerivativeTape$BackSweep", name := "give", desc := "(II)V" } : Jvm.MethodName)), (Jvm.Cond.fieldLink "DerivativeTape$BackSweep" (54 : Nat) "DerivativeTape$Sweep" "rows" "[[I"), (Jvm.Cond.methodLink "DerivativeTape$BackSweep" (60 : Nat) ({ cls := "DerivativeTape$Numbers", name := "times", desc := "(II)I" } : Jvm.MethodName)), (Jvm.Cond.constant "DerivativeTape$BackSweep" (64 : Nat) (65519 : Int32)), (Jvm.Cond.methodLink "DerivativeTape$BackSweep" (65 : Nat) ({ cls := "DerivativeTape$Numbers", name := "raise", desc := "(II)I" } : Jvm.MethodName)), (Jvm.Cond.fieldLink "DerivativeTape$BackSweep" (68 : Nat) "DerivativeTape$Program" "details" "[I"), (Jvm.Cond.methodLink "DerivativeTape$BackSweep" (71 : Nat) ({ cls := "DerivativeTape$BackSweep", name := "findSlope", desc := "(II)I" } : Jvm.MethodName)), (Jvm.Cond.methodLink "DerivativeTape$BackSweep" (74 : Nat) ({ cls := "DerivativeTape$Sweep", name := "findChosen", desc := "(LDerivativeTape$Program;I)I" } : Jvm.MethodName))]
theorem ma_wo3_in : ∀ w ∈ ma_wo3, w ∈ ma_W := by
  have h : ∀ q ∈ [(133, (Jvm.Cond.methodLink "DerivativeTape$BackSweep" (3 : Nat) ({ cls := "java/lang/Object", name := "<init>", desc := "()V" } : Jvm.MethodName))), (134, (Jvm.Cond.fieldLink "DerivativeTape$BackSweep" (9 : Nat) "DerivativeTape$BackSweep" "shares" "[I")), (371, (Jvm.Cond.methodLink "DerivativeTape$BackSweep" (15 : Nat) ({ cls := "java/util/Arrays", name := "fill", desc := "([II)V" } : Jvm.MethodName))), (376, (Jvm.Cond.methodLink "DerivativeTape$BackSweep" (21 : Nat) ({ cls := "DerivativeTape$Numbers", name := "standFor", desc := "(J)I" } : Jvm.MethodName))), (68, (Jvm.Cond.fieldLink "DerivativeTape$BackSweep" (27 : Nat) "DerivativeTape$Program" "nodes" "I")), (381, (Jvm.Cond.methodLink "DerivativeTape$BackSweep" (33 : Nat) ({ cls := "DerivativeTape$Program", name := "isOperation", desc := "(I)Z" } : Jvm.MethodName))), (382, (Jvm.Cond.methodLink "DerivativeTape$BackSweep" (37 : Nat) ({ cls := "DerivativeTape$BackSweep", name := "handOn", desc := "(LDerivativeTape$Program;LDerivativeTape$Sweep;I)V" } : Jvm.MethodName))), (78, (Jvm.Cond.fieldLink "DerivativeTape$BackSweep" (41 : Nat) "DerivativeTape$Program" "firsts" "[I")), (82, (Jvm.Cond.fieldLink "DerivativeTape$BackSweep" (44 : Nat) "DerivativeTape$Program" "seconds" "[I")), (74, (Jvm.Cond.fieldLink "DerivativeTape$BackSweep" (47 : Nat) "DerivativeTape$Program" "kinds" "[I")), (386, (Jvm.Cond.methodLink "DerivativeTape$BackSweep" (50 : Nat) ({ cls := "DerivativeTape$BackSweep", name := "give", desc := "(II)V" } : Jvm.MethodName))), (118, (Jvm.Cond.fieldLink "DerivativeTape$BackSweep" (54 : Nat) "DerivativeTape$Sweep" "rows" "[[I")), (387, (Jvm.Cond.methodLink "DerivativeTape$BackSweep" (60 : Nat) ({ cls := "DerivativeTape$Numbers", name := "times", desc := "(II)I" } : Jvm.MethodName))), (388, (Jvm.Cond.constant "DerivativeTape$BackSweep" (64 : Nat) (65519 : Int32))), (389, (Jvm.Cond.methodLink "DerivativeTape$BackSweep" (65 : Nat) ({ cls := "DerivativeTape$Numbers", name := "raise", desc := "(II)I" } : Jvm.MethodName))), (85, (Jvm.Cond.fieldLink "DerivativeTape$BackSweep" (68 : Nat) "DerivativeTape$Program" "details" "[I")), (390, (Jvm.Cond.methodLink "DerivativeTape$BackSweep" (71 : Nat) ({ cls := "DerivativeTape$BackSweep", name := "findSlope", desc := "(II)I" } : Jvm.MethodName))), (393, (Jvm.Cond.methodLink "DerivativeTape$BackSweep" (74 : Nat) ({ cls := "DerivativeTape$Sweep", name := "findChosen", desc := "(LDerivativeTape$Program;I)I" } : Jvm.MethodName)))], lw_tbl[q.1]? = some q.2 ∧ goodWord q.2 = true := by decide +kernel
  intro w hw
  have e : ma_wo3 = ([(133, (Jvm.Cond.methodLink "DerivativeTape$BackSweep" (3 : Nat) ({ cls := "java/lang/Object", name := "<init>", desc := "()V" } : Jvm.MethodName))), (134, (Jvm.Cond.fieldLink "DerivativeTape$BackSweep" (9 : Nat) "DerivativeTape$BackSweep" "shares" "[I")), (371, (Jvm.Cond.methodLink "DerivativeTape$BackSweep" (15 : Nat) ({ cls := "java/util/Arrays", name := "fill", desc := "([II)V" } : Jvm.MethodName))), (376, (Jvm.Cond.methodLink "DerivativeTape$BackSweep" (21 : Nat) ({ cls := "DerivativeTape$Numbers", name := "standFor", desc := "(J)I" } : Jvm.MethodName))), (68, (Jvm.Cond.fieldLink "DerivativeTape$BackSweep" (27 : Nat) "DerivativeTape$Program" "nodes" "I")), (381, (Jvm.Cond.methodLink "DerivativeTape$BackSweep" (33 : Nat) ({ cls := "DerivativeTape$Program", name := "isOperation", desc := "(I)Z" } : Jvm.MethodName))), (382, (Jvm.Cond.methodLink "DerivativeTape$BackSweep" (37 : Nat) ({ cls := "DerivativeTape$BackSweep", name := "handOn", desc := "(LDerivativeTape$Program;LDerivativeTape$Sweep;I)V" } : Jvm.MethodName))), (78, (Jvm.Cond.fieldLink "DerivativeTape$BackSweep" (41 : Nat) "DerivativeTape$Program" "firsts" "[I")), (82, (Jvm.Cond.fieldLink "DerivativeTape$BackSweep" (44 : Nat) "DerivativeTape$Program" "seconds" "[I")), (74, (Jvm.Cond.fieldLink "DerivativeTape$BackSweep" (47 : Nat) "DerivativeTape$Program" "kinds" "[I")), (386, (Jvm.Cond.methodLink "DerivativeTape$BackSweep" (50 : Nat) ({ cls := "DerivativeTape$BackSweep", name := "give", desc := "(II)V" } : Jvm.MethodName))), (118, (Jvm.Cond.fieldLink "DerivativeTape$BackSweep" (54 : Nat) "DerivativeTape$Sweep" "rows" "[[I")), (387, (Jvm.Cond.methodLink "DerivativeTape$BackSweep" (60 : Nat) ({ cls := "DerivativeTape$Numbers", name := "times", desc := "(II)I" } : Jvm.MethodName))), (388, (Jvm.Cond.constant "DerivativeTape$BackSweep" (64 : Nat) (65519 : Int32))), (389, (Jvm.Cond.methodLink "DerivativeTape$BackSweep" (65 : Nat) ({ cls := "DerivativeTape$Numbers", name := "raise", desc := "(II)I" } : Jvm.MethodName))), (85, (Jvm.Cond.fieldLink "DerivativeTape$BackSweep" (68 : Nat) "DerivativeTape$Program" "details" "[I")), (390, (Jvm.Cond.methodLink "DerivativeTape$BackSweep" (71 : Nat) ({ cls := "DerivativeTape$BackSweep", name := "findSlope", desc := "(II)I" } : Jvm.MethodName))), (393, (Jvm.Cond.methodLink "DerivativeTape$BackSweep" (74 : Nat) ({ cls := "DerivativeTape$Sweep", name := "findChosen", desc := "(LDerivativeTape$Program;I)I" } : Jvm.MethodName)))] : List (Nat × Cond)).map (fun q => q.2) := rfl
  rw [e] at hw
  obtain ⟨q, hq, rfl⟩ := List.mem_map.mp hw
  exact ma_W_i (h q hq).1 (h q hq).2
def ma_wo4 : List Cond := [(Jvm.Cond.methodLink "DerivativeTape$Shrinking" (3 : Nat) ({ cls := "java/lang/Object", name := "<init>", desc := "()V" } : Jvm.MethodName)), (Jvm.Cond.fieldLink "DerivativeTape$Shrinking" (9 : Nat) "DerivativeTape$Shrinking" "folded" "[Z"), (Jvm.Cond.fieldLink "DerivativeTape$Shrinking" (15 : Nat) "DerivativeTape$Shrinking" "live" "[Z"), (Jvm.Cond.fieldLink "DerivativeTape$Shrinking" (18 : Nat) "DerivativeTape$Shrinking" "counted" "[Z"), (Jvm.Cond.fieldLink "DerivativeTape$Shrinking" (21 : Nat) "DerivativeTape$Shrinking" "models" "[I"), (Jvm.Cond.fieldLink "DerivativeTape$Shrinking" (25 : Nat) "DerivativeTape$Program" "nodes" "I"), (Jvm.Cond.methodLink "DerivativeTape$Shrinking" (31 : Nat) ({ cls := "DerivativeTape$Shrinking", name := "isFolded", desc := "(LDerivativeTape$Program;LDerivativeTape$Sweep;I)Z" } : Jvm.MethodName)), (Jvm.Cond.methodLink "DerivativeTape$Shrinking" (35 : Nat) ({ cls := "DerivativeTape$Shrinking", name := "findModel", desc := "(LDerivativeTape$Program;LDerivativeTape$Sweep;I)I" } : Jvm.MethodName)), (Jvm.Cond.methodLink "DerivativeTape$Shrinking" (39 : Nat) ({ cls := "DerivativeTape$Shrinking", name := "enliven", desc := "(LDerivativeTape$Program;I)V" } : Jvm.MethodName)), (Jvm.Cond.methodLink "DerivativeTape$Shrinking" (43 : Nat) ({ cls := "DerivativeTape$Program", name := "isOperation", desc := "(I)Z" } : Jvm.MethodName)), (Jvm.Cond.fieldLink "DerivativeTape$Shrinking" (47 : Nat) "DerivativeTape$Program" "kinds" "[I"), (Jvm.Cond.fieldLink "DerivativeTape$Shrinking" (50 : Nat) "DerivativeTape$Program" "firsts" "[I"), (Jvm.Cond.fieldLink "DerivativeTape$Shrinking" (53 : Nat) "DerivativeTape$Program" "seconds" "[I"), (Jvm.Cond.fieldLink "DerivativeTape$Shrinking" (56 : Nat) "DerivativeTape$Sweep" "states" "[I"), (Jvm.Cond.methodLink "DerivativeTape$Shrinking" (61 : Nat) ({ cls := "DerivativeTape$Shrinking", name := "areAlike", desc := "(LDerivativeTape$Program;LDerivativeTape$Sweep;II)Z" } : Jvm.MethodName)), (Jvm.Cond.fieldLink "DerivativeTape$Shrinking" (65 : Nat) "DerivativeTape$Sweep" "rows" "[[I"), (Jvm.Cond.fieldLink "DerivativeTape$Shrinking" (69 : Nat) "DerivativeTape$Program" "details" "[I")]
theorem ma_wo4_in : ∀ w ∈ ma_wo4, w ∈ ma_W := by
  have h : ∀ q ∈ [(144, (Jvm.Cond.methodLink "DerivativeTape$Shrinking" (3 : Nat) ({ cls := "java/lang/Object", name := "<init>", desc := "()V" } : Jvm.MethodName))), (145, (Jvm.Cond.fieldLink "DerivativeTape$Shrinking" (9 : Nat) "DerivativeTape$Shrinking" "folded" "[Z")), (146, (Jvm.Cond.fieldLink "DerivativeTape$Shrinking" (15 : Nat) "DerivativeTape$Shrinking" "live" "[Z")), (147, (Jvm.Cond.fieldLink "DerivativeTape$Shrinking" (18 : Nat) "DerivativeTape$Shrinking" "counted" "[Z")), (148, (Jvm.Cond.fieldLink "DerivativeTape$Shrinking" (21 : Nat) "DerivativeTape$Shrinking" "models" "[I")), (66, (Jvm.Cond.fieldLink "DerivativeTape$Shrinking" (25 : Nat) "DerivativeTape$Program" "nodes" "I")), (453, (Jvm.Cond.methodLink "DerivativeTape$Shrinking" (31 : Nat) ({ cls := "DerivativeTape$Shrinking", name := "isFolded", desc := "(LDerivativeTape$Program;LDerivativeTape$Sweep;I)Z" } : Jvm.MethodName))), (458, (Jvm.Cond.methodLink "DerivativeTape$Shrinking" (35 : Nat) ({ cls := "DerivativeTape$Shrinking", name := "findModel", desc := "(LDerivativeTape$Program;LDerivativeTape$Sweep;I)I" } : Jvm.MethodName))), (466, (Jvm.Cond.methodLink "DerivativeTape$Shrinking" (39 : Nat) ({ cls := "DerivativeTape$Shrinking", name := "enliven", desc := "(LDerivativeTape$Program;I)V" } : Jvm.MethodName))), (457, (Jvm.Cond.methodLink "DerivativeTape$Shrinking" (43 : Nat) ({ cls := "DerivativeTape$Program", name := "isOperation", desc := "(I)Z" } : Jvm.MethodName))), (72, (Jvm.Cond.fieldLink "DerivativeTape$Shrinking" (47 : Nat) "DerivativeTape$Program" "kinds" "[I")), (76, (Jvm.Cond.fieldLink "DerivativeTape$Shrinking" (50 : Nat) "DerivativeTape$Program" "firsts" "[I")), (80, (Jvm.Cond.fieldLink "DerivativeTape$Shrinking" (53 : Nat) "DerivativeTape$Program" "seconds" "[I")), (121, (Jvm.Cond.fieldLink "DerivativeTape$Shrinking" (56 : Nat) "DerivativeTape$Sweep" "states" "[I")), (462, (Jvm.Cond.methodLink "DerivativeTape$Shrinking" (61 : Nat) ({ cls := "DerivativeTape$Shrinking", name := "areAlike", desc := "(LDerivativeTape$Program;LDerivativeTape$Sweep;II)Z" } : Jvm.MethodName))), (117, (Jvm.Cond.fieldLink "DerivativeTape$Shrinking" (65 : Nat) "DerivativeTape$Sweep" "rows" "[[I")), (84, (Jvm.Cond.fieldLink "DerivativeTape$Shrinking" (69 : Nat) "DerivativeTape$Program" "details" "[I"))], lw_tbl[q.1]? = some q.2 ∧ goodWord q.2 = true := by decide +kernel
  intro w hw
  have e : ma_wo4 = ([(144, (Jvm.Cond.methodLink "DerivativeTape$Shrinking" (3 : Nat) ({ cls := "java/lang/Object", name := "<init>", desc := "()V" } : Jvm.MethodName))), (145, (Jvm.Cond.fieldLink "DerivativeTape$Shrinking" (9 : Nat) "DerivativeTape$Shrinking" "folded" "[Z")), (146, (Jvm.Cond.fieldLink "DerivativeTape$Shrinking" (15 : Nat) "DerivativeTape$Shrinking" "live" "[Z")), (147, (Jvm.Cond.fieldLink "DerivativeTape$Shrinking" (18 : Nat) "DerivativeTape$Shrinking" "counted" "[Z")), (148, (Jvm.Cond.fieldLink "DerivativeTape$Shrinking" (21 : Nat) "DerivativeTape$Shrinking" "models" "[I")), (66, (Jvm.Cond.fieldLink "DerivativeTape$Shrinking" (25 : Nat) "DerivativeTape$Program" "nodes" "I")), (453, (Jvm.Cond.methodLink "DerivativeTape$Shrinking" (31 : Nat) ({ cls := "DerivativeTape$Shrinking", name := "isFolded", desc := "(LDerivativeTape$Program;LDerivativeTape$Sweep;I)Z" } : Jvm.MethodName))), (458, (Jvm.Cond.methodLink "DerivativeTape$Shrinking" (35 : Nat) ({ cls := "DerivativeTape$Shrinking", name := "findModel", desc := "(LDerivativeTape$Program;LDerivativeTape$Sweep;I)I" } : Jvm.MethodName))), (466, (Jvm.Cond.methodLink "DerivativeTape$Shrinking" (39 : Nat) ({ cls := "DerivativeTape$Shrinking", name := "enliven", desc := "(LDerivativeTape$Program;I)V" } : Jvm.MethodName))), (457, (Jvm.Cond.methodLink "DerivativeTape$Shrinking" (43 : Nat) ({ cls := "DerivativeTape$Program", name := "isOperation", desc := "(I)Z" } : Jvm.MethodName))), (72, (Jvm.Cond.fieldLink "DerivativeTape$Shrinking" (47 : Nat) "DerivativeTape$Program" "kinds" "[I")), (76, (Jvm.Cond.fieldLink "DerivativeTape$Shrinking" (50 : Nat) "DerivativeTape$Program" "firsts" "[I")), (80, (Jvm.Cond.fieldLink "DerivativeTape$Shrinking" (53 : Nat) "DerivativeTape$Program" "seconds" "[I")), (121, (Jvm.Cond.fieldLink "DerivativeTape$Shrinking" (56 : Nat) "DerivativeTape$Sweep" "states" "[I")), (462, (Jvm.Cond.methodLink "DerivativeTape$Shrinking" (61 : Nat) ({ cls := "DerivativeTape$Shrinking", name := "areAlike", desc := "(LDerivativeTape$Program;LDerivativeTape$Sweep;II)Z" } : Jvm.MethodName))), (117, (Jvm.Cond.fieldLink "DerivativeTape$Shrinking" (65 : Nat) "DerivativeTape$Sweep" "rows" "[[I")), (84, (Jvm.Cond.fieldLink "DerivativeTape$Shrinking" (69 : Nat) "DerivativeTape$Program" "details" "[I"))] : List (Nat × Cond)).map (fun q => q.2) := rfl
  rw [e] at hw
  obtain ⟨q, hq, rfl⟩ := List.mem_map.mp hw
  exact ma_W_i (h q hq).1 (h q hq).2
def ma_wo5 : List Cond := [(Jvm.Cond.methodLink "DerivativeTape$Snapshots" (3 : Nat) ({ cls := "java/lang/Object", name := "<init>", desc := "()V" } : Jvm.MethodName)), (Jvm.Cond.classLink "DerivativeTape$Snapshots" (9 : Nat) "[[I"), (Jvm.Cond.fieldLink "DerivativeTape$Snapshots" (11 : Nat) "DerivativeTape$Snapshots" "again" "[[I"), (Jvm.Cond.fieldLink "DerivativeTape$Snapshots" (16 : Nat) "DerivativeTape$Snapshots" "known" "Z"), (Jvm.Cond.methodLink "DerivativeTape$Snapshots" (20 : Nat) ({ cls := "DerivativeTape$Snapshots", name := "fillTable", desc := "()V" } : Jvm.MethodName)), (Jvm.Cond.methodLink "DerivativeTape$Snapshots" (23 : Nat) ({ cls := "DerivativeTape$Snapshots", name := "findLeast", desc := "(II)I" } : Jvm.MethodName)), (Jvm.Cond.constant "DerivativeTape$Snapshots" (29 : Nat) (2147483647 : Int32)), (Jvm.Cond.methodLink "DerivativeTape$Snapshots" (30 : Nat) ({ cls := "java/lang/Math", name := "min", desc := "(II)I" } : Jvm.MethodName))]
theorem ma_wo5_in : ∀ w ∈ ma_wo5, w ∈ ma_W := by
  have h : ∀ q ∈ [(164, (Jvm.Cond.methodLink "DerivativeTape$Snapshots" (3 : Nat) ({ cls := "java/lang/Object", name := "<init>", desc := "()V" } : Jvm.MethodName))), (165, (Jvm.Cond.classLink "DerivativeTape$Snapshots" (9 : Nat) "[[I")), (166, (Jvm.Cond.fieldLink "DerivativeTape$Snapshots" (11 : Nat) "DerivativeTape$Snapshots" "again" "[[I")), (167, (Jvm.Cond.fieldLink "DerivativeTape$Snapshots" (16 : Nat) "DerivativeTape$Snapshots" "known" "Z")), (487, (Jvm.Cond.methodLink "DerivativeTape$Snapshots" (20 : Nat) ({ cls := "DerivativeTape$Snapshots", name := "fillTable", desc := "()V" } : Jvm.MethodName))), (491, (Jvm.Cond.methodLink "DerivativeTape$Snapshots" (23 : Nat) ({ cls := "DerivativeTape$Snapshots", name := "findLeast", desc := "(II)I" } : Jvm.MethodName))), (495, (Jvm.Cond.constant "DerivativeTape$Snapshots" (29 : Nat) (2147483647 : Int32))), (496, (Jvm.Cond.methodLink "DerivativeTape$Snapshots" (30 : Nat) ({ cls := "java/lang/Math", name := "min", desc := "(II)I" } : Jvm.MethodName)))], lw_tbl[q.1]? = some q.2 ∧ goodWord q.2 = true := by decide +kernel
  intro w hw
  have e : ma_wo5 = ([(164, (Jvm.Cond.methodLink "DerivativeTape$Snapshots" (3 : Nat) ({ cls := "java/lang/Object", name := "<init>", desc := "()V" } : Jvm.MethodName))), (165, (Jvm.Cond.classLink "DerivativeTape$Snapshots" (9 : Nat) "[[I")), (166, (Jvm.Cond.fieldLink "DerivativeTape$Snapshots" (11 : Nat) "DerivativeTape$Snapshots" "again" "[[I")), (167, (Jvm.Cond.fieldLink "DerivativeTape$Snapshots" (16 : Nat) "DerivativeTape$Snapshots" "known" "Z")), (487, (Jvm.Cond.methodLink "DerivativeTape$Snapshots" (20 : Nat) ({ cls := "DerivativeTape$Snapshots", name := "fillTable", desc := "()V" } : Jvm.MethodName))), (491, (Jvm.Cond.methodLink "DerivativeTape$Snapshots" (23 : Nat) ({ cls := "DerivativeTape$Snapshots", name := "findLeast", desc := "(II)I" } : Jvm.MethodName))), (495, (Jvm.Cond.constant "DerivativeTape$Snapshots" (29 : Nat) (2147483647 : Int32))), (496, (Jvm.Cond.methodLink "DerivativeTape$Snapshots" (30 : Nat) ({ cls := "java/lang/Math", name := "min", desc := "(II)I" } : Jvm.MethodName)))] : List (Nat × Cond)).map (fun q => q.2) := rfl
  rw [e] at hw
  obtain ⟨q, hq, rfl⟩ := List.mem_map.mp hw
  exact ma_W_i (h q hq).1 (h q hq).2
def ma_wo6 : List Cond := [(Jvm.Cond.methodLink "DerivativeTapeModel" (1 : Nat) ({ cls := "java/lang/Object", name := "<init>", desc := "()V" } : Jvm.MethodName)), (Jvm.Cond.fieldLink "DerivativeTapeModel" (7 : Nat) "DerivativeTapeModel" "kind" "[I"), (Jvm.Cond.fieldLink "DerivativeTapeModel" (13 : Nat) "DerivativeTapeModel" "left" "[I"), (Jvm.Cond.fieldLink "DerivativeTapeModel" (16 : Nat) "DerivativeTapeModel" "right" "[I"), (Jvm.Cond.fieldLink "DerivativeTapeModel" (19 : Nat) "DerivativeTapeModel" "fixed" "[J"), (Jvm.Cond.fieldLink "DerivativeTapeModel" (23 : Nat) "DerivativeTapeModel" "inputNode" "[I"), (Jvm.Cond.fieldLink "DerivativeTapeModel" (26 : Nat) "DerivativeTapeModel" "here" "[J"), (Jvm.Cond.fieldLink "DerivativeTapeModel" (29 : Nat) "DerivativeTapeModel" "way" "[J"), (Jvm.Cond.fieldLink "DerivativeTapeModel" (32 : Nat) "DerivativeTapeModel" "out" "[I"), (Jvm.Cond.fieldLink "DerivativeTapeModel" (35 : Nat) "DerivativeTapeModel" "weights" "[J"), (Jvm.Cond.fieldLink "DerivativeTapeModel" (38 : Nat) "DerivativeTapeModel" "line" "[J"), (Jvm.Cond.fieldLink "DerivativeTapeModel" (41 : Nat) "DerivativeTapeModel" "series" "[J"), (Jvm.Cond.fieldLink "DerivativeTapeModel" (44 : Nat) "DerivativeTapeModel" "product" "[J"), (Jvm.Cond.fieldLink "DerivativeTapeModel" (47 : Nat) "DerivativeTapeModel" "undefined" "[Z"), (Jvm.Cond.fieldLink "DerivativeTapeModel" (51 : Nat) "DerivativeTapeModel" "rough" "[Z"), (Jvm.Cond.fieldLink "DerivativeTapeModel" (54 : Nat) "DerivativeTapeModel" "mark" "[Z"), (Jvm.Cond.fieldLink "DerivativeTapeModel" (57 : Nat) "DerivativeTapeModel" "shades" "[I"), (Jvm.Cond.fieldLink "DerivativeTapeModel" (60 : Nat) "DerivativeTapeModel" "folded" "[Z"), (Jvm.Cond.fieldLink "DerivativeTapeModel" (63 : Nat) "DerivativeTapeModel" "same" "[Z"), (Jvm.Cond.fieldLink "DerivativeTapeModel" (66 : Nat) "DerivativeTapeModel" "least" "[I"), (Jvm.Cond.fieldLink "DerivativeTapeModel" (69 : Nat) "DerivativeTapeModel" "came" "[J"), (Jvm.Cond.fieldLink "DerivativeTapeModel" (72 : Nat) "DerivativeTapeModel" "back" "[J"), (Jvm.Cond.fieldLink "DerivativeTapeModel" (75 : Nat) "DerivativeTapeModel" "newCame" "[J"), (Jvm.Cond.fieldLink "DerivativeTapeModel" (78 : Nat) "DerivativeTapeModel" "newBack" "[J"), (Jvm.Cond.constantLong "DerivativeTapeModel" (81 : Nat) (65521 : Int64)), (Jvm.Cond.fieldLink "DerivativeTapeModel" (83 : Nat) "DerivativeTapeModel" "nodes" "I"), (Jvm.Cond.fieldLink "DerivativeTapeModel" (87 : Nat) "DerivativeTapeModel" "inputs" "I"), (Jvm.Cond.fieldLink "DerivativeTapeModel" (90 : Nat) "DerivativeTapeModel" "outputs" "I"), (Jvm.Cond.methodLink "DerivativeTapeModel" (93 : Nat) ({ cls := "DerivativeTapeModel", name := "make", desc := "(IIIJ)I" } : Jvm.MethodName)), (Jvm.Cond.methodLink "DerivativeTapeModel" (97 : Nat) ({ cls := "DerivativeTapeModel", name := "number", desc := "(I)J" } : Jvm.MethodName)), (Jvm.Cond.methodLink "DerivativeTapeModel" (101 : Nat) ({ cls := "DerivativeTapeModel", name := "isNode", desc := "(I)Z" } : Jvm.MethodName)), (Jvm.Cond.methodLink "DerivativeTapeModel" (105 : Nat) ({ cls := "DerivativeTapeModel", name := "isInput", desc := "(I)Z" } : Jvm.MethodName)), (Jvm.Cond.methodLink "DerivativeTapeModel" (108 : Nat) ({ cls := "DerivativeTapeModel", name := "isOutput", desc := "(I)Z" } : Jvm.MethodName)), (Jvm.Cond.constantLong "DerivativeTapeModel" (111 : Nat) (65519 : Int64)), (Jvm.Cond.methodLink "DerivativeTapeModel" (113 : Nat) ({ cls := "DerivativeTapeModel", name := "inverse", desc := "(J)J" } : Jvm.MethodName)), (Jvm.Cond.methodLink "DerivativeTapeModel" (117 : Nat) ({ cls := "DerivativeTapeModel", name := "one", desc := "(IJ)V" } : Jvm.MethodName)), (Jvm.Cond.methodLink "DerivativeTapeModel" (121 : Nat) ({ cls := "DerivativeTapeModel", name := "copy", desc := "(II)V" } : Jvm.MethodName)), (Jvm.Cond.methodLink "DerivativeTapeModel" (125 : Nat) ({ cls := "DerivativeTapeModel", name := "divide", desc := "(III)V" } : Jvm.MethodName)), (Jvm.Cond.methodLink "DerivativeTapeModel" (129 : Nat) ({ cls := "DerivativeTapeModel", name := "times", desc := "(II)V" } : Jvm.MethodName)), (Jvm.Cond.methodLink "DerivativeTapeModel" (132 : Nat) ({ cls := "DerivativeTapeModel", name := "work", desc := "(I)V" } : Jvm.MethodName)), (Jvm.Cond.methodLink "DerivativeTapeModel" (136 : Nat) ({ cls := "DerivativeTapeModel", name := "sweep", desc := "()V" } : Jvm.MethodName)), (Jvm.Cond.methodLink "DerivativeTapeModel" (139 : Nat) ({ cls := "DerivativeTapeModel", name := "aim", desc := "(ZII)V" } : Jvm.MethodName)), (Jvm.Cond.methodLink "DerivativeTapeModel" (143 : Nat) ({ cls := "DerivativeTapeModel", name := "taylor", desc := "(II)I" } : Jvm.MethodName)), (Jvm.Cond.methodLink "DerivativeTapeModel" (147 : Nat) ({ cls := "DerivativeTapeModel", name := "coefficient", desc := "(II)I" } : Jvm.MethodName)), (Jvm.Cond.methodLink "DerivativeTapeModel" (150 : Nat) ({ cls := "DerivativeTapeModel", name := "entry", desc := "(II)I" } : Jvm.MethodName)), (Jvm.Cond.constantLong "DerivativeTapeModel" (153 : Nat) (2 : Int64)), (Jvm.Cond.methodLink "DerivativeTapeModel" (155 : Nat) ({ cls := "DerivativeTapeModel", name := "depends", desc := "(II)Z" } : Jvm.MethodName)), (Jvm.Cond.methodLink "DerivativeTapeModel" (159 : Nat) ({ cls := "DerivativeTapeModel", name := "conflict", desc := "(II)Z" } : Jvm.MethodName)), (Jvm.Cond.methodLink "DerivativeTapeModel" (162 : Nat) ({ cls := "DerivativeTapeModel", name := "shade", desc := "()V" } : Jvm.MethodName)), (Jvm.Cond.methodLink "DerivativeTapeModel" (165 : Nat) ({ cls := "DerivativeTapeModel", name := "operandsFolded", desc := "(I)Z" } : Jvm.MethodName)), (Jvm.Cond.methodLink "DerivativeTapeModel" (168 : Nat) ({ cls := "DerivativeTapeModel", name := "alike", desc := "(II)Z" } : Jvm.MethodName)), (Jvm.Cond.methodLink "DerivativeTapeModel" (171 : Nat) ({ cls := "DerivativeTapeModel", name := "step", desc := "()I" } : Jvm.MethodName)), (Jvm.Cond.fieldLink "DerivativeTapeModel" (175 : Nat) "DerivativeTapeModel" "length" "I"), (Jvm.Cond.methodLink "DerivativeTapeModel" (178 : Nat) ({ cls := "DerivativeTapeModel", name := "steps", desc := "(II)I" } : Jvm.MethodName))]
theorem ma_wo6_in : ∀ w ∈ ma_wo6, w ∈ ma_W := by
  have h : ∀ q ∈ [(512, (Jvm.Cond.methodLink "DerivativeTapeModel" (1 : Nat) ({ cls := "java/lang/Object", name := "<init>", desc := "()V" } : Jvm.MethodName))), (514, (Jvm.Cond.fieldLink "DerivativeTapeModel" (7 : Nat) "DerivativeTapeModel" "kind" "[I")), (515, (Jvm.Cond.fieldLink "DerivativeTapeModel" (13 : Nat) "DerivativeTapeModel" "left" "[I")), (516, (Jvm.Cond.fieldLink "DerivativeTapeModel" (16 : Nat) "DerivativeTapeModel" "right" "[I")), (517, (Jvm.Cond.fieldLink "DerivativeTapeModel" (19 : Nat) "DerivativeTapeModel" "fixed" "[J")), (519, (Jvm.Cond.fieldLink "DerivativeTapeModel" (23 : Nat) "DerivativeTapeModel" "inputNode" "[I")), (520, (Jvm.Cond.fieldLink "DerivativeTapeModel" (26 : Nat) "DerivativeTapeModel" "here" "[J")), (521, (Jvm.Cond.fieldLink "DerivativeTapeModel" (29 : Nat) "DerivativeTapeModel" "way" "[J")), (523, (Jvm.Cond.fieldLink "DerivativeTapeModel" (32 : Nat) "DerivativeTapeModel" "out" "[I")), (524, (Jvm.Cond.fieldLink "DerivativeTapeModel" (35 : Nat) "DerivativeTapeModel" "weights" "[J")), (525, (Jvm.Cond.fieldLink "DerivativeTapeModel" (38 : Nat) "DerivativeTapeModel" "line" "[J")), (526, (Jvm.Cond.fieldLink "DerivativeTapeModel" (41 : Nat) "DerivativeTapeModel" "series" "[J")), (527, (Jvm.Cond.fieldLink "DerivativeTapeModel" (44 : Nat) "DerivativeTapeModel" "product" "[J")), (528, (Jvm.Cond.fieldLink "DerivativeTapeModel" (47 : Nat) "DerivativeTapeModel" "undefined" "[Z")), (529, (Jvm.Cond.fieldLink "DerivativeTapeModel" (51 : Nat) "DerivativeTapeModel" "rough" "[Z")), (530, (Jvm.Cond.fieldLink "DerivativeTapeModel" (54 : Nat) "DerivativeTapeModel" "mark" "[Z")), (531, (Jvm.Cond.fieldLink "DerivativeTapeModel" (57 : Nat) "DerivativeTapeModel" "shades" "[I")), (532, (Jvm.Cond.fieldLink "DerivativeTapeModel" (60 : Nat) "DerivativeTapeModel" "folded" "[Z")), (533, (Jvm.Cond.fieldLink "DerivativeTapeModel" (63 : Nat) "DerivativeTapeModel" "same" "[Z")), (534, (Jvm.Cond.fieldLink "DerivativeTapeModel" (66 : Nat) "DerivativeTapeModel" "least" "[I")), (536, (Jvm.Cond.fieldLink "DerivativeTapeModel" (69 : Nat) "DerivativeTapeModel" "came" "[J")), (537, (Jvm.Cond.fieldLink "DerivativeTapeModel" (72 : Nat) "DerivativeTapeModel" "back" "[J")), (538, (Jvm.Cond.fieldLink "DerivativeTapeModel" (75 : Nat) "DerivativeTapeModel" "newCame" "[J")), (539, (Jvm.Cond.fieldLink "DerivativeTapeModel" (78 : Nat) "DerivativeTapeModel" "newBack" "[J")), (611, (Jvm.Cond.constantLong "DerivativeTapeModel" (81 : Nat) (65521 : Int64))), (513, (Jvm.Cond.fieldLink "DerivativeTapeModel" (83 : Nat) "DerivativeTapeModel" "nodes" "I")), (518, (Jvm.Cond.fieldLink "DerivativeTapeModel" (87 : Nat) "DerivativeTapeModel" "inputs" "I")), (522, (Jvm.Cond.fieldLink "DerivativeTapeModel" (90 : Nat) "DerivativeTapeModel" "outputs" "I")), (600, (Jvm.Cond.methodLink "DerivativeTapeModel" (93 : Nat) ({ cls := "DerivativeTapeModel", name := "make", desc := "(IIIJ)I" } : Jvm.MethodName))), (608, (Jvm.Cond.methodLink "DerivativeTapeModel" (97 : Nat) ({ cls := "DerivativeTapeModel", name := "number", desc := "(I)J" } : Jvm.MethodName))), (616, (Jvm.Cond.methodLink "DerivativeTapeModel" (101 : Nat) ({ cls := "DerivativeTapeModel", name := "isNode", desc := "(I)Z" } : Jvm.MethodName))), (628, (Jvm.Cond.methodLink "DerivativeTapeModel" (105 : Nat) ({ cls := "DerivativeTapeModel", name := "isInput", desc := "(I)Z" } : Jvm.MethodName))), (640, (Jvm.Cond.methodLink "DerivativeTapeModel" (108 : Nat) ({ cls := "DerivativeTapeModel", name := "isOutput", desc := "(I)Z" } : Jvm.MethodName))), (675, (Jvm.Cond.constantLong "DerivativeTapeModel" (111 : Nat) (65519 : Int64))), (672, (Jvm.Cond.methodLink "DerivativeTapeModel" (113 : Nat) ({ cls := "DerivativeTapeModel", name := "inverse", desc := "(J)J" } : Jvm.MethodName))), (656, (Jvm.Cond.methodLink "DerivativeTapeModel" (117 : Nat) ({ cls := "DerivativeTapeModel", name := "one", desc := "(IJ)V" } : Jvm.MethodName))), (664, (Jvm.Cond.methodLink "DerivativeTapeModel" (121 : Nat) ({ cls := "DerivativeTapeModel", name := "copy", desc := "(II)V" } : Jvm.MethodName))), (668, (Jvm.Cond.methodLink "DerivativeTapeModel" (125 : Nat) ({ cls := "DerivativeTapeModel", name := "divide", desc := "(III)V" } : Jvm.MethodName))), (676, (Jvm.Cond.methodLink "DerivativeTapeModel" (129 : Nat) ({ cls := "DerivativeTapeModel", name := "times", desc := "(II)V" } : Jvm.MethodName))), (660, (Jvm.Cond.methodLink "DerivativeTapeModel" (132 : Nat) ({ cls := "DerivativeTapeModel", name := "work", desc := "(I)V" } : Jvm.MethodName))), (652, (Jvm.Cond.methodLink "DerivativeTapeModel" (136 : Nat) ({ cls := "DerivativeTapeModel", name := "sweep", desc := "()V" } : Jvm.MethodName))), (648, (Jvm.Cond.methodLink "DerivativeTapeModel" (139 : Nat) ({ cls := "DerivativeTapeModel", name := "aim", desc := "(ZII)V" } : Jvm.MethodName))), (684, (Jvm.Cond.methodLink "DerivativeTapeModel" (143 : Nat) ({ cls := "DerivativeTapeModel", name := "taylor", desc := "(II)I" } : Jvm.MethodName))), (688, (Jvm.Cond.methodLink "DerivativeTapeModel" (147 : Nat) ({ cls := "DerivativeTapeModel", name := "coefficient", desc := "(II)I" } : Jvm.MethodName))), (701, (Jvm.Cond.methodLink "DerivativeTapeModel" (150 : Nat) ({ cls := "DerivativeTapeModel", name := "entry", desc := "(II)I" } : Jvm.MethodName))), (706, (Jvm.Cond.constantLong "DerivativeTapeModel" (153 : Nat) (2 : Int64))), (723, (Jvm.Cond.methodLink "DerivativeTapeModel" (155 : Nat) ({ cls := "DerivativeTapeModel", name := "depends", desc := "(II)Z" } : Jvm.MethodName))), (719, (Jvm.Cond.methodLink "DerivativeTapeModel" (159 : Nat) ({ cls := "DerivativeTapeModel", name := "conflict", desc := "(II)Z" } : Jvm.MethodName))), (715, (Jvm.Cond.methodLink "DerivativeTapeModel" (162 : Nat) ({ cls := "DerivativeTapeModel", name := "shade", desc := "()V" } : Jvm.MethodName))), (732, (Jvm.Cond.methodLink "DerivativeTapeModel" (165 : Nat) ({ cls := "DerivativeTapeModel", name := "operandsFolded", desc := "(I)Z" } : Jvm.MethodName))), (736, (Jvm.Cond.methodLink "DerivativeTapeModel" (168 : Nat) ({ cls := "DerivativeTapeModel", name := "alike", desc := "(II)Z" } : Jvm.MethodName))), (744, (Jvm.Cond.methodLink "DerivativeTapeModel" (171 : Nat) ({ cls := "DerivativeTapeModel", name := "step", desc := "()I" } : Jvm.MethodName))), (535, (Jvm.Cond.fieldLink "DerivativeTapeModel" (175 : Nat) "DerivativeTapeModel" "length" "I")), (748, (Jvm.Cond.methodLink "DerivativeTapeModel" (178 : Nat) ({ cls := "DerivativeTapeModel", name := "steps", desc := "(II)I" } : Jvm.MethodName)))], lw_tbl[q.1]? = some q.2 ∧ goodWord q.2 = true := by decide +kernel
  intro w hw
  have e : ma_wo6 = ([(512, (Jvm.Cond.methodLink "DerivativeTapeModel" (1 : Nat) ({ cls := "java/lang/Object", name := "<init>", desc := "()V" } : Jvm.MethodName))), (514, (Jvm.Cond.fieldLink "DerivativeTapeModel" (7 : Nat) "DerivativeTapeModel" "kind" "[I")), (515, (Jvm.Cond.fieldLink "DerivativeTapeModel" (13 : Nat) "DerivativeTapeModel" "left" "[I")), (516, (Jvm.Cond.fieldLink "DerivativeTapeModel" (16 : Nat) "DerivativeTapeModel" "right" "[I")), (517, (Jvm.Cond.fieldLink "DerivativeTapeModel" (19 : Nat) "DerivativeTapeModel" "fixed" "[J")), (519, (Jvm.Cond.fieldLink "DerivativeTapeModel" (23 : Nat) "DerivativeTapeModel" "inputNode" "[I")), (520, (Jvm.Cond.fieldLink "DerivativeTapeModel" (26 : Nat) "DerivativeTapeModel" "here" "[J")), (521, (Jvm.Cond.fieldLink "DerivativeTapeModel" (29 : Nat) "DerivativeTapeModel" "way" "[J")), (523, (Jvm.Cond.fieldLink "DerivativeTapeModel" (32 : Nat) "DerivativeTapeModel" "out" "[I")), (524, (Jvm.Cond.fieldLink "DerivativeTapeModel" (35 : Nat) "DerivativeTapeModel" "weights" "[J")), (525, (Jvm.Cond.fieldLink "DerivativeTapeModel" (38 : Nat) "DerivativeTapeModel" "line" "[J")), (526, (Jvm.Cond.fieldLink "DerivativeTapeModel" (41 : Nat) "DerivativeTapeModel" "series" "[J")), (527, (Jvm.Cond.fieldLink "DerivativeTapeModel" (44 : Nat) "DerivativeTapeModel" "product" "[J")), (528, (Jvm.Cond.fieldLink "DerivativeTapeModel" (47 : Nat) "DerivativeTapeModel" "undefined" "[Z")), (529, (Jvm.Cond.fieldLink "DerivativeTapeModel" (51 : Nat) "DerivativeTapeModel" "rough" "[Z")), (530, (Jvm.Cond.fieldLink "DerivativeTapeModel" (54 : Nat) "DerivativeTapeModel" "mark" "[Z")), (531, (Jvm.Cond.fieldLink "DerivativeTapeModel" (57 : Nat) "DerivativeTapeModel" "shades" "[I")), (532, (Jvm.Cond.fieldLink "DerivativeTapeModel" (60 : Nat) "DerivativeTapeModel" "folded" "[Z")), (533, (Jvm.Cond.fieldLink "DerivativeTapeModel" (63 : Nat) "DerivativeTapeModel" "same" "[Z")), (534, (Jvm.Cond.fieldLink "DerivativeTapeModel" (66 : Nat) "DerivativeTapeModel" "least" "[I")), (536, (Jvm.Cond.fieldLink "DerivativeTapeModel" (69 : Nat) "DerivativeTapeModel" "came" "[J")), (537, (Jvm.Cond.fieldLink "DerivativeTapeModel" (72 : Nat) "DerivativeTapeModel" "back" "[J")), (538, (Jvm.Cond.fieldLink "DerivativeTapeModel" (75 : Nat) "DerivativeTapeModel" "newCame" "[J")), (539, (Jvm.Cond.fieldLink "DerivativeTapeModel" (78 : Nat) "DerivativeTapeModel" "newBack" "[J")), (611, (Jvm.Cond.constantLong "DerivativeTapeModel" (81 : Nat) (65521 : Int64))), (513, (Jvm.Cond.fieldLink "DerivativeTapeModel" (83 : Nat) "DerivativeTapeModel" "nodes" "I")), (518, (Jvm.Cond.fieldLink "DerivativeTapeModel" (87 : Nat) "DerivativeTapeModel" "inputs" "I")), (522, (Jvm.Cond.fieldLink "DerivativeTapeModel" (90 : Nat) "DerivativeTapeModel" "outputs" "I")), (600, (Jvm.Cond.methodLink "DerivativeTapeModel" (93 : Nat) ({ cls := "DerivativeTapeModel", name := "make", desc := "(IIIJ)I" } : Jvm.MethodName))), (608, (Jvm.Cond.methodLink "DerivativeTapeModel" (97 : Nat) ({ cls := "DerivativeTapeModel", name := "number", desc := "(I)J" } : Jvm.MethodName))), (616, (Jvm.Cond.methodLink "DerivativeTapeModel" (101 : Nat) ({ cls := "DerivativeTapeModel", name := "isNode", desc := "(I)Z" } : Jvm.MethodName))), (628, (Jvm.Cond.methodLink "DerivativeTapeModel" (105 : Nat) ({ cls := "DerivativeTapeModel", name := "isInput", desc := "(I)Z" } : Jvm.MethodName))), (640, (Jvm.Cond.methodLink "DerivativeTapeModel" (108 : Nat) ({ cls := "DerivativeTapeModel", name := "isOutput", desc := "(I)Z" } : Jvm.MethodName))), (675, (Jvm.Cond.constantLong "DerivativeTapeModel" (111 : Nat) (65519 : Int64))), (672, (Jvm.Cond.methodLink "DerivativeTapeModel" (113 : Nat) ({ cls := "DerivativeTapeModel", name := "inverse", desc := "(J)J" } : Jvm.MethodName))), (656, (Jvm.Cond.methodLink "DerivativeTapeModel" (117 : Nat) ({ cls := "DerivativeTapeModel", name := "one", desc := "(IJ)V" } : Jvm.MethodName))), (664, (Jvm.Cond.methodLink "DerivativeTapeModel" (121 : Nat) ({ cls := "DerivativeTapeModel", name := "copy", desc := "(II)V" } : Jvm.MethodName))), (668, (Jvm.Cond.methodLink "DerivativeTapeModel" (125 : Nat) ({ cls := "DerivativeTapeModel", name := "divide", desc := "(III)V" } : Jvm.MethodName))), (676, (Jvm.Cond.methodLink "DerivativeTapeModel" (129 : Nat) ({ cls := "DerivativeTapeModel", name := "times", desc := "(II)V" } : Jvm.MethodName))), (660, (Jvm.Cond.methodLink "DerivativeTapeModel" (132 : Nat) ({ cls := "DerivativeTapeModel", name := "work", desc := "(I)V" } : Jvm.MethodName))), (652, (Jvm.Cond.methodLink "DerivativeTapeModel" (136 : Nat) ({ cls := "DerivativeTapeModel", name := "sweep", desc := "()V" } : Jvm.MethodName))), (648, (Jvm.Cond.methodLink "DerivativeTapeModel" (139 : Nat) ({ cls := "DerivativeTapeModel", name := "aim", desc := "(ZII)V" } : Jvm.MethodName))), (684, (Jvm.Cond.methodLink "DerivativeTapeModel" (143 : Nat) ({ cls := "DerivativeTapeModel", name := "taylor", desc := "(II)I" } : Jvm.MethodName))), (688, (Jvm.Cond.methodLink "DerivativeTapeModel" (147 : Nat) ({ cls := "DerivativeTapeModel", name := "coefficient", desc := "(II)I" } : Jvm.MethodName))), (701, (Jvm.Cond.methodLink "DerivativeTapeModel" (150 : Nat) ({ cls := "DerivativeTapeModel", name := "entry", desc := "(II)I" } : Jvm.MethodName))), (706, (Jvm.Cond.constantLong "DerivativeTapeModel" (153 : Nat) (2 : Int64))), (723, (Jvm.Cond.methodLink "DerivativeTapeModel" (155 : Nat) ({ cls := "DerivativeTapeModel", name := "depends", desc := "(II)Z" } : Jvm.MethodName))), (719, (Jvm.Cond.methodLink "DerivativeTapeModel" (159 : Nat) ({ cls := "DerivativeTapeModel", name := "conflict", desc := "(II)Z" } : Jvm.MethodName))), (715, (Jvm.Cond.methodLink "DerivativeTapeModel" (162 : Nat) ({ cls := "DerivativeTapeModel", name := "shade", desc := "()V" } : Jvm.MethodName))), (732, (Jvm.Cond.methodLink "DerivativeTapeModel" (165 : Nat) ({ cls := "DerivativeTapeModel", name := "operandsFolded", desc := "(I)Z" } : Jvm.MethodName))), (736, (Jvm.Cond.methodLink "DerivativeTapeModel" (168 : Nat) ({ cls := "DerivativeTapeModel", name := "alike", desc := "(II)Z" } : Jvm.MethodName))), (744, (Jvm.Cond.methodLink "DerivativeTapeModel" (171 : Nat) ({ cls := "DerivativeTapeModel", name := "step", desc := "()I" } : Jvm.MethodName))), (535, (Jvm.Cond.fieldLink "DerivativeTapeModel" (175 : Nat) "DerivativeTapeModel" "length" "I")), (748, (Jvm.Cond.methodLink "DerivativeTapeModel" (178 : Nat) ({ cls := "DerivativeTapeModel", name := "steps", desc := "(II)I" } : Jvm.MethodName)))] : List (Nat × Cond)).map (fun q => q.2) := rfl
  rw [e] at hw
  obtain ⟨q, hq, rfl⟩ := List.mem_map.mp hw
  exact ma_W_i (h q hq).1 (h q hq).2
def ma_wo7 : List Cond := [(Jvm.Cond.constantLong "DerivativeTape$Numbers" (9 : Nat) (65521 : Int64)), (Jvm.Cond.constant "DerivativeTape$Numbers" (11 : Nat) (65521 : Int32))]
theorem ma_wo7_in : ∀ w ∈ ma_wo7, w ∈ ma_W := by
  have h : ∀ q ∈ [(246, (Jvm.Cond.constantLong "DerivativeTape$Numbers" (9 : Nat) (65521 : Int64))), (247, (Jvm.Cond.constant "DerivativeTape$Numbers" (11 : Nat) (65521 : Int32)))], lw_tbl[q.1]? = some q.2 ∧ goodWord q.2 = true := by decide +kernel
  intro w hw
  have e : ma_wo7 = ([(246, (Jvm.Cond.constantLong "DerivativeTape$Numbers" (9 : Nat) (65521 : Int64))), (247, (Jvm.Cond.constant "DerivativeTape$Numbers" (11 : Nat) (65521 : Int32)))] : List (Nat × Cond)).map (fun q => q.2) := rfl
  rw [e] at hw
  obtain ⟨q, hq, rfl⟩ := List.mem_map.mp hw
  exact ma_W_i (h q hq).1 (h q hq).2
def ma_wo8 : List Cond := [(Jvm.Cond.classLink "DerivativeTapeLaw" (7 : Nat) "DerivativeTape"), (Jvm.Cond.methodLink "DerivativeTapeLaw" (9 : Nat) ({ cls := "DerivativeTape", name := "<init>", desc := "()V" } : Jvm.MethodName)), (Jvm.Cond.classLink "DerivativeTapeLaw" (10 : Nat) "DerivativeTapeModel"), (Jvm.Cond.methodLink "DerivativeTapeLaw" (12 : Nat) ({ cls := "DerivativeTapeModel", name := "<init>", desc := "()V" } : Jvm.MethodName)), (Jvm.Cond.methodLink "DerivativeTapeLaw" (13 : Nat) ({ cls := "DerivativeTape", name := "input", desc := "()I" } : Jvm.MethodName)), (Jvm.Cond.methodLink "DerivativeTapeLaw" (17 : Nat) ({ cls := "DerivativeTapeModel", name := "input", desc := "()I" } : Jvm.MethodName)), (Jvm.Cond.methodLink "DerivativeTapeLaw" (18 : Nat) ({ cls := "DerivativeTape", name := "constant", desc := "(I)I" } : Jvm.MethodName)), (Jvm.Cond.methodLink "DerivativeTapeLaw" (22 : Nat) ({ cls := "DerivativeTapeModel", name := "constant", desc := "(I)I" } : Jvm.MethodName)), (Jvm.Cond.methodLink "DerivativeTapeLaw" (23 : Nat) ({ cls := "DerivativeTape", name := "operation", desc := "(III)I" } : Jvm.MethodName)), (Jvm.Cond.methodLink "DerivativeTapeLaw" (27 : Nat) ({ cls := "DerivativeTapeModel", name := "operation", desc := "(III)I" } : Jvm.MethodName)), (Jvm.Cond.methodLink "DerivativeTapeLaw" (28 : Nat) ({ cls := "DerivativeTape", name := "output", desc := "(I)I" } : Jvm.MethodName)), (Jvm.Cond.methodLink "DerivativeTapeLaw" (31 : Nat) ({ cls := "DerivativeTapeModel", name := "output", desc := "(I)I" } : Jvm.MethodName)), (Jvm.Cond.methodLink "DerivativeTapeLaw" (32 : Nat) ({ cls := "DerivativeTape", name := "point", desc := "(II)Z" } : Jvm.MethodName)), (Jvm.Cond.methodLink "DerivativeTapeLaw" (36 : Nat) ({ cls := "DerivativeTapeModel", name := "point", desc := "(II)Z" } : Jvm.MethodName)), (Jvm.Cond.methodLink "DerivativeTapeLaw" (37 : Nat) ({ cls := "DerivativeTape", name := "direction", desc := "(II)Z" } : Jvm.MethodName)), (Jvm.Cond.methodLink "DerivativeTapeLaw" (40 : Nat) ({ cls := "DerivativeTapeModel", name := "direction", desc := "(II)Z" } : Jvm.MethodName)), (Jvm.Cond.methodLink "DerivativeTapeLaw" (41 : Nat) ({ cls := "DerivativeTape", name := "weight", desc := "(II)Z" } : Jvm.MethodName)), (Jvm.Cond.methodLink "DerivativeTapeLaw" (44 : Nat) ({ cls := "DerivativeTapeModel", name := "weight", desc := "(II)Z" } : Jvm.MethodName)), (Jvm.Cond.methodLink "DerivativeTapeLaw" (45 : Nat) ({ cls := "DerivativeTape", name := "value", desc := "(I)I" } : Jvm.MethodName)), (Jvm.Cond.methodLink "DerivativeTapeLaw" (48 : Nat) ({ cls := "DerivativeTapeModel", name := "value", desc := "(I)I" } : Jvm.MethodName)), (Jvm.Cond.methodLink "DerivativeTapeLaw" (49 : Nat) ({ cls := "DerivativeTape", name := "forward", desc := "(I)I" } : Jvm.MethodName)), (Jvm.Cond.methodLink "DerivativeTapeLaw" (52 : Nat) ({ cls := "DerivativeTapeModel", name := "forward", desc := "(I)I" } : Jvm.MethodName)), (Jvm.Cond.methodLink "DerivativeTapeLaw" (53 : Nat) ({ cls := "DerivativeTape", name := "reverse", desc := "(I)I" } : Jvm.MethodName)), (Jvm.Cond.methodLink "DerivativeTapeLaw" (56 : Nat) ({ cls := "DerivativeTapeModel", name := "reverse", desc := "(I)I" } : Jvm.MethodName)), (Jvm.Cond.methodLink "DerivativeTapeLaw" (57 : Nat) ({ cls := "DerivativeTape", name := "taylor", desc := "(II)I" } : Jvm.MethodName)), (Jvm.Cond.methodLink "DerivativeTapeLaw" (61 : Nat) ({ cls := "DerivativeTapeModel", name := "taylor", desc := "(II)I" } : Jvm.MethodName)), (Jvm.Cond.methodLink "DerivativeTapeLaw" (62 : Nat) ({ cls := "DerivativeTape", name := "second", desc := "(III)I" } : Jvm.MethodName)), (Jvm.Cond.methodLink "DerivativeTapeLaw" (65 : Nat) ({ cls := "DerivativeTapeModel", name := "second", desc := "(III)I" } : Jvm.MethodName)), (Jvm.Cond.methodLink "DerivativeTapeLaw" (66 : Nat) ({ cls := "DerivativeTape", name := "depends", desc := "(II)Z" } : Jvm.MethodName)), (Jvm.Cond.methodLink "DerivativeTapeLaw" (69 : Nat) ({ cls := "DerivativeTapeModel", name := "depends", desc := "(II)Z" } : Jvm.MethodName)), (Jvm.Cond.methodLink "DerivativeTapeLaw" (70 : Nat) ({ cls := "DerivativeTape", name := "colour", desc := "(I)I" } : Jvm.MethodName)), (Jvm.Cond.methodLink "DerivativeTapeLaw" (73 : Nat) ({ cls := "DerivativeTapeModel", name := "colour", desc := "(I)I" } : Jvm.MethodName)), (Jvm.Cond.methodLink "DerivativeTapeLaw" (74 : Nat) ({ cls := "DerivativeTape", name := "colours", desc := "()I" } : Jvm.MethodName)), (Jvm.Cond.methodLink "DerivativeTapeLaw" (77 : Nat) ({ cls := "DerivativeTapeModel", name := "colours", desc := "()I" } : Jvm.MethodName)), (Jvm.Cond.methodLink "DerivativeTapeLaw" (78 : Nat) ({ cls := "DerivativeTape", name := "entry", desc := "(II)I" } : Jvm.MethodName)), (Jvm.Cond.methodLink "DerivativeTapeLaw" (81 : Nat) ({ cls := "DerivativeTapeModel", name := "entry", desc := "(II)I" } : Jvm.MethodName)), (Jvm.Cond.methodLink "DerivativeTapeLaw" (82 : Nat) ({ cls := "DerivativeTape", name := "size", desc := "()I" } : Jvm.MethodName)), (Jvm.Cond.methodLink "DerivativeTapeLaw" (85 : Nat) ({ cls := "DerivativeTapeModel", name := "size", desc := "()I" } : Jvm.MethodName)), (Jvm.Cond.methodLink "DerivativeTapeLaw" (86 : Nat) ({ cls := "DerivativeTape", name := "march", desc := "(II)I" } : Jvm.MethodName)), (Jvm.Cond.methodLink "DerivativeTapeLaw" (89 : Nat) ({ cls := "DerivativeTapeModel", name := "march", desc := "(II)I" } : Jvm.MethodName)), (Jvm.Cond.methodLink "DerivativeTapeLaw" (90 : Nat) ({ cls := "DerivativeTape", name := "arrived", desc := "(I)I" } : Jvm.MethodName)), (Jvm.Cond.methodLink "DerivativeTapeLaw" (93 : Nat) ({ cls := "DerivativeTapeModel", name := "arrived", desc := "(I)I" } : Jvm.MethodName)), (Jvm.Cond.methodLink "DerivativeTapeLaw" (94 : Nat) ({ cls := "DerivativeTape", name := "adjoint", desc := "(I)I" } : Jvm.MethodName)), (Jvm.Cond.methodLink "DerivativeTapeLaw" (97 : Nat) ({ cls := "DerivativeTapeModel", name := "adjoint", desc := "(I)I" } : Jvm.MethodName))]
theorem ma_wo8_in : ∀ w ∈ ma_wo8, w ∈ ma_W := by
  have h : ∀ q ∈ [(51, (Jvm.Cond.classLink "DerivativeTapeLaw" (7 : Nat) "DerivativeTape")), (53, (Jvm.Cond.methodLink "DerivativeTapeLaw" (9 : Nat) ({ cls := "DerivativeTape", name := "<init>", desc := "()V" } : Jvm.MethodName))), (507, (Jvm.Cond.classLink "DerivativeTapeLaw" (10 : Nat) "DerivativeTapeModel")), (509, (Jvm.Cond.methodLink "DerivativeTapeLaw" (12 : Nat) ({ cls := "DerivativeTapeModel", name := "<init>", desc := "()V" } : Jvm.MethodName))), (223, (Jvm.Cond.methodLink "DerivativeTapeLaw" (13 : Nat) ({ cls := "DerivativeTape", name := "input", desc := "()I" } : Jvm.MethodName))), (596, (Jvm.Cond.methodLink "DerivativeTapeLaw" (17 : Nat) ({ cls := "DerivativeTapeModel", name := "input", desc := "()I" } : Jvm.MethodName))), (239, (Jvm.Cond.methodLink "DerivativeTapeLaw" (18 : Nat) ({ cls := "DerivativeTape", name := "constant", desc := "(I)I" } : Jvm.MethodName))), (604, (Jvm.Cond.methodLink "DerivativeTapeLaw" (22 : Nat) ({ cls := "DerivativeTapeModel", name := "constant", desc := "(I)I" } : Jvm.MethodName))), (252, (Jvm.Cond.methodLink "DerivativeTapeLaw" (23 : Nat) ({ cls := "DerivativeTape", name := "operation", desc := "(III)I" } : Jvm.MethodName))), (612, (Jvm.Cond.methodLink "DerivativeTapeLaw" (27 : Nat) ({ cls := "DerivativeTapeModel", name := "operation", desc := "(III)I" } : Jvm.MethodName))), (264, (Jvm.Cond.methodLink "DerivativeTapeLaw" (28 : Nat) ({ cls := "DerivativeTape", name := "output", desc := "(I)I" } : Jvm.MethodName))), (620, (Jvm.Cond.methodLink "DerivativeTapeLaw" (31 : Nat) ({ cls := "DerivativeTapeModel", name := "output", desc := "(I)I" } : Jvm.MethodName))), (268, (Jvm.Cond.methodLink "DerivativeTapeLaw" (32 : Nat) ({ cls := "DerivativeTape", name := "point", desc := "(II)Z" } : Jvm.MethodName))), (624, (Jvm.Cond.methodLink "DerivativeTapeLaw" (36 : Nat) ({ cls := "DerivativeTapeModel", name := "point", desc := "(II)Z" } : Jvm.MethodName))), (276, (Jvm.Cond.methodLink "DerivativeTapeLaw" (37 : Nat) ({ cls := "DerivativeTape", name := "direction", desc := "(II)Z" } : Jvm.MethodName))), (632, (Jvm.Cond.methodLink "DerivativeTapeLaw" (40 : Nat) ({ cls := "DerivativeTapeModel", name := "direction", desc := "(II)Z" } : Jvm.MethodName))), (280, (Jvm.Cond.methodLink "DerivativeTapeLaw" (41 : Nat) ({ cls := "DerivativeTape", name := "weight", desc := "(II)Z" } : Jvm.MethodName))), (636, (Jvm.Cond.methodLink "DerivativeTapeLaw" (44 : Nat) ({ cls := "DerivativeTapeModel", name := "weight", desc := "(II)Z" } : Jvm.MethodName))), (288, (Jvm.Cond.methodLink "DerivativeTapeLaw" (45 : Nat) ({ cls := "DerivativeTape", name := "value", desc := "(I)I" } : Jvm.MethodName))), (644, (Jvm.Cond.methodLink "DerivativeTapeLaw" (48 : Nat) ({ cls := "DerivativeTapeModel", name := "value", desc := "(I)I" } : Jvm.MethodName))), (346, (Jvm.Cond.methodLink "DerivativeTapeLaw" (49 : Nat) ({ cls := "DerivativeTape", name := "forward", desc := "(I)I" } : Jvm.MethodName))), (680, (Jvm.Cond.methodLink "DerivativeTapeLaw" (52 : Nat) ({ cls := "DerivativeTapeModel", name := "forward", desc := "(I)I" } : Jvm.MethodName))), (354, (Jvm.Cond.methodLink "DerivativeTapeLaw" (53 : Nat) ({ cls := "DerivativeTape", name := "reverse", desc := "(I)I" } : Jvm.MethodName))), (697, (Jvm.Cond.methodLink "DerivativeTapeLaw" (56 : Nat) ({ cls := "DerivativeTapeModel", name := "reverse", desc := "(I)I" } : Jvm.MethodName))), (394, (Jvm.Cond.methodLink "DerivativeTapeLaw" (57 : Nat) ({ cls := "DerivativeTape", name := "taylor", desc := "(II)I" } : Jvm.MethodName))), (692, (Jvm.Cond.methodLink "DerivativeTapeLaw" (61 : Nat) ({ cls := "DerivativeTapeModel", name := "taylor", desc := "(II)I" } : Jvm.MethodName))), (398, (Jvm.Cond.methodLink "DerivativeTapeLaw" (62 : Nat) ({ cls := "DerivativeTape", name := "second", desc := "(III)I" } : Jvm.MethodName))), (702, (Jvm.Cond.methodLink "DerivativeTapeLaw" (65 : Nat) ({ cls := "DerivativeTapeModel", name := "second", desc := "(III)I" } : Jvm.MethodName))), (411, (Jvm.Cond.methodLink "DerivativeTapeLaw" (66 : Nat) ({ cls := "DerivativeTape", name := "depends", desc := "(II)Z" } : Jvm.MethodName))), (707, (Jvm.Cond.methodLink "DerivativeTapeLaw" (69 : Nat) ({ cls := "DerivativeTapeModel", name := "depends", desc := "(II)Z" } : Jvm.MethodName))), (419, (Jvm.Cond.methodLink "DerivativeTapeLaw" (70 : Nat) ({ cls := "DerivativeTape", name := "colour", desc := "(I)I" } : Jvm.MethodName))), (711, (Jvm.Cond.methodLink "DerivativeTapeLaw" (73 : Nat) ({ cls := "DerivativeTapeModel", name := "colour", desc := "(I)I" } : Jvm.MethodName))), (434, (Jvm.Cond.methodLink "DerivativeTapeLaw" (74 : Nat) ({ cls := "DerivativeTape", name := "colours", desc := "()I" } : Jvm.MethodName))), (724, (Jvm.Cond.methodLink "DerivativeTapeLaw" (77 : Nat) ({ cls := "DerivativeTapeModel", name := "colours", desc := "()I" } : Jvm.MethodName))), (441, (Jvm.Cond.methodLink "DerivativeTapeLaw" (78 : Nat) ({ cls := "DerivativeTape", name := "entry", desc := "(II)I" } : Jvm.MethodName))), (693, (Jvm.Cond.methodLink "DerivativeTapeLaw" (81 : Nat) ({ cls := "DerivativeTapeModel", name := "entry", desc := "(II)I" } : Jvm.MethodName))), (445, (Jvm.Cond.methodLink "DerivativeTapeLaw" (82 : Nat) ({ cls := "DerivativeTape", name := "size", desc := "()I" } : Jvm.MethodName))), (728, (Jvm.Cond.methodLink "DerivativeTapeLaw" (85 : Nat) ({ cls := "DerivativeTapeModel", name := "size", desc := "()I" } : Jvm.MethodName))), (470, (Jvm.Cond.methodLink "DerivativeTapeLaw" (86 : Nat) ({ cls := "DerivativeTape", name := "march", desc := "(II)I" } : Jvm.MethodName))), (740, (Jvm.Cond.methodLink "DerivativeTapeLaw" (89 : Nat) ({ cls := "DerivativeTapeModel", name := "march", desc := "(II)I" } : Jvm.MethodName))), (499, (Jvm.Cond.methodLink "DerivativeTapeLaw" (90 : Nat) ({ cls := "DerivativeTape", name := "arrived", desc := "(I)I" } : Jvm.MethodName))), (752, (Jvm.Cond.methodLink "DerivativeTapeLaw" (93 : Nat) ({ cls := "DerivativeTapeModel", name := "arrived", desc := "(I)I" } : Jvm.MethodName))), (503, (Jvm.Cond.methodLink "DerivativeTapeLaw" (94 : Nat) ({ cls := "DerivativeTape", name := "adjoint", desc := "(I)I" } : Jvm.MethodName))), (756, (Jvm.Cond.methodLink "DerivativeTapeLaw" (97 : Nat) ({ cls := "DerivativeTapeModel", name := "adjoint", desc := "(I)I" } : Jvm.MethodName)))], lw_tbl[q.1]? = some q.2 ∧ goodWord q.2 = true := by decide +kernel
  intro w hw
  have e : ma_wo8 = ([(51, (Jvm.Cond.classLink "DerivativeTapeLaw" (7 : Nat) "DerivativeTape")), (53, (Jvm.Cond.methodLink "DerivativeTapeLaw" (9 : Nat) ({ cls := "DerivativeTape", name := "<init>", desc := "()V" } : Jvm.MethodName))), (507, (Jvm.Cond.classLink "DerivativeTapeLaw" (10 : Nat) "DerivativeTapeModel")), (509, (Jvm.Cond.methodLink "DerivativeTapeLaw" (12 : Nat) ({ cls := "DerivativeTapeModel", name := "<init>", desc := "()V" } : Jvm.MethodName))), (223, (Jvm.Cond.methodLink "DerivativeTapeLaw" (13 : Nat) ({ cls := "DerivativeTape", name := "input", desc := "()I" } : Jvm.MethodName))), (596, (Jvm.Cond.methodLink "DerivativeTapeLaw" (17 : Nat) ({ cls := "DerivativeTapeModel", name := "input", desc := "()I" } : Jvm.MethodName))), (239, (Jvm.Cond.methodLink "DerivativeTapeLaw" (18 : Nat) ({ cls := "DerivativeTape", name := "constant", desc := "(I)I" } : Jvm.MethodName))), (604, (Jvm.Cond.methodLink "DerivativeTapeLaw" (22 : Nat) ({ cls := "DerivativeTapeModel", name := "constant", desc := "(I)I" } : Jvm.MethodName))), (252, (Jvm.Cond.methodLink "DerivativeTapeLaw" (23 : Nat) ({ cls := "DerivativeTape", name := "operation", desc := "(III)I" } : Jvm.MethodName))), (612, (Jvm.Cond.methodLink "DerivativeTapeLaw" (27 : Nat) ({ cls := "DerivativeTapeModel", name := "operation", desc := "(III)I" } : Jvm.MethodName))), (264, (Jvm.Cond.methodLink "DerivativeTapeLaw" (28 : Nat) ({ cls := "DerivativeTape", name := "output", desc := "(I)I" } : Jvm.MethodName))), (620, (Jvm.Cond.methodLink "DerivativeTapeLaw" (31 : Nat) ({ cls := "DerivativeTapeModel", name := "output", desc := "(I)I" } : Jvm.MethodName))), (268, (Jvm.Cond.methodLink "DerivativeTapeLaw" (32 : Nat) ({ cls := "DerivativeTape", name := "point", desc := "(II)Z" } : Jvm.MethodName))), (624, (Jvm.Cond.methodLink "DerivativeTapeLaw" (36 : Nat) ({ cls := "DerivativeTapeModel", name := "point", desc := "(II)Z" } : Jvm.MethodName))), (276, (Jvm.Cond.methodLink "DerivativeTapeLaw" (37 : Nat) ({ cls := "DerivativeTape", name := "direction", desc := "(II)Z" } : Jvm.MethodName))), (632, (Jvm.Cond.methodLink "DerivativeTapeLaw" (40 : Nat) ({ cls := "DerivativeTapeModel", name := "direction", desc := "(II)Z" } : Jvm.MethodName))), (280, (Jvm.Cond.methodLink "DerivativeTapeLaw" (41 : Nat) ({ cls := "DerivativeTape", name := "weight", desc := "(II)Z" } : Jvm.MethodName))), (636, (Jvm.Cond.methodLink "DerivativeTapeLaw" (44 : Nat) ({ cls := "DerivativeTapeModel", name := "weight", desc := "(II)Z" } : Jvm.MethodName))), (288, (Jvm.Cond.methodLink "DerivativeTapeLaw" (45 : Nat) ({ cls := "DerivativeTape", name := "value", desc := "(I)I" } : Jvm.MethodName))), (644, (Jvm.Cond.methodLink "DerivativeTapeLaw" (48 : Nat) ({ cls := "DerivativeTapeModel", name := "value", desc := "(I)I" } : Jvm.MethodName))), (346, (Jvm.Cond.methodLink "DerivativeTapeLaw" (49 : Nat) ({ cls := "DerivativeTape", name := "forward", desc := "(I)I" } : Jvm.MethodName))), (680, (Jvm.Cond.methodLink "DerivativeTapeLaw" (52 : Nat) ({ cls := "DerivativeTapeModel", name := "forward", desc := "(I)I" } : Jvm.MethodName))), (354, (Jvm.Cond.methodLink "DerivativeTapeLaw" (53 : Nat) ({ cls := "DerivativeTape", name := "reverse", desc := "(I)I" } : Jvm.MethodName))), (697, (Jvm.Cond.methodLink "DerivativeTapeLaw" (56 : Nat) ({ cls := "DerivativeTapeModel", name := "reverse", desc := "(I)I" } : Jvm.MethodName))), (394, (Jvm.Cond.methodLink "DerivativeTapeLaw" (57 : Nat) ({ cls := "DerivativeTape", name := "taylor", desc := "(II)I" } : Jvm.MethodName))), (692, (Jvm.Cond.methodLink "DerivativeTapeLaw" (61 : Nat) ({ cls := "DerivativeTapeModel", name := "taylor", desc := "(II)I" } : Jvm.MethodName))), (398, (Jvm.Cond.methodLink "DerivativeTapeLaw" (62 : Nat) ({ cls := "DerivativeTape", name := "second", desc := "(III)I" } : Jvm.MethodName))), (702, (Jvm.Cond.methodLink "DerivativeTapeLaw" (65 : Nat) ({ cls := "DerivativeTapeModel", name := "second", desc := "(III)I" } : Jvm.MethodName))), (411, (Jvm.Cond.methodLink "DerivativeTapeLaw" (66 : Nat) ({ cls := "DerivativeTape", name := "depends", desc := "(II)Z" } : Jvm.MethodName))), (707, (Jvm.Cond.methodLink "DerivativeTapeLaw" (69 : Nat) ({ cls := "DerivativeTapeModel", name := "depends", desc := "(II)Z" } : Jvm.MethodName))), (419, (Jvm.Cond.methodLink "DerivativeTapeLaw" (70 : Nat) ({ cls := "DerivativeTape", name := "colour", desc := "(I)I" } : Jvm.MethodName))), (711, (Jvm.Cond.methodLink "DerivativeTapeLaw" (73 : Nat) ({ cls := "DerivativeTapeModel", name := "colour", desc := "(I)I" } : Jvm.MethodName))), (434, (Jvm.Cond.methodLink "DerivativeTapeLaw" (74 : Nat) ({ cls := "DerivativeTape", name := "colours", desc := "()I" } : Jvm.MethodName))), (724, (Jvm.Cond.methodLink "DerivativeTapeLaw" (77 : Nat) ({ cls := "DerivativeTapeModel", name := "colours", desc := "()I" } : Jvm.MethodName))), (441, (Jvm.Cond.methodLink "DerivativeTapeLaw" (78 : Nat) ({ cls := "DerivativeTape", name := "entry", desc := "(II)I" } : Jvm.MethodName))), (693, (Jvm.Cond.methodLink "DerivativeTapeLaw" (81 : Nat) ({ cls := "DerivativeTapeModel", name := "entry", desc := "(II)I" } : Jvm.MethodName))), (445, (Jvm.Cond.methodLink "DerivativeTapeLaw" (82 : Nat) ({ cls := "DerivativeTape", name := "size", desc := "()I" } : Jvm.MethodName))), (728, (Jvm.Cond.methodLink "DerivativeTapeLaw" (85 : Nat) ({ cls := "DerivativeTapeModel", name := "size", desc := "()I" } : Jvm.MethodName))), (470, (Jvm.Cond.methodLink "DerivativeTapeLaw" (86 : Nat) ({ cls := "DerivativeTape", name := "march", desc := "(II)I" } : Jvm.MethodName))), (740, (Jvm.Cond.methodLink "DerivativeTapeLaw" (89 : Nat) ({ cls := "DerivativeTapeModel", name := "march", desc := "(II)I" } : Jvm.MethodName))), (499, (Jvm.Cond.methodLink "DerivativeTapeLaw" (90 : Nat) ({ cls := "DerivativeTape", name := "arrived", desc := "(I)I" } : Jvm.MethodName))), (752, (Jvm.Cond.methodLink "DerivativeTapeLaw" (93 : Nat) ({ cls := "DerivativeTapeModel", name := "arrived", desc := "(I)I" } : Jvm.MethodName))), (503, (Jvm.Cond.methodLink "DerivativeTapeLaw" (94 : Nat) ({ cls := "DerivativeTape", name := "adjoint", desc := "(I)I" } : Jvm.MethodName))), (756, (Jvm.Cond.methodLink "DerivativeTapeLaw" (97 : Nat) ({ cls := "DerivativeTapeModel", name := "adjoint", desc := "(I)I" } : Jvm.MethodName)))] : List (Nat × Cond)).map (fun q => q.2) := rfl
  rw [e] at hw
  obtain ⟨q, hq, rfl⟩ := List.mem_map.mp hw
  exact ma_W_i (h q hq).1 (h q hq).2
def ma_wo9 : List Cond := []
theorem ma_wo9_in : ∀ w ∈ ma_wo9, w ∈ ma_W := by
  intro w hw
  cases hw
def ma_wg : List Cond := [(Jvm.Cond.instanceMethod ({ cls := "java/lang/Object", name := "<init>", desc := "()V" } : Jvm.MethodName)), (Jvm.Cond.native ({ cls := "java/lang/System", name := "arraycopy", desc := "(Ljava/lang/Object;ILjava/lang/Object;II)V" } : Jvm.MethodName)), (Jvm.Cond.static ({ cls := "java/lang/System", name := "arraycopy", desc := "(Ljava/lang/Object;ILjava/lang/Object;II)V" } : Jvm.MethodName)), (Jvm.Cond.initialized "java/lang/System"), (Jvm.Cond.static ({ cls := "java/lang/Math", name := "min", desc := "(II)I" } : Jvm.MethodName)), (Jvm.Cond.static ({ cls := "java/lang/Math", name := "max", desc := "(II)I" } : Jvm.MethodName)), (Jvm.Cond.initialized "java/lang/Math"), (Jvm.Cond.arrayClass Jvm.ClassFile.FieldType.int), (Jvm.Cond.arrayClass Jvm.ClassFile.FieldType.boolean), (Jvm.Cond.arrayClass Jvm.ClassFile.FieldType.long), (Jvm.Cond.instantiable "DerivativeTape" (16 : Nat)), (Jvm.Cond.initialized "DerivativeTape"), (Jvm.Cond.instantiable "DerivativeTape$Program" (8 : Nat)), (Jvm.Cond.initialized "DerivativeTape$Program"), (Jvm.Cond.instantiable "DerivativeTape$Sweep" (2 : Nat)), (Jvm.Cond.initialized "DerivativeTape$Sweep"), (Jvm.Cond.instantiable "DerivativeTape$BackSweep" (1 : Nat)), (Jvm.Cond.initialized "DerivativeTape$BackSweep"), (Jvm.Cond.instantiable "DerivativeTape$Shrinking" (4 : Nat)), (Jvm.Cond.initialized "DerivativeTape$Shrinking"), (Jvm.Cond.instantiable "DerivativeTape$Snapshots" (2 : Nat)), (Jvm.Cond.initialized "DerivativeTape$Snapshots"), (Jvm.Cond.instantiable "DerivativeTapeModel" (27 : Nat)), (Jvm.Cond.initialized "DerivativeTapeModel")]
theorem ma_wg_in : ∀ w ∈ ma_wg, w ∈ ma_W := by
  have h : ∀ q ∈ [(57, (Jvm.Cond.instanceMethod ({ cls := "java/lang/Object", name := "<init>", desc := "()V" } : Jvm.MethodName))), (317, (Jvm.Cond.native ({ cls := "java/lang/System", name := "arraycopy", desc := "(Ljava/lang/Object;ILjava/lang/Object;II)V" } : Jvm.MethodName))), (316, (Jvm.Cond.static ({ cls := "java/lang/System", name := "arraycopy", desc := "(Ljava/lang/Object;ILjava/lang/Object;II)V" } : Jvm.MethodName))), (48, (Jvm.Cond.initialized "java/lang/System")), (497, (Jvm.Cond.static ({ cls := "java/lang/Math", name := "min", desc := "(II)I" } : Jvm.MethodName))), (439, (Jvm.Cond.static ({ cls := "java/lang/Math", name := "max", desc := "(II)I" } : Jvm.MethodName))), (50, (Jvm.Cond.initialized "java/lang/Math")), (107, (Jvm.Cond.arrayClass Jvm.ClassFile.FieldType.int)), (158, (Jvm.Cond.arrayClass Jvm.ClassFile.FieldType.boolean)), (595, (Jvm.Cond.arrayClass Jvm.ClassFile.FieldType.long)), (52, (Jvm.Cond.instantiable "DerivativeTape" (16 : Nat))), (40, (Jvm.Cond.initialized "DerivativeTape")), (60, (Jvm.Cond.instantiable "DerivativeTape$Program" (8 : Nat))), (41, (Jvm.Cond.initialized "DerivativeTape$Program")), (109, (Jvm.Cond.instantiable "DerivativeTape$Sweep" (2 : Nat))), (42, (Jvm.Cond.initialized "DerivativeTape$Sweep")), (129, (Jvm.Cond.instantiable "DerivativeTape$BackSweep" (1 : Nat))), (43, (Jvm.Cond.initialized "DerivativeTape$BackSweep")), (140, (Jvm.Cond.instantiable "DerivativeTape$Shrinking" (4 : Nat))), (44, (Jvm.Cond.initialized "DerivativeTape$Shrinking")), (160, (Jvm.Cond.instantiable "DerivativeTape$Snapshots" (2 : Nat))), (45, (Jvm.Cond.initialized "DerivativeTape$Snapshots")), (508, (Jvm.Cond.instantiable "DerivativeTapeModel" (27 : Nat))), (46, (Jvm.Cond.initialized "DerivativeTapeModel"))], lw_tbl[q.1]? = some q.2 ∧ goodWord q.2 = true := by decide +kernel
  intro w hw
  have e : ma_wg = ([(57, (Jvm.Cond.instanceMethod ({ cls := "java/lang/Object", name := "<init>", desc := "()V" } : Jvm.MethodName))), (317, (Jvm.Cond.native ({ cls := "java/lang/System", name := "arraycopy", desc := "(Ljava/lang/Object;ILjava/lang/Object;II)V" } : Jvm.MethodName))), (316, (Jvm.Cond.static ({ cls := "java/lang/System", name := "arraycopy", desc := "(Ljava/lang/Object;ILjava/lang/Object;II)V" } : Jvm.MethodName))), (48, (Jvm.Cond.initialized "java/lang/System")), (497, (Jvm.Cond.static ({ cls := "java/lang/Math", name := "min", desc := "(II)I" } : Jvm.MethodName))), (439, (Jvm.Cond.static ({ cls := "java/lang/Math", name := "max", desc := "(II)I" } : Jvm.MethodName))), (50, (Jvm.Cond.initialized "java/lang/Math")), (107, (Jvm.Cond.arrayClass Jvm.ClassFile.FieldType.int)), (158, (Jvm.Cond.arrayClass Jvm.ClassFile.FieldType.boolean)), (595, (Jvm.Cond.arrayClass Jvm.ClassFile.FieldType.long)), (52, (Jvm.Cond.instantiable "DerivativeTape" (16 : Nat))), (40, (Jvm.Cond.initialized "DerivativeTape")), (60, (Jvm.Cond.instantiable "DerivativeTape$Program" (8 : Nat))), (41, (Jvm.Cond.initialized "DerivativeTape$Program")), (109, (Jvm.Cond.instantiable "DerivativeTape$Sweep" (2 : Nat))), (42, (Jvm.Cond.initialized "DerivativeTape$Sweep")), (129, (Jvm.Cond.instantiable "DerivativeTape$BackSweep" (1 : Nat))), (43, (Jvm.Cond.initialized "DerivativeTape$BackSweep")), (140, (Jvm.Cond.instantiable "DerivativeTape$Shrinking" (4 : Nat))), (44, (Jvm.Cond.initialized "DerivativeTape$Shrinking")), (160, (Jvm.Cond.instantiable "DerivativeTape$Snapshots" (2 : Nat))), (45, (Jvm.Cond.initialized "DerivativeTape$Snapshots")), (508, (Jvm.Cond.instantiable "DerivativeTapeModel" (27 : Nat))), (46, (Jvm.Cond.initialized "DerivativeTapeModel"))] : List (Nat × Cond)).map (fun q => q.2) := rfl
  rw [e] at hw
  obtain ⟨q, hq, rfl⟩ := List.mem_map.mp hw
  exact ma_W_i (h q hq).1 (h q hq).2
def ma_wm0 : List Cond := [(Jvm.Cond.initialized "DerivativeTape$Numbers"), (Jvm.Cond.static ({ cls := "DerivativeTape$Numbers", name := "standFor", desc := "(J)I" } : Jvm.MethodName))]
theorem ma_wm0_in : ∀ w ∈ ma_wm0, w ∈ ma_W := by
  have h : ∀ q ∈ [(47, (Jvm.Cond.initialized "DerivativeTape$Numbers")), (244, (Jvm.Cond.static ({ cls := "DerivativeTape$Numbers", name := "standFor", desc := "(J)I" } : Jvm.MethodName)))], lw_tbl[q.1]? = some q.2 ∧ goodWord q.2 = true := by decide +kernel
  intro w hw
  have e : ma_wm0 = ([(47, (Jvm.Cond.initialized "DerivativeTape$Numbers")), (244, (Jvm.Cond.static ({ cls := "DerivativeTape$Numbers", name := "standFor", desc := "(J)I" } : Jvm.MethodName)))] : List (Nat × Cond)).map (fun q => q.2) := rfl
  rw [e] at hw
  obtain ⟨q, hq, rfl⟩ := List.mem_map.mp hw
  exact ma_W_i (h q hq).1 (h q hq).2
def ma_wm1 : List Cond := [(Jvm.Cond.initialized "DerivativeTape$Numbers"), (Jvm.Cond.static ({ cls := "DerivativeTape$Numbers", name := "times", desc := "(II)I" } : Jvm.MethodName))]
theorem ma_wm1_in : ∀ w ∈ ma_wm1, w ∈ ma_W := by
  have h : ∀ q ∈ [(47, (Jvm.Cond.initialized "DerivativeTape$Numbers")), (330, (Jvm.Cond.static ({ cls := "DerivativeTape$Numbers", name := "times", desc := "(II)I" } : Jvm.MethodName)))], lw_tbl[q.1]? = some q.2 ∧ goodWord q.2 = true := by decide +kernel
  intro w hw
  have e : ma_wm1 = ([(47, (Jvm.Cond.initialized "DerivativeTape$Numbers")), (330, (Jvm.Cond.static ({ cls := "DerivativeTape$Numbers", name := "times", desc := "(II)I" } : Jvm.MethodName)))] : List (Nat × Cond)).map (fun q => q.2) := rfl
  rw [e] at hw
  obtain ⟨q, hq, rfl⟩ := List.mem_map.mp hw
  exact ma_W_i (h q hq).1 (h q hq).2
def ma_wm2 : List Cond := [(Jvm.Cond.initialized "DerivativeTape$Numbers"), (Jvm.Cond.static ({ cls := "DerivativeTape$Numbers", name := "raise", desc := "(II)I" } : Jvm.MethodName))]
theorem ma_wm2_in : ∀ w ∈ ma_wm2, w ∈ ma_W := by
  have h : ∀ q ∈ [(47, (Jvm.Cond.initialized "DerivativeTape$Numbers")), (327, (Jvm.Cond.static ({ cls := "DerivativeTape$Numbers", name := "raise", desc := "(II)I" } : Jvm.MethodName)))], lw_tbl[q.1]? = some q.2 ∧ goodWord q.2 = true := by decide +kernel
  intro w hw
  have e : ma_wm2 = ([(47, (Jvm.Cond.initialized "DerivativeTape$Numbers")), (327, (Jvm.Cond.static ({ cls := "DerivativeTape$Numbers", name := "raise", desc := "(II)I" } : Jvm.MethodName)))] : List (Nat × Cond)).map (fun q => q.2) := rfl
  rw [e] at hw
  obtain ⟨q, hq, rfl⟩ := List.mem_map.mp hw
  exact ma_W_i (h q hq).1 (h q hq).2
def ma_wm3 : List Cond := [(Jvm.Cond.initialized "DerivativeTape$Program"), (Jvm.Cond.instanceMethod ({ cls := "DerivativeTape$Program", name := "<init>", desc := "()V" } : Jvm.MethodName))]
theorem ma_wm3_in : ∀ w ∈ ma_wm3, w ∈ ma_W := by
  have h : ∀ q ∈ [(41, (Jvm.Cond.initialized "DerivativeTape$Program")), (62, (Jvm.Cond.instanceMethod ({ cls := "DerivativeTape$Program", name := "<init>", desc := "()V" } : Jvm.MethodName)))], lw_tbl[q.1]? = some q.2 ∧ goodWord q.2 = true := by decide +kernel
  intro w hw
  have e : ma_wm3 = ([(41, (Jvm.Cond.initialized "DerivativeTape$Program")), (62, (Jvm.Cond.instanceMethod ({ cls := "DerivativeTape$Program", name := "<init>", desc := "()V" } : Jvm.MethodName)))] : List (Nat × Cond)).map (fun q => q.2) := rfl
  rw [e] at hw
  obtain ⟨q, hq, rfl⟩ := List.mem_map.mp hw
  exact ma_W_i (h q hq).1 (h q hq).2
def ma_wm4 : List Cond := [(Jvm.Cond.initialized "DerivativeTape$Program"), (Jvm.Cond.instanceMethod ({ cls := "DerivativeTape$Program", name := "isFull", desc := "()Z" } : Jvm.MethodName)), (Jvm.Cond.selects "DerivativeTape$Program" ({ cls := "DerivativeTape$Program", name := "isFull", desc := "()Z" } : Jvm.MethodName) ({ cls := "DerivativeTape$Program", name := "isFull", desc := "()Z" } : Jvm.MethodName))]
theorem ma_wm4_in : ∀ w ∈ ma_wm4, w ∈ ma_W := by
  have h : ∀ q ∈ [(41, (Jvm.Cond.initialized "DerivativeTape$Program")), (228, (Jvm.Cond.instanceMethod ({ cls := "DerivativeTape$Program", name := "isFull", desc := "()Z" } : Jvm.MethodName))), (229, (Jvm.Cond.selects "DerivativeTape$Program" ({ cls := "DerivativeTape$Program", name := "isFull", desc := "()Z" } : Jvm.MethodName) ({ cls := "DerivativeTape$Program", name := "isFull", desc := "()Z" } : Jvm.MethodName)))], lw_tbl[q.1]? = some q.2 ∧ goodWord q.2 = true := by decide +kernel
  intro w hw
  have e : ma_wm4 = ([(41, (Jvm.Cond.initialized "DerivativeTape$Program")), (228, (Jvm.Cond.instanceMethod ({ cls := "DerivativeTape$Program", name := "isFull", desc := "()Z" } : Jvm.MethodName))), (229, (Jvm.Cond.selects "DerivativeTape$Program" ({ cls := "DerivativeTape$Program", name := "isFull", desc := "()Z" } : Jvm.MethodName) ({ cls := "DerivativeTape$Program", name := "isFull", desc := "()Z" } : Jvm.MethodName)))] : List (Nat × Cond)).map (fun q => q.2) := rfl
  rw [e] at hw
  obtain ⟨q, hq, rfl⟩ := List.mem_map.mp hw
  exact ma_W_i (h q hq).1 (h q hq).2
def ma_wm5 : List Cond := [(Jvm.Cond.initialized "DerivativeTape$Program"), (Jvm.Cond.instanceMethod ({ cls := "DerivativeTape$Program", name := "hasNode", desc := "(I)Z" } : Jvm.MethodName)), (Jvm.Cond.selects "DerivativeTape$Program" ({ cls := "DerivativeTape$Program", name := "hasNode", desc := "(I)Z" } : Jvm.MethodName) ({ cls := "DerivativeTape$Program", name := "hasNode", desc := "(I)Z" } : Jvm.MethodName))]
theorem ma_wm5_in : ∀ w ∈ ma_wm5, w ∈ ma_W := by
  have h : ∀ q ∈ [(41, (Jvm.Cond.initialized "DerivativeTape$Program")), (257, (Jvm.Cond.instanceMethod ({ cls := "DerivativeTape$Program", name := "hasNode", desc := "(I)Z" } : Jvm.MethodName))), (258, (Jvm.Cond.selects "DerivativeTape$Program" ({ cls := "DerivativeTape$Program", name := "hasNode", desc := "(I)Z" } : Jvm.MethodName) ({ cls := "DerivativeTape$Program", name := "hasNode", desc := "(I)Z" } : Jvm.MethodName)))], lw_tbl[q.1]? = some q.2 ∧ goodWord q.2 = true := by decide +kernel
  intro w hw
  have e : ma_wm5 = ([(41, (Jvm.Cond.initialized "DerivativeTape$Program")), (257, (Jvm.Cond.instanceMethod ({ cls := "DerivativeTape$Program", name := "hasNode", desc := "(I)Z" } : Jvm.MethodName))), (258, (Jvm.Cond.selects "DerivativeTape$Program" ({ cls := "DerivativeTape$Program", name := "hasNode", desc := "(I)Z" } : Jvm.MethodName) ({ cls := "DerivativeTape$Program", name := "hasNode", desc := "(I)Z" } : Jvm.MethodName)))] : List (Nat × Cond)).map (fun q => q.2) := rfl
  rw [e] at hw
  obtain ⟨q, hq, rfl⟩ := List.mem_map.mp hw
  exact ma_W_i (h q hq).1 (h q hq).2
def ma_wm6 : List Cond := [(Jvm.Cond.initialized "DerivativeTape$Program"), (Jvm.Cond.instanceMethod ({ cls := "DerivativeTape$Program", name := "hasInput", desc := "(I)Z" } : Jvm.MethodName)), (Jvm.Cond.selects "DerivativeTape$Program" ({ cls := "DerivativeTape$Program", name := "hasInput", desc := "(I)Z" } : Jvm.MethodName) ({ cls := "DerivativeTape$Program", name := "hasInput", desc := "(I)Z" } : Jvm.MethodName))]
theorem ma_wm6_in : ∀ w ∈ ma_wm6, w ∈ ma_W := by
  have h : ∀ q ∈ [(41, (Jvm.Cond.initialized "DerivativeTape$Program")), (273, (Jvm.Cond.instanceMethod ({ cls := "DerivativeTape$Program", name := "hasInput", desc := "(I)Z" } : Jvm.MethodName))), (274, (Jvm.Cond.selects "DerivativeTape$Program" ({ cls := "DerivativeTape$Program", name := "hasInput", desc := "(I)Z" } : Jvm.MethodName) ({ cls := "DerivativeTape$Program", name := "hasInput", desc := "(I)Z" } : Jvm.MethodName)))], lw_tbl[q.1]? = some q.2 ∧ goodWord q.2 = true := by decide +kernel
  intro w hw
  have e : ma_wm6 = ([(41, (Jvm.Cond.initialized "DerivativeTape$Program")), (273, (Jvm.Cond.instanceMethod ({ cls := "DerivativeTape$Program", name := "hasInput", desc := "(I)Z" } : Jvm.MethodName))), (274, (Jvm.Cond.selects "DerivativeTape$Program" ({ cls := "DerivativeTape$Program", name := "hasInput", desc := "(I)Z" } : Jvm.MethodName) ({ cls := "DerivativeTape$Program", name := "hasInput", desc := "(I)Z" } : Jvm.MethodName)))] : List (Nat × Cond)).map (fun q => q.2) := rfl
  rw [e] at hw
  obtain ⟨q, hq, rfl⟩ := List.mem_map.mp hw
  exact ma_W_i (h q hq).1 (h q hq).2
def ma_wm7 : List Cond := [(Jvm.Cond.initialized "DerivativeTape$Program"), (Jvm.Cond.instanceMethod ({ cls := "DerivativeTape$Program", name := "isOperation", desc := "(I)Z" } : Jvm.MethodName)), (Jvm.Cond.selects "DerivativeTape$Program" ({ cls := "DerivativeTape$Program", name := "isOperation", desc := "(I)Z" } : Jvm.MethodName) ({ cls := "DerivativeTape$Program", name := "isOperation", desc := "(I)Z" } : Jvm.MethodName))]
theorem ma_wm7_in : ∀ w ∈ ma_wm7, w ∈ ma_W := by
  have h : ∀ q ∈ [(41, (Jvm.Cond.initialized "DerivativeTape$Program")), (297, (Jvm.Cond.instanceMethod ({ cls := "DerivativeTape$Program", name := "isOperation", desc := "(I)Z" } : Jvm.MethodName))), (298, (Jvm.Cond.selects "DerivativeTape$Program" ({ cls := "DerivativeTape$Program", name := "isOperation", desc := "(I)Z" } : Jvm.MethodName) ({ cls := "DerivativeTape$Program", name := "isOperation", desc := "(I)Z" } : Jvm.MethodName)))], lw_tbl[q.1]? = some q.2 ∧ goodWord q.2 = true := by decide +kernel
  intro w hw
  have e : ma_wm7 = ([(41, (Jvm.Cond.initialized "DerivativeTape$Program")), (297, (Jvm.Cond.instanceMethod ({ cls := "DerivativeTape$Program", name := "isOperation", desc := "(I)Z" } : Jvm.MethodName))), (298, (Jvm.Cond.selects "DerivativeTape$Program" ({ cls := "DerivativeTape$Program", name := "isOperation", desc := "(I)Z" } : Jvm.MethodName) ({ cls := "DerivativeTape$Program", name := "isOperation", desc := "(I)Z" } : Jvm.MethodName)))] : List (Nat × Cond)).map (fun q => q.2) := rfl
  rw [e] at hw
  obtain ⟨q, hq, rfl⟩ := List.mem_map.mp hw
  exact ma_W_i (h q hq).1 (h q hq).2
def ma_wm8 : List Cond := [(Jvm.Cond.initialized "DerivativeTape$Program"), (Jvm.Cond.instanceMethod ({ cls := "DerivativeTape$Program", name := "reaches", desc := "(II)Z" } : Jvm.MethodName)), (Jvm.Cond.selects "DerivativeTape$Program" ({ cls := "DerivativeTape$Program", name := "reaches", desc := "(II)Z" } : Jvm.MethodName) ({ cls := "DerivativeTape$Program", name := "reaches", desc := "(II)Z" } : Jvm.MethodName))]
theorem ma_wm8_in : ∀ w ∈ ma_wm8, w ∈ ma_W := by
  have h : ∀ q ∈ [(41, (Jvm.Cond.initialized "DerivativeTape$Program")), (416, (Jvm.Cond.instanceMethod ({ cls := "DerivativeTape$Program", name := "reaches", desc := "(II)Z" } : Jvm.MethodName))), (417, (Jvm.Cond.selects "DerivativeTape$Program" ({ cls := "DerivativeTape$Program", name := "reaches", desc := "(II)Z" } : Jvm.MethodName) ({ cls := "DerivativeTape$Program", name := "reaches", desc := "(II)Z" } : Jvm.MethodName)))], lw_tbl[q.1]? = some q.2 ∧ goodWord q.2 = true := by decide +kernel
  intro w hw
  have e : ma_wm8 = ([(41, (Jvm.Cond.initialized "DerivativeTape$Program")), (416, (Jvm.Cond.instanceMethod ({ cls := "DerivativeTape$Program", name := "reaches", desc := "(II)Z" } : Jvm.MethodName))), (417, (Jvm.Cond.selects "DerivativeTape$Program" ({ cls := "DerivativeTape$Program", name := "reaches", desc := "(II)Z" } : Jvm.MethodName) ({ cls := "DerivativeTape$Program", name := "reaches", desc := "(II)Z" } : Jvm.MethodName)))] : List (Nat × Cond)).map (fun q => q.2) := rfl
  rw [e] at hw
  obtain ⟨q, hq, rfl⟩ := List.mem_map.mp hw
  exact ma_W_i (h q hq).1 (h q hq).2
def ma_wm9 : List Cond := [(Jvm.Cond.initialized "DerivativeTape$Program"), (Jvm.Cond.instanceMethod ({ cls := "DerivativeTape$Program", name := "addInput", desc := "()I" } : Jvm.MethodName)), (Jvm.Cond.selects "DerivativeTape$Program" ({ cls := "DerivativeTape$Program", name := "addInput", desc := "()I" } : Jvm.MethodName) ({ cls := "DerivativeTape$Program", name := "addInput", desc := "()I" } : Jvm.MethodName))]
theorem ma_wm9_in : ∀ w ∈ ma_wm9, w ∈ ma_W := by
  have h : ∀ q ∈ [(41, (Jvm.Cond.initialized "DerivativeTape$Program")), (232, (Jvm.Cond.instanceMethod ({ cls := "DerivativeTape$Program", name := "addInput", desc := "()I" } : Jvm.MethodName))), (233, (Jvm.Cond.selects "DerivativeTape$Program" ({ cls := "DerivativeTape$Program", name := "addInput", desc := "()I" } : Jvm.MethodName) ({ cls := "DerivativeTape$Program", name := "addInput", desc := "()I" } : Jvm.MethodName)))], lw_tbl[q.1]? = some q.2 ∧ goodWord q.2 = true := by decide +kernel
  intro w hw
  have e : ma_wm9 = ([(41, (Jvm.Cond.initialized "DerivativeTape$Program")), (232, (Jvm.Cond.instanceMethod ({ cls := "DerivativeTape$Program", name := "addInput", desc := "()I" } : Jvm.MethodName))), (233, (Jvm.Cond.selects "DerivativeTape$Program" ({ cls := "DerivativeTape$Program", name := "addInput", desc := "()I" } : Jvm.MethodName) ({ cls := "DerivativeTape$Program", name := "addInput", desc := "()I" } : Jvm.MethodName)))] : List (Nat × Cond)).map (fun q => q.2) := rfl
  rw [e] at hw
  obtain ⟨q, hq, rfl⟩ := List.mem_map.mp hw
  exact ma_W_i (h q hq).1 (h q hq).2
def ma_wm10 : List Cond := [(Jvm.Cond.initialized "DerivativeTape$Program"), (Jvm.Cond.instanceMethod ({ cls := "DerivativeTape$Program", name := "addConstant", desc := "(I)I" } : Jvm.MethodName)), (Jvm.Cond.selects "DerivativeTape$Program" ({ cls := "DerivativeTape$Program", name := "addConstant", desc := "(I)I" } : Jvm.MethodName) ({ cls := "DerivativeTape$Program", name := "addConstant", desc := "(I)I" } : Jvm.MethodName))]
theorem ma_wm10_in : ∀ w ∈ ma_wm10, w ∈ ma_W := by
  have h : ∀ q ∈ [(41, (Jvm.Cond.initialized "DerivativeTape$Program")), (249, (Jvm.Cond.instanceMethod ({ cls := "DerivativeTape$Program", name := "addConstant", desc := "(I)I" } : Jvm.MethodName))), (250, (Jvm.Cond.selects "DerivativeTape$Program" ({ cls := "DerivativeTape$Program", name := "addConstant", desc := "(I)I" } : Jvm.MethodName) ({ cls := "DerivativeTape$Program", name := "addConstant", desc := "(I)I" } : Jvm.MethodName)))], lw_tbl[q.1]? = some q.2 ∧ goodWord q.2 = true := by decide +kernel
  intro w hw
  have e : ma_wm10 = ([(41, (Jvm.Cond.initialized "DerivativeTape$Program")), (249, (Jvm.Cond.instanceMethod ({ cls := "DerivativeTape$Program", name := "addConstant", desc := "(I)I" } : Jvm.MethodName))), (250, (Jvm.Cond.selects "DerivativeTape$Program" ({ cls := "DerivativeTape$Program", name := "addConstant", desc := "(I)I" } : Jvm.MethodName) ({ cls := "DerivativeTape$Program", name := "addConstant", desc := "(I)I" } : Jvm.MethodName)))] : List (Nat × Cond)).map (fun q => q.2) := rfl
  rw [e] at hw
  obtain ⟨q, hq, rfl⟩ := List.mem_map.mp hw
  exact ma_W_i (h q hq).1 (h q hq).2
def ma_wm11 : List Cond := [(Jvm.Cond.initialized "DerivativeTape$Program"), (Jvm.Cond.instanceMethod ({ cls := "DerivativeTape$Program", name := "addOperation", desc := "(IIII)I" } : Jvm.MethodName)), (Jvm.Cond.selects "DerivativeTape$Program" ({ cls := "DerivativeTape$Program", name := "addOperation", desc := "(IIII)I" } : Jvm.MethodName) ({ cls := "DerivativeTape$Program", name := "addOperation", desc := "(IIII)I" } : Jvm.MethodName))]
theorem ma_wm11_in : ∀ w ∈ ma_wm11, w ∈ ma_W := by
  have h : ∀ q ∈ [(41, (Jvm.Cond.initialized "DerivativeTape$Program")), (261, (Jvm.Cond.instanceMethod ({ cls := "DerivativeTape$Program", name := "addOperation", desc := "(IIII)I" } : Jvm.MethodName))), (262, (Jvm.Cond.selects "DerivativeTape$Program" ({ cls := "DerivativeTape$Program", name := "addOperation", desc := "(IIII)I" } : Jvm.MethodName) ({ cls := "DerivativeTape$Program", name := "addOperation", desc := "(IIII)I" } : Jvm.MethodName)))], lw_tbl[q.1]? = some q.2 ∧ goodWord q.2 = true := by decide +kernel
  intro w hw
  have e : ma_wm11 = ([(41, (Jvm.Cond.initialized "DerivativeTape$Program")), (261, (Jvm.Cond.instanceMethod ({ cls := "DerivativeTape$Program", name := "addOperation", desc := "(IIII)I" } : Jvm.MethodName))), (262, (Jvm.Cond.selects "DerivativeTape$Program" ({ cls := "DerivativeTape$Program", name := "addOperation", desc := "(IIII)I" } : Jvm.MethodName) ({ cls := "DerivativeTape$Program", name := "addOperation", desc := "(IIII)I" } : Jvm.MethodName)))] : List (Nat × Cond)).map (fun q => q.2) := rfl
  rw [e] at hw
  obtain ⟨q, hq, rfl⟩ := List.mem_map.mp hw
  exact ma_W_i (h q hq).1 (h q hq).2
def ma_wm12 : List Cond := [(Jvm.Cond.initialized "DerivativeTape$Program"), (Jvm.Cond.instanceMethod ({ cls := "DerivativeTape$Program", name := "add", desc := "(II)I" } : Jvm.MethodName)), (Jvm.Cond.selects "DerivativeTape$Program" ⟨"DerivativeTape$Program", "add", "(II)I"⟩ ⟨"DerivativeTape$Program", "add", "(II)I"⟩)]
theorem ma_wm12_in : ∀ w ∈ ma_wm12, w ∈ ma_W := by
  have h : ∀ q ∈ [(41, (Jvm.Cond.initialized "DerivativeTape$Program")), (237, (Jvm.Cond.instanceMethod ({ cls := "DerivativeTape$Program", name := "add", desc := "(II)I" } : Jvm.MethodName))), (0, (Jvm.Cond.selects "DerivativeTape$Program" ⟨"DerivativeTape$Program", "add", "(II)I"⟩ ⟨"DerivativeTape$Program", "add", "(II)I"⟩))], lw_tbl[q.1]? = some q.2 ∧ goodWord q.2 = true := by decide +kernel
  intro w hw
  have e : ma_wm12 = ([(41, (Jvm.Cond.initialized "DerivativeTape$Program")), (237, (Jvm.Cond.instanceMethod ({ cls := "DerivativeTape$Program", name := "add", desc := "(II)I" } : Jvm.MethodName))), (0, (Jvm.Cond.selects "DerivativeTape$Program" ⟨"DerivativeTape$Program", "add", "(II)I"⟩ ⟨"DerivativeTape$Program", "add", "(II)I"⟩))] : List (Nat × Cond)).map (fun q => q.2) := rfl
  rw [e] at hw
  obtain ⟨q, hq, rfl⟩ := List.mem_map.mp hw
  exact ma_W_i (h q hq).1 (h q hq).2
def ma_wm13 : List Cond := [(Jvm.Cond.initialized "DerivativeTape$Sweep"), (Jvm.Cond.instanceMethod ({ cls := "DerivativeTape$Sweep", name := "<init>", desc := "()V" } : Jvm.MethodName))]
theorem ma_wm13_in : ∀ w ∈ ma_wm13, w ∈ ma_W := by
  have h : ∀ q ∈ [(42, (Jvm.Cond.initialized "DerivativeTape$Sweep")), (111, (Jvm.Cond.instanceMethod ({ cls := "DerivativeTape$Sweep", name := "<init>", desc := "()V" } : Jvm.MethodName)))], lw_tbl[q.1]? = some q.2 ∧ goodWord q.2 = true := by decide +kernel
  intro w hw
  have e : ma_wm13 = ([(42, (Jvm.Cond.initialized "DerivativeTape$Sweep")), (111, (Jvm.Cond.instanceMethod ({ cls := "DerivativeTape$Sweep", name := "<init>", desc := "()V" } : Jvm.MethodName)))] : List (Nat × Cond)).map (fun q => q.2) := rfl
  rw [e] at hw
  obtain ⟨q, hq, rfl⟩ := List.mem_map.mp hw
  exact ma_W_i (h q hq).1 (h q hq).2
def ma_wm14 : List Cond := [(Jvm.Cond.initialized "DerivativeTape$Sweep"), (Jvm.Cond.static ({ cls := "DerivativeTape$Sweep", name := "worse", desc := "(II)I" } : Jvm.MethodName))]
theorem ma_wm14_in : ∀ w ∈ ma_wm14, w ∈ ma_W := by
  have h : ∀ q ∈ [(42, (Jvm.Cond.initialized "DerivativeTape$Sweep")), (305, (Jvm.Cond.static ({ cls := "DerivativeTape$Sweep", name := "worse", desc := "(II)I" } : Jvm.MethodName)))], lw_tbl[q.1]? = some q.2 ∧ goodWord q.2 = true := by decide +kernel
  intro w hw
  have e : ma_wm14 = ([(42, (Jvm.Cond.initialized "DerivativeTape$Sweep")), (305, (Jvm.Cond.static ({ cls := "DerivativeTape$Sweep", name := "worse", desc := "(II)I" } : Jvm.MethodName)))] : List (Nat × Cond)).map (fun q => q.2) := rfl
  rw [e] at hw
  obtain ⟨q, hq, rfl⟩ := List.mem_map.mp hw
  exact ma_W_i (h q hq).1 (h q hq).2
def ma_wm15 : List Cond := [(Jvm.Cond.initialized "DerivativeTape$Sweep"), (Jvm.Cond.instanceMethod ({ cls := "DerivativeTape$Sweep", name := "run", desc := "(LDerivativeTape$Program;[I[II)V" } : Jvm.MethodName)), (Jvm.Cond.selects "DerivativeTape$Sweep" ({ cls := "DerivativeTape$Sweep", name := "run", desc := "(LDerivativeTape$Program;[I[II)V" } : Jvm.MethodName) ({ cls := "DerivativeTape$Sweep", name := "run", desc := "(LDerivativeTape$Program;[I[II)V" } : Jvm.MethodName))]
theorem ma_wm15_in : ∀ w ∈ ma_wm15, w ∈ ma_W := by
  have h : ∀ q ∈ [(42, (Jvm.Cond.initialized "DerivativeTape$Sweep")), (293, (Jvm.Cond.instanceMethod ({ cls := "DerivativeTape$Sweep", name := "run", desc := "(LDerivativeTape$Program;[I[II)V" } : Jvm.MethodName))), (294, (Jvm.Cond.selects "DerivativeTape$Sweep" ({ cls := "DerivativeTape$Sweep", name := "run", desc := "(LDerivativeTape$Program;[I[II)V" } : Jvm.MethodName) ({ cls := "DerivativeTape$Sweep", name := "run", desc := "(LDerivativeTape$Program;[I[II)V" } : Jvm.MethodName)))], lw_tbl[q.1]? = some q.2 ∧ goodWord q.2 = true := by decide +kernel
  intro w hw
  have e : ma_wm15 = ([(42, (Jvm.Cond.initialized "DerivativeTape$Sweep")), (293, (Jvm.Cond.instanceMethod ({ cls := "DerivativeTape$Sweep", name := "run", desc := "(LDerivativeTape$Program;[I[II)V" } : Jvm.MethodName))), (294, (Jvm.Cond.selects "DerivativeTape$Sweep" ({ cls := "DerivativeTape$Sweep", name := "run", desc := "(LDerivativeTape$Program;[I[II)V" } : Jvm.MethodName) ({ cls := "DerivativeTape$Sweep", name := "run", desc := "(LDerivativeTape$Program;[I[II)V" } : Jvm.MethodName)))] : List (Nat × Cond)).map (fun q => q.2) := rfl
  rw [e] at hw
  obtain ⟨q, hq, rfl⟩ := List.mem_map.mp hw
  exact ma_W_i (h q hq).1 (h q hq).2
def ma_wm16 : List Cond := [(Jvm.Cond.initialized "DerivativeTape$Sweep"), (Jvm.Cond.instanceMethod ({ cls := "DerivativeTape$Sweep", name := "findChosen", desc := "(LDerivativeTape$Program;I)I" } : Jvm.MethodName)), (Jvm.Cond.selects "DerivativeTape$Sweep" ({ cls := "DerivativeTape$Sweep", name := "findChosen", desc := "(LDerivativeTape$Program;I)I" } : Jvm.MethodName) ({ cls := "DerivativeTape$Sweep", name := "findChosen", desc := "(LDerivativeTape$Program;I)I" } : Jvm.MethodName))]
theorem ma_wm16_in : ∀ w ∈ ma_wm16, w ∈ ma_W := by
  have h : ∀ q ∈ [(42, (Jvm.Cond.initialized "DerivativeTape$Sweep")), (339, (Jvm.Cond.instanceMethod ({ cls := "DerivativeTape$Sweep", name := "findChosen", desc := "(LDerivativeTape$Program;I)I" } : Jvm.MethodName))), (340, (Jvm.Cond.selects "DerivativeTape$Sweep" ({ cls := "DerivativeTape$Sweep", name := "findChosen", desc := "(LDerivativeTape$Program;I)I" } : Jvm.MethodName) ({ cls := "DerivativeTape$Sweep", name := "findChosen", desc := "(LDerivativeTape$Program;I)I" } : Jvm.MethodName)))], lw_tbl[q.1]? = some q.2 ∧ goodWord q.2 = true := by decide +kernel
  intro w hw
  have e : ma_wm16 = ([(42, (Jvm.Cond.initialized "DerivativeTape$Sweep")), (339, (Jvm.Cond.instanceMethod ({ cls := "DerivativeTape$Sweep", name := "findChosen", desc := "(LDerivativeTape$Program;I)I" } : Jvm.MethodName))), (340, (Jvm.Cond.selects "DerivativeTape$Sweep" ({ cls := "DerivativeTape$Sweep", name := "findChosen", desc := "(LDerivativeTape$Program;I)I" } : Jvm.MethodName) ({ cls := "DerivativeTape$Sweep", name := "findChosen", desc := "(LDerivativeTape$Program;I)I" } : Jvm.MethodName)))] : List (Nat × Cond)).map (fun q => q.2) := rfl
  rw [e] at hw
  obtain ⟨q, hq, rfl⟩ := List.mem_map.mp hw
  exact ma_W_i (h q hq).1 (h q hq).2
def ma_wm17 : List Cond := [(Jvm.Cond.initialized "DerivativeTape$Sweep"), (Jvm.Cond.instanceMethod ({ cls := "DerivativeTape$Sweep", name := "findState", desc := "(LDerivativeTape$Program;I)I" } : Jvm.MethodName)), (Jvm.Cond.selects "DerivativeTape$Sweep" ⟨"DerivativeTape$Sweep", "findState", "(LDerivativeTape$Program;I)I"⟩ ⟨"DerivativeTape$Sweep", "findState", "(LDerivativeTape$Program;I)I"⟩)]
theorem ma_wm17_in : ∀ w ∈ ma_wm17, w ∈ ma_W := by
  have h : ∀ q ∈ [(42, (Jvm.Cond.initialized "DerivativeTape$Sweep")), (302, (Jvm.Cond.instanceMethod ({ cls := "DerivativeTape$Sweep", name := "findState", desc := "(LDerivativeTape$Program;I)I" } : Jvm.MethodName))), (2, (Jvm.Cond.selects "DerivativeTape$Sweep" ⟨"DerivativeTape$Sweep", "findState", "(LDerivativeTape$Program;I)I"⟩ ⟨"DerivativeTape$Sweep", "findState", "(LDerivativeTape$Program;I)I"⟩))], lw_tbl[q.1]? = some q.2 ∧ goodWord q.2 = true := by decide +kernel
  intro w hw
  have e : ma_wm17 = ([(42, (Jvm.Cond.initialized "DerivativeTape$Sweep")), (302, (Jvm.Cond.instanceMethod ({ cls := "DerivativeTape$Sweep", name := "findState", desc := "(LDerivativeTape$Program;I)I" } : Jvm.MethodName))), (2, (Jvm.Cond.selects "DerivativeTape$Sweep" ⟨"DerivativeTape$Sweep", "findState", "(LDerivativeTape$Program;I)I"⟩ ⟨"DerivativeTape$Sweep", "findState", "(LDerivativeTape$Program;I)I"⟩))] : List (Nat × Cond)).map (fun q => q.2) := rfl
  rw [e] at hw
  obtain ⟨q, hq, rfl⟩ := List.mem_map.mp hw
  exact ma_W_i (h q hq).1 (h q hq).2
def ma_wm18 : List Cond := [(Jvm.Cond.initialized "DerivativeTape$Sweep"), (Jvm.Cond.instanceMethod ({ cls := "DerivativeTape$Sweep", name := "begin", desc := "(LDerivativeTape$Program;I[I[I)V" } : Jvm.MethodName)), (Jvm.Cond.selects "DerivativeTape$Sweep" ⟨"DerivativeTape$Sweep", "begin", "(LDerivativeTape$Program;I[I[I)V"⟩ ⟨"DerivativeTape$Sweep", "begin", "(LDerivativeTape$Program;I[I[I)V"⟩)]
theorem ma_wm18_in : ∀ w ∈ ma_wm18, w ∈ ma_W := by
  have h : ∀ q ∈ [(42, (Jvm.Cond.initialized "DerivativeTape$Sweep")), (344, (Jvm.Cond.instanceMethod ({ cls := "DerivativeTape$Sweep", name := "begin", desc := "(LDerivativeTape$Program;I[I[I)V" } : Jvm.MethodName))), (4, (Jvm.Cond.selects "DerivativeTape$Sweep" ⟨"DerivativeTape$Sweep", "begin", "(LDerivativeTape$Program;I[I[I)V"⟩ ⟨"DerivativeTape$Sweep", "begin", "(LDerivativeTape$Program;I[I[I)V"⟩))], lw_tbl[q.1]? = some q.2 ∧ goodWord q.2 = true := by decide +kernel
  intro w hw
  have e : ma_wm18 = ([(42, (Jvm.Cond.initialized "DerivativeTape$Sweep")), (344, (Jvm.Cond.instanceMethod ({ cls := "DerivativeTape$Sweep", name := "begin", desc := "(LDerivativeTape$Program;I[I[I)V" } : Jvm.MethodName))), (4, (Jvm.Cond.selects "DerivativeTape$Sweep" ⟨"DerivativeTape$Sweep", "begin", "(LDerivativeTape$Program;I[I[I)V"⟩ ⟨"DerivativeTape$Sweep", "begin", "(LDerivativeTape$Program;I[I[I)V"⟩))] : List (Nat × Cond)).map (fun q => q.2) := rfl
  rw [e] at hw
  obtain ⟨q, hq, rfl⟩ := List.mem_map.mp hw
  exact ma_W_i (h q hq).1 (h q hq).2
def ma_wm19 : List Cond := [(Jvm.Cond.initialized "DerivativeTape$Sweep"), (Jvm.Cond.instanceMethod ({ cls := "DerivativeTape$Sweep", name := "operate", desc := "(LDerivativeTape$Program;II)V" } : Jvm.MethodName)), (Jvm.Cond.selects "DerivativeTape$Sweep" ⟨"DerivativeTape$Sweep", "operate", "(LDerivativeTape$Program;II)V"⟩ ⟨"DerivativeTape$Sweep", "operate", "(LDerivativeTape$Program;II)V"⟩)]
theorem ma_wm19_in : ∀ w ∈ ma_wm19, w ∈ ma_W := by
  have h : ∀ q ∈ [(42, (Jvm.Cond.initialized "DerivativeTape$Sweep")), (309, (Jvm.Cond.instanceMethod ({ cls := "DerivativeTape$Sweep", name := "operate", desc := "(LDerivativeTape$Program;II)V" } : Jvm.MethodName))), (3, (Jvm.Cond.selects "DerivativeTape$Sweep" ⟨"DerivativeTape$Sweep", "operate", "(LDerivativeTape$Program;II)V"⟩ ⟨"DerivativeTape$Sweep", "operate", "(LDerivativeTape$Program;II)V"⟩))], lw_tbl[q.1]? = some q.2 ∧ goodWord q.2 = true := by decide +kernel
  intro w hw
  have e : ma_wm19 = ([(42, (Jvm.Cond.initialized "DerivativeTape$Sweep")), (309, (Jvm.Cond.instanceMethod ({ cls := "DerivativeTape$Sweep", name := "operate", desc := "(LDerivativeTape$Program;II)V" } : Jvm.MethodName))), (3, (Jvm.Cond.selects "DerivativeTape$Sweep" ⟨"DerivativeTape$Sweep", "operate", "(LDerivativeTape$Program;II)V"⟩ ⟨"DerivativeTape$Sweep", "operate", "(LDerivativeTape$Program;II)V"⟩))] : List (Nat × Cond)).map (fun q => q.2) := rfl
  rw [e] at hw
  obtain ⟨q, hq, rfl⟩ := List.mem_map.mp hw
  exact ma_W_i (h q hq).1 (h q hq).2
def ma_wm20 : List Cond := [(Jvm.Cond.initialized "DerivativeTape$Sweep"), (Jvm.Cond.static ({ cls := "DerivativeTape$Sweep", name := "addUp", desc := "([I[I[III)V" } : Jvm.MethodName))]
theorem ma_wm20_in : ∀ w ∈ ma_wm20, w ∈ ma_W := by
  have h : ∀ q ∈ [(42, (Jvm.Cond.initialized "DerivativeTape$Sweep")), (312, (Jvm.Cond.static ({ cls := "DerivativeTape$Sweep", name := "addUp", desc := "([I[I[III)V" } : Jvm.MethodName)))], lw_tbl[q.1]? = some q.2 ∧ goodWord q.2 = true := by decide +kernel
  intro w hw
  have e : ma_wm20 = ([(42, (Jvm.Cond.initialized "DerivativeTape$Sweep")), (312, (Jvm.Cond.static ({ cls := "DerivativeTape$Sweep", name := "addUp", desc := "([I[I[III)V" } : Jvm.MethodName)))] : List (Nat × Cond)).map (fun q => q.2) := rfl
  rw [e] at hw
  obtain ⟨q, hq, rfl⟩ := List.mem_map.mp hw
  exact ma_W_i (h q hq).1 (h q hq).2
def ma_wm21 : List Cond := [(Jvm.Cond.initialized "DerivativeTape$Sweep"), (Jvm.Cond.static ({ cls := "DerivativeTape$Sweep", name := "multiplyBy", desc := "([I[II)V" } : Jvm.MethodName))]
theorem ma_wm21_in : ∀ w ∈ ma_wm21, w ∈ ma_W := by
  have h : ∀ q ∈ [(42, (Jvm.Cond.initialized "DerivativeTape$Sweep")), (319, (Jvm.Cond.static ({ cls := "DerivativeTape$Sweep", name := "multiplyBy", desc := "([I[II)V" } : Jvm.MethodName)))], lw_tbl[q.1]? = some q.2 ∧ goodWord q.2 = true := by decide +kernel
  intro w hw
  have e : ma_wm21 = ([(42, (Jvm.Cond.initialized "DerivativeTape$Sweep")), (319, (Jvm.Cond.static ({ cls := "DerivativeTape$Sweep", name := "multiplyBy", desc := "([I[II)V" } : Jvm.MethodName)))] : List (Nat × Cond)).map (fun q => q.2) := rfl
  rw [e] at hw
  obtain ⟨q, hq, rfl⟩ := List.mem_map.mp hw
  exact ma_W_i (h q hq).1 (h q hq).2
def ma_wm22 : List Cond := [(Jvm.Cond.initialized "DerivativeTape$Sweep"), (Jvm.Cond.static ({ cls := "DerivativeTape$Sweep", name := "divide", desc := "([I[I[II)V" } : Jvm.MethodName))]
theorem ma_wm22_in : ∀ w ∈ ma_wm22, w ∈ ma_W := by
  have h : ∀ q ∈ [(42, (Jvm.Cond.initialized "DerivativeTape$Sweep")), (323, (Jvm.Cond.static ({ cls := "DerivativeTape$Sweep", name := "divide", desc := "([I[I[II)V" } : Jvm.MethodName)))], lw_tbl[q.1]? = some q.2 ∧ goodWord q.2 = true := by decide +kernel
  intro w hw
  have e : ma_wm22 = ([(42, (Jvm.Cond.initialized "DerivativeTape$Sweep")), (323, (Jvm.Cond.static ({ cls := "DerivativeTape$Sweep", name := "divide", desc := "([I[I[II)V" } : Jvm.MethodName)))] : List (Nat × Cond)).map (fun q => q.2) := rfl
  rw [e] at hw
  obtain ⟨q, hq, rfl⟩ := List.mem_map.mp hw
  exact ma_W_i (h q hq).1 (h q hq).2
def ma_wm23 : List Cond := [(Jvm.Cond.initialized "DerivativeTape$Sweep"), (Jvm.Cond.static ({ cls := "DerivativeTape$Sweep", name := "raiseRow", desc := "([I[III)V" } : Jvm.MethodName))]
theorem ma_wm23_in : ∀ w ∈ ma_wm23, w ∈ ma_W := by
  have h : ∀ q ∈ [(42, (Jvm.Cond.initialized "DerivativeTape$Sweep")), (333, (Jvm.Cond.static ({ cls := "DerivativeTape$Sweep", name := "raiseRow", desc := "([I[III)V" } : Jvm.MethodName)))], lw_tbl[q.1]? = some q.2 ∧ goodWord q.2 = true := by decide +kernel
  intro w hw
  have e : ma_wm23 = ([(42, (Jvm.Cond.initialized "DerivativeTape$Sweep")), (333, (Jvm.Cond.static ({ cls := "DerivativeTape$Sweep", name := "raiseRow", desc := "([I[III)V" } : Jvm.MethodName)))] : List (Nat × Cond)).map (fun q => q.2) := rfl
  rw [e] at hw
  obtain ⟨q, hq, rfl⟩ := List.mem_map.mp hw
  exact ma_W_i (h q hq).1 (h q hq).2
def ma_wm24 : List Cond := [(Jvm.Cond.initialized "DerivativeTape$BackSweep"), (Jvm.Cond.instanceMethod ({ cls := "DerivativeTape$BackSweep", name := "<init>", desc := "()V" } : Jvm.MethodName))]
theorem ma_wm24_in : ∀ w ∈ ma_wm24, w ∈ ma_W := by
  have h : ∀ q ∈ [(43, (Jvm.Cond.initialized "DerivativeTape$BackSweep")), (131, (Jvm.Cond.instanceMethod ({ cls := "DerivativeTape$BackSweep", name := "<init>", desc := "()V" } : Jvm.MethodName)))], lw_tbl[q.1]? = some q.2 ∧ goodWord q.2 = true := by decide +kernel
  intro w hw
  have e : ma_wm24 = ([(43, (Jvm.Cond.initialized "DerivativeTape$BackSweep")), (131, (Jvm.Cond.instanceMethod ({ cls := "DerivativeTape$BackSweep", name := "<init>", desc := "()V" } : Jvm.MethodName)))] : List (Nat × Cond)).map (fun q => q.2) := rfl
  rw [e] at hw
  obtain ⟨q, hq, rfl⟩ := List.mem_map.mp hw
  exact ma_W_i (h q hq).1 (h q hq).2
def ma_wm25 : List Cond := [(Jvm.Cond.initialized "DerivativeTape$BackSweep"), (Jvm.Cond.instanceMethod ({ cls := "DerivativeTape$BackSweep", name := "clear", desc := "()V" } : Jvm.MethodName)), (Jvm.Cond.selects "DerivativeTape$BackSweep" ({ cls := "DerivativeTape$BackSweep", name := "clear", desc := "()V" } : Jvm.MethodName) ({ cls := "DerivativeTape$BackSweep", name := "clear", desc := "()V" } : Jvm.MethodName))]
theorem ma_wm25_in : ∀ w ∈ ma_wm25, w ∈ ma_W := by
  have h : ∀ q ∈ [(43, (Jvm.Cond.initialized "DerivativeTape$BackSweep")), (368, (Jvm.Cond.instanceMethod ({ cls := "DerivativeTape$BackSweep", name := "clear", desc := "()V" } : Jvm.MethodName))), (369, (Jvm.Cond.selects "DerivativeTape$BackSweep" ({ cls := "DerivativeTape$BackSweep", name := "clear", desc := "()V" } : Jvm.MethodName) ({ cls := "DerivativeTape$BackSweep", name := "clear", desc := "()V" } : Jvm.MethodName)))], lw_tbl[q.1]? = some q.2 ∧ goodWord q.2 = true := by decide +kernel
  intro w hw
  have e : ma_wm25 = ([(43, (Jvm.Cond.initialized "DerivativeTape$BackSweep")), (368, (Jvm.Cond.instanceMethod ({ cls := "DerivativeTape$BackSweep", name := "clear", desc := "()V" } : Jvm.MethodName))), (369, (Jvm.Cond.selects "DerivativeTape$BackSweep" ({ cls := "DerivativeTape$BackSweep", name := "clear", desc := "()V" } : Jvm.MethodName) ({ cls := "DerivativeTape$BackSweep", name := "clear", desc := "()V" } : Jvm.MethodName)))] : List (Nat × Cond)).map (fun q => q.2) := rfl
  rw [e] at hw
  obtain ⟨q, hq, rfl⟩ := List.mem_map.mp hw
  exact ma_W_i (h q hq).1 (h q hq).2
def ma_wm26 : List Cond := [(Jvm.Cond.initialized "DerivativeTape$BackSweep"), (Jvm.Cond.instanceMethod ({ cls := "DerivativeTape$BackSweep", name := "give", desc := "(II)V" } : Jvm.MethodName)), (Jvm.Cond.selects "DerivativeTape$BackSweep" ({ cls := "DerivativeTape$BackSweep", name := "give", desc := "(II)V" } : Jvm.MethodName) ({ cls := "DerivativeTape$BackSweep", name := "give", desc := "(II)V" } : Jvm.MethodName))]
theorem ma_wm26_in : ∀ w ∈ ma_wm26, w ∈ ma_W := by
  have h : ∀ q ∈ [(43, (Jvm.Cond.initialized "DerivativeTape$BackSweep")), (373, (Jvm.Cond.instanceMethod ({ cls := "DerivativeTape$BackSweep", name := "give", desc := "(II)V" } : Jvm.MethodName))), (374, (Jvm.Cond.selects "DerivativeTape$BackSweep" ({ cls := "DerivativeTape$BackSweep", name := "give", desc := "(II)V" } : Jvm.MethodName) ({ cls := "DerivativeTape$BackSweep", name := "give", desc := "(II)V" } : Jvm.MethodName)))], lw_tbl[q.1]? = some q.2 ∧ goodWord q.2 = true := by decide +kernel
  intro w hw
  have e : ma_wm26 = ([(43, (Jvm.Cond.initialized "DerivativeTape$BackSweep")), (373, (Jvm.Cond.instanceMethod ({ cls := "DerivativeTape$BackSweep", name := "give", desc := "(II)V" } : Jvm.MethodName))), (374, (Jvm.Cond.selects "DerivativeTape$BackSweep" ({ cls := "DerivativeTape$BackSweep", name := "give", desc := "(II)V" } : Jvm.MethodName) ({ cls := "DerivativeTape$BackSweep", name := "give", desc := "(II)V" } : Jvm.MethodName)))] : List (Nat × Cond)).map (fun q => q.2) := rfl
  rw [e] at hw
  obtain ⟨q, hq, rfl⟩ := List.mem_map.mp hw
  exact ma_W_i (h q hq).1 (h q hq).2
def ma_wm27 : List Cond := [(Jvm.Cond.initialized "DerivativeTape$BackSweep"), (Jvm.Cond.instanceMethod ({ cls := "DerivativeTape$BackSweep", name := "run", desc := "(LDerivativeTape$Program;LDerivativeTape$Sweep;)V" } : Jvm.MethodName)), (Jvm.Cond.selects "DerivativeTape$BackSweep" ({ cls := "DerivativeTape$BackSweep", name := "run", desc := "(LDerivativeTape$Program;LDerivativeTape$Sweep;)V" } : Jvm.MethodName) ({ cls := "DerivativeTape$BackSweep", name := "run", desc := "(LDerivativeTape$Program;LDerivativeTape$Sweep;)V" } : Jvm.MethodName))]
theorem ma_wm27_in : ∀ w ∈ ma_wm27, w ∈ ma_W := by
  have h : ∀ q ∈ [(43, (Jvm.Cond.initialized "DerivativeTape$BackSweep")), (378, (Jvm.Cond.instanceMethod ({ cls := "DerivativeTape$BackSweep", name := "run", desc := "(LDerivativeTape$Program;LDerivativeTape$Sweep;)V" } : Jvm.MethodName))), (379, (Jvm.Cond.selects "DerivativeTape$BackSweep" ({ cls := "DerivativeTape$BackSweep", name := "run", desc := "(LDerivativeTape$Program;LDerivativeTape$Sweep;)V" } : Jvm.MethodName) ({ cls := "DerivativeTape$BackSweep", name := "run", desc := "(LDerivativeTape$Program;LDerivativeTape$Sweep;)V" } : Jvm.MethodName)))], lw_tbl[q.1]? = some q.2 ∧ goodWord q.2 = true := by decide +kernel
  intro w hw
  have e : ma_wm27 = ([(43, (Jvm.Cond.initialized "DerivativeTape$BackSweep")), (378, (Jvm.Cond.instanceMethod ({ cls := "DerivativeTape$BackSweep", name := "run", desc := "(LDerivativeTape$Program;LDerivativeTape$Sweep;)V" } : Jvm.MethodName))), (379, (Jvm.Cond.selects "DerivativeTape$BackSweep" ({ cls := "DerivativeTape$BackSweep", name := "run", desc := "(LDerivativeTape$Program;LDerivativeTape$Sweep;)V" } : Jvm.MethodName) ({ cls := "DerivativeTape$BackSweep", name := "run", desc := "(LDerivativeTape$Program;LDerivativeTape$Sweep;)V" } : Jvm.MethodName)))] : List (Nat × Cond)).map (fun q => q.2) := rfl
  rw [e] at hw
  obtain ⟨q, hq, rfl⟩ := List.mem_map.mp hw
  exact ma_W_i (h q hq).1 (h q hq).2
def ma_wm28 : List Cond := [(Jvm.Cond.initialized "DerivativeTape$BackSweep"), (Jvm.Cond.instanceMethod ({ cls := "DerivativeTape$BackSweep", name := "handOn", desc := "(LDerivativeTape$Program;LDerivativeTape$Sweep;I)V" } : Jvm.MethodName)), (Jvm.Cond.selects "DerivativeTape$BackSweep" ⟨"DerivativeTape$BackSweep", "handOn", "(LDerivativeTape$Program;LDerivativeTape$Sweep;I)V"⟩ ⟨"DerivativeTape$BackSweep", "handOn", "(LDerivativeTape$Program;LDerivativeTape$Sweep;I)V"⟩)]
theorem ma_wm28_in : ∀ w ∈ ma_wm28, w ∈ ma_W := by
  have h : ∀ q ∈ [(43, (Jvm.Cond.initialized "DerivativeTape$BackSweep")), (384, (Jvm.Cond.instanceMethod ({ cls := "DerivativeTape$BackSweep", name := "handOn", desc := "(LDerivativeTape$Program;LDerivativeTape$Sweep;I)V" } : Jvm.MethodName))), (8, (Jvm.Cond.selects "DerivativeTape$BackSweep" ⟨"DerivativeTape$BackSweep", "handOn", "(LDerivativeTape$Program;LDerivativeTape$Sweep;I)V"⟩ ⟨"DerivativeTape$BackSweep", "handOn", "(LDerivativeTape$Program;LDerivativeTape$Sweep;I)V"⟩))], lw_tbl[q.1]? = some q.2 ∧ goodWord q.2 = true := by decide +kernel
  intro w hw
  have e : ma_wm28 = ([(43, (Jvm.Cond.initialized "DerivativeTape$BackSweep")), (384, (Jvm.Cond.instanceMethod ({ cls := "DerivativeTape$BackSweep", name := "handOn", desc := "(LDerivativeTape$Program;LDerivativeTape$Sweep;I)V" } : Jvm.MethodName))), (8, (Jvm.Cond.selects "DerivativeTape$BackSweep" ⟨"DerivativeTape$BackSweep", "handOn", "(LDerivativeTape$Program;LDerivativeTape$Sweep;I)V"⟩ ⟨"DerivativeTape$BackSweep", "handOn", "(LDerivativeTape$Program;LDerivativeTape$Sweep;I)V"⟩))] : List (Nat × Cond)).map (fun q => q.2) := rfl
  rw [e] at hw
  obtain ⟨q, hq, rfl⟩ := List.mem_map.mp hw
  exact ma_W_i (h q hq).1 (h q hq).2
def ma_wm29 : List Cond := [(Jvm.Cond.initialized "DerivativeTape$BackSweep"), (Jvm.Cond.static ({ cls := "DerivativeTape$BackSweep", name := "findSlope", desc := "(II)I" } : Jvm.MethodName))]
theorem ma_wm29_in : ∀ w ∈ ma_wm29, w ∈ ma_W := by
  have h : ∀ q ∈ [(43, (Jvm.Cond.initialized "DerivativeTape$BackSweep")), (391, (Jvm.Cond.static ({ cls := "DerivativeTape$BackSweep", name := "findSlope", desc := "(II)I" } : Jvm.MethodName)))], lw_tbl[q.1]? = some q.2 ∧ goodWord q.2 = true := by decide +kernel
  intro w hw
  have e : ma_wm29 = ([(43, (Jvm.Cond.initialized "DerivativeTape$BackSweep")), (391, (Jvm.Cond.static ({ cls := "DerivativeTape$BackSweep", name := "findSlope", desc := "(II)I" } : Jvm.MethodName)))] : List (Nat × Cond)).map (fun q => q.2) := rfl
  rw [e] at hw
  obtain ⟨q, hq, rfl⟩ := List.mem_map.mp hw
  exact ma_W_i (h q hq).1 (h q hq).2
def ma_wm30 : List Cond := [(Jvm.Cond.initialized "DerivativeTape$Shrinking"), (Jvm.Cond.instanceMethod ({ cls := "DerivativeTape$Shrinking", name := "<init>", desc := "()V" } : Jvm.MethodName))]
theorem ma_wm30_in : ∀ w ∈ ma_wm30, w ∈ ma_W := by
  have h : ∀ q ∈ [(44, (Jvm.Cond.initialized "DerivativeTape$Shrinking")), (142, (Jvm.Cond.instanceMethod ({ cls := "DerivativeTape$Shrinking", name := "<init>", desc := "()V" } : Jvm.MethodName)))], lw_tbl[q.1]? = some q.2 ∧ goodWord q.2 = true := by decide +kernel
  intro w hw
  have e : ma_wm30 = ([(44, (Jvm.Cond.initialized "DerivativeTape$Shrinking")), (142, (Jvm.Cond.instanceMethod ({ cls := "DerivativeTape$Shrinking", name := "<init>", desc := "()V" } : Jvm.MethodName)))] : List (Nat × Cond)).map (fun q => q.2) := rfl
  rw [e] at hw
  obtain ⟨q, hq, rfl⟩ := List.mem_map.mp hw
  exact ma_W_i (h q hq).1 (h q hq).2
def ma_wm31 : List Cond := [(Jvm.Cond.initialized "DerivativeTape$Shrinking"), (Jvm.Cond.instanceMethod ({ cls := "DerivativeTape$Shrinking", name := "count", desc := "(LDerivativeTape$Program;LDerivativeTape$Sweep;[II)I" } : Jvm.MethodName)), (Jvm.Cond.selects "DerivativeTape$Shrinking" ({ cls := "DerivativeTape$Shrinking", name := "count", desc := "(LDerivativeTape$Program;LDerivativeTape$Sweep;[II)I" } : Jvm.MethodName) ({ cls := "DerivativeTape$Shrinking", name := "count", desc := "(LDerivativeTape$Program;LDerivativeTape$Sweep;[II)I" } : Jvm.MethodName))]
theorem ma_wm31_in : ∀ w ∈ ma_wm31, w ∈ ma_W := by
  have h : ∀ q ∈ [(44, (Jvm.Cond.initialized "DerivativeTape$Shrinking")), (450, (Jvm.Cond.instanceMethod ({ cls := "DerivativeTape$Shrinking", name := "count", desc := "(LDerivativeTape$Program;LDerivativeTape$Sweep;[II)I" } : Jvm.MethodName))), (451, (Jvm.Cond.selects "DerivativeTape$Shrinking" ({ cls := "DerivativeTape$Shrinking", name := "count", desc := "(LDerivativeTape$Program;LDerivativeTape$Sweep;[II)I" } : Jvm.MethodName) ({ cls := "DerivativeTape$Shrinking", name := "count", desc := "(LDerivativeTape$Program;LDerivativeTape$Sweep;[II)I" } : Jvm.MethodName)))], lw_tbl[q.1]? = some q.2 ∧ goodWord q.2 = true := by decide +kernel
  intro w hw
  have e : ma_wm31 = ([(44, (Jvm.Cond.initialized "DerivativeTape$Shrinking")), (450, (Jvm.Cond.instanceMethod ({ cls := "DerivativeTape$Shrinking", name := "count", desc := "(LDerivativeTape$Program;LDerivativeTape$Sweep;[II)I" } : Jvm.MethodName))), (451, (Jvm.Cond.selects "DerivativeTape$Shrinking" ({ cls := "DerivativeTape$Shrinking", name := "count", desc := "(LDerivativeTape$Program;LDerivativeTape$Sweep;[II)I" } : Jvm.MethodName) ({ cls := "DerivativeTape$Shrinking", name := "count", desc := "(LDerivativeTape$Program;LDerivativeTape$Sweep;[II)I" } : Jvm.MethodName)))] : List (Nat × Cond)).map (fun q => q.2) := rfl
  rw [e] at hw
  obtain ⟨q, hq, rfl⟩ := List.mem_map.mp hw
  exact ma_W_i (h q hq).1 (h q hq).2
def ma_wm32 : List Cond := [(Jvm.Cond.initialized "DerivativeTape$Shrinking"), (Jvm.Cond.instanceMethod ({ cls := "DerivativeTape$Shrinking", name := "isFolded", desc := "(LDerivativeTape$Program;LDerivativeTape$Sweep;I)Z" } : Jvm.MethodName)), (Jvm.Cond.selects "DerivativeTape$Shrinking" ⟨"DerivativeTape$Shrinking", "isFolded", "(LDerivativeTape$Program;LDerivativeTape$Sweep;I)Z"⟩ ⟨"DerivativeTape$Shrinking", "isFolded", "(LDerivativeTape$Program;LDerivativeTape$Sweep;I)Z"⟩)]
theorem ma_wm32_in : ∀ w ∈ ma_wm32, w ∈ ma_W := by
  have h : ∀ q ∈ [(44, (Jvm.Cond.initialized "DerivativeTape$Shrinking")), (455, (Jvm.Cond.instanceMethod ({ cls := "DerivativeTape$Shrinking", name := "isFolded", desc := "(LDerivativeTape$Program;LDerivativeTape$Sweep;I)Z" } : Jvm.MethodName))), (13, (Jvm.Cond.selects "DerivativeTape$Shrinking" ⟨"DerivativeTape$Shrinking", "isFolded", "(LDerivativeTape$Program;LDerivativeTape$Sweep;I)Z"⟩ ⟨"DerivativeTape$Shrinking", "isFolded", "(LDerivativeTape$Program;LDerivativeTape$Sweep;I)Z"⟩))], lw_tbl[q.1]? = some q.2 ∧ goodWord q.2 = true := by decide +kernel
  intro w hw
  have e : ma_wm32 = ([(44, (Jvm.Cond.initialized "DerivativeTape$Shrinking")), (455, (Jvm.Cond.instanceMethod ({ cls := "DerivativeTape$Shrinking", name := "isFolded", desc := "(LDerivativeTape$Program;LDerivativeTape$Sweep;I)Z" } : Jvm.MethodName))), (13, (Jvm.Cond.selects "DerivativeTape$Shrinking" ⟨"DerivativeTape$Shrinking", "isFolded", "(LDerivativeTape$Program;LDerivativeTape$Sweep;I)Z"⟩ ⟨"DerivativeTape$Shrinking", "isFolded", "(LDerivativeTape$Program;LDerivativeTape$Sweep;I)Z"⟩))] : List (Nat × Cond)).map (fun q => q.2) := rfl
  rw [e] at hw
  obtain ⟨q, hq, rfl⟩ := List.mem_map.mp hw
  exact ma_W_i (h q hq).1 (h q hq).2
def ma_wm33 : List Cond := [(Jvm.Cond.initialized "DerivativeTape$Shrinking"), (Jvm.Cond.instanceMethod ({ cls := "DerivativeTape$Shrinking", name := "findModel", desc := "(LDerivativeTape$Program;LDerivativeTape$Sweep;I)I" } : Jvm.MethodName)), (Jvm.Cond.selects "DerivativeTape$Shrinking" ⟨"DerivativeTape$Shrinking", "findModel", "(LDerivativeTape$Program;LDerivativeTape$Sweep;I)I"⟩ ⟨"DerivativeTape$Shrinking", "findModel", "(LDerivativeTape$Program;LDerivativeTape$Sweep;I)I"⟩)]
theorem ma_wm33_in : ∀ w ∈ ma_wm33, w ∈ ma_W := by
  have h : ∀ q ∈ [(44, (Jvm.Cond.initialized "DerivativeTape$Shrinking")), (460, (Jvm.Cond.instanceMethod ({ cls := "DerivativeTape$Shrinking", name := "findModel", desc := "(LDerivativeTape$Program;LDerivativeTape$Sweep;I)I" } : Jvm.MethodName))), (14, (Jvm.Cond.selects "DerivativeTape$Shrinking" ⟨"DerivativeTape$Shrinking", "findModel", "(LDerivativeTape$Program;LDerivativeTape$Sweep;I)I"⟩ ⟨"DerivativeTape$Shrinking", "findModel", "(LDerivativeTape$Program;LDerivativeTape$Sweep;I)I"⟩))], lw_tbl[q.1]? = some q.2 ∧ goodWord q.2 = true := by decide +kernel
  intro w hw
  have e : ma_wm33 = ([(44, (Jvm.Cond.initialized "DerivativeTape$Shrinking")), (460, (Jvm.Cond.instanceMethod ({ cls := "DerivativeTape$Shrinking", name := "findModel", desc := "(LDerivativeTape$Program;LDerivativeTape$Sweep;I)I" } : Jvm.MethodName))), (14, (Jvm.Cond.selects "DerivativeTape$Shrinking" ⟨"DerivativeTape$Shrinking", "findModel", "(LDerivativeTape$Program;LDerivativeTape$Sweep;I)I"⟩ ⟨"DerivativeTape$Shrinking", "findModel", "(LDerivativeTape$Program;LDerivativeTape$Sweep;I)I"⟩))] : List (Nat × Cond)).map (fun q => q.2) := rfl
  rw [e] at hw
  obtain ⟨q, hq, rfl⟩ := List.mem_map.mp hw
  exact ma_W_i (h q hq).1 (h q hq).2
def ma_wm34 : List Cond := [(Jvm.Cond.initialized "DerivativeTape$Shrinking"), (Jvm.Cond.instanceMethod ({ cls := "DerivativeTape$Shrinking", name := "areAlike", desc := "(LDerivativeTape$Program;LDerivativeTape$Sweep;II)Z" } : Jvm.MethodName)), (Jvm.Cond.selects "DerivativeTape$Shrinking" ⟨"DerivativeTape$Shrinking", "areAlike", "(LDerivativeTape$Program;LDerivativeTape$Sweep;II)Z"⟩ ⟨"DerivativeTape$Shrinking", "areAlike", "(LDerivativeTape$Program;LDerivativeTape$Sweep;II)Z"⟩)]
theorem ma_wm34_in : ∀ w ∈ ma_wm34, w ∈ ma_W := by
  have h : ∀ q ∈ [(44, (Jvm.Cond.initialized "DerivativeTape$Shrinking")), (464, (Jvm.Cond.instanceMethod ({ cls := "DerivativeTape$Shrinking", name := "areAlike", desc := "(LDerivativeTape$Program;LDerivativeTape$Sweep;II)Z" } : Jvm.MethodName))), (15, (Jvm.Cond.selects "DerivativeTape$Shrinking" ⟨"DerivativeTape$Shrinking", "areAlike", "(LDerivativeTape$Program;LDerivativeTape$Sweep;II)Z"⟩ ⟨"DerivativeTape$Shrinking", "areAlike", "(LDerivativeTape$Program;LDerivativeTape$Sweep;II)Z"⟩))], lw_tbl[q.1]? = some q.2 ∧ goodWord q.2 = true := by decide +kernel
  intro w hw
  have e : ma_wm34 = ([(44, (Jvm.Cond.initialized "DerivativeTape$Shrinking")), (464, (Jvm.Cond.instanceMethod ({ cls := "DerivativeTape$Shrinking", name := "areAlike", desc := "(LDerivativeTape$Program;LDerivativeTape$Sweep;II)Z" } : Jvm.MethodName))), (15, (Jvm.Cond.selects "DerivativeTape$Shrinking" ⟨"DerivativeTape$Shrinking", "areAlike", "(LDerivativeTape$Program;LDerivativeTape$Sweep;II)Z"⟩ ⟨"DerivativeTape$Shrinking", "areAlike", "(LDerivativeTape$Program;LDerivativeTape$Sweep;II)Z"⟩))] : List (Nat × Cond)).map (fun q => q.2) := rfl
  rw [e] at hw
  obtain ⟨q, hq, rfl⟩ := List.mem_map.mp hw
  exact ma_W_i (h q hq).1 (h q hq).2
def ma_wm35 : List Cond := [(Jvm.Cond.initialized "DerivativeTape$Shrinking"), (Jvm.Cond.instanceMethod ({ cls := "DerivativeTape$Shrinking", name := "enliven", desc := "(LDerivativeTape$Program;I)V" } : Jvm.MethodName)), (Jvm.Cond.selects "DerivativeTape$Shrinking" ⟨"DerivativeTape$Shrinking", "enliven", "(LDerivativeTape$Program;I)V"⟩ ⟨"DerivativeTape$Shrinking", "enliven", "(LDerivativeTape$Program;I)V"⟩)]
theorem ma_wm35_in : ∀ w ∈ ma_wm35, w ∈ ma_W := by
  have h : ∀ q ∈ [(44, (Jvm.Cond.initialized "DerivativeTape$Shrinking")), (468, (Jvm.Cond.instanceMethod ({ cls := "DerivativeTape$Shrinking", name := "enliven", desc := "(LDerivativeTape$Program;I)V" } : Jvm.MethodName))), (16, (Jvm.Cond.selects "DerivativeTape$Shrinking" ⟨"DerivativeTape$Shrinking", "enliven", "(LDerivativeTape$Program;I)V"⟩ ⟨"DerivativeTape$Shrinking", "enliven", "(LDerivativeTape$Program;I)V"⟩))], lw_tbl[q.1]? = some q.2 ∧ goodWord q.2 = true := by decide +kernel
  intro w hw
  have e : ma_wm35 = ([(44, (Jvm.Cond.initialized "DerivativeTape$Shrinking")), (468, (Jvm.Cond.instanceMethod ({ cls := "DerivativeTape$Shrinking", name := "enliven", desc := "(LDerivativeTape$Program;I)V" } : Jvm.MethodName))), (16, (Jvm.Cond.selects "DerivativeTape$Shrinking" ⟨"DerivativeTape$Shrinking", "enliven", "(LDerivativeTape$Program;I)V"⟩ ⟨"DerivativeTape$Shrinking", "enliven", "(LDerivativeTape$Program;I)V"⟩))] : List (Nat × Cond)).map (fun q => q.2) := rfl
  rw [e] at hw
  obtain ⟨q, hq, rfl⟩ := List.mem_map.mp hw
  exact ma_W_i (h q hq).1 (h q hq).2
def ma_wm36 : List Cond := [(Jvm.Cond.initialized "DerivativeTape$Snapshots"), (Jvm.Cond.instanceMethod ({ cls := "DerivativeTape$Snapshots", name := "<init>", desc := "()V" } : Jvm.MethodName))]
theorem ma_wm36_in : ∀ w ∈ ma_wm36, w ∈ ma_W := by
  have h : ∀ q ∈ [(45, (Jvm.Cond.initialized "DerivativeTape$Snapshots")), (162, (Jvm.Cond.instanceMethod ({ cls := "DerivativeTape$Snapshots", name := "<init>", desc := "()V" } : Jvm.MethodName)))], lw_tbl[q.1]? = some q.2 ∧ goodWord q.2 = true := by decide +kernel
  intro w hw
  have e : ma_wm36 = ([(45, (Jvm.Cond.initialized "DerivativeTape$Snapshots")), (162, (Jvm.Cond.instanceMethod ({ cls := "DerivativeTape$Snapshots", name := "<init>", desc := "()V" } : Jvm.MethodName)))] : List (Nat × Cond)).map (fun q => q.2) := rfl
  rw [e] at hw
  obtain ⟨q, hq, rfl⟩ := List.mem_map.mp hw
  exact ma_W_i (h q hq).1 (h q hq).2
def ma_wm37 : List Cond := [(Jvm.Cond.initialized "DerivativeTape$Snapshots"), (Jvm.Cond.instanceMethod ({ cls := "DerivativeTape$Snapshots", name := "stepsAgain", desc := "(II)I" } : Jvm.MethodName)), (Jvm.Cond.selects "DerivativeTape$Snapshots" ({ cls := "DerivativeTape$Snapshots", name := "stepsAgain", desc := "(II)I" } : Jvm.MethodName) ({ cls := "DerivativeTape$Snapshots", name := "stepsAgain", desc := "(II)I" } : Jvm.MethodName))]
theorem ma_wm37_in : ∀ w ∈ ma_wm37, w ∈ ma_W := by
  have h : ∀ q ∈ [(45, (Jvm.Cond.initialized "DerivativeTape$Snapshots")), (484, (Jvm.Cond.instanceMethod ({ cls := "DerivativeTape$Snapshots", name := "stepsAgain", desc := "(II)I" } : Jvm.MethodName))), (485, (Jvm.Cond.selects "DerivativeTape$Snapshots" ({ cls := "DerivativeTape$Snapshots", name := "stepsAgain", desc := "(II)I" } : Jvm.MethodName) ({ cls := "DerivativeTape$Snapshots", name := "stepsAgain", desc := "(II)I" } : Jvm.MethodName)))], lw_tbl[q.1]? = some q.2 ∧ goodWord q.2 = true := by decide +kernel
  intro w hw
  have e : ma_wm37 = ([(45, (Jvm.Cond.initialized "DerivativeTape$Snapshots")), (484, (Jvm.Cond.instanceMethod ({ cls := "DerivativeTape$Snapshots", name := "stepsAgain", desc := "(II)I" } : Jvm.MethodName))), (485, (Jvm.Cond.selects "DerivativeTape$Snapshots" ({ cls := "DerivativeTape$Snapshots", name := "stepsAgain", desc := "(II)I" } : Jvm.MethodName) ({ cls := "DerivativeTape$Snapshots", name := "stepsAgain", desc := "(II)I" } : Jvm.MethodName)))] : List (Nat × Cond)).map (fun q => q.2) := rfl
  rw [e] at hw
  obtain ⟨q, hq, rfl⟩ := List.mem_map.mp hw
  exact ma_W_i (h q hq).1 (h q hq).2
def ma_wm38 : List Cond := [(Jvm.Cond.initialized "DerivativeTape$Snapshots"), (Jvm.Cond.instanceMethod ({ cls := "DerivativeTape$Snapshots", name := "fillTable", desc := "()V" } : Jvm.MethodName)), (Jvm.Cond.selects "DerivativeTape$Snapshots" ⟨"DerivativeTape$Snapshots", "fillTable", "()V"⟩ ⟨"DerivativeTape$Snapshots", "fillTable", "()V"⟩)]
theorem ma_wm38_in : ∀ w ∈ ma_wm38, w ∈ ma_W := by
  have h : ∀ q ∈ [(45, (Jvm.Cond.initialized "DerivativeTape$Snapshots")), (489, (Jvm.Cond.instanceMethod ({ cls := "DerivativeTape$Snapshots", name := "fillTable", desc := "()V" } : Jvm.MethodName))), (19, (Jvm.Cond.selects "DerivativeTape$Snapshots" ⟨"DerivativeTape$Snapshots", "fillTable", "()V"⟩ ⟨"DerivativeTape$Snapshots", "fillTable", "()V"⟩))], lw_tbl[q.1]? = some q.2 ∧ goodWord q.2 = true := by decide +kernel
  intro w hw
  have e : ma_wm38 = ([(45, (Jvm.Cond.initialized "DerivativeTape$Snapshots")), (489, (Jvm.Cond.instanceMethod ({ cls := "DerivativeTape$Snapshots", name := "fillTable", desc := "()V" } : Jvm.MethodName))), (19, (Jvm.Cond.selects "DerivativeTape$Snapshots" ⟨"DerivativeTape$Snapshots", "fillTable", "()V"⟩ ⟨"DerivativeTape$Snapshots", "fillTable", "()V"⟩))] : List (Nat × Cond)).map (fun q => q.2) := rfl
  rw [e] at hw
  obtain ⟨q, hq, rfl⟩ := List.mem_map.mp hw
  exact ma_W_i (h q hq).1 (h q hq).2
def ma_wm39 : List Cond := [(Jvm.Cond.initialized "DerivativeTape$Snapshots"), (Jvm.Cond.instanceMethod ({ cls := "DerivativeTape$Snapshots", name := "findLeast", desc := "(II)I" } : Jvm.MethodName)), (Jvm.Cond.selects "DerivativeTape$Snapshots" ⟨"DerivativeTape$Snapshots", "findLeast", "(II)I"⟩ ⟨"DerivativeTape$Snapshots", "findLeast", "(II)I"⟩)]
theorem ma_wm39_in : ∀ w ∈ ma_wm39, w ∈ ma_W := by
  have h : ∀ q ∈ [(45, (Jvm.Cond.initialized "DerivativeTape$Snapshots")), (493, (Jvm.Cond.instanceMethod ({ cls := "DerivativeTape$Snapshots", name := "findLeast", desc := "(II)I" } : Jvm.MethodName))), (20, (Jvm.Cond.selects "DerivativeTape$Snapshots" ⟨"DerivativeTape$Snapshots", "findLeast", "(II)I"⟩ ⟨"DerivativeTape$Snapshots", "findLeast", "(II)I"⟩))], lw_tbl[q.1]? = some q.2 ∧ goodWord q.2 = true := by decide +kernel
  intro w hw
  have e : ma_wm39 = ([(45, (Jvm.Cond.initialized "DerivativeTape$Snapshots")), (493, (Jvm.Cond.instanceMethod ({ cls := "DerivativeTape$Snapshots", name := "findLeast", desc := "(II)I" } : Jvm.MethodName))), (20, (Jvm.Cond.selects "DerivativeTape$Snapshots" ⟨"DerivativeTape$Snapshots", "findLeast", "(II)I"⟩ ⟨"DerivativeTape$Snapshots", "findLeast", "(II)I"⟩))] : List (Nat × Cond)).map (fun q => q.2) := rfl
  rw [e] at hw
  obtain ⟨q, hq, rfl⟩ := List.mem_map.mp hw
  exact ma_W_i (h q hq).1 (h q hq).2
def ma_wm40 : List Cond := [(Jvm.Cond.initialized "DerivativeTape"), (Jvm.Cond.instanceMethod ({ cls := "DerivativeTape", name := "<init>", desc := "()V" } : Jvm.MethodName))]
theorem ma_wm40_in : ∀ w ∈ ma_wm40, w ∈ ma_W := by
  have h : ∀ q ∈ [(40, (Jvm.Cond.initialized "DerivativeTape")), (54, (Jvm.Cond.instanceMethod ({ cls := "DerivativeTape", name := "<init>", desc := "()V" } : Jvm.MethodName)))], lw_tbl[q.1]? = some q.2 ∧ goodWord q.2 = true := by decide +kernel
  intro w hw
  have e : ma_wm40 = ([(40, (Jvm.Cond.initialized "DerivativeTape")), (54, (Jvm.Cond.instanceMethod ({ cls := "DerivativeTape", name := "<init>", desc := "()V" } : Jvm.MethodName)))] : List (Nat × Cond)).map (fun q => q.2) := rfl
  rw [e] at hw
  obtain ⟨q, hq, rfl⟩ := List.mem_map.mp hw
  exact ma_W_i (h q hq).1 (h q hq).2
def ma_wm41 : List Cond := [(Jvm.Cond.initialized "DerivativeTape"), (Jvm.Cond.instanceMethod ({ cls := "DerivativeTape", name := "input", desc := "()I" } : Jvm.MethodName)), (Jvm.Cond.selects "DerivativeTape" ({ cls := "DerivativeTape", name := "input", desc := "()I" } : Jvm.MethodName) ({ cls := "DerivativeTape", name := "input", desc := "()I" } : Jvm.MethodName))]
theorem ma_wm41_in : ∀ w ∈ ma_wm41, w ∈ ma_W := by
  have h : ∀ q ∈ [(40, (Jvm.Cond.initialized "DerivativeTape")), (224, (Jvm.Cond.instanceMethod ({ cls := "DerivativeTape", name := "input", desc := "()I" } : Jvm.MethodName))), (225, (Jvm.Cond.selects "DerivativeTape" ({ cls := "DerivativeTape", name := "input", desc := "()I" } : Jvm.MethodName) ({ cls := "DerivativeTape", name := "input", desc := "()I" } : Jvm.MethodName)))], lw_tbl[q.1]? = some q.2 ∧ goodWord q.2 = true := by decide +kernel
  intro w hw
  have e : ma_wm41 = ([(40, (Jvm.Cond.initialized "DerivativeTape")), (224, (Jvm.Cond.instanceMethod ({ cls := "DerivativeTape", name := "input", desc := "()I" } : Jvm.MethodName))), (225, (Jvm.Cond.selects "DerivativeTape" ({ cls := "DerivativeTape", name := "input", desc := "()I" } : Jvm.MethodName) ({ cls := "DerivativeTape", name := "input", desc := "()I" } : Jvm.MethodName)))] : List (Nat × Cond)).map (fun q => q.2) := rfl
  rw [e] at hw
  obtain ⟨q, hq, rfl⟩ := List.mem_map.mp hw
  exact ma_W_i (h q hq).1 (h q hq).2
def ma_wm42 : List Cond := [(Jvm.Cond.initialized "DerivativeTape"), (Jvm.Cond.instanceMethod ({ cls := "DerivativeTape", name := "constant", desc := "(I)I" } : Jvm.MethodName)), (Jvm.Cond.selects "DerivativeTape" ({ cls := "DerivativeTape", name := "constant", desc := "(I)I" } : Jvm.MethodName) ({ cls := "DerivativeTape", name := "constant", desc := "(I)I" } : Jvm.MethodName))]
theorem ma_wm42_in : ∀ w ∈ ma_wm42, w ∈ ma_W := by
  have h : ∀ q ∈ [(40, (Jvm.Cond.initialized "DerivativeTape")), (240, (Jvm.Cond.instanceMethod ({ cls := "DerivativeTape", name := "constant", desc := "(I)I" } : Jvm.MethodName))), (241, (Jvm.Cond.selects "DerivativeTape" ({ cls := "DerivativeTape", name := "constant", desc := "(I)I" } : Jvm.MethodName) ({ cls := "DerivativeTape", name := "constant", desc := "(I)I" } : Jvm.MethodName)))], lw_tbl[q.1]? = some q.2 ∧ goodWord q.2 = true := by decide +kernel
  intro w hw
  have e : ma_wm42 = ([(40, (Jvm.Cond.initialized "DerivativeTape")), (240, (Jvm.Cond.instanceMethod ({ cls := "DerivativeTape", name := "constant", desc := "(I)I" } : Jvm.MethodName))), (241, (Jvm.Cond.selects "DerivativeTape" ({ cls := "DerivativeTape", name := "constant", desc := "(I)I" } : Jvm.MethodName) ({ cls := "DerivativeTape", name := "constant", desc := "(I)I" } : Jvm.MethodName)))] : List (Nat × Cond)).map (fun q => q.2) := rfl
  rw [e] at hw
  obtain ⟨q, hq, rfl⟩ := List.mem_map.mp hw
  exact ma_W_i (h q hq).1 (h q hq).2
def ma_wm43 : List Cond := [(Jvm.Cond.initialized "DerivativeTape"), (Jvm.Cond.instanceMethod ({ cls := "DerivativeTape", name := "operation", desc := "(III)I" } : Jvm.MethodName)), (Jvm.Cond.selects "DerivativeTape" ({ cls := "DerivativeTape", name := "operation", desc := "(III)I" } : Jvm.MethodName) ({ cls := "DerivativeTape", name := "operation", desc := "(III)I" } : Jvm.MethodName))]
theorem ma_wm43_in : ∀ w ∈ ma_wm43, w ∈ ma_W := by
  have h : ∀ q ∈ [(40, (Jvm.Cond.initialized "DerivativeTape")), (253, (Jvm.Cond.instanceMethod ({ cls := "DerivativeTape", name := "operation", desc := "(III)I" } : Jvm.MethodName))), (254, (Jvm.Cond.selects "DerivativeTape" ({ cls := "DerivativeTape", name := "operation", desc := "(III)I" } : Jvm.MethodName) ({ cls := "DerivativeTape", name := "operation", desc := "(III)I" } : Jvm.MethodName)))], lw_tbl[q.1]? = some q.2 ∧ goodWord q.2 = true := by decide +kernel
  intro w hw
  have e : ma_wm43 = ([(40, (Jvm.Cond.initialized "DerivativeTape")), (253, (Jvm.Cond.instanceMethod ({ cls := "DerivativeTape", name := "operation", desc := "(III)I" } : Jvm.MethodName))), (254, (Jvm.Cond.selects "DerivativeTape" ({ cls := "DerivativeTape", name := "operation", desc := "(III)I" } : Jvm.MethodName) ({ cls := "DerivativeTape", name := "operation", desc := "(III)I" } : Jvm.MethodName)))] : List (Nat × Cond)).map (fun q => q.2) := rfl
  rw [e] at hw
  obtain ⟨q, hq, rfl⟩ := List.mem_map.mp hw
  exact ma_W_i (h q hq).1 (h q hq).2
def ma_wm44 : List Cond := [(Jvm.Cond.initialized "DerivativeTape"), (Jvm.Cond.instanceMethod ({ cls := "DerivativeTape", name := "output", desc := "(I)I" } : Jvm.MethodName)), (Jvm.Cond.selects "DerivativeTape" ({ cls := "DerivativeTape", name := "output", desc := "(I)I" } : Jvm.MethodName) ({ cls := "DerivativeTape", name := "output", desc := "(I)I" } : Jvm.MethodName))]
theorem ma_wm44_in : ∀ w ∈ ma_wm44, w ∈ ma_W := by
  have h : ∀ q ∈ [(40, (Jvm.Cond.initialized "DerivativeTape")), (265, (Jvm.Cond.instanceMethod ({ cls := "DerivativeTape", name := "output", desc := "(I)I" } : Jvm.MethodName))), (266, (Jvm.Cond.selects "DerivativeTape" ({ cls := "DerivativeTape", name := "output", desc := "(I)I" } : Jvm.MethodName) ({ cls := "DerivativeTape", name := "output", desc := "(I)I" } : Jvm.MethodName)))], lw_tbl[q.1]? = some q.2 ∧ goodWord q.2 = true := by decide +kernel
  intro w hw
  have e : ma_wm44 = ([(40, (Jvm.Cond.initialized "DerivativeTape")), (265, (Jvm.Cond.instanceMethod ({ cls := "DerivativeTape", name := "output", desc := "(I)I" } : Jvm.MethodName))), (266, (Jvm.Cond.selects "DerivativeTape" ({ cls := "DerivativeTape", name := "output", desc := "(I)I" } : Jvm.MethodName) ({ cls := "DerivativeTape", name := "output", desc := "(I)I" } : Jvm.MethodName)))] : List (Nat × Cond)).map (fun q => q.2) := rfl
  rw [e] at hw
  obtain ⟨q, hq, rfl⟩ := List.mem_map.mp hw
  exact ma_W_i (h q hq).1 (h q hq).2
def ma_wm45 : List Cond := [(Jvm.Cond.initialized "DerivativeTape"), (Jvm.Cond.instanceMethod ({ cls := "DerivativeTape", name := "point", desc := "(II)Z" } : Jvm.MethodName)), (Jvm.Cond.selects "DerivativeTape" ({ cls := "DerivativeTape", name := "point", desc := "(II)Z" } : Jvm.MethodName) ({ cls := "DerivativeTape", name := "point", desc := "(II)Z" } : Jvm.MethodName))]
theorem ma_wm45_in : ∀ w ∈ ma_wm45, w ∈ ma_W := by
  have h : ∀ q ∈ [(40, (Jvm.Cond.initialized "DerivativeTape")), (269, (Jvm.Cond.instanceMethod ({ cls := "DerivativeTape", name := "point", desc := "(II)Z" } : Jvm.MethodName))), (270, (Jvm.Cond.selects "DerivativeTape" ({ cls := "DerivativeTape", name := "point", desc := "(II)Z" } : Jvm.MethodName) ({ cls := "DerivativeTape", name := "point", desc := "(II)Z" } : Jvm.MethodName)))], lw_tbl[q.1]? = some q.2 ∧ goodWord q.2 = true := by decide +kernel
  intro w hw
  have e : ma_wm45 = ([(40, (Jvm.Cond.initialized "DerivativeTape")), (269, (Jvm.Cond.instanceMethod ({ cls := "DerivativeTape", name := "point", desc := "(II)Z" } : Jvm.MethodName))), (270, (Jvm.Cond.selects "DerivativeTape" ({ cls := "DerivativeTape", name := "point", desc := "(II)Z" } : Jvm.MethodName) ({ cls := "DerivativeTape", name := "point", desc := "(II)Z" } : Jvm.MethodName)))] : List (Nat × Cond)).map (fun q => q.2) := rfl
  rw [e] at hw
  obtain ⟨q, hq, rfl⟩ := List.mem_map.mp hw
  exact ma_W_i (h q hq).1 (h q hq).2
def ma_wm46 : List Cond := [(Jvm.Cond.initialized "DerivativeTape"), (Jvm.Cond.instanceMethod ({ cls := "DerivativeTape", name := "direction", desc := "(II)Z" } : Jvm.MethodName)), (Jvm.Cond.selects "DerivativeTape" ({ cls := "DerivativeTape", name := "direction", desc := "(II)Z" } : Jvm.MethodName) ({ cls := "DerivativeTape", name := "direction", desc := "(II)Z" } : Jvm.MethodName))]
theorem ma_wm46_in : ∀ w ∈ ma_wm46, w ∈ ma_W := by
  have h : ∀ q ∈ [(40, (Jvm.Cond.initialized "DerivativeTape")), (277, (Jvm.Cond.instanceMethod ({ cls := "DerivativeTape", name := "direction", desc := "(II)Z" } : Jvm.MethodName))), (278, (Jvm.Cond.selects "DerivativeTape" ({ cls := "DerivativeTape", name := "direction", desc := "(II)Z" } : Jvm.MethodName) ({ cls := "DerivativeTape", name := "direction", desc := "(II)Z" } : Jvm.MethodName)))], lw_tbl[q.1]? = some q.2 ∧ goodWord q.2 = true := by decide +kernel
  intro w hw
  have e : ma_wm46 = ([(40, (Jvm.Cond.initialized "DerivativeTape")), (277, (Jvm.Cond.instanceMethod ({ cls := "DerivativeTape", name := "direction", desc := "(II)Z" } : Jvm.MethodName))), (278, (Jvm.Cond.selects "DerivativeTape" ({ cls := "DerivativeTape", name := "direction", desc := "(II)Z" } : Jvm.MethodName) ({ cls := "DerivativeTape", name := "direction", desc := "(II)Z" } : Jvm.MethodName)))] : List (Nat × Cond)).map (fun q => q.2) := rfl
  rw [e] at hw
  obtain ⟨q, hq, rfl⟩ := List.mem_map.mp hw
  exact ma_W_i (h q hq).1 (h q hq).2
def ma_wm47 : List Cond := [(Jvm.Cond.initialized "DerivativeTape"), (Jvm.Cond.instanceMethod ({ cls := "DerivativeTape", name := "weight", desc := "(II)Z" } : Jvm.MethodName)), (Jvm.Cond.selects "DerivativeTape" ({ cls := "DerivativeTape", name := "weight", desc := "(II)Z" } : Jvm.MethodName) ({ cls := "DerivativeTape", name := "weight", desc := "(II)Z" } : Jvm.MethodName))]
theorem ma_wm47_in : ∀ w ∈ ma_wm47, w ∈ ma_W := by
  have h : ∀ q ∈ [(40, (Jvm.Cond.initialized "DerivativeTape")), (281, (Jvm.Cond.instanceMethod ({ cls := "DerivativeTape", name := "weight", desc := "(II)Z" } : Jvm.MethodName))), (282, (Jvm.Cond.selects "DerivativeTape" ({ cls := "DerivativeTape", name := "weight", desc := "(II)Z" } : Jvm.MethodName) ({ cls := "DerivativeTape", name := "weight", desc := "(II)Z" } : Jvm.MethodName)))], lw_tbl[q.1]? = some q.2 ∧ goodWord q.2 = true := by decide +kernel
  intro w hw
  have e : ma_wm47 = ([(40, (Jvm.Cond.initialized "DerivativeTape")), (281, (Jvm.Cond.instanceMethod ({ cls := "DerivativeTape", name := "weight", desc := "(II)Z" } : Jvm.MethodName))), (282, (Jvm.Cond.selects "DerivativeTape" ({ cls := "DerivativeTape", name := "weight", desc := "(II)Z" } : Jvm.MethodName) ({ cls := "DerivativeTape", name := "weight", desc := "(II)Z" } : Jvm.MethodName)))] : List (Nat × Cond)).map (fun q => q.2) := rfl
  rw [e] at hw
  obtain ⟨q, hq, rfl⟩ := List.mem_map.mp hw
  exact ma_W_i (h q hq).1 (h q hq).2
def ma_wm48 : List Cond := [(Jvm.Cond.initialized "DerivativeTape"), (Jvm.Cond.instanceMethod ({ cls := "DerivativeTape", name := "value", desc := "(I)I" } : Jvm.MethodName)), (Jvm.Cond.selects "DerivativeTape" ({ cls := "DerivativeTape", name := "value", desc := "(I)I" } : Jvm.MethodName) ({ cls := "DerivativeTape", name := "value", desc := "(I)I" } : Jvm.MethodName))]
theorem ma_wm48_in : ∀ w ∈ ma_wm48, w ∈ ma_W := by
  have h : ∀ q ∈ [(40, (Jvm.Cond.initialized "DerivativeTape")), (289, (Jvm.Cond.instanceMethod ({ cls := "DerivativeTape", name := "value", desc := "(I)I" } : Jvm.MethodName))), (290, (Jvm.Cond.selects "DerivativeTape" ({ cls := "DerivativeTape", name := "value", desc := "(I)I" } : Jvm.MethodName) ({ cls := "DerivativeTape", name := "value", desc := "(I)I" } : Jvm.MethodName)))], lw_tbl[q.1]? = some q.2 ∧ goodWord q.2 = true := by decide +kernel
  intro w hw
  have e : ma_wm48 = ([(40, (Jvm.Cond.initialized "DerivativeTape")), (289, (Jvm.Cond.instanceMethod ({ cls := "DerivativeTape", name := "value", desc := "(I)I" } : Jvm.MethodName))), (290, (Jvm.Cond.selects "DerivativeTape" ({ cls := "DerivativeTape", name := "value", desc := "(I)I" } : Jvm.MethodName) ({ cls := "DerivativeTape", name := "value", desc := "(I)I" } : Jvm.MethodName)))] : List (Nat × Cond)).map (fun q => q.2) := rfl
  rw [e] at hw
  obtain ⟨q, hq, rfl⟩ := List.mem_map.mp hw
  exact ma_W_i (h q hq).1 (h q hq).2
def ma_wm49 : List Cond := [(Jvm.Cond.initialized "DerivativeTape"), (Jvm.Cond.instanceMethod ({ cls := "DerivativeTape", name := "forward", desc := "(I)I" } : Jvm.MethodName)), (Jvm.Cond.selects "DerivativeTape" ({ cls := "DerivativeTape", name := "forward", desc := "(I)I" } : Jvm.MethodName) ({ cls := "DerivativeTape", name := "forward", desc := "(I)I" } : Jvm.MethodName))]
theorem ma_wm49_in : ∀ w ∈ ma_wm49, w ∈ ma_W := by
  have h : ∀ q ∈ [(40, (Jvm.Cond.initialized "DerivativeTape")), (347, (Jvm.Cond.instanceMethod ({ cls := "DerivativeTape", name := "forward", desc := "(I)I" } : Jvm.MethodName))), (348, (Jvm.Cond.selects "DerivativeTape" ({ cls := "DerivativeTape", name := "forward", desc := "(I)I" } : Jvm.MethodName) ({ cls := "DerivativeTape", name := "forward", desc := "(I)I" } : Jvm.MethodName)))], lw_tbl[q.1]? = some q.2 ∧ goodWord q.2 = true := by decide +kernel
  intro w hw
  have e : ma_wm49 = ([(40, (Jvm.Cond.initialized "DerivativeTape")), (347, (Jvm.Cond.instanceMethod ({ cls := "DerivativeTape", name := "forward", desc := "(I)I" } : Jvm.MethodName))), (348, (Jvm.Cond.selects "DerivativeTape" ({ cls := "DerivativeTape", name := "forward", desc := "(I)I" } : Jvm.MethodName) ({ cls := "DerivativeTape", name := "forward", desc := "(I)I" } : Jvm.MethodName)))] : List (Nat × Cond)).map (fun q => q.2) := rfl
  rw [e] at hw
  obtain ⟨q, hq, rfl⟩ := List.mem_map.mp hw
  exact ma_W_i (h q hq).1 (h q hq).2
def ma_wm50 : List Cond := [(Jvm.Cond.initialized "DerivativeTape"), (Jvm.Cond.instanceMethod ({ cls := "DerivativeTape", name := "reverse", desc := "(I)I" } : Jvm.MethodName)), (Jvm.Cond.selects "DerivativeTape" ({ cls := "DerivativeTape", name := "reverse", desc := "(I)I" } : Jvm.MethodName) ({ cls := "DerivativeTape", name := "reverse", desc := "(I)I" } : Jvm.MethodName))]
theorem ma_wm50_in : ∀ w ∈ ma_wm50, w ∈ ma_W := by
  have h : ∀ q ∈ [(40, (Jvm.Cond.initialized "DerivativeTape")), (355, (Jvm.Cond.instanceMethod ({ cls := "DerivativeTape", name := "reverse", desc := "(I)I" } : Jvm.MethodName))), (356, (Jvm.Cond.selects "DerivativeTape" ({ cls := "DerivativeTape", name := "reverse", desc := "(I)I" } : Jvm.MethodName) ({ cls := "DerivativeTape", name := "reverse", desc := "(I)I" } : Jvm.MethodName)))], lw_tbl[q.1]? = some q.2 ∧ goodWord q.2 = true := by decide +kernel
  intro w hw
  have e : ma_wm50 = ([(40, (Jvm.Cond.initialized "DerivativeTape")), (355, (Jvm.Cond.instanceMethod ({ cls := "DerivativeTape", name := "reverse", desc := "(I)I" } : Jvm.MethodName))), (356, (Jvm.Cond.selects "DerivativeTape" ({ cls := "DerivativeTape", name := "reverse", desc := "(I)I" } : Jvm.MethodName) ({ cls := "DerivativeTape", name := "reverse", desc := "(I)I" } : Jvm.MethodName)))] : List (Nat × Cond)).map (fun q => q.2) := rfl
  rw [e] at hw
  obtain ⟨q, hq, rfl⟩ := List.mem_map.mp hw
  exact ma_W_i (h q hq).1 (h q hq).2
def ma_wm51 : List Cond := [(Jvm.Cond.initialized "DerivativeTape"), (Jvm.Cond.instanceMethod ({ cls := "DerivativeTape", name := "taylor", desc := "(II)I" } : Jvm.MethodName)), (Jvm.Cond.selects "DerivativeTape" ({ cls := "DerivativeTape", name := "taylor", desc := "(II)I" } : Jvm.MethodName) ({ cls := "DerivativeTape", name := "taylor", desc := "(II)I" } : Jvm.MethodName))]
theorem ma_wm51_in : ∀ w ∈ ma_wm51, w ∈ ma_W := by
  have h : ∀ q ∈ [(40, (Jvm.Cond.initialized "DerivativeTape")), (395, (Jvm.Cond.instanceMethod ({ cls := "DerivativeTape", name := "taylor", desc := "(II)I" } : Jvm.MethodName))), (396, (Jvm.Cond.selects "DerivativeTape" ({ cls := "DerivativeTape", name := "taylor", desc := "(II)I" } : Jvm.MethodName) ({ cls := "DerivativeTape", name := "taylor", desc := "(II)I" } : Jvm.MethodName)))], lw_tbl[q.1]? = some q.2 ∧ goodWord q.2 = true := by decide +kernel
  intro w hw
  have e : ma_wm51 = ([(40, (Jvm.Cond.initialized "DerivativeTape")), (395, (Jvm.Cond.instanceMethod ({ cls := "DerivativeTape", name := "taylor", desc := "(II)I" } : Jvm.MethodName))), (396, (Jvm.Cond.selects "DerivativeTape" ({ cls := "DerivativeTape", name := "taylor", desc := "(II)I" } : Jvm.MethodName) ({ cls := "DerivativeTape", name := "taylor", desc := "(II)I" } : Jvm.MethodName)))] : List (Nat × Cond)).map (fun q => q.2) := rfl
  rw [e] at hw
  obtain ⟨q, hq, rfl⟩ := List.mem_map.mp hw
  exact ma_W_i (h q hq).1 (h q hq).2
def ma_wm52 : List Cond := [(Jvm.Cond.initialized "DerivativeTape"), (Jvm.Cond.instanceMethod ({ cls := "DerivativeTape", name := "second", desc := "(III)I" } : Jvm.MethodName)), (Jvm.Cond.selects "DerivativeTape" ({ cls := "DerivativeTape", name := "second", desc := "(III)I" } : Jvm.MethodName) ({ cls := "DerivativeTape", name := "second", desc := "(III)I" } : Jvm.MethodName))]
theorem ma_wm52_in : ∀ w ∈ ma_wm52, w ∈ ma_W := by
  have h : ∀ q ∈ [(40, (Jvm.Cond.initialized "DerivativeTape")), (399, (Jvm.Cond.instanceMethod ({ cls := "DerivativeTape", name := "second", desc := "(III)I" } : Jvm.MethodName))), (400, (Jvm.Cond.selects "DerivativeTape" ({ cls := "DerivativeTape", name := "second", desc := "(III)I" } : Jvm.MethodName) ({ cls := "DerivativeTape", name := "second", desc := "(III)I" } : Jvm.MethodName)))], lw_tbl[q.1]? = some q.2 ∧ goodWord q.2 = true := by decide +kernel
  intro w hw
  have e : ma_wm52 = ([(40, (Jvm.Cond.initialized "DerivativeTape")), (399, (Jvm.Cond.instanceMethod ({ cls := "DerivativeTape", name := "second", desc := "(III)I" } : Jvm.MethodName))), (400, (Jvm.Cond.selects "DerivativeTape" ({ cls := "DerivativeTape", name := "second", desc := "(III)I" } : Jvm.MethodName) ({ cls := "DerivativeTape", name := "second", desc := "(III)I" } : Jvm.MethodName)))] : List (Nat × Cond)).map (fun q => q.2) := rfl
  rw [e] at hw
  obtain ⟨q, hq, rfl⟩ := List.mem_map.mp hw
  exact ma_W_i (h q hq).1 (h q hq).2
def ma_wm53 : List Cond := [(Jvm.Cond.initialized "DerivativeTape"), (Jvm.Cond.instanceMethod ({ cls := "DerivativeTape", name := "depends", desc := "(II)Z" } : Jvm.MethodName)), (Jvm.Cond.selects "DerivativeTape" ({ cls := "DerivativeTape", name := "depends", desc := "(II)Z" } : Jvm.MethodName) ({ cls := "DerivativeTape", name := "depends", desc := "(II)Z" } : Jvm.MethodName))]
theorem ma_wm53_in : ∀ w ∈ ma_wm53, w ∈ ma_W := by
  have h : ∀ q ∈ [(40, (Jvm.Cond.initialized "DerivativeTape")), (412, (Jvm.Cond.instanceMethod ({ cls := "DerivativeTape", name := "depends", desc := "(II)Z" } : Jvm.MethodName))), (413, (Jvm.Cond.selects "DerivativeTape" ({ cls := "DerivativeTape", name := "depends", desc := "(II)Z" } : Jvm.MethodName) ({ cls := "DerivativeTape", name := "depends", desc := "(II)Z" } : Jvm.MethodName)))], lw_tbl[q.1]? = some q.2 ∧ goodWord q.2 = true := by decide +kernel
  intro w hw
  have e : ma_wm53 = ([(40, (Jvm.Cond.initialized "DerivativeTape")), (412, (Jvm.Cond.instanceMethod ({ cls := "DerivativeTape", name := "depends", desc := "(II)Z" } : Jvm.MethodName))), (413, (Jvm.Cond.selects "DerivativeTape" ({ cls := "DerivativeTape", name := "depends", desc := "(II)Z" } : Jvm.MethodName) ({ cls := "DerivativeTape", name := "depends", desc := "(II)Z" } : Jvm.MethodName)))] : List (Nat × Cond)).map (fun q => q.2) := rfl
  rw [e] at hw
  obtain ⟨q, hq, rfl⟩ := List.mem_map.mp hw
  exact ma_W_i (h q hq).1 (h q hq).2
def ma_wm54 : List Cond := [(Jvm.Cond.initialized "DerivativeTape"), (Jvm.Cond.instanceMethod ({ cls := "DerivativeTape", name := "colour", desc := "(I)I" } : Jvm.MethodName)), (Jvm.Cond.selects "DerivativeTape" ({ cls := "DerivativeTape", name := "colour", desc := "(I)I" } : Jvm.MethodName) ({ cls := "DerivativeTape", name := "colour", desc := "(I)I" } : Jvm.MethodName))]
theorem ma_wm54_in : ∀ w ∈ ma_wm54, w ∈ ma_W := by
  have h : ∀ q ∈ [(40, (Jvm.Cond.initialized "DerivativeTape")), (420, (Jvm.Cond.instanceMethod ({ cls := "DerivativeTape", name := "colour", desc := "(I)I" } : Jvm.MethodName))), (421, (Jvm.Cond.selects "DerivativeTape" ({ cls := "DerivativeTape", name := "colour", desc := "(I)I" } : Jvm.MethodName) ({ cls := "DerivativeTape", name := "colour", desc := "(I)I" } : Jvm.MethodName)))], lw_tbl[q.1]? = some q.2 ∧ goodWord q.2 = true := by decide +kernel
  intro w hw
  have e : ma_wm54 = ([(40, (Jvm.Cond.initialized "DerivativeTape")), (420, (Jvm.Cond.instanceMethod ({ cls := "DerivativeTape", name := "colour", desc := "(I)I" } : Jvm.MethodName))), (421, (Jvm.Cond.selects "DerivativeTape" ({ cls := "DerivativeTape", name := "colour", desc := "(I)I" } : Jvm.MethodName) ({ cls := "DerivativeTape", name := "colour", desc := "(I)I" } : Jvm.MethodName)))] : List (Nat × Cond)).map (fun q => q.2) := rfl
  rw [e] at hw
  obtain ⟨q, hq, rfl⟩ := List.mem_map.mp hw
  exact ma_W_i (h q hq).1 (h q hq).2
def ma_wm55 : List Cond := [(Jvm.Cond.initialized "DerivativeTape"), (Jvm.Cond.instanceMethod ({ cls := "DerivativeTape", name := "colours", desc := "()I" } : Jvm.MethodName)), (Jvm.Cond.selects "DerivativeTape" ({ cls := "DerivativeTape", name := "colours", desc := "()I" } : Jvm.MethodName) ({ cls := "DerivativeTape", name := "colours", desc := "()I" } : Jvm.MethodName))]
theorem ma_wm55_in : ∀ w ∈ ma_wm55, w ∈ ma_W := by
  have h : ∀ q ∈ [(40, (Jvm.Cond.initialized "DerivativeTape")), (435, (Jvm.Cond.instanceMethod ({ cls := "DerivativeTape", name := "colours", desc := "()I" } : Jvm.MethodName))), (436, (Jvm.Cond.selects "DerivativeTape" ({ cls := "DerivativeTape", name := "colours", desc := "()I" } : Jvm.MethodName) ({ cls := "DerivativeTape", name := "colours", desc := "()I" } : Jvm.MethodName)))], lw_tbl[q.1]? = some q.2 ∧ goodWord q.2 = true := by decide +kernel
  intro w hw
  have e : ma_wm55 = ([(40, (Jvm.Cond.initialized "DerivativeTape")), (435, (Jvm.Cond.instanceMethod ({ cls := "DerivativeTape", name := "colours", desc := "()I" } : Jvm.MethodName))), (436, (Jvm.Cond.selects "DerivativeTape" ({ cls := "DerivativeTape", name := "colours", desc := "()I" } : Jvm.MethodName) ({ cls := "DerivativeTape", name := "colours", desc := "()I" } : Jvm.MethodName)))] : List (Nat × Cond)).map (fun q => q.2) := rfl
  rw [e] at hw
  obtain ⟨q, hq, rfl⟩ := List.mem_map.mp hw
  exact ma_W_i (h q hq).1 (h q hq).2
def ma_wm56 : List Cond := [(Jvm.Cond.initialized "DerivativeTape"), (Jvm.Cond.instanceMethod ({ cls := "DerivativeTape", name := "entry", desc := "(II)I" } : Jvm.MethodName)), (Jvm.Cond.selects "DerivativeTape" ({ cls := "DerivativeTape", name := "entry", desc := "(II)I" } : Jvm.MethodName) ({ cls := "DerivativeTape", name := "entry", desc := "(II)I" } : Jvm.MethodName))]
theorem ma_wm56_in : ∀ w ∈ ma_wm56, w ∈ ma_W := by
  have h : ∀ q ∈ [(40, (Jvm.Cond.initialized "DerivativeTape")), (442, (Jvm.Cond.instanceMethod ({ cls := "DerivativeTape", name := "entry", desc := "(II)I" } : Jvm.MethodName))), (443, (Jvm.Cond.selects "DerivativeTape" ({ cls := "DerivativeTape", name := "entry", desc := "(II)I" } : Jvm.MethodName) ({ cls := "DerivativeTape", name := "entry", desc := "(II)I" } : Jvm.MethodName)))], lw_tbl[q.1]? = some q.2 ∧ goodWord q.2 = true := by decide +kernel
  intro w hw
  have e : ma_wm56 = ([(40, (Jvm.Cond.initialized "DerivativeTape")), (442, (Jvm.Cond.instanceMethod ({ cls := "DerivativeTape", name := "entry", desc := "(II)I" } : Jvm.MethodName))), (443, (Jvm.Cond.selects "DerivativeTape" ({ cls := "DerivativeTape", name := "entry", desc := "(II)I" } : Jvm.MethodName) ({ cls := "DerivativeTape", name := "entry", desc := "(II)I" } : Jvm.MethodName)))] : List (Nat × Cond)).map (fun q => q.2) := rfl
  rw [e] at hw
  obtain ⟨q, hq, rfl⟩ := List.mem_map.mp hw
  exact ma_W_i (h q hq).1 (h q hq).2
def ma_wm57 : List Cond := [(Jvm.Cond.initialized "DerivativeTape"), (Jvm.Cond.instanceMethod ({ cls := "DerivativeTape", name := "size", desc := "()I" } : Jvm.MethodName)), (Jvm.Cond.selects "DerivativeTape" ({ cls := "DerivativeTape", name := "size", desc := "()I" } : Jvm.MethodName) ({ cls := "DerivativeTape", name := "size", desc := "()I" } : Jvm.MethodName))]
theorem ma_wm57_in : ∀ w ∈ ma_wm57, w ∈ ma_W := by
  have h : ∀ q ∈ [(40, (Jvm.Cond.initialized "DerivativeTape")), (446, (Jvm.Cond.instanceMethod ({ cls := "DerivativeTape", name := "size", desc := "()I" } : Jvm.MethodName))), (447, (Jvm.Cond.selects "DerivativeTape" ({ cls := "DerivativeTape", name := "size", desc := "()I" } : Jvm.MethodName) ({ cls := "DerivativeTape", name := "size", desc := "()I" } : Jvm.MethodName)))], lw_tbl[q.1]? = some q.2 ∧ goodWord q.2 = true := by decide +kernel
  intro w hw
  have e : ma_wm57 = ([(40, (Jvm.Cond.initialized "DerivativeTape")), (446, (Jvm.Cond.instanceMethod ({ cls := "DerivativeTape", name := "size", desc := "()I" } : Jvm.MethodName))), (447, (Jvm.Cond.selects "DerivativeTape" ({ cls := "DerivativeTape", name := "size", desc := "()I" } : Jvm.MethodName) ({ cls := "DerivativeTape", name := "size", desc := "()I" } : Jvm.MethodName)))] : List (Nat × Cond)).map (fun q => q.2) := rfl
  rw [e] at hw
  obtain ⟨q, hq, rfl⟩ := List.mem_map.mp hw
  exact ma_W_i (h q hq).1 (h q hq).2
def ma_wm58 : List Cond := [(Jvm.Cond.initialized "DerivativeTape"), (Jvm.Cond.instanceMethod ({ cls := "DerivativeTape", name := "march", desc := "(II)I" } : Jvm.MethodName)), (Jvm.Cond.selects "DerivativeTape" ({ cls := "DerivativeTape", name := "march", desc := "(II)I" } : Jvm.MethodName) ({ cls := "DerivativeTape", name := "march", desc := "(II)I" } : Jvm.MethodName))]
theorem ma_wm58_in : ∀ w ∈ ma_wm58, w ∈ ma_W := by
  have h : ∀ q ∈ [(40, (Jvm.Cond.initialized "DerivativeTape")), (471, (Jvm.Cond.instanceMethod ({ cls := "DerivativeTape", name := "march", desc := "(II)I" } : Jvm.MethodName))), (472, (Jvm.Cond.selects "DerivativeTape" ({ cls := "DerivativeTape", name := "march", desc := "(II)I" } : Jvm.MethodName) ({ cls := "DerivativeTape", name := "march", desc := "(II)I" } : Jvm.MethodName)))], lw_tbl[q.1]? = some q.2 ∧ goodWord q.2 = true := by decide +kernel
  intro w hw
  have e : ma_wm58 = ([(40, (Jvm.Cond.initialized "DerivativeTape")), (471, (Jvm.Cond.instanceMethod ({ cls := "DerivativeTape", name := "march", desc := "(II)I" } : Jvm.MethodName))), (472, (Jvm.Cond.selects "DerivativeTape" ({ cls := "DerivativeTape", name := "march", desc := "(II)I" } : Jvm.MethodName) ({ cls := "DerivativeTape", name := "march", desc := "(II)I" } : Jvm.MethodName)))] : List (Nat × Cond)).map (fun q => q.2) := rfl
  rw [e] at hw
  obtain ⟨q, hq, rfl⟩ := List.mem_map.mp hw
  exact ma_W_i (h q hq).1 (h q hq).2
def ma_wm59 : List Cond := [(Jvm.Cond.initialized "DerivativeTape"), (Jvm.Cond.instanceMethod ({ cls := "DerivativeTape", name := "arrived", desc := "(I)I" } : Jvm.MethodName)), (Jvm.Cond.selects "DerivativeTape" ({ cls := "DerivativeTape", name := "arrived", desc := "(I)I" } : Jvm.MethodName) ({ cls := "DerivativeTape", name := "arrived", desc := "(I)I" } : Jvm.MethodName))]
theorem ma_wm59_in : ∀ w ∈ ma_wm59, w ∈ ma_W := by
  have h : ∀ q ∈ [(40, (Jvm.Cond.initialized "DerivativeTape")), (500, (Jvm.Cond.instanceMethod ({ cls := "DerivativeTape", name := "arrived", desc := "(I)I" } : Jvm.MethodName))), (501, (Jvm.Cond.selects "DerivativeTape" ({ cls := "DerivativeTape", name := "arrived", desc := "(I)I" } : Jvm.MethodName) ({ cls := "DerivativeTape", name := "arrived", desc := "(I)I" } : Jvm.MethodName)))], lw_tbl[q.1]? = some q.2 ∧ goodWord q.2 = true := by decide +kernel
  intro w hw
  have e : ma_wm59 = ([(40, (Jvm.Cond.initialized "DerivativeTape")), (500, (Jvm.Cond.instanceMethod ({ cls := "DerivativeTape", name := "arrived", desc := "(I)I" } : Jvm.MethodName))), (501, (Jvm.Cond.selects "DerivativeTape" ({ cls := "DerivativeTape", name := "arrived", desc := "(I)I" } : Jvm.MethodName) ({ cls := "DerivativeTape", name := "arrived", desc := "(I)I" } : Jvm.MethodName)))] : List (Nat × Cond)).map (fun q => q.2) := rfl
  rw [e] at hw
  obtain ⟨q, hq, rfl⟩ := List.mem_map.mp hw
  exact ma_W_i (h q hq).1 (h q hq).2
def ma_wm60 : List Cond := [(Jvm.Cond.initialized "DerivativeTape"), (Jvm.Cond.instanceMethod ({ cls := "DerivativeTape", name := "adjoint", desc := "(I)I" } : Jvm.MethodName)), (Jvm.Cond.selects "DerivativeTape" ({ cls := "DerivativeTape", name := "adjoint", desc := "(I)I" } : Jvm.MethodName) ({ cls := "DerivativeTape", name := "adjoint", desc := "(I)I" } : Jvm.MethodName))]
theorem ma_wm60_in : ∀ w ∈ ma_wm60, w ∈ ma_W := by
  have h : ∀ q ∈ [(40, (Jvm.Cond.initialized "DerivativeTape")), (504, (Jvm.Cond.instanceMethod ({ cls := "DerivativeTape", name := "adjoint", desc := "(I)I" } : Jvm.MethodName))), (505, (Jvm.Cond.selects "DerivativeTape" ({ cls := "DerivativeTape", name := "adjoint", desc := "(I)I" } : Jvm.MethodName) ({ cls := "DerivativeTape", name := "adjoint", desc := "(I)I" } : Jvm.MethodName)))], lw_tbl[q.1]? = some q.2 ∧ goodWord q.2 = true := by decide +kernel
  intro w hw
  have e : ma_wm60 = ([(40, (Jvm.Cond.initialized "DerivativeTape")), (504, (Jvm.Cond.instanceMethod ({ cls := "DerivativeTape", name := "adjoint", desc := "(I)I" } : Jvm.MethodName))), (505, (Jvm.Cond.selects "DerivativeTape" ({ cls := "DerivativeTape", name := "adjoint", desc := "(I)I" } : Jvm.MethodName) ({ cls := "DerivativeTape", name := "adjoint", desc := "(I)I" } : Jvm.MethodName)))] : List (Nat × Cond)).map (fun q => q.2) := rfl
  rw [e] at hw
  obtain ⟨q, hq, rfl⟩ := List.mem_map.mp hw
  exact ma_W_i (h q hq).1 (h q hq).2
def ma_wm61 : List Cond := [(Jvm.Cond.initialized "DerivativeTape"), (Jvm.Cond.instanceMethod ({ cls := "DerivativeTape", name := "hasOutput", desc := "(I)Z" } : Jvm.MethodName)), (Jvm.Cond.selects "DerivativeTape" ⟨"DerivativeTape", "hasOutput", "(I)Z"⟩ ⟨"DerivativeTape", "hasOutput", "(I)Z"⟩)]
theorem ma_wm61_in : ∀ w ∈ ma_wm61, w ∈ ma_W := by
  have h : ∀ q ∈ [(40, (Jvm.Cond.initialized "DerivativeTape")), (286, (Jvm.Cond.instanceMethod ({ cls := "DerivativeTape", name := "hasOutput", desc := "(I)Z" } : Jvm.MethodName))), (1, (Jvm.Cond.selects "DerivativeTape" ⟨"DerivativeTape", "hasOutput", "(I)Z"⟩ ⟨"DerivativeTape", "hasOutput", "(I)Z"⟩))], lw_tbl[q.1]? = some q.2 ∧ goodWord q.2 = true := by decide +kernel
  intro w hw
  have e : ma_wm61 = ([(40, (Jvm.Cond.initialized "DerivativeTape")), (286, (Jvm.Cond.instanceMethod ({ cls := "DerivativeTape", name := "hasOutput", desc := "(I)Z" } : Jvm.MethodName))), (1, (Jvm.Cond.selects "DerivativeTape" ⟨"DerivativeTape", "hasOutput", "(I)Z"⟩ ⟨"DerivativeTape", "hasOutput", "(I)Z"⟩))] : List (Nat × Cond)).map (fun q => q.2) := rfl
  rw [e] at hw
  obtain ⟨q, hq, rfl⟩ := List.mem_map.mp hw
  exact ma_W_i (h q hq).1 (h q hq).2
def ma_wm62 : List Cond := [(Jvm.Cond.initialized "DerivativeTape"), (Jvm.Cond.instanceMethod ({ cls := "DerivativeTape", name := "coefficient", desc := "(I[II)I" } : Jvm.MethodName)), (Jvm.Cond.selects "DerivativeTape" ⟨"DerivativeTape", "coefficient", "(I[II)I"⟩ ⟨"DerivativeTape", "coefficient", "(I[II)I"⟩)]
theorem ma_wm62_in : ∀ w ∈ ma_wm62, w ∈ ma_W := by
  have h : ∀ q ∈ [(40, (Jvm.Cond.initialized "DerivativeTape")), (352, (Jvm.Cond.instanceMethod ({ cls := "DerivativeTape", name := "coefficient", desc := "(I[II)I" } : Jvm.MethodName))), (5, (Jvm.Cond.selects "DerivativeTape" ⟨"DerivativeTape", "coefficient", "(I[II)I"⟩ ⟨"DerivativeTape", "coefficient", "(I[II)I"⟩))], lw_tbl[q.1]? = some q.2 ∧ goodWord q.2 = true := by decide +kernel
  intro w hw
  have e : ma_wm62 = ([(40, (Jvm.Cond.initialized "DerivativeTape")), (352, (Jvm.Cond.instanceMethod ({ cls := "DerivativeTape", name := "coefficient", desc := "(I[II)I" } : Jvm.MethodName))), (5, (Jvm.Cond.selects "DerivativeTape" ⟨"DerivativeTape", "coefficient", "(I[II)I"⟩ ⟨"DerivativeTape", "coefficient", "(I[II)I"⟩))] : List (Nat × Cond)).map (fun q => q.2) := rfl
  rw [e] at hw
  obtain ⟨q, hq, rfl⟩ := List.mem_map.mp hw
  exact ma_W_i (h q hq).1 (h q hq).2
def ma_wm63 : List Cond := [(Jvm.Cond.initialized "DerivativeTape"), (Jvm.Cond.instanceMethod ({ cls := "DerivativeTape", name := "coefficientByInput", desc := "(III)I" } : Jvm.MethodName)), (Jvm.Cond.selects "DerivativeTape" ⟨"DerivativeTape", "coefficientByInput", "(III)I"⟩ ⟨"DerivativeTape", "coefficientByInput", "(III)I"⟩)]
theorem ma_wm63_in : ∀ w ∈ ma_wm63, w ∈ ma_W := by
  have h : ∀ q ∈ [(40, (Jvm.Cond.initialized "DerivativeTape")), (409, (Jvm.Cond.instanceMethod ({ cls := "DerivativeTape", name := "coefficientByInput", desc := "(III)I" } : Jvm.MethodName))), (10, (Jvm.Cond.selects "DerivativeTape" ⟨"DerivativeTape", "coefficientByInput", "(III)I"⟩ ⟨"DerivativeTape", "coefficientByInput", "(III)I"⟩))], lw_tbl[q.1]? = some q.2 ∧ goodWord q.2 = true := by decide +kernel
  intro w hw
  have e : ma_wm63 = ([(40, (Jvm.Cond.initialized "DerivativeTape")), (409, (Jvm.Cond.instanceMethod ({ cls := "DerivativeTape", name := "coefficientByInput", desc := "(III)I" } : Jvm.MethodName))), (10, (Jvm.Cond.selects "DerivativeTape" ⟨"DerivativeTape", "coefficientByInput", "(III)I"⟩ ⟨"DerivativeTape", "coefficientByInput", "(III)I"⟩))] : List (Nat × Cond)).map (fun q => q.2) := rfl
  rw [e] at hw
  obtain ⟨q, hq, rfl⟩ := List.mem_map.mp hw
  exact ma_W_i (h q hq).1 (h q hq).2
def ma_wm64 : List Cond := [(Jvm.Cond.initialized "DerivativeTape"), (Jvm.Cond.instanceMethod ({ cls := "DerivativeTape", name := "clearSeed", desc := "()V" } : Jvm.MethodName)), (Jvm.Cond.selects "DerivativeTape" ⟨"DerivativeTape", "clearSeed", "()V"⟩ ⟨"DerivativeTape", "clearSeed", "()V"⟩)]
theorem ma_wm64_in : ∀ w ∈ ma_wm64, w ∈ ma_W := by
  have h : ∀ q ∈ [(40, (Jvm.Cond.initialized "DerivativeTape")), (404, (Jvm.Cond.instanceMethod ({ cls := "DerivativeTape", name := "clearSeed", desc := "()V" } : Jvm.MethodName))), (9, (Jvm.Cond.selects "DerivativeTape" ⟨"DerivativeTape", "clearSeed", "()V"⟩ ⟨"DerivativeTape", "clearSeed", "()V"⟩))], lw_tbl[q.1]? = some q.2 ∧ goodWord q.2 = true := by decide +kernel
  intro w hw
  have e : ma_wm64 = ([(40, (Jvm.Cond.initialized "DerivativeTape")), (404, (Jvm.Cond.instanceMethod ({ cls := "DerivativeTape", name := "clearSeed", desc := "()V" } : Jvm.MethodName))), (9, (Jvm.Cond.selects "DerivativeTape" ⟨"DerivativeTape", "clearSeed", "()V"⟩ ⟨"DerivativeTape", "clearSeed", "()V"⟩))] : List (Nat × Cond)).map (fun q => q.2) := rfl
  rw [e] at hw
  obtain ⟨q, hq, rfl⟩ := List.mem_map.mp hw
  exact ma_W_i (h q hq).1 (h q hq).2
def ma_wm65 : List Cond := [(Jvm.Cond.initialized "DerivativeTape"), (Jvm.Cond.instanceMethod ({ cls := "DerivativeTape", name := "worstState", desc := "(Z)I" } : Jvm.MethodName)), (Jvm.Cond.selects "DerivativeTape" ⟨"DerivativeTape", "worstState", "(Z)I"⟩ ⟨"DerivativeTape", "worstState", "(Z)I"⟩)]
theorem ma_wm65_in : ∀ w ∈ ma_wm65, w ∈ ma_W := by
  have h : ∀ q ∈ [(40, (Jvm.Cond.initialized "DerivativeTape")), (360, (Jvm.Cond.instanceMethod ({ cls := "DerivativeTape", name := "worstState", desc := "(Z)I" } : Jvm.MethodName))), (6, (Jvm.Cond.selects "DerivativeTape" ⟨"DerivativeTape", "worstState", "(Z)I"⟩ ⟨"DerivativeTape", "worstState", "(Z)I"⟩))], lw_tbl[q.1]? = some q.2 ∧ goodWord q.2 = true := by decide +kernel
  intro w hw
  have e : ma_wm65 = ([(40, (Jvm.Cond.initialized "DerivativeTape")), (360, (Jvm.Cond.instanceMethod ({ cls := "DerivativeTape", name := "worstState", desc := "(Z)I" } : Jvm.MethodName))), (6, (Jvm.Cond.selects "DerivativeTape" ⟨"DerivativeTape", "worstState", "(Z)I"⟩ ⟨"DerivativeTape", "worstState", "(Z)I"⟩))] : List (Nat × Cond)).map (fun q => q.2) := rfl
  rw [e] at hw
  obtain ⟨q, hq, rfl⟩ := List.mem_map.mp hw
  exact ma_W_i (h q hq).1 (h q hq).2
def ma_wm66 : List Cond := [(Jvm.Cond.initialized "DerivativeTape"), (Jvm.Cond.instanceMethod ({ cls := "DerivativeTape", name := "handBack", desc := "([I)V" } : Jvm.MethodName)), (Jvm.Cond.selects "DerivativeTape" ⟨"DerivativeTape", "handBack", "([I)V"⟩ ⟨"DerivativeTape", "handBack", "([I)V"⟩)]
theorem ma_wm66_in : ∀ w ∈ ma_wm66, w ∈ ma_W := by
  have h : ∀ q ∈ [(40, (Jvm.Cond.initialized "DerivativeTape")), (365, (Jvm.Cond.instanceMethod ({ cls := "DerivativeTape", name := "handBack", desc := "([I)V" } : Jvm.MethodName))), (7, (Jvm.Cond.selects "DerivativeTape" ⟨"DerivativeTape", "handBack", "([I)V"⟩ ⟨"DerivativeTape", "handBack", "([I)V"⟩))], lw_tbl[q.1]? = some q.2 ∧ goodWord q.2 = true := by decide +kernel
  intro w hw
  have e : ma_wm66 = ([(40, (Jvm.Cond.initialized "DerivativeTape")), (365, (Jvm.Cond.instanceMethod ({ cls := "DerivativeTape", name := "handBack", desc := "([I)V" } : Jvm.MethodName))), (7, (Jvm.Cond.selects "DerivativeTape" ⟨"DerivativeTape", "handBack", "([I)V"⟩ ⟨"DerivativeTape", "handBack", "([I)V"⟩))] : List (Nat × Cond)).map (fun q => q.2) := rfl
  rw [e] at hw
  obtain ⟨q, hq, rfl⟩ := List.mem_map.mp hw
  exact ma_W_i (h q hq).1 (h q hq).2
def ma_wm67 : List Cond := [(Jvm.Cond.initialized "DerivativeTape"), (Jvm.Cond.instanceMethod ({ cls := "DerivativeTape", name := "paintInputs", desc := "()V" } : Jvm.MethodName)), (Jvm.Cond.selects "DerivativeTape" ⟨"DerivativeTape", "paintInputs", "()V"⟩ ⟨"DerivativeTape", "paintInputs", "()V"⟩)]
theorem ma_wm67_in : ∀ w ∈ ma_wm67, w ∈ ma_W := by
  have h : ∀ q ∈ [(40, (Jvm.Cond.initialized "DerivativeTape")), (425, (Jvm.Cond.instanceMethod ({ cls := "DerivativeTape", name := "paintInputs", desc := "()V" } : Jvm.MethodName))), (11, (Jvm.Cond.selects "DerivativeTape" ⟨"DerivativeTape", "paintInputs", "()V"⟩ ⟨"DerivativeTape", "paintInputs", "()V"⟩))], lw_tbl[q.1]? = some q.2 ∧ goodWord q.2 = true := by decide +kernel
  intro w hw
  have e : ma_wm67 = ([(40, (Jvm.Cond.initialized "DerivativeTape")), (425, (Jvm.Cond.instanceMethod ({ cls := "DerivativeTape", name := "paintInputs", desc := "()V" } : Jvm.MethodName))), (11, (Jvm.Cond.selects "DerivativeTape" ⟨"DerivativeTape", "paintInputs", "()V"⟩ ⟨"DerivativeTape", "paintInputs", "()V"⟩))] : List (Nat × Cond)).map (fun q => q.2) := rfl
  rw [e] at hw
  obtain ⟨q, hq, rfl⟩ := List.mem_map.mp hw
  exact ma_W_i (h q hq).1 (h q hq).2
def ma_wm68 : List Cond := [(Jvm.Cond.initialized "DerivativeTape"), (Jvm.Cond.static ({ cls := "DerivativeTape", name := "leastFree", desc := "(I)I" } : Jvm.MethodName))]
theorem ma_wm68_in : ∀ w ∈ ma_wm68, w ∈ ma_W := by
  have h : ∀ q ∈ [(40, (Jvm.Cond.initialized "DerivativeTape")), (432, (Jvm.Cond.static ({ cls := "DerivativeTape", name := "leastFree", desc := "(I)I" } : Jvm.MethodName)))], lw_tbl[q.1]? = some q.2 ∧ goodWord q.2 = true := by decide +kernel
  intro w hw
  have e : ma_wm68 = ([(40, (Jvm.Cond.initialized "DerivativeTape")), (432, (Jvm.Cond.static ({ cls := "DerivativeTape", name := "leastFree", desc := "(I)I" } : Jvm.MethodName)))] : List (Nat × Cond)).map (fun q => q.2) := rfl
  rw [e] at hw
  obtain ⟨q, hq, rfl⟩ := List.mem_map.mp hw
  exact ma_W_i (h q hq).1 (h q hq).2
def ma_wm69 : List Cond := [(Jvm.Cond.initialized "DerivativeTape"), (Jvm.Cond.instanceMethod ({ cls := "DerivativeTape", name := "inConflict", desc := "(II)Z" } : Jvm.MethodName)), (Jvm.Cond.selects "DerivativeTape" ⟨"DerivativeTape", "inConflict", "(II)Z"⟩ ⟨"DerivativeTape", "inConflict", "(II)Z"⟩)]
theorem ma_wm69_in : ∀ w ∈ ma_wm69, w ∈ ma_W := by
  have h : ∀ q ∈ [(40, (Jvm.Cond.initialized "DerivativeTape")), (429, (Jvm.Cond.instanceMethod ({ cls := "DerivativeTape", name := "inConflict", desc := "(II)Z" } : Jvm.MethodName))), (12, (Jvm.Cond.selects "DerivativeTape" ⟨"DerivativeTape", "inConflict", "(II)Z"⟩ ⟨"DerivativeTape", "inConflict", "(II)Z"⟩))], lw_tbl[q.1]? = some q.2 ∧ goodWord q.2 = true := by decide +kernel
  intro w hw
  have e : ma_wm69 = ([(40, (Jvm.Cond.initialized "DerivativeTape")), (429, (Jvm.Cond.instanceMethod ({ cls := "DerivativeTape", name := "inConflict", desc := "(II)Z" } : Jvm.MethodName))), (12, (Jvm.Cond.selects "DerivativeTape" ⟨"DerivativeTape", "inConflict", "(II)Z"⟩ ⟨"DerivativeTape", "inConflict", "(II)Z"⟩))] : List (Nat × Cond)).map (fun q => q.2) := rfl
  rw [e] at hw
  obtain ⟨q, hq, rfl⟩ := List.mem_map.mp hw
  exact ma_W_i (h q hq).1 (h q hq).2
def ma_wm70 : List Cond := [(Jvm.Cond.initialized "DerivativeTape"), (Jvm.Cond.instanceMethod ({ cls := "DerivativeTape", name := "goAhead", desc := "(I)I" } : Jvm.MethodName)), (Jvm.Cond.selects "DerivativeTape" ⟨"DerivativeTape", "goAhead", "(I)I"⟩ ⟨"DerivativeTape", "goAhead", "(I)I"⟩)]
theorem ma_wm70_in : ∀ w ∈ ma_wm70, w ∈ ma_W := by
  have h : ∀ q ∈ [(40, (Jvm.Cond.initialized "DerivativeTape")), (476, (Jvm.Cond.instanceMethod ({ cls := "DerivativeTape", name := "goAhead", desc := "(I)I" } : Jvm.MethodName))), (17, (Jvm.Cond.selects "DerivativeTape" ⟨"DerivativeTape", "goAhead", "(I)I"⟩ ⟨"DerivativeTape", "goAhead", "(I)I"⟩))], lw_tbl[q.1]? = some q.2 ∧ goodWord q.2 = true := by decide +kernel
  intro w hw
  have e : ma_wm70 = ([(40, (Jvm.Cond.initialized "DerivativeTape")), (476, (Jvm.Cond.instanceMethod ({ cls := "DerivativeTape", name := "goAhead", desc := "(I)I" } : Jvm.MethodName))), (17, (Jvm.Cond.selects "DerivativeTape" ⟨"DerivativeTape", "goAhead", "(I)I"⟩ ⟨"DerivativeTape", "goAhead", "(I)I"⟩))] : List (Nat × Cond)).map (fun q => q.2) := rfl
  rw [e] at hw
  obtain ⟨q, hq, rfl⟩ := List.mem_map.mp hw
  exact ma_W_i (h q hq).1 (h q hq).2
def ma_wm71 : List Cond := [(Jvm.Cond.initialized "DerivativeTape"), (Jvm.Cond.instanceMethod ({ cls := "DerivativeTape", name := "goBack", desc := "(I)V" } : Jvm.MethodName)), (Jvm.Cond.selects "DerivativeTape" ⟨"DerivativeTape", "goBack", "(I)V"⟩ ⟨"DerivativeTape", "goBack", "(I)V"⟩)]
theorem ma_wm71_in : ∀ w ∈ ma_wm71, w ∈ ma_W := by
  have h : ∀ q ∈ [(40, (Jvm.Cond.initialized "DerivativeTape")), (481, (Jvm.Cond.instanceMethod ({ cls := "DerivativeTape", name := "goBack", desc := "(I)V" } : Jvm.MethodName))), (18, (Jvm.Cond.selects "DerivativeTape" ⟨"DerivativeTape", "goBack", "(I)V"⟩ ⟨"DerivativeTape", "goBack", "(I)V"⟩))], lw_tbl[q.1]? = some q.2 ∧ goodWord q.2 = true := by decide +kernel
  intro w hw
  have e : ma_wm71 = ([(40, (Jvm.Cond.initialized "DerivativeTape")), (481, (Jvm.Cond.instanceMethod ({ cls := "DerivativeTape", name := "goBack", desc := "(I)V" } : Jvm.MethodName))), (18, (Jvm.Cond.selects "DerivativeTape" ⟨"DerivativeTape", "goBack", "(I)V"⟩ ⟨"DerivativeTape", "goBack", "(I)V"⟩))] : List (Nat × Cond)).map (fun q => q.2) := rfl
  rw [e] at hw
  obtain ⟨q, hq, rfl⟩ := List.mem_map.mp hw
  exact ma_W_i (h q hq).1 (h q hq).2
def ma_wm72 : List Cond := [(Jvm.Cond.initialized "DerivativeTapeModel"), (Jvm.Cond.instanceMethod ({ cls := "DerivativeTapeModel", name := "<init>", desc := "()V" } : Jvm.MethodName))]
theorem ma_wm72_in : ∀ w ∈ ma_wm72, w ∈ ma_W := by
  have h : ∀ q ∈ [(46, (Jvm.Cond.initialized "DerivativeTapeModel")), (510, (Jvm.Cond.instanceMethod ({ cls := "DerivativeTapeModel", name := "<init>", desc := "()V" } : Jvm.MethodName)))], lw_tbl[q.1]? = some q.2 ∧ goodWord q.2 = true := by decide +kernel
  intro w hw
  have e : ma_wm72 = ([(46, (Jvm.Cond.initialized "DerivativeTapeModel")), (510, (Jvm.Cond.instanceMethod ({ cls := "DerivativeTapeModel", name := "<init>", desc := "()V" } : Jvm.MethodName)))] : List (Nat × Cond)).map (fun q => q.2) := rfl
  rw [e] at hw
  obtain ⟨q, hq, rfl⟩ := List.mem_map.mp hw
  exact ma_W_i (h q hq).1 (h q hq).2
def ma_wm73 : List Cond := [(Jvm.Cond.initialized "DerivativeTapeModel"), (Jvm.Cond.static ({ cls := "DerivativeTapeModel", name := "number", desc := "(I)J" } : Jvm.MethodName))]
theorem ma_wm73_in : ∀ w ∈ ma_wm73, w ∈ ma_W := by
  have h : ∀ q ∈ [(46, (Jvm.Cond.initialized "DerivativeTapeModel")), (609, (Jvm.Cond.static ({ cls := "DerivativeTapeModel", name := "number", desc := "(I)J" } : Jvm.MethodName)))], lw_tbl[q.1]? = some q.2 ∧ goodWord q.2 = true := by decide +kernel
  intro w hw
  have e : ma_wm73 = ([(46, (Jvm.Cond.initialized "DerivativeTapeModel")), (609, (Jvm.Cond.static ({ cls := "DerivativeTapeModel", name := "number", desc := "(I)J" } : Jvm.MethodName)))] : List (Nat × Cond)).map (fun q => q.2) := rfl
  rw [e] at hw
  obtain ⟨q, hq, rfl⟩ := List.mem_map.mp hw
  exact ma_W_i (h q hq).1 (h q hq).2
def ma_wm74 : List Cond := [(Jvm.Cond.initialized "DerivativeTapeModel"), (Jvm.Cond.instanceMethod ({ cls := "DerivativeTapeModel", name := "isNode", desc := "(I)Z" } : Jvm.MethodName)), (Jvm.Cond.selects "DerivativeTapeModel" ⟨"DerivativeTapeModel", "isNode", "(I)Z"⟩ ⟨"DerivativeTapeModel", "isNode", "(I)Z"⟩)]
theorem ma_wm74_in : ∀ w ∈ ma_wm74, w ∈ ma_W := by
  have h : ∀ q ∈ [(46, (Jvm.Cond.initialized "DerivativeTapeModel")), (618, (Jvm.Cond.instanceMethod ({ cls := "DerivativeTapeModel", name := "isNode", desc := "(I)Z" } : Jvm.MethodName))), (22, (Jvm.Cond.selects "DerivativeTapeModel" ⟨"DerivativeTapeModel", "isNode", "(I)Z"⟩ ⟨"DerivativeTapeModel", "isNode", "(I)Z"⟩))], lw_tbl[q.1]? = some q.2 ∧ goodWord q.2 = true := by decide +kernel
  intro w hw
  have e : ma_wm74 = ([(46, (Jvm.Cond.initialized "DerivativeTapeModel")), (618, (Jvm.Cond.instanceMethod ({ cls := "DerivativeTapeModel", name := "isNode", desc := "(I)Z" } : Jvm.MethodName))), (22, (Jvm.Cond.selects "DerivativeTapeModel" ⟨"DerivativeTapeModel", "isNode", "(I)Z"⟩ ⟨"DerivativeTapeModel", "isNode", "(I)Z"⟩))] : List (Nat × Cond)).map (fun q => q.2) := rfl
  rw [e] at hw
  obtain ⟨q, hq, rfl⟩ := List.mem_map.mp hw
  exact ma_W_i (h q hq).1 (h q hq).2
def ma_wm75 : List Cond := [(Jvm.Cond.initialized "DerivativeTapeModel"), (Jvm.Cond.instanceMethod ({ cls := "DerivativeTapeModel", name := "isInput", desc := "(I)Z" } : Jvm.MethodName)), (Jvm.Cond.selects "DerivativeTapeModel" ⟨"DerivativeTapeModel", "isInput", "(I)Z"⟩ ⟨"DerivativeTapeModel", "isInput", "(I)Z"⟩)]
theorem ma_wm75_in : ∀ w ∈ ma_wm75, w ∈ ma_W := by
  have h : ∀ q ∈ [(46, (Jvm.Cond.initialized "DerivativeTapeModel")), (630, (Jvm.Cond.instanceMethod ({ cls := "DerivativeTapeModel", name := "isInput", desc := "(I)Z" } : Jvm.MethodName))), (23, (Jvm.Cond.selects "DerivativeTapeModel" ⟨"DerivativeTapeModel", "isInput", "(I)Z"⟩ ⟨"DerivativeTapeModel", "isInput", "(I)Z"⟩))], lw_tbl[q.1]? = some q.2 ∧ goodWord q.2 = true := by decide +kernel
  intro w hw
  have e : ma_wm75 = ([(46, (Jvm.Cond.initialized "DerivativeTapeModel")), (630, (Jvm.Cond.instanceMethod ({ cls := "DerivativeTapeModel", name := "isInput", desc := "(I)Z" } : Jvm.MethodName))), (23, (Jvm.Cond.selects "DerivativeTapeModel" ⟨"DerivativeTapeModel", "isInput", "(I)Z"⟩ ⟨"DerivativeTapeModel", "isInput", "(I)Z"⟩))] : List (Nat × Cond)).map (fun q => q.2) := rfl
  rw [e] at hw
  obtain ⟨q, hq, rfl⟩ := List.mem_map.mp hw
  exact ma_W_i (h q hq).1 (h q hq).2
def ma_wm76 : List Cond := [(Jvm.Cond.initialized "DerivativeTapeModel"), (Jvm.Cond.instanceMethod ({ cls := "DerivativeTapeModel", name := "isOutput", desc := "(I)Z" } : Jvm.MethodName)), (Jvm.Cond.selects "DerivativeTapeModel" ⟨"DerivativeTapeModel", "isOutput", "(I)Z"⟩ ⟨"DerivativeTapeModel", "isOutput", "(I)Z"⟩)]
theorem ma_wm76_in : ∀ w ∈ ma_wm76, w ∈ ma_W := by
  have h : ∀ q ∈ [(46, (Jvm.Cond.initialized "DerivativeTapeModel")), (642, (Jvm.Cond.instanceMethod ({ cls := "DerivativeTapeModel", name := "isOutput", desc := "(I)Z" } : Jvm.MethodName))), (24, (Jvm.Cond.selects "DerivativeTapeModel" ⟨"DerivativeTapeModel", "isOutput", "(I)Z"⟩ ⟨"DerivativeTapeModel", "isOutput", "(I)Z"⟩))], lw_tbl[q.1]? = some q.2 ∧ goodWord q.2 = true := by decide +kernel
  intro w hw
  have e : ma_wm76 = ([(46, (Jvm.Cond.initialized "DerivativeTapeModel")), (642, (Jvm.Cond.instanceMethod ({ cls := "DerivativeTapeModel", name := "isOutput", desc := "(I)Z" } : Jvm.MethodName))), (24, (Jvm.Cond.selects "DerivativeTapeModel" ⟨"DerivativeTapeModel", "isOutput", "(I)Z"⟩ ⟨"DerivativeTapeModel", "isOutput", "(I)Z"⟩))] : List (Nat × Cond)).map (fun q => q.2) := rfl
  rw [e] at hw
  obtain ⟨q, hq, rfl⟩ := List.mem_map.mp hw
  exact ma_W_i (h q hq).1 (h q hq).2
def ma_wm77 : List Cond := [(Jvm.Cond.initialized "DerivativeTapeModel"), (Jvm.Cond.instanceMethod ({ cls := "DerivativeTapeModel", name := "make", desc := "(IIIJ)I" } : Jvm.MethodName)), (Jvm.Cond.selects "DerivativeTapeModel" ⟨"DerivativeTapeModel", "make", "(IIIJ)I"⟩ ⟨"DerivativeTapeModel", "make", "(IIIJ)I"⟩)]
theorem ma_wm77_in : ∀ w ∈ ma_wm77, w ∈ ma_W := by
  have h : ∀ q ∈ [(46, (Jvm.Cond.initialized "DerivativeTapeModel")), (602, (Jvm.Cond.instanceMethod ({ cls := "DerivativeTapeModel", name := "make", desc := "(IIIJ)I" } : Jvm.MethodName))), (21, (Jvm.Cond.selects "DerivativeTapeModel" ⟨"DerivativeTapeModel", "make", "(IIIJ)I"⟩ ⟨"DerivativeTapeModel", "make", "(IIIJ)I"⟩))], lw_tbl[q.1]? = some q.2 ∧ goodWord q.2 = true := by decide +kernel
  intro w hw
  have e : ma_wm77 = ([(46, (Jvm.Cond.initialized "DerivativeTapeModel")), (602, (Jvm.Cond.instanceMethod ({ cls := "DerivativeTapeModel", name := "make", desc := "(IIIJ)I" } : Jvm.MethodName))), (21, (Jvm.Cond.selects "DerivativeTapeModel" ⟨"DerivativeTapeModel", "make", "(IIIJ)I"⟩ ⟨"DerivativeTapeModel", "make", "(IIIJ)I"⟩))] : List (Nat × Cond)).map (fun q => q.2) := rfl
  rw [e] at hw
  obtain ⟨q, hq, rfl⟩ := List.mem_map.mp hw
  exact ma_W_i (h q hq).1 (h q hq).2
def ma_wm78 : List Cond := [(Jvm.Cond.initialized "DerivativeTapeModel"), (Jvm.Cond.instanceMethod ({ cls := "DerivativeTapeModel", name := "input", desc := "()I" } : Jvm.MethodName)), (Jvm.Cond.selects "DerivativeTapeModel" ({ cls := "DerivativeTapeModel", name := "input", desc := "()I" } : Jvm.MethodName) ({ cls := "DerivativeTapeModel", name := "input", desc := "()I" } : Jvm.MethodName))]
theorem ma_wm78_in : ∀ w ∈ ma_wm78, w ∈ ma_W := by
  have h : ∀ q ∈ [(46, (Jvm.Cond.initialized "DerivativeTapeModel")), (597, (Jvm.Cond.instanceMethod ({ cls := "DerivativeTapeModel", name := "input", desc := "()I" } : Jvm.MethodName))), (598, (Jvm.Cond.selects "DerivativeTapeModel" ({ cls := "DerivativeTapeModel", name := "input", desc := "()I" } : Jvm.MethodName) ({ cls := "DerivativeTapeModel", name := "input", desc := "()I" } : Jvm.MethodName)))], lw_tbl[q.1]? = some q.2 ∧ goodWord q.2 = true := by decide +kernel
  intro w hw
  have e : ma_wm78 = ([(46, (Jvm.Cond.initialized "DerivativeTapeModel")), (597, (Jvm.Cond.instanceMethod ({ cls := "DerivativeTapeModel", name := "input", desc := "()I" } : Jvm.MethodName))), (598, (Jvm.Cond.selects "DerivativeTapeModel" ({ cls := "DerivativeTapeModel", name := "input", desc := "()I" } : Jvm.MethodName) ({ cls := "DerivativeTapeModel", name := "input", desc := "()I" } : Jvm.MethodName)))] : List (Nat × Cond)).map (fun q => q.2) := rfl
  rw [e] at hw
  obtain ⟨q, hq, rfl⟩ := List.mem_map.mp hw
  exact ma_W_i (h q hq).1 (h q hq).2
def ma_wm79 : List Cond := [(Jvm.Cond.initialized "DerivativeTapeModel"), (Jvm.Cond.instanceMethod ({ cls := "DerivativeTapeModel", name := "constant", desc := "(I)I" } : Jvm.MethodName)), (Jvm.Cond.selects "DerivativeTapeModel" ({ cls := "DerivativeTapeModel", name := "constant", desc := "(I)I" } : Jvm.MethodName) ({ cls := "DerivativeTapeModel", name := "constant", desc := "(I)I" } : Jvm.MethodName))]
theorem ma_wm79_in : ∀ w ∈ ma_wm79, w ∈ ma_W := by
  have h : ∀ q ∈ [(46, (Jvm.Cond.initialized "DerivativeTapeModel")), (605, (Jvm.Cond.instanceMethod ({ cls := "DerivativeTapeModel", name := "constant", desc := "(I)I" } : Jvm.MethodName))), (606, (Jvm.Cond.selects "DerivativeTapeModel" ({ cls := "DerivativeTapeModel", name := "constant", desc := "(I)I" } : Jvm.MethodName) ({ cls := "DerivativeTapeModel", name := "constant", desc := "(I)I" } : Jvm.MethodName)))], lw_tbl[q.1]? = some q.2 ∧ goodWord q.2 = true := by decide +kernel
  intro w hw
  have e : ma_wm79 = ([(46, (Jvm.Cond.initialized "DerivativeTapeModel")), (605, (Jvm.Cond.instanceMethod ({ cls := "DerivativeTapeModel", name := "constant", desc := "(I)I" } : Jvm.MethodName))), (606, (Jvm.Cond.selects "DerivativeTapeModel" ({ cls := "DerivativeTapeModel", name := "constant", desc := "(I)I" } : Jvm.MethodName) ({ cls := "DerivativeTapeModel", name := "constant", desc := "(I)I" } : Jvm.MethodName)))] : List (Nat × Cond)).map (fun q => q.2) := rfl
  rw [e] at hw
  obtain ⟨q, hq, rfl⟩ := List.mem_map.mp hw
  exact ma_W_i (h q hq).1 (h q hq).2
def ma_wm80 : List Cond := [(Jvm.Cond.initialized "DerivativeTapeModel"), (Jvm.Cond.instanceMethod ({ cls := "DerivativeTapeModel", name := "operation", desc := "(III)I" } : Jvm.MethodName)), (Jvm.Cond.selects "DerivativeTapeModel" ({ cls := "DerivativeTapeModel", name := "operation", desc := "(III)I" } : Jvm.MethodName) ({ cls := "DerivativeTapeModel", name := "operation", desc := "(III)I" } : Jvm.MethodName))]
theorem ma_wm80_in : ∀ w ∈ ma_wm80, w ∈ ma_W := by
  have h : ∀ q ∈ [(46, (Jvm.Cond.initialized "DerivativeTapeModel")), (613, (Jvm.Cond.instanceMethod ({ cls := "DerivativeTapeModel", name := "operation", desc := "(III)I" } : Jvm.MethodName))), (614, (Jvm.Cond.selects "DerivativeTapeModel" ({ cls := "DerivativeTapeModel", name := "operation", desc := "(III)I" } : Jvm.MethodName) ({ cls := "DerivativeTapeModel", name := "operation", desc := "(III)I" } : Jvm.MethodName)))], lw_tbl[q.1]? = some q.2 ∧ goodWord q.2 = true := by decide +kernel
  intro w hw
  have e : ma_wm80 = ([(46, (Jvm.Cond.initialized "DerivativeTapeModel")), (613, (Jvm.Cond.instanceMethod ({ cls := "DerivativeTapeModel", name := "operation", desc := "(III)I" } : Jvm.MethodName))), (614, (Jvm.Cond.selects "DerivativeTapeModel" ({ cls := "DerivativeTapeModel", name := "operation", desc := "(III)I" } : Jvm.MethodName) ({ cls := "DerivativeTapeModel", name := "operation", desc := "(III)I" } : Jvm.MethodName)))] : List (Nat × Cond)).map (fun q => q.2) := rfl
  rw [e] at hw
  obtain ⟨q, hq, rfl⟩ := List.mem_map.mp hw
  exact ma_W_i (h q hq).1 (h q hq).2
def ma_wm81 : List Cond := [(Jvm.Cond.initialized "DerivativeTapeModel"), (Jvm.Cond.instanceMethod ({ cls := "DerivativeTapeModel", name := "output", desc := "(I)I" } : Jvm.MethodName)), (Jvm.Cond.selects "DerivativeTapeModel" ({ cls := "DerivativeTapeModel", name := "output", desc := "(I)I" } : Jvm.MethodName) ({ cls := "DerivativeTapeModel", name := "output", desc := "(I)I" } : Jvm.MethodName))]
theorem ma_wm81_in : ∀ w ∈ ma_wm81, w ∈ ma_W := by
  have h : ∀ q ∈ [(46, (Jvm.Cond.initialized "DerivativeTapeModel")), (621, (Jvm.Cond.instanceMethod ({ cls := "DerivativeTapeModel", name := "output", desc := "(I)I" } : Jvm.MethodName))), (622, (Jvm.Cond.selects "DerivativeTapeModel" ({ cls := "DerivativeTapeModel", name := "output", desc := "(I)I" } : Jvm.MethodName) ({ cls := "DerivativeTapeModel", name := "output", desc := "(I)I" } : Jvm.MethodName)))], lw_tbl[q.1]? = some q.2 ∧ goodWord q.2 = true := by decide +kernel
  intro w hw
  have e : ma_wm81 = ([(46, (Jvm.Cond.initialized "DerivativeTapeModel")), (621, (Jvm.Cond.instanceMethod ({ cls := "DerivativeTapeModel", name := "output", desc := "(I)I" } : Jvm.MethodName))), (622, (Jvm.Cond.selects "DerivativeTapeModel" ({ cls := "DerivativeTapeModel", name := "output", desc := "(I)I" } : Jvm.MethodName) ({ cls := "DerivativeTapeModel", name := "output", desc := "(I)I" } : Jvm.MethodName)))] : List (Nat × Cond)).map (fun q => q.2) := rfl
  rw [e] at hw
  obtain ⟨q, hq, rfl⟩ := List.mem_map.mp hw
  exact ma_W_i (h q hq).1 (h q hq).2
def ma_wm82 : List Cond := [(Jvm.Cond.initialized "DerivativeTapeModel"), (Jvm.Cond.instanceMethod ({ cls := "DerivativeTapeModel", name := "point", desc := "(II)Z" } : Jvm.MethodName)), (Jvm.Cond.selects "DerivativeTapeModel" ({ cls := "DerivativeTapeModel", name := "point", desc := "(II)Z" } : Jvm.MethodName) ({ cls := "DerivativeTapeModel", name := "point", desc := "(II)Z" } : Jvm.MethodName))]
theorem ma_wm82_in : ∀ w ∈ ma_wm82, w ∈ ma_W := by
  have h : ∀ q ∈ [(46, (Jvm.Cond.initialized "DerivativeTapeModel")), (625, (Jvm.Cond.instanceMethod ({ cls := "DerivativeTapeModel", name := "point", desc := "(II)Z" } : Jvm.MethodName))), (626, (Jvm.Cond.selects "DerivativeTapeModel" ({ cls := "DerivativeTapeModel", name := "point", desc := "(II)Z" } : Jvm.MethodName) ({ cls := "DerivativeTapeModel", name := "point", desc := "(II)Z" } : Jvm.MethodName)))], lw_tbl[q.1]? = some q.2 ∧ goodWord q.2 = true := by decide +kernel
  intro w hw
  have e : ma_wm82 = ([(46, (Jvm.Cond.initialized "DerivativeTapeModel")), (625, (Jvm.Cond.instanceMethod ({ cls := "DerivativeTapeModel", name := "point", desc := "(II)Z" } : Jvm.MethodName))), (626, (Jvm.Cond.selects "DerivativeTapeModel" ({ cls := "DerivativeTapeModel", name := "point", desc := "(II)Z" } : Jvm.MethodName) ({ cls := "DerivativeTapeModel", name := "point", desc := "(II)Z" } : Jvm.MethodName)))] : List (Nat × Cond)).map (fun q => q.2) := rfl
  rw [e] at hw
  obtain ⟨q, hq, rfl⟩ := List.mem_map.mp hw
  exact ma_W_i (h q hq).1 (h q hq).2
def ma_wm83 : List Cond := [(Jvm.Cond.initialized "DerivativeTapeModel"), (Jvm.Cond.instanceMethod ({ cls := "DerivativeTapeModel", name := "direction", desc := "(II)Z" } : Jvm.MethodName)), (Jvm.Cond.selects "DerivativeTapeModel" ({ cls := "DerivativeTapeModel", name := "direction", desc := "(II)Z" } : Jvm.MethodName) ({ cls := "DerivativeTapeModel", name := "direction", desc := "(II)Z" } : Jvm.MethodName))]
theorem ma_wm83_in : ∀ w ∈ ma_wm83, w ∈ ma_W := by
  have h : ∀ q ∈ [(46, (Jvm.Cond.initialized "DerivativeTapeModel")), (633, (Jvm.Cond.instanceMethod ({ cls := "DerivativeTapeModel", name := "direction", desc := "(II)Z" } : Jvm.MethodName))), (634, (Jvm.Cond.selects "DerivativeTapeModel" ({ cls := "DerivativeTapeModel", name := "direction", desc := "(II)Z" } : Jvm.MethodName) ({ cls := "DerivativeTapeModel", name := "direction", desc := "(II)Z" } : Jvm.MethodName)))], lw_tbl[q.1]? = some q.2 ∧ goodWord q.2 = true := by decide +kernel
  intro w hw
  have e : ma_wm83 = ([(46, (Jvm.Cond.initialized "DerivativeTapeModel")), (633, (Jvm.Cond.instanceMethod ({ cls := "DerivativeTapeModel", name := "direction", desc := "(II)Z" } : Jvm.MethodName))), (634, (Jvm.Cond.selects "DerivativeTapeModel" ({ cls := "DerivativeTapeModel", name := "direction", desc := "(II)Z" } : Jvm.MethodName) ({ cls := "DerivativeTapeModel", name := "direction", desc := "(II)Z" } : Jvm.MethodName)))] : List (Nat × Cond)).map (fun q => q.2) := rfl
  rw [e] at hw
  obtain ⟨q, hq, rfl⟩ := List.mem_map.mp hw
  exact ma_W_i (h q hq).1 (h q hq).2
def ma_wm84 : List Cond := [(Jvm.Cond.initialized "DerivativeTapeModel"), (Jvm.Cond.instanceMethod ({ cls := "DerivativeTapeModel", name := "weight", desc := "(II)Z" } : Jvm.MethodName)), (Jvm.Cond.selects "DerivativeTapeModel" ({ cls := "DerivativeTapeModel", name := "weight", desc := "(II)Z" } : Jvm.MethodName) ({ cls := "DerivativeTapeModel", name := "weight", desc := "(II)Z" } : Jvm.MethodName))]
theorem ma_wm84_in : ∀ w ∈ ma_wm84, w ∈ ma_W := by
  have h : ∀ q ∈ [(46, (Jvm.Cond.initialized "DerivativeTapeModel")), (637, (Jvm.Cond.instanceMethod ({ cls := "DerivativeTapeModel", name := "weight", desc := "(II)Z" } : Jvm.MethodName))), (638, (Jvm.Cond.selects "DerivativeTapeModel" ({ cls := "DerivativeTapeModel", name := "weight", desc := "(II)Z" } : Jvm.MethodName) ({ cls := "DerivativeTapeModel", name := "weight", desc := "(II)Z" } : Jvm.MethodName)))], lw_tbl[q.1]? = some q.2 ∧ goodWord q.2 = true := by decide +kernel
  intro w hw
  have e : ma_wm84 = ([(46, (Jvm.Cond.initialized "DerivativeTapeModel")), (637, (Jvm.Cond.instanceMethod ({ cls := "DerivativeTapeModel", name := "weight", desc := "(II)Z" } : Jvm.MethodName))), (638, (Jvm.Cond.selects "DerivativeTapeModel" ({ cls := "DerivativeTapeModel", name := "weight", desc := "(II)Z" } : Jvm.MethodName) ({ cls := "DerivativeTapeModel", name := "weight", desc := "(II)Z" } : Jvm.MethodName)))] : List (Nat × Cond)).map (fun q => q.2) := rfl
  rw [e] at hw
  obtain ⟨q, hq, rfl⟩ := List.mem_map.mp hw
  exact ma_W_i (h q hq).1 (h q hq).2
def ma_wm85 : List Cond := [(Jvm.Cond.initialized "DerivativeTapeModel"), (Jvm.Cond.instanceMethod ({ cls := "DerivativeTapeModel", name := "aim", desc := "(ZII)V" } : Jvm.MethodName)), (Jvm.Cond.selects "DerivativeTapeModel" ⟨"DerivativeTapeModel", "aim", "(ZII)V"⟩ ⟨"DerivativeTapeModel", "aim", "(ZII)V"⟩)]
theorem ma_wm85_in : ∀ w ∈ ma_wm85, w ∈ ma_W := by
  have h : ∀ q ∈ [(46, (Jvm.Cond.initialized "DerivativeTapeModel")), (650, (Jvm.Cond.instanceMethod ({ cls := "DerivativeTapeModel", name := "aim", desc := "(ZII)V" } : Jvm.MethodName))), (25, (Jvm.Cond.selects "DerivativeTapeModel" ⟨"DerivativeTapeModel", "aim", "(ZII)V"⟩ ⟨"DerivativeTapeModel", "aim", "(ZII)V"⟩))], lw_tbl[q.1]? = some q.2 ∧ goodWord q.2 = true := by decide +kernel
  intro w hw
  have e : ma_wm85 = ([(46, (Jvm.Cond.initialized "DerivativeTapeModel")), (650, (Jvm.Cond.instanceMethod ({ cls := "DerivativeTapeModel", name := "aim", desc := "(ZII)V" } : Jvm.MethodName))), (25, (Jvm.Cond.selects "DerivativeTapeModel" ⟨"DerivativeTapeModel", "aim", "(ZII)V"⟩ ⟨"DerivativeTapeModel", "aim", "(ZII)V"⟩))] : List (Nat × Cond)).map (fun q => q.2) := rfl
  rw [e] at hw
  obtain ⟨q, hq, rfl⟩ := List.mem_map.mp hw
  exact ma_W_i (h q hq).1 (h q hq).2
def ma_wm86 : List Cond := [(Jvm.Cond.initialized "DerivativeTapeModel"), (Jvm.Cond.static ({ cls := "DerivativeTapeModel", name := "inverse", desc := "(J)J" } : Jvm.MethodName))]
theorem ma_wm86_in : ∀ w ∈ ma_wm86, w ∈ ma_W := by
  have h : ∀ q ∈ [(46, (Jvm.Cond.initialized "DerivativeTapeModel")), (673, (Jvm.Cond.static ({ cls := "DerivativeTapeModel", name := "inverse", desc := "(J)J" } : Jvm.MethodName)))], lw_tbl[q.1]? = some q.2 ∧ goodWord q.2 = true := by decide +kernel
  intro w hw
  have e : ma_wm86 = ([(46, (Jvm.Cond.initialized "DerivativeTapeModel")), (673, (Jvm.Cond.static ({ cls := "DerivativeTapeModel", name := "inverse", desc := "(J)J" } : Jvm.MethodName)))] : List (Nat × Cond)).map (fun q => q.2) := rfl
  rw [e] at hw
  obtain ⟨q, hq, rfl⟩ := List.mem_map.mp hw
  exact ma_W_i (h q hq).1 (h q hq).2
def ma_wm87 : List Cond := [(Jvm.Cond.initialized "DerivativeTapeModel"), (Jvm.Cond.instanceMethod ({ cls := "DerivativeTapeModel", name := "times", desc := "(II)V" } : Jvm.MethodName)), (Jvm.Cond.selects "DerivativeTapeModel" ⟨"DerivativeTapeModel", "times", "(II)V"⟩ ⟨"DerivativeTapeModel", "times", "(II)V"⟩)]
theorem ma_wm87_in : ∀ w ∈ ma_wm87, w ∈ ma_W := by
  have h : ∀ q ∈ [(46, (Jvm.Cond.initialized "DerivativeTapeModel")), (678, (Jvm.Cond.instanceMethod ({ cls := "DerivativeTapeModel", name := "times", desc := "(II)V" } : Jvm.MethodName))), (31, (Jvm.Cond.selects "DerivativeTapeModel" ⟨"DerivativeTapeModel", "times", "(II)V"⟩ ⟨"DerivativeTapeModel", "times", "(II)V"⟩))], lw_tbl[q.1]? = some q.2 ∧ goodWord q.2 = true := by decide +kernel
  intro w hw
  have e : ma_wm87 = ([(46, (Jvm.Cond.initialized "DerivativeTapeModel")), (678, (Jvm.Cond.instanceMethod ({ cls := "DerivativeTapeModel", name := "times", desc := "(II)V" } : Jvm.MethodName))), (31, (Jvm.Cond.selects "DerivativeTapeModel" ⟨"DerivativeTapeModel", "times", "(II)V"⟩ ⟨"DerivativeTapeModel", "times", "(II)V"⟩))] : List (Nat × Cond)).map (fun q => q.2) := rfl
  rw [e] at hw
  obtain ⟨q, hq, rfl⟩ := List.mem_map.mp hw
  exact ma_W_i (h q hq).1 (h q hq).2
def ma_wm88 : List Cond := [(Jvm.Cond.initialized "DerivativeTapeModel"), (Jvm.Cond.instanceMethod ({ cls := "DerivativeTapeModel", name := "copy", desc := "(II)V" } : Jvm.MethodName)), (Jvm.Cond.selects "DerivativeTapeModel" ⟨"DerivativeTapeModel", "copy", "(II)V"⟩ ⟨"DerivativeTapeModel", "copy", "(II)V"⟩)]
theorem ma_wm88_in : ∀ w ∈ ma_wm88, w ∈ ma_W := by
  have h : ∀ q ∈ [(46, (Jvm.Cond.initialized "DerivativeTapeModel")), (666, (Jvm.Cond.instanceMethod ({ cls := "DerivativeTapeModel", name := "copy", desc := "(II)V" } : Jvm.MethodName))), (29, (Jvm.Cond.selects "DerivativeTapeModel" ⟨"DerivativeTapeModel", "copy", "(II)V"⟩ ⟨"DerivativeTapeModel", "copy", "(II)V"⟩))], lw_tbl[q.1]? = some q.2 ∧ goodWord q.2 = true := by decide +kernel
  intro w hw
  have e : ma_wm88 = ([(46, (Jvm.Cond.initialized "DerivativeTapeModel")), (666, (Jvm.Cond.instanceMethod ({ cls := "DerivativeTapeModel", name := "copy", desc := "(II)V" } : Jvm.MethodName))), (29, (Jvm.Cond.selects "DerivativeTapeModel" ⟨"DerivativeTapeModel", "copy", "(II)V"⟩ ⟨"DerivativeTapeModel", "copy", "(II)V"⟩))] : List (Nat × Cond)).map (fun q => q.2) := rfl
  rw [e] at hw
  obtain ⟨q, hq, rfl⟩ := List.mem_map.mp hw
  exact ma_W_i (h q hq).1 (h q hq).2
def ma_wm89 : List Cond := [(Jvm.Cond.initialized "DerivativeTapeModel"), (Jvm.Cond.instanceMethod ({ cls := "DerivativeTapeModel", name := "one", desc := "(IJ)V" } : Jvm.MethodName)), (Jvm.Cond.selects "DerivativeTapeModel" ⟨"DerivativeTapeModel", "one", "(IJ)V"⟩ ⟨"DerivativeTapeModel", "one", "(IJ)V"⟩)]
theorem ma_wm89_in : ∀ w ∈ ma_wm89, w ∈ ma_W := by
  have h : ∀ q ∈ [(46, (Jvm.Cond.initialized "DerivativeTapeModel")), (658, (Jvm.Cond.instanceMethod ({ cls := "DerivativeTapeModel", name := "one", desc := "(IJ)V" } : Jvm.MethodName))), (27, (Jvm.Cond.selects "DerivativeTapeModel" ⟨"DerivativeTapeModel", "one", "(IJ)V"⟩ ⟨"DerivativeTapeModel", "one", "(IJ)V"⟩))], lw_tbl[q.1]? = some q.2 ∧ goodWord q.2 = true := by decide +kernel
  intro w hw
  have e : ma_wm89 = ([(46, (Jvm.Cond.initialized "DerivativeTapeModel")), (658, (Jvm.Cond.instanceMethod ({ cls := "DerivativeTapeModel", name := "one", desc := "(IJ)V" } : Jvm.MethodName))), (27, (Jvm.Cond.selects "DerivativeTapeModel" ⟨"DerivativeTapeModel", "one", "(IJ)V"⟩ ⟨"DerivativeTapeModel", "one", "(IJ)V"⟩))] : List (Nat × Cond)).map (fun q => q.2) := rfl
  rw [e] at hw
  obtain ⟨q, hq, rfl⟩ := List.mem_map.mp hw
  exact ma_W_i (h q hq).1 (h q hq).2
def ma_wm90 : List Cond := [(Jvm.Cond.initialized "DerivativeTapeModel"), (Jvm.Cond.instanceMethod ({ cls := "DerivativeTapeModel", name := "divide", desc := "(III)V" } : Jvm.MethodName)), (Jvm.Cond.selects "DerivativeTapeModel" ⟨"DerivativeTapeModel", "divide", "(III)V"⟩ ⟨"DerivativeTapeModel", "divide", "(III)V"⟩)]
theorem ma_wm90_in : ∀ w ∈ ma_wm90, w ∈ ma_W := by
  have h : ∀ q ∈ [(46, (Jvm.Cond.initialized "DerivativeTapeModel")), (670, (Jvm.Cond.instanceMethod ({ cls := "DerivativeTapeModel", name := "divide", desc := "(III)V" } : Jvm.MethodName))), (30, (Jvm.Cond.selects "DerivativeTapeModel" ⟨"DerivativeTapeModel", "divide", "(III)V"⟩ ⟨"DerivativeTapeModel", "divide", "(III)V"⟩))], lw_tbl[q.1]? = some q.2 ∧ goodWord q.2 = true := by decide +kernel
  intro w hw
  have e : ma_wm90 = ([(46, (Jvm.Cond.initialized "DerivativeTapeModel")), (670, (Jvm.Cond.instanceMethod ({ cls := "DerivativeTapeModel", name := "divide", desc := "(III)V" } : Jvm.MethodName))), (30, (Jvm.Cond.selects "DerivativeTapeModel" ⟨"DerivativeTapeModel", "divide", "(III)V"⟩ ⟨"DerivativeTapeModel", "divide", "(III)V"⟩))] : List (Nat × Cond)).map (fun q => q.2) := rfl
  rw [e] at hw
  obtain ⟨q, hq, rfl⟩ := List.mem_map.mp hw
  exact ma_W_i (h q hq).1 (h q hq).2
def ma_wm91 : List Cond := [(Jvm.Cond.initialized "DerivativeTapeModel"), (Jvm.Cond.instanceMethod ({ cls := "DerivativeTapeModel", name := "work", desc := "(I)V" } : Jvm.MethodName)), (Jvm.Cond.selects "DerivativeTapeModel" ⟨"DerivativeTapeModel", "work", "(I)V"⟩ ⟨"DerivativeTapeModel", "work", "(I)V"⟩)]
theorem ma_wm91_in : ∀ w ∈ ma_wm91, w ∈ ma_W := by
  have h : ∀ q ∈ [(46, (Jvm.Cond.initialized "DerivativeTapeModel")), (662, (Jvm.Cond.instanceMethod ({ cls := "DerivativeTapeModel", name := "work", desc := "(I)V" } : Jvm.MethodName))), (28, (Jvm.Cond.selects "DerivativeTapeModel" ⟨"DerivativeTapeModel", "work", "(I)V"⟩ ⟨"DerivativeTapeModel", "work", "(I)V"⟩))], lw_tbl[q.1]? = some q.2 ∧ goodWord q.2 = true := by decide +kernel
  intro w hw
  have e : ma_wm91 = ([(46, (Jvm.Cond.initialized "DerivativeTapeModel")), (662, (Jvm.Cond.instanceMethod ({ cls := "DerivativeTapeModel", name := "work", desc := "(I)V" } : Jvm.MethodName))), (28, (Jvm.Cond.selects "DerivativeTapeModel" ⟨"DerivativeTapeModel", "work", "(I)V"⟩ ⟨"DerivativeTapeModel", "work", "(I)V"⟩))] : List (Nat × Cond)).map (fun q => q.2) := rfl
  rw [e] at hw
  obtain ⟨q, hq, rfl⟩ := List.mem_map.mp hw
  exact ma_W_i (h q hq).1 (h q hq).2
def ma_wm92 : List Cond := [(Jvm.Cond.initialized "DerivativeTapeModel"), (Jvm.Cond.instanceMethod ({ cls := "DerivativeTapeModel", name := "sweep", desc := "()V" } : Jvm.MethodName)), (Jvm.Cond.selects "DerivativeTapeModel" ⟨"DerivativeTapeModel", "sweep", "()V"⟩ ⟨"DerivativeTapeModel", "sweep", "()V"⟩)]
theorem ma_wm92_in : ∀ w ∈ ma_wm92, w ∈ ma_W := by
  have h : ∀ q ∈ [(46, (Jvm.Cond.initialized "DerivativeTapeModel")), (654, (Jvm.Cond.instanceMethod ({ cls := "DerivativeTapeModel", name := "sweep", desc := "()V" } : Jvm.MethodName))), (26, (Jvm.Cond.selects "DerivativeTapeModel" ⟨"DerivativeTapeModel", "sweep", "()V"⟩ ⟨"DerivativeTapeModel", "sweep", "()V"⟩))], lw_tbl[q.1]? = some q.2 ∧ goodWord q.2 = true := by decide +kernel
  intro w hw
  have e : ma_wm92 = ([(46, (Jvm.Cond.initialized "DerivativeTapeModel")), (654, (Jvm.Cond.instanceMethod ({ cls := "DerivativeTapeModel", name := "sweep", desc := "()V" } : Jvm.MethodName))), (26, (Jvm.Cond.selects "DerivativeTapeModel" ⟨"DerivativeTapeModel", "sweep", "()V"⟩ ⟨"DerivativeTapeModel", "sweep", "()V"⟩))] : List (Nat × Cond)).map (fun q => q.2) := rfl
  rw [e] at hw
  obtain ⟨q, hq, rfl⟩ := List.mem_map.mp hw
  exact ma_W_i (h q hq).1 (h q hq).2
def ma_wm93 : List Cond := [(Jvm.Cond.initialized "DerivativeTapeModel"), (Jvm.Cond.instanceMethod ({ cls := "DerivativeTapeModel", name := "coefficient", desc := "(II)I" } : Jvm.MethodName)), (Jvm.Cond.selects "DerivativeTapeModel" ⟨"DerivativeTapeModel", "coefficient", "(II)I"⟩ ⟨"DerivativeTapeModel", "coefficient", "(II)I"⟩)]
theorem ma_wm93_in : ∀ w ∈ ma_wm93, w ∈ ma_W := by
  have h : ∀ q ∈ [(46, (Jvm.Cond.initialized "DerivativeTapeModel")), (690, (Jvm.Cond.instanceMethod ({ cls := "DerivativeTapeModel", name := "coefficient", desc := "(II)I" } : Jvm.MethodName))), (32, (Jvm.Cond.selects "DerivativeTapeModel" ⟨"DerivativeTapeModel", "coefficient", "(II)I"⟩ ⟨"DerivativeTapeModel", "coefficient", "(II)I"⟩))], lw_tbl[q.1]? = some q.2 ∧ goodWord q.2 = true := by decide +kernel
  intro w hw
  have e : ma_wm93 = ([(46, (Jvm.Cond.initialized "DerivativeTapeModel")), (690, (Jvm.Cond.instanceMethod ({ cls := "DerivativeTapeModel", name := "coefficient", desc := "(II)I" } : Jvm.MethodName))), (32, (Jvm.Cond.selects "DerivativeTapeModel" ⟨"DerivativeTapeModel", "coefficient", "(II)I"⟩ ⟨"DerivativeTapeModel", "coefficient", "(II)I"⟩))] : List (Nat × Cond)).map (fun q => q.2) := rfl
  rw [e] at hw
  obtain ⟨q, hq, rfl⟩ := List.mem_map.mp hw
  exact ma_W_i (h q hq).1 (h q hq).2
def ma_wm94 : List Cond := [(Jvm.Cond.initialized "DerivativeTapeModel"), (Jvm.Cond.instanceMethod ({ cls := "DerivativeTapeModel", name := "value", desc := "(I)I" } : Jvm.MethodName)), (Jvm.Cond.selects "DerivativeTapeModel" ({ cls := "DerivativeTapeModel", name := "value", desc := "(I)I" } : Jvm.MethodName) ({ cls := "DerivativeTapeModel", name := "value", desc := "(I)I" } : Jvm.MethodName))]
theorem ma_wm94_in : ∀ w ∈ ma_wm94, w ∈ ma_W := by
  have h : ∀ q ∈ [(46, (Jvm.Cond.initialized "DerivativeTapeModel")), (645, (Jvm.Cond.instanceMethod ({ cls := "DerivativeTapeModel", name := "value", desc := "(I)I" } : Jvm.MethodName))), (646, (Jvm.Cond.selects "DerivativeTapeModel" ({ cls := "DerivativeTapeModel", name := "value", desc := "(I)I" } : Jvm.MethodName) ({ cls := "DerivativeTapeModel", name := "value", desc := "(I)I" } : Jvm.MethodName)))], lw_tbl[q.1]? = some q.2 ∧ goodWord q.2 = true := by decide +kernel
  intro w hw
  have e : ma_wm94 = ([(46, (Jvm.Cond.initialized "DerivativeTapeModel")), (645, (Jvm.Cond.instanceMethod ({ cls := "DerivativeTapeModel", name := "value", desc := "(I)I" } : Jvm.MethodName))), (646, (Jvm.Cond.selects "DerivativeTapeModel" ({ cls := "DerivativeTapeModel", name := "value", desc := "(I)I" } : Jvm.MethodName) ({ cls := "DerivativeTapeModel", name := "value", desc := "(I)I" } : Jvm.MethodName)))] : List (Nat × Cond)).map (fun q => q.2) := rfl
  rw [e] at hw
  obtain ⟨q, hq, rfl⟩ := List.mem_map.mp hw
  exact ma_W_i (h q hq).1 (h q hq).2
def ma_wm95 : List Cond := [(Jvm.Cond.initialized "DerivativeTapeModel"), (Jvm.Cond.instanceMethod ({ cls := "DerivativeTapeModel", name := "forward", desc := "(I)I" } : Jvm.MethodName)), (Jvm.Cond.selects "DerivativeTapeModel" ({ cls := "DerivativeTapeModel", name := "forward", desc := "(I)I" } : Jvm.MethodName) ({ cls := "DerivativeTapeModel", name := "forward", desc := "(I)I" } : Jvm.MethodName))]
theorem ma_wm95_in : ∀ w ∈ ma_wm95, w ∈ ma_W := by
  have h : ∀ q ∈ [(46, (Jvm.Cond.initialized "DerivativeTapeModel")), (681, (Jvm.Cond.instanceMethod ({ cls := "DerivativeTapeModel", name := "forward", desc := "(I)I" } : Jvm.MethodName))), (682, (Jvm.Cond.selects "DerivativeTapeModel" ({ cls := "DerivativeTapeModel", name := "forward", desc := "(I)I" } : Jvm.MethodName) ({ cls := "DerivativeTapeModel", name := "forward", desc := "(I)I" } : Jvm.MethodName)))], lw_tbl[q.1]? = some q.2 ∧ goodWord q.2 = true := by decide +kernel
  intro w hw
  have e : ma_wm95 = ([(46, (Jvm.Cond.initialized "DerivativeTapeModel")), (681, (Jvm.Cond.instanceMethod ({ cls := "DerivativeTapeModel", name := "forward", desc := "(I)I" } : Jvm.MethodName))), (682, (Jvm.Cond.selects "DerivativeTapeModel" ({ cls := "DerivativeTapeModel", name := "forward", desc := "(I)I" } : Jvm.MethodName) ({ cls := "DerivativeTapeModel", name := "forward", desc := "(I)I" } : Jvm.MethodName)))] : List (Nat × Cond)).map (fun q => q.2) := rfl
  rw [e] at hw
  obtain ⟨q, hq, rfl⟩ := List.mem_map.mp hw
  exact ma_W_i (h q hq).1 (h q hq).2
def ma_wm96 : List Cond := [(Jvm.Cond.initialized "DerivativeTapeModel"), (Jvm.Cond.instanceMethod ({ cls := "DerivativeTapeModel", name := "taylor", desc := "(II)I" } : Jvm.MethodName)), (Jvm.Cond.selects "DerivativeTapeModel" ({ cls := "DerivativeTapeModel", name := "taylor", desc := "(II)I" } : Jvm.MethodName) ({ cls := "DerivativeTapeModel", name := "taylor", desc := "(II)I" } : Jvm.MethodName))]
theorem ma_wm96_in : ∀ w ∈ ma_wm96, w ∈ ma_W := by
  have h : ∀ q ∈ [(46, (Jvm.Cond.initialized "DerivativeTapeModel")), (685, (Jvm.Cond.instanceMethod ({ cls := "DerivativeTapeModel", name := "taylor", desc := "(II)I" } : Jvm.MethodName))), (686, (Jvm.Cond.selects "DerivativeTapeModel" ({ cls := "DerivativeTapeModel", name := "taylor", desc := "(II)I" } : Jvm.MethodName) ({ cls := "DerivativeTapeModel", name := "taylor", desc := "(II)I" } : Jvm.MethodName)))], lw_tbl[q.1]? = some q.2 ∧ goodWord q.2 = true := by decide +kernel
  intro w hw
  have e : ma_wm96 = ([(46, (Jvm.Cond.initialized "DerivativeTapeModel")), (685, (Jvm.Cond.instanceMethod ({ cls := "DerivativeTapeModel", name := "taylor", desc := "(II)I" } : Jvm.MethodName))), (686, (Jvm.Cond.selects "DerivativeTapeModel" ({ cls := "DerivativeTapeModel", name := "taylor", desc := "(II)I" } : Jvm.MethodName) ({ cls := "DerivativeTapeModel", name := "taylor", desc := "(II)I" } : Jvm.MethodName)))] : List (Nat × Cond)).map (fun q => q.2) := rfl
  rw [e] at hw
  obtain ⟨q, hq, rfl⟩ := List.mem_map.mp hw
  exact ma_W_i (h q hq).1 (h q hq).2
def ma_wm97 : List Cond := [(Jvm.Cond.initialized "DerivativeTapeModel"), (Jvm.Cond.instanceMethod ({ cls := "DerivativeTapeModel", name := "entry", desc := "(II)I" } : Jvm.MethodName)), (Jvm.Cond.selects "DerivativeTapeModel" ({ cls := "DerivativeTapeModel", name := "entry", desc := "(II)I" } : Jvm.MethodName) ({ cls := "DerivativeTapeModel", name := "entry", desc := "(II)I" } : Jvm.MethodName))]
theorem ma_wm97_in : ∀ w ∈ ma_wm97, w ∈ ma_W := by
  have h : ∀ q ∈ [(46, (Jvm.Cond.initialized "DerivativeTapeModel")), (694, (Jvm.Cond.instanceMethod ({ cls := "DerivativeTapeModel", name := "entry", desc := "(II)I" } : Jvm.MethodName))), (695, (Jvm.Cond.selects "DerivativeTapeModel" ({ cls := "DerivativeTapeModel", name := "entry", desc := "(II)I" } : Jvm.MethodName) ({ cls := "DerivativeTapeModel", name := "entry", desc := "(II)I" } : Jvm.MethodName)))], lw_tbl[q.1]? = some q.2 ∧ goodWord q.2 = true := by decide +kernel
  intro w hw
  have e : ma_wm97 = ([(46, (Jvm.Cond.initialized "DerivativeTapeModel")), (694, (Jvm.Cond.instanceMethod ({ cls := "DerivativeTapeModel", name := "entry", desc := "(II)I" } : Jvm.MethodName))), (695, (Jvm.Cond.selects "DerivativeTapeModel" ({ cls := "DerivativeTapeModel", name := "entry", desc := "(II)I" } : Jvm.MethodName) ({ cls := "DerivativeTapeModel", name := "entry", desc := "(II)I" } : Jvm.MethodName)))] : List (Nat × Cond)).map (fun q => q.2) := rfl
  rw [e] at hw
  obtain ⟨q, hq, rfl⟩ := List.mem_map.mp hw
  exact ma_W_i (h q hq).1 (h q hq).2
def ma_wm98 : List Cond := [(Jvm.Cond.initialized "DerivativeTapeModel"), (Jvm.Cond.instanceMethod ({ cls := "DerivativeTapeModel", name := "reverse", desc := "(I)I" } : Jvm.MethodName)), (Jvm.Cond.selects "DerivativeTapeModel" ({ cls := "DerivativeTapeModel", name := "reverse", desc := "(I)I" } : Jvm.MethodName) ({ cls := "DerivativeTapeModel", name := "reverse", desc := "(I)I" } : Jvm.MethodName))]
theorem ma_wm98_in : ∀ w ∈ ma_wm98, w ∈ ma_W := by
  have h : ∀ q ∈ [(46, (Jvm.Cond.initialized "DerivativeTapeModel")), (698, (Jvm.Cond.instanceMethod ({ cls := "DerivativeTapeModel", name := "reverse", desc := "(I)I" } : Jvm.MethodName))), (699, (Jvm.Cond.selects "DerivativeTapeModel" ({ cls := "DerivativeTapeModel", name := "reverse", desc := "(I)I" } : Jvm.MethodName) ({ cls := "DerivativeTapeModel", name := "reverse", desc := "(I)I" } : Jvm.MethodName)))], lw_tbl[q.1]? = some q.2 ∧ goodWord q.2 = true := by decide +kernel
  intro w hw
  have e : ma_wm98 = ([(46, (Jvm.Cond.initialized "DerivativeTapeModel")), (698, (Jvm.Cond.instanceMethod ({ cls := "DerivativeTapeModel", name := "reverse", desc := "(I)I" } : Jvm.MethodName))), (699, (Jvm.Cond.selects "DerivativeTapeModel" ({ cls := "DerivativeTapeModel", name := "reverse", desc := "(I)I" } : Jvm.MethodName) ({ cls := "DerivativeTapeModel", name := "reverse", desc := "(I)I" } : Jvm.MethodName)))] : List (Nat × Cond)).map (fun q => q.2) := rfl
  rw [e] at hw
  obtain ⟨q, hq, rfl⟩ := List.mem_map.mp hw
  exact ma_W_i (h q hq).1 (h q hq).2
def ma_wm99 : List Cond := [(Jvm.Cond.initialized "DerivativeTapeModel"), (Jvm.Cond.instanceMethod ({ cls := "DerivativeTapeModel", name := "second", desc := "(III)I" } : Jvm.MethodName)), (Jvm.Cond.selects "DerivativeTapeModel" ({ cls := "DerivativeTapeModel", name := "second", desc := "(III)I" } : Jvm.MethodName) ({ cls := "DerivativeTapeModel", name := "second", desc := "(III)I" } : Jvm.MethodName))]
theorem ma_wm99_in : ∀ w ∈ ma_wm99, w ∈ ma_W := by
  have h : ∀ q ∈ [(46, (Jvm.Cond.initialized "DerivativeTapeModel")), (703, (Jvm.Cond.instanceMethod ({ cls := "DerivativeTapeModel", name := "second", desc := "(III)I" } : Jvm.MethodName))), (704, (Jvm.Cond.selects "DerivativeTapeModel" ({ cls := "DerivativeTapeModel", name := "second", desc := "(III)I" } : Jvm.MethodName) ({ cls := "DerivativeTapeModel", name := "second", desc := "(III)I" } : Jvm.MethodName)))], lw_tbl[q.1]? = some q.2 ∧ goodWord q.2 = true := by decide +kernel
  intro w hw
  have e : ma_wm99 = ([(46, (Jvm.Cond.initialized "DerivativeTapeModel")), (703, (Jvm.Cond.instanceMethod ({ cls := "DerivativeTapeModel", name := "second", desc := "(III)I" } : Jvm.MethodName))), (704, (Jvm.Cond.selects "DerivativeTapeModel" ({ cls := "DerivativeTapeModel", name := "second", desc := "(III)I" } : Jvm.MethodName) ({ cls := "DerivativeTapeModel", name := "second", desc := "(III)I" } : Jvm.MethodName)))] : List (Nat × Cond)).map (fun q => q.2) := rfl
  rw [e] at hw
  obtain ⟨q, hq, rfl⟩ := List.mem_map.mp hw
  exact ma_W_i (h q hq).1 (h q hq).2
def ma_wm100 : List Cond := [(Jvm.Cond.initialized "DerivativeTapeModel"), (Jvm.Cond.instanceMethod ({ cls := "DerivativeTapeModel", name := "depends", desc := "(II)Z" } : Jvm.MethodName)), (Jvm.Cond.selects "DerivativeTapeModel" ({ cls := "DerivativeTapeModel", name := "depends", desc := "(II)Z" } : Jvm.MethodName) ({ cls := "DerivativeTapeModel", name := "depends", desc := "(II)Z" } : Jvm.MethodName))]
theorem ma_wm100_in : ∀ w ∈ ma_wm100, w ∈ ma_W := by
  have h : ∀ q ∈ [(46, (Jvm.Cond.initialized "DerivativeTapeModel")), (708, (Jvm.Cond.instanceMethod ({ cls := "DerivativeTapeModel", name := "depends", desc := "(II)Z" } : Jvm.MethodName))), (709, (Jvm.Cond.selects "DerivativeTapeModel" ({ cls := "DerivativeTapeModel", name := "depends", desc := "(II)Z" } : Jvm.MethodName) ({ cls := "DerivativeTapeModel", name := "depends", desc := "(II)Z" } : Jvm.MethodName)))], lw_tbl[q.1]? = some q.2 ∧ goodWord q.2 = true := by decide +kernel
  intro w hw
  have e : ma_wm100 = ([(46, (Jvm.Cond.initialized "DerivativeTapeModel")), (708, (Jvm.Cond.instanceMethod ({ cls := "DerivativeTapeModel", name := "depends", desc := "(II)Z" } : Jvm.MethodName))), (709, (Jvm.Cond.selects "DerivativeTapeModel" ({ cls := "DerivativeTapeModel", name := "depends", desc := "(II)Z" } : Jvm.MethodName) ({ cls := "DerivativeTapeModel", name := "depends", desc := "(II)Z" } : Jvm.MethodName)))] : List (Nat × Cond)).map (fun q => q.2) := rfl
  rw [e] at hw
  obtain ⟨q, hq, rfl⟩ := List.mem_map.mp hw
  exact ma_W_i (h q hq).1 (h q hq).2
def ma_wm101 : List Cond := [(Jvm.Cond.initialized "DerivativeTapeModel"), (Jvm.Cond.instanceMethod ({ cls := "DerivativeTapeModel", name := "conflict", desc := "(II)Z" } : Jvm.MethodName)), (Jvm.Cond.selects "DerivativeTapeModel" ⟨"DerivativeTapeModel", "conflict", "(II)Z"⟩ ⟨"DerivativeTapeModel", "conflict", "(II)Z"⟩)]
theorem ma_wm101_in : ∀ w ∈ ma_wm101, w ∈ ma_W := by
  have h : ∀ q ∈ [(46, (Jvm.Cond.initialized "DerivativeTapeModel")), (721, (Jvm.Cond.instanceMethod ({ cls := "DerivativeTapeModel", name := "conflict", desc := "(II)Z" } : Jvm.MethodName))), (34, (Jvm.Cond.selects "DerivativeTapeModel" ⟨"DerivativeTapeModel", "conflict", "(II)Z"⟩ ⟨"DerivativeTapeModel", "conflict", "(II)Z"⟩))], lw_tbl[q.1]? = some q.2 ∧ goodWord q.2 = true := by decide +kernel
  intro w hw
  have e : ma_wm101 = ([(46, (Jvm.Cond.initialized "DerivativeTapeModel")), (721, (Jvm.Cond.instanceMethod ({ cls := "DerivativeTapeModel", name := "conflict", desc := "(II)Z" } : Jvm.MethodName))), (34, (Jvm.Cond.selects "DerivativeTapeModel" ⟨"DerivativeTapeModel", "conflict", "(II)Z"⟩ ⟨"DerivativeTapeModel", "conflict", "(II)Z"⟩))] : List (Nat × Cond)).map (fun q => q.2) := rfl
  rw [e] at hw
  obtain ⟨q, hq, rfl⟩ := List.mem_map.mp hw
  exact ma_W_i (h q hq).1 (h q hq).2
def ma_wm102 : List Cond := [(Jvm.Cond.initialized "DerivativeTapeModel"), (Jvm.Cond.instanceMethod ({ cls := "DerivativeTapeModel", name := "shade", desc := "()V" } : Jvm.MethodName)), (Jvm.Cond.selects "DerivativeTapeModel" ⟨"DerivativeTapeModel", "shade", "()V"⟩ ⟨"DerivativeTapeModel", "shade", "()V"⟩)]
theorem ma_wm102_in : ∀ w ∈ ma_wm102, w ∈ ma_W := by
  have h : ∀ q ∈ [(46, (Jvm.Cond.initialized "DerivativeTapeModel")), (717, (Jvm.Cond.instanceMethod ({ cls := "DerivativeTapeModel", name := "shade", desc := "()V" } : Jvm.MethodName))), (33, (Jvm.Cond.selects "DerivativeTapeModel" ⟨"DerivativeTapeModel", "shade", "()V"⟩ ⟨"DerivativeTapeModel", "shade", "()V"⟩))], lw_tbl[q.1]? = some q.2 ∧ goodWord q.2 = true := by decide +kernel
  intro w hw
  have e : ma_wm102 = ([(46, (Jvm.Cond.initialized "DerivativeTapeModel")), (717, (Jvm.Cond.instanceMethod ({ cls := "DerivativeTapeModel", name := "shade", desc := "()V" } : Jvm.MethodName))), (33, (Jvm.Cond.selects "DerivativeTapeModel" ⟨"DerivativeTapeModel", "shade", "()V"⟩ ⟨"DerivativeTapeModel", "shade", "()V"⟩))] : List (Nat × Cond)).map (fun q => q.2) := rfl
  rw [e] at hw
  obtain ⟨q, hq, rfl⟩ := List.mem_map.mp hw
  exact ma_W_i (h q hq).1 (h q hq).2
def ma_wm103 : List Cond := [(Jvm.Cond.initialized "DerivativeTapeModel"), (Jvm.Cond.instanceMethod ({ cls := "DerivativeTapeModel", name := "colour", desc := "(I)I" } : Jvm.MethodName)), (Jvm.Cond.selects "DerivativeTapeModel" ({ cls := "DerivativeTapeModel", name := "colour", desc := "(I)I" } : Jvm.MethodName) ({ cls := "DerivativeTapeModel", name := "colour", desc := "(I)I" } : Jvm.MethodName))]
theorem ma_wm103_in : ∀ w ∈ ma_wm103, w ∈ ma_W := by
  have h : ∀ q ∈ [(46, (Jvm.Cond.initialized "DerivativeTapeModel")), (712, (Jvm.Cond.instanceMethod ({ cls := "DerivativeTapeModel", name := "colour", desc := "(I)I" } : Jvm.MethodName))), (713, (Jvm.Cond.selects "DerivativeTapeModel" ({ cls := "DerivativeTapeModel", name := "colour", desc := "(I)I" } : Jvm.MethodName) ({ cls := "DerivativeTapeModel", name := "colour", desc := "(I)I" } : Jvm.MethodName)))], lw_tbl[q.1]? = some q.2 ∧ goodWord q.2 = true := by decide +kernel
  intro w hw
  have e : ma_wm103 = ([(46, (Jvm.Cond.initialized "DerivativeTapeModel")), (712, (Jvm.Cond.instanceMethod ({ cls := "DerivativeTapeModel", name := "colour", desc := "(I)I" } : Jvm.MethodName))), (713, (Jvm.Cond.selects "DerivativeTapeModel" ({ cls := "DerivativeTapeModel", name := "colour", desc := "(I)I" } : Jvm.MethodName) ({ cls := "DerivativeTapeModel", name := "colour", desc := "(I)I" } : Jvm.MethodName)))] : List (Nat × Cond)).map (fun q => q.2) := rfl
  rw [e] at hw
  obtain ⟨q, hq, rfl⟩ := List.mem_map.mp hw
  exact ma_W_i (h q hq).1 (h q hq).2
def ma_wm104 : List Cond := [(Jvm.Cond.initialized "DerivativeTapeModel"), (Jvm.Cond.instanceMethod ({ cls := "DerivativeTapeModel", name := "colours", desc := "()I" } : Jvm.MethodName)), (Jvm.Cond.selects "DerivativeTapeModel" ({ cls := "DerivativeTapeModel", name := "colours", desc := "()I" } : Jvm.MethodName) ({ cls := "DerivativeTapeModel", name := "colours", desc := "()I" } : Jvm.MethodName))]
theorem ma_wm104_in : ∀ w ∈ ma_wm104, w ∈ ma_W := by
  have h : ∀ q ∈ [(46, (Jvm.Cond.initialized "DerivativeTapeModel")), (725, (Jvm.Cond.instanceMethod ({ cls := "DerivativeTapeModel", name := "colours", desc := "()I" } : Jvm.MethodName))), (726, (Jvm.Cond.selects "DerivativeTapeModel" ({ cls := "DerivativeTapeModel", name := "colours", desc := "()I" } : Jvm.MethodName) ({ cls := "DerivativeTapeModel", name := "colours", desc := "()I" } : Jvm.MethodName)))], lw_tbl[q.1]? = some q.2 ∧ goodWord q.2 = true := by decide +kernel
  intro w hw
  have e : ma_wm104 = ([(46, (Jvm.Cond.initialized "DerivativeTapeModel")), (725, (Jvm.Cond.instanceMethod ({ cls := "DerivativeTapeModel", name := "colours", desc := "()I" } : Jvm.MethodName))), (726, (Jvm.Cond.selects "DerivativeTapeModel" ({ cls := "DerivativeTapeModel", name := "colours", desc := "()I" } : Jvm.MethodName) ({ cls := "DerivativeTapeModel", name := "colours", desc := "()I" } : Jvm.MethodName)))] : List (Nat × Cond)).map (fun q => q.2) := rfl
  rw [e] at hw
  obtain ⟨q, hq, rfl⟩ := List.mem_map.mp hw
  exact ma_W_i (h q hq).1 (h q hq).2
def ma_wm105 : List Cond := [(Jvm.Cond.initialized "DerivativeTapeModel"), (Jvm.Cond.instanceMethod ({ cls := "DerivativeTapeModel", name := "operandsFolded", desc := "(I)Z" } : Jvm.MethodName)), (Jvm.Cond.selects "DerivativeTapeModel" ⟨"DerivativeTapeModel", "operandsFolded", "(I)Z"⟩ ⟨"DerivativeTapeModel", "operandsFolded", "(I)Z"⟩)]
theorem ma_wm105_in : ∀ w ∈ ma_wm105, w ∈ ma_W := by
  have h : ∀ q ∈ [(46, (Jvm.Cond.initialized "DerivativeTapeModel")), (734, (Jvm.Cond.instanceMethod ({ cls := "DerivativeTapeModel", name := "operandsFolded", desc := "(I)Z" } : Jvm.MethodName))), (35, (Jvm.Cond.selects "DerivativeTapeModel" ⟨"DerivativeTapeModel", "operandsFolded", "(I)Z"⟩ ⟨"DerivativeTapeModel", "operandsFolded", "(I)Z"⟩))], lw_tbl[q.1]? = some q.2 ∧ goodWord q.2 = true := by decide +kernel
  intro w hw
  have e : ma_wm105 = ([(46, (Jvm.Cond.initialized "DerivativeTapeModel")), (734, (Jvm.Cond.instanceMethod ({ cls := "DerivativeTapeModel", name := "operandsFolded", desc := "(I)Z" } : Jvm.MethodName))), (35, (Jvm.Cond.selects "DerivativeTapeModel" ⟨"DerivativeTapeModel", "operandsFolded", "(I)Z"⟩ ⟨"DerivativeTapeModel", "operandsFolded", "(I)Z"⟩))] : List (Nat × Cond)).map (fun q => q.2) := rfl
  rw [e] at hw
  obtain ⟨q, hq, rfl⟩ := List.mem_map.mp hw
  exact ma_W_i (h q hq).1 (h q hq).2
def ma_wm106 : List Cond := [(Jvm.Cond.initialized "DerivativeTapeModel"), (Jvm.Cond.instanceMethod ({ cls := "DerivativeTapeModel", name := "alike", desc := "(II)Z" } : Jvm.MethodName)), (Jvm.Cond.selects "DerivativeTapeModel" ⟨"DerivativeTapeModel", "alike", "(II)Z"⟩ ⟨"DerivativeTapeModel", "alike", "(II)Z"⟩)]
theorem ma_wm106_in : ∀ w ∈ ma_wm106, w ∈ ma_W := by
  have h : ∀ q ∈ [(46, (Jvm.Cond.initialized "DerivativeTapeModel")), (738, (Jvm.Cond.instanceMethod ({ cls := "DerivativeTapeModel", name := "alike", desc := "(II)Z" } : Jvm.MethodName))), (36, (Jvm.Cond.selects "DerivativeTapeModel" ⟨"DerivativeTapeModel", "alike", "(II)Z"⟩ ⟨"DerivativeTapeModel", "alike", "(II)Z"⟩))], lw_tbl[q.1]? = some q.2 ∧ goodWord q.2 = true := by decide +kernel
  intro w hw
  have e : ma_wm106 = ([(46, (Jvm.Cond.initialized "DerivativeTapeModel")), (738, (Jvm.Cond.instanceMethod ({ cls := "DerivativeTapeModel", name := "alike", desc := "(II)Z" } : Jvm.MethodName))), (36, (Jvm.Cond.selects "DerivativeTapeModel" ⟨"DerivativeTapeModel", "alike", "(II)Z"⟩ ⟨"DerivativeTapeModel", "alike", "(II)Z"⟩))] : List (Nat × Cond)).map (fun q => q.2) := rfl
  rw [e] at hw
  obtain ⟨q, hq, rfl⟩ := List.mem_map.mp hw
  exact ma_W_i (h q hq).1 (h q hq).2
def ma_wm107 : List Cond := [(Jvm.Cond.initialized "DerivativeTapeModel"), (Jvm.Cond.instanceMethod ({ cls := "DerivativeTapeModel", name := "size", desc := "()I" } : Jvm.MethodName)), (Jvm.Cond.selects "DerivativeTapeModel" ({ cls := "DerivativeTapeModel", name := "size", desc := "()I" } : Jvm.MethodName) ({ cls := "DerivativeTapeModel", name := "size", desc := "()I" } : Jvm.MethodName))]
theorem ma_wm107_in : ∀ w ∈ ma_wm107, w ∈ ma_W := by
  have h : ∀ q ∈ [(46, (Jvm.Cond.initialized "DerivativeTapeModel")), (729, (Jvm.Cond.instanceMethod ({ cls := "DerivativeTapeModel", name := "size", desc := "()I" } : Jvm.MethodName))), (730, (Jvm.Cond.selects "DerivativeTapeModel" ({ cls := "DerivativeTapeModel", name := "size", desc := "()I" } : Jvm.MethodName) ({ cls := "DerivativeTapeModel", name := "size", desc := "()I" } : Jvm.MethodName)))], lw_tbl[q.1]? = some q.2 ∧ goodWord q.2 = true := by decide +kernel
  intro w hw
  have e : ma_wm107 = ([(46, (Jvm.Cond.initialized "DerivativeTapeModel")), (729, (Jvm.Cond.instanceMethod ({ cls := "DerivativeTapeModel", name := "size", desc := "()I" } : Jvm.MethodName))), (730, (Jvm.Cond.selects "DerivativeTapeModel" ({ cls := "DerivativeTapeModel", name := "size", desc := "()I" } : Jvm.MethodName) ({ cls := "DerivativeTapeModel", name := "size", desc := "()I" } : Jvm.MethodName)))] : List (Nat × Cond)).map (fun q => q.2) := rfl
  rw [e] at hw
  obtain ⟨q, hq, rfl⟩ := List.mem_map.mp hw
  exact ma_W_i (h q hq).1 (h q hq).2
def ma_wm108 : List Cond := [(Jvm.Cond.initialized "DerivativeTapeModel"), (Jvm.Cond.instanceMethod ({ cls := "DerivativeTapeModel", name := "step", desc := "()I" } : Jvm.MethodName)), (Jvm.Cond.selects "DerivativeTapeModel" ⟨"DerivativeTapeModel", "step", "()I"⟩ ⟨"DerivativeTapeModel", "step", "()I"⟩)]
theorem ma_wm108_in : ∀ w ∈ ma_wm108, w ∈ ma_W := by
  have h : ∀ q ∈ [(46, (Jvm.Cond.initialized "DerivativeTapeModel")), (746, (Jvm.Cond.instanceMethod ({ cls := "DerivativeTapeModel", name := "step", desc := "()I" } : Jvm.MethodName))), (37, (Jvm.Cond.selects "DerivativeTapeModel" ⟨"DerivativeTapeModel", "step", "()I"⟩ ⟨"DerivativeTapeModel", "step", "()I"⟩))], lw_tbl[q.1]? = some q.2 ∧ goodWord q.2 = true := by decide +kernel
  intro w hw
  have e : ma_wm108 = ([(46, (Jvm.Cond.initialized "DerivativeTapeModel")), (746, (Jvm.Cond.instanceMethod ({ cls := "DerivativeTapeModel", name := "step", desc := "()I" } : Jvm.MethodName))), (37, (Jvm.Cond.selects "DerivativeTapeModel" ⟨"DerivativeTapeModel", "step", "()I"⟩ ⟨"DerivativeTapeModel", "step", "()I"⟩))] : List (Nat × Cond)).map (fun q => q.2) := rfl
  rw [e] at hw
  obtain ⟨q, hq, rfl⟩ := List.mem_map.mp hw
  exact ma_W_i (h q hq).1 (h q hq).2
def ma_wm109 : List Cond := [(Jvm.Cond.initialized "DerivativeTapeModel"), (Jvm.Cond.instanceMethod ({ cls := "DerivativeTapeModel", name := "steps", desc := "(II)I" } : Jvm.MethodName)), (Jvm.Cond.selects "DerivativeTapeModel" ⟨"DerivativeTapeModel", "steps", "(II)I"⟩ ⟨"DerivativeTapeModel", "steps", "(II)I"⟩)]
theorem ma_wm109_in : ∀ w ∈ ma_wm109, w ∈ ma_W := by
  have h : ∀ q ∈ [(46, (Jvm.Cond.initialized "DerivativeTapeModel")), (750, (Jvm.Cond.instanceMethod ({ cls := "DerivativeTapeModel", name := "steps", desc := "(II)I" } : Jvm.MethodName))), (38, (Jvm.Cond.selects "DerivativeTapeModel" ⟨"DerivativeTapeModel", "steps", "(II)I"⟩ ⟨"DerivativeTapeModel", "steps", "(II)I"⟩))], lw_tbl[q.1]? = some q.2 ∧ goodWord q.2 = true := by decide +kernel
  intro w hw
  have e : ma_wm109 = ([(46, (Jvm.Cond.initialized "DerivativeTapeModel")), (750, (Jvm.Cond.instanceMethod ({ cls := "DerivativeTapeModel", name := "steps", desc := "(II)I" } : Jvm.MethodName))), (38, (Jvm.Cond.selects "DerivativeTapeModel" ⟨"DerivativeTapeModel", "steps", "(II)I"⟩ ⟨"DerivativeTapeModel", "steps", "(II)I"⟩))] : List (Nat × Cond)).map (fun q => q.2) := rfl
  rw [e] at hw
  obtain ⟨q, hq, rfl⟩ := List.mem_map.mp hw
  exact ma_W_i (h q hq).1 (h q hq).2
def ma_wm110 : List Cond := [(Jvm.Cond.initialized "DerivativeTapeModel"), (Jvm.Cond.instanceMethod ({ cls := "DerivativeTapeModel", name := "march", desc := "(II)I" } : Jvm.MethodName)), (Jvm.Cond.selects "DerivativeTapeModel" ({ cls := "DerivativeTapeModel", name := "march", desc := "(II)I" } : Jvm.MethodName) ({ cls := "DerivativeTapeModel", name := "march", desc := "(II)I" } : Jvm.MethodName))]
theorem ma_wm110_in : ∀ w ∈ ma_wm110, w ∈ ma_W := by
  have h : ∀ q ∈ [(46, (Jvm.Cond.initialized "DerivativeTapeModel")), (741, (Jvm.Cond.instanceMethod ({ cls := "DerivativeTapeModel", name := "march", desc := "(II)I" } : Jvm.MethodName))), (742, (Jvm.Cond.selects "DerivativeTapeModel" ({ cls := "DerivativeTapeModel", name := "march", desc := "(II)I" } : Jvm.MethodName) ({ cls := "DerivativeTapeModel", name := "march", desc := "(II)I" } : Jvm.MethodName)))], lw_tbl[q.1]? = some q.2 ∧ goodWord q.2 = true := by decide +kernel
  intro w hw
  have e : ma_wm110 = ([(46, (Jvm.Cond.initialized "DerivativeTapeModel")), (741, (Jvm.Cond.instanceMethod ({ cls := "DerivativeTapeModel", name := "march", desc := "(II)I" } : Jvm.MethodName))), (742, (Jvm.Cond.selects "DerivativeTapeModel" ({ cls := "DerivativeTapeModel", name := "march", desc := "(II)I" } : Jvm.MethodName) ({ cls := "DerivativeTapeModel", name := "march", desc := "(II)I" } : Jvm.MethodName)))] : List (Nat × Cond)).map (fun q => q.2) := rfl
  rw [e] at hw
  obtain ⟨q, hq, rfl⟩ := List.mem_map.mp hw
  exact ma_W_i (h q hq).1 (h q hq).2
def ma_wm111 : List Cond := [(Jvm.Cond.initialized "DerivativeTapeModel"), (Jvm.Cond.instanceMethod ({ cls := "DerivativeTapeModel", name := "arrived", desc := "(I)I" } : Jvm.MethodName)), (Jvm.Cond.selects "DerivativeTapeModel" ({ cls := "DerivativeTapeModel", name := "arrived", desc := "(I)I" } : Jvm.MethodName) ({ cls := "DerivativeTapeModel", name := "arrived", desc := "(I)I" } : Jvm.MethodName))]
theorem ma_wm111_in : ∀ w ∈ ma_wm111, w ∈ ma_W := by
  have h : ∀ q ∈ [(46, (Jvm.Cond.initialized "DerivativeTapeModel")), (753, (Jvm.Cond.instanceMethod ({ cls := "DerivativeTapeModel", name := "arrived", desc := "(I)I" } : Jvm.MethodName))), (754, (Jvm.Cond.selects "DerivativeTapeModel" ({ cls := "DerivativeTapeModel", name := "arrived", desc := "(I)I" } : Jvm.MethodName) ({ cls := "DerivativeTapeModel", name := "arrived", desc := "(I)I" } : Jvm.MethodName)))], lw_tbl[q.1]? = some q.2 ∧ goodWord q.2 = true := by decide +kernel
  intro w hw
  have e : ma_wm111 = ([(46, (Jvm.Cond.initialized "DerivativeTapeModel")), (753, (Jvm.Cond.instanceMethod ({ cls := "DerivativeTapeModel", name := "arrived", desc := "(I)I" } : Jvm.MethodName))), (754, (Jvm.Cond.selects "DerivativeTapeModel" ({ cls := "DerivativeTapeModel", name := "arrived", desc := "(I)I" } : Jvm.MethodName) ({ cls := "DerivativeTapeModel", name := "arrived", desc := "(I)I" } : Jvm.MethodName)))] : List (Nat × Cond)).map (fun q => q.2) := rfl
  rw [e] at hw
  obtain ⟨q, hq, rfl⟩ := List.mem_map.mp hw
  exact ma_W_i (h q hq).1 (h q hq).2
def ma_wm112 : List Cond := [(Jvm.Cond.initialized "DerivativeTapeModel"), (Jvm.Cond.instanceMethod ({ cls := "DerivativeTapeModel", name := "adjoint", desc := "(I)I" } : Jvm.MethodName)), (Jvm.Cond.selects "DerivativeTapeModel" ({ cls := "DerivativeTapeModel", name := "adjoint", desc := "(I)I" } : Jvm.MethodName) ({ cls := "DerivativeTapeModel", name := "adjoint", desc := "(I)I" } : Jvm.MethodName))]
theorem ma_wm112_in : ∀ w ∈ ma_wm112, w ∈ ma_W := by
  have h : ∀ q ∈ [(46, (Jvm.Cond.initialized "DerivativeTapeModel")), (757, (Jvm.Cond.instanceMethod ({ cls := "DerivativeTapeModel", name := "adjoint", desc := "(I)I" } : Jvm.MethodName))), (758, (Jvm.Cond.selects "DerivativeTapeModel" ({ cls := "DerivativeTapeModel", name := "adjoint", desc := "(I)I" } : Jvm.MethodName) ({ cls := "DerivativeTapeModel", name := "adjoint", desc := "(I)I" } : Jvm.MethodName)))], lw_tbl[q.1]? = some q.2 ∧ goodWord q.2 = true := by decide +kernel
  intro w hw
  have e : ma_wm112 = ([(46, (Jvm.Cond.initialized "DerivativeTapeModel")), (757, (Jvm.Cond.instanceMethod ({ cls := "DerivativeTapeModel", name := "adjoint", desc := "(I)I" } : Jvm.MethodName))), (758, (Jvm.Cond.selects "DerivativeTapeModel" ({ cls := "DerivativeTapeModel", name := "adjoint", desc := "(I)I" } : Jvm.MethodName) ({ cls := "DerivativeTapeModel", name := "adjoint", desc := "(I)I" } : Jvm.MethodName)))] : List (Nat × Cond)).map (fun q => q.2) := rfl
  rw [e] at hw
  obtain ⟨q, hq, rfl⟩ := List.mem_map.mp hw
  exact ma_W_i (h q hq).1 (h q hq).2
def ma_wm113 : List Cond := [(Jvm.Cond.initialized "DerivativeTapeLaw")]
theorem ma_wm113_in : ∀ w ∈ ma_wm113, w ∈ ma_W := by
  have h : ∀ q ∈ [(39, (Jvm.Cond.initialized "DerivativeTapeLaw"))], lw_tbl[q.1]? = some q.2 ∧ goodWord q.2 = true := by decide +kernel
  intro w hw
  have e : ma_wm113 = ([(39, (Jvm.Cond.initialized "DerivativeTapeLaw"))] : List (Nat × Cond)).map (fun q => q.2) := rfl
  rw [e] at hw
  obtain ⟨q, hq, rfl⟩ := List.mem_map.mp hw
  exact ma_W_i (h q hq).1 (h q hq).2
def ma_wm114 : List Cond := [(Jvm.Cond.initialized "java/util/Arrays"), (Jvm.Cond.static ({ cls := "java/util/Arrays", name := "fill", desc := "([II)V" } : Jvm.MethodName))]
theorem ma_wm114_in : ∀ w ∈ ma_wm114, w ∈ ma_W := by
  have h : ∀ q ∈ [(49, (Jvm.Cond.initialized "java/util/Arrays")), (336, (Jvm.Cond.static ({ cls := "java/util/Arrays", name := "fill", desc := "([II)V" } : Jvm.MethodName)))], lw_tbl[q.1]? = some q.2 ∧ goodWord q.2 = true := by decide +kernel
  intro w hw
  have e : ma_wm114 = ([(49, (Jvm.Cond.initialized "java/util/Arrays")), (336, (Jvm.Cond.static ({ cls := "java/util/Arrays", name := "fill", desc := "([II)V" } : Jvm.MethodName)))] : List (Nat × Cond)).map (fun q => q.2) := rfl
  rw [e] at hw
  obtain ⟨q, hq, rfl⟩ := List.mem_map.mp hw
  exact ma_W_i (h q hq).1 (h q hq).2
def ma_wo : Nat → (List Cond) := fun k => match k with
  | 0 => ma_wo0
  | 1 => ma_wo1
  | 2 => ma_wo2
  | 3 => ma_wo3
  | 4 => ma_wo4
  | 5 => ma_wo5
  | 6 => ma_wo6
  | 7 => ma_wo7
  | 8 => ma_wo8
  | 9 => ma_wo9
  | _ => []
def ma_wm : Nat → (List Cond) := fun k => match k with
  | 0 => ma_wm0
  | 1 => ma_wm1
  | 2 => ma_wm2
  | 3 => ma_wm3
  | 4 => ma_wm4
  | 5 => ma_wm5
  | 6 => ma_wm6
  | 7 => ma_wm7
  | 8 => ma_wm8
  | 9 => ma_wm9
  | 10 => ma_wm10
  | 11 => ma_wm11
  | 12 => ma_wm12
  | 13 => ma_wm13
  | 14 => ma_wm14
  | 15 => ma_wm15
  | 16 => ma_wm16
  | 17 => ma_wm17
  | 18 => ma_wm18
  | 19 => ma_wm19
  | 20 => ma_wm20
  | 21 => ma_wm21
  | 22 => ma_wm22
  | 23 => ma_wm23
  | 24 => ma_wm24
  | 25 => ma_wm25
  | 26 => ma_wm26
  | 27 => ma_wm27
  | 28 => ma_wm28
  | 29 => ma_wm29
  | 30 => ma_wm30
  | 31 => ma_wm31
  | 32 => ma_wm32
  | 33 => ma_wm33
  | 34 => ma_wm34
  | 35 => ma_wm35
  | 36 => ma_wm36
  | 37 => ma_wm37
  | 38 => ma_wm38
  | 39 => ma_wm39
  | 40 => ma_wm40
  | 41 => ma_wm41
  | 42 => ma_wm42
  | 43 => ma_wm43
  | 44 => ma_wm44
  | 45 => ma_wm45
  | 46 => ma_wm46
  | 47 => ma_wm47
  | 48 => ma_wm48
  | 49 => ma_wm49
  | 50 => ma_wm50
  | 51 => ma_wm51
  | 52 => ma_wm52
  | 53 => ma_wm53
  | 54 => ma_wm54
  | 55 => ma_wm55
  | 56 => ma_wm56
  | 57 => ma_wm57
  | 58 => ma_wm58
  | 59 => ma_wm59
  | 60 => ma_wm60
  | 61 => ma_wm61
  | 62 => ma_wm62
  | 63 => ma_wm63
  | 64 => ma_wm64
  | 65 => ma_wm65
  | 66 => ma_wm66
  | 67 => ma_wm67
  | 68 => ma_wm68
  | 69 => ma_wm69
  | 70 => ma_wm70
  | 71 => ma_wm71
  | 72 => ma_wm72
  | 73 => ma_wm73
  | 74 => ma_wm74
  | 75 => ma_wm75
  | 76 => ma_wm76
  | 77 => ma_wm77
  | 78 => ma_wm78
  | 79 => ma_wm79
  | 80 => ma_wm80
  | 81 => ma_wm81
  | 82 => ma_wm82
  | 83 => ma_wm83
  | 84 => ma_wm84
  | 85 => ma_wm85
  | 86 => ma_wm86
  | 87 => ma_wm87
  | 88 => ma_wm88
  | 89 => ma_wm89
  | 90 => ma_wm90
  | 91 => ma_wm91
  | 92 => ma_wm92
  | 93 => ma_wm93
  | 94 => ma_wm94
  | 95 => ma_wm95
  | 96 => ma_wm96
  | 97 => ma_wm97
  | 98 => ma_wm98
  | 99 => ma_wm99
  | 100 => ma_wm100
  | 101 => ma_wm101
  | 102 => ma_wm102
  | 103 => ma_wm103
  | 104 => ma_wm104
  | 105 => ma_wm105
  | 106 => ma_wm106
  | 107 => ma_wm107
  | 108 => ma_wm108
  | 109 => ma_wm109
  | 110 => ma_wm110
  | 111 => ma_wm111
  | 112 => ma_wm112
  | 113 => ma_wm113
  | 114 => ma_wm114
  | _ => []
def ma_k : Nat → Nat := fun k => match k with
  | 0 => 7
  | 1 => 7
  | 2 => 7
  | 3 => 1
  | 4 => 1
  | 5 => 1
  | 6 => 1
  | 7 => 1
  | 8 => 1
  | 9 => 1
  | 10 => 1
  | 11 => 1
  | 12 => 1
  | 13 => 2
  | 14 => 2
  | 15 => 2
  | 16 => 2
  | 17 => 2
  | 18 => 2
  | 19 => 2
  | 20 => 2
  | 21 => 2
  | 22 => 2
  | 23 => 2
  | 24 => 3
  | 25 => 3
  | 26 => 3
  | 27 => 3
  | 28 => 3
  | 29 => 3
  | 30 => 4
  | 31 => 4
  | 32 => 4
  | 33 => 4
  | 34 => 4
  | 35 => 4
  | 36 => 5
  | 37 => 5
  | 38 => 5
  | 39 => 5
  | 40 => 0
  | 41 => 0
  | 42 => 0
  | 43 => 0
  | 44 => 0
  | 45 => 0
  | 46 => 0
  | 47 => 0
  | 48 => 0
  | 49 => 0
  | 50 => 0
  | 51 => 0
  | 52 => 0
  | 53 => 0
  | 54 => 0
  | 55 => 0
  | 56 => 0
  | 57 => 0
  | 58 => 0
  | 59 => 0
  | 60 => 0
  | 61 => 0
  | 62 => 0
  | 63 => 0
  | 64 => 0
  | 65 => 0
  | 66 => 0
  | 67 => 0
  | 68 => 0
  | 69 => 0
  | 70 => 0
  | 71 => 0
  | 72 => 6
  | 73 => 6
  | 74 => 6
  | 75 => 6
  | 76 => 6
  | 77 => 6
  | 78 => 6
  | 79 => 6
  | 80 => 6
  | 81 => 6
  | 82 => 6
  | 83 => 6
  | 84 => 6
  | 85 => 6
  | 86 => 6
  | 87 => 6
  | 88 => 6
  | 89 => 6
  | 90 => 6
  | 91 => 6
  | 92 => 6
  | 93 => 6
  | 94 => 6
  | 95 => 6
  | 96 => 6
  | 97 => 6
  | 98 => 6
  | 99 => 6
  | 100 => 6
  | 101 => 6
  | 102 => 6
  | 103 => 6
  | 104 => 6
  | 105 => 6
  | 106 => 6
  | 107 => 6
  | 108 => 6
  | 109 => 6
  | 110 => 6
  | 111 => 6
  | 112 => 6
  | 113 => 8
  | 114 => 9
  | _ => 0
theorem ma_wo_in (k : Nat) : ∀ w ∈ ma_wo k, w ∈ ma_W := by
  unfold ma_wo
  split
  · exact ma_wo0_in
  · exact ma_wo1_in
  · exact ma_wo2_in
  · exact ma_wo3_in
  · exact ma_wo4_in
  · exact ma_wo5_in
  · exact ma_wo6_in
  · exact ma_wo7_in
  · exact ma_wo8_in
  · exact ma_wo9_in
  · intro w hw; cases hw
theorem ma_wm_in (k : Nat) : ∀ w ∈ ma_wm k, w ∈ ma_W := by
  unfold ma_wm
  split
  · exact ma_wm0_in
  · exact ma_wm1_in
  · exact ma_wm2_in
  · exact ma_wm3_in
  · exact ma_wm4_in
  · exact ma_wm5_in
  · exact ma_wm6_in
  · exact ma_wm7_in
  · exact ma_wm8_in
  · exact ma_wm9_in
  · exact ma_wm10_in
  · exact ma_wm11_in
  · exact ma_wm12_in
  · exact ma_wm13_in
  · exact ma_wm14_in
  · exact ma_wm15_in
  · exact ma_wm16_in
  · exact ma_wm17_in
  · exact ma_wm18_in
  · exact ma_wm19_in
  · exact ma_wm20_in
  · exact ma_wm21_in
  · exact ma_wm22_in
  · exact ma_wm23_in
  · exact ma_wm24_in
  · exact ma_wm25_in
  · exact ma_wm26_in
  · exact ma_wm27_in
  · exact ma_wm28_in
  · exact ma_wm29_in
  · exact ma_wm30_in
  · exact ma_wm31_in
  · exact ma_wm32_in
  · exact ma_wm33_in
  · exact ma_wm34_in
  · exact ma_wm35_in
  · exact ma_wm36_in
  · exact ma_wm37_in
  · exact ma_wm38_in
  · exact ma_wm39_in
  · exact ma_wm40_in
  · exact ma_wm41_in
  · exact ma_wm42_in
  · exact ma_wm43_in
  · exact ma_wm44_in
  · exact ma_wm45_in
  · exact ma_wm46_in
  · exact ma_wm47_in
  · exact ma_wm48_in
  · exact ma_wm49_in
  · exact ma_wm50_in
  · exact ma_wm51_in
  · exact ma_wm52_in
  · exact ma_wm53_in
  · exact ma_wm54_in
  · exact ma_wm55_in
  · exact ma_wm56_in
  · exact ma_wm57_in
  · exact ma_wm58_in
  · exact ma_wm59_in
  · exact ma_wm60_in
  · exact ma_wm61_in
  · exact ma_wm62_in
  · exact ma_wm63_in
  · exact ma_wm64_in
  · exact ma_wm65_in
  · exact ma_wm66_in
  · exact ma_wm67_in
  · exact ma_wm68_in
  · exact ma_wm69_in
  · exact ma_wm70_in
  · exact ma_wm71_in
  · exact ma_wm72_in
  · exact ma_wm73_in
  · exact ma_wm74_in
  · exact ma_wm75_in
  · exact ma_wm76_in
  · exact ma_wm77_in
  · exact ma_wm78_in
  · exact ma_wm79_in
  · exact ma_wm80_in
  · exact ma_wm81_in
  · exact ma_wm82_in
  · exact ma_wm83_in
  · exact ma_wm84_in
  · exact ma_wm85_in
  · exact ma_wm86_in
  · exact ma_wm87_in
  · exact ma_wm88_in
  · exact ma_wm89_in
  · exact ma_wm90_in
  · exact ma_wm91_in
  · exact ma_wm92_in
  · exact ma_wm93_in
  · exact ma_wm94_in
  · exact ma_wm95_in
  · exact ma_wm96_in
  · exact ma_wm97_in
  · exact ma_wm98_in
  · exact ma_wm99_in
  · exact ma_wm100_in
  · exact ma_wm101_in
  · exact ma_wm102_in
  · exact ma_wm103_in
  · exact ma_wm104_in
  · exact ma_wm105_in
  · exact ma_wm106_in
  · exact ma_wm107_in
  · exact ma_wm108_in
  · exact ma_wm109_in
  · exact ma_wm110_in
  · exact ma_wm111_in
  · exact ma_wm112_in
  · exact ma_wm113_in
  · exact ma_wm114_in
  · intro w hw; cases hw
