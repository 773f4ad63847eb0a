theorem kc_1_10 : Cond.methodLink RX5 1 objectInit ∈ wsL_law := kin_1 (List.mem_of_getElem? (i := 10) rfl)
theorem kc_1_11 : Cond.instanceMethod objectInit ∈ wsL_law := kin_1 (List.mem_of_getElem? (i := 11) rfl)
theorem kc_1_12 : Cond.code objectInit ⟨#[0xb1]⟩ 1 none ∈ wsL_law := kin_1 (List.mem_of_getElem? (i := 12) rfl)
theorem kc_1_13 : Cond.classLink RX5 7 RX4 ∈ wsL_law := kin_1 (List.mem_of_getElem? (i := 13) rfl)
theorem kc_1_14 : Cond.instantiable RX4 9 ∈ wsL_law := kin_1 (List.mem_of_getElem? (i := 14) rfl)
theorem kc_1_15 : Cond.initialized RX4 ∈ wsL_law := kin_1 (List.mem_of_getElem? (i := 15) rfl)
theorem kc_1_16 : Cond.fieldLink RX5 10 "TowThatJerks" "now" "LTowThatJerks$Tow;" ∈ wsL_law := kin_1 (List.mem_of_getElem? (i := 16) rfl)
theorem kc_1_17 : Cond.fieldLink RX5 16 "TowThatJerks" "image" "LTowThatJerks$Tow;" ∈ wsL_law := kin_1 (List.mem_of_getElem? (i := 17) rfl)
theorem kc_1_18 : Cond.fieldLink RX5 19 "TowThatJerks" "mind" "LTowThatJerks$Tow;" ∈ wsL_law := kin_1 (List.mem_of_getElem? (i := 18) rfl)
theorem kc_1_19 : Cond.classLink RX5 22 RX0 ∈ wsL_law := kin_1 (List.mem_of_getElem? (i := 19) rfl)
theorem kc_1_20 : Cond.instantiable RX0 6 ∈ wsL_law := kin_1 (List.mem_of_getElem? (i := 20) rfl)
theorem kc_1_21 : Cond.initialized RX0 ∈ wsL_law := kin_1 (List.mem_of_getElem? (i := 21) rfl)
theorem kc_1_22 : Cond.fieldLink RX5 25 "TowThatJerks" "line" "LTowThatJerks$Line;" ∈ wsL_law := kin_1 (List.mem_of_getElem? (i := 22) rfl)
theorem kc_1_23 : Cond.classLink RX5 29 RX1 ∈ wsL_law := kin_1 (List.mem_of_getElem? (i := 23) rfl)
theorem kc_2_0 : Cond.instantiable RX1 9 ∈ wsL_law := kin_2 (List.mem_of_getElem? (i := 0) rfl)
theorem kc_2_1 : Cond.initialized RX1 ∈ wsL_law := kin_2 (List.mem_of_getElem? (i := 1) rfl)
theorem kc_2_2 : Cond.fieldLink RX5 32 "TowThatJerks" "spare" "LTowThatJerks$Piece;" ∈ wsL_law := kin_2 (List.mem_of_getElem? (i := 2) rfl)
theorem kc_2_3 : Cond.classLink RX5 36 RX2 ∈ wsL_law := kin_2 (List.mem_of_getElem? (i := 3) rfl)
theorem kc_2_4 : Cond.instantiable RX2 3 ∈ wsL_law := kin_2 (List.mem_of_getElem? (i := 4) rfl)
theorem kc_2_5 : Cond.initialized RX2 ∈ wsL_law := kin_2 (List.mem_of_getElem? (i := 5) rfl)
theorem kc_2_6 : Cond.fieldLink RX5 39 "TowThatJerks" "reader" "LTowThatJerks$Reader;" ∈ wsL_law := kin_2 (List.mem_of_getElem? (i := 6) rfl)
theorem kc_2_7 : Cond.classLink RX5 43 RX3 ∈ wsL_law := kin_2 (List.mem_of_getElem? (i := 7) rfl)
theorem kc_2_8 : Cond.fieldLink RX5 45 "TowThatJerks" "shelves" "[LTowThatJerks$Shelf;" ∈ wsL_law := kin_2 (List.mem_of_getElem? (i := 8) rfl)
theorem kc_2_9 : Cond.fieldLink RX5 49 "TowThatJerks" "imageTaken" "Z" ∈ wsL_law := kin_2 (List.mem_of_getElem? (i := 9) rfl)
theorem kc_2_10 : Cond.instantiable RX3 5 ∈ wsL_law := kin_2 (List.mem_of_getElem? (i := 10) rfl)
theorem kc_2_11 : Cond.initialized RX3 ∈ wsL_law := kin_2 (List.mem_of_getElem? (i := 11) rfl)
theorem kc_2_12 : Cond.instanceMethod yX4_init ∈ wsL_law := kin_2 (List.mem_of_getElem? (i := 12) rfl)
theorem kc_2_13 : Cond.code yX4_init cX4_init 2 none ∈ wsL_law := kin_2 (List.mem_of_getElem? (i := 13) rfl)
theorem kc_2_14 : Cond.methodLink RX4 3 objectInit ∈ wsL_law := kin_2 (List.mem_of_getElem? (i := 14) rfl)
theorem kc_2_15 : Cond.classLink RX4 9 RX1 ∈ wsL_law := kin_2 (List.mem_of_getElem? (i := 15) rfl)
theorem kc_2_16 : Cond.fieldLink RX4 11 "TowThatJerks$Tow" "pieces" "[LTowThatJerks$Piece;" ∈ wsL_law := kin_2 (List.mem_of_getElem? (i := 16) rfl)
theorem kc_2_17 : Cond.fieldLink RX4 17 "TowThatJerks$Tow" "count" "I" ∈ wsL_law := kin_2 (List.mem_of_getElem? (i := 17) rfl)
theorem kc_2_18 : Cond.methodLink RX4 25 ⟨"[I", "clone", "()Ljava/lang/Object;"⟩ ∈ wsL_law := kin_2 (List.mem_of_getElem? (i := 18) rfl)
theorem kc_2_19 : Cond.sameMethod "[I" "java/lang/Object" "clone" "()Ljava/lang/Object;" ∈ wsL_law := kin_2 (List.mem_of_getElem? (i := 19) rfl)
theorem kc_2_20 : Cond.native ⟨"java/lang/Object", "clone", "()Ljava/lang/Object;"⟩ ∈ wsL_law := kin_2 (List.mem_of_getElem? (i := 20) rfl)
theorem kc_2_21 : Cond.instanceMethod ⟨"java/lang/Object", "clone", "()Ljava/lang/Object;"⟩ ∈ wsL_law := kin_2 (List.mem_of_getElem? (i := 21) rfl)
theorem kc_2_22 : Cond.selects "[I" ⟨"[I", "clone", "()Ljava/lang/Object;"⟩ ⟨"java/lang/Object", "clone", "()Ljava/lang/Object;"⟩ ∈ wsL_law := kin_2 (List.mem_of_getElem? (i := 22) rfl)
theorem kc_2_23 : Cond.classLink RX4 26 "[I" ∈ wsL_law := kin_2 (List.mem_of_getElem? (i := 23) rfl)
theorem kc_3_0 : Cond.fieldLink RX4 30 "TowThatJerks$Tow" "settings" "[I" ∈ wsL_law := kin_3 (List.mem_of_getElem? (i := 0) rfl)
theorem kc_3_1 : Cond.fieldLink RX4 33 "TowThatJerks$Tow" "angle" "I" ∈ wsL_law := kin_3 (List.mem_of_getElem? (i := 1) rfl)
theorem kc_3_2 : Cond.fieldLink RX4 36 "TowThatJerks$Tow" "swing" "I" ∈ wsL_law := kin_3 (List.mem_of_getElem? (i := 2) rfl)
theorem kc_3_3 : Cond.fieldLink RX4 39 "TowThatJerks$Tow" "number" "I" ∈ wsL_law := kin_3 (List.mem_of_getElem? (i := 3) rfl)
theorem kc_3_4 : Cond.fieldLink RX4 42 "TowThatJerks$Tow" "jerks" "I" ∈ wsL_law := kin_3 (List.mem_of_getElem? (i := 4) rfl)
theorem kc_3_5 : Cond.fieldLink RX4 45 "TowThatJerks$Tow" "parted" "I" ∈ wsL_law := kin_3 (List.mem_of_getElem? (i := 5) rfl)
theorem kc_3_6 : Cond.fieldLink RX4 48 "TowThatJerks$Tow" "partingPull" "I" ∈ wsL_law := kin_3 (List.mem_of_getElem? (i := 6) rfl)
theorem kc_3_7 : Cond.instanceMethod yX1_init ∈ wsL_law := kin_3 (List.mem_of_getElem? (i := 7) rfl)
theorem kc_3_8 : Cond.code yX1_init cX1_init 1 none ∈ wsL_law := kin_3 (List.mem_of_getElem? (i := 8) rfl)
theorem kc_3_9 : Cond.methodLink RX1 3 objectInit ∈ wsL_law := kin_3 (List.mem_of_getElem? (i := 9) rfl)
theorem kc_3_10 : Cond.fieldLink RX1 11 "TowThatJerks$Piece" "kind" "I" ∈ wsL_law := kin_3 (List.mem_of_getElem? (i := 10) rfl)
theorem kc_3_11 : Cond.fieldLink RX1 15 "TowThatJerks$Piece" "figure" "I" ∈ wsL_law := kin_3 (List.mem_of_getElem? (i := 11) rfl)
theorem kc_3_12 : Cond.fieldLink RX1 18 "TowThatJerks$Piece" "fathoms" "I" ∈ wsL_law := kin_3 (List.mem_of_getElem? (i := 12) rfl)
theorem kc_3_13 : Cond.fieldLink RX1 21 "TowThatJerks$Piece" "number" "I" ∈ wsL_law := kin_3 (List.mem_of_getElem? (i := 13) rfl)
theorem kc_3_14 : Cond.fieldLink RX1 24 "TowThatJerks$Piece" "hurt" "I" ∈ wsL_law := kin_3 (List.mem_of_getElem? (i := 14) rfl)
theorem kc_3_15 : Cond.fieldLink RX1 27 "TowThatJerks$Piece" "heft" "I" ∈ wsL_law := kin_3 (List.mem_of_getElem? (i := 15) rfl)
theorem kc_3_16 : Cond.fieldLink RX1 30 "TowThatJerks$Piece" "give" "I" ∈ wsL_law := kin_3 (List.mem_of_getElem? (i := 16) rfl)
theorem kc_3_17 : Cond.fieldLink RX1 33 "TowThatJerks$Piece" "strength" "I" ∈ wsL_law := kin_3 (List.mem_of_getElem? (i := 17) rfl)
theorem kc_3_18 : Cond.fieldLink RX1 36 "TowThatJerks$Piece" "wear" "I" ∈ wsL_law := kin_3 (List.mem_of_getElem? (i := 18) rfl)
theorem kc_3_19 : Cond.instanceMethod yX0_init ∈ wsL_law := kin_3 (List.mem_of_getElem? (i := 19) rfl)
theorem kc_3_20 : Cond.code yX0_init cX0_init 1 none ∈ wsL_law := kin_3 (List.mem_of_getElem? (i := 20) rfl)
theorem kc_3_21 : Cond.methodLink RX0 3 objectInit ∈ wsL_law := kin_3 (List.mem_of_getElem? (i := 21) rfl)
theorem kc_3_22 : Cond.fieldLink RX0 9 "TowThatJerks$Line" "fathoms" "I" ∈ wsL_law := kin_3 (List.mem_of_getElem? (i := 22) rfl)
theorem kc_3_23 : Cond.fieldLink RX0 15 "TowThatJerks$Line" "heft" "I" ∈ wsL_law := kin_3 (List.mem_of_getElem? (i := 23) rfl)
theorem kc_4_0 : Cond.fieldLink RX0 18 "TowThatJerks$Line" "hundredthsOfGive" "I" ∈ wsL_law := kin_4 (List.mem_of_getElem? (i := 0) rfl)
theorem kc_4_1 : Cond.fieldLink RX0 21 "TowThatJerks$Line" "height" "I" ∈ wsL_law := kin_4 (List.mem_of_getElem? (i := 1) rfl)
theorem kc_4_2 : Cond.fieldLink RX0 24 "TowThatJerks$Line" "length" "I" ∈ wsL_law := kin_4 (List.mem_of_getElem? (i := 2) rfl)
theorem kc_4_3 : Cond.fieldLink RX0 27 "TowThatJerks$Line" "pace" "I" ∈ wsL_law := kin_4 (List.mem_of_getElem? (i := 3) rfl)
theorem kc_4_4 : Cond.instanceMethod yX2_init ∈ wsL_law := kin_4 (List.mem_of_getElem? (i := 4) rfl)
theorem kc_4_5 : Cond.code yX2_init cX2_init 1 none ∈ wsL_law := kin_4 (List.mem_of_getElem? (i := 5) rfl)
theorem kc_4_6 : Cond.methodLink RX2 3 objectInit ∈ wsL_law := kin_4 (List.mem_of_getElem? (i := 6) rfl)
theorem kc_4_7 : Cond.fieldLink RX2 9 "TowThatJerks$Reader" "place" "I" ∈ wsL_law := kin_4 (List.mem_of_getElem? (i := 7) rfl)
theorem kc_4_8 : Cond.arrayClass .int ∈ wsL_law := kin_4 (List.mem_of_getElem? (i := 8) rfl)
theorem kc_4_9 : Cond.fieldLink RX2 15 "TowThatJerks$Reader" "numbers" "[I" ∈ wsL_law := kin_4 (List.mem_of_getElem? (i := 9) rfl)
theorem kc_4_10 : Cond.fieldLink RX2 19 "TowThatJerks$Reader" "found" "I" ∈ wsL_law := kin_4 (List.mem_of_getElem? (i := 10) rfl)
theorem kc_4_11 : Cond.instanceMethod yX3_init ∈ wsL_law := kin_4 (List.mem_of_getElem? (i := 11) rfl)
theorem kc_4_12 : Cond.code yX3_init cX3_init 1 none ∈ wsL_law := kin_4 (List.mem_of_getElem? (i := 12) rfl)
theorem kc_4_13 : Cond.methodLink RX3 3 objectInit ∈ wsL_law := kin_4 (List.mem_of_getElem? (i := 13) rfl)
theorem kc_4_14 : Cond.fieldLink RX3 11 "TowThatJerks$Shelf" "holding" "I" ∈ wsL_law := kin_4 (List.mem_of_getElem? (i := 14) rfl)
theorem kc_4_15 : Cond.classLink RX3 15 RX1 ∈ wsL_law := kin_4 (List.mem_of_getElem? (i := 15) rfl)
theorem kc_4_16 : Cond.fieldLink RX3 18 "TowThatJerks$Shelf" "piece" "LTowThatJerks$Piece;" ∈ wsL_law := kin_4 (List.mem_of_getElem? (i := 16) rfl)
theorem kc_4_17 : Cond.fieldLink RX3 22 "TowThatJerks$Shelf" "sort" "I" ∈ wsL_law := kin_4 (List.mem_of_getElem? (i := 17) rfl)
theorem kc_4_18 : Cond.fieldLink RX3 25 "TowThatJerks$Shelf" "size" "I" ∈ wsL_law := kin_4 (List.mem_of_getElem? (i := 18) rfl)
theorem kc_4_19 : Cond.fieldLink RX3 28 "TowThatJerks$Shelf" "elements" "[I" ∈ wsL_law := kin_4 (List.mem_of_getElem? (i := 19) rfl)
theorem kc_4_23 : Cond.methodLink RX6 1 objectInit ∈ wsL_law := kin_4 (List.mem_of_getElem? (i := 23) rfl)
theorem kc_5_0 : Cond.fieldLink RX6 9 "TowThatJerksModel" "s" "[I" ∈ wsL_law := kin_5 (List.mem_of_getElem? (i := 0) rfl)
theorem kc_5_1 : Cond.fieldLink RX6 13 "TowThatJerksModel" "image" "[I" ∈ wsL_law := kin_5 (List.mem_of_getElem? (i := 1) rfl)
theorem kc_5_2 : Cond.fieldLink RX6 16 "TowThatJerksModel" "read" "[I" ∈ wsL_law := kin_5 (List.mem_of_getElem? (i := 2) rfl)
theorem kc_5_3 : Cond.fieldLink RX6 19 "TowThatJerksModel" "mind" "[I" ∈ wsL_law := kin_5 (List.mem_of_getElem? (i := 3) rfl)
theorem kc_5_4 : Cond.fieldLink RX6 22 "TowThatJerksModel" "kept" "[I" ∈ wsL_law := kin_5 (List.mem_of_getElem? (i := 4) rfl)
theorem kc_5_5 : Cond.fieldLink RX6 25 "TowThatJerksModel" "sort" "[I" ∈ wsL_law := kin_5 (List.mem_of_getElem? (i := 5) rfl)
theorem kc_5_6 : Cond.fieldLink RX6 28 "TowThatJerksModel" "size" "[I" ∈ wsL_law := kin_5 (List.mem_of_getElem? (i := 6) rfl)
theorem kc_5_7 : Cond.fieldLink RX6 31 "TowThatJerksModel" "element" "[I" ∈ wsL_law := kin_5 (List.mem_of_getElem? (i := 7) rfl)
theorem kc_5_8 : Cond.fieldLink RX6 34 "TowThatJerksModel" "keptPrice" "[I" ∈ wsL_law := kin_5 (List.mem_of_getElem? (i := 8) rfl)
theorem kc_5_9 : Cond.fieldLink RX6 37 "TowThatJerksModel" "keptToss" "[I" ∈ wsL_law := kin_5 (List.mem_of_getElem? (i := 9) rfl)
theorem kc_5_10 : Cond.fieldLink RX6 40 "TowThatJerksModel" "numbers" "[I" ∈ wsL_law := kin_5 (List.mem_of_getElem? (i := 10) rfl)
theorem knc_0 : (Cond.fieldLinkNest RX4 21 RX5 "FIRST_SET" "[I" RX5 : Cond) ∈ nestA := List.mem_of_getElem? (i := 0) rfl
theorem knc_37 : (Cond.methodLinkNest RX5 9 yX4_init RX5 : Cond) ∈ nestA := List.mem_of_getElem? (i := 37) rfl
theorem knc_38 : (Cond.methodLinkNest RX4 51 yX1_init RX5 : Cond) ∈ nestA := List.mem_of_getElem? (i := 38) rfl
theorem knc_39 : (Cond.methodLinkNest RX5 24 yX0_init RX5 : Cond) ∈ nestA := List.mem_of_getElem? (i := 39) rfl
theorem knc_40 : (Cond.methodLinkNest RX5 31 yX1_init RX5 : Cond) ∈ nestA := List.mem_of_getElem? (i := 40) rfl
theorem knc_41 : (Cond.methodLinkNest RX5 38 yX2_init RX5 : Cond) ∈ nestA := List.mem_of_getElem? (i := 41) rfl
theorem knc_42 : (Cond.methodLinkNest RX5 53 yX3_init RX5 : Cond) ∈ nestA := List.mem_of_getElem? (i := 42) rfl
theorem knc_43 : (Cond.methodLinkNest RX3 17 yX1_init RX5 : Cond) ∈ nestA := List.mem_of_getElem? (i := 43) rfl
theorem hdc_X0_init : yX0_init.cls ≠ "java/lang/invoke/MethodHandle" ∧ yX0_init.cls ≠ "java/lang/invoke/VarHandle" ∧ (parseMethodDescriptor yX0_init.desc).map (fun d => d.parameters.length) = some 0 := by decide +kernel
theorem hdc_X1_init : yX1_init.cls ≠ "java/lang/invoke/MethodHandle" ∧ yX1_init.cls ≠ "java/lang/invoke/VarHandle" ∧ (parseMethodDescriptor yX1_init.desc).map (fun d => d.parameters.length) = some 0 := by decide +kernel
theorem hdc_X2_init : yX2_init.cls ≠ "java/lang/invoke/MethodHandle" ∧ yX2_init.cls ≠ "java/lang/invoke/VarHandle" ∧ (parseMethodDescriptor yX2_init.desc).map (fun d => d.parameters.length) = some 0 := by decide +kernel
theorem hdc_X3_init : yX3_init.cls ≠ "java/lang/invoke/MethodHandle" ∧ yX3_init.cls ≠ "java/lang/invoke/VarHandle" ∧ (parseMethodDescriptor yX3_init.desc).map (fun d => d.parameters.length) = some 0 := by decide +kernel
theorem hdc_X4_init : yX4_init.cls ≠ "java/lang/invoke/MethodHandle" ∧ yX4_init.cls ≠ "java/lang/invoke/VarHandle" ∧ (parseMethodDescriptor yX4_init.desc).map (fun d => d.parameters.length) = some 0 := by decide +kernel
theorem dX0_init_0 : decode cX0_init 0 = .ok (.aload_n 0, 1) := by decide +kernel
theorem dX0_init_1 : decode cX0_init 1 = .ok (.invokespecial 3, 3) := by decide +kernel
theorem dX0_init_4 : decode cX0_init 4 = .ok (.aload_n 0, 1) := by decide +kernel
theorem dX0_init_5 : decode cX0_init 5 = .ok (.iconst 0, 1) := by decide +kernel
theorem dX0_init_6 : decode cX0_init 6 = .ok (.putfield 9, 3) := by decide +kernel
theorem dX0_init_9 : decode cX0_init 9 = .ok (.aload_n 0, 1) := by decide +kernel
theorem dX0_init_10 : decode cX0_init 10 = .ok (.iconst 0, 1) := by decide +kernel
theorem dX0_init_11 : decode cX0_init 11 = .ok (.putfield 15, 3) := by decide +kernel
theorem dX0_init_14 : decode cX0_init 14 = .ok (.aload_n 0, 1) := by decide +kernel
theorem dX0_init_15 : decode cX0_init 15 = .ok (.iconst 0, 1) := by decide +kernel
theorem dX0_init_16 : decode cX0_init 16 = .ok (.putfield 18, 3) := by decide +kernel
theorem dX0_init_19 : decode cX0_init 19 = .ok (.aload_n 0, 1) := by decide +kernel
theorem dX0_init_20 : decode cX0_init 20 = .ok (.iconst 0, 1) := by decide +kernel
theorem dX0_init_21 : decode cX0_init 21 = .ok (.putfield 21, 3) := by decide +kernel
theorem dX0_init_24 : decode cX0_init 24 = .ok (.aload_n 0, 1) := by decide +kernel
theorem dX0_init_25 : decode cX0_init 25 = .ok (.iconst 0, 1) := by decide +kernel
theorem dX0_init_26 : decode cX0_init 26 = .ok (.putfield 24, 3) := by decide +kernel
theorem dX0_init_29 : decode cX0_init 29 = .ok (.aload_n 0, 1) := by decide +kernel
theorem dX0_init_30 : decode cX0_init 30 = .ok (.iconst 0, 1) := by decide +kernel
theorem dX0_init_31 : decode cX0_init 31 = .ok (.putfield 27, 3) := by decide +kernel
theorem dX0_init_34 : decode cX0_init 34 = .ok (.return_, 1) := by decide +kernel
theorem dX1_init_0 : decode cX1_init 0 = .ok (.aload_n 0, 1) := by decide +kernel
theorem dX1_init_1 : decode cX1_init 1 = .ok (.invokespecial 3, 3) := by decide +kernel
theorem dX1_init_4 : decode cX1_init 4 = .ok (.aload_n 0, 1) := by decide +kernel
theorem dX1_init_5 : decode cX1_init 5 = .ok (.iconst 0, 1) := by decide +kernel
theorem dX1_init_6 : decode cX1_init 6 = .ok (.putfield 11, 3) := by decide +kernel
theorem dX1_init_9 : decode cX1_init 9 = .ok (.aload_n 0, 1) := by decide +kernel
theorem dX1_init_10 : decode cX1_init 10 = .ok (.iconst 0, 1) := by decide +kernel
theorem dX1_init_11 : decode cX1_init 11 = .ok (.putfield 15, 3) := by decide +kernel
theorem dX1_init_14 : decode cX1_init 14 = .ok (.aload_n 0, 1) := by decide +kernel
theorem dX1_init_15 : decode cX1_init 15 = .ok (.iconst 1, 1) := by decide +kernel
theorem dX1_init_16 : decode cX1_init 16 = .ok (.putfield 18, 3) := by decide +kernel
theorem dX1_init_19 : decode cX1_init 19 = .ok (.aload_n 0, 1) := by decide +kernel
theorem dX1_init_20 : decode cX1_init 20 = .ok (.iconst 0, 1) := by decide +kernel
theorem dX1_init_21 : decode cX1_init 21 = .ok (.putfield 21, 3) := by decide +kernel
theorem dX1_init_24 : decode cX1_init 24 = .ok (.aload_n 0, 1) := by decide +kernel
theorem dX1_init_25 : decode cX1_init 25 = .ok (.iconst 0, 1) := by decide +kernel
theorem dX1_init_26 : decode cX1_init 26 = .ok (.putfield 24, 3) := by decide +kernel
theorem dX1_init_29 : decode cX1_init 29 = .ok (.aload_n 0, 1) := by decide +kernel
theorem dX1_init_30 : decode cX1_init 30 = .ok (.iconst 0, 1) := by decide +kernel
theorem dX1_init_31 : decode cX1_init 31 = .ok (.putfield 27, 3) := by decide +kernel
theorem dX1_init_34 : decode cX1_init 34 = .ok (.aload_n 0, 1) := by decide +kernel
theorem dX1_init_35 : decode cX1_init 35 = .ok (.iconst 0, 1) := by decide +kernel
theorem dX1_init_36 : decode cX1_init 36 = .ok (.putfield 30, 3) := by decide +kernel
theorem dX1_init_39 : decode cX1_init 39 = .ok (.aload_n 0, 1) := by decide +kernel
theorem dX1_init_40 : decode cX1_init 40 = .ok (.iconst 0, 1) := by decide +kernel
theorem dX1_init_41 : decode cX1_init 41 = .ok (.putfield 33, 3) := by decide +kernel
theorem dX1_init_44 : decode cX1_init 44 = .ok (.aload_n 0, 1) := by decide +kernel
theorem dX1_init_45 : decode cX1_init 45 = .ok (.iconst 0, 1) := by decide +kernel
theorem dX1_init_46 : decode cX1_init 46 = .ok (.putfield 36, 3) := by decide +kernel
theorem dX1_init_49 : decode cX1_init 49 = .ok (.return_, 1) := by decide +kernel
theorem dX2_init_0 : decode cX2_init 0 = .ok (.aload_n 0, 1) := by decide +kernel
theorem dX2_init_1 : decode cX2_init 1 = .ok (.invokespecial 3, 3) := by decide +kernel
theorem dX2_init_4 : decode cX2_init 4 = .ok (.aload_n 0, 1) := by decide +kernel
theorem dX2_init_5 : decode cX2_init 5 = .ok (.iconst 0, 1) := by decide +kernel
theorem dX2_init_6 : decode cX2_init 6 = .ok (.putfield 9, 3) := by decide +kernel
theorem dX2_init_9 : decode cX2_init 9 = .ok (.aload_n 0, 1) := by decide +kernel
theorem dX2_init_10 : decode cX2_init 10 = .ok (.iconst 3, 1) := by decide +kernel
theorem dX2_init_11 : decode cX2_init 11 = .ok (.newarray .int, 2) := by decide +kernel
theorem dX2_init_13 : decode cX2_init 13 = .ok (.putfield 15, 3) := by decide +kernel
theorem dX2_init_16 : decode cX2_init 16 = .ok (.aload_n 0, 1) := by decide +kernel
theorem dX2_init_17 : decode cX2_init 17 = .ok (.iconst 0, 1) := by decide +kernel
theorem dX2_init_18 : decode cX2_init 18 = .ok (.putfield 19, 3) := by decide +kernel
theorem dX2_init_21 : decode cX2_init 21 = .ok (.return_, 1) := by decide +kernel
theorem dX3_init_0 : decode cX3_init 0 = .ok (.aload_n 0, 1) := by decide +kernel
theorem dX3_init_1 : decode cX3_init 1 = .ok (.invokespecial 3, 3) := by decide +kernel
theorem dX3_init_4 : decode cX3_init 4 = .ok (.aload_n 0, 1) := by decide +kernel
theorem dX3_init_5 : decode cX3_init 5 = .ok (.iconst 0, 1) := by decide +kernel
theorem dX3_init_6 : decode cX3_init 6 = .ok (.putfield 11, 3) := by decide +kernel
theorem dX3_init_9 : decode cX3_init 9 = .ok (.aload_n 0, 1) := by decide +kernel
theorem dX3_init_10 : decode cX3_init 10 = .ok (.new 15, 3) := by decide +kernel
theorem dX3_init_13 : decode cX3_init 13 = .ok (.dup, 1) := by decide +kernel
theorem dX3_init_14 : decode cX3_init 14 = .ok (.invokespecial 17, 3) := by decide +kernel
theorem dX3_init_17 : decode cX3_init 17 = .ok (.putfield 18, 3) := by decide +kernel
theorem dX3_init_20 : decode cX3_init 20 = .ok (.aload_n 0, 1) := by decide +kernel
theorem dX3_init_21 : decode cX3_init 21 = .ok (.iconst 0, 1) := by decide +kernel
theorem dX3_init_22 : decode cX3_init 22 = .ok (.putfield 22, 3) := by decide +kernel
theorem dX3_init_25 : decode cX3_init 25 = .ok (.aload_n 0, 1) := by decide +kernel
theorem dX3_init_26 : decode cX3_init 26 = .ok (.iconst 0, 1) := by decide +kernel
theorem dX3_init_27 : decode cX3_init 27 = .ok (.putfield 25, 3) := by decide +kernel
theorem dX3_init_30 : decode cX3_init 30 = .ok (.aload_n 0, 1) := by decide +kernel
theorem dX3_init_31 : decode cX3_init 31 = .ok (.bipush 100, 2) := by decide +kernel
theorem dX3_init_33 : decode cX3_init 33 = .ok (.newarray .int, 2) := by decide +kernel
theorem dX3_init_35 : decode cX3_init 35 = .ok (.putfield 28, 3) := by decide +kernel
theorem dX3_init_38 : decode cX3_init 38 = .ok (.return_, 1) := by decide +kernel
theorem dX4_init_0 : decode cX4_init 0 = .ok (.aload_n 0, 1) := by decide +kernel
theorem dX4_init_1 : decode cX4_init 1 = .ok (.invokespecial 3, 3) := by decide +kernel
theorem dX4_init_4 : decode cX4_init 4 = .ok (.aload_n 0, 1) := by decide +kernel
theorem dX4_init_5 : decode cX4_init 5 = .ok (.bipush 6, 2) := by decide +kernel
theorem dX4_init_7 : decode cX4_init 7 = .ok (.anewarray 9, 3) := by decide +kernel
theorem dX4_init_10 : decode cX4_init 10 = .ok (.putfield 11, 3) := by decide +kernel
theorem dX4_init_13 : decode cX4_init 13 = .ok (.aload_n 0, 1) := by decide +kernel
theorem dX4_init_14 : decode cX4_init 14 = .ok (.iconst 0, 1) := by decide +kernel
theorem dX4_init_15 : decode cX4_init 15 = .ok (.putfield 17, 3) := by decide +kernel
theorem dX4_init_18 : decode cX4_init 18 = .ok (.aload_n 0, 1) := by decide +kernel
theorem dX4_init_19 : decode cX4_init 19 = .ok (.getstatic 21, 3) := by decide +kernel
theorem dX4_init_22 : decode cX4_init 22 = .ok (.invokevirtual 25, 3) := by decide +kernel
theorem dX4_init_25 : decode cX4_init 25 = .ok (.checkcast 26, 3) := by decide +kernel
theorem dX4_init_28 : decode cX4_init 28 = .ok (.putfield 30, 3) := by decide +kernel
theorem dX4_init_31 : decode cX4_init 31 = .ok (.aload_n 0, 1) := by decide +kernel
theorem dX4_init_32 : decode cX4_init 32 = .ok (.iconst 0, 1) := by decide +kernel
theorem dX4_init_33 : decode cX4_init 33 = .ok (.putfield 33, 3) := by decide +kernel
theorem dX4_init_36 : decode cX4_init 36 = .ok (.aload_n 0, 1) := by decide +kernel
theorem dX4_init_37 : decode cX4_init 37 = .ok (.iconst 0, 1) := by decide +kernel
theorem dX4_init_38 : decode cX4_init 38 = .ok (.putfield 36, 3) := by decide +kernel
theorem dX4_init_41 : decode cX4_init 41 = .ok (.aload_n 0, 1) := by decide +kernel
theorem dX4_init_42 : decode cX4_init 42 = .ok (.iconst 0, 1) := by decide +kernel
theorem dX4_init_43 : decode cX4_init 43 = .ok (.putfield 39, 3) := by decide +kernel
theorem dX4_init_46 : decode cX4_init 46 = .ok (.aload_n 0, 1) := by decide +kernel
theorem dX4_init_47 : decode cX4_init 47 = .ok (.iconst 0, 1) := by decide +kernel
theorem dX4_init_48 : decode cX4_init 48 = .ok (.putfield 42, 3) := by decide +kernel
theorem dX4_init_51 : decode cX4_init 51 = .ok (.aload_n 0, 1) := by decide +kernel
theorem dX4_init_52 : decode cX4_init 52 = .ok (.bipush (-4), 2) := by decide +kernel
theorem dX4_init_54 : decode cX4_init 54 = .ok (.putfield 45, 3) := by decide +kernel
theorem dX4_init_57 : decode cX4_init 57 = .ok (.aload_n 0, 1) := by decide +kernel
theorem dX4_init_58 : decode cX4_init 58 = .ok (.iconst 0, 1) := by decide +kernel
theorem dX4_init_59 : decode cX4_init 59 = .ok (.putfield 48, 3) := by decide +kernel
theorem dX4_init_62 : decode cX4_init 62 = .ok (.iconst 0, 1) := by decide +kernel
theorem dX4_init_63 : decode cX4_init 63 = .ok (.istore_n 1, 1) := by decide +kernel
theorem dX4_init_64 : decode cX4_init 64 = .ok (.iload_n 1, 1) := by decide +kernel
theorem dX4_init_65 : decode cX4_init 65 = .ok (.bipush 6, 2) := by decide +kernel
theorem dX4_init_67 : decode cX4_init 67 = .ok (.if_icmp .ge 22, 3) := by decide +kernel
theorem dX4_init_70 : decode cX4_init 70 = .ok (.aload_n 0, 1) := by decide +kernel
theorem dX4_init_71 : decode cX4_init 71 = .ok (.getfield 11, 3) := by decide +kernel
theorem dX4_init_74 : decode cX4_init 74 = .ok (.iload_n 1, 1) := by decide +kernel
theorem dX4_init_75 : decode cX4_init 75 = .ok (.new 9, 3) := by decide +kernel
theorem dX4_init_78 : decode cX4_init 78 = .ok (.dup, 1) := by decide +kernel
theorem dX4_init_79 : decode cX4_init 79 = .ok (.invokespecial 51, 3) := by decide +kernel
theorem dX4_init_82 : decode cX4_init 82 = .ok (.aastore, 1) := by decide +kernel
theorem dX4_init_83 : decode cX4_init 83 = .ok (.iinc 1 1, 3) := by decide +kernel
theorem dX4_init_86 : decode cX4_init 86 = .ok (.goto (-22), 3) := by decide +kernel
theorem dX4_init_89 : decode cX4_init 89 = .ok (.return_, 1) := by decide +kernel
theorem dX5_init_0 : decode cX5_init 0 = .ok (.aload_n 0, 1) := by decide +kernel
theorem dX5_init_1 : decode cX5_init 1 = .ok (.invokespecial 1, 3) := by decide +kernel
theorem dX5_init_4 : decode cX5_init 4 = .ok (.aload_n 0, 1) := by decide +kernel
theorem dX5_init_5 : decode cX5_init 5 = .ok (.new 7, 3) := by decide +kernel
theorem dX5_init_8 : decode cX5_init 8 = .ok (.dup, 1) := by decide +kernel
theorem dX5_init_9 : decode cX5_init 9 = .ok (.invokespecial 9, 3) := by decide +kernel
theorem dX5_init_12 : decode cX5_init 12 = .ok (.putfield 10, 3) := by decide +kernel
theorem dX5_init_15 : decode cX5_init 15 = .ok (.aload_n 0, 1) := by decide +kernel
theorem dX5_init_16 : decode cX5_init 16 = .ok (.new 7, 3) := by decide +kernel
theorem dX5_init_19 : decode cX5_init 19 = .ok (.dup, 1) := by decide +kernel
theorem dX5_init_20 : decode cX5_init 20 = .ok (.invokespecial 9, 3) := by decide +kernel
theorem dX5_init_23 : decode cX5_init 23 = .ok (.putfield 16, 3) := by decide +kernel
theorem dX5_init_26 : decode cX5_init 26 = .ok (.aload_n 0, 1) := by decide +kernel
theorem dX5_init_27 : decode cX5_init 27 = .ok (.new 7, 3) := by decide +kernel
theorem dX5_init_30 : decode cX5_init 30 = .ok (.dup, 1) := by decide +kernel
theorem dX5_init_31 : decode cX5_init 31 = .ok (.invokespecial 9, 3) := by decide +kernel
theorem dX5_init_34 : decode cX5_init 34 = .ok (.putfield 19, 3) := by decide +kernel
theorem dX5_init_37 : decode cX5_init 37 = .ok (.aload_n 0, 1) := by decide +kernel
theorem dX5_init_38 : decode cX5_init 38 = .ok (.new 22, 3) := by decide +kernel
theorem dX5_init_41 : decode cX5_init 41 = .ok (.dup, 1) := by decide +kernel
theorem dX5_init_42 : decode cX5_init 42 = .ok (.invokespecial 24, 3) := by decide +kernel
theorem dX5_init_45 : decode cX5_init 45 = .ok (.putfield 25, 3) := by decide +kernel
theorem dX5_init_48 : decode cX5_init 48 = .ok (.aload_n 0, 1) := by decide +kernel
theorem dX5_init_49 : decode cX5_init 49 = .ok (.new 29, 3) := by decide +kernel
theorem dX5_init_52 : decode cX5_init 52 = .ok (.dup, 1) := by decide +kernel
theorem dX5_init_53 : decode cX5_init 53 = .ok (.invokespecial 31, 3) := by decide +kernel
theorem dX5_init_56 : decode cX5_init 56 = .ok (.putfield 32, 3) := by decide +kernel
theorem dX5_init_59 : decode cX5_init 59 = .ok (.aload_n 0, 1) := by decide +kernel
theorem dX5_init_60 : decode cX5_init 60 = .ok (.new 36, 3) := by decide +kernel
theorem dX5_init_63 : decode cX5_init 63 = .ok (.dup, 1) := by decide +kernel
theorem dX5_init_64 : decode cX5_init 64 = .ok (.invokespecial 38, 3) := by decide +kernel
theorem dX5_init_67 : decode cX5_init 67 = .ok (.putfield 39, 3) := by decide +kernel
theorem dX5_init_70 : decode cX5_init 70 = .ok (.aload_n 0, 1) := by decide +kernel
theorem dX5_init_71 : decode cX5_init 71 = .ok (.bipush 8, 2) := by decide +kernel
theorem dX5_init_73 : decode cX5_init 73 = .ok (.anewarray 43, 3) := by decide +kernel
theorem dX5_init_76 : decode cX5_init 76 = .ok (.putfield 45, 3) := by decide +kernel
theorem dX5_init_79 : decode cX5_init 79 = .ok (.aload_n 0, 1) := by decide +kernel
theorem dX5_init_80 : decode cX5_init 80 = .ok (.iconst 0, 1) := by decide +kernel
theorem dX5_init_81 : decode cX5_init 81 = .ok (.putfield 49, 3) := by decide +kernel
theorem dX5_init_84 : decode cX5_init 84 = .ok (.iconst 0, 1) := by decide +kernel
theorem dX5_init_85 : decode cX5_init 85 = .ok (.istore_n 1, 1) := by decide +kernel
theorem dX5_init_86 : decode cX5_init 86 = .ok (.iload_n 1, 1) := by decide +kernel
theorem dX5_init_87 : decode cX5_init 87 = .ok (.bipush 8, 2) := by decide +kernel
theorem dX5_init_89 : decode cX5_init 89 = .ok (.if_icmp .ge 22, 3) := by decide +kernel
theorem dX5_init_92 : decode cX5_init 92 = .ok (.aload_n 0, 1) := by decide +kernel
theorem dX5_init_93 : decode cX5_init 93 = .ok (.getfield 45, 3) := by decide +kernel
theorem dX5_init_96 : decode cX5_init 96 = .ok (.iload_n 1, 1) := by decide +kernel
theorem dX5_init_97 : decode cX5_init 97 = .ok (.new 43, 3) := by decide +kernel
theorem dX5_init_100 : decode cX5_init 100 = .ok (.dup, 1) := by decide +kernel
theorem dX5_init_101 : decode cX5_init 101 = .ok (.invokespecial 53, 3) := by decide +kernel
theorem dX5_init_104 : decode cX5_init 104 = .ok (.aastore, 1) := by decide +kernel
theorem dX5_init_105 : decode cX5_init 105 = .ok (.iinc 1 1, 3) := by decide +kernel
theorem dX5_init_108 : decode cX5_init 108 = .ok (.goto (-22), 3) := by decide +kernel
theorem dX5_init_111 : decode cX5_init 111 = .ok (.return_, 1) := by decide +kernel
theorem dX6_init_0 : decode cX6_init 0 = .ok (.aload_n 0, 1) := by decide +kernel
theorem dX6_init_1 : decode cX6_init 1 = .ok (.invokespecial 1, 3) := by decide +kernel
theorem dX6_init_4 : decode cX6_init 4 = .ok (.aload_n 0, 1) := by decide +kernel
theorem dX6_init_5 : decode cX6_init 5 = .ok (.bipush 54, 2) := by decide +kernel
theorem dX6_init_7 : decode cX6_init 7 = .ok (.newarray .int, 2) := by decide +kernel
theorem dX6_init_9 : decode cX6_init 9 = .ok (.putfield 9, 3) := by decide +kernel
theorem dX6_init_12 : decode cX6_init 12 = .ok (.aload_n 0, 1) := by decide +kernel
theorem dX6_init_13 : decode cX6_init 13 = .ok (.bipush 54, 2) := by decide +kernel
theorem dX6_init_15 : decode cX6_init 15 = .ok (.newarray .int, 2) := by decide +kernel
theorem dX6_init_17 : decode cX6_init 17 = .ok (.putfield 13, 3) := by decide +kernel
theorem dX6_init_20 : decode cX6_init 20 = .ok (.aload_n 0, 1) := by decide +kernel
theorem dX6_init_21 : decode cX6_init 21 = .ok (.bipush 54, 2) := by decide +kernel
theorem dX6_init_23 : decode cX6_init 23 = .ok (.newarray .int, 2) := by decide +kernel
theorem dX6_init_25 : decode cX6_init 25 = .ok (.putfield 16, 3) := by decide +kernel
theorem dX6_init_28 : decode cX6_init 28 = .ok (.aload_n 0, 1) := by decide +kernel
theorem dX6_init_29 : decode cX6_init 29 = .ok (.bipush 54, 2) := by decide +kernel
theorem dX6_init_31 : decode cX6_init 31 = .ok (.newarray .int, 2) := by decide +kernel
theorem dX6_init_33 : decode cX6_init 33 = .ok (.putfield 19, 3) := by decide +kernel
theorem dX6_init_36 : decode cX6_init 36 = .ok (.aload_n 0, 1) := by decide +kernel
theorem dX6_init_37 : decode cX6_init 37 = .ok (.bipush 8, 2) := by decide +kernel
theorem dX6_init_39 : decode cX6_init 39 = .ok (.newarray .int, 2) := by decide +kernel
theorem dX6_init_41 : decode cX6_init 41 = .ok (.putfield 22, 3) := by decide +kernel
theorem dX6_init_44 : decode cX6_init 44 = .ok (.aload_n 0, 1) := by decide +kernel
theorem dX6_init_45 : decode cX6_init 45 = .ok (.bipush 8, 2) := by decide +kernel
theorem dX6_init_47 : decode cX6_init 47 = .ok (.newarray .int, 2) := by decide +kernel
theorem dX6_init_49 : decode cX6_init 49 = .ok (.putfield 25, 3) := by decide +kernel
theorem dX6_init_52 : decode cX6_init 52 = .ok (.aload_n 0, 1) := by decide +kernel
theorem dX6_init_53 : decode cX6_init 53 = .ok (.bipush 8, 2) := by decide +kernel
theorem dX6_init_55 : decode cX6_init 55 = .ok (.newarray .int, 2) := by decide +kernel
theorem dX6_init_57 : decode cX6_init 57 = .ok (.putfield 28, 3) := by decide +kernel
theorem dX6_init_60 : decode cX6_init 60 = .ok (.aload_n 0, 1) := by decide +kernel
theorem dX6_init_61 : decode cX6_init 61 = .ok (.sipush 800, 3) := by decide +kernel
theorem dX6_init_64 : decode cX6_init 64 = .ok (.newarray .int, 2) := by decide +kernel
theorem dX6_init_66 : decode cX6_init 66 = .ok (.putfield 31, 3) := by decide +kernel
theorem dX6_init_69 : decode cX6_init 69 = .ok (.aload_n 0, 1) := by decide +kernel
theorem dX6_init_70 : decode cX6_init 70 = .ok (.bipush 8, 2) := by decide +kernel
theorem dX6_init_72 : decode cX6_init 72 = .ok (.newarray .int, 2) := by decide +kernel
theorem dX6_init_74 : decode cX6_init 74 = .ok (.putfield 34, 3) := by decide +kernel
theorem dX6_init_77 : decode cX6_init 77 = .ok (.aload_n 0, 1) := by decide +kernel
theorem dX6_init_78 : decode cX6_init 78 = .ok (.bipush 8, 2) := by decide +kernel
theorem dX6_init_80 : decode cX6_init 80 = .ok (.newarray .int, 2) := by decide +kernel
theorem dX6_init_82 : decode cX6_init 82 = .ok (.putfield 37, 3) := by decide +kernel
theorem dX6_init_85 : decode cX6_init 85 = .ok (.aload_n 0, 1) := by decide +kernel
theorem dX6_init_86 : decode cX6_init 86 = .ok (.iconst 3, 1) := by decide +kernel
theorem dX6_init_87 : decode cX6_init 87 = .ok (.newarray .int, 2) := by decide +kernel
theorem dX6_init_89 : decode cX6_init 89 = .ok (.putfield 40, 3) := by decide +kernel
theorem dX6_init_92 : decode cX6_init 92 = .ok (.aload_n 0, 1) := by decide +kernel
theorem dX6_init_93 : decode cX6_init 93 = .ok (.getfield 9, 3) := by decide +kernel
theorem dX6_init_96 : decode cX6_init 96 = .ok (.bipush 6, 2) := by decide +kernel
theorem dX6_init_98 : decode cX6_init 98 = .ok (.bipush 20, 2) := by decide +kernel
theorem dX6_init_100 : decode cX6_init 100 = .ok (.iastore, 1) := by decide +kernel
theorem dX6_init_101 : decode cX6_init 101 = .ok (.aload_n 0, 1) := by decide +kernel
theorem dX6_init_102 : decode cX6_init 102 = .ok (.getfield 9, 3) := by decide +kernel
theorem dX6_init_105 : decode cX6_init 105 = .ok (.bipush 7, 2) := by decide +kernel
theorem dX6_init_107 : decode cX6_init 107 = .ok (.iconst 4, 1) := by decide +kernel
theorem dX6_init_108 : decode cX6_init 108 = .ok (.iastore, 1) := by decide +kernel
theorem dX6_init_109 : decode cX6_init 109 = .ok (.aload_n 0, 1) := by decide +kernel
theorem dX6_init_110 : decode cX6_init 110 = .ok (.getfield 9, 3) := by decide +kernel
theorem dX6_init_113 : decode cX6_init 113 = .ok (.bipush 8, 2) := by decide +kernel
theorem dX6_init_115 : decode cX6_init 115 = .ok (.sipush 300, 3) := by decide +kernel
theorem dX6_init_118 : decode cX6_init 118 = .ok (.iastore, 1) := by decide +kernel
theorem dX6_init_119 : decode cX6_init 119 = .ok (.aload_n 0, 1) := by decide +kernel
theorem dX6_init_120 : decode cX6_init 120 = .ok (.getfield 9, 3) := by decide +kernel
theorem dX6_init_123 : decode cX6_init 123 = .ok (.bipush 9, 2) := by decide +kernel
theorem dX6_init_125 : decode cX6_init 125 = .ok (.iconst 3, 1) := by decide +kernel
theorem dX6_init_126 : decode cX6_init 126 = .ok (.iastore, 1) := by decide +kernel
theorem dX6_init_127 : decode cX6_init 127 = .ok (.return_, 1) := by decide +kernel
def PW_6 (G : GG) (h : Nat) (w : va_W) : Prop := ∃ (q7 q15 q23 q31 q39 q47 q55 q64 q72 q80 q87 : Nat), w = [(h, .inr (6, [.ref q7, .ref q15, .ref q23, .ref q31, .ref q39, .ref q47, .ref q55, .ref q64, .ref q72, .ref q80, .int 0, .int 0, .int 0, .int 0, .int 0, .int 0, .int 0, .ref q87, .int 0, .int 0, .int 0, .int 0, .int 0, .int 0])), (q7, .inl (gI G, 54, .inl (upd (upd (upd (upd (fun _ => 0) 6 20) 7 4) 8 300) 9 3))), (q15, .inl (gI G, 54, .inl (fun _ => 0))), (q23, .inl (gI G, 54, .inl (fun _ => 0))), (q31, .inl (gI G, 54, .inl (fun _ => 0))), (q39, .inl (gI G, 8, .inl (fun _ => 0))), (q47, .inl (gI G, 8, .inl (fun _ => 0))), (q55, .inl (gI G, 8, .inl (fun _ => 0))), (q64, .inl (gI G, 800, .inl (fun _ => 0))), (q72, .inl (gI G, 8, .inl (fun _ => 0))), (q80, .inl (gI G, 8, .inl (fun _ => 0))), (q87, .inl (gI G, 3, .inl (fun _ => 0)))]
def PW_5 (G : GG) (h : Nat) (w : va_W) : Prop := ∃ (q5 q5_a q5_s q5_p0 q5_p1 q5_p2 q5_p3 q5_p4 q5_p5 q16 q16_a q16_s q16_p0 q16_p1 q16_p2 q16_p3 q16_p4 q16_p5 q27 q27_a q27_s q27_p0 q27_p1 q27_p2 q27_p3 q27_p4 q27_p5 q38 q49 q60 nu q73 q97_0 q97_0_p q97_0_e q97_1 q97_1_p q97_1_e q97_2 q97_2_p q97_2_e q97_3 q97_3_p q97_3_e q97_4 q97_4_p q97_4_e q97_5 q97_5_p q97_5_e q97_6 q97_6_p q97_6_e q97_7 q97_7_p q97_7_e : Nat) (q5_f q16_f q27_f : Nat → Option Nat), (q5_f 0 = some q5_p0 ∧ q5_f 1 = some q5_p1 ∧ q5_f 2 = some q5_p2 ∧ q5_f 3 = some q5_p3 ∧ q5_f 4 = some q5_p4 ∧ q5_f 5 = some q5_p5) ∧ (q16_f 0 = some q16_p0 ∧ q16_f 1 = some q16_p1 ∧ q16_f 2 = some q16_p2 ∧ q16_f 3 = some q16_p3 ∧ q16_f 4 = some q16_p4 ∧ q16_f 5 = some q16_p5) ∧ (q27_f 0 = some q27_p0 ∧ q27_f 1 = some q27_p1 ∧ q27_f 2 = some q27_p2 ∧ q27_f 3 = some q27_p3 ∧ q27_f 4 = some q27_p4 ∧ q27_f 5 = some q27_p5) ∧ w = [(h, .inr (5, [.ref q5, .ref q16, .ref q27, .ref q38, .ref q49, .ref q60, .ref q73, .int 0])), (q5, .inr (4, [.ref q5_a, .int 0, .ref q5_s, .int 0, .int 0, .int 0, .int 0, .int (-4), .int 0])), (q5_a, .inl (gP G, 6, rfs q5_f)), (q5_s, .inl (gI G, 7, .inl firstT)), (q5_p0, pcE), (q5_p1, pcE), (q5_p2, pcE), (q5_p3, pcE), (q5_p4, pcE), (q5_p5, pcE), (q16, .inr (4, [.ref q16_a, .int 0, .ref q16_s, .int 0, .int 0, .int 0, .int 0, .int (-4), .int 0])), (q16_a, .inl (gP G, 6, rfs q16_f)), (q16_s, .inl (gI G, 7, .inl firstT)), (q16_p0, pcE), (q16_p1, pcE), (q16_p2, pcE), (q16_p3, pcE), (q16_p4, pcE), (q16_p5, pcE), (q27, .inr (4, [.ref q27_a, .int 0, .ref q27_s, .int 0, .int 0, .int 0, .int 0, .int (-4), .int 0])), (q27_a, .inl (gP G, 6, rfs q27_f)), (q27_s, .inl (gI G, 7, .inl firstT)), (q27_p0, pcE), (q27_p1, pcE), (q27_p2, pcE), (q27_p3, pcE), (q27_p4, pcE), (q27_p5, pcE), (q38, .inr (0, [.int 0, .int 0, .int 0, .int 0, .int 0, .int 0])), (q49, pcE), (q60, .inr (2, [.int 0, .ref nu, .int 0])), (nu, .inl (gI G, 3, .inl (fun _ => 0))), (q73, .inl (gS G, 8, rfs (va_up (va_up (va_up (va_up (va_up (va_up (va_up (va_up (fun _ => none) 0 (some q97_0)) 1 (some q97_1)) 2 (some q97_2)) 3 (some q97_3)) 4 (some q97_4)) 5 (some q97_5)) 6 (some q97_6)) 7 (some q97_7)))), (q97_0, .inr (3, [.int 0, .ref q97_0_p, .int 0, .int 0, .ref q97_0_e])), (q97_0_p, pcE), (q97_0_e, .inl (gI G, 100, .inl (fun _ => 0))), (q97_1, .inr (3, [.int 0, .ref q97_1_p, .int 0, .int 0, .ref q97_1_e])), (q97_1_p, pcE), (q97_1_e, .inl (gI G, 100, .inl (fun _ => 0))), (q97_2, .inr (3, [.int 0, .ref q97_2_p, .int 0, .int 0, .ref q97_2_e])), (q97_2_p, pcE), (q97_2_e, .inl (gI G, 100, .inl (fun _ => 0))), (q97_3, .inr (3, [.int 0, .ref q97_3_p, .int 0, .int 0, .ref q97_3_e])), (q97_3_p, pcE), (q97_3_e, .inl (gI G, 100, .inl (fun _ => 0))), (q97_4, .inr (3, [.int 0, .ref q97_4_p, .int 0, .int 0, .ref q97_4_e])), (q97_4_p, pcE), (q97_4_e, .inl (gI G, 100, .inl (fun _ => 0))), (q97_5, .inr (3, [.int 0, .ref q97_5_p, .int 0, .int 0, .ref q97_5_e])), (q97_5_p, pcE), (q97_5_e, .inl (gI G, 100, .inl (fun _ => 0))), (q97_6, .inr (3, [.int 0, .ref q97_6_p, .int 0, .int 0, .ref q97_6_e])), (q97_6_p, pcE), (q97_6_e, .inl (gI G, 100, .inl (fun _ => 0))), (q97_7, .inr (3, [.int 0, .ref q97_7_p, .int 0, .int 0, .ref q97_7_e])), (q97_7_p, pcE), (q97_7_e, .inl (gI G, 100, .inl (fun _ => 0)))]
set_option maxHeartbeats 4000000 in
set_option maxRecDepth 100000 in
theorem k_X1_init (l : Launch) (G : GG) (t h0 sz : Nat) (hh : gz G ≤ h0) : Met l yX1_init (Cond.code yX1_init cX1_init 1 none :: wsL_law) (rmc 1 0 0) (va_Pc [.ref h0] (Py G t sz h0 (.inr (1, [.int 0, .int 0, .int 0, .int 0, .int 0, .int 0, .int 0, .int 0, .int 0])))) (va_Qv (PW_1 h0) (Qy G (Ah h0 sz)) (Ah h0 sz)) 0 0 (Ah h0 sz) := by
  refine Met.ofW (cc := cX1_init) (maxL := 1) (ret := none) (by decide) rfl ?_
  intro p e s m args below meth c s₁ B hml hv
  obtain ⟨rfl, hsz, hE, hF, hP⟩ := hv
  subst hsz
  have C := Cy.of (own := RX1) hE rfl hml B
  have hini : meth.name = "<init>" := (name_of_methodNamed B.named B.method).1
  have hAz : ∀ q, Ah h0 s.heap.size q → Zf G q := fun q h => h.elim (fun e => by rw [e]; exact hh) (fun z => Nat.le_trans hE.2.2.1 z)
  have w : Wy G s (Ah h0 s.heap.size) [(h0, .inr (1, [.int 0, .int 0, .int 0, .int 0, .int 0, .int 0, .int 0, .int 0, .int 0]))] s.heap [] := ⟨hP, d_one, va_S.rf, fun q h => Or.inr h⟩
  have hl := lv_entry [.ref h0] (n := 1) (Nat.le_of_ble_eq_true rfl)
  rw [lg_entry_eq]
  generalize (lg_sl [.ref h0] ++ List.replicate (1 - (lg_sl [.ref h0]).length) Slot.unset).toArray = ls at hl ⊢
  have hl : lv_has ls 1 [(0, .ref h0)] := hl
  have hx := C.1.1
  have hb := C.1.2.1
  show W p l e (rmc 1 0 0) s m _ below meth c s.heap [] 0 0 _ _
  refine lv_aload_n hx hb dX1_init_0 rfl (lv_at hl 0 rfl) ?_
  refine W.objInit hx hb C.1.2.2.2.1 (C.tb kc_3_9) (C.tb kc_1_11) (C.tb kc_1_12) rfl (by rw [hml]; exact hl.1) rfl dX1_init_1 (Nat.le_of_ble_eq_true rfl) (Nat.le_of_ble_eq_true rfl) ?_
  refine W.eq (g2 := F0 m 4 ls []) rfl ?_
  refine lv_aload_n hx hb dX1_init_4 rfl (lv_at hl 0 rfl) ?_
  refine lv_iconst (v := 0) hx hb dX1_init_5 (by decide) ?_
  refine ky_put (v := .int 0) (ty := .int) C w inlX1 tyX1 tyX1_ok nmX1 0 rfl rfl 0 (by decide) rfl kc_3_10 rfl (by decide +kernel) rfl rfl (Nat.le_of_ble_eq_true rfl) dX1_init_6 (fun H locs w => ?_)
  replace w : Wy G s (Ah h0 s.heap.size) [(h0, .inr (1, [.int 0, .int 0, .int 0, .int 0, .int 0, .int 0, .int 0, .int 0, .int 0]))] H locs := w
  refine lv_aload_n hx hb dX1_init_9 rfl (lv_at hl 0 rfl) ?_
  refine lv_iconst (v := 0) hx hb dX1_init_10 (by decide) ?_
  refine ky_put (v := .int 0) (ty := .int) C w inlX1 tyX1 tyX1_ok nmX1 0 rfl rfl 1 (by decide) rfl kc_3_11 rfl (by decide +kernel) rfl rfl (Nat.le_of_ble_eq_true rfl) dX1_init_11 (fun H locs w => ?_)
  replace w : Wy G s (Ah h0 s.heap.size) [(h0, .inr (1, [.int 0, .int 0, .int 0, .int 0, .int 0, .int 0, .int 0, .int 0, .int 0]))] H locs := w
  refine lv_aload_n hx hb dX1_init_14 rfl (lv_at hl 0 rfl) ?_
  refine lv_iconst (v := 1) hx hb dX1_init_15 (by decide) ?_
  refine ky_put (v := .int 1) (ty := .int) C w inlX1 tyX1 tyX1_ok nmX1 0 rfl rfl 2 (by decide) rfl kc_3_12 rfl (by decide +kernel) rfl rfl (Nat.le_of_ble_eq_true rfl) dX1_init_16 (fun H locs w => ?_)
  replace w : Wy G s (Ah h0 s.heap.size) [(h0, pcE)] H locs := w
  refine lv_aload_n hx hb dX1_init_19 rfl (lv_at hl 0 rfl) ?_
  refine lv_iconst (v := 0) hx hb dX1_init_20 (by decide) ?_
  refine ky_put (v := .int 0) (ty := .int) C w inlX1 tyX1 tyX1_ok nmX1 0 rfl rfl 3 (by decide) rfl kc_3_13 rfl (by decide +kernel) rfl rfl (Nat.le_of_ble_eq_true rfl) dX1_init_21 (fun H locs w => ?_)
  replace w : Wy G s (Ah h0 s.heap.size) [(h0, pcE)] H locs := w
  refine lv_aload_n hx hb dX1_init_24 rfl (lv_at hl 0 rfl) ?_
  refine lv_iconst (v := 0) hx hb dX1_init_25 (by decide) ?_
  refine ky_put (v := .int 0) (ty := .int) C w inlX1 tyX1 tyX1_ok nmX1 0 rfl rfl 4 (by decide) rfl kc_3_14 rfl (by decide +kernel) rfl rfl (Nat.le_of_ble_eq_true rfl) dX1_init_26 (fun H locs w => ?_)
  replace w : Wy G s (Ah h0 s.heap.size) [(h0, pcE)] H locs := w
  refine lv_aload_n hx hb dX1_init_29 rfl (lv_at hl 0 rfl) ?_
  refine lv_iconst (v := 0) hx hb dX1_init_30 (by decide) ?_
  refine ky_put (v := .int 0) (ty := .int) C w inlX1 tyX1 tyX1_ok nmX1 0 rfl rfl 5 (by decide) rfl kc_3_15 rfl (by decide +kernel) rfl rfl (Nat.le_of_ble_eq_true rfl) dX1_init_31 (fun H locs w => ?_)
  replace w : Wy G s (Ah h0 s.heap.size) [(h0, pcE)] H locs := w
  refine lv_aload_n hx hb dX1_init_34 rfl (lv_at hl 0 rfl) ?_
  refine lv_iconst (v := 0) hx hb dX1_init_35 (by decide) ?_
  refine ky_put (v := .int 0) (ty := .int) C w inlX1 tyX1 tyX1_ok nmX1 0 rfl rfl 6 (by decide) rfl kc_3_16 rfl (by decide +kernel) rfl rfl (Nat.le_of_ble_eq_true rfl) dX1_init_36 (fun H locs w => ?_)
  replace w : Wy G s (Ah h0 s.heap.size) [(h0, pcE)] H locs := w
  refine lv_aload_n hx hb dX1_init_39 rfl (lv_at hl 0 rfl) ?_
  refine lv_iconst (v := 0) hx hb dX1_init_40 (by decide) ?_
  refine ky_put (v := .int 0) (ty := .int) C w inlX1 tyX1 tyX1_ok nmX1 0 rfl rfl 7 (by decide) rfl kc_3_17 rfl (by decide +kernel) rfl rfl (Nat.le_of_ble_eq_true rfl) dX1_init_41 (fun H locs w => ?_)
  replace w : Wy G s (Ah h0 s.heap.size) [(h0, pcE)] H locs := w
  refine lv_aload_n hx hb dX1_init_44 rfl (lv_at hl 0 rfl) ?_
  refine lv_iconst (v := 0) hx hb dX1_init_45 (by decide) ?_
  refine ky_put (v := .int 0) (ty := .int) C w inlX1 tyX1 tyX1_ok nmX1 0 rfl rfl 8 (by decide) rfl kc_3_18 rfl (by decide +kernel) rfl rfl (Nat.le_of_ble_eq_true rfl) dX1_init_46 (fun H locs w => ?_)
  replace w : Wy G s (Ah h0 s.heap.size) [(h0, pcE)] H locs := w
  exact W.vret hx hb C.2.2.1 (fun t9 ht hW => ⟨⟨[(h0, pcE)], rfl, rfl, by rw [ht]; exact w.1, w.2.1⟩, w.2.2.1.F ht⟩) w.2.2.1.2.2 dX1_init_49 C.2.2.2
set_option maxHeartbeats 4000000 in
set_option maxRecDepth 100000 in
theorem k_X0_init (l : Launch) (G : GG) (t h0 sz : Nat) (hh : gz G ≤ h0) : Met l yX0_init (Cond.code yX0_init cX0_init 1 none :: wsL_law) (rmc 1 0 0) (va_Pc [.ref h0] (Py G t sz h0 (.inr (0, [.int 0, .int 0, .int 0, .int 0, .int 0, .int 0])))) (va_Qv (PW_0 h0) (Qy G (Ah h0 sz)) (Ah h0 sz)) 0 0 (Ah h0 sz) := by
  refine Met.ofW (cc := cX0_init) (maxL := 1) (ret := none) (by decide) rfl ?_
  intro p e s m args below meth c s₁ B hml hv
  obtain ⟨rfl, hsz, hE, hF, hP⟩ := hv
  subst hsz
  have C := Cy.of (own := RX0) hE rfl hml B
  have hini : meth.name = "<init>" := (name_of_methodNamed B.named B.method).1
  have hAz : ∀ q, Ah h0 s.heap.size q → Zf G q := fun q h => h.elim (fun e => by rw [e]; exact hh) (fun z => Nat.le_trans hE.2.2.1 z)
  have w : Wy G s (Ah h0 s.heap.size) [(h0, .inr (0, [.int 0, .int 0, .int 0, .int 0, .int 0, .int 0]))] s.heap [] := ⟨hP, d_one, va_S.rf, fun q h => Or.inr h⟩
  have hl := lv_entry [.ref h0] (n := 1) (Nat.le_of_ble_eq_true rfl)
  rw [lg_entry_eq]
  generalize (lg_sl [.ref h0] ++ List.replicate (1 - (lg_sl [.ref h0]).length) Slot.unset).toArray = ls at hl ⊢
  have hl : lv_has ls 1 [(0, .ref h0)] := hl
  have hx := C.1.1
  have hb := C.1.2.1
  show W p l e (rmc 1 0 0) s m _ below meth c s.heap [] 0 0 _ _
  refine lv_aload_n hx hb dX0_init_0 rfl (lv_at hl 0 rfl) ?_
  refine W.objInit hx hb C.1.2.2.2.1 (C.tb kc_3_21) (C.tb kc_1_11) (C.tb kc_1_12) rfl (by rw [hml]; exact hl.1) rfl dX0_init_1 (Nat.le_of_ble_eq_true rfl) (Nat.le_of_ble_eq_true rfl) ?_
  refine W.eq (g2 := F0 m 4 ls []) rfl ?_
  refine lv_aload_n hx hb dX0_init_4 rfl (lv_at hl 0 rfl) ?_
  refine lv_iconst (v := 0) hx hb dX0_init_5 (by decide) ?_
  refine ky_put (v := .int 0) (ty := .int) C w inlX0 tyX0 tyX0_ok nmX0 0 rfl rfl 0 (by decide) rfl kc_3_22 rfl (by decide +kernel) rfl rfl (Nat.le_of_ble_eq_true rfl) dX0_init_6 (fun H locs w => ?_)
  replace w : Wy G s (Ah h0 s.heap.size) [(h0, .inr (0, [.int 0, .int 0, .int 0, .int 0, .int 0, .int 0]))] H locs := w
  refine lv_aload_n hx hb dX0_init_9 rfl (lv_at hl 0 rfl) ?_
  refine lv_iconst (v := 0) hx hb dX0_init_10 (by decide) ?_
  refine ky_put (v := .int 0) (ty := .int) C w inlX0 tyX0 tyX0_ok nmX0 0 rfl rfl 1 (by decide) rfl kc_3_23 rfl (by decide +kernel) rfl rfl (Nat.le_of_ble_eq_true rfl) dX0_init_11 (fun H locs w => ?_)
  replace w : Wy G s (Ah h0 s.heap.size) [(h0, .inr (0, [.int 0, .int 0, .int 0, .int 0, .int 0, .int 0]))] H locs := w
  refine lv_aload_n hx hb dX0_init_14 rfl (lv_at hl 0 rfl) ?_
  refine lv_iconst (v := 0) hx hb dX0_init_15 (by decide) ?_
  refine ky_put (v := .int 0) (ty := .int) C w inlX0 tyX0 tyX0_ok nmX0 0 rfl rfl 2 (by decide) rfl kc_4_0 rfl (by decide +kernel) rfl rfl (Nat.le_of_ble_eq_true rfl) dX0_init_16 (fun H locs w => ?_)
  replace w : Wy G s (Ah h0 s.heap.size) [(h0, .inr (0, [.int 0, .int 0, .int 0, .int 0, .int 0, .int 0]))] H locs := w
  refine lv_aload_n hx hb dX0_init_19 rfl (lv_at hl 0 rfl) ?_
  refine lv_iconst (v := 0) hx hb dX0_init_20 (by decide) ?_
  refine ky_put (v := .int 0) (ty := .int) C w inlX0 tyX0 tyX0_ok nmX0 0 rfl rfl 3 (by decide) rfl kc_4_1 rfl (by decide +kernel) rfl rfl (Nat.le_of_ble_eq_true rfl) dX0_init_21 (fun H locs w => ?_)
  replace w : Wy G s (Ah h0 s.heap.size) [(h0, .inr (0, [.int 0, .int 0, .int 0, .int 0, .int 0, .int 0]))] H locs := w
  refine lv_aload_n hx hb dX0_init_24 rfl (lv_at hl 0 rfl) ?_
  refine lv_iconst (v := 0) hx hb dX0_init_25 (by decide) ?_
  refine ky_put (v := .int 0) (ty := .int) C w inlX0 tyX0 tyX0_ok nmX0 0 rfl rfl 4 (by decide) rfl kc_4_2 rfl (by decide +kernel) rfl rfl (Nat.le_of_ble_eq_true rfl) dX0_init_26 (fun H locs w => ?_)
  replace w : Wy G s (Ah h0 s.heap.size) [(h0, .inr (0, [.int 0, .int 0, .int 0, .int 0, .int 0, .int 0]))] H locs := w
  refine lv_aload_n hx hb dX0_init_29 rfl (lv_at hl 0 rfl) ?_
  refine lv_iconst (v := 0) hx hb dX0_init_30 (by decide) ?_
  refine ky_put (v := .int 0) (ty := .int) C w inlX0 tyX0 tyX0_ok nmX0 0 rfl rfl 5 (by decide) rfl kc_4_3 rfl (by decide +kernel) rfl rfl (Nat.le_of_ble_eq_true rfl) dX0_init_31 (fun H locs w => ?_)
  replace w : Wy G s (Ah h0 s.heap.size) [(h0, .inr (0, [.int 0, .int 0, .int 0, .int 0, .int 0, .int 0]))] H locs := w
  exact W.vret hx hb C.2.2.1 (fun t9 ht hW => ⟨⟨[(h0, .inr (0, [.int 0, .int 0, .int 0, .int 0, .int 0, .int 0]))], rfl, rfl, by rw [ht]; exact w.1, w.2.1⟩, w.2.2.1.F ht⟩) w.2.2.1.2.2 dX0_init_34 C.2.2.2
set_option maxHeartbeats 4000000 in
set_option maxRecDepth 100000 in
theorem k_X2_init (l : Launch) (G : GG) (t h0 sz : Nat) (hh : gz G ≤ h0) : Met l yX2_init (Cond.code yX2_init cX2_init 1 none :: wsL_law) (rmc 1 1 3) (va_Pc [.ref h0] (Py G t sz h0 (.inr (2, [.int 0, .null, .int 0])))) (va_Qv (PW_2 G h0) (Qy G (Ah h0 sz)) (Ah h0 sz)) 1 3 (Ah h0 sz) := by
  refine Met.ofW (cc := cX2_init) (maxL := 1) (ret := none) (by decide) rfl ?_
  intro p e s m args below meth c s₁ B hml hv
  obtain ⟨rfl, hsz, hE, hF, hP⟩ := hv
  subst hsz
  have C := Cy.of (own := RX2) hE rfl hml B
  have hini : meth.name = "<init>" := (name_of_methodNamed B.named B.method).1
  have hAz : ∀ q, Ah h0 s.heap.size q → Zf G q := fun q h => h.elim (fun e => by rw [e]; exact hh) (fun z => Nat.le_trans hE.2.2.1 z)
  have w : Wy G s (Ah h0 s.heap.size) [(h0, .inr (2, [.int 0, .null, .int 0]))] s.heap [] := ⟨hP, d_one, va_S.rf, fun q h => Or.inr h⟩
  have hl := lv_entry [.ref h0] (n := 1) (Nat.le_of_ble_eq_true rfl)
  rw [lg_entry_eq]
  generalize (lg_sl [.ref h0] ++ List.replicate (1 - (lg_sl [.ref h0]).length) Slot.unset).toArray = ls at hl ⊢
  have hl : lv_has ls 1 [(0, .ref h0)] := hl
  have hx := C.1.1
  have hb := C.1.2.1
  show W p l e (rmc 1 1 3) s m _ below meth c s.heap [] 0 0 _ _
  refine lv_aload_n hx hb dX2_init_0 rfl (lv_at hl 0 rfl) ?_
  refine W.objInit hx hb C.1.2.2.2.1 (C.tb kc_4_6) (C.tb kc_1_11) (C.tb kc_1_12) rfl (by rw [hml]; exact hl.1) rfl dX2_init_1 (Nat.le_of_ble_eq_true rfl) (Nat.le_of_ble_eq_true rfl) ?_
  refine W.eq (g2 := F0 m 4 ls []) rfl ?_
  refine lv_aload_n hx hb dX2_init_4 rfl (lv_at hl 0 rfl) ?_
  refine lv_iconst (v := 0) hx hb dX2_init_5 (by decide) ?_
  refine ky_put (v := .int 0) (ty := .int) C w inlX2 tyX2 tyX2_ok nmX2 0 rfl rfl 0 (by decide) rfl kc_4_7 rfl (by decide +kernel) rfl rfl (Nat.le_of_ble_eq_true rfl) dX2_init_6 (fun H locs w => ?_)
  replace w : Wy G s (Ah h0 s.heap.size) [(h0, .inr (2, [.int 0, .null, .int 0]))] H locs := w
  refine lv_aload_n hx hb dX2_init_9 rfl (lv_at hl 0 rfl) ?_
  refine lv_iconst (v := 3) hx hb dX2_init_10 (by decide) ?_
  refine ky_newI (N := 3) C w kc_4_8 (by decide) (by decide) (Nat.le_of_ble_eq_true rfl) (Nat.le_of_ble_eq_true rfl) (Nat.le_of_ble_eq_true rfl) dX2_init_11 (fun q11 H w => ?_)
  replace w : Wy G s (Ah h0 s.heap.size) [(h0, .inr (2, [.int 0, .null, .int 0])), (q11, .inl (gI G, 3, .inl (fun _ => 0)))] H _ := w
  refine W.widen (k := 1) (n := 3) (by omega) (by omega) ?_
  refine ky_putF (v := .ref q11) (ty := .array .int) C w inlX2 tyX2 tyX2_ok nmX2 hini 0 rfl rfl 1 (by decide) rfl rfl kc_4_9 rfl (by decide +kernel) rfl rfl (Nat.le_of_ble_eq_true rfl) dX2_init_13 (fun H locs w => ?_)
  replace w : Wy G s (Ah h0 s.heap.size) [(h0, .inr (2, [.int 0, .ref q11, .int 0])), (q11, .inl (gI G, 3, .inl (fun _ => 0)))] H locs := w
  refine lv_aload_n hx hb dX2_init_16 rfl (lv_at hl 0 rfl) ?_
  refine lv_iconst (v := 0) hx hb dX2_init_17 (by decide) ?_
  refine ky_put (v := .int 0) (ty := .int) C w inlX2 tyX2 tyX2_ok nmX2 0 rfl rfl 2 (by decide) rfl kc_4_10 rfl (by decide +kernel) rfl rfl (Nat.le_of_ble_eq_true rfl) dX2_init_18 (fun H locs w => ?_)
  replace w : Wy G s (Ah h0 s.heap.size) [(h0, .inr (2, [.int 0, .ref q11, .int 0])), (q11, .inl (gI G, 3, .inl (fun _ => 0)))] H locs := w
  exact W.vret hx hb C.2.2.1 (fun t9 ht hW => ⟨⟨[(h0, .inr (2, [.int 0, .ref q11, .int 0])), (q11, .inl (gI G, 3, .inl (fun _ => 0)))], rfl, ⟨_, rfl⟩, by rw [ht]; exact w.1, w.2.1⟩, w.2.2.1.F ht⟩) w.2.2.1.2.2 dX2_init_21 C.2.2.2
set_option maxHeartbeats 4000000 in
set_option maxRecDepth 100000 in
theorem k_X3_init (l : Launch) (G : GG) (t h0 sz : Nat) (hh : gz G ≤ h0) : Met l yX3_init (Cond.code yX3_init cX3_init 1 none :: wsL_law) (rmc 2 2 109) (va_Pc [.ref h0] (Py G t sz h0 (.inr (3, [.int 0, .null, .int 0, .int 0, .null])))) (va_Qv (PW_3 G h0) (Qy G (Ah h0 sz)) (Ah h0 sz)) 2 109 (Ah h0 sz) := by
  refine Met.ofW (cc := cX3_init) (maxL := 1) (ret := none) (by decide) rfl ?_
  intro p e s m args below meth c s₁ B hml hv
  obtain ⟨rfl, hsz, hE, hF, hP⟩ := hv
  subst hsz
  have C := Cy.of (own := RX3) hE rfl hml B
  have hini : meth.name = "<init>" := (name_of_methodNamed B.named B.method).1
  have hAz : ∀ q, Ah h0 s.heap.size q → Zf G q := fun q h => h.elim (fun e => by rw [e]; exact hh) (fun z => Nat.le_trans hE.2.2.1 z)
  have w : Wy G s (Ah h0 s.heap.size) [(h0, .inr (3, [.int 0, .null, .int 0, .int 0, .null]))] s.heap [] := ⟨hP, d_one, va_S.rf, fun q h => Or.inr h⟩
  have hl := lv_entry [.ref h0] (n := 1) (Nat.le_of_ble_eq_true rfl)
  rw [lg_entry_eq]
  generalize (lg_sl [.ref h0] ++ List.replicate (1 - (lg_sl [.ref h0]).length) Slot.unset).toArray = ls at hl ⊢
  have hl : lv_has ls 1 [(0, .ref h0)] := hl
  have hx := C.1.1
  have hb := C.1.2.1
  show W p l e (rmc 2 2 109) s m _ below meth c s.heap [] 0 0 _ _
  refine lv_aload_n hx hb dX3_init_0 rfl (lv_at hl 0 rfl) ?_
  refine W.objInit hx hb C.1.2.2.2.1 (C.tb kc_4_13) (C.tb kc_1_11) (C.tb kc_1_12) rfl (by rw [hml]; exact hl.1) rfl dX3_init_1 (Nat.le_of_ble_eq_true rfl) (Nat.le_of_ble_eq_true rfl) ?_
  refine W.eq (g2 := F0 m 4 ls []) rfl ?_
  refine lv_aload_n hx hb dX3_init_4 rfl (lv_at hl 0 rfl) ?_
  refine lv_iconst (v := 0) hx hb dX3_init_5 (by decide) ?_
  refine ky_put (v := .int 0) (ty := .int) C w inlX3 tyX3 tyX3_ok nmX3 0 rfl rfl 0 (by decide) rfl kc_4_14 rfl (by decide +kernel) rfl rfl (Nat.le_of_ble_eq_true rfl) dX3_init_6 (fun H locs w => ?_)
  replace w : Wy G s (Ah h0 s.heap.size) [(h0, .inr (3, [.int 0, .null, .int 0, .int 0, .null]))] H locs := w
  refine lv_aload_n hx hb dX3_init_9 rfl (lv_at hl 0 rfl) ?_
  refine ky_new (fs := [.int 0, .int 0, .int 0, .int 0, .int 0, .int 0, .int 0, .int 0, .int 0]) C w inlX1 tyX1 tyX1_ok kc_4_15 kc_2_0 kc_2_1 (ci := 1) rfl (fun j hj => by rcases (show j = 0 ∨ j = 1 ∨ j = 2 ∨ j = 3 ∨ j = 4 ∨ j = 5 ∨ j = 6 ∨ j = 7 ∨ j = 8 by omega) with rfl | rfl | rfl | rfl | rfl | rfl | rfl | rfl | rfl <;> rfl) (Nat.le_of_ble_eq_true rfl) (Nat.le_of_ble_eq_true rfl) dX3_init_10 (fun q10 H w => ?_)
  refine W.widen (k := 1) (n := 9) (by omega) (by omega) ?_
  refine lv_dup hx hb dX3_init_13 rfl ?_
  refine ky_ctor (ws := [(h0, .inr (3, [.int 0, .null, .int 0, .int 0, .null]))]) (PW := PW_1 q10) C hF hAz w hl.1 (k_X1_init l G t q10 _ (hAz _ (w.2.1.2 1 _ rfl))) kc_3_8 kc_2_1 knc_43 kc_3_7 rfl hdc_X1_init ⟨by decide, by decide⟩ ⟨Nat.le_of_ble_eq_true rfl, Nat.le_of_ble_eq_true rfl⟩ (Nat.le_of_ble_eq_true rfl) dX3_init_14 (fun wq10 H locs hpw w => ?_)
  obtain rfl := hpw
  replace w : Wy G s (Ah h0 s.heap.size) [(h0, .inr (3, [.int 0, .null, .int 0, .int 0, .null])), (q10, pcE)] H locs := w
  refine W.widen (k := 1) (n := 9) (by omega) (by omega) ?_
  refine ky_putF (v := .ref q10) (ty := .object "TowThatJerks$Piece") C w inlX3 tyX3 tyX3_ok nmX3 hini 0 rfl rfl 1 (by decide) rfl rfl kc_4_16 rfl (by decide +kernel) rfl rfl (Nat.le_of_ble_eq_true rfl) dX3_init_17 (fun H locs w => ?_)
  replace w : Wy G s (Ah h0 s.heap.size) [(h0, .inr (3, [.int 0, .ref q10, .int 0, .int 0, .null])), (q10, pcE)] H locs := w
  refine lv_aload_n hx hb dX3_init_20 rfl (lv_at hl 0 rfl) ?_
  refine lv_iconst (v := 0) hx hb dX3_init_21 (by decide) ?_
  refine ky_put (v := .int 0) (ty := .int) C w inlX3 tyX3 tyX3_ok nmX3 0 rfl rfl 2 (by decide) rfl kc_4_17 rfl (by decide +kernel) rfl rfl (Nat.le_of_ble_eq_true rfl) dX3_init_22 (fun H locs w => ?_)
  replace w : Wy G s (Ah h0 s.heap.size) [(h0, .inr (3, [.int 0, .ref q10, .int 0, .int 0, .null])), (q10, pcE)] H locs := w
  refine lv_aload_n hx hb dX3_init_25 rfl (lv_at hl 0 rfl) ?_
  refine lv_iconst (v := 0) hx hb dX3_init_26 (by decide) ?_
  refine ky_put (v := .int 0) (ty := .int) C w inlX3 tyX3 tyX3_ok nmX3 0 rfl rfl 3 (by decide) rfl kc_4_18 rfl (by decide +kernel) rfl rfl (Nat.le_of_ble_eq_true rfl) dX3_init_27 (fun H locs w => ?_)
  replace w : Wy G s (Ah h0 s.heap.size) [(h0, .inr (3, [.int 0, .ref q10, .int 0, .int 0, .null])), (q10, pcE)] H locs := w
  refine lv_aload_n hx hb dX3_init_30 rfl (lv_at hl 0 rfl) ?_
  refine lv_bipush (v := 100) hx hb dX3_init_31 (by decide) ?_
  refine ky_newI (N := 100) C w kc_4_8 (by decide) (by decide) (Nat.le_of_ble_eq_true rfl) (Nat.le_of_ble_eq_true rfl) (Nat.le_of_ble_eq_true rfl) dX3_init_33 (fun q33 H w => ?_)
  replace w : Wy G s (Ah h0 s.heap.size) [(h0, .inr (3, [.int 0, .ref q10, .int 0, .int 0, .null])), (q10, pcE), (q33, .inl (gI G, 100, .inl (fun _ => 0)))] H _ := w
  refine W.widen (k := 2) (n := 109) (by omega) (by omega) ?_
  refine ky_putF (v := .ref q33) (ty := .array .int) C w inlX3 tyX3 tyX3_ok nmX3 hini 0 rfl rfl 4 (by decide) rfl rfl kc_4_19 rfl (by decide +kernel) rfl rfl (Nat.le_of_ble_eq_true rfl) dX3_init_35 (fun H locs w => ?_)
  replace w : Wy G s (Ah h0 s.heap.size) [(h0, .inr (3, [.int 0, .ref q10, .int 0, .int 0, .ref q33])), (q10, pcE), (q33, .inl (gI G, 100, .inl (fun _ => 0)))] H locs := w
  exact W.vret hx hb C.2.2.1 (fun t9 ht hW => ⟨⟨[(h0, .inr (3, [.int 0, .ref q10, .int 0, .int 0, .ref q33])), (q10, pcE), (q33, .inl (gI G, 100, .inl (fun _ => 0)))], rfl, ⟨_, _, rfl⟩, by rw [ht]; exact w.1, w.2.1⟩, w.2.2.1.F ht⟩) w.2.2.1.2.2 dX3_init_38 C.2.2.2
set_option maxHeartbeats 4000000 in
set_option maxRecDepth 100000 in
theorem k_X4_init (l : Launch) (G : GG) (t h0 sz : Nat) (hh : gz G ≤ h0) : Met l yX4_init (Cond.code yX4_init cX4_init 2 none :: wsL_law) (rmc 2 8 67) (va_Pc [.ref h0] (Py G t sz h0 (.inr (4, [.null, .int 0, .null, .int 0, .int 0, .int 0, .int 0, .int 0, .int 0])))) (va_Qv (PW_4 G h0) (Qy G (Ah h0 sz)) (Ah h0 sz)) 8 67 (Ah h0 sz) := by
  refine Met.ofW (cc := cX4_init) (maxL := 2) (ret := none) (by decide) rfl ?_
  intro p e s m args below meth c s₁ B hml hv
  obtain ⟨rfl, hsz, hE, hF, hP⟩ := hv
  subst hsz
  have C := Cy.of (own := RX4) hE rfl hml B
  have hini : meth.name = "<init>" := (name_of_methodNamed B.named B.method).1
  have hAz : ∀ q, Ah h0 s.heap.size q → Zf G q := fun q h => h.elim (fun e => by rw [e]; exact hh) (fun z => Nat.le_trans hE.2.2.1 z)
  have w : Wy G s (Ah h0 s.heap.size) [(h0, .inr (4, [.null, .int 0, .null, .int 0, .int 0, .int 0, .int 0, .int 0, .int 0]))] s.heap [] := ⟨hP, d_one, va_S.rf, fun q h => Or.inr h⟩
  have hl := lv_entry [.ref h0] (n := 2) (Nat.le_of_ble_eq_true rfl)
  rw [lg_entry_eq]
  generalize (lg_sl [.ref h0] ++ List.replicate (2 - (lg_sl [.ref h0]).length) Slot.unset).toArray = ls at hl ⊢
  have hl : lv_has ls 2 [(0, .ref h0)] := hl
  have hx := C.1.1
  have hb := C.1.2.1
  show W p l e (rmc 2 8 67) s m _ below meth c s.heap [] 0 0 _ _
  refine lv_aload_n hx hb dX4_init_0 rfl (lv_at hl 0 rfl) ?_
  refine W.objInit hx hb C.1.2.2.2.1 (C.tb kc_2_14) (C.tb kc_1_11) (C.tb kc_1_12) rfl (by rw [hml]; exact hl.1) rfl dX4_init_1 (Nat.le_of_ble_eq_true rfl) (Nat.le_of_ble_eq_true rfl) ?_
  refine W.eq (g2 := F0 m 4 ls []) rfl ?_
  refine lv_aload_n hx hb dX4_init_4 rfl (lv_at hl 0 rfl) ?_
  refine lv_bipush (v := 6) hx hb dX4_init_5 (by decide) ?_
  refine ky_newQ (N := 6) (i0 := 1) (cR := gP G) C w rfl kc_2_15 hF.2.2.2.1 (by decide) (by decide) (Nat.le_of_ble_eq_true rfl) (Nat.le_of_ble_eq_true rfl) (Nat.le_of_ble_eq_true rfl) dX4_init_7 (fun q7 H w => ?_)
  replace w : Wy G s (Ah h0 s.heap.size) [(h0, .inr (4, [.null, .int 0, .null, .int 0, .int 0, .int 0, .int 0, .int 0, .int 0])), (q7, .inl (gP G, 6, rfs (fun _ => none)))] H _ := w
  refine W.widen (k := 1) (n := 6) (by omega) (by omega) ?_
  refine ky_putF (v := .ref q7) (ty := .array (.object "TowThatJerks$Piece")) C w inlX4 tyX4 tyX4_ok nmX4 hini 0 rfl rfl 0 (by decide) rfl rfl kc_2_16 rfl (by decide +kernel) rfl rfl (Nat.le_of_ble_eq_true rfl) dX4_init_10 (fun H locs w => ?_)
  replace w : Wy G s (Ah h0 s.heap.size) [(h0, .inr (4, [.ref q7, .int 0, .null, .int 0, .int 0, .int 0, .int 0, .int 0, .int 0])), (q7, .inl (gP G, 6, rfs (fun _ => none)))] H locs := w
  refine lv_aload_n hx hb dX4_init_13 rfl (lv_at hl 0 rfl) ?_
  refine lv_iconst (v := 0) hx hb dX4_init_14 (by decide) ?_
  refine ky_put (v := .int 0) (ty := .int) C w inlX4 tyX4 tyX4_ok nmX4 0 rfl rfl 1 (by decide) rfl kc_2_17 rfl (by decide +kernel) rfl rfl (Nat.le_of_ble_eq_true rfl) dX4_init_15 (fun H locs w => ?_)
  replace w : Wy G s (Ah h0 s.heap.size) [(h0, .inr (4, [.ref q7, .int 0, .null, .int 0, .int 0, .int 0, .int 0, .int 0, .int 0])), (q7, .inl (gP G, 6, rfs (fun _ => none)))] H locs := w
  refine lv_aload_n hx hb dX4_init_18 rfl (lv_at hl 0 rfl) ?_
  refine ky_gets C hF hAz w knc_0 dX4_init_19 ?_
  refine ky_clone C hF hAz w hl.1 kc_2_18 kc_2_19 kc_2_20 kc_2_21 kc_2_22 (Nat.le_of_ble_eq_true rfl) (Nat.le_of_ble_eq_true rfl) (Nat.le_of_ble_eq_true rfl) (Nat.le_of_ble_eq_true rfl) dX4_init_22 (fun q22 H w => ?_)
  replace w : Wy G s (Ah h0 s.heap.size) [(h0, .inr (4, [.ref q7, .int 0, .null, .int 0, .int 0, .int 0, .int 0, .int 0, .int 0])), (q7, .inl (gP G, 6, rfs (fun _ => none))), (q22, .inl (gI G, 7, .inl firstT))] H _ := w
  refine W.widen (k := 2) (n := 13) (by omega) (by omega) ?_
  refine ky_castA C w kc_2_23 (q0 := 2) rfl dX4_init_25 ?_
  refine ky_putF (v := .ref q22) (ty := .array .int) C w inlX4 tyX4 tyX4_ok nmX4 hini 0 rfl rfl 2 (by decide) rfl rfl kc_3_0 rfl (by decide +kernel) rfl rfl (Nat.le_of_ble_eq_true rfl) dX4_init_28 (fun H locs w => ?_)
  replace w : Wy G s (Ah h0 s.heap.size) [(h0, .inr (4, [.ref q7, .int 0, .ref q22, .int 0, .int 0, .int 0, .int 0, .int 0, .int 0])), (q7, .inl (gP G, 6, rfs (fun _ => none))), (q22, .inl (gI G, 7, .inl firstT))] H locs := w
  refine lv_aload_n hx hb dX4_init_31 rfl (lv_at hl 0 rfl) ?_
  refine lv_iconst (v := 0) hx hb dX4_init_32 (by decide) ?_
  refine ky_put (v := .int 0) (ty := .int) C w inlX4 tyX4 tyX4_ok nmX4 0 rfl rfl 3 (by decide) rfl kc_3_1 rfl (by decide +kernel) rfl rfl (Nat.le_of_ble_eq_true rfl) dX4_init_33 (fun H locs w => ?_)
  replace w : Wy G s (Ah h0 s.heap.size) [(h0, .inr (4, [.ref q7, .int 0, .ref q22, .int 0, .int 0, .int 0, .int 0, .int 0, .int 0])), (q7, .inl (gP G, 6, rfs (fun _ => none))), (q22, .inl (gI G, 7, .inl firstT))] H locs := w
  refine lv_aload_n hx hb dX4_init_36 rfl (lv_at hl 0 rfl) ?_
  refine lv_iconst (v := 0) hx hb dX4_init_37 (by decide) ?_
  refine ky_put (v := .int 0) (ty := .int) C w inlX4 tyX4 tyX4_ok nmX4 0 rfl rfl 4 (by decide) rfl kc_3_2 rfl (by decide +kernel) rfl rfl (Nat.le_of_ble_eq_true rfl) dX4_init_38 (fun H locs w => ?_)
  replace w : Wy G s (Ah h0 s.heap.size) [(h0, .inr (4, [.ref q7, .int 0, .ref q22, .int 0, .int 0, .int 0, .int 0, .int 0, .int 0])), (q7, .inl (gP G, 6, rfs (fun _ => none))), (q22, .inl (gI G, 7, .inl firstT))] H locs := w
  refine lv_aload_n hx hb dX4_init_41 rfl (lv_at hl 0 rfl) ?_
  refine lv_iconst (v := 0) hx hb dX4_init_42 (by decide) ?_
  refine ky_put (v := .int 0) (ty := .int) C w inlX4 tyX4 tyX4_ok nmX4 0 rfl rfl 5 (by decide) rfl kc_3_3 rfl (by decide +kernel) rfl rfl (Nat.le_of_ble_eq_true rfl) dX4_init_43 (fun H locs w => ?_)
  replace w : Wy G s (Ah h0 s.heap.size) [(h0, .inr (4, [.ref q7, .int 0, .ref q22, .int 0, .int 0, .int 0, .int 0, .int 0, .int 0])), (q7, .inl (gP G, 6, rfs (fun _ => none))), (q22, .inl (gI G, 7, .inl firstT))] H locs := w
  refine lv_aload_n hx hb dX4_init_46 rfl (lv_at hl 0 rfl) ?_
  refine lv_iconst (v := 0) hx hb dX4_init_47 (by decide) ?_
  refine ky_put (v := .int 0) (ty := .int) C w inlX4 tyX4 tyX4_ok nmX4 0 rfl rfl 6 (by decide) rfl kc_3_4 rfl (by decide +kernel) rfl rfl (Nat.le_of_ble_eq_true rfl) dX4_init_48 (fun H locs w => ?_)
  replace w : Wy G s (Ah h0 s.heap.size) [(h0, .inr (4, [.ref q7, .int 0, .ref q22, .int 0, .int 0, .int 0, .int 0, .int 0, .int 0])), (q7, .inl (gP G, 6, rfs (fun _ => none))), (q22, .inl (gI G, 7, .inl firstT))] H locs := w
  refine lv_aload_n hx hb dX4_init_51 rfl (lv_at hl 0 rfl) ?_
  refine lv_bipush (v := -4) hx hb dX4_init_52 (by decide) ?_
  refine ky_put (v := .int (-4)) (ty := .int) C w inlX4 tyX4 tyX4_ok nmX4 0 rfl rfl 7 (by decide) rfl kc_3_5 rfl (by decide +kernel) rfl rfl (Nat.le_of_ble_eq_true rfl) dX4_init_54 (fun H locs w => ?_)
  replace w : Wy G s (Ah h0 s.heap.size) [(h0, .inr (4, [.ref q7, .int 0, .ref q22, .int 0, .int 0, .int 0, .int 0, .int (-4), .int 0])), (q7, .inl (gP G, 6, rfs (fun _ => none))), (q22, .inl (gI G, 7, .inl firstT))] H locs := w
  refine lv_aload_n hx hb dX4_init_57 rfl (lv_at hl 0 rfl) ?_
  refine lv_iconst (v := 0) hx hb dX4_init_58 (by decide) ?_
  refine ky_put (v := .int 0) (ty := .int) C w inlX4 tyX4 tyX4_ok nmX4 0 rfl rfl 8 (by decide) rfl kc_3_6 rfl (by decide +kernel) rfl rfl (Nat.le_of_ble_eq_true rfl) dX4_init_59 (fun H locs w => ?_)
  replace w : Wy G s (Ah h0 s.heap.size) [(h0, .inr (4, [.ref q7, .int 0, .ref q22, .int 0, .int 0, .int 0, .int 0, .int (-4), .int 0])), (q7, .inl (gP G, 6, rfs (fun _ => none))), (q22, .inl (gI G, 7, .inl firstT))] H locs := w
  refine lv_iconst (v := 0) hx hb dX4_init_62 (by decide) ?_
  refine lv_istore_n (lv' := [(1, .int 0), (0, .ref h0)]) hx hb dX4_init_63 rfl hl (by decide) rfl (fun ls hl => ?_)
  refine lv_iload_n hx hb dX4_init_64 rfl (lv_at hl 0 rfl) ?_
  refine lv_bipush (v := 6) hx hb dX4_init_65 (by decide) ?_
  refine lv_icmp_ge (tgt := 89) hx hb dX4_init_67 (by decide) (fun c9 => absurd c9 (by decide)) (fun _ => ?_)
  refine lv_aload_n hx hb dX4_init_70 rfl (lv_at hl 1 rfl) ?_
  refine ky_get C w inlX4 0 rfl rfl 0 (by decide) rfl kc_2_16 rfl dX4_init_71 ?_
  refine lv_iload_n hx hb dX4_init_74 rfl (lv_at hl 0 rfl) ?_
  refine ky_new (fs := [.int 0, .int 0, .int 0, .int 0, .int 0, .int 0, .int 0, .int 0, .int 0]) C w inlX1 tyX1 tyX1_ok kc_2_15 kc_2_0 kc_2_1 (ci := 1) rfl (fun j hj => by rcases (show j = 0 ∨ j = 1 ∨ j = 2 ∨ j = 3 ∨ j = 4 ∨ j = 5 ∨ j = 6 ∨ j = 7 ∨ j = 8 by omega) with rfl | rfl | rfl | rfl | rfl | rfl | rfl | rfl | rfl <;> rfl) (Nat.le_of_ble_eq_true rfl) (Nat.le_of_ble_eq_true rfl) dX4_init_75 (fun q75_0 H w => ?_)
  refine W.widen (k := 3) (n := 22) (by omega) (by omega) ?_
  refine lv_dup hx hb dX4_init_78 rfl ?_
  refine ky_ctor (ws := [(h0, .inr (4, [.ref q7, .int 0, .ref q22, .int 0, .int 0, .int 0, .int 0, .int (-4), .int 0])), (q7, .inl (gP G, 6, rfs (fun _ => none))), (q22, .inl (gI G, 7, .inl firstT))]) (PW := PW_1 q75_0) C hF hAz w hl.1 (k_X1_init l G t q75_0 _ (hAz _ (w.2.1.2 3 _ rfl))) kc_3_8 kc_2_1 knc_38 kc_3_7 rfl hdc_X1_init ⟨by decide, by decide⟩ ⟨Nat.le_of_ble_eq_true rfl, Nat.le_of_ble_eq_true rfl⟩ (Nat.le_of_ble_eq_true rfl) dX4_init_79 (fun wq75_0 H locs hpw w => ?_)
  obtain rfl := hpw
  replace w : Wy G s (Ah h0 s.heap.size) [(h0, .inr (4, [.ref q7, .int 0, .ref q22, .int 0, .int 0, .int 0, .int 0, .int (-4), .int 0])), (q7, .inl (gP G, 6, rfs (fun _ => none))), (q22, .inl (gI G, 7, .inl firstT)), (q75_0, pcE)] H locs := w
  refine W.widen (k := 3) (n := 22) (by omega) (by omega) ?_
  refine ky_ast C w 1 1 3 1 rfl rfl rfl rfl (vl (by decide)) (k := 0) (by decide) dX4_init_82 (fun H locs w => ?_)
  replace w : Wy G s (Ah h0 s.heap.size) [(h0, .inr (4, [.ref q7, .int 0, .ref q22, .int 0, .int 0, .int 0, .int 0, .int (-4), .int 0])), (q7, .inl (gP G, 6, rfs (va_up (fun _ => none) 0 (some q75_0)))), (q22, .inl (gI G, 7, .inl firstT)), (q75_0, pcE)] H locs := w
  refine lv_iinc (v := 1) (lv' := [(1, .int 1), (0, .ref h0)]) hx hb dX4_init_83 hl (k := 0) rfl (by decide) (by decide) rfl (fun ls hl => ?_)
  refine lv_goto (tgt := 64) hx hb dX4_init_86 (by decide) ?_
  refine lv_iload_n hx hb dX4_init_64 rfl (lv_at hl 0 rfl) ?_
  refine lv_bipush (v := 6) hx hb dX4_init_65 (by decide) ?_
  refine lv_icmp_ge (tgt := 89) hx hb dX4_init_67 (by decide) (fun c9 => absurd c9 (by decide)) (fun _ => ?_)
  refine lv_aload_n hx hb dX4_init_70 rfl (lv_at hl 1 rfl) ?_
  refine ky_get C w inlX4 0 rfl rfl 0 (by decide) rfl kc_2_16 rfl dX4_init_71 ?_
  refine lv_iload_n hx hb dX4_init_74 rfl (lv_at hl 0 rfl) ?_
  refine ky_new (fs := [.int 0, .int 0, .int 0, .int 0, .int 0, .int 0, .int 0, .int 0, .int 0]) C w inlX1 tyX1 tyX1_ok kc_2_15 kc_2_0 kc_2_1 (ci := 1) rfl (fun j hj => by rcases (show j = 0 ∨ j = 1 ∨ j = 2 ∨ j = 3 ∨ j = 4 ∨ j = 5 ∨ j = 6 ∨ j = 7 ∨ j = 8 by omega) with rfl | rfl | rfl | rfl | rfl | rfl | rfl | rfl | rfl <;> rfl) (Nat.le_of_ble_eq_true rfl) (Nat.le_of_ble_eq_true rfl) dX4_init_75 (fun q75_1 H w => ?_)
  refine W.widen (k := 4) (n := 31) (by omega) (by omega) ?_
  refine lv_dup hx hb dX4_init_78 rfl ?_
  refine ky_ctor (ws := [(h0, .inr (4, [.ref q7, .int 0, .ref q22, .int 0, .int 0, .int 0, .int 0, .int (-4), .int 0])), (q7, .inl (gP G, 6, rfs (va_up (fun _ => none) 0 (some q75_0)))), (q22, .inl (gI G, 7, .inl firstT)), (q75_0, pcE)]) (PW := PW_1 q75_1) C hF hAz w hl.1 (k_X1_init l G t q75_1 _ (hAz _ (w.2.1.2 4 _ rfl))) kc_3_8 kc_2_1 knc_38 kc_3_7 rfl hdc_X1_init ⟨by decide, by decide⟩ ⟨Nat.le_of_ble_eq_true rfl, Nat.le_of_ble_eq_true rfl⟩ (Nat.le_of_ble_eq_true rfl) dX4_init_79 (fun wq75_1 H locs hpw w => ?_)
  obtain rfl := hpw
  replace w : Wy G s (Ah h0 s.heap.size) [(h0, .inr (4, [.ref q7, .int 0, .ref q22, .int 0, .int 0, .int 0, .int 0, .int (-4), .int 0])), (q7, .inl (gP G, 6, rfs (va_up (fun _ => none) 0 (some q75_0)))), (q22, .inl (gI G, 7, .inl firstT)), (q75_0, pcE), (q75_1, pcE)] H locs := w
  refine W.widen (k := 4) (n := 31) (by omega) (by omega) ?_
  refine ky_ast C w 1 1 4 1 rfl rfl rfl rfl (vl (by decide)) (k := 1) (by decide) dX4_init_82 (fun H locs w => ?_)
  replace w : Wy G s (Ah h0 s.heap.size) [(h0, .inr (4, [.ref q7, .int 0, .ref q22, .int 0, .int 0, .int 0, .int 0, .int (-4), .int 0])), (q7, .inl (gP G, 6, rfs (va_up (va_up (fun _ => none) 0 (some q75_0)) 1 (some q75_1)))), (q22, .inl (gI G, 7, .inl firstT)), (q75_0, pcE), (q75_1, pcE)] H locs := w
  refine lv_iinc (v := 2) (lv' := [(1, .int 2), (0, .ref h0)]) hx hb dX4_init_83 hl (k := 0) rfl (by decide) (by decide) rfl (fun ls hl => ?_)
  refine lv_goto (tgt := 64) hx hb dX4_init_86 (by decide) ?_
  refine lv_iload_n hx hb dX4_init_64 rfl (lv_at hl 0 rfl) ?_
  refine lv_bipush (v := 6) hx hb dX4_init_65 (by decide) ?_
  refine lv_icmp_ge (tgt := 89) hx hb dX4_init_67 (by decide) (fun c9 => absurd c9 (by decide)) (fun _ => ?_)
  refine lv_aload_n hx hb dX4_init_70 rfl (lv_at hl 1 rfl) ?_
  refine ky_get C w inlX4 0 rfl rfl 0 (by decide) rfl kc_2_16 rfl dX4_init_71 ?_
  refine lv_iload_n hx hb dX4_init_74 rfl (lv_at hl 0 rfl) ?_
  refine ky_new (fs := [.int 0, .int 0, .int 0, .int 0, .int 0, .int 0, .int 0, .int 0, .int 0]) C w inlX1 tyX1 tyX1_ok kc_2_15 kc_2_0 kc_2_1 (ci := 1) rfl (fun j hj => by rcases (show j = 0 ∨ j = 1 ∨ j = 2 ∨ j = 3 ∨ j = 4 ∨ j = 5 ∨ j = 6 ∨ j = 7 ∨ j = 8 by omega) with rfl | rfl | rfl | rfl | rfl | rfl | rfl | rfl | rfl <;> rfl) (Nat.le_of_ble_eq_true rfl) (Nat.le_of_ble_eq_true rfl) dX4_init_75 (fun q75_2 H w => ?_)
  refine W.widen (k := 5) (n := 40) (by omega) (by omega) ?_
  refine lv_dup hx hb dX4_init_78 rfl ?_
  refine ky_ctor (ws := [(h0, .inr (4, [.ref q7, .int 0, .ref q22, .int 0, .int 0, .int 0, .int 0, .int (-4), .int 0])), (q7, .inl (gP G, 6, rfs (va_up (va_up (fun _ => none) 0 (some q75_0)) 1 (some q75_1)))), (q22, .inl (gI G, 7, .inl firstT)), (q75_0, pcE), (q75_1, pcE)]) (PW := PW_1 q75_2) C hF hAz w hl.1 (k_X1_init l G t q75_2 _ (hAz _ (w.2.1.2 5 _ rfl))) kc_3_8 kc_2_1 knc_38 kc_3_7 rfl hdc_X1_init ⟨by decide, by decide⟩ ⟨Nat.le_of_ble_eq_true rfl, Nat.le_of_ble_eq_true rfl⟩ (Nat.le_of_ble_eq_true rfl) dX4_init_79 (fun wq75_2 H locs hpw w => ?_)
  obtain rfl := hpw
  replace w : Wy G s (Ah h0 s.heap.size) [(h0, .inr (4, [.ref q7, .int 0, .ref q22, .int 0, .int 0, .int 0, .int 0, .int (-4), .int 0])), (q7, .inl (gP G, 6, rfs (va_up (va_up (fun _ => none) 0 (some q75_0)) 1 (some q75_1)))), (q22, .inl (gI G, 7, .inl firstT)), (q75_0, pcE), (q75_1, pcE), (q75_2, pcE)] H locs := w
  refine W.widen (k := 5) (n := 40) (by omega) (by omega) ?_
  refine ky_ast C w 1 1 5 1 rfl rfl rfl rfl (vl (by decide)) (k := 2) (by decide) dX4_init_82 (fun H locs w => ?_)
  replace w : Wy G s (Ah h0 s.heap.size) [(h0, .inr (4, [.ref q7, .int 0, .ref q22, .int 0, .int 0, .int 0, .int 0, .int (-4), .int 0])), (q7, .inl (gP G, 6, rfs (va_up (va_up (va_up (fun _ => none) 0 (some q75_0)) 1 (some q75_1)) 2 (some q75_2)))), (q22, .inl (gI G, 7, .inl firstT)), (q75_0, pcE), (q75_1, pcE), (q75_2, pcE)] H locs := w
  refine lv_iinc (v := 3) (lv' := [(1, .int 3), (0, .ref h0)]) hx hb dX4_init_83 hl (k := 0) rfl (by decide) (by decide) rfl (fun ls hl => ?_)
  refine lv_goto (tgt := 64) hx hb dX4_init_86 (by decide) ?_
  refine lv_iload_n hx hb dX4_init_64 rfl (lv_at hl 0 rfl) ?_
  refine lv_bipush (v := 6) hx hb dX4_init_65 (by decide) ?_
  refine lv_icmp_ge (tgt := 89) hx hb dX4_init_67 (by decide) (fun c9 => absurd c9 (by decide)) (fun _ => ?_)
  refine lv_aload_n hx hb dX4_init_70 rfl (lv_at hl 1 rfl) ?_
  refine ky_get C w inlX4 0 rfl rfl 0 (by decide) rfl kc_2_16 rfl dX4_init_71 ?_
  refine lv_iload_n hx hb dX4_init_74 rfl (lv_at hl 0 rfl) ?_
  refine ky_new (fs := [.int 0, .int 0, .int 0, .int 0, .int 0, .int 0, .int 0, .int 0, .int 0]) C w inlX1 tyX1 tyX1_ok kc_2_15 kc_2_0 kc_2_1 (ci := 1) rfl (fun j hj => by rcases (show j = 0 ∨ j = 1 ∨ j = 2 ∨ j = 3 ∨ j = 4 ∨ j = 5 ∨ j = 6 ∨ j = 7 ∨ j = 8 by omega) with rfl | rfl | rfl | rfl | rfl | rfl | rfl | rfl | rfl <;> rfl) (Nat.le_of_ble_eq_true rfl) (Nat.le_of_ble_eq_true rfl) dX4_init_75 (fun q75_3 H w => ?_)
  refine W.widen (k := 6) (n := 49) (by omega) (by omega) ?_
  refine lv_dup hx hb dX4_init_78 rfl ?_
  refine ky_ctor (ws := [(h0, .inr (4, [.ref q7, .int 0, .ref q22, .int 0, .int 0, .int 0, .int 0, .int (-4), .int 0])), (q7, .inl (gP G, 6, rfs (va_up (va_up (va_up (fun _ => none) 0 (some q75_0)) 1 (some q75_1)) 2 (some q75_2)))), (q22, .inl (gI G, 7, .inl firstT)), (q75_0, pcE), (q75_1, pcE), (q75_2, pcE)]) (PW := PW_1 q75_3) C hF hAz w hl.1 (k_X1_init l G t q75_3 _ (hAz _ (w.2.1.2 6 _ rfl))) kc_3_8 kc_2_1 knc_38 kc_3_7 rfl hdc_X1_init ⟨by decide, by decide⟩ ⟨Nat.le_of_ble_eq_true rfl, Nat.le_of_ble_eq_true rfl⟩ (Nat.le_of_ble_eq_true rfl) dX4_init_79 (fun wq75_3 H locs hpw w => ?_)
  obtain rfl := hpw
  replace w : Wy G s (Ah h0 s.heap.size) [(h0, .inr (4, [.ref q7, .int 0, .ref q22, .int 0, .int 0, .int 0, .int 0, .int (-4), .int 0])), (q7, .inl (gP G, 6, rfs (va_up (va_up (va_up (fun _ => none) 0 (some q75_0)) 1 (some q75_1)) 2 (some q75_2)))), (q22, .inl (gI G, 7, .inl firstT)), (q75_0, pcE), (q75_1, pcE), (q75_2, pcE), (q75_3, pcE)] H locs := w
  refine W.widen (k := 6) (n := 49) (by omega) (by omega) ?_
  refine ky_ast C w 1 1 6 1 rfl rfl rfl rfl (vl (by decide)) (k := 3) (by decide) dX4_init_82 (fun H locs w => ?_)
  replace w : Wy G s (Ah h0 s.heap.size) [(h0, .inr (4, [.ref q7, .int 0, .ref q22, .int 0, .int 0, .int 0, .int 0, .int (-4), .int 0])), (q7, .inl (gP G, 6, rfs (va_up (va_up (va_up (va_up (fun _ => none) 0 (some q75_0)) 1 (some q75_1)) 2 (some q75_2)) 3 (some q75_3)))), (q22, .inl (gI G, 7, .inl firstT)), (q75_0, pcE), (q75_1, pcE), (q75_2, pcE), (q75_3, pcE)] H locs := w
  refine lv_iinc (v := 4) (lv' := [(1, .int 4), (0, .ref h0)]) hx hb dX4_init_83 hl (k := 0) rfl (by decide) (by decide) rfl (fun ls hl => ?_)
  refine lv_goto (tgt := 64) hx hb dX4_init_86 (by decide) ?_
  refine lv_iload_n hx hb dX4_init_64 rfl (lv_at hl 0 rfl) ?_
  refine lv_bipush (v := 6) hx hb dX4_init_65 (by decide) ?_
  refine lv_icmp_ge (tgt := 89) hx hb dX4_init_67 (by decide) (fun c9 => absurd c9 (by decide)) (fun _ => ?_)
  refine lv_aload_n hx hb dX4_init_70 rfl (lv_at hl 1 rfl) ?_
  refine ky_get C w inlX4 0 rfl rfl 0 (by decide) rfl kc_2_16 rfl dX4_init_71 ?_
  refine lv_iload_n hx hb dX4_init_74 rfl (lv_at hl 0 rfl) ?_
  refine ky_new (fs := [.int 0, .int 0, .int 0, .int 0, .int 0, .int 0, .int 0, .int 0, .int 0]) C w inlX1 tyX1 tyX1_ok kc_2_15 kc_2_0 kc_2_1 (ci := 1) rfl (fun j hj => by rcases (show j = 0 ∨ j = 1 ∨ j = 2 ∨ j = 3 ∨ j = 4 ∨ j = 5 ∨ j = 6 ∨ j = 7 ∨ j = 8 by omega) with rfl | rfl | rfl | rfl | rfl | rfl | rfl | rfl | rfl <;> rfl) (Nat.le_of_ble_eq_true rfl) (Nat.le_of_ble_eq_true rfl) dX4_init_75 (fun q75_4 H w => ?_)
  refine W.widen (k := 7) (n := 58) (by omega) (by omega) ?_
  refine lv_dup hx hb dX4_init_78 rfl ?_
  refine ky_ctor (ws := [(h0, .inr (4, [.ref q7, .int 0, .ref q22, .int 0, .int 0, .int 0, .int 0, .int (-4), .int 0])), (q7, .inl (gP G, 6, rfs (va_up (va_up (va_up (va_up (fun _ => none) 0 (some q75_0)) 1 (some q75_1)) 2 (some q75_2)) 3 (some q75_3)))), (q22, .inl (gI G, 7, .inl firstT)), (q75_0, pcE), (q75_1, pcE), (q75_2, pcE), (q75_3, pcE)]) (PW := PW_1 q75_4) C hF hAz w hl.1 (k_X1_init l G t q75_4 _ (hAz _ (w.2.1.2 7 _ rfl))) kc_3_8 kc_2_1 knc_38 kc_3_7 rfl hdc_X1_init ⟨by decide, by decide⟩ ⟨Nat.le_of_ble_eq_true rfl, Nat.le_of_ble_eq_true rfl⟩ (Nat.le_of_ble_eq_true rfl) dX4_init_79 (fun wq75_4 H locs hpw w => ?_)
  obtain rfl := hpw
  replace w : Wy G s (Ah h0 s.heap.size) [(h0, .inr (4, [.ref q7, .int 0, .ref q22, .int 0, .int 0, .int 0, .int 0, .int (-4), .int 0])), (q7, .inl (gP G, 6, rfs (va_up (va_up (va_up (va_up (fun _ => none) 0 (some q75_0)) 1 (some q75_1)) 2 (some q75_2)) 3 (some q75_3)))), (q22, .inl (gI G, 7, .inl firstT)), (q75_0, pcE), (q75_1, pcE), (q75_2, pcE), (q75_3, pcE), (q75_4, pcE)] H locs := w
  refine W.widen (k := 7) (n := 58) (by omega) (by omega) ?_
  refine ky_ast C w 1 1 7 1 rfl rfl rfl rfl (vl (by decide)) (k := 4) (by decide) dX4_init_82 (fun H locs w => ?_)
  replace w : Wy G s (Ah h0 s.heap.size) [(h0, .inr (4, [.ref q7, .int 0, .ref q22, .int 0, .int 0, .int 0, .int 0, .int (-4), .int 0])), (q7, .inl (gP G, 6, rfs (va_up (va_up (va_up (va_up (va_up (fun _ => none) 0 (some q75_0)) 1 (some q75_1)) 2 (some q75_2)) 3 (some q75_3)) 4 (some q75_4)))), (q22, .inl (gI G, 7, .inl firstT)), (q75_0, pcE), (q75_1, pcE), (q75_2, pcE), (q75_3, pcE), (q75_4, pcE)] H locs := w
  refine lv_iinc (v := 5) (lv' := [(1, .int 5), (0, .ref h0)]) hx hb dX4_init_83 hl (k := 0) rfl (by decide) (by decide) rfl (fun ls hl => ?_)
  refine lv_goto (tgt := 64) hx hb dX4_init_86 (by decide) ?_
  refine lv_iload_n hx hb dX4_init_64 rfl (lv_at hl 0 rfl) ?_
  refine lv_bipush (v := 6) hx hb dX4_init_65 (by decide) ?_
  refine lv_icmp_ge (tgt := 89) hx hb dX4_init_67 (by decide) (fun c9 => absurd c9 (by decide)) (fun _ => ?_)
  refine lv_aload_n hx hb dX4_init_70 rfl (lv_at hl 1 rfl) ?_
  refine ky_get C w inlX4 0 rfl rfl 0 (by decide) rfl kc_2_16 rfl dX4_init_71 ?_
  refine lv_iload_n hx hb dX4_init_74 rfl (lv_at hl 0 rfl) ?_
  refine ky_new (fs := [.int 0, .int 0, .int 0, .int 0, .int 0, .int 0, .int 0, .int 0, .int 0]) C w inlX1 tyX1 tyX1_ok kc_2_15 kc_2_0 kc_2_1 (ci := 1) rfl (fun j hj => by rcases (show j = 0 ∨ j = 1 ∨ j = 2 ∨ j = 3 ∨ j = 4 ∨ j = 5 ∨ j = 6 ∨ j = 7 ∨ j = 8 by omega) with rfl | rfl | rfl | rfl | rfl | rfl | rfl | rfl | rfl <;> rfl) (Nat.le_of_ble_eq_true rfl) (Nat.le_of_ble_eq_true rfl) dX4_init_75 (fun q75_5 H w => ?_)
  refine W.widen (k := 8) (n := 67) (by omega) (by omega) ?_
  refine lv_dup hx hb dX4_init_78 rfl ?_
  refine ky_ctor (ws := [(h0, .inr (4, [.ref q7, .int 0, .ref q22, .int 0, .int 0, .int 0, .int 0, .int (-4), .int 0])), (q7, .inl (gP G, 6, rfs (va_up (va_up (va_up (va_up (va_up (fun _ => none) 0 (some q75_0)) 1 (some q75_1)) 2 (some q75_2)) 3 (some q75_3)) 4 (some q75_4)))), (q22, .inl (gI G, 7, .inl firstT)), (q75_0, pcE), (q75_1, pcE), (q75_2, pcE), (q75_3, pcE), (q75_4, pcE)]) (PW := PW_1 q75_5) C hF hAz w hl.1 (k_X1_init l G t q75_5 _ (hAz _ (w.2.1.2 8 _ rfl))) kc_3_8 kc_2_1 knc_38 kc_3_7 rfl hdc_X1_init ⟨by decide, by decide⟩ ⟨Nat.le_of_ble_eq_true rfl, Nat.le_of_ble_eq_true rfl⟩ (Nat.le_of_ble_eq_true rfl) dX4_init_79 (fun wq75_5 H locs hpw w => ?_)
  obtain rfl := hpw
  replace w : Wy G s (Ah h0 s.heap.size) [(h0, .inr (4, [.ref q7, .int 0, .ref q22, .int 0, .int 0, .int 0, .int 0, .int (-4), .int 0])), (q7, .inl (gP G, 6, rfs (va_up (va_up (va_up (va_up (va_up (fun _ => none) 0 (some q75_0)) 1 (some q75_1)) 2 (some q75_2)) 3 (some q75_3)) 4 (some q75_4)))), (q22, .inl (gI G, 7, .inl firstT)), (q75_0, pcE), (q75_1, pcE), (q75_2, pcE), (q75_3, pcE), (q75_4, pcE), (q75_5, pcE)] H locs := w
  refine W.widen (k := 8) (n := 67) (by omega) (by omega) ?_
  refine ky_ast C w 1 1 8 1 rfl rfl rfl rfl (vl (by decide)) (k := 5) (by decide) dX4_init_82 (fun H locs w => ?_)
  replace w : Wy G s (Ah h0 s.heap.size) [(h0, .inr (4, [.ref q7, .int 0, .ref q22, .int 0, .int 0, .int 0, .int 0, .int (-4), .int 0])), (q7, .inl (gP G, 6, rfs (va_up (va_up (va_up (va_up (va_up (va_up (fun _ => none) 0 (some q75_0)) 1 (some q75_1)) 2 (some q75_2)) 3 (some q75_3)) 4 (some q75_4)) 5 (some q75_5)))), (q22, .inl (gI G, 7, .inl firstT)), (q75_0, pcE), (q75_1, pcE), (q75_2, pcE), (q75_3, pcE), (q75_4, pcE), (q75_5, pcE)] H locs := w
  refine lv_iinc (v := 6) (lv' := [(1, .int 6), (0, .ref h0)]) hx hb dX4_init_83 hl (k := 0) rfl (by decide) (by decide) rfl (fun ls hl => ?_)
  refine lv_goto (tgt := 64) hx hb dX4_init_86 (by decide) ?_
  refine lv_iload_n hx hb dX4_init_64 rfl (lv_at hl 0 rfl) ?_
  refine lv_bipush (v := 6) hx hb dX4_init_65 (by decide) ?_
  refine lv_icmp_ge (tgt := 89) hx hb dX4_init_67 (by decide) (fun _ => ?_) (fun c9 => absurd (by decide) c9)
  exact W.vret hx hb C.2.2.1 (fun t9 ht hW => ⟨⟨[(h0, .inr (4, [.ref q7, .int 0, .ref q22, .int 0, .int 0, .int 0, .int 0, .int (-4), .int 0])), (q7, .inl (gP G, 6, rfs (va_up (va_up (va_up (va_up (va_up (va_up (fun _ => none) 0 (some q75_0)) 1 (some q75_1)) 2 (some q75_2)) 3 (some q75_3)) 4 (some q75_4)) 5 (some q75_5)))), (q22, .inl (gI G, 7, .inl firstT)), (q75_0, pcE), (q75_1, pcE), (q75_2, pcE), (q75_3, pcE), (q75_4, pcE), (q75_5, pcE)], rfl, ⟨q7, q22, q75_0, q75_1, q75_2, q75_3, q75_4, q75_5, (va_up (va_up (va_up (va_up (va_up (va_up (fun _ => none) 0 (some q75_0)) 1 (some q75_1)) 2 (some q75_2)) 3 (some q75_3)) 4 (some q75_4)) 5 (some q75_5)), ⟨rfl, rfl, rfl, rfl, rfl, rfl⟩, rfl⟩, by rw [ht]; exact w.1, w.2.1⟩, w.2.2.1.F ht⟩) w.2.2.1.2.2 dX4_init_89 C.2.2.2
