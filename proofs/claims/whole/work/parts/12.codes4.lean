/-! ===== codes 4 ===== -/
set_option maxRecDepth 20000 in
theorem pm_fl_X7_10 : Cond.fieldLink RX7 10 "LeafTable" "text" "LLeafTable$Text;" ∈ wAll := wIn 238 rfl rfl
set_option maxRecDepth 20000 in
theorem pm_ml_X7_70 : Cond.methodLink RX7 70 (pm_m 44).1 ∈ wAll := wIn 273 rfl rfl
set_option maxRecDepth 20000 in
theorem pm_q44 : (pm_m 44).1.cls ≠ "java/lang/invoke/MethodHandle" ∧ (pm_m 44).1.cls ≠ "java/lang/invoke/VarHandle" ∧ (parseMethodDescriptor (pm_m 44).1.desc).map (fun d => d.parameters.length) = some 1 := by decide +kernel
set_option maxRecDepth 20000 in
theorem pm_im44 : Cond.instanceMethod (pm_m 44).1 ∈ wAll := wIn 274 rfl rfl
set_option maxRecDepth 20000 in
theorem pm_se44 : Cond.selects RX6 (pm_m 44).1 (pm_m 44).1 ∈ wAll := wIn 275 rfl rfl
set_option maxRecDepth 20000 in
theorem pm_fn_X7_74 : (RX7, 74, "LeafTable$Text", "size", "I", "LeafTable") ∈ pm_nF := List.mem_of_getElem? (i := 0) rfl
set_option maxRecDepth 20000 in
theorem pm_ml_X7_78 : Cond.methodLink RX7 78 (pm_m 45).1 ∈ wAll := wIn 285 rfl rfl
set_option maxRecDepth 20000 in
theorem pm_q45 : (pm_m 45).1.cls ≠ "java/lang/invoke/MethodHandle" ∧ (pm_m 45).1.cls ≠ "java/lang/invoke/VarHandle" ∧ (parseMethodDescriptor (pm_m 45).1.desc).map (fun d => d.parameters.length) = some 0 := by decide +kernel
set_option maxRecDepth 20000 in
theorem pm_im45 : Cond.instanceMethod (pm_m 45).1 ∈ wAll := wIn 286 rfl rfl
set_option maxRecDepth 20000 in
theorem pm_se45 : Cond.selects RX6 (pm_m 45).1 (pm_m 45).1 ∈ wAll := wIn 287 rfl rfl
set_option maxRecDepth 20000 in
theorem pm_fl_X7_19 : Cond.fieldLink RX7 19 "LeafTable" "table" "LLeafTable$Table;" ∈ wAll := wIn 239 rfl rfl
set_option maxRecDepth 20000 in
theorem pm_ml_X7_82 : Cond.methodLink RX7 82 (pm_m 29).1 ∈ wAll := wIn 325 rfl rfl
set_option maxRecDepth 20000 in
theorem pm_q29 : (pm_m 29).1.cls ≠ "java/lang/invoke/MethodHandle" ∧ (pm_m 29).1.cls ≠ "java/lang/invoke/VarHandle" ∧ (parseMethodDescriptor (pm_m 29).1.desc).map (fun d => d.parameters.length) = some 1 := by decide +kernel
set_option maxRecDepth 20000 in
theorem pm_im29 : Cond.instanceMethod (pm_m 29).1 ∈ wAll := wIn 326 rfl rfl
set_option maxRecDepth 20000 in
theorem pm_se29 : Cond.selects RX5 (pm_m 29).1 (pm_m 29).1 ∈ wAll := wIn 327 rfl rfl
set_option maxRecDepth 20000 in
theorem pm_fl_X7_26 : Cond.fieldLink RX7 26 "LeafTable" "now" "LLeafTable$Seats;" ∈ wAll := wIn 240 rfl rfl
set_option maxRecDepth 20000 in
theorem pm_ml_X7_86 : Cond.methodLink RX7 86 (pm_m 28).1 ∈ wAll := wIn 341 rfl rfl
set_option maxRecDepth 20000 in
theorem pm_q28 : (pm_m 28).1.cls ≠ "java/lang/invoke/MethodHandle" ∧ (pm_m 28).1.cls ≠ "java/lang/invoke/VarHandle" ∧ (parseMethodDescriptor (pm_m 28).1.desc).map (fun d => d.parameters.length) = some 2 := by decide +kernel
set_option maxRecDepth 20000 in
theorem pm_im28 : Cond.instanceMethod (pm_m 28).1 ∈ wAll := wIn 342 rfl rfl
set_option maxRecDepth 20000 in
theorem pm_se28 : Cond.selects RX4 (pm_m 28).1 (pm_m 28).1 ∈ wAll := wIn 343 rfl rfl
set_option maxRecDepth 20000 in
theorem pm_fl_X7_33 : Cond.fieldLink RX7 33 "LeafTable" "acts" "LLeafTable$Acts;" ∈ wAll := wIn 241 rfl rfl
set_option maxRecDepth 20000 in
theorem pm_fn_X7_89 : (RX7, 89, "LeafTable$Acts", "number", "I", "LeafTable") ∈ pm_nF := List.mem_of_getElem? (i := 25) rfl
set_option maxRecDepth 20000 in
theorem pm_fl_X7_41 : Cond.fieldLink RX7 41 "LeafTable" "isKept" "[Z" ∈ wAll := wIn 243 rfl rfl
set_option maxRecDepth 20000 in
theorem pm_fn_X7_92 : (RX7, 92, "LeafTable$Table", "number", "I", "LeafTable") ∈ pm_nF := List.mem_of_getElem? (i := 7) rfl
set_option maxRecDepth 20000 in
theorem pm_ml_X7_93 : Cond.methodLink RX7 93 (pm_m 30).1 ∈ wAll := wIn 351 rfl rfl
set_option maxRecDepth 20000 in
theorem pm_fn_X7_96 : (RX7, 96, "LeafTable$Seats", "leaves", "[I", "LeafTable") ∈ pm_nF := List.mem_of_getElem? (i := 12) rfl
set_option maxRecDepth 20000 in
theorem pm_fn_X7_100 : (RX7, 100, "LeafTable$Table", "kinds", "[I", "LeafTable") ∈ pm_nF := List.mem_of_getElem? (i := 1) rfl
set_option maxRecDepth 20000 in
theorem pm_fn_X7_103 : (RX7, 103, "LeafTable$Table", "wants", "[I", "LeafTable") ∈ pm_nF := List.mem_of_getElem? (i := 2) rfl
set_option maxRecDepth 20000 in
theorem pm_fn_X7_106 : (RX7, 106, "LeafTable$Table", "ears", "[I", "LeafTable") ∈ pm_nF := List.mem_of_getElem? (i := 3) rfl
set_option maxRecDepth 20000 in
theorem pm_fn_X7_109 : (RX7, 109, "LeafTable$Seats", "served", "I", "LeafTable") ∈ pm_nF := List.mem_of_getElem? (i := 23) rfl
set_option maxRecDepth 20000 in
theorem pm_ml_X7_112 : Cond.methodLink RX7 112 (pm_m 37).1 ∈ wAll := wIn 355 rfl rfl
set_option maxRecDepth 20000 in
theorem pm_ml_X7_116 : Cond.methodLink RX7 116 (pm_m 32).1 ∈ wAll := wIn 367 rfl rfl
set_option maxRecDepth 20000 in
theorem pm_ml_X7_120 : Cond.methodLink RX7 120 (pm_m 0).1 ∈ wAll := wIn 382 rfl rfl
set_option maxRecDepth 20000 in
theorem pm_q0 : (pm_m 0).1.cls ≠ "java/lang/invoke/MethodHandle" ∧ (pm_m 0).1.cls ≠ "java/lang/invoke/VarHandle" ∧ (parseMethodDescriptor (pm_m 0).1.desc).map (fun d => d.parameters.length) = some 1 := by decide +kernel
set_option maxRecDepth 20000 in
theorem pm_im0 : Cond.instanceMethod (pm_m 0).1 ∈ wAll := wIn 383 rfl rfl
set_option maxRecDepth 20000 in
theorem pm_se0 : Cond.selects RX0 (pm_m 0).1 (pm_m 0).1 ∈ wAll := wIn 384 rfl rfl
set_option maxRecDepth 20000 in
theorem pm_ml_X7_124 : Cond.methodLink RX7 124 (pm_m 33).1 ∈ wAll := wIn 394 rfl rfl
set_option maxRecDepth 20000 in
theorem pm_fn_X7_128 : (RX7, 128, "LeafTable$Seats", "length", "I", "LeafTable") ∈ pm_nF := List.mem_of_getElem? (i := 15) rfl
set_option maxRecDepth 20000 in
theorem pm_ml_X7_131 : Cond.methodLink RX7 131 (pm_m 35).1 ∈ wAll := wIn 402 rfl rfl
set_option maxRecDepth 20000 in
theorem pm_fn_X7_134 : (RX7, 134, "LeafTable$Seats", "warmth", "I", "LeafTable") ∈ pm_nF := List.mem_of_getElem? (i := 20) rfl
set_option maxRecDepth 20000 in
theorem pm_ml_X7_137 : Cond.methodLink RX7 137 (pm_m 36).1 ∈ wAll := wIn 416 rfl rfl
set_option maxRecDepth 20000 in
theorem pm_ml_X7_140 : Cond.methodLink RX7 140 (pm_m 1).1 ∈ wAll := wIn 424 rfl rfl
set_option maxRecDepth 20000 in
theorem pm_q1 : (pm_m 1).1.cls ≠ "java/lang/invoke/MethodHandle" ∧ (pm_m 1).1.cls ≠ "java/lang/invoke/VarHandle" ∧ (parseMethodDescriptor (pm_m 1).1.desc).map (fun d => d.parameters.length) = some 1 := by decide +kernel
set_option maxRecDepth 20000 in
theorem pm_im1 : Cond.instanceMethod (pm_m 1).1 ∈ wAll := wIn 425 rfl rfl
set_option maxRecDepth 20000 in
theorem pm_se1 : Cond.selects RX0 (pm_m 1).1 (pm_m 1).1 ∈ wAll := wIn 426 rfl rfl
set_option maxRecDepth 20000 in
theorem pm_fl_X7_57 : Cond.fieldLink RX7 57 "LeafTable" "plans" "LLeafTable$Plans;" ∈ wAll := wIn 245 rfl rfl
set_option maxRecDepth 20000 in
theorem pm_ml_X7_143 : Cond.methodLink RX7 143 (pm_m 31).1 ∈ wAll := wIn 432 rfl rfl
set_option maxRecDepth 20000 in
theorem pm_ml_X7_146 : Cond.methodLink RX7 146 (pm_m 17).1 ∈ wAll := wIn 436 rfl rfl
set_option maxRecDepth 20000 in
theorem pm_fn_X7_150 : (RX7, 150, "LeafTable$Plans", "firstPasses", "I", "LeafTable") ∈ pm_nF := List.mem_of_getElem? (i := 32) rfl
set_option maxRecDepth 20000 in
theorem pm_fn_X7_153 : (RX7, 153, "LeafTable$Plans", "mostServed", "I", "LeafTable") ∈ pm_nF := List.mem_of_getElem? (i := 31) rfl
set_option maxRecDepth 20000 in
theorem pm_ml_X7_156 : Cond.methodLink RX7 156 (pm_m 20).1 ∈ wAll := wIn 463 rfl rfl
set_option maxRecDepth 20000 in
theorem pm_q20 : (pm_m 20).1.cls ≠ "java/lang/invoke/MethodHandle" ∧ (pm_m 20).1.cls ≠ "java/lang/invoke/VarHandle" ∧ (parseMethodDescriptor (pm_m 20).1.desc).map (fun d => d.parameters.length) = some 2 := by decide +kernel
set_option maxRecDepth 20000 in
theorem pm_im20 : Cond.instanceMethod (pm_m 20).1 ∈ wAll := wIn 464 rfl rfl
set_option maxRecDepth 20000 in
theorem pm_se20 : Cond.selects RX3 (pm_m 20).1 (pm_m 20).1 ∈ wAll := wIn 465 rfl rfl
set_option maxRecDepth 20000 in
theorem pm_ml_X7_160 : Cond.methodLink RX7 160 (pm_m 82).1 ∈ wAll := wIn 486 rfl rfl
set_option maxRecDepth 20000 in
theorem pm_q82 : (pm_m 82).1.cls ≠ "java/lang/invoke/MethodHandle" ∧ (pm_m 82).1.cls ≠ "java/lang/invoke/VarHandle" ∧ (parseMethodDescriptor (pm_m 82).1.desc).map (fun d => d.parameters.length) = some 2 := by decide +kernel
set_option maxRecDepth 20000 in
theorem pm_ss82 : Cond.static (pm_m 82).1 ∈ wAll := wIn 487 rfl rfl
set_option maxRecDepth 20000 in
theorem pm_ml_X7_164 : Cond.methodLink RX7 164 (pm_m 84).1 ∈ wAll := wIn 502 rfl rfl
set_option maxRecDepth 20000 in
theorem pm_q84 : (pm_m 84).1.cls ≠ "java/lang/invoke/MethodHandle" ∧ (pm_m 84).1.cls ≠ "java/lang/invoke/VarHandle" ∧ (parseMethodDescriptor (pm_m 84).1.desc).map (fun d => d.parameters.length) = some 2 := by decide +kernel
set_option maxRecDepth 20000 in
theorem pm_ss84 : Cond.static (pm_m 84).1 ∈ wAll := wIn 503 rfl rfl
set_option maxRecDepth 20000 in
theorem pm_ml_X7_168 : Cond.methodLink RX7 168 (pm_m 23).1 ∈ wAll := wIn 505 rfl rfl
set_option maxRecDepth 20000 in
theorem pm_q23 : (pm_m 23).1.cls ≠ "java/lang/invoke/MethodHandle" ∧ (pm_m 23).1.cls ≠ "java/lang/invoke/VarHandle" ∧ (parseMethodDescriptor (pm_m 23).1.desc).map (fun d => d.parameters.length) = some 3 := by decide +kernel
set_option maxRecDepth 20000 in
theorem pm_im23 : Cond.instanceMethod (pm_m 23).1 ∈ wAll := wIn 506 rfl rfl
set_option maxRecDepth 20000 in
theorem pm_se23 : Cond.selects RX3 (pm_m 23).1 (pm_m 23).1 ∈ wAll := wIn 507 rfl rfl
set_option maxRecDepth 20000 in
theorem pm_fl_X7_66 : Cond.fieldLink RX7 66 "LeafTable" "chances" "LLeafTable$Chances;" ∈ wAll := wIn 246 rfl rfl
set_option maxRecDepth 20000 in
theorem pm_ml_X7_172 : Cond.methodLink RX7 172 (pm_m 3).1 ∈ wAll := wIn 525 rfl rfl
set_option maxRecDepth 20000 in
theorem pm_q3 : (pm_m 3).1.cls ≠ "java/lang/invoke/MethodHandle" ∧ (pm_m 3).1.cls ≠ "java/lang/invoke/VarHandle" ∧ (parseMethodDescriptor (pm_m 3).1.desc).map (fun d => d.parameters.length) = some 3 := by decide +kernel
set_option maxRecDepth 20000 in
theorem pm_im3 : Cond.instanceMethod (pm_m 3).1 ∈ wAll := wIn 526 rfl rfl
set_option maxRecDepth 20000 in
theorem pm_se3 : Cond.selects RX1 (pm_m 3).1 (pm_m 3).1 ∈ wAll := wIn 527 rfl rfl
set_option maxRecDepth 20000 in
theorem pm_ml_X7_176 : Cond.methodLink RX7 176 (pm_m 86).1 ∈ wAll := wIn 554 rfl rfl
set_option maxRecDepth 20000 in
theorem pm_q86 : (pm_m 86).1.cls ≠ "java/lang/invoke/MethodHandle" ∧ (pm_m 86).1.cls ≠ "java/lang/invoke/VarHandle" ∧ (parseMethodDescriptor (pm_m 86).1.desc).map (fun d => d.parameters.length) = some 2 := by decide +kernel
set_option maxRecDepth 20000 in
theorem pm_ss86 : Cond.static (pm_m 86).1 ∈ wAll := wIn 555 rfl rfl
set_option maxRecDepth 20000 in
theorem pm_ml_X7_179 : Cond.methodLink RX7 179 (pm_m 39).1 ∈ wAll := wIn 558 rfl rfl
set_option maxRecDepth 20000 in
theorem pm_q39 : (pm_m 39).1.cls ≠ "java/lang/invoke/MethodHandle" ∧ (pm_m 39).1.cls ≠ "java/lang/invoke/VarHandle" ∧ (parseMethodDescriptor (pm_m 39).1.desc).map (fun d => d.parameters.length) = some 1 := by decide +kernel
set_option maxRecDepth 20000 in
theorem pm_im39 : Cond.instanceMethod (pm_m 39).1 ∈ wAll := wIn 559 rfl rfl
set_option maxRecDepth 20000 in
theorem pm_se39 : Cond.selects RX5 (pm_m 39).1 (pm_m 39).1 ∈ wAll := wIn 560 rfl rfl
set_option maxRecDepth 20000 in
theorem pm_ml_X7_182 : Cond.methodLink RX7 182 (pm_m 87).1 ∈ wAll := wIn 562 rfl rfl
set_option maxRecDepth 20000 in
theorem pm_q87 : (pm_m 87).1.cls ≠ "java/lang/invoke/MethodHandle" ∧ (pm_m 87).1.cls ≠ "java/lang/invoke/VarHandle" ∧ (parseMethodDescriptor (pm_m 87).1.desc).map (fun d => d.parameters.length) = some 3 := by decide +kernel
set_option maxRecDepth 20000 in
theorem pm_ss87 : Cond.static (pm_m 87).1 ∈ wAll := wIn 563 rfl rfl
set_option maxRecDepth 20000 in
theorem pm_fl_X7_186 : Cond.fieldLink RX7 186 "LeafTable" "TENS" "[I" ∈ wAll := wIn 492 rfl rfl
set_option maxRecDepth 20000 in
theorem pm_fl_X7_48 : Cond.fieldLink RX7 48 "LeafTable" "dinners" "LLeafTable$Dinners;" ∈ wAll := wIn 244 rfl rfl
set_option maxRecDepth 20000 in
theorem pm_ml_X7_189 : Cond.methodLink RX7 189 (pm_m 11).1 ∈ wAll := wIn 576 rfl rfl
set_option maxRecDepth 20000 in
theorem pm_q11 : (pm_m 11).1.cls ≠ "java/lang/invoke/MethodHandle" ∧ (pm_m 11).1.cls ≠ "java/lang/invoke/VarHandle" ∧ (parseMethodDescriptor (pm_m 11).1.desc).map (fun d => d.parameters.length) = some 2 := by decide +kernel
set_option maxRecDepth 20000 in
theorem pm_im11 : Cond.instanceMethod (pm_m 11).1 ∈ wAll := wIn 577 rfl rfl
set_option maxRecDepth 20000 in
theorem pm_se11 : Cond.selects RX2 (pm_m 11).1 (pm_m 11).1 ∈ wAll := wIn 578 rfl rfl
set_option maxRecDepth 20000 in
theorem pm_fn_X7_191 : (RX7, 191, "LeafTable$Dinners", "number", "I", "LeafTable") ∈ pm_nF := List.mem_of_getElem? (i := 26) rfl
set_option maxRecDepth 20000 in
theorem pm_ml_X7_192 : Cond.methodLink RX7 192 (pm_m 12).1 ∈ wAll := wIn 588 rfl rfl
set_option maxRecDepth 20000 in
theorem pm_q12 : (pm_m 12).1.cls ≠ "java/lang/invoke/MethodHandle" ∧ (pm_m 12).1.cls ≠ "java/lang/invoke/VarHandle" ∧ (parseMethodDescriptor (pm_m 12).1.desc).map (fun d => d.parameters.length) = some 0 := by decide +kernel
set_option maxRecDepth 20000 in
theorem pm_im12 : Cond.instanceMethod (pm_m 12).1 ∈ wAll := wIn 589 rfl rfl
set_option maxRecDepth 20000 in
theorem pm_se12 : Cond.selects RX2 (pm_m 12).1 (pm_m 12).1 ∈ wAll := wIn 590 rfl rfl
set_option maxRecDepth 20000 in
theorem pm_fn_X7_195 : (RX7, 195, "LeafTable$Dinners", "lawsFound", "I", "LeafTable") ∈ pm_nF := List.mem_of_getElem? (i := 27) rfl
set_option maxRecDepth 20000 in
theorem pm_fn_X7_198 : (RX7, 198, "LeafTable$Dinners", "firstLaw", "I", "LeafTable") ∈ pm_nF := List.mem_of_getElem? (i := 28) rfl
set_option maxRecDepth 20000 in
theorem pm_fn_X7_201 : (RX7, 201, "LeafTable$Dinners", "sameKinds", "I", "LeafTable") ∈ pm_nF := List.mem_of_getElem? (i := 29) rfl
set_option maxRecDepth 20000 in
theorem pm_ml_X7_204 : Cond.methodLink RX7 204 (pm_m 25).1 ∈ wAll := wIn 609 rfl rfl
set_option maxRecDepth 20000 in
theorem pm_q25 : (pm_m 25).1.cls ≠ "java/lang/invoke/MethodHandle" ∧ (pm_m 25).1.cls ≠ "java/lang/invoke/VarHandle" ∧ (parseMethodDescriptor (pm_m 25).1.desc).map (fun d => d.parameters.length) = some 2 := by decide +kernel
set_option maxRecDepth 20000 in
theorem pm_im25 : Cond.instanceMethod (pm_m 25).1 ∈ wAll := wIn 610 rfl rfl
set_option maxRecDepth 20000 in
theorem pm_se25 : Cond.selects RX3 (pm_m 25).1 (pm_m 25).1 ∈ wAll := wIn 611 rfl rfl
set_option maxRecDepth 20000 in
theorem pm_fn_X7_207 : (RX7, 207, "LeafTable$Plans", "opening", "I", "LeafTable") ∈ pm_nF := List.mem_of_getElem? (i := 33) rfl
set_option maxRecDepth 20000 in
theorem pm_ml_X7_210 : Cond.methodLink RX7 210 (pm_m 6).1 ∈ wAll := wIn 620 rfl rfl
set_option maxRecDepth 20000 in
theorem pm_q6 : (pm_m 6).1.cls ≠ "java/lang/invoke/MethodHandle" ∧ (pm_m 6).1.cls ≠ "java/lang/invoke/VarHandle" ∧ (parseMethodDescriptor (pm_m 6).1.desc).map (fun d => d.parameters.length) = some 4 := by decide +kernel
set_option maxRecDepth 20000 in
theorem pm_im6 : Cond.instanceMethod (pm_m 6).1 ∈ wAll := wIn 621 rfl rfl
set_option maxRecDepth 20000 in
theorem pm_se6 : Cond.selects RX1 (pm_m 6).1 (pm_m 6).1 ∈ wAll := wIn 622 rfl rfl
set_option maxRecDepth 20000 in
theorem pm_fl_X7_214 : Cond.fieldLink RX7 214 "LeafTable" "seedNow" "J" ∈ wAll := wIn 247 rfl rfl
set_option maxRecDepth 20000 in
theorem pm_ml_X7_218 : Cond.methodLink RX7 218 (pm_m 16).1 ∈ wAll := wIn 643 rfl rfl
set_option maxRecDepth 20000 in
theorem pm_k_X7_222 : Cond.constantLong RX7 222 (6364136223846793005) ∈ wAll := wIn 644 rfl rfl
set_option maxRecDepth 20000 in
theorem pm_k_X7_224 : Cond.constantLong RX7 224 (1442695040888963407) ∈ wAll := wIn 645 rfl rfl
set_option maxRecDepth 20000 in
theorem pm_k_X7_226 : Cond.constantLong RX7 226 (6) ∈ wAll := wIn 646 rfl rfl
set_option maxRecDepth 20000 in
theorem pm_ml_X7_228 : Cond.methodLink RX7 228 (pm_m 34).1 ∈ wAll := wIn 647 rfl rfl
set_option maxRecDepth 20000 in
theorem pm_fl_X7_37 : Cond.fieldLink RX7 37 "LeafTable" "kept" "[LLeafTable$Seats;" ∈ wAll := wIn 242 rfl rfl
set_option maxRecDepth 20000 in
theorem pm_ml_X7_231 : Cond.methodLink RX7 231 (pm_m 27).1 ∈ wAll := wIn 652 rfl rfl
set_option maxRecDepth 20000 in
theorem pm_fn_X7_234 : (RX7, 234, "LeafTable$Table", "reach", "I", "LeafTable") ∈ pm_nF := List.mem_of_getElem? (i := 10) rfl
set_option maxRecDepth 20000 in
theorem pm_fn_X7_237 : (RX7, 237, "LeafTable$Seats", "soup", "I", "LeafTable") ∈ pm_nF := List.mem_of_getElem? (i := 18) rfl
set_option maxRecDepth 20000 in
theorem pm_fn_X7_240 : (RX7, 240, "LeafTable$Table", "warm", "I", "LeafTable") ∈ pm_nF := List.mem_of_getElem? (i := 9) rfl
set_option maxRecDepth 20000 in
theorem pm_ml_X7_243 : Cond.methodLink RX7 243 (pm_m 83).1 ∈ wAll := wIn 489 rfl rfl
set_option maxRecDepth 20000 in
theorem pm_q83 : (pm_m 83).1.cls ≠ "java/lang/invoke/MethodHandle" ∧ (pm_m 83).1.cls ≠ "java/lang/invoke/VarHandle" ∧ (parseMethodDescriptor (pm_m 83).1.desc).map (fun d => d.parameters.length) = some 1 := by decide +kernel
set_option maxRecDepth 20000 in
theorem pm_ss83 : Cond.static (pm_m 83).1 ∈ wAll := wIn 490 rfl rfl
set_option maxRecDepth 20000 in
theorem pm_ml_X7_247 : Cond.methodLink RX7 247 (pm_m 85).1 ∈ wAll := wIn 557 rfl rfl
set_option maxRecDepth 20000 in
theorem pm_ml_X7_250 : Cond.methodLink RX7 250 (pm_m 152).1 ∈ wAll := wIn 565 rfl rfl
set_option maxRecDepth 20000 in
theorem pm_q152 : (pm_m 152).1.cls ≠ "java/lang/invoke/MethodHandle" ∧ (pm_m 152).1.cls ≠ "java/lang/invoke/VarHandle" ∧ (parseMethodDescriptor (pm_m 152).1.desc).map (fun d => d.parameters.length) = some 2 := by decide +kernel
set_option maxRecDepth 20000 in
theorem pm_ss152 : Cond.static (pm_m 152).1 ∈ wAll := wIn 566 rfl rfl
def bp_X7_write : List Nat := [0, 1, 4, 5, 8, 11, 13, 14, 15, 18, 19, 22, 25, 26, 29, 32, 35, 37]
def co_X7_write : List pm_Op := [
  pm_iload 1,
  pm_iflt 5,
  pm_iload 1,
  pm_push (255),
  pm_cmple 7,
  pm_push (-2),
  pm_iret,
  pm_aload 0,
  pm_getf 7 0,
  pm_iload 1,
  pm_callV 6 44 2,
  pm_ifeq 16,
  pm_aload 0,
  pm_getf 7 0,
  pm_getf 6 1,
  pm_goto 17,
  pm_push (-4),
  pm_iret]
set_option maxRecDepth 20000 in
set_option maxHeartbeats 4000000 in
theorem ms_X7_write : pm_MS 56 RX7 bp_X7_write co_X7_write := fun p l e R s m args below meth c cells slots Qm D cs ad sz d C hR => ⟨
  pm_s_iload_n C (n := 1) (by decide +kernel) rfl rfl,
  pm_s_iflt C (off := 10) (by decide +kernel) (by decide +kernel) rfl,
  pm_s_iload_n C (n := 1) (by decide +kernel) rfl rfl,
  pm_s_sipush C (n := 255) (by decide +kernel) rfl rfl,
  pm_s_cmple C (off := 6) (by decide +kernel) (by decide +kernel) rfl,
  pm_s_bipush C (n := -2) (by decide +kernel) rfl rfl,
  pm_s_iret (by decide +kernel) rfl,
  pm_s_aload_n C (n := 0) (by decide +kernel) rfl rfl,
  pm_s_getf C (n := 10) (ci := 7) rfl rfl wiX7 (by decide) (by decide +kernel) pm_fl_X7_10 rfl,
  pm_s_iload_n C (n := 1) (by decide +kernel) rfl rfl,
  pm_s_callV C hR (n := 70) (ci := 6) rfl (by decide +kernel) pm_ml_X7_70 pm_im44 pm_se44 pm_in_X6 pm_cw44 pm_q44 (by decide) rfl,
  pm_s_ifeq C (off := 13) (by decide +kernel) (by decide +kernel) rfl,
  pm_s_aload_n C (n := 0) (by decide +kernel) rfl rfl,
  pm_s_getf C (n := 10) (ci := 7) rfl rfl wiX7 (by decide) (by decide +kernel) pm_fl_X7_10 rfl,
  pm_s_getfN C (n := 74) (ci := 6) rfl rfl wiX6 (by decide) (by decide +kernel) pm_fn_X7_74 rfl,
  pm_s_goto C (off := 5) (by decide +kernel) (by decide +kernel),
  pm_s_bipush C (n := -4) (by decide +kernel) rfl rfl,
  pm_s_iret (by decide +kernel) rfl,
  trivial⟩
def bp_X7_wipe : List Nat := [0, 1, 4, 7, 8, 9, 12, 13, 16, 17]
def co_X7_wipe : List pm_Op := [
  pm_aload 0,
  pm_getf 7 0,
  pm_getf 6 1,
  pm_istore 1,
  pm_aload 0,
  pm_getf 7 0,
  pm_push (0),
  pm_putf 6 1,
  pm_iload 1,
  pm_iret]
set_option maxRecDepth 20000 in
set_option maxHeartbeats 4000000 in
theorem ms_X7_wipe : pm_MS 57 RX7 bp_X7_wipe co_X7_wipe := fun p l e R s m args below meth c cells slots Qm D cs ad sz d C hR => ⟨
  pm_s_aload_n C (n := 0) (by decide +kernel) rfl rfl,
  pm_s_getf C (n := 10) (ci := 7) rfl rfl wiX7 (by decide) (by decide +kernel) pm_fl_X7_10 rfl,
  pm_s_getfN C (n := 74) (ci := 6) rfl rfl wiX6 (by decide) (by decide +kernel) pm_fn_X7_74 rfl,
  pm_s_istore_n C (n := 1) (by decide +kernel) rfl rfl,
  pm_s_aload_n C (n := 0) (by decide +kernel) rfl rfl,
  pm_s_getf C (n := 10) (ci := 7) rfl rfl wiX7 (by decide) (by decide +kernel) pm_fl_X7_10 rfl,
  pm_s_iconst C (n := 0) (by decide +kernel) rfl rfl,
  pm_s_putfN C (n := 74) (ci := 6) rfl rfl wiX6 (by decide) tyX6 tyX6_ok nmX6 rfl (by decide +kernel) (by decide +kernel) pm_fn_X7_74 rfl,
  pm_s_iload_n C (n := 1) (by decide +kernel) rfl rfl,
  pm_s_iret (by decide +kernel) rfl,
  trivial⟩
def bp_X7_fault : List Nat := [0, 1, 4, 7]
def co_X7_fault : List pm_Op := [
  pm_aload 0,
  pm_getf 7 0,
  pm_callV 6 45 1,
  pm_iret]
set_option maxRecDepth 20000 in
set_option maxHeartbeats 4000000 in
theorem ms_X7_fault : pm_MS 58 RX7 bp_X7_fault co_X7_fault := fun p l e R s m args below meth c cells slots Qm D cs ad sz d C hR => ⟨
  pm_s_aload_n C (n := 0) (by decide +kernel) rfl rfl,
  pm_s_getf C (n := 10) (ci := 7) rfl rfl wiX7 (by decide) (by decide +kernel) pm_fl_X7_10 rfl,
  pm_s_callV C hR (n := 78) (ci := 6) rfl (by decide +kernel) pm_ml_X7_78 pm_im45 pm_se45 pm_in_X6 pm_cw45 pm_q45 (by decide) rfl,
  pm_s_iret (by decide +kernel) rfl,
  trivial⟩
def bp_X7_lay : List Nat := [0, 1, 4, 7, 9, 12, 14, 15, 16, 19, 20, 23, 26, 27, 30, 31, 34, 35, 38, 41, 42, 45, 46, 49, 50, 51, 52, 53, 56, 57, 60, 61, 62, 63, 66, 69, 70, 73, 76]
def co_X7_lay : List pm_Op := [
  pm_aload 0,
  pm_getf 7 0,
  pm_callV 6 45 1,
  pm_push (-9),
  pm_cmpeq 7,
  pm_push (-3),
  pm_iret,
  pm_aload 0,
  pm_getf 7 1,
  pm_aload 0,
  pm_getf 7 0,
  pm_callV 5 29 2,
  pm_aload 0,
  pm_getf 7 2,
  pm_aload 0,
  pm_getf 7 0,
  pm_aload 0,
  pm_getf 7 1,
  pm_callV 4 28 3,
  pm_aload 0,
  pm_getf 7 3,
  pm_push (0),
  pm_putf 0 1,
  pm_push (0),
  pm_istore 1,
  pm_iload 1,
  pm_push (2),
  pm_cmpge 35,
  pm_aload 0,
  pm_getf 7 5,
  pm_iload 1,
  pm_push (0),
  pm_zast,
  pm_iinc 1 (1),
  pm_goto 25,
  pm_aload 0,
  pm_getf 7 1,
  pm_getf 5 3,
  pm_iret]
set_option maxRecDepth 20000 in
set_option maxHeartbeats 4000000 in
theorem ms_X7_lay : pm_MS 59 RX7 bp_X7_lay co_X7_lay := fun p l e R s m args below meth c cells slots Qm D cs ad sz d C hR => ⟨
  pm_s_aload_n C (n := 0) (by decide +kernel) rfl rfl,
  pm_s_getf C (n := 10) (ci := 7) rfl rfl wiX7 (by decide) (by decide +kernel) pm_fl_X7_10 rfl,
  pm_s_callV C hR (n := 78) (ci := 6) rfl (by decide +kernel) pm_ml_X7_78 pm_im45 pm_se45 pm_in_X6 pm_cw45 pm_q45 (by decide) rfl,
  pm_s_bipush C (n := -9) (by decide +kernel) rfl rfl,
  pm_s_cmpeq C (off := 6) (by decide +kernel) (by decide +kernel) rfl,
  pm_s_bipush C (n := -3) (by decide +kernel) rfl rfl,
  pm_s_iret (by decide +kernel) rfl,
  pm_s_aload_n C (n := 0) (by decide +kernel) rfl rfl,
  pm_s_getf C (n := 19) (ci := 7) rfl rfl wiX7 (by decide) (by decide +kernel) pm_fl_X7_19 rfl,
  pm_s_aload_n C (n := 0) (by decide +kernel) rfl rfl,
  pm_s_getf C (n := 10) (ci := 7) rfl rfl wiX7 (by decide) (by decide +kernel) pm_fl_X7_10 rfl,
  pm_s_callV C hR (n := 82) (ci := 5) rfl (by decide +kernel) pm_ml_X7_82 pm_im29 pm_se29 pm_in_X5 pm_cw29 pm_q29 (by decide) rfl,
  pm_s_aload_n C (n := 0) (by decide +kernel) rfl rfl,
  pm_s_getf C (n := 26) (ci := 7) rfl rfl wiX7 (by decide) (by decide +kernel) pm_fl_X7_26 rfl,
  pm_s_aload_n C (n := 0) (by decide +kernel) rfl rfl,
  pm_s_getf C (n := 10) (ci := 7) rfl rfl wiX7 (by decide) (by decide +kernel) pm_fl_X7_10 rfl,
  pm_s_aload_n C (n := 0) (by decide +kernel) rfl rfl,
  pm_s_getf C (n := 19) (ci := 7) rfl rfl wiX7 (by decide) (by decide +kernel) pm_fl_X7_19 rfl,
  pm_s_callV C hR (n := 86) (ci := 4) rfl (by decide +kernel) pm_ml_X7_86 pm_im28 pm_se28 pm_in_X4 pm_cw28 pm_q28 (by decide) rfl,
  pm_s_aload_n C (n := 0) (by decide +kernel) rfl rfl,
  pm_s_getf C (n := 33) (ci := 7) rfl rfl wiX7 (by decide) (by decide +kernel) pm_fl_X7_33 rfl,
  pm_s_iconst C (n := 0) (by decide +kernel) rfl rfl,
  pm_s_putfN C (n := 89) (ci := 0) rfl rfl wiX0 (by decide) tyX0 tyX0_ok nmX0 rfl (by decide +kernel) (by decide +kernel) pm_fn_X7_89 rfl,
  pm_s_iconst C (n := 0) (by decide +kernel) rfl rfl,
  pm_s_istore_n C (n := 1) (by decide +kernel) rfl rfl,
  pm_s_iload_n C (n := 1) (by decide +kernel) rfl rfl,
  pm_s_iconst C (n := 2) (by decide +kernel) rfl rfl,
  pm_s_cmpge C (off := 16) (by decide +kernel) (by decide +kernel) rfl,
  pm_s_aload_n C (n := 0) (by decide +kernel) rfl rfl,
  pm_s_getf C (n := 41) (ci := 7) rfl rfl wiX7 (by decide) (by decide +kernel) pm_fl_X7_41 rfl,
  pm_s_iload_n C (n := 1) (by decide +kernel) rfl rfl,
  pm_s_iconst C (n := 0) (by decide +kernel) rfl rfl,
  pm_s_zast C (by decide +kernel) rfl,
  pm_s_iinc C (n := 1) (by decide +kernel) rfl rfl,
  pm_s_goto C (off := -15) (by decide +kernel) (by decide +kernel),
  pm_s_aload_n C (n := 0) (by decide +kernel) rfl rfl,
  pm_s_getf C (n := 19) (ci := 7) rfl rfl wiX7 (by decide) (by decide +kernel) pm_fl_X7_19 rfl,
  pm_s_getfN C (n := 92) (ci := 5) rfl rfl wiX5 (by decide) (by decide +kernel) pm_fn_X7_92 rfl,
  pm_s_iret (by decide +kernel) rfl,
  trivial⟩
def bp_X7_guest : List Nat := [0, 1, 4, 5, 8, 11, 12, 13, 14, 52, 53, 56, 59, 60, 61, 62, 63, 66, 69, 70, 71, 72, 73, 76, 79, 80, 81, 82, 83, 86, 89, 90, 91, 92, 93, 96, 99, 100, 101, 102, 103, 104, 105, 108, 109, 112, 115, 116, 117, 118, 119, 120, 122]
def co_X7_guest : List pm_Op := [
  pm_aload 0,
  pm_getf 7 1,
  pm_iload 1,
  pm_callV 5 30 2,
  pm_ifne 7,
  pm_push (-1),
  pm_iret,
  pm_iload 2,
  pm_tsw 51 [(0, 9), (1, 15), (2, 21), (3, 27), (4, 33), (5, 41)],
  pm_aload 0,
  pm_getf 7 2,
  pm_getf 4 0,
  pm_iload 1,
  pm_iald,
  pm_iret,
  pm_aload 0,
  pm_getf 7 1,
  pm_getf 5 0,
  pm_iload 1,
  pm_iald,
  pm_iret,
  pm_aload 0,
  pm_getf 7 1,
  pm_getf 5 1,
  pm_iload 1,
  pm_iald,
  pm_iret,
  pm_aload 0,
  pm_getf 7 1,
  pm_getf 5 2,
  pm_iload 1,
  pm_iald,
  pm_iret,
  pm_aload 0,
  pm_getf 7 2,
  pm_getf 4 4,
  pm_iload 1,
  pm_bin (fun x y => x >>> (y &&& 31)),
  pm_push (1),
  pm_bin (fun x y => x &&& y),
  pm_iret,
  pm_aload 0,
  pm_getf 7 1,
  pm_aload 0,
  pm_getf 7 2,
  pm_callV 5 37 2,
  pm_iload 1,
  pm_bin (fun x y => x >>> (y &&& 31)),
  pm_push (1),
  pm_bin (fun x y => x &&& y),
  pm_iret,
  pm_push (-2),
  pm_iret]
set_option maxRecDepth 20000 in
set_option maxHeartbeats 4000000 in
theorem ms_X7_guest : pm_MS 60 RX7 bp_X7_guest co_X7_guest := fun p l e R s m args below meth c cells slots Qm D cs ad sz d C hR => ⟨
  pm_s_aload_n C (n := 0) (by decide +kernel) rfl rfl,
  pm_s_getf C (n := 19) (ci := 7) rfl rfl wiX7 (by decide) (by decide +kernel) pm_fl_X7_19 rfl,
  pm_s_iload_n C (n := 1) (by decide +kernel) rfl rfl,
  pm_s_callV C hR (n := 93) (ci := 5) rfl (by decide +kernel) pm_ml_X7_93 pm_im30 pm_se30 pm_in_X5 pm_cw30 pm_q30 (by decide) rfl,
  pm_s_ifne C (off := 5) (by decide +kernel) (by decide +kernel) rfl,
  pm_s_iconst C (n := -1) (by decide +kernel) rfl rfl,
  pm_s_iret (by decide +kernel) rfl,
  pm_s_iload_n C (n := 2) (by decide +kernel) rfl rfl,
  pm_s_tsw C (dflt := 106) (lo := 0) (hi := 5) (offs := #[38, 48, 58, 68, 78, 90]) (len := 38) (by decide +kernel) (by decide +kernel) (by decide +kernel) (by decide +kernel),
  pm_s_aload_n C (n := 0) (by decide +kernel) rfl rfl,
  pm_s_getf C (n := 26) (ci := 7) rfl rfl wiX7 (by decide) (by decide +kernel) pm_fl_X7_26 rfl,
  pm_s_getfN C (n := 96) (ci := 4) rfl rfl wiX4 (by decide) (by decide +kernel) pm_fn_X7_96 rfl,
  pm_s_iload_n C (n := 1) (by decide +kernel) rfl rfl,
  pm_s_iald C (by decide +kernel) rfl,
  pm_s_iret (by decide +kernel) rfl,
  pm_s_aload_n C (n := 0) (by decide +kernel) rfl rfl,
  pm_s_getf C (n := 19) (ci := 7) rfl rfl wiX7 (by decide) (by decide +kernel) pm_fl_X7_19 rfl,
  pm_s_getfN C (n := 100) (ci := 5) rfl rfl wiX5 (by decide) (by decide +kernel) pm_fn_X7_100 rfl,
  pm_s_iload_n C (n := 1) (by decide +kernel) rfl rfl,
  pm_s_iald C (by decide +kernel) rfl,
  pm_s_iret (by decide +kernel) rfl,
  pm_s_aload_n C (n := 0) (by decide +kernel) rfl rfl,
  pm_s_getf C (n := 19) (ci := 7) rfl rfl wiX7 (by decide) (by decide +kernel) pm_fl_X7_19 rfl,
  pm_s_getfN C (n := 103) (ci := 5) rfl rfl wiX5 (by decide) (by decide +kernel) pm_fn_X7_103 rfl,
  pm_s_iload_n C (n := 1) (by decide +kernel) rfl rfl,
  pm_s_iald C (by decide +kernel) rfl,
  pm_s_iret (by decide +kernel) rfl,
  pm_s_aload_n C (n := 0) (by decide +kernel) rfl rfl,
  pm_s_getf C (n := 19) (ci := 7) rfl rfl wiX7 (by decide) (by decide +kernel) pm_fl_X7_19 rfl,
  pm_s_getfN C (n := 106) (ci := 5) rfl rfl wiX5 (by decide) (by decide +kernel) pm_fn_X7_106 rfl,
  pm_s_iload_n C (n := 1) (by decide +kernel) rfl rfl,
  pm_s_iald C (by decide +kernel) rfl,
  pm_s_iret (by decide +kernel) rfl,
  pm_s_aload_n C (n := 0) (by decide +kernel) rfl rfl,
  pm_s_getf C (n := 26) (ci := 7) rfl rfl wiX7 (by decide) (by decide +kernel) pm_fl_X7_26 rfl,
  pm_s_getfN C (n := 109) (ci := 4) rfl rfl wiX4 (by decide) (by decide +kernel) pm_fn_X7_109 rfl,
  pm_s_iload_n C (n := 1) (by decide +kernel) rfl rfl,
  pm_s_ishr C (by decide +kernel) rfl,
  pm_s_iconst C (n := 1) (by decide +kernel) rfl rfl,
  pm_s_iand C (by decide +kernel) rfl,
  pm_s_iret (by decide +kernel) rfl,
  pm_s_aload_n C (n := 0) (by decide +kernel) rfl rfl,
  pm_s_getf C (n := 19) (ci := 7) rfl rfl wiX7 (by decide) (by decide +kernel) pm_fl_X7_19 rfl,
  pm_s_aload_n C (n := 0) (by decide +kernel) rfl rfl,
  pm_s_getf C (n := 26) (ci := 7) rfl rfl wiX7 (by decide) (by decide +kernel) pm_fl_X7_26 rfl,
  pm_s_callV C hR (n := 112) (ci := 5) rfl (by decide +kernel) pm_ml_X7_112 pm_im37 pm_se37 pm_in_X5 pm_cw37 pm_q37 (by decide) rfl,
  pm_s_iload_n C (n := 1) (by decide +kernel) rfl rfl,
  pm_s_ishr C (by decide +kernel) rfl,
  pm_s_iconst C (n := 1) (by decide +kernel) rfl rfl,
  pm_s_iand C (by decide +kernel) rfl,
  pm_s_iret (by decide +kernel) rfl,
  pm_s_bipush C (n := -2) (by decide +kernel) rfl rfl,
  pm_s_iret (by decide +kernel) rfl,
  trivial⟩
def bp_X7_say : List Nat := [0, 1, 4, 5, 8, 11, 12, 13, 14, 17, 18, 21, 22, 25, 28, 30, 31, 32, 35, 36, 39, 42, 43, 46, 47, 50, 51, 54, 55, 58, 61]
def co_X7_say : List pm_Op := [
  pm_aload 0,
  pm_getf 7 1,
  pm_iload 1,
  pm_callV 5 30 2,
  pm_ifne 7,
  pm_push (-1),
  pm_iret,
  pm_aload 0,
  pm_getf 7 1,
  pm_aload 0,
  pm_getf 7 2,
  pm_iload 1,
  pm_callV 5 32 3,
  pm_ifne 16,
  pm_push (-3),
  pm_iret,
  pm_aload 0,
  pm_getf 7 3,
  pm_aload 0,
  pm_getf 7 2,
  pm_callV 0 0 2,
  pm_aload 0,
  pm_getf 7 1,
  pm_aload 0,
  pm_getf 7 2,
  pm_iload 1,
  pm_callV 5 33 3,
  pm_aload 0,
  pm_getf 7 2,
  pm_getf 4 1,
  pm_iret]
set_option maxRecDepth 20000 in
set_option maxHeartbeats 4000000 in
theorem ms_X7_say : pm_MS 61 RX7 bp_X7_say co_X7_say := fun p l e R s m args below meth c cells slots Qm D cs ad sz d C hR => ⟨
  pm_s_aload_n C (n := 0) (by decide +kernel) rfl rfl,
  pm_s_getf C (n := 19) (ci := 7) rfl rfl wiX7 (by decide) (by decide +kernel) pm_fl_X7_19 rfl,
  pm_s_iload_n C (n := 1) (by decide +kernel) rfl rfl,
  pm_s_callV C hR (n := 93) (ci := 5) rfl (by decide +kernel) pm_ml_X7_93 pm_im30 pm_se30 pm_in_X5 pm_cw30 pm_q30 (by decide) rfl,
  pm_s_ifne C (off := 5) (by decide +kernel) (by decide +kernel) rfl,
  pm_s_iconst C (n := -1) (by decide +kernel) rfl rfl,
  pm_s_iret (by decide +kernel) rfl,
  pm_s_aload_n C (n := 0) (by decide +kernel) rfl rfl,
  pm_s_getf C (n := 19) (ci := 7) rfl rfl wiX7 (by decide) (by decide +kernel) pm_fl_X7_19 rfl,
  pm_s_aload_n C (n := 0) (by decide +kernel) rfl rfl,
  pm_s_getf C (n := 26) (ci := 7) rfl rfl wiX7 (by decide) (by decide +kernel) pm_fl_X7_26 rfl,
  pm_s_iload_n C (n := 1) (by decide +kernel) rfl rfl,
  pm_s_callV C hR (n := 116) (ci := 5) rfl (by decide +kernel) pm_ml_X7_116 pm_im32 pm_se32 pm_in_X5 pm_cw32 pm_q32 (by decide) rfl,
  pm_s_ifne C (off := 6) (by decide +kernel) (by decide +kernel) rfl,
  pm_s_bipush C (n := -3) (by decide +kernel) rfl rfl,
  pm_s_iret (by decide +kernel) rfl,
  pm_s_aload_n C (n := 0) (by decide +kernel) rfl rfl,
  pm_s_getf C (n := 33) (ci := 7) rfl rfl wiX7 (by decide) (by decide +kernel) pm_fl_X7_33 rfl,
  pm_s_aload_n C (n := 0) (by decide +kernel) rfl rfl,
  pm_s_getf C (n := 26) (ci := 7) rfl rfl wiX7 (by decide) (by decide +kernel) pm_fl_X7_26 rfl,
  pm_s_callV C hR (n := 120) (ci := 0) rfl (by decide +kernel) pm_ml_X7_120 pm_im0 pm_se0 pm_in_X0 pm_cw0 pm_q0 (by decide) rfl,
  pm_s_aload_n C (n := 0) (by decide +kernel) rfl rfl,
  pm_s_getf C (n := 19) (ci := 7) rfl rfl wiX7 (by decide) (by decide +kernel) pm_fl_X7_19 rfl,
  pm_s_aload_n C (n := 0) (by decide +kernel) rfl rfl,
  pm_s_getf C (n := 26) (ci := 7) rfl rfl wiX7 (by decide) (by decide +kernel) pm_fl_X7_26 rfl,
  pm_s_iload_n C (n := 1) (by decide +kernel) rfl rfl,
  pm_s_callV C hR (n := 124) (ci := 5) rfl (by decide +kernel) pm_ml_X7_124 pm_im33 pm_se33 pm_in_X5 pm_cw33 pm_q33 (by decide) rfl,
  pm_s_aload_n C (n := 0) (by decide +kernel) rfl rfl,
  pm_s_getf C (n := 26) (ci := 7) rfl rfl wiX7 (by decide) (by decide +kernel) pm_fl_X7_26 rfl,
  pm_s_getfN C (n := 128) (ci := 4) rfl rfl wiX4 (by decide) (by decide +kernel) pm_fn_X7_128 rfl,
  pm_s_iret (by decide +kernel) rfl,
  trivial⟩
def bp_X7_pass : List Nat := [0, 1, 4, 5, 8, 11, 12, 13, 14, 17, 18, 21, 24, 25, 28, 29, 32, 33, 36, 37, 40, 43]
def co_X7_pass : List pm_Op := [
  pm_aload 0,
  pm_getf 7 1,
  pm_iload 1,
  pm_callV 5 30 2,
  pm_ifne 7,
  pm_push (-1),
  pm_iret,
  pm_aload 0,
  pm_getf 7 3,
  pm_aload 0,
  pm_getf 7 2,
  pm_callV 0 0 2,
  pm_aload 0,
  pm_getf 7 1,
  pm_aload 0,
  pm_getf 7 2,
  pm_iload 1,
  pm_callV 5 35 3,
  pm_aload 0,
  pm_getf 7 2,
  pm_getf 4 3,
  pm_iret]
set_option maxRecDepth 20000 in
set_option maxHeartbeats 4000000 in
theorem ms_X7_pass : pm_MS 62 RX7 bp_X7_pass co_X7_pass := fun p l e R s m args below meth c cells slots Qm D cs ad sz d C hR => ⟨
  pm_s_aload_n C (n := 0) (by decide +kernel) rfl rfl,
  pm_s_getf C (n := 19) (ci := 7) rfl rfl wiX7 (by decide) (by decide +kernel) pm_fl_X7_19 rfl,
  pm_s_iload_n C (n := 1) (by decide +kernel) rfl rfl,
  pm_s_callV C hR (n := 93) (ci := 5) rfl (by decide +kernel) pm_ml_X7_93 pm_im30 pm_se30 pm_in_X5 pm_cw30 pm_q30 (by decide) rfl,
  pm_s_ifne C (off := 5) (by decide +kernel) (by decide +kernel) rfl,
  pm_s_iconst C (n := -1) (by decide +kernel) rfl rfl,
  pm_s_iret (by decide +kernel) rfl,
  pm_s_aload_n C (n := 0) (by decide +kernel) rfl rfl,
  pm_s_getf C (n := 33) (ci := 7) rfl rfl wiX7 (by decide) (by decide +kernel) pm_fl_X7_33 rfl,
  pm_s_aload_n C (n := 0) (by decide +kernel) rfl rfl,
  pm_s_getf C (n := 26) (ci := 7) rfl rfl wiX7 (by decide) (by decide +kernel) pm_fl_X7_26 rfl,
  pm_s_callV C hR (n := 120) (ci := 0) rfl (by decide +kernel) pm_ml_X7_120 pm_im0 pm_se0 pm_in_X0 pm_cw0 pm_q0 (by decide) rfl,
  pm_s_aload_n C (n := 0) (by decide +kernel) rfl rfl,
  pm_s_getf C (n := 19) (ci := 7) rfl rfl wiX7 (by decide) (by decide +kernel) pm_fl_X7_19 rfl,
  pm_s_aload_n C (n := 0) (by decide +kernel) rfl rfl,
  pm_s_getf C (n := 26) (ci := 7) rfl rfl wiX7 (by decide) (by decide +kernel) pm_fl_X7_26 rfl,
  pm_s_iload_n C (n := 1) (by decide +kernel) rfl rfl,
  pm_s_callV C hR (n := 131) (ci := 5) rfl (by decide +kernel) pm_ml_X7_131 pm_im35 pm_se35 pm_in_X5 pm_cw35 pm_q35 (by decide) rfl,
  pm_s_aload_n C (n := 0) (by decide +kernel) rfl rfl,
  pm_s_getf C (n := 26) (ci := 7) rfl rfl wiX7 (by decide) (by decide +kernel) pm_fl_X7_26 rfl,
  pm_s_getfN C (n := 134) (ci := 4) rfl rfl wiX4 (by decide) (by decide +kernel) pm_fn_X7_134 rfl,
  pm_s_iret (by decide +kernel) rfl,
  trivial⟩
def bp_X7_fetch : List Nat := [0, 1, 4, 7, 8, 9, 12, 13, 16, 19, 20, 23, 24, 27, 30, 31]
def co_X7_fetch : List pm_Op := [
  pm_aload 0,
  pm_getf 7 2,
  pm_getf 4 3,
  pm_istore 1,
  pm_aload 0,
  pm_getf 7 3,
  pm_aload 0,
  pm_getf 7 2,
  pm_callV 0 0 2,
  pm_aload 0,
  pm_getf 7 1,
  pm_aload 0,
  pm_getf 7 2,
  pm_callV 5 36 2,
  pm_iload 1,
  pm_iret]
set_option maxRecDepth 20000 in
set_option maxHeartbeats 4000000 in
theorem ms_X7_fetch : pm_MS 63 RX7 bp_X7_fetch co_X7_fetch := fun p l e R s m args below meth c cells slots Qm D cs ad sz d C hR => ⟨
  pm_s_aload_n C (n := 0) (by decide +kernel) rfl rfl,
  pm_s_getf C (n := 26) (ci := 7) rfl rfl wiX7 (by decide) (by decide +kernel) pm_fl_X7_26 rfl,
  pm_s_getfN C (n := 134) (ci := 4) rfl rfl wiX4 (by decide) (by decide +kernel) pm_fn_X7_134 rfl,
  pm_s_istore_n C (n := 1) (by decide +kernel) rfl rfl,
  pm_s_aload_n C (n := 0) (by decide +kernel) rfl rfl,
  pm_s_getf C (n := 33) (ci := 7) rfl rfl wiX7 (by decide) (by decide +kernel) pm_fl_X7_33 rfl,
  pm_s_aload_n C (n := 0) (by decide +kernel) rfl rfl,
  pm_s_getf C (n := 26) (ci := 7) rfl rfl wiX7 (by decide) (by decide +kernel) pm_fl_X7_26 rfl,
  pm_s_callV C hR (n := 120) (ci := 0) rfl (by decide +kernel) pm_ml_X7_120 pm_im0 pm_se0 pm_in_X0 pm_cw0 pm_q0 (by decide) rfl,
  pm_s_aload_n C (n := 0) (by decide +kernel) rfl rfl,
  pm_s_getf C (n := 19) (ci := 7) rfl rfl wiX7 (by decide) (by decide +kernel) pm_fl_X7_19 rfl,
  pm_s_aload_n C (n := 0) (by decide +kernel) rfl rfl,
  pm_s_getf C (n := 26) (ci := 7) rfl rfl wiX7 (by decide) (by decide +kernel) pm_fl_X7_26 rfl,
  pm_s_callV C hR (n := 137) (ci := 5) rfl (by decide +kernel) pm_ml_X7_137 pm_im36 pm_se36 pm_in_X5 pm_cw36 pm_q36 (by decide) rfl,
  pm_s_iload_n C (n := 1) (by decide +kernel) rfl rfl,
  pm_s_iret (by decide +kernel) rfl,
  trivial⟩
def bp_X7_undo : List Nat := [0, 1, 4, 7, 10, 12, 13, 14, 17, 18, 21, 24, 25, 28, 31]
def co_X7_undo : List pm_Op := [
  pm_aload 0,
  pm_getf 7 3,
  pm_getf 0 1,
  pm_ifne 6,
  pm_push (-3),
  pm_iret,
  pm_aload 0,
  pm_getf 7 3,
  pm_aload 0,
  pm_getf 7 2,
  pm_callV 0 1 2,
  pm_aload 0,
  pm_getf 7 3,
  pm_getf 0 1,
  pm_iret]
set_option maxRecDepth 20000 in
set_option maxHeartbeats 4000000 in
theorem ms_X7_undo : pm_MS 64 RX7 bp_X7_undo co_X7_undo := fun p l e R s m args below meth c cells slots Qm D cs ad sz d C hR => ⟨
  pm_s_aload_n C (n := 0) (by decide +kernel) rfl rfl,
  pm_s_getf C (n := 33) (ci := 7) rfl rfl wiX7 (by decide) (by decide +kernel) pm_fl_X7_33 rfl,
  pm_s_getfN C (n := 89) (ci := 0) rfl rfl wiX0 (by decide) (by decide +kernel) pm_fn_X7_89 rfl,
  pm_s_ifne C (off := 6) (by decide +kernel) (by decide +kernel) rfl,
  pm_s_bipush C (n := -3) (by decide +kernel) rfl rfl,
  pm_s_iret (by decide +kernel) rfl,
  pm_s_aload_n C (n := 0) (by decide +kernel) rfl rfl,
  pm_s_getf C (n := 33) (ci := 7) rfl rfl wiX7 (by decide) (by decide +kernel) pm_fl_X7_33 rfl,
  pm_s_aload_n C (n := 0) (by decide +kernel) rfl rfl,
  pm_s_getf C (n := 26) (ci := 7) rfl rfl wiX7 (by decide) (by decide +kernel) pm_fl_X7_26 rfl,
  pm_s_callV C hR (n := 140) (ci := 0) rfl (by decide +kernel) pm_ml_X7_140 pm_im1 pm_se1 pm_in_X0 pm_cw1 pm_q1 (by decide) rfl,
  pm_s_aload_n C (n := 0) (by decide +kernel) rfl rfl,
  pm_s_getf C (n := 33) (ci := 7) rfl rfl wiX7 (by decide) (by decide +kernel) pm_fl_X7_33 rfl,
  pm_s_getfN C (n := 89) (ci := 0) rfl rfl wiX0 (by decide) (by decide +kernel) pm_fn_X7_89 rfl,
  pm_s_iret (by decide +kernel) rfl,
  trivial⟩
def bp_X7_passes : List Nat := [0, 1, 4, 5, 8, 9, 12, 15, 16, 19, 22, 25, 26, 29, 30, 33, 36, 39, 40, 43, 46]
def co_X7_passes : List pm_Op := [
  pm_aload 0,
  pm_getf 7 7,
  pm_aload 0,
  pm_getf 7 2,
  pm_aload 0,
  pm_getf 7 2,
  pm_getf 4 4,
  pm_aload 0,
  pm_getf 7 1,
  pm_callV 5 31 1,
  pm_callV 3 17 4,
  pm_iload 1,
  pm_ifeq 17,
  pm_aload 0,
  pm_getf 7 7,
  pm_getf 3 3,
  pm_goto 20,
  pm_aload 0,
  pm_getf 7 7,
  pm_getf 3 2,
  pm_iret]
set_option maxRecDepth 20000 in
set_option maxHeartbeats 4000000 in
theorem ms_X7_passes : pm_MS 65 RX7 bp_X7_passes co_X7_passes := fun p l e R s m args below meth c cells slots Qm D cs ad sz d C hR => ⟨
  pm_s_aload_n C (n := 0) (by decide +kernel) rfl rfl,
  pm_s_getf C (n := 57) (ci := 7) rfl rfl wiX7 (by decide) (by decide +kernel) pm_fl_X7_57 rfl,
  pm_s_aload_n C (n := 0) (by decide +kernel) rfl rfl,
  pm_s_getf C (n := 26) (ci := 7) rfl rfl wiX7 (by decide) (by decide +kernel) pm_fl_X7_26 rfl,
  pm_s_aload_n C (n := 0) (by decide +kernel) rfl rfl,
  pm_s_getf C (n := 26) (ci := 7) rfl rfl wiX7 (by decide) (by decide +kernel) pm_fl_X7_26 rfl,
  pm_s_getfN C (n := 109) (ci := 4) rfl rfl wiX4 (by decide) (by decide +kernel) pm_fn_X7_109 rfl,
  pm_s_aload_n C (n := 0) (by decide +kernel) rfl rfl,
  pm_s_getf C (n := 19) (ci := 7) rfl rfl wiX7 (by decide) (by decide +kernel) pm_fl_X7_19 rfl,
  pm_s_callV C hR (n := 143) (ci := 5) rfl (by decide +kernel) pm_ml_X7_143 pm_im31 pm_se31 pm_in_X5 pm_cw31 pm_q31 (by decide) rfl,
  pm_s_callV C hR (n := 146) (ci := 3) rfl (by decide +kernel) pm_ml_X7_146 pm_im17 pm_se17 pm_in_X3 pm_cw17 pm_q17 (by decide) rfl,
  pm_s_iload_n C (n := 1) (by decide +kernel) rfl rfl,
  pm_s_ifeq C (off := 13) (by decide +kernel) (by decide +kernel) rfl,
  pm_s_aload_n C (n := 0) (by decide +kernel) rfl rfl,
  pm_s_getf C (n := 57) (ci := 7) rfl rfl wiX7 (by decide) (by decide +kernel) pm_fl_X7_57 rfl,
  pm_s_getfN C (n := 150) (ci := 3) rfl rfl wiX3 (by decide) (by decide +kernel) pm_fn_X7_150 rfl,
  pm_s_goto C (off := 10) (by decide +kernel) (by decide +kernel),
  pm_s_aload_n C (n := 0) (by decide +kernel) rfl rfl,
  pm_s_getf C (n := 57) (ci := 7) rfl rfl wiX7 (by decide) (by decide +kernel) pm_fl_X7_57 rfl,
  pm_s_getfN C (n := 153) (ci := 3) rfl rfl wiX3 (by decide) (by decide +kernel) pm_fn_X7_153 rfl,
  pm_s_iret (by decide +kernel) rfl,
  trivial⟩
def bp_X7_longBy : List Nat := [0, 1, 2, 5, 6, 8, 11, 13, 14, 15, 18, 19, 22, 23, 26, 27, 30]
def co_X7_longBy : List pm_Op := [
  pm_iload 1,
  pm_push (1),
  pm_cmplt 6,
  pm_iload 1,
  pm_push (60),
  pm_cmple 8,
  pm_push (-2),
  pm_iret,
  pm_aload 0,
  pm_getf 7 7,
  pm_aload 0,
  pm_getf 7 2,
  pm_iload 1,
  pm_callV 3 20 3,
  pm_iload 2,
  pm_callS 82 2,
  pm_iret]
set_option maxRecDepth 20000 in
set_option maxHeartbeats 4000000 in
theorem ms_X7_longBy : pm_MS 66 RX7 bp_X7_longBy co_X7_longBy := fun p l e R s m args below meth c cells slots Qm D cs ad sz d C hR => ⟨
  pm_s_iload_n C (n := 1) (by decide +kernel) rfl rfl,
  pm_s_iconst C (n := 1) (by decide +kernel) rfl rfl,
  pm_s_cmplt C (off := 9) (by decide +kernel) (by decide +kernel) rfl,
  pm_s_iload_n C (n := 1) (by decide +kernel) rfl rfl,
  pm_s_bipush C (n := 60) (by decide +kernel) rfl rfl,
  pm_s_cmple C (off := 6) (by decide +kernel) (by decide +kernel) rfl,
  pm_s_bipush C (n := -2) (by decide +kernel) rfl rfl,
  pm_s_iret (by decide +kernel) rfl,
  pm_s_aload_n C (n := 0) (by decide +kernel) rfl rfl,
  pm_s_getf C (n := 57) (ci := 7) rfl rfl wiX7 (by decide) (by decide +kernel) pm_fl_X7_57 rfl,
  pm_s_aload_n C (n := 0) (by decide +kernel) rfl rfl,
  pm_s_getf C (n := 26) (ci := 7) rfl rfl wiX7 (by decide) (by decide +kernel) pm_fl_X7_26 rfl,
  pm_s_iload_n C (n := 1) (by decide +kernel) rfl rfl,
  pm_s_callV C hR (n := 156) (ci := 3) rfl (by decide +kernel) pm_ml_X7_156 pm_im20 pm_se20 pm_in_X3 pm_cw20 pm_q20 (by decide) rfl,
  pm_s_iload_n C (n := 2) (by decide +kernel) rfl rfl,
  pm_s_callS C hR (n := 160) (by decide +kernel) pm_ml_X7_160 pm_ss82 pm_in_X7 pm_cw82 pm_q82 (by decide) rfl,
  pm_s_iret (by decide +kernel) rfl,
  trivial⟩
def bp_X7_together : List Nat := [0, 1, 4, 5, 8, 9, 12, 13, 16]
def co_X7_together : List pm_Op := [
  pm_aload 0,
  pm_getf 7 7,
  pm_aload 0,
  pm_getf 7 2,
  pm_push (0),
  pm_callV 3 20 3,
  pm_iload 1,
  pm_callS 82 2,
  pm_iret]
set_option maxRecDepth 20000 in
set_option maxHeartbeats 4000000 in
theorem ms_X7_together : pm_MS 67 RX7 bp_X7_together co_X7_together := fun p l e R s m args below meth c cells slots Qm D cs ad sz d C hR => ⟨
  pm_s_aload_n C (n := 0) (by decide +kernel) rfl rfl,
  pm_s_getf C (n := 57) (ci := 7) rfl rfl wiX7 (by decide) (by decide +kernel) pm_fl_X7_57 rfl,
  pm_s_aload_n C (n := 0) (by decide +kernel) rfl rfl,
  pm_s_getf C (n := 26) (ci := 7) rfl rfl wiX7 (by decide) (by decide +kernel) pm_fl_X7_26 rfl,
  pm_s_iconst C (n := 0) (by decide +kernel) rfl rfl,
  pm_s_callV C hR (n := 156) (ci := 3) rfl (by decide +kernel) pm_ml_X7_156 pm_im20 pm_se20 pm_in_X3 pm_cw20 pm_q20 (by decide) rfl,
  pm_s_iload_n C (n := 1) (by decide +kernel) rfl rfl,
  pm_s_callS C hR (n := 160) (by decide +kernel) pm_ml_X7_160 pm_ss82 pm_in_X7 pm_cw82 pm_q82 (by decide) rfl,
  pm_s_iret (by decide +kernel) rfl,
  trivial⟩
def bp_X7_judge : List Nat := [0, 1, 2, 5, 8, 10, 11, 12, 15, 16, 19, 20, 21, 24]
def co_X7_judge : List pm_Op := [
  pm_iload 1,
  pm_iload 2,
  pm_callS 84 2,
  pm_ifne 6,
  pm_push (-2),
  pm_iret,
  pm_aload 0,
  pm_getf 7 7,
  pm_aload 0,
  pm_getf 7 2,
  pm_iload 1,
  pm_iload 2,
  pm_callV 3 23 4,
  pm_iret]
set_option maxRecDepth 20000 in
set_option maxHeartbeats 4000000 in
theorem ms_X7_judge : pm_MS 68 RX7 bp_X7_judge co_X7_judge := fun p l e R s m args below meth c cells slots Qm D cs ad sz d C hR => ⟨
  pm_s_iload_n C (n := 1) (by decide +kernel) rfl rfl,
  pm_s_iload_n C (n := 2) (by decide +kernel) rfl rfl,
  pm_s_callS C hR (n := 164) (by decide +kernel) pm_ml_X7_164 pm_ss84 pm_in_X7 pm_cw84 pm_q84 (by decide) rfl,
  pm_s_ifne C (off := 6) (by decide +kernel) (by decide +kernel) rfl,
  pm_s_bipush C (n := -2) (by decide +kernel) rfl rfl,
  pm_s_iret (by decide +kernel) rfl,
  pm_s_aload_n C (n := 0) (by decide +kernel) rfl rfl,
  pm_s_getf C (n := 57) (ci := 7) rfl rfl wiX7 (by decide) (by decide +kernel) pm_fl_X7_57 rfl,
  pm_s_aload_n C (n := 0) (by decide +kernel) rfl rfl,
  pm_s_getf C (n := 26) (ci := 7) rfl rfl wiX7 (by decide) (by decide +kernel) pm_fl_X7_26 rfl,
  pm_s_iload_n C (n := 1) (by decide +kernel) rfl rfl,
  pm_s_iload_n C (n := 2) (by decide +kernel) rfl rfl,
  pm_s_callV C hR (n := 168) (ci := 3) rfl (by decide +kernel) pm_ml_X7_168 pm_im23 pm_se23 pm_in_X3 pm_cw23 pm_q23 (by decide) rfl,
  pm_s_iret (by decide +kernel) rfl,
  trivial⟩
def bp_X7_share : List Nat := [0, 1, 4, 5, 8, 11, 12, 13, 14, 17, 18, 21, 22, 23, 26]
def co_X7_share : List pm_Op := [
  pm_aload 0,
  pm_getf 7 1,
  pm_iload 1,
  pm_callV 5 30 2,
  pm_ifne 7,
  pm_push (-1),
  pm_iret,
  pm_aload 0,
  pm_getf 7 8,
  pm_aload 0,
  pm_getf 7 2,
  pm_iload 1,
  pm_iload 2,
  pm_callV 1 3 4,
  pm_iret]
set_option maxRecDepth 20000 in
set_option maxHeartbeats 4000000 in
theorem ms_X7_share : pm_MS 69 RX7 bp_X7_share co_X7_share := fun p l e R s m args below meth c cells slots Qm D cs ad sz d C hR => ⟨
  pm_s_aload_n C (n := 0) (by decide +kernel) rfl rfl,
  pm_s_getf C (n := 19) (ci := 7) rfl rfl wiX7 (by decide) (by decide +kernel) pm_fl_X7_19 rfl,
  pm_s_iload_n C (n := 1) (by decide +kernel) rfl rfl,
  pm_s_callV C hR (n := 93) (ci := 5) rfl (by decide +kernel) pm_ml_X7_93 pm_im30 pm_se30 pm_in_X5 pm_cw30 pm_q30 (by decide) rfl,
  pm_s_ifne C (off := 5) (by decide +kernel) (by decide +kernel) rfl,
  pm_s_iconst C (n := -1) (by decide +kernel) rfl rfl,
  pm_s_iret (by decide +kernel) rfl,
  pm_s_aload_n C (n := 0) (by decide +kernel) rfl rfl,
  pm_s_getf C (n := 66) (ci := 7) rfl rfl wiX7 (by decide) (by decide +kernel) pm_fl_X7_66 rfl,
  pm_s_aload_n C (n := 0) (by decide +kernel) rfl rfl,
  pm_s_getf C (n := 26) (ci := 7) rfl rfl wiX7 (by decide) (by decide +kernel) pm_fl_X7_26 rfl,
  pm_s_iload_n C (n := 1) (by decide +kernel) rfl rfl,
  pm_s_iload_n C (n := 2) (by decide +kernel) rfl rfl,
  pm_s_callV C hR (n := 172) (ci := 1) rfl (by decide +kernel) pm_ml_X7_172 pm_im3 pm_se3 pm_in_X1 pm_cw3 pm_q3 (by decide) rfl,
  pm_s_iret (by decide +kernel) rfl,
  trivial⟩
def bp_X7_comes : List Nat := [0, 1, 2, 5, 8, 9, 10, 11, 14, 15, 18, 21, 24, 27, 29]
def co_X7_comes : List pm_Op := [
  pm_iload 1,
  pm_iload 2,
  pm_callS 86 2,
  pm_ifeq 13,
  pm_iload 1,
  pm_iload 2,
  pm_aload 0,
  pm_getf 7 1,
  pm_aload 0,
  pm_getf 7 2,
  pm_callV 5 39 2,
  pm_callS 87 3,
  pm_goto 14,
  pm_push (-2),
  pm_iret]
set_option maxRecDepth 20000 in
set_option maxHeartbeats 4000000 in
theorem ms_X7_comes : pm_MS 70 RX7 bp_X7_comes co_X7_comes := fun p l e R s m args below meth c cells slots Qm D cs ad sz d C hR => ⟨
  pm_s_iload_n C (n := 1) (by decide +kernel) rfl rfl,
  pm_s_iload_n C (n := 2) (by decide +kernel) rfl rfl,
  pm_s_callS C hR (n := 176) (by decide +kernel) pm_ml_X7_176 pm_ss86 pm_in_X7 pm_cw86 pm_q86 (by decide) rfl,
  pm_s_ifeq C (off := 22) (by decide +kernel) (by decide +kernel) rfl,
  pm_s_iload_n C (n := 1) (by decide +kernel) rfl rfl,
  pm_s_iload_n C (n := 2) (by decide +kernel) rfl rfl,
  pm_s_aload_n C (n := 0) (by decide +kernel) rfl rfl,
  pm_s_getf C (n := 19) (ci := 7) rfl rfl wiX7 (by decide) (by decide +kernel) pm_fl_X7_19 rfl,
  pm_s_aload_n C (n := 0) (by decide +kernel) rfl rfl,
  pm_s_getf C (n := 26) (ci := 7) rfl rfl wiX7 (by decide) (by decide +kernel) pm_fl_X7_26 rfl,
  pm_s_callV C hR (n := 179) (ci := 5) rfl (by decide +kernel) pm_ml_X7_179 pm_im39 pm_se39 pm_in_X5 pm_cw39 pm_q39 (by decide) rfl,
  pm_s_callS C hR (n := 182) (by decide +kernel) pm_ml_X7_182 pm_ss87 pm_in_X7 pm_cw87 pm_q87 (by decide) rfl,
  pm_s_goto C (off := 5) (by decide +kernel) (by decide +kernel),
  pm_s_bipush C (n := -2) (by decide +kernel) rfl rfl,
  pm_s_iret (by decide +kernel) rfl,
  trivial⟩
def bp_X7_spoken : List Nat := [0, 1, 2, 5, 8, 9, 10, 11, 14, 15, 18, 21, 22, 25, 28, 30]
def co_X7_spoken : List pm_Op := [
  pm_iload 1,
  pm_iload 2,
  pm_callS 86 2,
  pm_ifeq 14,
  pm_iload 1,
  pm_iload 2,
  pm_aload 0,
  pm_getf 7 1,
  pm_aload 0,
  pm_getf 7 2,
  pm_callV 5 39 2,
  pm_ineg,
  pm_callS 87 3,
  pm_goto 15,
  pm_push (-2),
  pm_iret]
set_option maxRecDepth 20000 in
set_option maxHeartbeats 4000000 in
theorem ms_X7_spoken : pm_MS 71 RX7 bp_X7_spoken co_X7_spoken := fun p l e R s m args below meth c cells slots Qm D cs ad sz d C hR => ⟨
  pm_s_iload_n C (n := 1) (by decide +kernel) rfl rfl,
  pm_s_iload_n C (n := 2) (by decide +kernel) rfl rfl,
  pm_s_callS C hR (n := 176) (by decide +kernel) pm_ml_X7_176 pm_ss86 pm_in_X7 pm_cw86 pm_q86 (by decide) rfl,
  pm_s_ifeq C (off := 23) (by decide +kernel) (by decide +kernel) rfl,
  pm_s_iload_n C (n := 1) (by decide +kernel) rfl rfl,
  pm_s_iload_n C (n := 2) (by decide +kernel) rfl rfl,
  pm_s_aload_n C (n := 0) (by decide +kernel) rfl rfl,
  pm_s_getf C (n := 19) (ci := 7) rfl rfl wiX7 (by decide) (by decide +kernel) pm_fl_X7_19 rfl,
  pm_s_aload_n C (n := 0) (by decide +kernel) rfl rfl,
  pm_s_getf C (n := 26) (ci := 7) rfl rfl wiX7 (by decide) (by decide +kernel) pm_fl_X7_26 rfl,
  pm_s_callV C hR (n := 179) (ci := 5) rfl (by decide +kernel) pm_ml_X7_179 pm_im39 pm_se39 pm_in_X5 pm_cw39 pm_q39 (by decide) rfl,
  pm_s_ineg C (by decide +kernel) rfl,
  pm_s_callS C hR (n := 182) (by decide +kernel) pm_ml_X7_182 pm_ss87 pm_in_X7 pm_cw87 pm_q87 (by decide) rfl,
  pm_s_goto C (off := 5) (by decide +kernel) (by decide +kernel),
  pm_s_bipush C (n := -2) (by decide +kernel) rfl rfl,
  pm_s_iret (by decide +kernel) rfl,
  trivial⟩
def bp_X7_dine : List Nat := [0, 1, 4, 5, 8, 9, 10, 13, 14, 16, 19, 20, 22, 25, 27, 28, 29, 32, 33, 34, 37, 40, 41, 44, 47, 50, 52]
def co_X7_dine : List pm_Op := [
  pm_iload 1,
  pm_iflt 13,
  pm_iload 1,
  pm_gets 37,
  pm_push (4),
  pm_iald,
  pm_cmpge 13,
  pm_iload 2,
  pm_push (-40),
  pm_cmplt 13,
  pm_iload 2,
  pm_push (40),
  pm_cmple 15,
  pm_push (-2),
  pm_iret,
  pm_aload 0,
  pm_getf 7 6,
  pm_iload 1,
  pm_iload 2,
  pm_callV 2 11 3,
  pm_ifeq 25,
  pm_aload 0,
  pm_getf 7 6,
  pm_getf 2 2,
  pm_goto 26,
  pm_push (-4),
  pm_iret]
set_option maxRecDepth 20000 in
set_option maxHeartbeats 4000000 in
theorem ms_X7_dine : pm_MS 72 RX7 bp_X7_dine co_X7_dine := fun p l e R s m args below meth c cells slots Qm D cs ad sz d C hR => ⟨
  pm_s_iload_n C (n := 1) (by decide +kernel) rfl rfl,
  pm_s_iflt C (off := 24) (by decide +kernel) (by decide +kernel) rfl,
  pm_s_iload_n C (n := 1) (by decide +kernel) rfl rfl,
  pm_s_gets C (n := 186) (by decide) (by decide) (by decide +kernel) pm_fl_X7_186 rfl,
  pm_s_iconst C (n := 4) (by decide +kernel) rfl rfl,
  pm_s_iald C (by decide +kernel) rfl,
  pm_s_cmpge C (off := 15) (by decide +kernel) (by decide +kernel) rfl,
  pm_s_iload_n C (n := 2) (by decide +kernel) rfl rfl,
  pm_s_bipush C (n := -40) (by decide +kernel) rfl rfl,
  pm_s_cmplt C (off := 9) (by decide +kernel) (by decide +kernel) rfl,
  pm_s_iload_n C (n := 2) (by decide +kernel) rfl rfl,
  pm_s_bipush C (n := 40) (by decide +kernel) rfl rfl,
  pm_s_cmple C (off := 6) (by decide +kernel) (by decide +kernel) rfl,
  pm_s_bipush C (n := -2) (by decide +kernel) rfl rfl,
  pm_s_iret (by decide +kernel) rfl,
  pm_s_aload_n C (n := 0) (by decide +kernel) rfl rfl,
  pm_s_getf C (n := 48) (ci := 7) rfl rfl wiX7 (by decide) (by decide +kernel) pm_fl_X7_48 rfl,
  pm_s_iload_n C (n := 1) (by decide +kernel) rfl rfl,
  pm_s_iload_n C (n := 2) (by decide +kernel) rfl rfl,
  pm_s_callV C hR (n := 189) (ci := 2) rfl (by decide +kernel) pm_ml_X7_189 pm_im11 pm_se11 pm_in_X2 pm_cw11 pm_q11 (by decide) rfl,
  pm_s_ifeq C (off := 13) (by decide +kernel) (by decide +kernel) rfl,
  pm_s_aload_n C (n := 0) (by decide +kernel) rfl rfl,
  pm_s_getf C (n := 48) (ci := 7) rfl rfl wiX7 (by decide) (by decide +kernel) pm_fl_X7_48 rfl,
  pm_s_getfN C (n := 191) (ci := 2) rfl rfl wiX2 (by decide) (by decide +kernel) pm_fn_X7_191 rfl,
  pm_s_goto C (off := 5) (by decide +kernel) (by decide +kernel),
  pm_s_bipush C (n := -4) (by decide +kernel) rfl rfl,
  pm_s_iret (by decide +kernel) rfl,
  trivial⟩
def bp_X7_clear : List Nat := [0, 1, 4, 7, 8, 9, 12, 13, 16, 17]
def co_X7_clear : List pm_Op := [
  pm_aload 0,
  pm_getf 7 6,
  pm_getf 2 2,
  pm_istore 1,
  pm_aload 0,
  pm_getf 7 6,
  pm_push (0),
  pm_putf 2 2,
  pm_iload 1,
  pm_iret]
set_option maxRecDepth 20000 in
set_option maxHeartbeats 4000000 in
theorem ms_X7_clear : pm_MS 73 RX7 bp_X7_clear co_X7_clear := fun p l e R s m args below meth c cells slots Qm D cs ad sz d C hR => ⟨
  pm_s_aload_n C (n := 0) (by decide +kernel) rfl rfl,
  pm_s_getf C (n := 48) (ci := 7) rfl rfl wiX7 (by decide) (by decide +kernel) pm_fl_X7_48 rfl,
  pm_s_getfN C (n := 191) (ci := 2) rfl rfl wiX2 (by decide) (by decide +kernel) pm_fn_X7_191 rfl,
  pm_s_istore_n C (n := 1) (by decide +kernel) rfl rfl,
  pm_s_aload_n C (n := 0) (by decide +kernel) rfl rfl,
  pm_s_getf C (n := 48) (ci := 7) rfl rfl wiX7 (by decide) (by decide +kernel) pm_fl_X7_48 rfl,
  pm_s_iconst C (n := 0) (by decide +kernel) rfl rfl,
  pm_s_putfN C (n := 191) (ci := 2) rfl rfl wiX2 (by decide) tyX2 tyX2_ok nmX2 rfl (by decide +kernel) (by decide +kernel) pm_fn_X7_191 rfl,
  pm_s_iload_n C (n := 1) (by decide +kernel) rfl rfl,
  pm_s_iret (by decide +kernel) rfl,
  trivial⟩
def bp_X7_laws : List Nat := [0, 1, 4, 5, 6, 9, 11, 12, 13, 16, 19, 20, 23, 24, 27, 30, 31, 32, 33, 36, 37, 40, 43, 46, 47, 50, 53]
def co_X7_laws : List pm_Op := [
  pm_iload 1,
  pm_iflt 5,
  pm_iload 1,
  pm_push (2),
  pm_cmple 7,
  pm_push (-2),
  pm_iret,
  pm_aload 0,
  pm_getf 7 6,
  pm_callV 2 12 1,
  pm_iload 1,
  pm_ifne 16,
  pm_aload 0,
  pm_getf 7 6,
  pm_getf 2 3,
  pm_iret,
  pm_iload 1,
  pm_push (1),
  pm_cmpne 23,
  pm_aload 0,
  pm_getf 7 6,
  pm_getf 2 4,
  pm_goto 26,
  pm_aload 0,
  pm_getf 7 6,
  pm_getf 2 5,
  pm_iret]
set_option maxRecDepth 20000 in
set_option maxHeartbeats 4000000 in
theorem ms_X7_laws : pm_MS 74 RX7 bp_X7_laws co_X7_laws := fun p l e R s m args below meth c cells slots Qm D cs ad sz d C hR => ⟨
  pm_s_iload_n C (n := 1) (by decide +kernel) rfl rfl,
  pm_s_iflt C (off := 8) (by decide +kernel) (by decide +kernel) rfl,
  pm_s_iload_n C (n := 1) (by decide +kernel) rfl rfl,
  pm_s_iconst C (n := 2) (by decide +kernel) rfl rfl,
  pm_s_cmple C (off := 6) (by decide +kernel) (by decide +kernel) rfl,
  pm_s_bipush C (n := -2) (by decide +kernel) rfl rfl,
  pm_s_iret (by decide +kernel) rfl,
  pm_s_aload_n C (n := 0) (by decide +kernel) rfl rfl,
  pm_s_getf C (n := 48) (ci := 7) rfl rfl wiX7 (by decide) (by decide +kernel) pm_fl_X7_48 rfl,
  pm_s_callV C hR (n := 192) (ci := 2) rfl (by decide +kernel) pm_ml_X7_192 pm_im12 pm_se12 pm_in_X2 pm_cw12 pm_q12 (by decide) rfl,
  pm_s_iload_n C (n := 1) (by decide +kernel) rfl rfl,
  pm_s_ifne C (off := 11) (by decide +kernel) (by decide +kernel) rfl,
  pm_s_aload_n C (n := 0) (by decide +kernel) rfl rfl,
  pm_s_getf C (n := 48) (ci := 7) rfl rfl wiX7 (by decide) (by decide +kernel) pm_fl_X7_48 rfl,
  pm_s_getfN C (n := 195) (ci := 2) rfl rfl wiX2 (by decide) (by decide +kernel) pm_fn_X7_195 rfl,
  pm_s_iret (by decide +kernel) rfl,
  pm_s_iload_n C (n := 1) (by decide +kernel) rfl rfl,
  pm_s_iconst C (n := 1) (by decide +kernel) rfl rfl,
  pm_s_cmpne C (off := 13) (by decide +kernel) (by decide +kernel) rfl,
  pm_s_aload_n C (n := 0) (by decide +kernel) rfl rfl,
  pm_s_getf C (n := 48) (ci := 7) rfl rfl wiX7 (by decide) (by decide +kernel) pm_fl_X7_48 rfl,
  pm_s_getfN C (n := 198) (ci := 2) rfl rfl wiX2 (by decide) (by decide +kernel) pm_fn_X7_198 rfl,
  pm_s_goto C (off := 10) (by decide +kernel) (by decide +kernel),
  pm_s_aload_n C (n := 0) (by decide +kernel) rfl rfl,
  pm_s_getf C (n := 48) (ci := 7) rfl rfl wiX7 (by decide) (by decide +kernel) pm_fl_X7_48 rfl,
  pm_s_getfN C (n := 201) (ci := 2) rfl rfl wiX2 (by decide) (by decide +kernel) pm_fn_X7_201 rfl,
  pm_s_iret (by decide +kernel) rfl,
  trivial⟩
def bp_X7_hosts : List Nat := [0, 1, 2, 5, 6, 7, 10, 12, 13, 14, 17, 18, 21, 22, 25, 26, 27, 30, 31, 34, 37, 40, 41]
def co_X7_hosts : List pm_Op := [
  pm_iload 1,
  pm_push (1),
  pm_cmplt 6,
  pm_iload 1,
  pm_push (4),
  pm_cmple 8,
  pm_push (-2),
  pm_iret,
  pm_aload 0,
  pm_getf 7 7,
  pm_aload 0,
  pm_getf 7 2,
  pm_iload 1,
  pm_callV 3 25 3,
  pm_istore 3,
  pm_iload 2,
  pm_ifeq 21,
  pm_aload 0,
  pm_getf 7 7,
  pm_getf 3 4,
  pm_goto 22,
  pm_iload 3,
  pm_iret]
set_option maxRecDepth 20000 in
set_option maxHeartbeats 4000000 in
theorem ms_X7_hosts : pm_MS 75 RX7 bp_X7_hosts co_X7_hosts := fun p l e R s m args below meth c cells slots Qm D cs ad sz d C hR => ⟨
  pm_s_iload_n C (n := 1) (by decide +kernel) rfl rfl,
  pm_s_iconst C (n := 1) (by decide +kernel) rfl rfl,
  pm_s_cmplt C (off := 8) (by decide +kernel) (by decide +kernel) rfl,
  pm_s_iload_n C (n := 1) (by decide +kernel) rfl rfl,
  pm_s_iconst C (n := 4) (by decide +kernel) rfl rfl,
  pm_s_cmple C (off := 6) (by decide +kernel) (by decide +kernel) rfl,
  pm_s_bipush C (n := -2) (by decide +kernel) rfl rfl,
  pm_s_iret (by decide +kernel) rfl,
  pm_s_aload_n C (n := 0) (by decide +kernel) rfl rfl,
  pm_s_getf C (n := 57) (ci := 7) rfl rfl wiX7 (by decide) (by decide +kernel) pm_fl_X7_57 rfl,
  pm_s_aload_n C (n := 0) (by decide +kernel) rfl rfl,
  pm_s_getf C (n := 26) (ci := 7) rfl rfl wiX7 (by decide) (by decide +kernel) pm_fl_X7_26 rfl,
  pm_s_iload_n C (n := 1) (by decide +kernel) rfl rfl,
  pm_s_callV C hR (n := 204) (ci := 3) rfl (by decide +kernel) pm_ml_X7_204 pm_im25 pm_se25 pm_in_X3 pm_cw25 pm_q25 (by decide) rfl,
  pm_s_istore_n C (n := 3) (by decide +kernel) rfl rfl,
  pm_s_iload_n C (n := 2) (by decide +kernel) rfl rfl,
  pm_s_ifeq C (off := 13) (by decide +kernel) (by decide +kernel) rfl,
  pm_s_aload_n C (n := 0) (by decide +kernel) rfl rfl,
  pm_s_getf C (n := 57) (ci := 7) rfl rfl wiX7 (by decide) (by decide +kernel) pm_fl_X7_57 rfl,
  pm_s_getfN C (n := 207) (ci := 3) rfl rfl wiX3 (by decide) (by decide +kernel) pm_fn_X7_207 rfl,
  pm_s_goto C (off := 4) (by decide +kernel) (by decide +kernel),
  pm_s_iload_n C (n := 3) (by decide +kernel) rfl rfl,
  pm_s_iret (by decide +kernel) rfl,
  trivial⟩
def bp_X7_come : List Nat := [0, 1, 4, 5, 7, 10, 11, 12, 15, 16, 18, 21, 23, 24, 25, 28, 29, 32, 33, 34, 35, 38]
def co_X7_come : List pm_Op := [
  pm_iload 1,
  pm_iflt 11,
  pm_iload 1,
  pm_push (10),
  pm_cmpgt 11,
  pm_iload 2,
  pm_push (1),
  pm_cmplt 11,
  pm_iload 2,
  pm_push (60),
  pm_cmple 13,
  pm_push (-2),
  pm_iret,
  pm_aload 0,
  pm_getf 7 8,
  pm_aload 0,
  pm_getf 7 2,
  pm_iload 1,
  pm_iload 2,
  pm_iload 3,
  pm_callV 1 6 5,
  pm_iret]
set_option maxRecDepth 20000 in
set_option maxHeartbeats 4000000 in
theorem ms_X7_come : pm_MS 76 RX7 bp_X7_come co_X7_come := fun p l e R s m args below meth c cells slots Qm D cs ad sz d C hR => ⟨
  pm_s_iload_n C (n := 1) (by decide +kernel) rfl rfl,
  pm_s_iflt C (off := 20) (by decide +kernel) (by decide +kernel) rfl,
  pm_s_iload_n C (n := 1) (by decide +kernel) rfl rfl,
  pm_s_bipush C (n := 10) (by decide +kernel) rfl rfl,
  pm_s_cmpgt C (off := 14) (by decide +kernel) (by decide +kernel) rfl,
  pm_s_iload_n C (n := 2) (by decide +kernel) rfl rfl,
  pm_s_iconst C (n := 1) (by decide +kernel) rfl rfl,
  pm_s_cmplt C (off := 9) (by decide +kernel) (by decide +kernel) rfl,
  pm_s_iload_n C (n := 2) (by decide +kernel) rfl rfl,
  pm_s_bipush C (n := 60) (by decide +kernel) rfl rfl,
  pm_s_cmple C (off := 6) (by decide +kernel) (by decide +kernel) rfl,
  pm_s_bipush C (n := -2) (by decide +kernel) rfl rfl,
  pm_s_iret (by decide +kernel) rfl,
  pm_s_aload_n C (n := 0) (by decide +kernel) rfl rfl,
  pm_s_getf C (n := 66) (ci := 7) rfl rfl wiX7 (by decide) (by decide +kernel) pm_fl_X7_66 rfl,
  pm_s_aload_n C (n := 0) (by decide +kernel) rfl rfl,
  pm_s_getf C (n := 26) (ci := 7) rfl rfl wiX7 (by decide) (by decide +kernel) pm_fl_X7_26 rfl,
  pm_s_iload_n C (n := 1) (by decide +kernel) rfl rfl,
  pm_s_iload_n C (n := 2) (by decide +kernel) rfl rfl,
  pm_s_iload_n C (n := 3) (by decide +kernel) rfl rfl,
  pm_s_callV C hR (n := 210) (ci := 1) rfl (by decide +kernel) pm_ml_X7_210 pm_im6 pm_se6 pm_in_X1 pm_cw6 pm_q6 (by decide) rfl,
  pm_s_iret (by decide +kernel) rfl,
  trivial⟩
def bp_X7_seed : List Nat := [0, 1, 4, 5, 6, 7, 10, 11]
def co_X7_seed : List pm_Op := [
  pm_aload 0,
  pm_getf 7 9,
  pm_lstore 3,
  pm_aload 0,
  pm_lload 1,
  pm_putj 7 9,
  pm_lload 3,
  pm_lret]
set_option maxRecDepth 20000 in
set_option maxHeartbeats 4000000 in
theorem ms_X7_seed : pm_MS 77 RX7 bp_X7_seed co_X7_seed := fun p l e R s m args below meth c cells slots Qm D cs ad sz d C hR => ⟨
  pm_s_aload_n C (n := 0) (by decide +kernel) rfl rfl,
  pm_s_getf C (n := 214) (ci := 7) rfl rfl wiX7 (by decide) (by decide +kernel) pm_fl_X7_214 rfl,
  pm_s_lstore_n C (n := 3) (by decide +kernel) rfl rfl,
  pm_s_aload_n C (n := 0) (by decide +kernel) rfl rfl,
  pm_s_lload_n C (n := 1) (by decide +kernel) rfl rfl,
  pm_s_putj C (n := 214) (ci := 7) rfl rfl wiX7 (by decide) tyX7 tyX7_ok nmX7 rfl (by decide +kernel) (by decide +kernel) pm_fl_X7_214 rfl,
  pm_s_lload_n C (n := 3) (by decide +kernel) rfl rfl,
  pm_s_lret (by decide +kernel) rfl,
  trivial⟩
def bp_X7_dinner : List Nat := [0, 1, 2, 5, 6, 8, 11, 13, 14, 15, 18, 19, 22, 25, 26, 27, 28, 29, 30, 33, 34, 35, 38, 41, 42, 45, 46, 49, 50, 53, 54, 55, 58, 60, 61, 64, 65, 66, 69, 70, 73, 76, 77, 80]
def co_X7_dinner : List pm_Op := [
  pm_iload 1,
  pm_push (1),
  pm_cmplt 6,
  pm_iload 1,
  pm_push (30),
  pm_cmple 8,
  pm_push (-2),
  pm_iret,
  pm_aload 0,
  pm_getf 7 7,
  pm_aload 0,
  pm_getf 7 2,
  pm_callV 3 16 2,
  pm_astore 2,
  pm_push (0),
  pm_istore 3,
  pm_iload 3,
  pm_iload 1,
  pm_cmpge 41,
  pm_aload 0,
  pm_aload 0,
  pm_getf 7 9,
  pm_pushl (6364136223846793005),
  pm_bil (fun x y => x * y),
  pm_pushl (1442695040888963407),
  pm_bil (fun x y => x + y),
  pm_putj 7 9,
  pm_aload 0,
  pm_getf 7 1,
  pm_aload 2,
  pm_aload 0,
  pm_getf 7 9,
  pm_push (33),
  pm_lsh (fun x y => (x.toUInt64 >>> (y.toInt64.toUInt64 &&& Int64.toUInt64 63)).toInt64),
  pm_pushl (6),
  pm_lrem,
  pm_l2i,
  pm_callV 5 34 3,
  pm_pop,
  pm_iinc 3 (1),
  pm_goto 16,
  pm_aload 2,
  pm_getf 4 1,
  pm_iret]
set_option maxRecDepth 20000 in
set_option maxHeartbeats 4000000 in
theorem ms_X7_dinner : pm_MS 78 RX7 bp_X7_dinner co_X7_dinner := fun p l e R s m args below meth c cells slots Qm D cs ad sz d C hR => ⟨
  pm_s_iload_n C (n := 1) (by decide +kernel) rfl rfl,
  pm_s_iconst C (n := 1) (by decide +kernel) rfl rfl,
  pm_s_cmplt C (off := 9) (by decide +kernel) (by decide +kernel) rfl,
  pm_s_iload_n C (n := 1) (by decide +kernel) rfl rfl,
  pm_s_bipush C (n := 30) (by decide +kernel) rfl rfl,
  pm_s_cmple C (off := 6) (by decide +kernel) (by decide +kernel) rfl,
  pm_s_bipush C (n := -2) (by decide +kernel) rfl rfl,
  pm_s_iret (by decide +kernel) rfl,
  pm_s_aload_n C (n := 0) (by decide +kernel) rfl rfl,
  pm_s_getf C (n := 57) (ci := 7) rfl rfl wiX7 (by decide) (by decide +kernel) pm_fl_X7_57 rfl,
  pm_s_aload_n C (n := 0) (by decide +kernel) rfl rfl,
  pm_s_getf C (n := 26) (ci := 7) rfl rfl wiX7 (by decide) (by decide +kernel) pm_fl_X7_26 rfl,
  pm_s_callV C hR (n := 218) (ci := 3) rfl (by decide +kernel) pm_ml_X7_218 pm_im16 pm_se16 pm_in_X3 pm_cw16 pm_q16 (by decide) rfl,
  pm_s_astore_n C (n := 2) (by decide +kernel) rfl rfl,
  pm_s_iconst C (n := 0) (by decide +kernel) rfl rfl,
  pm_s_istore_n C (n := 3) (by decide +kernel) rfl rfl,
  pm_s_iload_n C (n := 3) (by decide +kernel) rfl rfl,
  pm_s_iload_n C (n := 1) (by decide +kernel) rfl rfl,
  pm_s_cmpge C (off := 46) (by decide +kernel) (by decide +kernel) rfl,
  pm_s_aload_n C (n := 0) (by decide +kernel) rfl rfl,
  pm_s_aload_n C (n := 0) (by decide +kernel) rfl rfl,
  pm_s_getf C (n := 214) (ci := 7) rfl rfl wiX7 (by decide) (by decide +kernel) pm_fl_X7_214 rfl,
  pm_s_ldc2 C (n := 222) (by decide +kernel) pm_k_X7_222 rfl,
  pm_s_lmul C (by decide +kernel) rfl,
  pm_s_ldc2 C (n := 224) (by decide +kernel) pm_k_X7_224 rfl,
  pm_s_ladd C (by decide +kernel) rfl,
  pm_s_putj C (n := 214) (ci := 7) rfl rfl wiX7 (by decide) tyX7 tyX7_ok nmX7 rfl (by decide +kernel) (by decide +kernel) pm_fl_X7_214 rfl,
  pm_s_aload_n C (n := 0) (by decide +kernel) rfl rfl,
  pm_s_getf C (n := 19) (ci := 7) rfl rfl wiX7 (by decide) (by decide +kernel) pm_fl_X7_19 rfl,
  pm_s_aload_n C (n := 2) (by decide +kernel) rfl rfl,
  pm_s_aload_n C (n := 0) (by decide +kernel) rfl rfl,
  pm_s_getf C (n := 214) (ci := 7) rfl rfl wiX7 (by decide) (by decide +kernel) pm_fl_X7_214 rfl,
  pm_s_bipush C (n := 33) (by decide +kernel) rfl rfl,
  pm_s_lushr C (by decide +kernel) rfl,
  pm_s_ldc2 C (n := 226) (by decide +kernel) pm_k_X7_226 rfl,
  pm_s_lrem C (by decide +kernel) rfl,
  pm_s_l2i C (by decide +kernel) rfl,
  pm_s_callV C hR (n := 228) (ci := 5) rfl (by decide +kernel) pm_ml_X7_228 pm_im34 pm_se34 pm_in_X5 pm_cw34 pm_q34 (by decide) rfl,
  pm_s_pop C (by decide +kernel) rfl,
  pm_s_iinc C (n := 1) (by decide +kernel) rfl rfl,
  pm_s_goto C (off := -45) (by decide +kernel) (by decide +kernel),
  pm_s_aload_n C (n := 2) (by decide +kernel) rfl rfl,
  pm_s_getfN C (n := 128) (ci := 4) rfl rfl wiX4 (by decide) (by decide +kernel) pm_fn_X7_128 rfl,
  pm_s_iret (by decide +kernel) rfl,
  trivial⟩
def bp_X7_keep : List Nat := [0, 1, 4, 5, 6, 9, 10, 11, 12, 15, 16, 17, 18, 21, 24, 25, 28, 29, 30, 31, 32, 35, 38]
def co_X7_keep : List pm_Op := [
  pm_iload 1,
  pm_iflt 5,
  pm_iload 1,
  pm_push (2),
  pm_cmplt 7,
  pm_push (-1),
  pm_iret,
  pm_aload 0,
  pm_getf 7 4,
  pm_iload 1,
  pm_aald,
  pm_aload 0,
  pm_getf 7 2,
  pm_callV 4 27 2,
  pm_aload 0,
  pm_getf 7 5,
  pm_iload 1,
  pm_push (1),
  pm_zast,
  pm_aload 0,
  pm_getf 7 2,
  pm_getf 4 1,
  pm_iret]
set_option maxRecDepth 20000 in
set_option maxHeartbeats 4000000 in
theorem ms_X7_keep : pm_MS 79 RX7 bp_X7_keep co_X7_keep := fun p l e R s m args below meth c cells slots Qm D cs ad sz d C hR => ⟨
  pm_s_iload_n C (n := 1) (by decide +kernel) rfl rfl,
  pm_s_iflt C (off := 8) (by decide +kernel) (by decide +kernel) rfl,
  pm_s_iload_n C (n := 1) (by decide +kernel) rfl rfl,
  pm_s_iconst C (n := 2) (by decide +kernel) rfl rfl,
  pm_s_cmplt C (off := 5) (by decide +kernel) (by decide +kernel) rfl,
  pm_s_iconst C (n := -1) (by decide +kernel) rfl rfl,
  pm_s_iret (by decide +kernel) rfl,
  pm_s_aload_n C (n := 0) (by decide +kernel) rfl rfl,
  pm_s_getf C (n := 37) (ci := 7) rfl rfl wiX7 (by decide) (by decide +kernel) pm_fl_X7_37 rfl,
  pm_s_iload_n C (n := 1) (by decide +kernel) rfl rfl,
  pm_s_aald C (by decide +kernel) rfl,
  pm_s_aload_n C (n := 0) (by decide +kernel) rfl rfl,
  pm_s_getf C (n := 26) (ci := 7) rfl rfl wiX7 (by decide) (by decide +kernel) pm_fl_X7_26 rfl,
  pm_s_callV C hR (n := 231) (ci := 4) rfl (by decide +kernel) pm_ml_X7_231 pm_im27 pm_se27 pm_in_X4 pm_cw27 pm_q27 (by decide) rfl,
  pm_s_aload_n C (n := 0) (by decide +kernel) rfl rfl,
  pm_s_getf C (n := 41) (ci := 7) rfl rfl wiX7 (by decide) (by decide +kernel) pm_fl_X7_41 rfl,
  pm_s_iload_n C (n := 1) (by decide +kernel) rfl rfl,
  pm_s_iconst C (n := 1) (by decide +kernel) rfl rfl,
  pm_s_zast C (by decide +kernel) rfl,
  pm_s_aload_n C (n := 0) (by decide +kernel) rfl rfl,
  pm_s_getf C (n := 26) (ci := 7) rfl rfl wiX7 (by decide) (by decide +kernel) pm_fl_X7_26 rfl,
  pm_s_getfN C (n := 128) (ci := 4) rfl rfl wiX4 (by decide) (by decide +kernel) pm_fn_X7_128 rfl,
  pm_s_iret (by decide +kernel) rfl,
  trivial⟩
def bp_X7_again : List Nat := [0, 1, 4, 5, 6, 9, 10, 11, 12, 15, 16, 17, 20, 22, 23, 24, 27, 28, 31, 32, 33, 36, 37, 40, 41, 44, 45, 48, 51]
def co_X7_again : List pm_Op := [
  pm_iload 1,
  pm_iflt 5,
  pm_iload 1,
  pm_push (2),
  pm_cmplt 7,
  pm_push (-1),
  pm_iret,
  pm_aload 0,
  pm_getf 7 5,
  pm_iload 1,
  pm_zald,
  pm_ifne 14,
  pm_push (-3),
  pm_iret,
  pm_aload 0,
  pm_getf 7 2,
  pm_aload 0,
  pm_getf 7 4,
  pm_iload 1,
  pm_aald,
  pm_callV 4 27 2,
  pm_aload 0,
  pm_getf 7 3,
  pm_push (0),
  pm_putf 0 1,
  pm_aload 0,
  pm_getf 7 2,
  pm_getf 4 1,
  pm_iret]
set_option maxRecDepth 20000 in
set_option maxHeartbeats 4000000 in
theorem ms_X7_again : pm_MS 80 RX7 bp_X7_again co_X7_again := fun p l e R s m args below meth c cells slots Qm D cs ad sz d C hR => ⟨
  pm_s_iload_n C (n := 1) (by decide +kernel) rfl rfl,
  pm_s_iflt C (off := 8) (by decide +kernel) (by decide +kernel) rfl,
  pm_s_iload_n C (n := 1) (by decide +kernel) rfl rfl,
  pm_s_iconst C (n := 2) (by decide +kernel) rfl rfl,
  pm_s_cmplt C (off := 5) (by decide +kernel) (by decide +kernel) rfl,
  pm_s_iconst C (n := -1) (by decide +kernel) rfl rfl,
  pm_s_iret (by decide +kernel) rfl,
  pm_s_aload_n C (n := 0) (by decide +kernel) rfl rfl,
  pm_s_getf C (n := 41) (ci := 7) rfl rfl wiX7 (by decide) (by decide +kernel) pm_fl_X7_41 rfl,
  pm_s_iload_n C (n := 1) (by decide +kernel) rfl rfl,
  pm_s_zald C (by decide +kernel) rfl,
  pm_s_ifne C (off := 6) (by decide +kernel) (by decide +kernel) rfl,
  pm_s_bipush C (n := -3) (by decide +kernel) rfl rfl,
  pm_s_iret (by decide +kernel) rfl,
  pm_s_aload_n C (n := 0) (by decide +kernel) rfl rfl,
  pm_s_getf C (n := 26) (ci := 7) rfl rfl wiX7 (by decide) (by decide +kernel) pm_fl_X7_26 rfl,
  pm_s_aload_n C (n := 0) (by decide +kernel) rfl rfl,
  pm_s_getf C (n := 37) (ci := 7) rfl rfl wiX7 (by decide) (by decide +kernel) pm_fl_X7_37 rfl,
  pm_s_iload_n C (n := 1) (by decide +kernel) rfl rfl,
  pm_s_aald C (by decide +kernel) rfl,
  pm_s_callV C hR (n := 231) (ci := 4) rfl (by decide +kernel) pm_ml_X7_231 pm_im27 pm_se27 pm_in_X4 pm_cw27 pm_q27 (by decide) rfl,
  pm_s_aload_n C (n := 0) (by decide +kernel) rfl rfl,
  pm_s_getf C (n := 33) (ci := 7) rfl rfl wiX7 (by decide) (by decide +kernel) pm_fl_X7_33 rfl,
  pm_s_iconst C (n := 0) (by decide +kernel) rfl rfl,
  pm_s_putfN C (n := 89) (ci := 0) rfl rfl wiX0 (by decide) tyX0 tyX0_ok nmX0 rfl (by decide +kernel) (by decide +kernel) pm_fn_X7_89 rfl,
  pm_s_aload_n C (n := 0) (by decide +kernel) rfl rfl,
  pm_s_getf C (n := 26) (ci := 7) rfl rfl wiX7 (by decide) (by decide +kernel) pm_fl_X7_26 rfl,
  pm_s_getfN C (n := 128) (ci := 4) rfl rfl wiX4 (by decide) (by decide +kernel) pm_fn_X7_128 rfl,
  pm_s_iret (by decide +kernel) rfl,
  trivial⟩
def bp_X7_count : List Nat := [0, 1, 60, 61, 64, 67, 68, 69, 72, 75, 76, 77, 80, 83, 84, 85, 88, 91, 92, 93, 96, 99, 100, 101, 104, 107, 108, 109, 112, 115, 116, 117, 120, 121, 124, 127, 128, 129, 132, 135, 136, 137, 140, 143, 144, 145, 148, 151, 152, 154]
def co_X7_count : List pm_Op := [
  pm_iload 1,
  pm_tsw 48 [(0, 2), (1, 6), (2, 10), (3, 14), (4, 18), (5, 22), (6, 26), (7, 30), (8, 36), (9, 40), (10, 44)],
  pm_aload 0,
  pm_getf 7 0,
  pm_getf 6 1,
  pm_iret,
  pm_aload 0,
  pm_getf 7 1,
  pm_getf 5 3,
  pm_iret,
  pm_aload 0,
  pm_getf 7 2,
  pm_getf 4 1,
  pm_iret,
  pm_aload 0,
  pm_getf 7 1,
  pm_getf 5 5,
  pm_iret,
  pm_aload 0,
  pm_getf 7 2,
  pm_getf 4 2,
  pm_iret,
  pm_aload 0,
  pm_getf 7 2,
  pm_getf 4 3,
  pm_iret,
  pm_aload 0,
  pm_getf 7 2,
  pm_getf 4 4,
  pm_iret,
  pm_aload 0,
  pm_getf 7 1,
  pm_aload 0,
  pm_getf 7 2,
  pm_callV 5 37 2,
  pm_iret,
  pm_aload 0,
  pm_getf 7 3,
  pm_getf 0 1,
  pm_iret,
  pm_aload 0,
  pm_getf 7 6,
  pm_getf 2 2,
  pm_iret,
  pm_aload 0,
  pm_getf 7 1,
  pm_getf 5 4,
  pm_iret,
  pm_push (-2),
  pm_iret]
set_option maxRecDepth 20000 in
set_option maxHeartbeats 4000000 in
theorem ms_X7_count : pm_MS 81 RX7 bp_X7_count co_X7_count := fun p l e R s m args below meth c cells slots Qm D cs ad sz d C hR => ⟨
  pm_s_iload_n C (n := 1) (by decide +kernel) rfl rfl,
  pm_s_tsw C (dflt := 151) (lo := 0) (hi := 10) (offs := #[59, 67, 75, 83, 91, 99, 107, 115, 127, 135, 143]) (len := 59) (by decide +kernel) (by decide +kernel) (by decide +kernel) (by decide +kernel),
  pm_s_aload_n C (n := 0) (by decide +kernel) rfl rfl,
  pm_s_getf C (n := 10) (ci := 7) rfl rfl wiX7 (by decide) (by decide +kernel) pm_fl_X7_10 rfl,
  pm_s_getfN C (n := 74) (ci := 6) rfl rfl wiX6 (by decide) (by decide +kernel) pm_fn_X7_74 rfl,
  pm_s_iret (by decide +kernel) rfl,
  pm_s_aload_n C (n := 0) (by decide +kernel) rfl rfl,
  pm_s_getf C (n := 19) (ci := 7) rfl rfl wiX7 (by decide) (by decide +kernel) pm_fl_X7_19 rfl,
  pm_s_getfN C (n := 92) (ci := 5) rfl rfl wiX5 (by decide) (by decide +kernel) pm_fn_X7_92 rfl,
  pm_s_iret (by decide +kernel) rfl,
  pm_s_aload_n C (n := 0) (by decide +kernel) rfl rfl,
  pm_s_getf C (n := 26) (ci := 7) rfl rfl wiX7 (by decide) (by decide +kernel) pm_fl_X7_26 rfl,
  pm_s_getfN C (n := 128) (ci := 4) rfl rfl wiX4 (by decide) (by decide +kernel) pm_fn_X7_128 rfl,
  pm_s_iret (by decide +kernel) rfl,
  pm_s_aload_n C (n := 0) (by decide +kernel) rfl rfl,
  pm_s_getf C (n := 19) (ci := 7) rfl rfl wiX7 (by decide) (by decide +kernel) pm_fl_X7_19 rfl,
  pm_s_getfN C (n := 234) (ci := 5) rfl rfl wiX5 (by decide) (by decide +kernel) pm_fn_X7_234 rfl,
  pm_s_iret (by decide +kernel) rfl,
  pm_s_aload_n C (n := 0) (by decide +kernel) rfl rfl,
  pm_s_getf C (n := 26) (ci := 7) rfl rfl wiX7 (by decide) (by decide +kernel) pm_fl_X7_26 rfl,
  pm_s_getfN C (n := 237) (ci := 4) rfl rfl wiX4 (by decide) (by decide +kernel) pm_fn_X7_237 rfl,
  pm_s_iret (by decide +kernel) rfl,
  pm_s_aload_n C (n := 0) (by decide +kernel) rfl rfl,
  pm_s_getf C (n := 26) (ci := 7) rfl rfl wiX7 (by decide) (by decide +kernel) pm_fl_X7_26 rfl,
  pm_s_getfN C (n := 134) (ci := 4) rfl rfl wiX4 (by decide) (by decide +kernel) pm_fn_X7_134 rfl,
  pm_s_iret (by decide +kernel) rfl,
  pm_s_aload_n C (n := 0) (by decide +kernel) rfl rfl,
  pm_s_getf C (n := 26) (ci := 7) rfl rfl wiX7 (by decide) (by decide +kernel) pm_fl_X7_26 rfl,
  pm_s_getfN C (n := 109) (ci := 4) rfl rfl wiX4 (by decide) (by decide +kernel) pm_fn_X7_109 rfl,
  pm_s_iret (by decide +kernel) rfl,
  pm_s_aload_n C (n := 0) (by decide +kernel) rfl rfl,
  pm_s_getf C (n := 19) (ci := 7) rfl rfl wiX7 (by decide) (by decide +kernel) pm_fl_X7_19 rfl,
  pm_s_aload_n C (n := 0) (by decide +kernel) rfl rfl,
  pm_s_getf C (n := 26) (ci := 7) rfl rfl wiX7 (by decide) (by decide +kernel) pm_fl_X7_26 rfl,
  pm_s_callV C hR (n := 112) (ci := 5) rfl (by decide +kernel) pm_ml_X7_112 pm_im37 pm_se37 pm_in_X5 pm_cw37 pm_q37 (by decide) rfl,
  pm_s_iret (by decide +kernel) rfl,
  pm_s_aload_n C (n := 0) (by decide +kernel) rfl rfl,
  pm_s_getf C (n := 33) (ci := 7) rfl rfl wiX7 (by decide) (by decide +kernel) pm_fl_X7_33 rfl,
  pm_s_getfN C (n := 89) (ci := 0) rfl rfl wiX0 (by decide) (by decide +kernel) pm_fn_X7_89 rfl,
  pm_s_iret (by decide +kernel) rfl,
  pm_s_aload_n C (n := 0) (by decide +kernel) rfl rfl,
  pm_s_getf C (n := 48) (ci := 7) rfl rfl wiX7 (by decide) (by decide +kernel) pm_fl_X7_48 rfl,
  pm_s_getfN C (n := 191) (ci := 2) rfl rfl wiX2 (by decide) (by decide +kernel) pm_fn_X7_191 rfl,
  pm_s_iret (by decide +kernel) rfl,
  pm_s_aload_n C (n := 0) (by decide +kernel) rfl rfl,
  pm_s_getf C (n := 19) (ci := 7) rfl rfl wiX7 (by decide) (by decide +kernel) pm_fl_X7_19 rfl,
  pm_s_getfN C (n := 240) (ci := 5) rfl rfl wiX5 (by decide) (by decide +kernel) pm_fn_X7_240 rfl,
  pm_s_iret (by decide +kernel) rfl,
  pm_s_bipush C (n := -2) (by decide +kernel) rfl rfl,
  pm_s_iret (by decide +kernel) rfl,
  trivial⟩
def bp_X7_told : List Nat := [0, 1, 4, 5, 7, 10, 11, 14, 15, 18]
def co_X7_told : List pm_Op := [
  pm_iload 1,
  pm_ifne 5,
  pm_iload 0,
  pm_push (-9),
  pm_cmpne 7,
  pm_iload 0,
  pm_goto 9,
  pm_iload 0,
  pm_callS 83 1,
  pm_iret]
set_option maxRecDepth 20000 in
set_option maxHeartbeats 4000000 in
theorem ms_X7_told : pm_MS 82 RX7 bp_X7_told co_X7_told := fun p l e R s m args below meth c cells slots Qm D cs ad sz d C hR => ⟨
  pm_s_iload_n C (n := 1) (by decide +kernel) rfl rfl,
  pm_s_ifne C (off := 9) (by decide +kernel) (by decide +kernel) rfl,
  pm_s_iload_n C (n := 0) (by decide +kernel) rfl rfl,
  pm_s_bipush C (n := -9) (by decide +kernel) rfl rfl,
  pm_s_cmpne C (off := 7) (by decide +kernel) (by decide +kernel) rfl,
  pm_s_iload_n C (n := 0) (by decide +kernel) rfl rfl,
  pm_s_goto C (off := 7) (by decide +kernel) (by decide +kernel),
  pm_s_iload_n C (n := 0) (by decide +kernel) rfl rfl,
  pm_s_callS C hR (n := 243) (by decide +kernel) pm_ml_X7_243 pm_ss83 pm_in_X7 pm_cw83 pm_q83 (by decide) rfl,
  pm_s_iret (by decide +kernel) rfl,
  trivial⟩
def bp_X7_figuresOf : List Nat := [0, 1, 2, 3, 5, 8, 9, 12, 13, 14, 17, 20, 23, 24]
def co_X7_figuresOf : List pm_Op := [
  pm_push (0),
  pm_istore 1,
  pm_iload 1,
  pm_push (6),
  pm_cmpge 12,
  pm_iload 0,
  pm_gets 37,
  pm_iload 1,
  pm_iald,
  pm_cmplt 12,
  pm_iinc 1 (1),
  pm_goto 2,
  pm_iload 1,
  pm_iret]
set_option maxRecDepth 20000 in
set_option maxHeartbeats 4000000 in
theorem ms_X7_figuresOf : pm_MS 83 RX7 bp_X7_figuresOf co_X7_figuresOf := fun p l e R s m args below meth c cells slots Qm D cs ad sz d C hR => ⟨
  pm_s_iconst C (n := 0) (by decide +kernel) rfl rfl,
  pm_s_istore_n C (n := 1) (by decide +kernel) rfl rfl,
  pm_s_iload_n C (n := 1) (by decide +kernel) rfl rfl,
  pm_s_bipush C (n := 6) (by decide +kernel) rfl rfl,
  pm_s_cmpge C (off := 18) (by decide +kernel) (by decide +kernel) rfl,
  pm_s_iload_n C (n := 0) (by decide +kernel) rfl rfl,
  pm_s_gets C (n := 186) (by decide) (by decide) (by decide +kernel) pm_fl_X7_186 rfl,
  pm_s_iload_n C (n := 1) (by decide +kernel) rfl rfl,
  pm_s_iald C (by decide +kernel) rfl,
  pm_s_cmplt C (off := 9) (by decide +kernel) (by decide +kernel) rfl,
  pm_s_iinc C (n := 1) (by decide +kernel) rfl rfl,
  pm_s_goto C (off := -18) (by decide +kernel) (by decide +kernel),
  pm_s_iload_n C (n := 1) (by decide +kernel) rfl rfl,
  pm_s_iret (by decide +kernel) rfl,
  trivial⟩
def bp_X7_isRow : List Nat := [0, 1, 2, 5, 6, 8, 11, 12, 15, 16, 19, 20, 21, 24, 25, 28, 29]
def co_X7_isRow : List pm_Op := [
  pm_iload 0,
  pm_push (1),
  pm_cmplt 15,
  pm_iload 0,
  pm_push (6),
  pm_cmpgt 15,
  pm_iload 1,
  pm_iflt 15,
  pm_iload 1,
  pm_gets 37,
  pm_iload 0,
  pm_iald,
  pm_cmpge 15,
  pm_push (1),
  pm_goto 16,
  pm_push (0),
  pm_zret]
set_option maxRecDepth 20000 in
set_option maxHeartbeats 4000000 in
theorem ms_X7_isRow : pm_MS 84 RX7 bp_X7_isRow co_X7_isRow := fun p l e R s m args below meth c cells slots Qm D cs ad sz d C hR => ⟨
  pm_s_iload_n C (n := 0) (by decide +kernel) rfl rfl,
  pm_s_iconst C (n := 1) (by decide +kernel) rfl rfl,
  pm_s_cmplt C (off := 26) (by decide +kernel) (by decide +kernel) rfl,
  pm_s_iload_n C (n := 0) (by decide +kernel) rfl rfl,
  pm_s_bipush C (n := 6) (by decide +kernel) rfl rfl,
  pm_s_cmpgt C (off := 20) (by decide +kernel) (by decide +kernel) rfl,
  pm_s_iload_n C (n := 1) (by decide +kernel) rfl rfl,
  pm_s_iflt C (off := 16) (by decide +kernel) (by decide +kernel) rfl,
  pm_s_iload_n C (n := 1) (by decide +kernel) rfl rfl,
  pm_s_gets C (n := 186) (by decide) (by decide) (by decide +kernel) pm_fl_X7_186 rfl,
  pm_s_iload_n C (n := 0) (by decide +kernel) rfl rfl,
  pm_s_iald C (by decide +kernel) rfl,
  pm_s_cmpge C (off := 7) (by decide +kernel) (by decide +kernel) rfl,
  pm_s_iconst C (n := 1) (by decide +kernel) rfl rfl,
  pm_s_goto C (off := 4) (by decide +kernel) (by decide +kernel),
  pm_s_iconst C (n := 0) (by decide +kernel) rfl rfl,
  pm_s_zret (by decide +kernel) rfl,
  trivial⟩
def bp_X7_figureAt : List Nat := [0, 1, 2, 3, 4, 5, 6, 7, 10, 11, 13, 16, 17, 20, 21, 24, 25, 26, 27, 29, 30]
def co_X7_figureAt : List pm_Op := [
  pm_iload 0,
  pm_push (1),
  pm_bin (fun x y => x - y),
  pm_iload 2,
  pm_bin (fun x y => x - y),
  pm_istore 3,
  pm_iload 3,
  pm_iflt 11,
  pm_iload 3,
  pm_push (6),
  pm_cmple 13,
  pm_push (0),
  pm_goto 20,
  pm_iload 1,
  pm_gets 37,
  pm_iload 3,
  pm_iald,
  pm_idiv,
  pm_push (10),
  pm_irem,
  pm_iret]
set_option maxRecDepth 20000 in
set_option maxHeartbeats 4000000 in
theorem ms_X7_figureAt : pm_MS 85 RX7 bp_X7_figureAt co_X7_figureAt := fun p l e R s m args below meth c cells slots Qm D cs ad sz d C hR => ⟨
  pm_s_iload_n C (n := 0) (by decide +kernel) rfl rfl,
  pm_s_iconst C (n := 1) (by decide +kernel) rfl rfl,
  pm_s_isub C (by decide +kernel) rfl,
  pm_s_iload_n C (n := 2) (by decide +kernel) rfl rfl,
  pm_s_isub C (by decide +kernel) rfl,
  pm_s_istore_n C (n := 3) (by decide +kernel) rfl rfl,
  pm_s_iload_n C (n := 3) (by decide +kernel) rfl rfl,
  pm_s_iflt C (off := 9) (by decide +kernel) (by decide +kernel) rfl,
  pm_s_iload_n C (n := 3) (by decide +kernel) rfl rfl,
  pm_s_bipush C (n := 6) (by decide +kernel) rfl rfl,
  pm_s_cmple C (off := 7) (by decide +kernel) (by decide +kernel) rfl,
  pm_s_iconst C (n := 0) (by decide +kernel) rfl rfl,
  pm_s_goto C (off := 13) (by decide +kernel) (by decide +kernel),
  pm_s_iload_n C (n := 1) (by decide +kernel) rfl rfl,
  pm_s_gets C (n := 186) (by decide) (by decide) (by decide +kernel) pm_fl_X7_186 rfl,
  pm_s_iload_n C (n := 3) (by decide +kernel) rfl rfl,
  pm_s_iald C (by decide +kernel) rfl,
  pm_s_idiv C (by decide +kernel) rfl,
  pm_s_bipush C (n := 10) (by decide +kernel) rfl rfl,
  pm_s_irem C (by decide +kernel) rfl,
  pm_s_iret (by decide +kernel) rfl,
  trivial⟩
def bp_X7_isWord : List Nat := [0, 1, 2, 5, 8, 9, 10, 11, 12, 13, 14, 17, 18, 19, 20, 23, 24, 27, 28, 29, 32, 35, 36]
def co_X7_isWord : List pm_Op := [
  pm_iload 0,
  pm_iload 1,
  pm_callS 84 2,
  pm_ifne 6,
  pm_push (0),
  pm_zret,
  pm_push (0),
  pm_istore 2,
  pm_iload 2,
  pm_iload 0,
  pm_cmpge 21,
  pm_iload 0,
  pm_iload 1,
  pm_iload 2,
  pm_callS 85 3,
  pm_push (3),
  pm_cmple 19,
  pm_push (0),
  pm_zret,
  pm_iinc 2 (1),
  pm_goto 8,
  pm_push (1),
  pm_zret]
set_option maxRecDepth 20000 in
set_option maxHeartbeats 4000000 in
theorem ms_X7_isWord : pm_MS 86 RX7 bp_X7_isWord co_X7_isWord := fun p l e R s m args below meth c cells slots Qm D cs ad sz d C hR => ⟨
  pm_s_iload_n C (n := 0) (by decide +kernel) rfl rfl,
  pm_s_iload_n C (n := 1) (by decide +kernel) rfl rfl,
  pm_s_callS C hR (n := 164) (by decide +kernel) pm_ml_X7_164 pm_ss84 pm_in_X7 pm_cw84 pm_q84 (by decide) rfl,
  pm_s_ifne C (off := 5) (by decide +kernel) (by decide +kernel) rfl,
  pm_s_iconst C (n := 0) (by decide +kernel) rfl rfl,
  pm_s_zret (by decide +kernel) rfl,
  pm_s_iconst C (n := 0) (by decide +kernel) rfl rfl,
  pm_s_istore_n C (n := 2) (by decide +kernel) rfl rfl,
  pm_s_iload_n C (n := 2) (by decide +kernel) rfl rfl,
  pm_s_iload_n C (n := 0) (by decide +kernel) rfl rfl,
  pm_s_cmpge C (off := 21) (by decide +kernel) (by decide +kernel) rfl,
  pm_s_iload_n C (n := 0) (by decide +kernel) rfl rfl,
  pm_s_iload_n C (n := 1) (by decide +kernel) rfl rfl,
  pm_s_iload_n C (n := 2) (by decide +kernel) rfl rfl,
  pm_s_callS C hR (n := 247) (by decide +kernel) pm_ml_X7_247 pm_ss85 pm_in_X7 pm_cw85 pm_q85 (by decide) rfl,
  pm_s_iconst C (n := 3) (by decide +kernel) rfl rfl,
  pm_s_cmple C (off := 5) (by decide +kernel) (by decide +kernel) rfl,
  pm_s_iconst C (n := 0) (by decide +kernel) rfl rfl,
  pm_s_zret (by decide +kernel) rfl,
  pm_s_iinc C (n := 1) (by decide +kernel) rfl rfl,
  pm_s_goto C (off := -20) (by decide +kernel) (by decide +kernel),
  pm_s_iconst C (n := 1) (by decide +kernel) rfl rfl,
  pm_s_zret (by decide +kernel) rfl,
  trivial⟩
def bp_X7_turned : List Nat := [0, 1, 2, 3, 5, 7, 8, 11, 12, 14, 15, 16, 17, 19, 22, 23, 24, 25, 28, 29, 30, 33, 36, 37]
def co_X7_turned : List pm_Op := [
  pm_push (0),
  pm_istore 3,
  pm_push (0),
  pm_istore 4,
  pm_iload 4,
  pm_iload 0,
  pm_cmpge 22,
  pm_iload 3,
  pm_push (10),
  pm_bin (fun x y => x * y),
  pm_iload 0,
  pm_iload 1,
  pm_iload 4,
  pm_callS 85 3,
  pm_iload 2,
  pm_bin (fun x y => x + y),
  pm_push (4),
  pm_callS 152 2,
  pm_bin (fun x y => x + y),
  pm_istore 3,
  pm_iinc 4 (1),
  pm_goto 4,
  pm_iload 3,
  pm_iret]
set_option maxRecDepth 20000 in
set_option maxHeartbeats 4000000 in
theorem ms_X7_turned : pm_MS 87 RX7 bp_X7_turned co_X7_turned := fun p l e R s m args below meth c cells slots Qm D cs ad sz d C hR => ⟨
  pm_s_iconst C (n := 0) (by decide +kernel) rfl rfl,
  pm_s_istore_n C (n := 3) (by decide +kernel) rfl rfl,
  pm_s_iconst C (n := 0) (by decide +kernel) rfl rfl,
  pm_s_istore C (by decide +kernel) rfl,
  pm_s_iload C (by decide +kernel) rfl,
  pm_s_iload_n C (n := 0) (by decide +kernel) rfl rfl,
  pm_s_cmpge C (off := 28) (by decide +kernel) (by decide +kernel) rfl,
  pm_s_iload_n C (n := 3) (by decide +kernel) rfl rfl,
  pm_s_bipush C (n := 10) (by decide +kernel) rfl rfl,
  pm_s_imul C (by decide +kernel) rfl,
  pm_s_iload_n C (n := 0) (by decide +kernel) rfl rfl,
  pm_s_iload_n C (n := 1) (by decide +kernel) rfl rfl,
  pm_s_iload C (by decide +kernel) rfl,
  pm_s_callS C hR (n := 247) (by decide +kernel) pm_ml_X7_247 pm_ss85 pm_in_X7 pm_cw85 pm_q85 (by decide) rfl,
  pm_s_iload_n C (n := 2) (by decide +kernel) rfl rfl,
  pm_s_iadd C (by decide +kernel) rfl,
  pm_s_iconst C (n := 4) (by decide +kernel) rfl rfl,
  pm_s_callS C hR (n := 250) (by decide +kernel) pm_ml_X7_250 pm_ss152 pm_in_J9 pm_cw152 pm_q152 (by decide) rfl,
  pm_s_iadd C (by decide +kernel) rfl,
  pm_s_istore_n C (n := 3) (by decide +kernel) rfl rfl,
  pm_s_iinc C (n := 1) (by decide +kernel) rfl rfl,
  pm_s_goto C (off := -28) (by decide +kernel) (by decide +kernel),
  pm_s_iload_n C (n := 3) (by decide +kernel) rfl rfl,
  pm_s_iret (by decide +kernel) rfl,
  trivial⟩
