/-! ===== codes 3 ===== -/
set_option maxRecDepth 20000 in
theorem pm_fl_X1_9 : Cond.fieldLink RX1 9 "LeafTable$Chances" "table" "LLeafTable$Table;" ∈ wAll := wIn 231 rfl rfl
set_option maxRecDepth 20000 in
theorem pm_ml_X1_19 : Cond.methodLink RX1 19 (pm_m 31).1 ∈ wAll := wIn 529 rfl rfl
set_option maxRecDepth 20000 in
theorem pm_ml_X1_25 : Cond.methodLink RX1 25 (pm_m 5).1 ∈ wAll := wIn 530 rfl rfl
set_option maxRecDepth 20000 in
theorem pm_q5 : (pm_m 5).1.cls ≠ "java/lang/invoke/MethodHandle" ∧ (pm_m 5).1.cls ≠ "java/lang/invoke/VarHandle" ∧ (parseMethodDescriptor (pm_m 5).1.desc).map (fun d => d.parameters.length) = some 2 := by decide +kernel
set_option maxRecDepth 20000 in
theorem pm_in_X1 : Cond.initialized RX1 ∈ wAll := wIn 52 rfl rfl
set_option maxRecDepth 20000 in
theorem pm_im5 : Cond.instanceMethod (pm_m 5).1 ∈ wAll := wIn 532 rfl rfl
set_option maxRecDepth 20000 in
theorem pm_se5 : Cond.selects RX1 (pm_m 5).1 (pm_m 5).1 ∈ wAll := wIn 12 rfl rfl
set_option maxRecDepth 20000 in
theorem pm_ml_X1_29 : Cond.methodLink RX1 29 (pm_m 151).1 ∈ wAll := wIn 535 rfl rfl
set_option maxRecDepth 20000 in
theorem pm_q151 : (pm_m 151).1.cls ≠ "java/lang/invoke/MethodHandle" ∧ (pm_m 151).1.cls ≠ "java/lang/invoke/VarHandle" ∧ (parseMethodDescriptor (pm_m 151).1.desc).map (fun d => d.parameters.length) = some 1 := by decide +kernel
set_option maxRecDepth 20000 in
theorem pm_in_J6 : Cond.initialized RJ6 ∈ wAll := wIn 55 rfl rfl
set_option maxRecDepth 20000 in
theorem pm_ss151 : Cond.static (pm_m 151).1 ∈ wAll := wIn 449 rfl rfl
set_option maxRecDepth 20000 in
theorem pm_ml_X1_35 : Cond.methodLink RX1 35 (pm_m 4).1 ∈ wAll := wIn 536 rfl rfl
set_option maxRecDepth 20000 in
theorem pm_q4 : (pm_m 4).1.cls ≠ "java/lang/invoke/MethodHandle" ∧ (pm_m 4).1.cls ≠ "java/lang/invoke/VarHandle" ∧ (parseMethodDescriptor (pm_m 4).1.desc).map (fun d => d.parameters.length) = some 1 := by decide +kernel
set_option maxRecDepth 20000 in
theorem pm_im4 : Cond.instanceMethod (pm_m 4).1 ∈ wAll := wIn 538 rfl rfl
set_option maxRecDepth 20000 in
theorem pm_se4 : Cond.selects RX1 (pm_m 4).1 (pm_m 4).1 ∈ wAll := wIn 13 rfl rfl
set_option maxRecDepth 20000 in
theorem pm_fn_X1_38 : (RX1, 38, "LeafTable", "FACTORIALS", "[I", "LeafTable") ∈ pm_nF := List.mem_of_getElem? (i := 35) rfl
set_option maxRecDepth 20000 in
theorem pm_fn_X1_42 : (RX1, 42, "LeafTable$Table", "number", "I", "LeafTable") ∈ pm_nF := List.mem_of_getElem? (i := 4) rfl
set_option maxRecDepth 20000 in
theorem pm_ml_X1_46 : Cond.methodLink RX1 46 (pm_m 155).1 ∈ wAll := wIn 542 rfl rfl
set_option maxRecDepth 20000 in
theorem pm_ml_X1_52 : Cond.methodLink RX1 52 (pm_m 9).1 ∈ wAll := wIn 543 rfl rfl
set_option maxRecDepth 20000 in
theorem pm_q9 : (pm_m 9).1.cls ≠ "java/lang/invoke/MethodHandle" ∧ (pm_m 9).1.cls ≠ "java/lang/invoke/VarHandle" ∧ (parseMethodDescriptor (pm_m 9).1.desc).map (fun d => d.parameters.length) = some 3 := by decide +kernel
set_option maxRecDepth 20000 in
theorem pm_ss9 : Cond.static (pm_m 9).1 ∈ wAll := wIn 544 rfl rfl
set_option maxRecDepth 20000 in
theorem pm_fl_X1_15 : Cond.fieldLink RX1 15 "LeafTable$Chances" "plans" "LLeafTable$Plans;" ∈ wAll := wIn 232 rfl rfl
set_option maxRecDepth 20000 in
theorem pm_ml_X1_56 : Cond.methodLink RX1 56 (pm_m 17).1 ∈ wAll := wIn 534 rfl rfl
set_option maxRecDepth 20000 in
theorem pm_q17 : (pm_m 17).1.cls ≠ "java/lang/invoke/MethodHandle" ∧ (pm_m 17).1.cls ≠ "java/lang/invoke/VarHandle" ∧ (parseMethodDescriptor (pm_m 17).1.desc).map (fun d => d.parameters.length) = some 3 := by decide +kernel
set_option maxRecDepth 20000 in
theorem pm_in_X3 : Cond.initialized RX3 ∈ wAll := wIn 51 rfl rfl
set_option maxRecDepth 20000 in
theorem pm_im17 : Cond.instanceMethod (pm_m 17).1 ∈ wAll := wIn 437 rfl rfl
set_option maxRecDepth 20000 in
theorem pm_se17 : Cond.selects RX3 (pm_m 17).1 (pm_m 17).1 ∈ wAll := wIn 438 rfl rfl
set_option maxRecDepth 20000 in
theorem pm_fn_X1_62 : (RX1, 62, "LeafTable$Plans", "mostServed", "I", "LeafTable") ∈ pm_nF := List.mem_of_getElem? (i := 30) rfl
set_option maxRecDepth 20000 in
theorem pm_ml_X1_65 : Cond.methodLink RX1 65 (pm_m 7).1 ∈ wAll := wIn 624 rfl rfl
set_option maxRecDepth 20000 in
theorem pm_q7 : (pm_m 7).1.cls ≠ "java/lang/invoke/MethodHandle" ∧ (pm_m 7).1.cls ≠ "java/lang/invoke/VarHandle" ∧ (parseMethodDescriptor (pm_m 7).1.desc).map (fun d => d.parameters.length) = some 2 := by decide +kernel
set_option maxRecDepth 20000 in
theorem pm_im7 : Cond.instanceMethod (pm_m 7).1 ∈ wAll := wIn 626 rfl rfl
set_option maxRecDepth 20000 in
theorem pm_se7 : Cond.selects RX1 (pm_m 7).1 (pm_m 7).1 ∈ wAll := wIn 16 rfl rfl
set_option maxRecDepth 20000 in
theorem pm_ml_X1_68 : Cond.methodLink RX1 68 (pm_m 8).1 ∈ wAll := wIn 630 rfl rfl
set_option maxRecDepth 20000 in
theorem pm_q8 : (pm_m 8).1.cls ≠ "java/lang/invoke/MethodHandle" ∧ (pm_m 8).1.cls ≠ "java/lang/invoke/VarHandle" ∧ (parseMethodDescriptor (pm_m 8).1.desc).map (fun d => d.parameters.length) = some 2 := by decide +kernel
set_option maxRecDepth 20000 in
theorem pm_im8 : Cond.instanceMethod (pm_m 8).1 ∈ wAll := wIn 632 rfl rfl
set_option maxRecDepth 20000 in
theorem pm_se8 : Cond.selects RX1 (pm_m 8).1 (pm_m 8).1 ∈ wAll := wIn 17 rfl rfl
set_option maxRecDepth 20000 in
theorem pm_fn_X1_71 : (RX1, 71, "LeafTable", "TENS", "[I", "LeafTable") ∈ pm_nF := List.mem_of_getElem? (i := 37) rfl
set_option maxRecDepth 20000 in
theorem pm_ml_X1_74 : Cond.methodLink RX1 74 (pm_m 16).1 ∈ wAll := wIn 628 rfl rfl
set_option maxRecDepth 20000 in
theorem pm_q16 : (pm_m 16).1.cls ≠ "java/lang/invoke/MethodHandle" ∧ (pm_m 16).1.cls ≠ "java/lang/invoke/VarHandle" ∧ (parseMethodDescriptor (pm_m 16).1.desc).map (fun d => d.parameters.length) = some 1 := by decide +kernel
set_option maxRecDepth 20000 in
theorem pm_im16 : Cond.instanceMethod (pm_m 16).1 ∈ wAll := wIn 441 rfl rfl
set_option maxRecDepth 20000 in
theorem pm_se16 : Cond.selects RX3 (pm_m 16).1 (pm_m 16).1 ∈ wAll := wIn 442 rfl rfl
set_option maxRecDepth 20000 in
theorem pm_ml_X1_78 : Cond.methodLink RX1 78 (pm_m 34).1 ∈ wAll := wIn 629 rfl rfl
set_option maxRecDepth 20000 in
theorem pm_q34 : (pm_m 34).1.cls ≠ "java/lang/invoke/MethodHandle" ∧ (pm_m 34).1.cls ≠ "java/lang/invoke/VarHandle" ∧ (parseMethodDescriptor (pm_m 34).1.desc).map (fun d => d.parameters.length) = some 2 := by decide +kernel
set_option maxRecDepth 20000 in
theorem pm_im34 : Cond.instanceMethod (pm_m 34).1 ∈ wAll := wIn 481 rfl rfl
set_option maxRecDepth 20000 in
theorem pm_se34 : Cond.selects RX5 (pm_m 34).1 (pm_m 34).1 ∈ wAll := wIn 482 rfl rfl
set_option maxRecDepth 20000 in
theorem pm_fn_X1_82 : (RX1, 82, "LeafTable$Seats", "length", "I", "LeafTable") ∈ pm_nF := List.mem_of_getElem? (i := 14) rfl
set_option maxRecDepth 20000 in
theorem pm_ml_X1_87 : Cond.methodLink RX1 87 (pm_m 153).1 ∈ wAll := wIn 546 rfl rfl
set_option maxRecDepth 20000 in
theorem pm_ml_X1_90 : Cond.methodLink RX1 90 (pm_m 10).1 ∈ wAll := wIn 547 rfl rfl
set_option maxRecDepth 20000 in
theorem pm_q10 : (pm_m 10).1.cls ≠ "java/lang/invoke/MethodHandle" ∧ (pm_m 10).1.cls ≠ "java/lang/invoke/VarHandle" ∧ (parseMethodDescriptor (pm_m 10).1.desc).map (fun d => d.parameters.length) = some 2 := by decide +kernel
set_option maxRecDepth 20000 in
theorem pm_ss10 : Cond.static (pm_m 10).1 ∈ wAll := wIn 548 rfl rfl
set_option maxRecDepth 20000 in
theorem pm_fl_X3_13 : Cond.fieldLink RX3 13 "LeafTable$Plans" "trials" "[LLeafTable$Seats;" ∈ wAll := wIn 206 rfl rfl
set_option maxRecDepth 20000 in
theorem pm_ml_X3_22 : Cond.methodLink RX3 22 (pm_m 27).1 ∈ wAll := wIn 444 rfl rfl
set_option maxRecDepth 20000 in
theorem pm_ml_X3_26 : Cond.methodLink RX3 26 (pm_m 16).1 ∈ wAll := wIn 440 rfl rfl
set_option maxRecDepth 20000 in
theorem pm_fn_X3_30 : (RX3, 30, "LeafTable$Seats", "served", "I", "LeafTable") ∈ pm_nF := List.mem_of_getElem? (i := 22) rfl
set_option maxRecDepth 20000 in
theorem pm_fl_X3_34 : Cond.fieldLink RX3 34 "LeafTable$Plans" "mostServed" "I" ∈ wAll := wIn 207 rfl rfl
set_option maxRecDepth 20000 in
theorem pm_fl_X3_37 : Cond.fieldLink RX3 37 "LeafTable$Plans" "firstPasses" "I" ∈ wAll := wIn 210 rfl rfl
set_option maxRecDepth 20000 in
theorem pm_ml_X3_40 : Cond.methodLink RX3 40 (pm_m 18).1 ∈ wAll := wIn 445 rfl rfl
set_option maxRecDepth 20000 in
theorem pm_q18 : (pm_m 18).1.cls ≠ "java/lang/invoke/MethodHandle" ∧ (pm_m 18).1.cls ≠ "java/lang/invoke/VarHandle" ∧ (parseMethodDescriptor (pm_m 18).1.desc).map (fun d => d.parameters.length) = some 4 := by decide +kernel
set_option maxRecDepth 20000 in
theorem pm_ss18 : Cond.static (pm_m 18).1 ∈ wAll := wIn 446 rfl rfl
set_option maxRecDepth 20000 in
theorem pm_ml_X3_44 : Cond.methodLink RX3 44 (pm_m 151).1 ∈ wAll := wIn 448 rfl rfl
set_option maxRecDepth 20000 in
theorem pm_ml_X3_50 : Cond.methodLink RX3 50 (pm_m 19).1 ∈ wAll := wIn 454 rfl rfl
set_option maxRecDepth 20000 in
theorem pm_q19 : (pm_m 19).1.cls ≠ "java/lang/invoke/MethodHandle" ∧ (pm_m 19).1.cls ≠ "java/lang/invoke/VarHandle" ∧ (parseMethodDescriptor (pm_m 19).1.desc).map (fun d => d.parameters.length) = some 2 := by decide +kernel
set_option maxRecDepth 20000 in
theorem pm_im19 : Cond.instanceMethod (pm_m 19).1 ∈ wAll := wIn 456 rfl rfl
set_option maxRecDepth 20000 in
theorem pm_se19 : Cond.selects RX3 (pm_m 19).1 (pm_m 19).1 ∈ wAll := wIn 9 rfl rfl
set_option maxRecDepth 20000 in
theorem pm_fl_X3_17 : Cond.fieldLink RX3 17 "LeafTable$Plans" "table" "LLeafTable$Table;" ∈ wAll := wIn 205 rfl rfl
set_option maxRecDepth 20000 in
theorem pm_fn_X3_54 : (RX3, 54, "LeafTable$Table", "number", "I", "LeafTable") ∈ pm_nF := List.mem_of_getElem? (i := 6) rfl
set_option maxRecDepth 20000 in
theorem pm_ml_X3_59 : Cond.methodLink RX3 59 (pm_m 35).1 ∈ wAll := wIn 458 rfl rfl
set_option maxRecDepth 20000 in
theorem pm_q35 : (pm_m 35).1.cls ≠ "java/lang/invoke/MethodHandle" ∧ (pm_m 35).1.cls ≠ "java/lang/invoke/VarHandle" ∧ (parseMethodDescriptor (pm_m 35).1.desc).map (fun d => d.parameters.length) = some 2 := by decide +kernel
set_option maxRecDepth 20000 in
theorem pm_im35 : Cond.instanceMethod (pm_m 35).1 ∈ wAll := wIn 403 rfl rfl
set_option maxRecDepth 20000 in
theorem pm_se35 : Cond.selects RX5 (pm_m 35).1 (pm_m 35).1 ∈ wAll := wIn 404 rfl rfl
set_option maxRecDepth 20000 in
theorem pm_ml_X3_63 : Cond.methodLink RX3 63 (pm_m 21).1 ∈ wAll := wIn 467 rfl rfl
set_option maxRecDepth 20000 in
theorem pm_q21 : (pm_m 21).1.cls ≠ "java/lang/invoke/MethodHandle" ∧ (pm_m 21).1.cls ≠ "java/lang/invoke/VarHandle" ∧ (parseMethodDescriptor (pm_m 21).1.desc).map (fun d => d.parameters.length) = some 5 := by decide +kernel
set_option maxRecDepth 20000 in
theorem pm_ss21 : Cond.static (pm_m 21).1 ∈ wAll := wIn 468 rfl rfl
set_option maxRecDepth 20000 in
theorem pm_ml_X3_67 : Cond.methodLink RX3 67 (pm_m 22).1 ∈ wAll := wIn 470 rfl rfl
set_option maxRecDepth 20000 in
theorem pm_q22 : (pm_m 22).1.cls ≠ "java/lang/invoke/MethodHandle" ∧ (pm_m 22).1.cls ≠ "java/lang/invoke/VarHandle" ∧ (parseMethodDescriptor (pm_m 22).1.desc).map (fun d => d.parameters.length) = some 2 := by decide +kernel
set_option maxRecDepth 20000 in
theorem pm_im22 : Cond.instanceMethod (pm_m 22).1 ∈ wAll := wIn 472 rfl rfl
set_option maxRecDepth 20000 in
theorem pm_se22 : Cond.selects RX3 (pm_m 22).1 (pm_m 22).1 ∈ wAll := wIn 10 rfl rfl
set_option maxRecDepth 20000 in
theorem pm_ml_X3_71 : Cond.methodLink RX3 71 (pm_m 34).1 ∈ wAll := wIn 480 rfl rfl
set_option maxRecDepth 20000 in
theorem pm_ml_X3_74 : Cond.methodLink RX3 74 (pm_m 38).1 ∈ wAll := wIn 474 rfl rfl
set_option maxRecDepth 20000 in
theorem pm_q38 : (pm_m 38).1.cls ≠ "java/lang/invoke/MethodHandle" ∧ (pm_m 38).1.cls ≠ "java/lang/invoke/VarHandle" ∧ (parseMethodDescriptor (pm_m 38).1.desc).map (fun d => d.parameters.length) = some 1 := by decide +kernel
set_option maxRecDepth 20000 in
theorem pm_im38 : Cond.instanceMethod (pm_m 38).1 ∈ wAll := wIn 475 rfl rfl
set_option maxRecDepth 20000 in
theorem pm_se38 : Cond.selects RX5 (pm_m 38).1 (pm_m 38).1 ∈ wAll := wIn 476 rfl rfl
set_option maxRecDepth 20000 in
theorem pm_fn_X3_78 : (RX3, 78, "LeafTable$Seats", "length", "I", "LeafTable") ∈ pm_nF := List.mem_of_getElem? (i := 16) rfl
set_option maxRecDepth 20000 in
theorem pm_mn_X3_81 : (RX3, 81, (pm_m 85).1, "LeafTable") ∈ pm_nM := List.mem_of_getElem? (i := 6) rfl
set_option maxRecDepth 20000 in
theorem pm_ml_X3_85 : Cond.methodLink RX3 85 (pm_m 24).1 ∈ wAll := wIn 512 rfl rfl
set_option maxRecDepth 20000 in
theorem pm_q24 : (pm_m 24).1.cls ≠ "java/lang/invoke/MethodHandle" ∧ (pm_m 24).1.cls ≠ "java/lang/invoke/VarHandle" ∧ (parseMethodDescriptor (pm_m 24).1.desc).map (fun d => d.parameters.length) = some 2 := by decide +kernel
set_option maxRecDepth 20000 in
theorem pm_im24 : Cond.instanceMethod (pm_m 24).1 ∈ wAll := wIn 514 rfl rfl
set_option maxRecDepth 20000 in
theorem pm_se24 : Cond.selects RX3 (pm_m 24).1 (pm_m 24).1 ∈ wAll := wIn 11 rfl rfl
set_option maxRecDepth 20000 in
theorem pm_fn_X3_88 : (RX3, 88, "LeafTable$Seats", "warmth", "I", "LeafTable") ∈ pm_nF := List.mem_of_getElem? (i := 21) rfl
set_option maxRecDepth 20000 in
theorem pm_ml_X3_91 : Cond.methodLink RX3 91 (pm_m 40).1 ∈ wAll := wIn 516 rfl rfl
set_option maxRecDepth 20000 in
theorem pm_q40 : (pm_m 40).1.cls ≠ "java/lang/invoke/MethodHandle" ∧ (pm_m 40).1.cls ≠ "java/lang/invoke/VarHandle" ∧ (parseMethodDescriptor (pm_m 40).1.desc).map (fun d => d.parameters.length) = some 1 := by decide +kernel
set_option maxRecDepth 20000 in
theorem pm_im40 : Cond.instanceMethod (pm_m 40).1 ∈ wAll := wIn 517 rfl rfl
set_option maxRecDepth 20000 in
theorem pm_se40 : Cond.selects RX5 (pm_m 40).1 (pm_m 40).1 ∈ wAll := wIn 518 rfl rfl
set_option maxRecDepth 20000 in
theorem pm_ml_X3_95 : Cond.methodLink RX3 95 (pm_m 36).1 ∈ wAll := wIn 520 rfl rfl
set_option maxRecDepth 20000 in
theorem pm_q36 : (pm_m 36).1.cls ≠ "java/lang/invoke/MethodHandle" ∧ (pm_m 36).1.cls ≠ "java/lang/invoke/VarHandle" ∧ (parseMethodDescriptor (pm_m 36).1.desc).map (fun d => d.parameters.length) = some 1 := by decide +kernel
set_option maxRecDepth 20000 in
theorem pm_im36 : Cond.instanceMethod (pm_m 36).1 ∈ wAll := wIn 417 rfl rfl
set_option maxRecDepth 20000 in
theorem pm_se36 : Cond.selects RX5 (pm_m 36).1 (pm_m 36).1 ∈ wAll := wIn 418 rfl rfl
set_option maxRecDepth 20000 in
theorem pm_fl_X3_98 : Cond.fieldLink RX3 98 "LeafTable$Plans" "opening" "I" ∈ wAll := wIn 212 rfl rfl
set_option maxRecDepth 20000 in
theorem pm_ml_X3_101 : Cond.methodLink RX3 101 (pm_m 26).1 ∈ wAll := wIn 613 rfl rfl
set_option maxRecDepth 20000 in
theorem pm_q26 : (pm_m 26).1.cls ≠ "java/lang/invoke/MethodHandle" ∧ (pm_m 26).1.cls ≠ "java/lang/invoke/VarHandle" ∧ (parseMethodDescriptor (pm_m 26).1.desc).map (fun d => d.parameters.length) = some 3 := by decide +kernel
set_option maxRecDepth 20000 in
theorem pm_ss26 : Cond.static (pm_m 26).1 ∈ wAll := wIn 614 rfl rfl
def bp_X1_shareOf : List Nat := [0, 1, 3, 4, 5, 6, 8, 9, 11, 13, 14, 17, 20, 23, 25, 27, 28, 31, 32, 33, 35, 37, 38, 41, 42, 43, 45, 48, 49, 51, 53, 55, 56, 58, 61, 64, 65, 66, 68, 71, 74, 76, 79, 80, 83, 86, 87, 90, 91, 92, 95]
def co_X1_shareOf : List pm_Op := [
  pm_push (0),
  pm_istore 4,
  pm_push (1),
  pm_iload 2,
  pm_bin (fun x y => x <<< (y &&& 31)),
  pm_istore 5,
  pm_push (0),
  pm_istore 6,
  pm_iload 6,
  pm_aload 0,
  pm_getf 1 0,
  pm_callV 5 31 1,
  pm_cmpgt 40,
  pm_iload 6,
  pm_iload 5,
  pm_bin (fun x y => x &&& y),
  pm_ifne 38,
  pm_aload 0,
  pm_aload 1,
  pm_iload 6,
  pm_iload 5,
  pm_bin (fun x y => x ||| y),
  pm_callV 1 5 3,
  pm_aload 0,
  pm_aload 1,
  pm_iload 6,
  pm_callV 1 5 3,
  pm_bin (fun x y => x - y),
  pm_istore 7,
  pm_iload 4,
  pm_iload 7,
  pm_aload 0,
  pm_iload 6,
  pm_callS 151 1,
  pm_callV 1 4 2,
  pm_bin (fun x y => x * y),
  pm_bin (fun x y => x + y),
  pm_istore 4,
  pm_iinc 6 (1),
  pm_goto 8,
  pm_iload 4,
  pm_gets 38,
  pm_aload 0,
  pm_getf 1 0,
  pm_getf 5 3,
  pm_push (5),
  pm_callS 155 2,
  pm_iald,
  pm_iload 3,
  pm_callS 9 3,
  pm_iret]
set_option maxRecDepth 20000 in
set_option maxHeartbeats 4000000 in
theorem ms_X1_shareOf : pm_MS 3 RX1 bp_X1_shareOf co_X1_shareOf := fun p l e R s m args below meth c cells slots Qm D cs ad sz d C hR => ⟨
  pm_s_iconst C (n := 0) (by decide +kernel) rfl rfl,
  pm_s_istore C (by decide +kernel) rfl,
  pm_s_iconst C (n := 1) (by decide +kernel) rfl rfl,
  pm_s_iload_n C (n := 2) (by decide +kernel) rfl rfl,
  pm_s_ishl C (by decide +kernel) rfl,
  pm_s_istore C (by decide +kernel) rfl,
  pm_s_iconst C (n := 0) (by decide +kernel) rfl rfl,
  pm_s_istore C (by decide +kernel) rfl,
  pm_s_iload C (by decide +kernel) rfl,
  pm_s_aload_n C (n := 0) (by decide +kernel) rfl rfl,
  pm_s_getf C (n := 9) (ci := 1) rfl rfl wiX1 (by decide) (by decide +kernel) pm_fl_X1_9 rfl,
  pm_s_callV C hR (n := 19) (ci := 5) rfl (by decide +kernel) pm_ml_X1_19 pm_im31 pm_se31 pm_in_X5 pm_cw31 pm_q31 (by decide) rfl,
  pm_s_cmpgt C (off := 54) (by decide +kernel) (by decide +kernel) rfl,
  pm_s_iload C (by decide +kernel) rfl,
  pm_s_iload C (by decide +kernel) rfl,
  pm_s_iand C (by decide +kernel) rfl,
  pm_s_ifne C (off := 40) (by decide +kernel) (by decide +kernel) rfl,
  pm_s_aload_n C (n := 0) (by decide +kernel) rfl rfl,
  pm_s_aload_n C (n := 1) (by decide +kernel) rfl rfl,
  pm_s_iload C (by decide +kernel) rfl,
  pm_s_iload C (by decide +kernel) rfl,
  pm_s_ior C (by decide +kernel) rfl,
  pm_s_callV C hR (n := 25) (ci := 1) rfl (by decide +kernel) pm_ml_X1_25 pm_im5 pm_se5 pm_in_X1 pm_cw5 pm_q5 (by decide) rfl,
  pm_s_aload_n C (n := 0) (by decide +kernel) rfl rfl,
  pm_s_aload_n C (n := 1) (by decide +kernel) rfl rfl,
  pm_s_iload C (by decide +kernel) rfl,
  pm_s_callV C hR (n := 25) (ci := 1) rfl (by decide +kernel) pm_ml_X1_25 pm_im5 pm_se5 pm_in_X1 pm_cw5 pm_q5 (by decide) rfl,
  pm_s_isub C (by decide +kernel) rfl,
  pm_s_istore C (by decide +kernel) rfl,
  pm_s_iload C (by decide +kernel) rfl,
  pm_s_iload C (by decide +kernel) rfl,
  pm_s_aload_n C (n := 0) (by decide +kernel) rfl rfl,
  pm_s_iload C (by decide +kernel) rfl,
  pm_s_callS C hR (n := 29) (by decide +kernel) pm_ml_X1_29 pm_ss151 pm_in_J6 pm_cw151 pm_q151 (by decide) rfl,
  pm_s_callV C hR (n := 35) (ci := 1) rfl (by decide +kernel) pm_ml_X1_35 pm_im4 pm_se4 pm_in_X1 pm_cw4 pm_q4 (by decide) rfl,
  pm_s_imul C (by decide +kernel) rfl,
  pm_s_iadd C (by decide +kernel) rfl,
  pm_s_istore C (by decide +kernel) rfl,
  pm_s_iinc C (n := 1) (by decide +kernel) rfl rfl,
  pm_s_goto C (off := -60) (by decide +kernel) (by decide +kernel),
  pm_s_iload C (by decide +kernel) rfl,
  pm_s_getsN C (n := 38) (by decide) (by decide) (by decide +kernel) pm_fn_X1_38 rfl,
  pm_s_aload_n C (n := 0) (by decide +kernel) rfl rfl,
  pm_s_getf C (n := 9) (ci := 1) rfl rfl wiX1 (by decide) (by decide +kernel) pm_fl_X1_9 rfl,
  pm_s_getfN C (n := 42) (ci := 5) rfl rfl wiX5 (by decide) (by decide +kernel) pm_fn_X1_42 rfl,
  pm_s_iconst C (n := 5) (by decide +kernel) rfl rfl,
  pm_s_callS C hR (n := 46) (by decide +kernel) pm_ml_X1_46 pm_ss155 pm_in_J9 pm_cw155 pm_q155 (by decide) rfl,
  pm_s_iald C (by decide +kernel) rfl,
  pm_s_iload_n C (n := 3) (by decide +kernel) rfl rfl,
  pm_s_callS C hR (n := 52) (by decide +kernel) pm_ml_X1_52 pm_ss9 pm_in_X1 pm_cw9 pm_q9 (by decide) rfl,
  pm_s_iret (by decide +kernel) rfl,
  trivial⟩
def bp_X1_ordersWith : List Nat := [0, 1, 4, 7, 8, 9, 10, 11, 12, 13, 16, 17, 18, 21, 22, 25, 26, 27, 30, 31, 34, 35, 36, 37, 40, 43, 44, 45, 48, 49, 50, 51, 54, 55]
def co_X1_ordersWith : List pm_Op := [
  pm_aload 0,
  pm_getf 1 0,
  pm_getf 5 3,
  pm_push (1),
  pm_bin (fun x y => x - y),
  pm_iload 1,
  pm_bin (fun x y => x - y),
  pm_istore 2,
  pm_iload 1,
  pm_iflt 20,
  pm_iload 1,
  pm_push (5),
  pm_cmpgt 20,
  pm_iload 2,
  pm_iflt 20,
  pm_iload 2,
  pm_push (5),
  pm_cmpgt 20,
  pm_push (1),
  pm_goto 21,
  pm_push (0),
  pm_istore 3,
  pm_iload 3,
  pm_ifeq 32,
  pm_gets 38,
  pm_iload 1,
  pm_iald,
  pm_gets 38,
  pm_iload 2,
  pm_iald,
  pm_bin (fun x y => x * y),
  pm_goto 33,
  pm_push (0),
  pm_iret]
set_option maxRecDepth 20000 in
set_option maxHeartbeats 4000000 in
theorem ms_X1_ordersWith : pm_MS 4 RX1 bp_X1_ordersWith co_X1_ordersWith := fun p l e R s m args below meth c cells slots Qm D cs ad sz d C hR => ⟨
  pm_s_aload_n C (n := 0) (by decide +kernel) rfl rfl,
  pm_s_getf C (n := 9) (ci := 1) rfl rfl wiX1 (by decide) (by decide +kernel) pm_fl_X1_9 rfl,
  pm_s_getfN C (n := 42) (ci := 5) rfl rfl wiX5 (by decide) (by decide +kernel) pm_fn_X1_42 rfl,
  pm_s_iconst C (n := 1) (by decide +kernel) rfl rfl,
  pm_s_isub C (by decide +kernel) rfl,
  pm_s_iload_n C (n := 1) (by decide +kernel) rfl rfl,
  pm_s_isub C (by decide +kernel) rfl,
  pm_s_istore_n C (n := 2) (by decide +kernel) rfl rfl,
  pm_s_iload_n C (n := 1) (by decide +kernel) rfl rfl,
  pm_s_iflt C (off := 21) (by decide +kernel) (by decide +kernel) rfl,
  pm_s_iload_n C (n := 1) (by decide +kernel) rfl rfl,
  pm_s_iconst C (n := 5) (by decide +kernel) rfl rfl,
  pm_s_cmpgt C (off := 16) (by decide +kernel) (by decide +kernel) rfl,
  pm_s_iload_n C (n := 2) (by decide +kernel) rfl rfl,
  pm_s_iflt C (off := 12) (by decide +kernel) (by decide +kernel) rfl,
  pm_s_iload_n C (n := 2) (by decide +kernel) rfl rfl,
  pm_s_iconst C (n := 5) (by decide +kernel) rfl rfl,
  pm_s_cmpgt C (off := 7) (by decide +kernel) (by decide +kernel) rfl,
  pm_s_iconst C (n := 1) (by decide +kernel) rfl rfl,
  pm_s_goto C (off := 4) (by decide +kernel) (by decide +kernel),
  pm_s_iconst C (n := 0) (by decide +kernel) rfl rfl,
  pm_s_istore_n C (n := 3) (by decide +kernel) rfl rfl,
  pm_s_iload_n C (n := 3) (by decide +kernel) rfl rfl,
  pm_s_ifeq C (off := 17) (by decide +kernel) (by decide +kernel) rfl,
  pm_s_getsN C (n := 38) (by decide) (by decide) (by decide +kernel) pm_fn_X1_38 rfl,
  pm_s_iload_n C (n := 1) (by decide +kernel) rfl rfl,
  pm_s_iald C (by decide +kernel) rfl,
  pm_s_getsN C (n := 38) (by decide) (by decide) (by decide +kernel) pm_fn_X1_38 rfl,
  pm_s_iload_n C (n := 2) (by decide +kernel) rfl rfl,
  pm_s_iald C (by decide +kernel) rfl,
  pm_s_imul C (by decide +kernel) rfl,
  pm_s_goto C (off := 4) (by decide +kernel) (by decide +kernel),
  pm_s_iconst C (n := 0) (by decide +kernel) rfl rfl,
  pm_s_iret (by decide +kernel) rfl,
  trivial⟩
def bp_X1_mostOf : List Nat := [0, 1, 4, 5, 6, 7, 10, 11, 14, 17]
def co_X1_mostOf : List pm_Op := [
  pm_aload 0,
  pm_getf 1 1,
  pm_aload 1,
  pm_push (0),
  pm_iload 2,
  pm_callV 3 17 4,
  pm_aload 0,
  pm_getf 1 1,
  pm_getf 3 2,
  pm_iret]
set_option maxRecDepth 20000 in
set_option maxHeartbeats 4000000 in
theorem ms_X1_mostOf : pm_MS 5 RX1 bp_X1_mostOf co_X1_mostOf := fun p l e R s m args below meth c cells slots Qm D cs ad sz d C hR => ⟨
  pm_s_aload_n C (n := 0) (by decide +kernel) rfl rfl,
  pm_s_getf C (n := 15) (ci := 1) rfl rfl wiX1 (by decide) (by decide +kernel) pm_fl_X1_15 rfl,
  pm_s_aload_n C (n := 1) (by decide +kernel) rfl rfl,
  pm_s_iconst C (n := 0) (by decide +kernel) rfl rfl,
  pm_s_iload_n C (n := 2) (by decide +kernel) rfl rfl,
  pm_s_callV C hR (n := 56) (ci := 3) rfl (by decide +kernel) pm_ml_X1_56 pm_im17 pm_se17 pm_in_X3 pm_cw17 pm_q17 (by decide) rfl,
  pm_s_aload_n C (n := 0) (by decide +kernel) rfl rfl,
  pm_s_getf C (n := 15) (ci := 1) rfl rfl wiX1 (by decide) (by decide +kernel) pm_fl_X1_15 rfl,
  pm_s_getfN C (n := 62) (ci := 3) rfl rfl wiX3 (by decide) (by decide +kernel) pm_fn_X1_62 rfl,
  pm_s_iret (by decide +kernel) rfl,
  trivial⟩
def bp_X1_chanceOfLength : List Nat := [0, 1, 3, 4, 6, 8, 9, 12, 15, 18, 19, 20, 22, 25, 26, 29, 31, 32, 34, 35, 38, 39, 41, 44, 47, 49, 52, 53, 56, 59, 60, 63, 64, 66, 69]
def co_X1_chanceOfLength : List pm_Op := [
  pm_push (0),
  pm_istore 5,
  pm_push (0),
  pm_istore 6,
  pm_iload 6,
  pm_aload 0,
  pm_getf 1 0,
  pm_callV 5 31 1,
  pm_cmpgt 24,
  pm_aload 0,
  pm_aload 1,
  pm_iload 6,
  pm_callV 1 7 3,
  pm_iload 3,
  pm_cmplt 22,
  pm_iload 5,
  pm_aload 0,
  pm_iload 6,
  pm_iload 2,
  pm_callV 1 8 3,
  pm_bin (fun x y => x + y),
  pm_istore 5,
  pm_iinc 6 (1),
  pm_goto 4,
  pm_iload 5,
  pm_gets 37,
  pm_aload 0,
  pm_getf 1 0,
  pm_getf 5 3,
  pm_push (5),
  pm_callS 155 2,
  pm_iald,
  pm_iload 4,
  pm_callS 9 3,
  pm_iret]
set_option maxRecDepth 20000 in
set_option maxHeartbeats 4000000 in
theorem ms_X1_chanceOfLength : pm_MS 6 RX1 bp_X1_chanceOfLength co_X1_chanceOfLength := fun p l e R s m args below meth c cells slots Qm D cs ad sz d C hR => ⟨
  pm_s_iconst C (n := 0) (by decide +kernel) rfl rfl,
  pm_s_istore C (by decide +kernel) rfl,
  pm_s_iconst C (n := 0) (by decide +kernel) rfl rfl,
  pm_s_istore C (by decide +kernel) rfl,
  pm_s_iload C (by decide +kernel) rfl,
  pm_s_aload_n C (n := 0) (by decide +kernel) rfl rfl,
  pm_s_getf C (n := 9) (ci := 1) rfl rfl wiX1 (by decide) (by decide +kernel) pm_fl_X1_9 rfl,
  pm_s_callV C hR (n := 19) (ci := 5) rfl (by decide +kernel) pm_ml_X1_19 pm_im31 pm_se31 pm_in_X5 pm_cw31 pm_q31 (by decide) rfl,
  pm_s_cmpgt C (off := 32) (by decide +kernel) (by decide +kernel) rfl,
  pm_s_aload_n C (n := 0) (by decide +kernel) rfl rfl,
  pm_s_aload_n C (n := 1) (by decide +kernel) rfl rfl,
  pm_s_iload C (by decide +kernel) rfl,
  pm_s_callV C hR (n := 65) (ci := 1) rfl (by decide +kernel) pm_ml_X1_65 pm_im7 pm_se7 pm_in_X1 pm_cw7 pm_q7 (by decide) rfl,
  pm_s_iload_n C (n := 3) (by decide +kernel) rfl rfl,
  pm_s_cmplt C (off := 15) (by decide +kernel) (by decide +kernel) rfl,
  pm_s_iload C (by decide +kernel) rfl,
  pm_s_aload_n C (n := 0) (by decide +kernel) rfl rfl,
  pm_s_iload C (by decide +kernel) rfl,
  pm_s_iload_n C (n := 2) (by decide +kernel) rfl rfl,
  pm_s_callV C hR (n := 68) (ci := 1) rfl (by decide +kernel) pm_ml_X1_68 pm_im8 pm_se8 pm_in_X1 pm_cw8 pm_q8 (by decide) rfl,
  pm_s_iadd C (by decide +kernel) rfl,
  pm_s_istore C (by decide +kernel) rfl,
  pm_s_iinc C (n := 1) (by decide +kernel) rfl rfl,
  pm_s_goto C (off := -38) (by decide +kernel) (by decide +kernel),
  pm_s_iload C (by decide +kernel) rfl,
  pm_s_getsN C (n := 71) (by decide) (by decide) (by decide +kernel) pm_fn_X1_71 rfl,
  pm_s_aload_n C (n := 0) (by decide +kernel) rfl rfl,
  pm_s_getf C (n := 9) (ci := 1) rfl rfl wiX1 (by decide) (by decide +kernel) pm_fl_X1_9 rfl,
  pm_s_getfN C (n := 42) (ci := 5) rfl rfl wiX5 (by decide) (by decide +kernel) pm_fn_X1_42 rfl,
  pm_s_iconst C (n := 5) (by decide +kernel) rfl rfl,
  pm_s_callS C hR (n := 46) (by decide +kernel) pm_ml_X1_46 pm_ss155 pm_in_J9 pm_cw155 pm_q155 (by decide) rfl,
  pm_s_iald C (by decide +kernel) rfl,
  pm_s_iload C (by decide +kernel) rfl,
  pm_s_callS C hR (n := 52) (by decide +kernel) pm_ml_X1_52 pm_ss9 pm_in_X1 pm_cw9 pm_q9 (by decide) rfl,
  pm_s_iret (by decide +kernel) rfl,
  trivial⟩
def bp_X1_lengthBy : List Nat := [0, 1, 4, 5, 8, 9, 10, 12, 14, 15, 18, 21, 24, 25, 27, 28, 29, 30, 31, 34, 35, 38, 39, 41, 44, 45, 48, 51, 52, 55]
def co_X1_lengthBy : List pm_Op := [
  pm_aload 0,
  pm_getf 1 1,
  pm_aload 1,
  pm_callV 3 16 2,
  pm_astore 3,
  pm_push (0),
  pm_istore 4,
  pm_iload 4,
  pm_aload 0,
  pm_getf 1 0,
  pm_getf 5 3,
  pm_cmpge 27,
  pm_iload 2,
  pm_iload 4,
  pm_bin (fun x y => x >>> (y &&& 31)),
  pm_push (1),
  pm_bin (fun x y => x &&& y),
  pm_push (1),
  pm_cmpne 25,
  pm_aload 0,
  pm_getf 1 0,
  pm_aload 3,
  pm_iload 4,
  pm_callV 5 34 3,
  pm_pop,
  pm_iinc 4 (1),
  pm_goto 7,
  pm_aload 3,
  pm_getf 4 1,
  pm_iret]
set_option maxRecDepth 20000 in
set_option maxHeartbeats 4000000 in
theorem ms_X1_lengthBy : pm_MS 7 RX1 bp_X1_lengthBy co_X1_lengthBy := fun p l e R s m args below meth c cells slots Qm D cs ad sz d C hR => ⟨
  pm_s_aload_n C (n := 0) (by decide +kernel) rfl rfl,
  pm_s_getf C (n := 15) (ci := 1) rfl rfl wiX1 (by decide) (by decide +kernel) pm_fl_X1_15 rfl,
  pm_s_aload_n C (n := 1) (by decide +kernel) rfl rfl,
  pm_s_callV C hR (n := 74) (ci := 3) rfl (by decide +kernel) pm_ml_X1_74 pm_im16 pm_se16 pm_in_X3 pm_cw16 pm_q16 (by decide) rfl,
  pm_s_astore_n C (n := 3) (by decide +kernel) rfl rfl,
  pm_s_iconst C (n := 0) (by decide +kernel) rfl rfl,
  pm_s_istore C (by decide +kernel) rfl,
  pm_s_iload C (by decide +kernel) rfl,
  pm_s_aload_n C (n := 0) (by decide +kernel) rfl rfl,
  pm_s_getf C (n := 9) (ci := 1) rfl rfl wiX1 (by decide) (by decide +kernel) pm_fl_X1_9 rfl,
  pm_s_getfN C (n := 42) (ci := 5) rfl rfl wiX5 (by decide) (by decide +kernel) pm_fn_X1_42 rfl,
  pm_s_cmpge C (off := 30) (by decide +kernel) (by decide +kernel) rfl,
  pm_s_iload_n C (n := 2) (by decide +kernel) rfl rfl,
  pm_s_iload C (by decide +kernel) rfl,
  pm_s_ishr C (by decide +kernel) rfl,
  pm_s_iconst C (n := 1) (by decide +kernel) rfl rfl,
  pm_s_iand C (by decide +kernel) rfl,
  pm_s_iconst C (n := 1) (by decide +kernel) rfl rfl,
  pm_s_cmpne C (off := 14) (by decide +kernel) (by decide +kernel) rfl,
  pm_s_aload_n C (n := 0) (by decide +kernel) rfl rfl,
  pm_s_getf C (n := 9) (ci := 1) rfl rfl wiX1 (by decide) (by decide +kernel) pm_fl_X1_9 rfl,
  pm_s_aload_n C (n := 3) (by decide +kernel) rfl rfl,
  pm_s_iload C (by decide +kernel) rfl,
  pm_s_callV C hR (n := 78) (ci := 5) rfl (by decide +kernel) pm_ml_X1_78 pm_im34 pm_se34 pm_in_X5 pm_cw34 pm_q34 (by decide) rfl,
  pm_s_pop C (by decide +kernel) rfl,
  pm_s_iinc C (n := 1) (by decide +kernel) rfl rfl,
  pm_s_goto C (off := -36) (by decide +kernel) (by decide +kernel),
  pm_s_aload_n C (n := 3) (by decide +kernel) rfl rfl,
  pm_s_getfN C (n := 82) (ci := 4) rfl rfl wiX4 (by decide) (by decide +kernel) pm_fn_X1_82 rfl,
  pm_s_iret (by decide +kernel) rfl,
  trivial⟩
def bp_X1_weightOf : List Nat := [0, 1, 2, 3, 5, 7, 8, 11, 14, 17, 18, 19, 21, 22, 23, 24, 25, 28, 29, 32, 34, 35, 36, 37, 38, 41, 44, 45]
def co_X1_weightOf : List pm_Op := [
  pm_push (1),
  pm_istore 3,
  pm_push (0),
  pm_istore 4,
  pm_iload 4,
  pm_aload 0,
  pm_getf 1 0,
  pm_getf 5 3,
  pm_cmpge 26,
  pm_iload 3,
  pm_iload 1,
  pm_iload 4,
  pm_bin (fun x y => x >>> (y &&& 31)),
  pm_push (1),
  pm_bin (fun x y => x &&& y),
  pm_push (1),
  pm_cmpne 19,
  pm_iload 2,
  pm_goto 22,
  pm_push (10),
  pm_iload 2,
  pm_bin (fun x y => x - y),
  pm_bin (fun x y => x * y),
  pm_istore 3,
  pm_iinc 4 (1),
  pm_goto 4,
  pm_iload 3,
  pm_iret]
set_option maxRecDepth 20000 in
set_option maxHeartbeats 4000000 in
theorem ms_X1_weightOf : pm_MS 8 RX1 bp_X1_weightOf co_X1_weightOf := fun p l e R s m args below meth c cells slots Qm D cs ad sz d C hR => ⟨
  pm_s_iconst C (n := 1) (by decide +kernel) rfl rfl,
  pm_s_istore_n C (n := 3) (by decide +kernel) rfl rfl,
  pm_s_iconst C (n := 0) (by decide +kernel) rfl rfl,
  pm_s_istore C (by decide +kernel) rfl,
  pm_s_iload C (by decide +kernel) rfl,
  pm_s_aload_n C (n := 0) (by decide +kernel) rfl rfl,
  pm_s_getf C (n := 9) (ci := 1) rfl rfl wiX1 (by decide) (by decide +kernel) pm_fl_X1_9 rfl,
  pm_s_getfN C (n := 42) (ci := 5) rfl rfl wiX5 (by decide) (by decide +kernel) pm_fn_X1_42 rfl,
  pm_s_cmpge C (off := 30) (by decide +kernel) (by decide +kernel) rfl,
  pm_s_iload_n C (n := 3) (by decide +kernel) rfl rfl,
  pm_s_iload_n C (n := 1) (by decide +kernel) rfl rfl,
  pm_s_iload C (by decide +kernel) rfl,
  pm_s_ishr C (by decide +kernel) rfl,
  pm_s_iconst C (n := 1) (by decide +kernel) rfl rfl,
  pm_s_iand C (by decide +kernel) rfl,
  pm_s_iconst C (n := 1) (by decide +kernel) rfl rfl,
  pm_s_cmpne C (off := 7) (by decide +kernel) (by decide +kernel) rfl,
  pm_s_iload_n C (n := 2) (by decide +kernel) rfl rfl,
  pm_s_goto C (off := 7) (by decide +kernel) (by decide +kernel),
  pm_s_bipush C (n := 10) (by decide +kernel) rfl rfl,
  pm_s_iload_n C (n := 2) (by decide +kernel) rfl rfl,
  pm_s_isub C (by decide +kernel) rfl,
  pm_s_imul C (by decide +kernel) rfl,
  pm_s_istore_n C (n := 3) (by decide +kernel) rfl rfl,
  pm_s_iinc C (n := 1) (by decide +kernel) rfl rfl,
  pm_s_goto C (off := -36) (by decide +kernel) (by decide +kernel),
  pm_s_iload_n C (n := 3) (by decide +kernel) rfl rfl,
  pm_s_iret (by decide +kernel) rfl,
  trivial⟩
def bp_X1_leastTerms : List Nat := [0, 1, 4, 5, 8, 9, 10, 13, 14, 15, 16, 19, 20, 21, 22, 25, 26, 27, 28]
def co_X1_leastTerms : List pm_Op := [
  pm_iload 0,
  pm_callS 153 1,
  pm_iload 1,
  pm_callS 10 2,
  pm_istore 3,
  pm_iload 3,
  pm_ifne 9,
  pm_push (0),
  pm_iret,
  pm_iload 2,
  pm_ifeq 15,
  pm_iload 0,
  pm_iload 3,
  pm_idiv,
  pm_goto 18,
  pm_iload 1,
  pm_iload 3,
  pm_idiv,
  pm_iret]
set_option maxRecDepth 20000 in
set_option maxHeartbeats 4000000 in
theorem ms_X1_leastTerms : pm_MS 9 RX1 bp_X1_leastTerms co_X1_leastTerms := fun p l e R s m args below meth c cells slots Qm D cs ad sz d C hR => ⟨
  pm_s_iload_n C (n := 0) (by decide +kernel) rfl rfl,
  pm_s_callS C hR (n := 87) (by decide +kernel) pm_ml_X1_87 pm_ss153 pm_in_J9 pm_cw153 pm_q153 (by decide) rfl,
  pm_s_iload_n C (n := 1) (by decide +kernel) rfl rfl,
  pm_s_callS C hR (n := 90) (by decide +kernel) pm_ml_X1_90 pm_ss10 pm_in_X1 pm_cw10 pm_q10 (by decide) rfl,
  pm_s_istore_n C (n := 3) (by decide +kernel) rfl rfl,
  pm_s_iload_n C (n := 3) (by decide +kernel) rfl rfl,
  pm_s_ifne C (off := 5) (by decide +kernel) (by decide +kernel) rfl,
  pm_s_iconst C (n := 0) (by decide +kernel) rfl rfl,
  pm_s_iret (by decide +kernel) rfl,
  pm_s_iload_n C (n := 2) (by decide +kernel) rfl rfl,
  pm_s_ifeq C (off := 9) (by decide +kernel) (by decide +kernel) rfl,
  pm_s_iload_n C (n := 0) (by decide +kernel) rfl rfl,
  pm_s_iload_n C (n := 3) (by decide +kernel) rfl rfl,
  pm_s_idiv C (by decide +kernel) rfl,
  pm_s_goto C (off := 6) (by decide +kernel) (by decide +kernel),
  pm_s_iload_n C (n := 1) (by decide +kernel) rfl rfl,
  pm_s_iload_n C (n := 3) (by decide +kernel) rfl rfl,
  pm_s_idiv C (by decide +kernel) rfl,
  pm_s_iret (by decide +kernel) rfl,
  trivial⟩
def bp_X1_greatestDivisor : List Nat := [0, 1, 2, 3, 5, 8, 9, 12, 13, 14, 15, 16, 17, 18, 19, 20, 23, 26, 27]
def co_X1_greatestDivisor : List pm_Op := [
  pm_push (0),
  pm_istore 2,
  pm_iload 2,
  pm_push (64),
  pm_cmpge 17,
  pm_iload 1,
  pm_ifeq 17,
  pm_iload 0,
  pm_iload 1,
  pm_irem,
  pm_istore 3,
  pm_iload 1,
  pm_istore 0,
  pm_iload 3,
  pm_istore 1,
  pm_iinc 2 (1),
  pm_goto 2,
  pm_iload 0,
  pm_iret]
set_option maxRecDepth 20000 in
set_option maxHeartbeats 4000000 in
theorem ms_X1_greatestDivisor : pm_MS 10 RX1 bp_X1_greatestDivisor co_X1_greatestDivisor := fun p l e R s m args below meth c cells slots Qm D cs ad sz d C hR => ⟨
  pm_s_iconst C (n := 0) (by decide +kernel) rfl rfl,
  pm_s_istore_n C (n := 2) (by decide +kernel) rfl rfl,
  pm_s_iload_n C (n := 2) (by decide +kernel) rfl rfl,
  pm_s_bipush C (n := 64) (by decide +kernel) rfl rfl,
  pm_s_cmpge C (off := 21) (by decide +kernel) (by decide +kernel) rfl,
  pm_s_iload_n C (n := 1) (by decide +kernel) rfl rfl,
  pm_s_ifeq C (off := 17) (by decide +kernel) (by decide +kernel) rfl,
  pm_s_iload_n C (n := 0) (by decide +kernel) rfl rfl,
  pm_s_iload_n C (n := 1) (by decide +kernel) rfl rfl,
  pm_s_irem C (by decide +kernel) rfl,
  pm_s_istore_n C (n := 3) (by decide +kernel) rfl rfl,
  pm_s_iload_n C (n := 1) (by decide +kernel) rfl rfl,
  pm_s_istore_n C (n := 0) (by decide +kernel) rfl rfl,
  pm_s_iload_n C (n := 3) (by decide +kernel) rfl rfl,
  pm_s_istore_n C (n := 1) (by decide +kernel) rfl rfl,
  pm_s_iinc C (n := 1) (by decide +kernel) rfl rfl,
  pm_s_goto C (off := -21) (by decide +kernel) (by decide +kernel),
  pm_s_iload_n C (n := 0) (by decide +kernel) rfl rfl,
  pm_s_iret (by decide +kernel) rfl,
  trivial⟩
def bp_X3_trialFrom : List Nat := [0, 1, 4, 5, 6, 7, 10, 11, 14, 15, 16]
def co_X3_trialFrom : List pm_Op := [
  pm_aload 0,
  pm_getf 3 1,
  pm_push (0),
  pm_aald,
  pm_aload 1,
  pm_callV 4 27 2,
  pm_aload 0,
  pm_getf 3 1,
  pm_push (0),
  pm_aald,
  pm_aret]
set_option maxRecDepth 20000 in
set_option maxHeartbeats 4000000 in
theorem ms_X3_trialFrom : pm_MS 16 RX3 bp_X3_trialFrom co_X3_trialFrom := fun p l e R s m args below meth c cells slots Qm D cs ad sz d C hR => ⟨
  pm_s_aload_n C (n := 0) (by decide +kernel) rfl rfl,
  pm_s_getf C (n := 13) (ci := 3) rfl rfl wiX3 (by decide) (by decide +kernel) pm_fl_X3_13 rfl,
  pm_s_iconst C (n := 0) (by decide +kernel) rfl rfl,
  pm_s_aald C (by decide +kernel) rfl,
  pm_s_aload_n C (n := 1) (by decide +kernel) rfl rfl,
  pm_s_callV C hR (n := 22) (ci := 4) rfl (by decide +kernel) pm_ml_X3_22 pm_im27 pm_se27 pm_in_X4 pm_cw27 pm_q27 (by decide) rfl,
  pm_s_aload_n C (n := 0) (by decide +kernel) rfl rfl,
  pm_s_getf C (n := 13) (ci := 3) rfl rfl wiX3 (by decide) (by decide +kernel) pm_fl_X3_13 rfl,
  pm_s_iconst C (n := 0) (by decide +kernel) rfl rfl,
  pm_s_aald C (by decide +kernel) rfl,
  pm_s_aret (n := "LeafTable$Seats") (by decide +kernel) rfl,
  trivial⟩
def bp_X3_planPasses : List Nat := [0, 1, 2, 5, 6, 9, 10, 11, 14, 15, 16, 19, 20, 21, 22, 23, 26]
def co_X3_planPasses : List pm_Op := [
  pm_aload 0,
  pm_aload 1,
  pm_callV 3 16 2,
  pm_iload 2,
  pm_putf 4 4,
  pm_aload 0,
  pm_push (-1),
  pm_putf 3 2,
  pm_aload 0,
  pm_push (0),
  pm_putf 3 3,
  pm_aload 0,
  pm_push (0),
  pm_push (0),
  pm_iload 3,
  pm_callS 18 4,
  pm_vret]
set_option maxRecDepth 20000 in
set_option maxHeartbeats 4000000 in
theorem ms_X3_planPasses : pm_MS 17 RX3 bp_X3_planPasses co_X3_planPasses := fun p l e R s m args below meth c cells slots Qm D cs ad sz d C hR => ⟨
  pm_s_aload_n C (n := 0) (by decide +kernel) rfl rfl,
  pm_s_aload_n C (n := 1) (by decide +kernel) rfl rfl,
  pm_s_callV C hR (n := 26) (ci := 3) rfl (by decide +kernel) pm_ml_X3_26 pm_im16 pm_se16 pm_in_X3 pm_cw16 pm_q16 (by decide) rfl,
  pm_s_iload_n C (n := 2) (by decide +kernel) rfl rfl,
  pm_s_putfN C (n := 30) (ci := 4) rfl rfl wiX4 (by decide) tyX4 tyX4_ok nmX4 rfl (by decide +kernel) (by decide +kernel) pm_fn_X3_30 rfl,
  pm_s_aload_n C (n := 0) (by decide +kernel) rfl rfl,
  pm_s_iconst C (n := -1) (by decide +kernel) rfl rfl,
  pm_s_putf C (n := 34) (ci := 3) rfl rfl wiX3 (by decide) tyX3 tyX3_ok nmX3 rfl (by decide +kernel) (by decide +kernel) pm_fl_X3_34 rfl,
  pm_s_aload_n C (n := 0) (by decide +kernel) rfl rfl,
  pm_s_iconst C (n := 0) (by decide +kernel) rfl rfl,
  pm_s_putf C (n := 37) (ci := 3) rfl rfl wiX3 (by decide) tyX3 tyX3_ok nmX3 rfl (by decide +kernel) (by decide +kernel) pm_fl_X3_37 rfl,
  pm_s_aload_n C (n := 0) (by decide +kernel) rfl rfl,
  pm_s_iconst C (n := 0) (by decide +kernel) rfl rfl,
  pm_s_iconst C (n := 0) (by decide +kernel) rfl rfl,
  pm_s_iload_n C (n := 3) (by decide +kernel) rfl rfl,
  pm_s_callS C hR (n := 40) (by decide +kernel) pm_ml_X3_40 pm_ss18 pm_in_X3 pm_cw18 pm_q18 (by decide) rfl,
  pm_s_vret (by decide +kernel) rfl,
  trivial⟩
def bp_X3_tryPasses : List Nat := [0, 1, 4, 5, 6, 9, 10, 11, 14, 15, 16, 18, 19, 21, 24, 27, 28, 31, 32, 33, 36, 37, 38, 41, 42, 43, 44, 45, 47, 48, 50, 52, 53, 56, 59, 62, 63, 65, 66, 67, 68, 69, 72, 74, 76, 79, 80, 83, 85, 87, 90, 91, 92, 93, 94, 95, 97, 98, 100, 101, 102, 103, 104, 105, 107, 108, 109, 110, 111, 114, 117, 120]
def co_X3_tryPasses : List pm_Op := [
  pm_iload 1,
  pm_iflt 5,
  pm_iload 1,
  pm_push (5),
  pm_cmple 6,
  pm_vret,
  pm_aload 0,
  pm_getf 3 1,
  pm_iload 1,
  pm_aald,
  pm_astore 4,
  pm_aload 0,
  pm_aload 4,
  pm_getf 4 4,
  pm_callS 151 1,
  pm_iload 2,
  pm_callV 3 19 3,
  pm_iload 1,
  pm_push (5),
  pm_cmpne 21,
  pm_vret,
  pm_aload 0,
  pm_getf 3 1,
  pm_iload 1,
  pm_push (1),
  pm_bin (fun x y => x + y),
  pm_aald,
  pm_astore 5,
  pm_push (0),
  pm_istore 6,
  pm_iload 6,
  pm_aload 0,
  pm_getf 3 0,
  pm_getf 5 3,
  pm_cmpge 71,
  pm_iload 3,
  pm_iload 6,
  pm_bin (fun x y => x >>> (y &&& 31)),
  pm_push (1),
  pm_bin (fun x y => x &&& y),
  pm_push (1),
  pm_cmpne 69,
  pm_aload 5,
  pm_aload 4,
  pm_callV 4 27 2,
  pm_aload 0,
  pm_getf 3 0,
  pm_aload 5,
  pm_iload 6,
  pm_callV 5 35 3,
  pm_aload 0,
  pm_iload 1,
  pm_push (1),
  pm_bin (fun x y => x + y),
  pm_iload 2,
  pm_push (10),
  pm_bin (fun x y => x * y),
  pm_iload 6,
  pm_bin (fun x y => x + y),
  pm_push (1),
  pm_bin (fun x y => x + y),
  pm_iload 3,
  pm_push (1),
  pm_iload 6,
  pm_bin (fun x y => x <<< (y &&& 31)),
  pm_push (-1),
  pm_bin (fun x y => x ^^^ y),
  pm_bin (fun x y => x &&& y),
  pm_callS 18 4,
  pm_iinc 6 (1),
  pm_goto 30,
  pm_vret]
set_option maxRecDepth 20000 in
set_option maxHeartbeats 4000000 in
theorem ms_X3_tryPasses : pm_MS 18 RX3 bp_X3_tryPasses co_X3_tryPasses := fun p l e R s m args below meth c cells slots Qm D cs ad sz d C hR => ⟨
  pm_s_iload_n C (n := 1) (by decide +kernel) rfl rfl,
  pm_s_iflt C (off := 8) (by decide +kernel) (by decide +kernel) rfl,
  pm_s_iload_n C (n := 1) (by decide +kernel) rfl rfl,
  pm_s_iconst C (n := 5) (by decide +kernel) rfl rfl,
  pm_s_cmple C (off := 4) (by decide +kernel) (by decide +kernel) rfl,
  pm_s_vret (by decide +kernel) rfl,
  pm_s_aload_n C (n := 0) (by decide +kernel) rfl rfl,
  pm_s_getf C (n := 13) (ci := 3) rfl rfl wiX3 (by decide) (by decide +kernel) pm_fl_X3_13 rfl,
  pm_s_iload_n C (n := 1) (by decide +kernel) rfl rfl,
  pm_s_aald C (by decide +kernel) rfl,
  pm_s_astore C (by decide +kernel) rfl,
  pm_s_aload_n C (n := 0) (by decide +kernel) rfl rfl,
  pm_s_aload C (by decide +kernel) rfl,
  pm_s_getfN C (n := 30) (ci := 4) rfl rfl wiX4 (by decide) (by decide +kernel) pm_fn_X3_30 rfl,
  pm_s_callS C hR (n := 44) (by decide +kernel) pm_ml_X3_44 pm_ss151 pm_in_J6 pm_cw151 pm_q151 (by decide) rfl,
  pm_s_iload_n C (n := 2) (by decide +kernel) rfl rfl,
  pm_s_callV C hR (n := 50) (ci := 3) rfl (by decide +kernel) pm_ml_X3_50 pm_im19 pm_se19 pm_in_X3 pm_cw19 pm_q19 (by decide) rfl,
  pm_s_iload_n C (n := 1) (by decide +kernel) rfl rfl,
  pm_s_iconst C (n := 5) (by decide +kernel) rfl rfl,
  pm_s_cmpne C (off := 4) (by decide +kernel) (by decide +kernel) rfl,
  pm_s_vret (by decide +kernel) rfl,
  pm_s_aload_n C (n := 0) (by decide +kernel) rfl rfl,
  pm_s_getf C (n := 13) (ci := 3) rfl rfl wiX3 (by decide) (by decide +kernel) pm_fl_X3_13 rfl,
  pm_s_iload_n C (n := 1) (by decide +kernel) rfl rfl,
  pm_s_iconst C (n := 1) (by decide +kernel) rfl rfl,
  pm_s_iadd C (by decide +kernel) rfl,
  pm_s_aald C (by decide +kernel) rfl,
  pm_s_astore C (by decide +kernel) rfl,
  pm_s_iconst C (n := 0) (by decide +kernel) rfl rfl,
  pm_s_istore C (by decide +kernel) rfl,
  pm_s_iload C (by decide +kernel) rfl,
  pm_s_aload_n C (n := 0) (by decide +kernel) rfl rfl,
  pm_s_getf C (n := 17) (ci := 3) rfl rfl wiX3 (by decide) (by decide +kernel) pm_fl_X3_17 rfl,
  pm_s_getfN C (n := 54) (ci := 5) rfl rfl wiX5 (by decide) (by decide +kernel) pm_fn_X3_54 rfl,
  pm_s_cmpge C (off := 61) (by decide +kernel) (by decide +kernel) rfl,
  pm_s_iload_n C (n := 3) (by decide +kernel) rfl rfl,
  pm_s_iload C (by decide +kernel) rfl,
  pm_s_ishr C (by decide +kernel) rfl,
  pm_s_iconst C (n := 1) (by decide +kernel) rfl rfl,
  pm_s_iand C (by decide +kernel) rfl,
  pm_s_iconst C (n := 1) (by decide +kernel) rfl rfl,
  pm_s_cmpne C (off := 45) (by decide +kernel) (by decide +kernel) rfl,
  pm_s_aload C (by decide +kernel) rfl,
  pm_s_aload C (by decide +kernel) rfl,
  pm_s_callV C hR (n := 22) (ci := 4) rfl (by decide +kernel) pm_ml_X3_22 pm_im27 pm_se27 pm_in_X4 pm_cw27 pm_q27 (by decide) rfl,
  pm_s_aload_n C (n := 0) (by decide +kernel) rfl rfl,
  pm_s_getf C (n := 17) (ci := 3) rfl rfl wiX3 (by decide) (by decide +kernel) pm_fl_X3_17 rfl,
  pm_s_aload C (by decide +kernel) rfl,
  pm_s_iload C (by decide +kernel) rfl,
  pm_s_callV C hR (n := 59) (ci := 5) rfl (by decide +kernel) pm_ml_X3_59 pm_im35 pm_se35 pm_in_X5 pm_cw35 pm_q35 (by decide) rfl,
  pm_s_aload_n C (n := 0) (by decide +kernel) rfl rfl,
  pm_s_iload_n C (n := 1) (by decide +kernel) rfl rfl,
  pm_s_iconst C (n := 1) (by decide +kernel) rfl rfl,
  pm_s_iadd C (by decide +kernel) rfl,
  pm_s_iload_n C (n := 2) (by decide +kernel) rfl rfl,
  pm_s_bipush C (n := 10) (by decide +kernel) rfl rfl,
  pm_s_imul C (by decide +kernel) rfl,
  pm_s_iload C (by decide +kernel) rfl,
  pm_s_iadd C (by decide +kernel) rfl,
  pm_s_iconst C (n := 1) (by decide +kernel) rfl rfl,
  pm_s_iadd C (by decide +kernel) rfl,
  pm_s_iload_n C (n := 3) (by decide +kernel) rfl rfl,
  pm_s_iconst C (n := 1) (by decide +kernel) rfl rfl,
  pm_s_iload C (by decide +kernel) rfl,
  pm_s_ishl C (by decide +kernel) rfl,
  pm_s_iconst C (n := -1) (by decide +kernel) rfl rfl,
  pm_s_ixor C (by decide +kernel) rfl,
  pm_s_iand C (by decide +kernel) rfl,
  pm_s_callS C hR (n := 40) (by decide +kernel) pm_ml_X3_40 pm_ss18 pm_in_X3 pm_cw18 pm_q18 (by decide) rfl,
  pm_s_iinc C (n := 1) (by decide +kernel) rfl rfl,
  pm_s_goto C (off := -67) (by decide +kernel) (by decide +kernel),
  pm_s_vret (by decide +kernel) rfl,
  trivial⟩
def bp_X3_takePasses : List Nat := [0, 1, 2, 5, 8, 9, 10, 13, 16, 17, 18, 21, 24, 25, 26, 29, 30, 31, 34]
def co_X3_takePasses : List pm_Op := [
  pm_iload 1,
  pm_aload 0,
  pm_getf 3 2,
  pm_cmpgt 12,
  pm_iload 1,
  pm_aload 0,
  pm_getf 3 2,
  pm_cmpne 18,
  pm_iload 2,
  pm_aload 0,
  pm_getf 3 3,
  pm_cmpge 18,
  pm_aload 0,
  pm_iload 1,
  pm_putf 3 2,
  pm_aload 0,
  pm_iload 2,
  pm_putf 3 3,
  pm_vret]
set_option maxRecDepth 20000 in
set_option maxHeartbeats 4000000 in
theorem ms_X3_takePasses : pm_MS 19 RX3 bp_X3_takePasses co_X3_takePasses := fun p l e R s m args below meth c cells slots Qm D cs ad sz d C hR => ⟨
  pm_s_iload_n C (n := 1) (by decide +kernel) rfl rfl,
  pm_s_aload_n C (n := 0) (by decide +kernel) rfl rfl,
  pm_s_getf C (n := 34) (ci := 3) rfl rfl wiX3 (by decide) (by decide +kernel) pm_fl_X3_34 rfl,
  pm_s_cmpgt C (off := 19) (by decide +kernel) (by decide +kernel) rfl,
  pm_s_iload_n C (n := 1) (by decide +kernel) rfl rfl,
  pm_s_aload_n C (n := 0) (by decide +kernel) rfl rfl,
  pm_s_getf C (n := 34) (ci := 3) rfl rfl wiX3 (by decide) (by decide +kernel) pm_fl_X3_34 rfl,
  pm_s_cmpne C (off := 21) (by decide +kernel) (by decide +kernel) rfl,
  pm_s_iload_n C (n := 2) (by decide +kernel) rfl rfl,
  pm_s_aload_n C (n := 0) (by decide +kernel) rfl rfl,
  pm_s_getf C (n := 37) (ci := 3) rfl rfl wiX3 (by decide) (by decide +kernel) pm_fl_X3_37 rfl,
  pm_s_cmpge C (off := 13) (by decide +kernel) (by decide +kernel) rfl,
  pm_s_aload_n C (n := 0) (by decide +kernel) rfl rfl,
  pm_s_iload_n C (n := 1) (by decide +kernel) rfl rfl,
  pm_s_putf C (n := 34) (ci := 3) rfl rfl wiX3 (by decide) tyX3 tyX3_ok nmX3 rfl (by decide +kernel) (by decide +kernel) pm_fl_X3_34 rfl,
  pm_s_aload_n C (n := 0) (by decide +kernel) rfl rfl,
  pm_s_iload_n C (n := 2) (by decide +kernel) rfl rfl,
  pm_s_putf C (n := 37) (ci := 3) rfl rfl wiX3 (by decide) tyX3 tyX3_ok nmX3 rfl (by decide +kernel) (by decide +kernel) pm_fl_X3_37 rfl,
  pm_s_vret (by decide +kernel) rfl,
  trivial⟩
def bp_X3_fewestSayings : List Nat := [0, 1, 2, 5, 6, 7, 8, 9, 10, 13, 14, 15, 16, 17, 18, 21, 23, 25, 27, 30, 32, 33, 36, 39, 41]
def co_X3_fewestSayings : List pm_Op := [
  pm_aload 0,
  pm_aload 1,
  pm_callV 3 16 2,
  pm_pop,
  pm_push (0),
  pm_istore 3,
  pm_iload 3,
  pm_push (4),
  pm_cmpgt 23,
  pm_aload 0,
  pm_push (0),
  pm_iload 3,
  pm_push (0),
  pm_iload 2,
  pm_callS 21 5,
  pm_istore 4,
  pm_iload 4,
  pm_push (-9),
  pm_cmpeq 21,
  pm_iload 4,
  pm_iret,
  pm_iinc 3 (1),
  pm_goto 6,
  pm_push (-9),
  pm_iret]
set_option maxRecDepth 20000 in
set_option maxHeartbeats 4000000 in
theorem ms_X3_fewestSayings : pm_MS 20 RX3 bp_X3_fewestSayings co_X3_fewestSayings := fun p l e R s m args below meth c cells slots Qm D cs ad sz d C hR => ⟨
  pm_s_aload_n C (n := 0) (by decide +kernel) rfl rfl,
  pm_s_aload_n C (n := 1) (by decide +kernel) rfl rfl,
  pm_s_callV C hR (n := 26) (ci := 3) rfl (by decide +kernel) pm_ml_X3_26 pm_im16 pm_se16 pm_in_X3 pm_cw16 pm_q16 (by decide) rfl,
  pm_s_pop C (by decide +kernel) rfl,
  pm_s_iconst C (n := 0) (by decide +kernel) rfl rfl,
  pm_s_istore_n C (n := 3) (by decide +kernel) rfl rfl,
  pm_s_iload_n C (n := 3) (by decide +kernel) rfl rfl,
  pm_s_iconst C (n := 4) (by decide +kernel) rfl rfl,
  pm_s_cmpgt C (off := 29) (by decide +kernel) (by decide +kernel) rfl,
  pm_s_aload_n C (n := 0) (by decide +kernel) rfl rfl,
  pm_s_iconst C (n := 0) (by decide +kernel) rfl rfl,
  pm_s_iload_n C (n := 3) (by decide +kernel) rfl rfl,
  pm_s_iconst C (n := 0) (by decide +kernel) rfl rfl,
  pm_s_iload_n C (n := 2) (by decide +kernel) rfl rfl,
  pm_s_callS C hR (n := 63) (by decide +kernel) pm_ml_X3_63 pm_ss21 pm_in_X3 pm_cw21 pm_q21 (by decide) rfl,
  pm_s_istore C (by decide +kernel) rfl,
  pm_s_iload C (by decide +kernel) rfl,
  pm_s_bipush C (n := -9) (by decide +kernel) rfl rfl,
  pm_s_cmpeq C (off := 6) (by decide +kernel) (by decide +kernel) rfl,
  pm_s_iload C (by decide +kernel) rfl,
  pm_s_iret (by decide +kernel) rfl,
  pm_s_iinc C (n := 1) (by decide +kernel) rfl rfl,
  pm_s_goto C (off := -28) (by decide +kernel) (by decide +kernel),
  pm_s_bipush C (n := -9) (by decide +kernel) rfl rfl,
  pm_s_iret (by decide +kernel) rfl,
  trivial⟩
def bp_X3_trySayings : List Nat := [0, 1, 4, 5, 6, 9, 11, 12, 13, 16, 17, 18, 20, 21, 22, 25, 26, 27, 30, 31, 33, 35, 38, 41, 42, 45, 47, 48, 49, 52, 53, 54, 55, 56, 58, 59, 61, 63, 64, 67, 70, 73, 75, 77, 80, 81, 84, 86, 88, 91, 94, 95, 96, 97, 98, 99, 100, 102, 103, 105, 106, 107, 108, 110, 113, 115, 117, 119, 122, 124, 125, 128, 131, 133]
def co_X3_trySayings : List pm_Op := [
  pm_iload 1,
  pm_iflt 5,
  pm_iload 1,
  pm_push (5),
  pm_cmple 7,
  pm_push (-9),
  pm_iret,
  pm_aload 0,
  pm_getf 3 1,
  pm_iload 1,
  pm_aald,
  pm_astore 5,
  pm_iload 1,
  pm_iload 2,
  pm_cmpge 18,
  pm_iload 1,
  pm_push (5),
  pm_cmpne 27,
  pm_aload 0,
  pm_aload 5,
  pm_iload 4,
  pm_callV 3 22 3,
  pm_ifeq 25,
  pm_iload 3,
  pm_goto 26,
  pm_push (-9),
  pm_iret,
  pm_aload 0,
  pm_getf 3 1,
  pm_iload 1,
  pm_push (1),
  pm_bin (fun x y => x + y),
  pm_aald,
  pm_astore 6,
  pm_push (0),
  pm_istore 7,
  pm_iload 7,
  pm_aload 0,
  pm_getf 3 0,
  pm_getf 5 3,
  pm_cmpge 72,
  pm_aload 6,
  pm_aload 5,
  pm_callV 4 27 2,
  pm_aload 0,
  pm_getf 3 0,
  pm_aload 6,
  pm_iload 7,
  pm_callV 5 34 3,
  pm_ifeq 70,
  pm_aload 0,
  pm_iload 1,
  pm_push (1),
  pm_bin (fun x y => x + y),
  pm_iload 2,
  pm_iload 3,
  pm_push (10),
  pm_bin (fun x y => x * y),
  pm_iload 7,
  pm_bin (fun x y => x + y),
  pm_push (1),
  pm_bin (fun x y => x + y),
  pm_iload 4,
  pm_callS 21 5,
  pm_istore 8,
  pm_iload 8,
  pm_push (-9),
  pm_cmpeq 70,
  pm_iload 8,
  pm_iret,
  pm_iinc 7 (1),
  pm_goto 36,
  pm_push (-9),
  pm_iret]
set_option maxRecDepth 20000 in
set_option maxHeartbeats 4000000 in
theorem ms_X3_trySayings : pm_MS 21 RX3 bp_X3_trySayings co_X3_trySayings := fun p l e R s m args below meth c cells slots Qm D cs ad sz d C hR => ⟨
  pm_s_iload_n C (n := 1) (by decide +kernel) rfl rfl,
  pm_s_iflt C (off := 8) (by decide +kernel) (by decide +kernel) rfl,
  pm_s_iload_n C (n := 1) (by decide +kernel) rfl rfl,
  pm_s_iconst C (n := 5) (by decide +kernel) rfl rfl,
  pm_s_cmple C (off := 6) (by decide +kernel) (by decide +kernel) rfl,
  pm_s_bipush C (n := -9) (by decide +kernel) rfl rfl,
  pm_s_iret (by decide +kernel) rfl,
  pm_s_aload_n C (n := 0) (by decide +kernel) rfl rfl,
  pm_s_getf C (n := 13) (ci := 3) rfl rfl wiX3 (by decide) (by decide +kernel) pm_fl_X3_13 rfl,
  pm_s_iload_n C (n := 1) (by decide +kernel) rfl rfl,
  pm_s_aald C (by decide +kernel) rfl,
  pm_s_astore C (by decide +kernel) rfl,
  pm_s_iload_n C (n := 1) (by decide +kernel) rfl rfl,
  pm_s_iload_n C (n := 2) (by decide +kernel) rfl rfl,
  pm_s_cmpge C (off := 8) (by decide +kernel) (by decide +kernel) rfl,
  pm_s_iload_n C (n := 1) (by decide +kernel) rfl rfl,
  pm_s_iconst C (n := 5) (by decide +kernel) rfl rfl,
  pm_s_cmpne C (off := 21) (by decide +kernel) (by decide +kernel) rfl,
  pm_s_aload_n C (n := 0) (by decide +kernel) rfl rfl,
  pm_s_aload C (by decide +kernel) rfl,
  pm_s_iload C (by decide +kernel) rfl,
  pm_s_callV C hR (n := 67) (ci := 3) rfl (by decide +kernel) pm_ml_X3_67 pm_im22 pm_se22 pm_in_X3 pm_cw22 pm_q22 (by decide) rfl,
  pm_s_ifeq C (off := 7) (by decide +kernel) (by decide +kernel) rfl,
  pm_s_iload_n C (n := 3) (by decide +kernel) rfl rfl,
  pm_s_goto C (off := 5) (by decide +kernel) (by decide +kernel),
  pm_s_bipush C (n := -9) (by decide +kernel) rfl rfl,
  pm_s_iret (by decide +kernel) rfl,
  pm_s_aload_n C (n := 0) (by decide +kernel) rfl rfl,
  pm_s_getf C (n := 13) (ci := 3) rfl rfl wiX3 (by decide) (by decide +kernel) pm_fl_X3_13 rfl,
  pm_s_iload_n C (n := 1) (by decide +kernel) rfl rfl,
  pm_s_iconst C (n := 1) (by decide +kernel) rfl rfl,
  pm_s_iadd C (by decide +kernel) rfl,
  pm_s_aald C (by decide +kernel) rfl,
  pm_s_astore C (by decide +kernel) rfl,
  pm_s_iconst C (n := 0) (by decide +kernel) rfl rfl,
  pm_s_istore C (by decide +kernel) rfl,
  pm_s_iload C (by decide +kernel) rfl,
  pm_s_aload_n C (n := 0) (by decide +kernel) rfl rfl,
  pm_s_getf C (n := 17) (ci := 3) rfl rfl wiX3 (by decide) (by decide +kernel) pm_fl_X3_17 rfl,
  pm_s_getfN C (n := 54) (ci := 5) rfl rfl wiX5 (by decide) (by decide +kernel) pm_fn_X3_54 rfl,
  pm_s_cmpge C (off := 61) (by decide +kernel) (by decide +kernel) rfl,
  pm_s_aload C (by decide +kernel) rfl,
  pm_s_aload C (by decide +kernel) rfl,
  pm_s_callV C hR (n := 22) (ci := 4) rfl (by decide +kernel) pm_ml_X3_22 pm_im27 pm_se27 pm_in_X4 pm_cw27 pm_q27 (by decide) rfl,
  pm_s_aload_n C (n := 0) (by decide +kernel) rfl rfl,
  pm_s_getf C (n := 17) (ci := 3) rfl rfl wiX3 (by decide) (by decide +kernel) pm_fl_X3_17 rfl,
  pm_s_aload C (by decide +kernel) rfl,
  pm_s_iload C (by decide +kernel) rfl,
  pm_s_callV C hR (n := 71) (ci := 5) rfl (by decide +kernel) pm_ml_X3_71 pm_im34 pm_se34 pm_in_X5 pm_cw34 pm_q34 (by decide) rfl,
  pm_s_ifeq C (off := 34) (by decide +kernel) (by decide +kernel) rfl,
  pm_s_aload_n C (n := 0) (by decide +kernel) rfl rfl,
  pm_s_iload_n C (n := 1) (by decide +kernel) rfl rfl,
  pm_s_iconst C (n := 1) (by decide +kernel) rfl rfl,
  pm_s_iadd C (by decide +kernel) rfl,
  pm_s_iload_n C (n := 2) (by decide +kernel) rfl rfl,
  pm_s_iload_n C (n := 3) (by decide +kernel) rfl rfl,
  pm_s_bipush C (n := 10) (by decide +kernel) rfl rfl,
  pm_s_imul C (by decide +kernel) rfl,
  pm_s_iload C (by decide +kernel) rfl,
  pm_s_iadd C (by decide +kernel) rfl,
  pm_s_iconst C (n := 1) (by decide +kernel) rfl rfl,
  pm_s_iadd C (by decide +kernel) rfl,
  pm_s_iload C (by decide +kernel) rfl,
  pm_s_callS C hR (n := 63) (by decide +kernel) pm_ml_X3_63 pm_ss21 pm_in_X3 pm_cw21 pm_q21 (by decide) rfl,
  pm_s_istore C (by decide +kernel) rfl,
  pm_s_iload C (by decide +kernel) rfl,
  pm_s_bipush C (n := -9) (by decide +kernel) rfl rfl,
  pm_s_cmpeq C (off := 6) (by decide +kernel) (by decide +kernel) rfl,
  pm_s_iload C (by decide +kernel) rfl,
  pm_s_iret (by decide +kernel) rfl,
  pm_s_iinc C (n := 1) (by decide +kernel) rfl rfl,
  pm_s_goto C (off := -67) (by decide +kernel) (by decide +kernel),
  pm_s_bipush C (n := -9) (by decide +kernel) rfl rfl,
  pm_s_iret (by decide +kernel) rfl,
  trivial⟩
def bp_X3_isReached : List Nat := [0, 1, 4, 5, 8, 9, 12, 15, 16, 19, 20, 23, 24, 27, 28]
def co_X3_isReached : List pm_Op := [
  pm_iload 2,
  pm_ifne 7,
  pm_aload 0,
  pm_getf 3 0,
  pm_aload 1,
  pm_callV 5 38 2,
  pm_goto 14,
  pm_aload 1,
  pm_getf 4 1,
  pm_iload 2,
  pm_cmpne 13,
  pm_push (1),
  pm_goto 14,
  pm_push (0),
  pm_zret]
set_option maxRecDepth 20000 in
set_option maxHeartbeats 4000000 in
theorem ms_X3_isReached : pm_MS 22 RX3 bp_X3_isReached co_X3_isReached := fun p l e R s m args below meth c cells slots Qm D cs ad sz d C hR => ⟨
  pm_s_iload_n C (n := 2) (by decide +kernel) rfl rfl,
  pm_s_ifne C (off := 14) (by decide +kernel) (by decide +kernel) rfl,
  pm_s_aload_n C (n := 0) (by decide +kernel) rfl rfl,
  pm_s_getf C (n := 17) (ci := 3) rfl rfl wiX3 (by decide) (by decide +kernel) pm_fl_X3_17 rfl,
  pm_s_aload_n C (n := 1) (by decide +kernel) rfl rfl,
  pm_s_callV C hR (n := 74) (ci := 5) rfl (by decide +kernel) pm_ml_X3_74 pm_im38 pm_se38 pm_in_X5 pm_cw38 pm_q38 (by decide) rfl,
  pm_s_goto C (off := 16) (by decide +kernel) (by decide +kernel),
  pm_s_aload_n C (n := 1) (by decide +kernel) rfl rfl,
  pm_s_getfN C (n := 78) (ci := 4) rfl rfl wiX4 (by decide) (by decide +kernel) pm_fn_X3_78 rfl,
  pm_s_iload_n C (n := 2) (by decide +kernel) rfl rfl,
  pm_s_cmpne C (off := 7) (by decide +kernel) (by decide +kernel) rfl,
  pm_s_iconst C (n := 1) (by decide +kernel) rfl rfl,
  pm_s_goto C (off := 4) (by decide +kernel) (by decide +kernel),
  pm_s_iconst C (n := 0) (by decide +kernel) rfl rfl,
  pm_s_zret (by decide +kernel) rfl,
  trivial⟩
def bp_X3_firstWrong : List Nat := [0, 1, 2, 5, 7, 8, 10, 12, 13, 16, 17, 19, 20, 21, 23, 26, 29, 32, 34, 37, 40, 42, 43, 46, 49, 51]
def co_X3_firstWrong : List pm_Op := [
  pm_aload 0,
  pm_aload 1,
  pm_callV 3 16 2,
  pm_astore 4,
  pm_push (0),
  pm_istore 5,
  pm_iload 5,
  pm_iload 2,
  pm_cmpge 24,
  pm_aload 0,
  pm_aload 4,
  pm_iload 2,
  pm_iload 3,
  pm_iload 5,
  pm_callS 85 3,
  pm_callV 3 24 3,
  pm_ifeq 20,
  pm_aload 4,
  pm_getf 4 3,
  pm_ifne 22,
  pm_iload 5,
  pm_iret,
  pm_iinc 5 (1),
  pm_goto 6,
  pm_push (-9),
  pm_iret]
set_option maxRecDepth 20000 in
set_option maxHeartbeats 4000000 in
theorem ms_X3_firstWrong : pm_MS 23 RX3 bp_X3_firstWrong co_X3_firstWrong := fun p l e R s m args below meth c cells slots Qm D cs ad sz d C hR => ⟨
  pm_s_aload_n C (n := 0) (by decide +kernel) rfl rfl,
  pm_s_aload_n C (n := 1) (by decide +kernel) rfl rfl,
  pm_s_callV C hR (n := 26) (ci := 3) rfl (by decide +kernel) pm_ml_X3_26 pm_im16 pm_se16 pm_in_X3 pm_cw16 pm_q16 (by decide) rfl,
  pm_s_astore C (by decide +kernel) rfl,
  pm_s_iconst C (n := 0) (by decide +kernel) rfl rfl,
  pm_s_istore C (by decide +kernel) rfl,
  pm_s_iload C (by decide +kernel) rfl,
  pm_s_iload_n C (n := 2) (by decide +kernel) rfl rfl,
  pm_s_cmpge C (off := 36) (by decide +kernel) (by decide +kernel) rfl,
  pm_s_aload_n C (n := 0) (by decide +kernel) rfl rfl,
  pm_s_aload C (by decide +kernel) rfl,
  pm_s_iload_n C (n := 2) (by decide +kernel) rfl rfl,
  pm_s_iload_n C (n := 3) (by decide +kernel) rfl rfl,
  pm_s_iload C (by decide +kernel) rfl,
  pm_s_callSN C hR (n := 81) (by decide +kernel) pm_mn_X3_81 pm_ss85 pm_in_X7 pm_cw85 pm_q85 (by decide) rfl,
  pm_s_callV C hR (n := 85) (ci := 3) rfl (by decide +kernel) pm_ml_X3_85 pm_im24 pm_se24 pm_in_X3 pm_cw24 pm_q24 (by decide) rfl,
  pm_s_ifeq C (off := 11) (by decide +kernel) (by decide +kernel) rfl,
  pm_s_aload C (by decide +kernel) rfl,
  pm_s_getfN C (n := 88) (ci := 4) rfl rfl wiX4 (by decide) (by decide +kernel) pm_fn_X3_88 rfl,
  pm_s_ifne C (off := 6) (by decide +kernel) (by decide +kernel) rfl,
  pm_s_iload C (by decide +kernel) rfl,
  pm_s_iret (by decide +kernel) rfl,
  pm_s_iinc C (n := 1) (by decide +kernel) rfl rfl,
  pm_s_goto C (off := -36) (by decide +kernel) (by decide +kernel),
  pm_s_bipush C (n := -9) (by decide +kernel) rfl rfl,
  pm_s_iret (by decide +kernel) rfl,
  trivial⟩
def bp_X3_happens : List Nat := [0, 1, 2, 5, 6, 9, 10, 11, 14, 15, 16, 17, 20, 21, 24, 27, 30, 31, 34, 35, 36, 39, 40, 43, 46, 47, 48, 49, 51, 54, 55, 58, 59, 62, 63, 64, 65]
def co_X3_happens : List pm_Op := [
  pm_iload 2,
  pm_push (5),
  pm_cmpge 9,
  pm_aload 0,
  pm_getf 3 0,
  pm_aload 1,
  pm_iload 2,
  pm_callV 5 34 3,
  pm_zret,
  pm_iload 2,
  pm_push (5),
  pm_cmpne 26,
  pm_aload 0,
  pm_getf 3 0,
  pm_getf 5 3,
  pm_ifle 26,
  pm_aload 0,
  pm_getf 3 0,
  pm_aload 1,
  pm_aload 0,
  pm_getf 3 0,
  pm_aload 1,
  pm_callV 5 40 2,
  pm_callV 5 35 3,
  pm_push (1),
  pm_zret,
  pm_iload 2,
  pm_push (6),
  pm_cmpne 35,
  pm_aload 0,
  pm_getf 3 0,
  pm_aload 1,
  pm_callV 5 36 2,
  pm_push (1),
  pm_zret,
  pm_push (0),
  pm_zret]
set_option maxRecDepth 20000 in
set_option maxHeartbeats 4000000 in
theorem ms_X3_happens : pm_MS 24 RX3 bp_X3_happens co_X3_happens := fun p l e R s m args below meth c cells slots Qm D cs ad sz d C hR => ⟨
  pm_s_iload_n C (n := 2) (by decide +kernel) rfl rfl,
  pm_s_iconst C (n := 5) (by decide +kernel) rfl rfl,
  pm_s_cmpge C (off := 13) (by decide +kernel) (by decide +kernel) rfl,
  pm_s_aload_n C (n := 0) (by decide +kernel) rfl rfl,
  pm_s_getf C (n := 17) (ci := 3) rfl rfl wiX3 (by decide) (by decide +kernel) pm_fl_X3_17 rfl,
  pm_s_aload_n C (n := 1) (by decide +kernel) rfl rfl,
  pm_s_iload_n C (n := 2) (by decide +kernel) rfl rfl,
  pm_s_callV C hR (n := 71) (ci := 5) rfl (by decide +kernel) pm_ml_X3_71 pm_im34 pm_se34 pm_in_X5 pm_cw34 pm_q34 (by decide) rfl,
  pm_s_zret (by decide +kernel) rfl,
  pm_s_iload_n C (n := 2) (by decide +kernel) rfl rfl,
  pm_s_iconst C (n := 5) (by decide +kernel) rfl rfl,
  pm_s_cmpne C (off := 31) (by decide +kernel) (by decide +kernel) rfl,
  pm_s_aload_n C (n := 0) (by decide +kernel) rfl rfl,
  pm_s_getf C (n := 17) (ci := 3) rfl rfl wiX3 (by decide) (by decide +kernel) pm_fl_X3_17 rfl,
  pm_s_getfN C (n := 54) (ci := 5) rfl rfl wiX5 (by decide) (by decide +kernel) pm_fn_X3_54 rfl,
  pm_s_ifle C (off := 21) (by decide +kernel) (by decide +kernel) rfl,
  pm_s_aload_n C (n := 0) (by decide +kernel) rfl rfl,
  pm_s_getf C (n := 17) (ci := 3) rfl rfl wiX3 (by decide) (by decide +kernel) pm_fl_X3_17 rfl,
  pm_s_aload_n C (n := 1) (by decide +kernel) rfl rfl,
  pm_s_aload_n C (n := 0) (by decide +kernel) rfl rfl,
  pm_s_getf C (n := 17) (ci := 3) rfl rfl wiX3 (by decide) (by decide +kernel) pm_fl_X3_17 rfl,
  pm_s_aload_n C (n := 1) (by decide +kernel) rfl rfl,
  pm_s_callV C hR (n := 91) (ci := 5) rfl (by decide +kernel) pm_ml_X3_91 pm_im40 pm_se40 pm_in_X5 pm_cw40 pm_q40 (by decide) rfl,
  pm_s_callV C hR (n := 59) (ci := 5) rfl (by decide +kernel) pm_ml_X3_59 pm_im35 pm_se35 pm_in_X5 pm_cw35 pm_q35 (by decide) rfl,
  pm_s_iconst C (n := 1) (by decide +kernel) rfl rfl,
  pm_s_zret (by decide +kernel) rfl,
  pm_s_iload_n C (n := 2) (by decide +kernel) rfl rfl,
  pm_s_bipush C (n := 6) (by decide +kernel) rfl rfl,
  pm_s_cmpne C (off := 13) (by decide +kernel) (by decide +kernel) rfl,
  pm_s_aload_n C (n := 0) (by decide +kernel) rfl rfl,
  pm_s_getf C (n := 17) (ci := 3) rfl rfl wiX3 (by decide) (by decide +kernel) pm_fl_X3_17 rfl,
  pm_s_aload_n C (n := 1) (by decide +kernel) rfl rfl,
  pm_s_callV C hR (n := 95) (ci := 5) rfl (by decide +kernel) pm_ml_X3_95 pm_im36 pm_se36 pm_in_X5 pm_cw36 pm_q36 (by decide) rfl,
  pm_s_iconst C (n := 1) (by decide +kernel) rfl rfl,
  pm_s_zret (by decide +kernel) rfl,
  pm_s_iconst C (n := 0) (by decide +kernel) rfl rfl,
  pm_s_zret (by decide +kernel) rfl,
  trivial⟩
def bp_X3_lengthByTurns : List Nat := [0, 1, 2, 5, 6, 7, 8, 11, 12, 13, 14, 17]
def co_X3_lengthByTurns : List pm_Op := [
  pm_aload 0,
  pm_aload 1,
  pm_callV 3 16 2,
  pm_pop,
  pm_aload 0,
  pm_push (0),
  pm_putf 3 4,
  pm_aload 0,
  pm_push (0),
  pm_iload 2,
  pm_callS 26 3,
  pm_iret]
set_option maxRecDepth 20000 in
set_option maxHeartbeats 4000000 in
theorem ms_X3_lengthByTurns : pm_MS 25 RX3 bp_X3_lengthByTurns co_X3_lengthByTurns := fun p l e R s m args below meth c cells slots Qm D cs ad sz d C hR => ⟨
  pm_s_aload_n C (n := 0) (by decide +kernel) rfl rfl,
  pm_s_aload_n C (n := 1) (by decide +kernel) rfl rfl,
  pm_s_callV C hR (n := 26) (ci := 3) rfl (by decide +kernel) pm_ml_X3_26 pm_im16 pm_se16 pm_in_X3 pm_cw16 pm_q16 (by decide) rfl,
  pm_s_pop C (by decide +kernel) rfl,
  pm_s_aload_n C (n := 0) (by decide +kernel) rfl rfl,
  pm_s_iconst C (n := 0) (by decide +kernel) rfl rfl,
  pm_s_putf C (n := 98) (ci := 3) rfl rfl wiX3 (by decide) tyX3 tyX3_ok nmX3 rfl (by decide +kernel) (by decide +kernel) pm_fl_X3_98 rfl,
  pm_s_aload_n C (n := 0) (by decide +kernel) rfl rfl,
  pm_s_iconst C (n := 0) (by decide +kernel) rfl rfl,
  pm_s_iload_n C (n := 2) (by decide +kernel) rfl rfl,
  pm_s_callS C hR (n := 101) (by decide +kernel) pm_ml_X3_101 pm_ss26 pm_in_X3 pm_cw26 pm_q26 (by decide) rfl,
  pm_s_iret (by decide +kernel) rfl,
  trivial⟩
def bp_X3_tryTurn : List Nat := [0, 1, 4, 5, 6, 9, 11, 12, 13, 16, 17, 18, 19, 20, 21, 24, 25, 26, 29, 30, 33, 34, 35, 38, 39, 40, 41, 42, 44, 45, 46, 47, 50, 51, 54, 55, 57, 59, 61, 62, 64, 66, 67, 70, 73, 76, 78, 79, 82, 84, 87, 88, 91, 93, 95, 96, 97, 100, 103, 104, 105, 106, 107, 108, 111, 113, 115, 117, 120, 122, 125, 127, 129, 132, 135, 137, 139, 142, 144, 146, 147, 148, 151, 153, 156, 157, 160, 163, 166, 169, 171]
def co_X3_tryTurn : List pm_Op := [
  pm_iload 1,
  pm_iflt 5,
  pm_iload 1,
  pm_push (5),
  pm_cmple 7,
  pm_push (-9),
  pm_iret,
  pm_aload 0,
  pm_getf 3 1,
  pm_iload 1,
  pm_aald,
  pm_astore 3,
  pm_iload 1,
  pm_iload 2,
  pm_cmpge 18,
  pm_iload 1,
  pm_push (5),
  pm_cmpne 21,
  pm_aload 3,
  pm_getf 4 1,
  pm_iret,
  pm_aload 0,
  pm_getf 3 1,
  pm_iload 1,
  pm_push (1),
  pm_bin (fun x y => x + y),
  pm_aald,
  pm_astore 4,
  pm_iload 1,
  pm_push (2),
  pm_irem,
  pm_ifne 34,
  pm_push (1),
  pm_goto 35,
  pm_push (0),
  pm_istore 5,
  pm_push (-9),
  pm_istore 6,
  pm_push (0),
  pm_istore 7,
  pm_iload 7,
  pm_aload 0,
  pm_getf 3 0,
  pm_getf 5 3,
  pm_cmpgt 89,
  pm_aload 4,
  pm_aload 3,
  pm_callV 4 27 2,
  pm_iload 7,
  pm_ifeq 58,
  pm_aload 0,
  pm_getf 3 0,
  pm_aload 4,
  pm_iload 7,
  pm_push (1),
  pm_bin (fun x y => x - y),
  pm_callV 5 34 3,
  pm_ifeq 87,
  pm_aload 0,
  pm_iload 1,
  pm_push (1),
  pm_bin (fun x y => x + y),
  pm_iload 2,
  pm_callS 26 3,
  pm_istore 8,
  pm_iload 6,
  pm_push (-9),
  pm_cmpeq 77,
  pm_iload 5,
  pm_ifeq 74,
  pm_iload 8,
  pm_iload 6,
  pm_cmple 87,
  pm_goto 77,
  pm_iload 8,
  pm_iload 6,
  pm_cmpge 87,
  pm_iload 8,
  pm_istore 6,
  pm_aload 0,
  pm_iload 1,
  pm_ifne 84,
  pm_iload 7,
  pm_goto 86,
  pm_aload 0,
  pm_getf 3 4,
  pm_putf 3 4,
  pm_iinc 7 (1),
  pm_goto 40,
  pm_iload 6,
  pm_iret]
set_option maxRecDepth 20000 in
set_option maxHeartbeats 4000000 in
theorem ms_X3_tryTurn : pm_MS 26 RX3 bp_X3_tryTurn co_X3_tryTurn := fun p l e R s m args below meth c cells slots Qm D cs ad sz d C hR => ⟨
  pm_s_iload_n C (n := 1) (by decide +kernel) rfl rfl,
  pm_s_iflt C (off := 8) (by decide +kernel) (by decide +kernel) rfl,
  pm_s_iload_n C (n := 1) (by decide +kernel) rfl rfl,
  pm_s_iconst C (n := 5) (by decide +kernel) rfl rfl,
  pm_s_cmple C (off := 6) (by decide +kernel) (by decide +kernel) rfl,
  pm_s_bipush C (n := -9) (by decide +kernel) rfl rfl,
  pm_s_iret (by decide +kernel) rfl,
  pm_s_aload_n C (n := 0) (by decide +kernel) rfl rfl,
  pm_s_getf C (n := 13) (ci := 3) rfl rfl wiX3 (by decide) (by decide +kernel) pm_fl_X3_13 rfl,
  pm_s_iload_n C (n := 1) (by decide +kernel) rfl rfl,
  pm_s_aald C (by decide +kernel) rfl,
  pm_s_astore_n C (n := 3) (by decide +kernel) rfl rfl,
  pm_s_iload_n C (n := 1) (by decide +kernel) rfl rfl,
  pm_s_iload_n C (n := 2) (by decide +kernel) rfl rfl,
  pm_s_cmpge C (off := 8) (by decide +kernel) (by decide +kernel) rfl,
  pm_s_iload_n C (n := 1) (by decide +kernel) rfl rfl,
  pm_s_iconst C (n := 5) (by decide +kernel) rfl rfl,
  pm_s_cmpne C (off := 8) (by decide +kernel) (by decide +kernel) rfl,
  pm_s_aload_n C (n := 3) (by decide +kernel) rfl rfl,
  pm_s_getfN C (n := 78) (ci := 4) rfl rfl wiX4 (by decide) (by decide +kernel) pm_fn_X3_78 rfl,
  pm_s_iret (by decide +kernel) rfl,
  pm_s_aload_n C (n := 0) (by decide +kernel) rfl rfl,
  pm_s_getf C (n := 13) (ci := 3) rfl rfl wiX3 (by decide) (by decide +kernel) pm_fl_X3_13 rfl,
  pm_s_iload_n C (n := 1) (by decide +kernel) rfl rfl,
  pm_s_iconst C (n := 1) (by decide +kernel) rfl rfl,
  pm_s_iadd C (by decide +kernel) rfl,
  pm_s_aald C (by decide +kernel) rfl,
  pm_s_astore C (by decide +kernel) rfl,
  pm_s_iload_n C (n := 1) (by decide +kernel) rfl rfl,
  pm_s_iconst C (n := 2) (by decide +kernel) rfl rfl,
  pm_s_irem C (by decide +kernel) rfl,
  pm_s_ifne C (off := 7) (by decide +kernel) (by decide +kernel) rfl,
  pm_s_iconst C (n := 1) (by decide +kernel) rfl rfl,
  pm_s_goto C (off := 4) (by decide +kernel) (by decide +kernel),
  pm_s_iconst C (n := 0) (by decide +kernel) rfl rfl,
  pm_s_istore C (by decide +kernel) rfl,
  pm_s_bipush C (n := -9) (by decide +kernel) rfl rfl,
  pm_s_istore C (by decide +kernel) rfl,
  pm_s_iconst C (n := 0) (by decide +kernel) rfl rfl,
  pm_s_istore C (by decide +kernel) rfl,
  pm_s_iload C (by decide +kernel) rfl,
  pm_s_aload_n C (n := 0) (by decide +kernel) rfl rfl,
  pm_s_getf C (n := 17) (ci := 3) rfl rfl wiX3 (by decide) (by decide +kernel) pm_fl_X3_17 rfl,
  pm_s_getfN C (n := 54) (ci := 5) rfl rfl wiX5 (by decide) (by decide +kernel) pm_fn_X3_54 rfl,
  pm_s_cmpgt C (off := 96) (by decide +kernel) (by decide +kernel) rfl,
  pm_s_aload C (by decide +kernel) rfl,
  pm_s_aload_n C (n := 3) (by decide +kernel) rfl rfl,
  pm_s_callV C hR (n := 22) (ci := 4) rfl (by decide +kernel) pm_ml_X3_22 pm_im27 pm_se27 pm_in_X4 pm_cw27 pm_q27 (by decide) rfl,
  pm_s_iload C (by decide +kernel) rfl,
  pm_s_ifeq C (off := 19) (by decide +kernel) (by decide +kernel) rfl,
  pm_s_aload_n C (n := 0) (by decide +kernel) rfl rfl,
  pm_s_getf C (n := 17) (ci := 3) rfl rfl wiX3 (by decide) (by decide +kernel) pm_fl_X3_17 rfl,
  pm_s_aload C (by decide +kernel) rfl,
  pm_s_iload C (by decide +kernel) rfl,
  pm_s_iconst C (n := 1) (by decide +kernel) rfl rfl,
  pm_s_isub C (by decide +kernel) rfl,
  pm_s_callV C hR (n := 71) (ci := 5) rfl (by decide +kernel) pm_ml_X3_71 pm_im34 pm_se34 pm_in_X5 pm_cw34 pm_q34 (by decide) rfl,
  pm_s_ifeq C (off := 63) (by decide +kernel) (by decide +kernel) rfl,
  pm_s_aload_n C (n := 0) (by decide +kernel) rfl rfl,
  pm_s_iload_n C (n := 1) (by decide +kernel) rfl rfl,
  pm_s_iconst C (n := 1) (by decide +kernel) rfl rfl,
  pm_s_iadd C (by decide +kernel) rfl,
  pm_s_iload_n C (n := 2) (by decide +kernel) rfl rfl,
  pm_s_callS C hR (n := 101) (by decide +kernel) pm_ml_X3_101 pm_ss26 pm_in_X3 pm_cw26 pm_q26 (by decide) rfl,
  pm_s_istore C (by decide +kernel) rfl,
  pm_s_iload C (by decide +kernel) rfl,
  pm_s_bipush C (n := -9) (by decide +kernel) rfl rfl,
  pm_s_cmpeq C (off := 25) (by decide +kernel) (by decide +kernel) rfl,
  pm_s_iload C (by decide +kernel) rfl,
  pm_s_ifeq C (off := 13) (by decide +kernel) (by decide +kernel) rfl,
  pm_s_iload C (by decide +kernel) rfl,
  pm_s_iload C (by decide +kernel) rfl,
  pm_s_cmple C (off := 34) (by decide +kernel) (by decide +kernel) rfl,
  pm_s_goto C (off := 10) (by decide +kernel) (by decide +kernel),
  pm_s_iload C (by decide +kernel) rfl,
  pm_s_iload C (by decide +kernel) rfl,
  pm_s_cmpge C (off := 24) (by decide +kernel) (by decide +kernel) rfl,
  pm_s_iload C (by decide +kernel) rfl,
  pm_s_istore C (by decide +kernel) rfl,
  pm_s_aload_n C (n := 0) (by decide +kernel) rfl rfl,
  pm_s_iload_n C (n := 1) (by decide +kernel) rfl rfl,
  pm_s_ifne C (off := 8) (by decide +kernel) (by decide +kernel) rfl,
  pm_s_iload C (by decide +kernel) rfl,
  pm_s_goto C (off := 7) (by decide +kernel) (by decide +kernel),
  pm_s_aload_n C (n := 0) (by decide +kernel) rfl rfl,
  pm_s_getf C (n := 98) (ci := 3) rfl rfl wiX3 (by decide) (by decide +kernel) pm_fl_X3_98 rfl,
  pm_s_putf C (n := 98) (ci := 3) rfl rfl wiX3 (by decide) tyX3 tyX3_ok nmX3 rfl (by decide +kernel) (by decide +kernel) pm_fl_X3_98 rfl,
  pm_s_iinc C (n := 1) (by decide +kernel) rfl rfl,
  pm_s_goto C (off := -102) (by decide +kernel) (by decide +kernel),
  pm_s_iload C (by decide +kernel) rfl,
  pm_s_iret (by decide +kernel) rfl,
  trivial⟩
