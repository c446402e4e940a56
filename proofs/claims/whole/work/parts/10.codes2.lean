/-! ===== codes 2 ===== -/
set_option maxRecDepth 20000 in
theorem pm_fl_X2_18 : Cond.fieldLink RX2 18 "LeafTable$Dinners" "number" "I" ∈ wAll := wIn 175 rfl rfl
set_option maxRecDepth 20000 in
theorem pm_fl_X2_11 : Cond.fieldLink RX2 11 "LeafTable$Dinners" "spoke" "[I" ∈ wAll := wIn 173 rfl rfl
set_option maxRecDepth 20000 in
theorem pm_fl_X2_15 : Cond.fieldLink RX2 15 "LeafTable$Dinners" "more" "[I" ∈ wAll := wIn 174 rfl rfl
set_option maxRecDepth 20000 in
theorem pm_fl_X2_22 : Cond.fieldLink RX2 22 "LeafTable$Dinners" "lawsFound" "I" ∈ wAll := wIn 177 rfl rfl
set_option maxRecDepth 20000 in
theorem pm_fl_X2_25 : Cond.fieldLink RX2 25 "LeafTable$Dinners" "firstLaw" "I" ∈ wAll := wIn 179 rfl rfl
set_option maxRecDepth 20000 in
theorem pm_fl_X2_28 : Cond.fieldLink RX2 28 "LeafTable$Dinners" "sameKinds" "I" ∈ wAll := wIn 181 rfl rfl
set_option maxRecDepth 20000 in
theorem pm_ml_X2_31 : Cond.methodLink RX2 31 (pm_m 14).1 ∈ wAll := wIn 592 rfl rfl
set_option maxRecDepth 20000 in
theorem pm_q14 : (pm_m 14).1.cls ≠ "java/lang/invoke/MethodHandle" ∧ (pm_m 14).1.cls ≠ "java/lang/invoke/VarHandle" ∧ (parseMethodDescriptor (pm_m 14).1.desc).map (fun d => d.parameters.length) = some 1 := by decide +kernel
set_option maxRecDepth 20000 in
theorem pm_in_X2 : Cond.initialized RX2 ∈ wAll := wIn 50 rfl rfl
set_option maxRecDepth 20000 in
theorem pm_ss14 : Cond.static (pm_m 14).1 ∈ wAll := wIn 593 rfl rfl
set_option maxRecDepth 20000 in
theorem pm_ml_X2_35 : Cond.methodLink RX2 35 (pm_m 15).1 ∈ wAll := wIn 596 rfl rfl
set_option maxRecDepth 20000 in
theorem pm_q15 : (pm_m 15).1.cls ≠ "java/lang/invoke/MethodHandle" ∧ (pm_m 15).1.cls ≠ "java/lang/invoke/VarHandle" ∧ (parseMethodDescriptor (pm_m 15).1.desc).map (fun d => d.parameters.length) = some 1 := by decide +kernel
set_option maxRecDepth 20000 in
theorem pm_im15 : Cond.instanceMethod (pm_m 15).1 ∈ wAll := wIn 598 rfl rfl
set_option maxRecDepth 20000 in
theorem pm_se15 : Cond.selects RX2 (pm_m 15).1 (pm_m 15).1 ∈ wAll := wIn 14 rfl rfl
set_option maxRecDepth 20000 in
theorem pm_ml_X2_39 : Cond.methodLink RX2 39 (pm_m 13).1 ∈ wAll := wIn 601 rfl rfl
set_option maxRecDepth 20000 in
theorem pm_q13 : (pm_m 13).1.cls ≠ "java/lang/invoke/MethodHandle" ∧ (pm_m 13).1.cls ≠ "java/lang/invoke/VarHandle" ∧ (parseMethodDescriptor (pm_m 13).1.desc).map (fun d => d.parameters.length) = some 1 := by decide +kernel
set_option maxRecDepth 20000 in
theorem pm_im13 : Cond.instanceMethod (pm_m 13).1 ∈ wAll := wIn 603 rfl rfl
set_option maxRecDepth 20000 in
theorem pm_se13 : Cond.selects RX2 (pm_m 13).1 (pm_m 13).1 ∈ wAll := wIn 15 rfl rfl
set_option maxRecDepth 20000 in
theorem pm_mn_X2_43 : (RX2, 43, (pm_m 85).1, "LeafTable") ∈ pm_nM := List.mem_of_getElem? (i := 7) rfl
set_option maxRecDepth 20000 in
theorem pm_q85 : (pm_m 85).1.cls ≠ "java/lang/invoke/MethodHandle" ∧ (pm_m 85).1.cls ≠ "java/lang/invoke/VarHandle" ∧ (parseMethodDescriptor (pm_m 85).1.desc).map (fun d => d.parameters.length) = some 3 := by decide +kernel
set_option maxRecDepth 20000 in
theorem pm_in_X7 : Cond.initialized RX7 ∈ wAll := wIn 45 rfl rfl
set_option maxRecDepth 20000 in
theorem pm_ss85 : Cond.static (pm_m 85).1 ∈ wAll := wIn 510 rfl rfl
set_option maxRecDepth 20000 in
theorem pm_fn_X2_47 : (RX2, 47, "LeafTable", "TENS", "[I", "LeafTable") ∈ pm_nF := List.mem_of_getElem? (i := 36) rfl
set_option maxRecDepth 20000 in
theorem pm_ml_X5_28 : Cond.methodLink RX5 28 (pm_m 50).1 ∈ wAll := wIn 329 rfl rfl
set_option maxRecDepth 20000 in
theorem pm_fl_X5_21 : Cond.fieldLink RX5 21 "LeafTable$Table" "warm" "I" ∈ wAll := wIn 96 rfl rfl
set_option maxRecDepth 20000 in
theorem pm_fl_X5_25 : Cond.fieldLink RX5 25 "LeafTable$Table" "reach" "I" ∈ wAll := wIn 99 rfl rfl
set_option maxRecDepth 20000 in
theorem pm_ml_X5_34 : Cond.methodLink RX5 34 (pm_m 46).1 ∈ wAll := wIn 330 rfl rfl
set_option maxRecDepth 20000 in
theorem pm_q46 : (pm_m 46).1.cls ≠ "java/lang/invoke/MethodHandle" ∧ (pm_m 46).1.cls ≠ "java/lang/invoke/VarHandle" ∧ (parseMethodDescriptor (pm_m 46).1.desc).map (fun d => d.parameters.length) = some 0 := by decide +kernel
set_option maxRecDepth 20000 in
theorem pm_im46 : Cond.instanceMethod (pm_m 46).1 ∈ wAll := wIn 331 rfl rfl
set_option maxRecDepth 20000 in
theorem pm_se46 : Cond.selects RX6 (pm_m 46).1 (pm_m 46).1 ∈ wAll := wIn 332 rfl rfl
set_option maxRecDepth 20000 in
theorem pm_fl_X5_38 : Cond.fieldLink RX5 38 "LeafTable$Table" "number" "I" ∈ wAll := wIn 91 rfl rfl
set_option maxRecDepth 20000 in
theorem pm_fl_X5_9 : Cond.fieldLink RX5 9 "LeafTable$Table" "kinds" "[I" ∈ wAll := wIn 85 rfl rfl
set_option maxRecDepth 20000 in
theorem pm_ml_X5_41 : Cond.methodLink RX5 41 (pm_m 49).1 ∈ wAll := wIn 337 rfl rfl
set_option maxRecDepth 20000 in
theorem pm_q49 : (pm_m 49).1.cls ≠ "java/lang/invoke/MethodHandle" ∧ (pm_m 49).1.cls ≠ "java/lang/invoke/VarHandle" ∧ (parseMethodDescriptor (pm_m 49).1.desc).map (fun d => d.parameters.length) = some 2 := by decide +kernel
set_option maxRecDepth 20000 in
theorem pm_im49 : Cond.instanceMethod (pm_m 49).1 ∈ wAll := wIn 338 rfl rfl
set_option maxRecDepth 20000 in
theorem pm_se49 : Cond.selects RX6 (pm_m 49).1 (pm_m 49).1 ∈ wAll := wIn 339 rfl rfl
set_option maxRecDepth 20000 in
theorem pm_fl_X5_15 : Cond.fieldLink RX5 15 "LeafTable$Table" "wants" "[I" ∈ wAll := wIn 87 rfl rfl
set_option maxRecDepth 20000 in
theorem pm_fl_X5_18 : Cond.fieldLink RX5 18 "LeafTable$Table" "ears" "[I" ∈ wAll := wIn 89 rfl rfl
set_option maxRecDepth 20000 in
theorem pm_ml_X5_45 : Cond.methodLink RX5 45 (pm_m 30).1 ∈ wAll := wIn 371 rfl rfl
set_option maxRecDepth 20000 in
theorem pm_q30 : (pm_m 30).1.cls ≠ "java/lang/invoke/MethodHandle" ∧ (pm_m 30).1.cls ≠ "java/lang/invoke/VarHandle" ∧ (parseMethodDescriptor (pm_m 30).1.desc).map (fun d => d.parameters.length) = some 1 := by decide +kernel
set_option maxRecDepth 20000 in
theorem pm_in_X5 : Cond.initialized RX5 ∈ wAll := wIn 47 rfl rfl
set_option maxRecDepth 20000 in
theorem pm_im30 : Cond.instanceMethod (pm_m 30).1 ∈ wAll := wIn 352 rfl rfl
set_option maxRecDepth 20000 in
theorem pm_se30 : Cond.selects RX5 (pm_m 30).1 (pm_m 30).1 ∈ wAll := wIn 353 rfl rfl
set_option maxRecDepth 20000 in
theorem pm_ml_X5_49 : Cond.methodLink RX5 49 (pm_m 43).1 ∈ wAll := wIn 372 rfl rfl
set_option maxRecDepth 20000 in
theorem pm_q43 : (pm_m 43).1.cls ≠ "java/lang/invoke/MethodHandle" ∧ (pm_m 43).1.cls ≠ "java/lang/invoke/VarHandle" ∧ (parseMethodDescriptor (pm_m 43).1.desc).map (fun d => d.parameters.length) = some 1 := by decide +kernel
set_option maxRecDepth 20000 in
theorem pm_im43 : Cond.instanceMethod (pm_m 43).1 ∈ wAll := wIn 374 rfl rfl
set_option maxRecDepth 20000 in
theorem pm_se43 : Cond.selects RX5 (pm_m 43).1 (pm_m 43).1 ∈ wAll := wIn 6 rfl rfl
set_option maxRecDepth 20000 in
theorem pm_fn_X5_52 : (RX5, 52, "LeafTable$Seats", "length", "I", "LeafTable") ∈ pm_nF := List.mem_of_getElem? (i := 13) rfl
set_option maxRecDepth 20000 in
theorem pm_fn_X5_57 : (RX5, 57, "LeafTable$Seats", "leaves", "[I", "LeafTable") ∈ pm_nF := List.mem_of_getElem? (i := 11) rfl
set_option maxRecDepth 20000 in
theorem pm_ml_X5_60 : Cond.methodLink RX5 60 (pm_m 42).1 ∈ wAll := wIn 378 rfl rfl
set_option maxRecDepth 20000 in
theorem pm_q42 : (pm_m 42).1.cls ≠ "java/lang/invoke/MethodHandle" ∧ (pm_m 42).1.cls ≠ "java/lang/invoke/VarHandle" ∧ (parseMethodDescriptor (pm_m 42).1.desc).map (fun d => d.parameters.length) = some 2 := by decide +kernel
set_option maxRecDepth 20000 in
theorem pm_im42 : Cond.instanceMethod (pm_m 42).1 ∈ wAll := wIn 380 rfl rfl
set_option maxRecDepth 20000 in
theorem pm_se42 : Cond.selects RX5 (pm_m 42).1 (pm_m 42).1 ∈ wAll := wIn 7 rfl rfl
set_option maxRecDepth 20000 in
theorem pm_fn_X5_64 : (RX5, 64, "LeafTable$Seats", "soup", "I", "LeafTable") ∈ pm_nF := List.mem_of_getElem? (i := 17) rfl
set_option maxRecDepth 20000 in
theorem pm_ml_X5_67 : Cond.methodLink RX5 67 (pm_m 32).1 ∈ wAll := wIn 484 rfl rfl
set_option maxRecDepth 20000 in
theorem pm_q32 : (pm_m 32).1.cls ≠ "java/lang/invoke/MethodHandle" ∧ (pm_m 32).1.cls ≠ "java/lang/invoke/VarHandle" ∧ (parseMethodDescriptor (pm_m 32).1.desc).map (fun d => d.parameters.length) = some 2 := by decide +kernel
set_option maxRecDepth 20000 in
theorem pm_im32 : Cond.instanceMethod (pm_m 32).1 ∈ wAll := wIn 368 rfl rfl
set_option maxRecDepth 20000 in
theorem pm_se32 : Cond.selects RX5 (pm_m 32).1 (pm_m 32).1 ∈ wAll := wIn 369 rfl rfl
set_option maxRecDepth 20000 in
theorem pm_ml_X5_70 : Cond.methodLink RX5 70 (pm_m 33).1 ∈ wAll := wIn 485 rfl rfl
set_option maxRecDepth 20000 in
theorem pm_q33 : (pm_m 33).1.cls ≠ "java/lang/invoke/MethodHandle" ∧ (pm_m 33).1.cls ≠ "java/lang/invoke/VarHandle" ∧ (parseMethodDescriptor (pm_m 33).1.desc).map (fun d => d.parameters.length) = some 2 := by decide +kernel
set_option maxRecDepth 20000 in
theorem pm_im33 : Cond.instanceMethod (pm_m 33).1 ∈ wAll := wIn 395 rfl rfl
set_option maxRecDepth 20000 in
theorem pm_se33 : Cond.selects RX5 (pm_m 33).1 (pm_m 33).1 ∈ wAll := wIn 396 rfl rfl
set_option maxRecDepth 20000 in
theorem pm_fn_X5_74 : (RX5, 74, "LeafTable$Seats", "warmth", "I", "LeafTable") ∈ pm_nF := List.mem_of_getElem? (i := 19) rfl
set_option maxRecDepth 20000 in
theorem pm_ml_X5_77 : Cond.methodLink RX5 77 (pm_m 153).1 ∈ wAll := wIn 406 rfl rfl
set_option maxRecDepth 20000 in
theorem pm_q153 : (pm_m 153).1.cls ≠ "java/lang/invoke/MethodHandle" ∧ (pm_m 153).1.cls ≠ "java/lang/invoke/VarHandle" ∧ (parseMethodDescriptor (pm_m 153).1.desc).map (fun d => d.parameters.length) = some 1 := by decide +kernel
set_option maxRecDepth 20000 in
theorem pm_ss153 : Cond.static (pm_m 153).1 ∈ wAll := wIn 407 rfl rfl
set_option maxRecDepth 20000 in
theorem pm_ml_X5_82 : Cond.methodLink RX5 82 (pm_m 154).1 ∈ wAll := wIn 409 rfl rfl
set_option maxRecDepth 20000 in
theorem pm_q154 : (pm_m 154).1.cls ≠ "java/lang/invoke/MethodHandle" ∧ (pm_m 154).1.cls ≠ "java/lang/invoke/VarHandle" ∧ (parseMethodDescriptor (pm_m 154).1.desc).map (fun d => d.parameters.length) = some 2 := by decide +kernel
set_option maxRecDepth 20000 in
theorem pm_ss154 : Cond.static (pm_m 154).1 ∈ wAll := wIn 410 rfl rfl
set_option maxRecDepth 20000 in
theorem pm_fn_X5_85 : (RX5, 85, "LeafTable$Seats", "served", "I", "LeafTable") ∈ pm_nF := List.mem_of_getElem? (i := 24) rfl
set_option maxRecDepth 20000 in
theorem pm_ml_X5_88 : Cond.methodLink RX5 88 (pm_m 41).1 ∈ wAll := wIn 359 rfl rfl
set_option maxRecDepth 20000 in
theorem pm_q41 : (pm_m 41).1.cls ≠ "java/lang/invoke/MethodHandle" ∧ (pm_m 41).1.cls ≠ "java/lang/invoke/VarHandle" ∧ (parseMethodDescriptor (pm_m 41).1.desc).map (fun d => d.parameters.length) = some 2 := by decide +kernel
set_option maxRecDepth 20000 in
theorem pm_im41 : Cond.instanceMethod (pm_m 41).1 ∈ wAll := wIn 361 rfl rfl
set_option maxRecDepth 20000 in
theorem pm_se41 : Cond.selects RX5 (pm_m 41).1 (pm_m 41).1 ∈ wAll := wIn 5 rfl rfl
set_option maxRecDepth 20000 in
theorem pm_ml_X5_92 : Cond.methodLink RX5 92 (pm_m 37).1 ∈ wAll := wIn 478 rfl rfl
set_option maxRecDepth 20000 in
theorem pm_q37 : (pm_m 37).1.cls ≠ "java/lang/invoke/MethodHandle" ∧ (pm_m 37).1.cls ≠ "java/lang/invoke/VarHandle" ∧ (parseMethodDescriptor (pm_m 37).1.desc).map (fun d => d.parameters.length) = some 1 := by decide +kernel
set_option maxRecDepth 20000 in
theorem pm_im37 : Cond.instanceMethod (pm_m 37).1 ∈ wAll := wIn 356 rfl rfl
set_option maxRecDepth 20000 in
theorem pm_se37 : Cond.selects RX5 (pm_m 37).1 (pm_m 37).1 ∈ wAll := wIn 357 rfl rfl
set_option maxRecDepth 20000 in
theorem pm_ml_X5_96 : Cond.methodLink RX5 96 (pm_m 31).1 ∈ wAll := wIn 479 rfl rfl
set_option maxRecDepth 20000 in
theorem pm_q31 : (pm_m 31).1.cls ≠ "java/lang/invoke/MethodHandle" ∧ (pm_m 31).1.cls ≠ "java/lang/invoke/VarHandle" ∧ (parseMethodDescriptor (pm_m 31).1.desc).map (fun d => d.parameters.length) = some 0 := by decide +kernel
set_option maxRecDepth 20000 in
theorem pm_im31 : Cond.instanceMethod (pm_m 31).1 ∈ wAll := wIn 433 rfl rfl
set_option maxRecDepth 20000 in
theorem pm_se31 : Cond.selects RX5 (pm_m 31).1 (pm_m 31).1 ∈ wAll := wIn 434 rfl rfl
set_option maxRecDepth 20000 in
theorem pm_fn_X5_99 : (RX5, 99, "LeafTable", "GROWTH", "[I", "LeafTable") ∈ pm_nF := List.mem_of_getElem? (i := 34) rfl
def bp_X2_append : List Nat := [0, 1, 4, 7, 8, 11, 13, 16, 17, 18, 19, 22, 23, 26, 27, 28, 29, 32, 33, 36, 37, 38, 39, 40, 43, 44, 45, 48, 49]
def co_X2_append : List pm_Op := [
  pm_aload 0,
  pm_getf 2 2,
  pm_iflt 7,
  pm_aload 0,
  pm_getf 2 2,
  pm_push (6),
  pm_cmplt 9,
  pm_push (0),
  pm_zret,
  pm_aload 0,
  pm_getf 2 0,
  pm_aload 0,
  pm_getf 2 2,
  pm_iload 1,
  pm_iast,
  pm_aload 0,
  pm_getf 2 1,
  pm_aload 0,
  pm_getf 2 2,
  pm_iload 2,
  pm_iast,
  pm_aload 0,
  pm_dup,
  pm_getf 2 2,
  pm_push (1),
  pm_bin (fun x y => x + y),
  pm_putf 2 2,
  pm_push (1),
  pm_zret]
set_option maxRecDepth 20000 in
set_option maxHeartbeats 4000000 in
theorem ms_X2_append : pm_MS 11 RX2 bp_X2_append co_X2_append := fun p l e R s m args below meth c cells slots Qm D cs ad sz d C hR => ⟨
  pm_s_aload_n C (n := 0) (by decide +kernel) rfl rfl,
  pm_s_getf C (n := 18) (ci := 2) rfl rfl wiX2 (by decide) (by decide +kernel) pm_fl_X2_18 rfl,
  pm_s_iflt C (off := 12) (by decide +kernel) (by decide +kernel) rfl,
  pm_s_aload_n C (n := 0) (by decide +kernel) rfl rfl,
  pm_s_getf C (n := 18) (ci := 2) rfl rfl wiX2 (by decide) (by decide +kernel) pm_fl_X2_18 rfl,
  pm_s_bipush C (n := 6) (by decide +kernel) rfl rfl,
  pm_s_cmplt C (off := 5) (by decide +kernel) (by decide +kernel) rfl,
  pm_s_iconst C (n := 0) (by decide +kernel) rfl rfl,
  pm_s_zret (by decide +kernel) rfl,
  pm_s_aload_n C (n := 0) (by decide +kernel) rfl rfl,
  pm_s_getf C (n := 11) (ci := 2) rfl rfl wiX2 (by decide) (by decide +kernel) pm_fl_X2_11 rfl,
  pm_s_aload_n C (n := 0) (by decide +kernel) rfl rfl,
  pm_s_getf C (n := 18) (ci := 2) rfl rfl wiX2 (by decide) (by decide +kernel) pm_fl_X2_18 rfl,
  pm_s_iload_n C (n := 1) (by decide +kernel) rfl rfl,
  pm_s_iast C (by decide +kernel) rfl,
  pm_s_aload_n C (n := 0) (by decide +kernel) rfl rfl,
  pm_s_getf C (n := 15) (ci := 2) rfl rfl wiX2 (by decide) (by decide +kernel) pm_fl_X2_15 rfl,
  pm_s_aload_n C (n := 0) (by decide +kernel) rfl rfl,
  pm_s_getf C (n := 18) (ci := 2) rfl rfl wiX2 (by decide) (by decide +kernel) pm_fl_X2_18 rfl,
  pm_s_iload_n C (n := 2) (by decide +kernel) rfl rfl,
  pm_s_iast C (by decide +kernel) rfl,
  pm_s_aload_n C (n := 0) (by decide +kernel) rfl rfl,
  pm_s_dup C (by decide +kernel) rfl,
  pm_s_getf C (n := 18) (ci := 2) rfl rfl wiX2 (by decide) (by decide +kernel) pm_fl_X2_18 rfl,
  pm_s_iconst C (n := 1) (by decide +kernel) rfl rfl,
  pm_s_iadd C (by decide +kernel) rfl,
  pm_s_putf C (n := 18) (ci := 2) rfl rfl wiX2 (by decide) tyX2 tyX2_ok nmX2 rfl (by decide +kernel) (by decide +kernel) pm_fl_X2_18 rfl,
  pm_s_iconst C (n := 1) (by decide +kernel) rfl rfl,
  pm_s_zret (by decide +kernel) rfl,
  trivial⟩
def bp_X2_findLaws : List Nat := [0, 1, 2, 5, 6, 8, 11, 12, 14, 17, 18, 19, 20, 23, 26, 27, 30, 31, 32, 33, 36, 39, 40, 41, 44, 47, 50]
def co_X2_findLaws : List pm_Op := [
  pm_aload 0,
  pm_push (0),
  pm_putf 2 3,
  pm_aload 0,
  pm_push (-9),
  pm_putf 2 4,
  pm_aload 0,
  pm_push (-9),
  pm_putf 2 5,
  pm_push (0),
  pm_istore 1,
  pm_iload 1,
  pm_push (256),
  pm_cmpge 26,
  pm_iload 1,
  pm_callS 14 1,
  pm_istore 2,
  pm_aload 0,
  pm_iload 2,
  pm_callV 2 15 2,
  pm_ifeq 24,
  pm_aload 0,
  pm_iload 2,
  pm_callV 2 13 2,
  pm_iinc 1 (1),
  pm_goto 11,
  pm_vret]
set_option maxRecDepth 20000 in
set_option maxHeartbeats 4000000 in
theorem ms_X2_findLaws : pm_MS 12 RX2 bp_X2_findLaws co_X2_findLaws := fun p l e R s m args below meth c cells slots Qm D cs ad sz d C hR => ⟨
  pm_s_aload_n C (n := 0) (by decide +kernel) rfl rfl,
  pm_s_iconst C (n := 0) (by decide +kernel) rfl rfl,
  pm_s_putf C (n := 22) (ci := 2) rfl rfl wiX2 (by decide) tyX2 tyX2_ok nmX2 rfl (by decide +kernel) (by decide +kernel) pm_fl_X2_22 rfl,
  pm_s_aload_n C (n := 0) (by decide +kernel) rfl rfl,
  pm_s_bipush C (n := -9) (by decide +kernel) rfl rfl,
  pm_s_putf C (n := 25) (ci := 2) rfl rfl wiX2 (by decide) tyX2 tyX2_ok nmX2 rfl (by decide +kernel) (by decide +kernel) pm_fl_X2_25 rfl,
  pm_s_aload_n C (n := 0) (by decide +kernel) rfl rfl,
  pm_s_bipush C (n := -9) (by decide +kernel) rfl rfl,
  pm_s_putf C (n := 28) (ci := 2) rfl rfl wiX2 (by decide) tyX2 tyX2_ok nmX2 rfl (by decide +kernel) (by decide +kernel) pm_fl_X2_28 rfl,
  pm_s_iconst C (n := 0) (by decide +kernel) rfl rfl,
  pm_s_istore_n C (n := 1) (by decide +kernel) rfl rfl,
  pm_s_iload_n C (n := 1) (by decide +kernel) rfl rfl,
  pm_s_sipush C (n := 256) (by decide +kernel) rfl rfl,
  pm_s_cmpge C (off := 27) (by decide +kernel) (by decide +kernel) rfl,
  pm_s_iload_n C (n := 1) (by decide +kernel) rfl rfl,
  pm_s_callS C hR (n := 31) (by decide +kernel) pm_ml_X2_31 pm_ss14 pm_in_X2 pm_cw14 pm_q14 (by decide) rfl,
  pm_s_istore_n C (n := 2) (by decide +kernel) rfl rfl,
  pm_s_aload_n C (n := 0) (by decide +kernel) rfl rfl,
  pm_s_iload_n C (n := 2) (by decide +kernel) rfl rfl,
  pm_s_callV C hR (n := 35) (ci := 2) rfl (by decide +kernel) pm_ml_X2_35 pm_im15 pm_se15 pm_in_X2 pm_cw15 pm_q15 (by decide) rfl,
  pm_s_ifeq C (off := 8) (by decide +kernel) (by decide +kernel) rfl,
  pm_s_aload_n C (n := 0) (by decide +kernel) rfl rfl,
  pm_s_iload_n C (n := 2) (by decide +kernel) rfl rfl,
  pm_s_callV C hR (n := 39) (ci := 2) rfl (by decide +kernel) pm_ml_X2_39 pm_im13 pm_se13 pm_in_X2 pm_cw13 pm_q13 (by decide) rfl,
  pm_s_iinc C (n := 1) (by decide +kernel) rfl rfl,
  pm_s_goto C (off := -28) (by decide +kernel) (by decide +kernel),
  pm_s_vret (by decide +kernel) rfl,
  trivial⟩
def bp_X2_takeLaw : List Nat := [0, 1, 4, 7, 8, 9, 12, 13, 15, 18, 19, 20, 23, 24, 25, 28, 29, 30, 31, 32, 35, 36, 37, 38, 41, 42, 43, 46, 47, 50, 53, 54, 55, 58, 59, 60, 61, 62, 63, 64, 67, 70, 73]
def co_X2_takeLaw : List pm_Op := [
  pm_aload 0,
  pm_getf 2 3,
  pm_ifne 9,
  pm_aload 0,
  pm_iload 1,
  pm_putf 2 4,
  pm_aload 0,
  pm_push (15),
  pm_putf 2 5,
  pm_aload 0,
  pm_dup,
  pm_getf 2 3,
  pm_push (1),
  pm_bin (fun x y => x + y),
  pm_putf 2 3,
  pm_push (0),
  pm_istore 2,
  pm_iload 2,
  pm_push (4),
  pm_cmpge 42,
  pm_push (4),
  pm_iload 1,
  pm_iload 2,
  pm_callS 85 3,
  pm_push (4),
  pm_aload 0,
  pm_getf 2 4,
  pm_iload 2,
  pm_callS 85 3,
  pm_cmpeq 40,
  pm_aload 0,
  pm_dup,
  pm_getf 2 5,
  pm_push (1),
  pm_iload 2,
  pm_bin (fun x y => x <<< (y &&& 31)),
  pm_push (-1),
  pm_bin (fun x y => x ^^^ y),
  pm_bin (fun x y => x &&& y),
  pm_putf 2 5,
  pm_iinc 2 (1),
  pm_goto 17,
  pm_vret]
set_option maxRecDepth 20000 in
set_option maxHeartbeats 4000000 in
theorem ms_X2_takeLaw : pm_MS 13 RX2 bp_X2_takeLaw co_X2_takeLaw := fun p l e R s m args below meth c cells slots Qm D cs ad sz d C hR => ⟨
  pm_s_aload_n C (n := 0) (by decide +kernel) rfl rfl,
  pm_s_getf C (n := 22) (ci := 2) rfl rfl wiX2 (by decide) (by decide +kernel) pm_fl_X2_22 rfl,
  pm_s_ifne C (off := 14) (by decide +kernel) (by decide +kernel) rfl,
  pm_s_aload_n C (n := 0) (by decide +kernel) rfl rfl,
  pm_s_iload_n C (n := 1) (by decide +kernel) rfl rfl,
  pm_s_putf C (n := 25) (ci := 2) rfl rfl wiX2 (by decide) tyX2 tyX2_ok nmX2 rfl (by decide +kernel) (by decide +kernel) pm_fl_X2_25 rfl,
  pm_s_aload_n C (n := 0) (by decide +kernel) rfl rfl,
  pm_s_bipush C (n := 15) (by decide +kernel) rfl rfl,
  pm_s_putf C (n := 28) (ci := 2) rfl rfl wiX2 (by decide) tyX2 tyX2_ok nmX2 rfl (by decide +kernel) (by decide +kernel) pm_fl_X2_28 rfl,
  pm_s_aload_n C (n := 0) (by decide +kernel) rfl rfl,
  pm_s_dup C (by decide +kernel) rfl,
  pm_s_getf C (n := 22) (ci := 2) rfl rfl wiX2 (by decide) (by decide +kernel) pm_fl_X2_22 rfl,
  pm_s_iconst C (n := 1) (by decide +kernel) rfl rfl,
  pm_s_iadd C (by decide +kernel) rfl,
  pm_s_putf C (n := 22) (ci := 2) rfl rfl wiX2 (by decide) tyX2 tyX2_ok nmX2 rfl (by decide +kernel) (by decide +kernel) pm_fl_X2_22 rfl,
  pm_s_iconst C (n := 0) (by decide +kernel) rfl rfl,
  pm_s_istore_n C (n := 2) (by decide +kernel) rfl rfl,
  pm_s_iload_n C (n := 2) (by decide +kernel) rfl rfl,
  pm_s_iconst C (n := 4) (by decide +kernel) rfl rfl,
  pm_s_cmpge C (off := 41) (by decide +kernel) (by decide +kernel) rfl,
  pm_s_iconst C (n := 4) (by decide +kernel) rfl rfl,
  pm_s_iload_n C (n := 1) (by decide +kernel) rfl rfl,
  pm_s_iload_n C (n := 2) (by decide +kernel) rfl rfl,
  pm_s_callSN C hR (n := 43) (by decide +kernel) pm_mn_X2_43 pm_ss85 pm_in_X7 pm_cw85 pm_q85 (by decide) rfl,
  pm_s_iconst C (n := 4) (by decide +kernel) rfl rfl,
  pm_s_aload_n C (n := 0) (by decide +kernel) rfl rfl,
  pm_s_getf C (n := 25) (ci := 2) rfl rfl wiX2 (by decide) (by decide +kernel) pm_fl_X2_25 rfl,
  pm_s_iload_n C (n := 2) (by decide +kernel) rfl rfl,
  pm_s_callSN C hR (n := 43) (by decide +kernel) pm_mn_X2_43 pm_ss85 pm_in_X7 pm_cw85 pm_q85 (by decide) rfl,
  pm_s_cmpeq C (off := 17) (by decide +kernel) (by decide +kernel) rfl,
  pm_s_aload_n C (n := 0) (by decide +kernel) rfl rfl,
  pm_s_dup C (by decide +kernel) rfl,
  pm_s_getf C (n := 28) (ci := 2) rfl rfl wiX2 (by decide) (by decide +kernel) pm_fl_X2_28 rfl,
  pm_s_iconst C (n := 1) (by decide +kernel) rfl rfl,
  pm_s_iload_n C (n := 2) (by decide +kernel) rfl rfl,
  pm_s_ishl C (by decide +kernel) rfl,
  pm_s_iconst C (n := -1) (by decide +kernel) rfl rfl,
  pm_s_ixor C (by decide +kernel) rfl,
  pm_s_iand C (by decide +kernel) rfl,
  pm_s_putf C (n := 28) (ci := 2) rfl rfl wiX2 (by decide) tyX2 tyX2_ok nmX2 rfl (by decide +kernel) (by decide +kernel) pm_fl_X2_28 rfl,
  pm_s_iinc C (n := 1) (by decide +kernel) rfl rfl,
  pm_s_goto C (off := -40) (by decide +kernel) (by decide +kernel),
  pm_s_vret (by decide +kernel) rfl,
  trivial⟩
def bp_X2_figuresOfLaw : List Nat := [0, 1, 2, 3, 4, 5, 6, 7, 8, 11, 12, 13, 14, 15, 18, 19, 20, 21, 22, 23, 24, 25, 26, 27, 30, 33, 34]
def co_X2_figuresOfLaw : List pm_Op := [
  pm_push (0),
  pm_istore 1,
  pm_iload 0,
  pm_istore 2,
  pm_push (0),
  pm_istore 3,
  pm_iload 3,
  pm_push (4),
  pm_cmpge 25,
  pm_iload 1,
  pm_iload 2,
  pm_push (4),
  pm_irem,
  pm_gets 37,
  pm_iload 3,
  pm_iald,
  pm_bin (fun x y => x * y),
  pm_bin (fun x y => x + y),
  pm_istore 1,
  pm_iload 2,
  pm_push (4),
  pm_idiv,
  pm_istore 2,
  pm_iinc 3 (1),
  pm_goto 6,
  pm_iload 1,
  pm_iret]
set_option maxRecDepth 20000 in
set_option maxHeartbeats 4000000 in
theorem ms_X2_figuresOfLaw : pm_MS 14 RX2 bp_X2_figuresOfLaw co_X2_figuresOfLaw := fun p l e R s m args below meth c cells slots Qm D cs ad sz d C hR => ⟨
  pm_s_iconst C (n := 0) (by decide +kernel) rfl rfl,
  pm_s_istore_n C (n := 1) (by decide +kernel) rfl rfl,
  pm_s_iload_n C (n := 0) (by decide +kernel) rfl rfl,
  pm_s_istore_n C (n := 2) (by decide +kernel) rfl rfl,
  pm_s_iconst C (n := 0) (by decide +kernel) rfl rfl,
  pm_s_istore_n C (n := 3) (by decide +kernel) rfl rfl,
  pm_s_iload_n C (n := 3) (by decide +kernel) rfl rfl,
  pm_s_iconst C (n := 4) (by decide +kernel) rfl rfl,
  pm_s_cmpge C (off := 25) (by decide +kernel) (by decide +kernel) rfl,
  pm_s_iload_n C (n := 1) (by decide +kernel) rfl rfl,
  pm_s_iload_n C (n := 2) (by decide +kernel) rfl rfl,
  pm_s_iconst C (n := 4) (by decide +kernel) rfl rfl,
  pm_s_irem C (by decide +kernel) rfl,
  pm_s_getsN C (n := 47) (by decide) (by decide) (by decide +kernel) pm_fn_X2_47 rfl,
  pm_s_iload_n C (n := 3) (by decide +kernel) rfl rfl,
  pm_s_iald C (by decide +kernel) rfl,
  pm_s_imul C (by decide +kernel) rfl,
  pm_s_iadd C (by decide +kernel) rfl,
  pm_s_istore_n C (n := 1) (by decide +kernel) rfl rfl,
  pm_s_iload_n C (n := 2) (by decide +kernel) rfl rfl,
  pm_s_iconst C (n := 4) (by decide +kernel) rfl rfl,
  pm_s_idiv C (by decide +kernel) rfl,
  pm_s_istore_n C (n := 2) (by decide +kernel) rfl rfl,
  pm_s_iinc C (n := 1) (by decide +kernel) rfl rfl,
  pm_s_goto C (off := -24) (by decide +kernel) (by decide +kernel),
  pm_s_iload_n C (n := 1) (by decide +kernel) rfl rfl,
  pm_s_iret (by decide +kernel) rfl,
  trivial⟩
def bp_X2_holds : List Nat := [0, 1, 2, 3, 4, 7, 10, 11, 12, 13, 15, 17, 18, 21, 22, 23, 25, 28, 29, 30, 32, 33, 34, 35, 38, 39, 40, 42, 45, 47, 48, 49, 50, 53, 56, 57, 58, 61, 62, 63, 66, 67, 68, 71, 74, 75]
def co_X2_holds : List pm_Op := [
  pm_push (0),
  pm_istore 2,
  pm_iload 2,
  pm_aload 0,
  pm_getf 2 2,
  pm_cmpge 44,
  pm_push (0),
  pm_istore 3,
  pm_push (0),
  pm_istore 4,
  pm_iload 4,
  pm_push (4),
  pm_cmpge 34,
  pm_push (4),
  pm_iload 1,
  pm_iload 4,
  pm_callS 85 3,
  pm_push (-1),
  pm_bin (fun x y => x + y),
  pm_istore 5,
  pm_iload 3,
  pm_push (4),
  pm_aload 0,
  pm_getf 2 0,
  pm_iload 2,
  pm_iald,
  pm_iload 4,
  pm_callS 85 3,
  pm_iload 5,
  pm_bin (fun x y => x * y),
  pm_bin (fun x y => x + y),
  pm_istore 3,
  pm_iinc 4 (1),
  pm_goto 10,
  pm_iload 3,
  pm_aload 0,
  pm_getf 2 1,
  pm_iload 2,
  pm_iald,
  pm_cmpeq 42,
  pm_push (0),
  pm_zret,
  pm_iinc 2 (1),
  pm_goto 2,
  pm_push (1),
  pm_zret]
set_option maxRecDepth 20000 in
set_option maxHeartbeats 4000000 in
theorem ms_X2_holds : pm_MS 15 RX2 bp_X2_holds co_X2_holds := fun p l e R s m args below meth c cells slots Qm D cs ad sz d C hR => ⟨
  pm_s_iconst C (n := 0) (by decide +kernel) rfl rfl,
  pm_s_istore_n C (n := 2) (by decide +kernel) rfl rfl,
  pm_s_iload_n C (n := 2) (by decide +kernel) rfl rfl,
  pm_s_aload_n C (n := 0) (by decide +kernel) rfl rfl,
  pm_s_getf C (n := 18) (ci := 2) rfl rfl wiX2 (by decide) (by decide +kernel) pm_fl_X2_18 rfl,
  pm_s_cmpge C (off := 67) (by decide +kernel) (by decide +kernel) rfl,
  pm_s_iconst C (n := 0) (by decide +kernel) rfl rfl,
  pm_s_istore_n C (n := 3) (by decide +kernel) rfl rfl,
  pm_s_iconst C (n := 0) (by decide +kernel) rfl rfl,
  pm_s_istore C (by decide +kernel) rfl,
  pm_s_iload C (by decide +kernel) rfl,
  pm_s_iconst C (n := 4) (by decide +kernel) rfl rfl,
  pm_s_cmpge C (off := 38) (by decide +kernel) (by decide +kernel) rfl,
  pm_s_iconst C (n := 4) (by decide +kernel) rfl rfl,
  pm_s_iload_n C (n := 1) (by decide +kernel) rfl rfl,
  pm_s_iload C (by decide +kernel) rfl,
  pm_s_callSN C hR (n := 43) (by decide +kernel) pm_mn_X2_43 pm_ss85 pm_in_X7 pm_cw85 pm_q85 (by decide) rfl,
  pm_s_iconst C (n := -1) (by decide +kernel) rfl rfl,
  pm_s_iadd C (by decide +kernel) rfl,
  pm_s_istore C (by decide +kernel) rfl,
  pm_s_iload_n C (n := 3) (by decide +kernel) rfl rfl,
  pm_s_iconst C (n := 4) (by decide +kernel) rfl rfl,
  pm_s_aload_n C (n := 0) (by decide +kernel) rfl rfl,
  pm_s_getf C (n := 11) (ci := 2) rfl rfl wiX2 (by decide) (by decide +kernel) pm_fl_X2_11 rfl,
  pm_s_iload_n C (n := 2) (by decide +kernel) rfl rfl,
  pm_s_iald C (by decide +kernel) rfl,
  pm_s_iload C (by decide +kernel) rfl,
  pm_s_callSN C hR (n := 43) (by decide +kernel) pm_mn_X2_43 pm_ss85 pm_in_X7 pm_cw85 pm_q85 (by decide) rfl,
  pm_s_iload C (by decide +kernel) rfl,
  pm_s_imul C (by decide +kernel) rfl,
  pm_s_iadd C (by decide +kernel) rfl,
  pm_s_istore_n C (n := 3) (by decide +kernel) rfl rfl,
  pm_s_iinc C (n := 1) (by decide +kernel) rfl rfl,
  pm_s_goto C (off := -38) (by decide +kernel) (by decide +kernel),
  pm_s_iload_n C (n := 3) (by decide +kernel) rfl rfl,
  pm_s_aload_n C (n := 0) (by decide +kernel) rfl rfl,
  pm_s_getf C (n := 15) (ci := 2) rfl rfl wiX2 (by decide) (by decide +kernel) pm_fl_X2_15 rfl,
  pm_s_iload_n C (n := 2) (by decide +kernel) rfl rfl,
  pm_s_iald C (by decide +kernel) rfl,
  pm_s_cmpeq C (off := 5) (by decide +kernel) (by decide +kernel) rfl,
  pm_s_iconst C (n := 0) (by decide +kernel) rfl rfl,
  pm_s_zret (by decide +kernel) rfl,
  pm_s_iinc C (n := 1) (by decide +kernel) rfl rfl,
  pm_s_goto C (off := -69) (by decide +kernel) (by decide +kernel),
  pm_s_iconst C (n := 1) (by decide +kernel) rfl rfl,
  pm_s_zret (by decide +kernel) rfl,
  trivial⟩
def bp_X5_readFrom : List Nat := [0, 1, 2, 3, 6, 9, 10, 11, 12, 15, 18, 19, 20, 23, 26, 27, 28, 29, 30, 33, 36, 37, 40, 41, 42, 43, 44, 47, 48, 49, 52, 53, 54, 55, 56, 59, 60, 61, 64, 65, 66, 67, 68, 71, 72, 75, 78]
def co_X5_readFrom : List pm_Op := [
  pm_aload 0,
  pm_aload 1,
  pm_push (3),
  pm_callV 6 50 2,
  pm_putf 5 4,
  pm_aload 0,
  pm_aload 1,
  pm_push (4),
  pm_callV 6 50 2,
  pm_putf 5 5,
  pm_aload 0,
  pm_aload 1,
  pm_callV 6 46 1,
  pm_putf 5 3,
  pm_push (0),
  pm_istore 2,
  pm_iload 2,
  pm_aload 0,
  pm_getf 5 3,
  pm_cmpge 46,
  pm_aload 0,
  pm_getf 5 0,
  pm_iload 2,
  pm_aload 1,
  pm_iload 2,
  pm_push (3),
  pm_callV 6 49 3,
  pm_iast,
  pm_aload 0,
  pm_getf 5 1,
  pm_iload 2,
  pm_aload 1,
  pm_iload 2,
  pm_push (4),
  pm_callV 6 49 3,
  pm_iast,
  pm_aload 0,
  pm_getf 5 2,
  pm_iload 2,
  pm_aload 1,
  pm_iload 2,
  pm_push (5),
  pm_callV 6 49 3,
  pm_iast,
  pm_iinc 2 (1),
  pm_goto 16,
  pm_vret]
set_option maxRecDepth 20000 in
set_option maxHeartbeats 4000000 in
theorem ms_X5_readFrom : pm_MS 29 RX5 bp_X5_readFrom co_X5_readFrom := fun p l e R s m args below meth c cells slots Qm D cs ad sz d C hR => ⟨
  pm_s_aload_n C (n := 0) (by decide +kernel) rfl rfl,
  pm_s_aload_n C (n := 1) (by decide +kernel) rfl rfl,
  pm_s_iconst C (n := 3) (by decide +kernel) rfl rfl,
  pm_s_callV C hR (n := 28) (ci := 6) rfl (by decide +kernel) pm_ml_X5_28 pm_im50 pm_se50 pm_in_X6 pm_cw50 pm_q50 (by decide) rfl,
  pm_s_putf C (n := 21) (ci := 5) rfl rfl wiX5 (by decide) tyX5 tyX5_ok nmX5 rfl (by decide +kernel) (by decide +kernel) pm_fl_X5_21 rfl,
  pm_s_aload_n C (n := 0) (by decide +kernel) rfl rfl,
  pm_s_aload_n C (n := 1) (by decide +kernel) rfl rfl,
  pm_s_iconst C (n := 4) (by decide +kernel) rfl rfl,
  pm_s_callV C hR (n := 28) (ci := 6) rfl (by decide +kernel) pm_ml_X5_28 pm_im50 pm_se50 pm_in_X6 pm_cw50 pm_q50 (by decide) rfl,
  pm_s_putf C (n := 25) (ci := 5) rfl rfl wiX5 (by decide) tyX5 tyX5_ok nmX5 rfl (by decide +kernel) (by decide +kernel) pm_fl_X5_25 rfl,
  pm_s_aload_n C (n := 0) (by decide +kernel) rfl rfl,
  pm_s_aload_n C (n := 1) (by decide +kernel) rfl rfl,
  pm_s_callV C hR (n := 34) (ci := 6) rfl (by decide +kernel) pm_ml_X5_34 pm_im46 pm_se46 pm_in_X6 pm_cw46 pm_q46 (by decide) rfl,
  pm_s_putf C (n := 38) (ci := 5) rfl rfl wiX5 (by decide) tyX5 tyX5_ok nmX5 rfl (by decide +kernel) (by decide +kernel) pm_fl_X5_38 rfl,
  pm_s_iconst C (n := 0) (by decide +kernel) rfl rfl,
  pm_s_istore_n C (n := 2) (by decide +kernel) rfl rfl,
  pm_s_iload_n C (n := 2) (by decide +kernel) rfl rfl,
  pm_s_aload_n C (n := 0) (by decide +kernel) rfl rfl,
  pm_s_getf C (n := 38) (ci := 5) rfl rfl wiX5 (by decide) (by decide +kernel) pm_fl_X5_38 rfl,
  pm_s_cmpge C (off := 45) (by decide +kernel) (by decide +kernel) rfl,
  pm_s_aload_n C (n := 0) (by decide +kernel) rfl rfl,
  pm_s_getf C (n := 9) (ci := 5) rfl rfl wiX5 (by decide) (by decide +kernel) pm_fl_X5_9 rfl,
  pm_s_iload_n C (n := 2) (by decide +kernel) rfl rfl,
  pm_s_aload_n C (n := 1) (by decide +kernel) rfl rfl,
  pm_s_iload_n C (n := 2) (by decide +kernel) rfl rfl,
  pm_s_iconst C (n := 3) (by decide +kernel) rfl rfl,
  pm_s_callV C hR (n := 41) (ci := 6) rfl (by decide +kernel) pm_ml_X5_41 pm_im49 pm_se49 pm_in_X6 pm_cw49 pm_q49 (by decide) rfl,
  pm_s_iast C (by decide +kernel) rfl,
  pm_s_aload_n C (n := 0) (by decide +kernel) rfl rfl,
  pm_s_getf C (n := 15) (ci := 5) rfl rfl wiX5 (by decide) (by decide +kernel) pm_fl_X5_15 rfl,
  pm_s_iload_n C (n := 2) (by decide +kernel) rfl rfl,
  pm_s_aload_n C (n := 1) (by decide +kernel) rfl rfl,
  pm_s_iload_n C (n := 2) (by decide +kernel) rfl rfl,
  pm_s_iconst C (n := 4) (by decide +kernel) rfl rfl,
  pm_s_callV C hR (n := 41) (ci := 6) rfl (by decide +kernel) pm_ml_X5_41 pm_im49 pm_se49 pm_in_X6 pm_cw49 pm_q49 (by decide) rfl,
  pm_s_iast C (by decide +kernel) rfl,
  pm_s_aload_n C (n := 0) (by decide +kernel) rfl rfl,
  pm_s_getf C (n := 18) (ci := 5) rfl rfl wiX5 (by decide) (by decide +kernel) pm_fl_X5_18 rfl,
  pm_s_iload_n C (n := 2) (by decide +kernel) rfl rfl,
  pm_s_aload_n C (n := 1) (by decide +kernel) rfl rfl,
  pm_s_iload_n C (n := 2) (by decide +kernel) rfl rfl,
  pm_s_iconst C (n := 5) (by decide +kernel) rfl rfl,
  pm_s_callV C hR (n := 41) (ci := 6) rfl (by decide +kernel) pm_ml_X5_41 pm_im49 pm_se49 pm_in_X6 pm_cw49 pm_q49 (by decide) rfl,
  pm_s_iast C (by decide +kernel) rfl,
  pm_s_iinc C (n := 1) (by decide +kernel) rfl rfl,
  pm_s_goto C (off := -47) (by decide +kernel) (by decide +kernel),
  pm_s_vret (by decide +kernel) rfl,
  trivial⟩
def bp_X5_knows : List Nat := [0, 1, 4, 5, 6, 9, 12, 13, 14, 17, 18, 21, 22]
def co_X5_knows : List pm_Op := [
  pm_iload 1,
  pm_iflt 11,
  pm_iload 1,
  pm_aload 0,
  pm_getf 5 3,
  pm_cmpge 11,
  pm_iload 1,
  pm_push (5),
  pm_cmpge 11,
  pm_push (1),
  pm_goto 12,
  pm_push (0),
  pm_zret]
set_option maxRecDepth 20000 in
set_option maxHeartbeats 4000000 in
theorem ms_X5_knows : pm_MS 30 RX5 bp_X5_knows co_X5_knows := fun p l e R s m args below meth c cells slots Qm D cs ad sz d C hR => ⟨
  pm_s_iload_n C (n := 1) (by decide +kernel) rfl rfl,
  pm_s_iflt C (off := 20) (by decide +kernel) (by decide +kernel) rfl,
  pm_s_iload_n C (n := 1) (by decide +kernel) rfl rfl,
  pm_s_aload_n C (n := 0) (by decide +kernel) rfl rfl,
  pm_s_getf C (n := 38) (ci := 5) rfl rfl wiX5 (by decide) (by decide +kernel) pm_fl_X5_38 rfl,
  pm_s_cmpge C (off := 12) (by decide +kernel) (by decide +kernel) rfl,
  pm_s_iload_n C (n := 1) (by decide +kernel) rfl rfl,
  pm_s_iconst C (n := 5) (by decide +kernel) rfl rfl,
  pm_s_cmpge C (off := 7) (by decide +kernel) (by decide +kernel) rfl,
  pm_s_iconst C (n := 1) (by decide +kernel) rfl rfl,
  pm_s_goto C (off := 4) (by decide +kernel) (by decide +kernel),
  pm_s_iconst C (n := 0) (by decide +kernel) rfl rfl,
  pm_s_zret (by decide +kernel) rfl,
  trivial⟩
def bp_X5_everybody : List Nat := [0, 1, 2, 5, 6, 7, 8]
def co_X5_everybody : List pm_Op := [
  pm_push (1),
  pm_aload 0,
  pm_getf 5 3,
  pm_bin (fun x y => x <<< (y &&& 31)),
  pm_push (1),
  pm_bin (fun x y => x - y),
  pm_iret]
set_option maxRecDepth 20000 in
set_option maxHeartbeats 4000000 in
theorem ms_X5_everybody : pm_MS 31 RX5 bp_X5_everybody co_X5_everybody := fun p l e R s m args below meth c cells slots Qm D cs ad sz d C hR => ⟨
  pm_s_iconst C (n := 1) (by decide +kernel) rfl rfl,
  pm_s_aload_n C (n := 0) (by decide +kernel) rfl rfl,
  pm_s_getf C (n := 38) (ci := 5) rfl rfl wiX5 (by decide) (by decide +kernel) pm_fl_X5_38 rfl,
  pm_s_ishl C (by decide +kernel) rfl,
  pm_s_iconst C (n := 1) (by decide +kernel) rfl rfl,
  pm_s_isub C (by decide +kernel) rfl,
  pm_s_iret (by decide +kernel) rfl,
  trivial⟩
def bp_X5_canSpeak : List Nat := [0, 1, 2, 5, 8, 9, 10, 11, 12, 15, 16, 17, 20, 21, 24, 25, 26, 28, 31, 32, 35, 36, 37, 38, 41, 42, 43, 44, 45, 47, 49, 50, 53, 56, 57, 58, 60, 63, 66, 67, 70, 71]
def co_X5_canSpeak : List pm_Op := [
  pm_aload 0,
  pm_iload 2,
  pm_callV 5 30 2,
  pm_ifne 6,
  pm_push (0),
  pm_zret,
  pm_aload 0,
  pm_iload 2,
  pm_callV 5 43 2,
  pm_istore 3,
  pm_iload 3,
  pm_iflt 22,
  pm_aload 1,
  pm_getf 4 1,
  pm_iload 3,
  pm_bin (fun x y => x + y),
  pm_push (60),
  pm_cmpgt 20,
  pm_push (1),
  pm_goto 21,
  pm_push (0),
  pm_zret,
  pm_aload 1,
  pm_getf 4 0,
  pm_iload 2,
  pm_iald,
  pm_push (1),
  pm_bin (fun x y => x + y),
  pm_istore 4,
  pm_iload 4,
  pm_aload 1,
  pm_getf 4 1,
  pm_cmpge 40,
  pm_aload 0,
  pm_aload 1,
  pm_iload 4,
  pm_callV 5 42 3,
  pm_ifne 40,
  pm_push (1),
  pm_goto 41,
  pm_push (0),
  pm_zret]
set_option maxRecDepth 20000 in
set_option maxHeartbeats 4000000 in
theorem ms_X5_canSpeak : pm_MS 32 RX5 bp_X5_canSpeak co_X5_canSpeak := fun p l e R s m args below meth c cells slots Qm D cs ad sz d C hR => ⟨
  pm_s_aload_n C (n := 0) (by decide +kernel) rfl rfl,
  pm_s_iload_n C (n := 2) (by decide +kernel) rfl rfl,
  pm_s_callV C hR (n := 45) (ci := 5) rfl (by decide +kernel) pm_ml_X5_45 pm_im30 pm_se30 pm_in_X5 pm_cw30 pm_q30 (by decide) rfl,
  pm_s_ifne C (off := 5) (by decide +kernel) (by decide +kernel) rfl,
  pm_s_iconst C (n := 0) (by decide +kernel) rfl rfl,
  pm_s_zret (by decide +kernel) rfl,
  pm_s_aload_n C (n := 0) (by decide +kernel) rfl rfl,
  pm_s_iload_n C (n := 2) (by decide +kernel) rfl rfl,
  pm_s_callV C hR (n := 49) (ci := 5) rfl (by decide +kernel) pm_ml_X5_49 pm_im43 pm_se43 pm_in_X5 pm_cw43 pm_q43 (by decide) rfl,
  pm_s_istore_n C (n := 3) (by decide +kernel) rfl rfl,
  pm_s_iload_n C (n := 3) (by decide +kernel) rfl rfl,
  pm_s_iflt C (off := 20) (by decide +kernel) (by decide +kernel) rfl,
  pm_s_aload_n C (n := 1) (by decide +kernel) rfl rfl,
  pm_s_getfN C (n := 52) (ci := 4) rfl rfl wiX4 (by decide) (by decide +kernel) pm_fn_X5_52 rfl,
  pm_s_iload_n C (n := 3) (by decide +kernel) rfl rfl,
  pm_s_iadd C (by decide +kernel) rfl,
  pm_s_bipush C (n := 60) (by decide +kernel) rfl rfl,
  pm_s_cmpgt C (off := 7) (by decide +kernel) (by decide +kernel) rfl,
  pm_s_iconst C (n := 1) (by decide +kernel) rfl rfl,
  pm_s_goto C (off := 4) (by decide +kernel) (by decide +kernel),
  pm_s_iconst C (n := 0) (by decide +kernel) rfl rfl,
  pm_s_zret (by decide +kernel) rfl,
  pm_s_aload_n C (n := 1) (by decide +kernel) rfl rfl,
  pm_s_getfN C (n := 57) (ci := 4) rfl rfl wiX4 (by decide) (by decide +kernel) pm_fn_X5_57 rfl,
  pm_s_iload_n C (n := 2) (by decide +kernel) rfl rfl,
  pm_s_iald C (by decide +kernel) rfl,
  pm_s_iconst C (n := 1) (by decide +kernel) rfl rfl,
  pm_s_iadd C (by decide +kernel) rfl,
  pm_s_istore C (by decide +kernel) rfl,
  pm_s_iload C (by decide +kernel) rfl,
  pm_s_aload_n C (n := 1) (by decide +kernel) rfl rfl,
  pm_s_getfN C (n := 52) (ci := 4) rfl rfl wiX4 (by decide) (by decide +kernel) pm_fn_X5_52 rfl,
  pm_s_cmpge C (off := 17) (by decide +kernel) (by decide +kernel) rfl,
  pm_s_aload_n C (n := 0) (by decide +kernel) rfl rfl,
  pm_s_aload_n C (n := 1) (by decide +kernel) rfl rfl,
  pm_s_iload C (by decide +kernel) rfl,
  pm_s_callV C hR (n := 60) (ci := 5) rfl (by decide +kernel) pm_ml_X5_60 pm_im42 pm_se42 pm_in_X5 pm_cw42 pm_q42 (by decide) rfl,
  pm_s_ifne C (off := 7) (by decide +kernel) (by decide +kernel) rfl,
  pm_s_iconst C (n := 1) (by decide +kernel) rfl rfl,
  pm_s_goto C (off := 4) (by decide +kernel) (by decide +kernel),
  pm_s_iconst C (n := 0) (by decide +kernel) rfl rfl,
  pm_s_zret (by decide +kernel) rfl,
  trivial⟩
def bp_X5_speak : List Nat := [0, 1, 2, 5, 8, 9, 10, 11, 14, 15, 16, 19, 20, 21, 23, 24, 26, 28, 29, 32, 35, 36, 39, 41, 42, 44, 47, 48, 51, 53, 54, 55, 56, 57, 58, 61, 64, 65, 68, 70, 73, 74, 75, 78, 79, 80, 83, 84, 85, 88, 89, 90, 93]
def co_X5_speak : List pm_Op := [
  pm_aload 0,
  pm_iload 2,
  pm_callV 5 30 2,
  pm_ifne 5,
  pm_vret,
  pm_aload 0,
  pm_iload 2,
  pm_callV 5 43 2,
  pm_istore 3,
  pm_aload 1,
  pm_getf 4 0,
  pm_iload 2,
  pm_iald,
  pm_istore 4,
  pm_push (0),
  pm_istore 5,
  pm_iload 5,
  pm_aload 0,
  pm_getf 5 3,
  pm_cmpge 36,
  pm_aload 1,
  pm_getf 4 0,
  pm_iload 5,
  pm_iald,
  pm_iload 4,
  pm_cmple 34,
  pm_aload 1,
  pm_getf 4 0,
  pm_iload 5,
  pm_dup2,
  pm_iald,
  pm_iload 3,
  pm_bin (fun x y => x + y),
  pm_iast,
  pm_iinc 5 (1),
  pm_goto 16,
  pm_aload 1,
  pm_getf 4 2,
  pm_iload 4,
  pm_cmple 46,
  pm_aload 1,
  pm_dup,
  pm_getf 4 2,
  pm_iload 3,
  pm_bin (fun x y => x + y),
  pm_putf 4 2,
  pm_aload 1,
  pm_dup,
  pm_getf 4 1,
  pm_iload 3,
  pm_bin (fun x y => x + y),
  pm_putf 4 1,
  pm_vret]
set_option maxRecDepth 20000 in
set_option maxHeartbeats 4000000 in
theorem ms_X5_speak : pm_MS 33 RX5 bp_X5_speak co_X5_speak := fun p l e R s m args below meth c cells slots Qm D cs ad sz d C hR => ⟨
  pm_s_aload_n C (n := 0) (by decide +kernel) rfl rfl,
  pm_s_iload_n C (n := 2) (by decide +kernel) rfl rfl,
  pm_s_callV C hR (n := 45) (ci := 5) rfl (by decide +kernel) pm_ml_X5_45 pm_im30 pm_se30 pm_in_X5 pm_cw30 pm_q30 (by decide) rfl,
  pm_s_ifne C (off := 4) (by decide +kernel) (by decide +kernel) rfl,
  pm_s_vret (by decide +kernel) rfl,
  pm_s_aload_n C (n := 0) (by decide +kernel) rfl rfl,
  pm_s_iload_n C (n := 2) (by decide +kernel) rfl rfl,
  pm_s_callV C hR (n := 49) (ci := 5) rfl (by decide +kernel) pm_ml_X5_49 pm_im43 pm_se43 pm_in_X5 pm_cw43 pm_q43 (by decide) rfl,
  pm_s_istore_n C (n := 3) (by decide +kernel) rfl rfl,
  pm_s_aload_n C (n := 1) (by decide +kernel) rfl rfl,
  pm_s_getfN C (n := 57) (ci := 4) rfl rfl wiX4 (by decide) (by decide +kernel) pm_fn_X5_57 rfl,
  pm_s_iload_n C (n := 2) (by decide +kernel) rfl rfl,
  pm_s_iald C (by decide +kernel) rfl,
  pm_s_istore C (by decide +kernel) rfl,
  pm_s_iconst C (n := 0) (by decide +kernel) rfl rfl,
  pm_s_istore C (by decide +kernel) rfl,
  pm_s_iload C (by decide +kernel) rfl,
  pm_s_aload_n C (n := 0) (by decide +kernel) rfl rfl,
  pm_s_getf C (n := 38) (ci := 5) rfl rfl wiX5 (by decide) (by decide +kernel) pm_fl_X5_38 rfl,
  pm_s_cmpge C (off := 32) (by decide +kernel) (by decide +kernel) rfl,
  pm_s_aload_n C (n := 1) (by decide +kernel) rfl rfl,
  pm_s_getfN C (n := 57) (ci := 4) rfl rfl wiX4 (by decide) (by decide +kernel) pm_fn_X5_57 rfl,
  pm_s_iload C (by decide +kernel) rfl,
  pm_s_iald C (by decide +kernel) rfl,
  pm_s_iload C (by decide +kernel) rfl,
  pm_s_cmple C (off := 14) (by decide +kernel) (by decide +kernel) rfl,
  pm_s_aload_n C (n := 1) (by decide +kernel) rfl rfl,
  pm_s_getfN C (n := 57) (ci := 4) rfl rfl wiX4 (by decide) (by decide +kernel) pm_fn_X5_57 rfl,
  pm_s_iload C (by decide +kernel) rfl,
  pm_s_dup2 C (by decide +kernel) rfl,
  pm_s_iald C (by decide +kernel) rfl,
  pm_s_iload_n C (n := 3) (by decide +kernel) rfl rfl,
  pm_s_iadd C (by decide +kernel) rfl,
  pm_s_iast C (by decide +kernel) rfl,
  pm_s_iinc C (n := 1) (by decide +kernel) rfl rfl,
  pm_s_goto C (off := -35) (by decide +kernel) (by decide +kernel),
  pm_s_aload_n C (n := 1) (by decide +kernel) rfl rfl,
  pm_s_getfN C (n := 64) (ci := 4) rfl rfl wiX4 (by decide) (by decide +kernel) pm_fn_X5_64 rfl,
  pm_s_iload C (by decide +kernel) rfl,
  pm_s_cmple C (off := 13) (by decide +kernel) (by decide +kernel) rfl,
  pm_s_aload_n C (n := 1) (by decide +kernel) rfl rfl,
  pm_s_dup C (by decide +kernel) rfl,
  pm_s_getfN C (n := 64) (ci := 4) rfl rfl wiX4 (by decide) (by decide +kernel) pm_fn_X5_64 rfl,
  pm_s_iload_n C (n := 3) (by decide +kernel) rfl rfl,
  pm_s_iadd C (by decide +kernel) rfl,
  pm_s_putfN C (n := 64) (ci := 4) rfl rfl wiX4 (by decide) tyX4 tyX4_ok nmX4 rfl (by decide +kernel) (by decide +kernel) pm_fn_X5_64 rfl,
  pm_s_aload_n C (n := 1) (by decide +kernel) rfl rfl,
  pm_s_dup C (by decide +kernel) rfl,
  pm_s_getfN C (n := 52) (ci := 4) rfl rfl wiX4 (by decide) (by decide +kernel) pm_fn_X5_52 rfl,
  pm_s_iload_n C (n := 3) (by decide +kernel) rfl rfl,
  pm_s_iadd C (by decide +kernel) rfl,
  pm_s_putfN C (n := 52) (ci := 4) rfl rfl wiX4 (by decide) tyX4 tyX4_ok nmX4 rfl (by decide +kernel) (by decide +kernel) pm_fn_X5_52 rfl,
  pm_s_vret (by decide +kernel) rfl,
  trivial⟩
def bp_X5_speakIfCan : List Nat := [0, 1, 2, 3, 6, 9, 10, 11, 12, 13, 14, 17, 18]
def co_X5_speakIfCan : List pm_Op := [
  pm_aload 0,
  pm_aload 1,
  pm_iload 2,
  pm_callV 5 32 3,
  pm_ifne 7,
  pm_push (0),
  pm_zret,
  pm_aload 0,
  pm_aload 1,
  pm_iload 2,
  pm_callV 5 33 3,
  pm_push (1),
  pm_zret]
set_option maxRecDepth 20000 in
set_option maxHeartbeats 4000000 in
theorem ms_X5_speakIfCan : pm_MS 34 RX5 bp_X5_speakIfCan co_X5_speakIfCan := fun p l e R s m args below meth c cells slots Qm D cs ad sz d C hR => ⟨
  pm_s_aload_n C (n := 0) (by decide +kernel) rfl rfl,
  pm_s_aload_n C (n := 1) (by decide +kernel) rfl rfl,
  pm_s_iload_n C (n := 2) (by decide +kernel) rfl rfl,
  pm_s_callV C hR (n := 67) (ci := 5) rfl (by decide +kernel) pm_ml_X5_67 pm_im32 pm_se32 pm_in_X5 pm_cw32 pm_q32 (by decide) rfl,
  pm_s_ifne C (off := 5) (by decide +kernel) (by decide +kernel) rfl,
  pm_s_iconst C (n := 0) (by decide +kernel) rfl rfl,
  pm_s_zret (by decide +kernel) rfl,
  pm_s_aload_n C (n := 0) (by decide +kernel) rfl rfl,
  pm_s_aload_n C (n := 1) (by decide +kernel) rfl rfl,
  pm_s_iload_n C (n := 2) (by decide +kernel) rfl rfl,
  pm_s_callV C hR (n := 70) (ci := 5) rfl (by decide +kernel) pm_ml_X5_70 pm_im33 pm_se33 pm_in_X5 pm_cw33 pm_q33 (by decide) rfl,
  pm_s_iconst C (n := 1) (by decide +kernel) rfl rfl,
  pm_s_zret (by decide +kernel) rfl,
  trivial⟩
def bp_X5_hand : List Nat := [0, 1, 2, 5, 8, 9, 10, 13, 14, 15, 16, 17, 18, 19, 22, 23, 24, 27, 28, 31, 32, 35, 38, 39, 40, 43, 44, 47, 48, 51, 52, 53, 56, 57, 58, 61, 62, 63, 64, 65, 68]
def co_X5_hand : List pm_Op := [
  pm_aload 0,
  pm_iload 2,
  pm_callV 5 30 2,
  pm_ifne 5,
  pm_vret,
  pm_aload 1,
  pm_getf 4 0,
  pm_iload 2,
  pm_iald,
  pm_istore 3,
  pm_aload 1,
  pm_push (0),
  pm_aload 1,
  pm_getf 4 3,
  pm_iload 3,
  pm_aload 1,
  pm_getf 4 2,
  pm_bin (fun x y => x - y),
  pm_callS 153 1,
  pm_bin (fun x y => x - y),
  pm_callS 154 2,
  pm_putf 4 3,
  pm_aload 1,
  pm_iload 3,
  pm_putf 4 2,
  pm_aload 1,
  pm_getf 4 3,
  pm_aload 0,
  pm_getf 5 1,
  pm_iload 2,
  pm_iald,
  pm_cmplt 40,
  pm_aload 1,
  pm_dup,
  pm_getf 4 4,
  pm_push (1),
  pm_iload 2,
  pm_bin (fun x y => x <<< (y &&& 31)),
  pm_bin (fun x y => x ||| y),
  pm_putf 4 4,
  pm_vret]
set_option maxRecDepth 20000 in
set_option maxHeartbeats 4000000 in
theorem ms_X5_hand : pm_MS 35 RX5 bp_X5_hand co_X5_hand := fun p l e R s m args below meth c cells slots Qm D cs ad sz d C hR => ⟨
  pm_s_aload_n C (n := 0) (by decide +kernel) rfl rfl,
  pm_s_iload_n C (n := 2) (by decide +kernel) rfl rfl,
  pm_s_callV C hR (n := 45) (ci := 5) rfl (by decide +kernel) pm_ml_X5_45 pm_im30 pm_se30 pm_in_X5 pm_cw30 pm_q30 (by decide) rfl,
  pm_s_ifne C (off := 4) (by decide +kernel) (by decide +kernel) rfl,
  pm_s_vret (by decide +kernel) rfl,
  pm_s_aload_n C (n := 1) (by decide +kernel) rfl rfl,
  pm_s_getfN C (n := 57) (ci := 4) rfl rfl wiX4 (by decide) (by decide +kernel) pm_fn_X5_57 rfl,
  pm_s_iload_n C (n := 2) (by decide +kernel) rfl rfl,
  pm_s_iald C (by decide +kernel) rfl,
  pm_s_istore_n C (n := 3) (by decide +kernel) rfl rfl,
  pm_s_aload_n C (n := 1) (by decide +kernel) rfl rfl,
  pm_s_iconst C (n := 0) (by decide +kernel) rfl rfl,
  pm_s_aload_n C (n := 1) (by decide +kernel) rfl rfl,
  pm_s_getfN C (n := 74) (ci := 4) rfl rfl wiX4 (by decide) (by decide +kernel) pm_fn_X5_74 rfl,
  pm_s_iload_n C (n := 3) (by decide +kernel) rfl rfl,
  pm_s_aload_n C (n := 1) (by decide +kernel) rfl rfl,
  pm_s_getfN C (n := 64) (ci := 4) rfl rfl wiX4 (by decide) (by decide +kernel) pm_fn_X5_64 rfl,
  pm_s_isub C (by decide +kernel) rfl,
  pm_s_callS C hR (n := 77) (by decide +kernel) pm_ml_X5_77 pm_ss153 pm_in_J9 pm_cw153 pm_q153 (by decide) rfl,
  pm_s_isub C (by decide +kernel) rfl,
  pm_s_callS C hR (n := 82) (by decide +kernel) pm_ml_X5_82 pm_ss154 pm_in_J9 pm_cw154 pm_q154 (by decide) rfl,
  pm_s_putfN C (n := 74) (ci := 4) rfl rfl wiX4 (by decide) tyX4 tyX4_ok nmX4 rfl (by decide +kernel) (by decide +kernel) pm_fn_X5_74 rfl,
  pm_s_aload_n C (n := 1) (by decide +kernel) rfl rfl,
  pm_s_iload_n C (n := 3) (by decide +kernel) rfl rfl,
  pm_s_putfN C (n := 64) (ci := 4) rfl rfl wiX4 (by decide) tyX4 tyX4_ok nmX4 rfl (by decide +kernel) (by decide +kernel) pm_fn_X5_64 rfl,
  pm_s_aload_n C (n := 1) (by decide +kernel) rfl rfl,
  pm_s_getfN C (n := 74) (ci := 4) rfl rfl wiX4 (by decide) (by decide +kernel) pm_fn_X5_74 rfl,
  pm_s_aload_n C (n := 0) (by decide +kernel) rfl rfl,
  pm_s_getf C (n := 15) (ci := 5) rfl rfl wiX5 (by decide) (by decide +kernel) pm_fl_X5_15 rfl,
  pm_s_iload_n C (n := 2) (by decide +kernel) rfl rfl,
  pm_s_iald C (by decide +kernel) rfl,
  pm_s_cmplt C (off := 15) (by decide +kernel) (by decide +kernel) rfl,
  pm_s_aload_n C (n := 1) (by decide +kernel) rfl rfl,
  pm_s_dup C (by decide +kernel) rfl,
  pm_s_getfN C (n := 85) (ci := 4) rfl rfl wiX4 (by decide) (by decide +kernel) pm_fn_X5_85 rfl,
  pm_s_iconst C (n := 1) (by decide +kernel) rfl rfl,
  pm_s_iload_n C (n := 2) (by decide +kernel) rfl rfl,
  pm_s_ishl C (by decide +kernel) rfl,
  pm_s_ior C (by decide +kernel) rfl,
  pm_s_putfN C (n := 85) (ci := 4) rfl rfl wiX4 (by decide) tyX4 tyX4_ok nmX4 rfl (by decide +kernel) (by decide +kernel) pm_fn_X5_85 rfl,
  pm_s_vret (by decide +kernel) rfl,
  trivial⟩
def bp_X5_refill : List Nat := [0, 1, 2, 5, 6, 7, 10, 13]
def co_X5_refill : List pm_Op := [
  pm_aload 1,
  pm_push (0),
  pm_putf 4 2,
  pm_aload 1,
  pm_aload 0,
  pm_getf 5 4,
  pm_putf 4 3,
  pm_vret]
set_option maxRecDepth 20000 in
set_option maxHeartbeats 4000000 in
theorem ms_X5_refill : pm_MS 36 RX5 bp_X5_refill co_X5_refill := fun p l e R s m args below meth c cells slots Qm D cs ad sz d C hR => ⟨
  pm_s_aload_n C (n := 1) (by decide +kernel) rfl rfl,
  pm_s_iconst C (n := 0) (by decide +kernel) rfl rfl,
  pm_s_putfN C (n := 64) (ci := 4) rfl rfl wiX4 (by decide) tyX4 tyX4_ok nmX4 rfl (by decide +kernel) (by decide +kernel) pm_fn_X5_64 rfl,
  pm_s_aload_n C (n := 1) (by decide +kernel) rfl rfl,
  pm_s_aload_n C (n := 0) (by decide +kernel) rfl rfl,
  pm_s_getf C (n := 21) (ci := 5) rfl rfl wiX5 (by decide) (by decide +kernel) pm_fl_X5_21 rfl,
  pm_s_putfN C (n := 74) (ci := 4) rfl rfl wiX4 (by decide) tyX4 tyX4_ok nmX4 rfl (by decide +kernel) (by decide +kernel) pm_fn_X5_74 rfl,
  pm_s_vret (by decide +kernel) rfl,
  trivial⟩
def bp_X5_hearers : List Nat := [0, 1, 2, 3, 4, 5, 6, 7, 10, 12, 13, 15, 17, 18, 21, 24, 26, 28, 31, 32, 35, 37, 38, 40, 42, 43, 44, 45, 48, 51, 52, 53, 54, 55, 57, 58, 59, 60, 62, 63, 64, 65, 67, 68, 69, 72, 74, 77, 80, 81]
def co_X5_hearers : List pm_Op := [
  pm_push (0),
  pm_istore 2,
  pm_push (0),
  pm_istore 3,
  pm_aload 0,
  pm_aload 1,
  pm_push (0),
  pm_callV 5 41 3,
  pm_istore 4,
  pm_push (0),
  pm_istore 5,
  pm_iload 5,
  pm_aload 0,
  pm_getf 5 3,
  pm_cmpge 48,
  pm_iload 4,
  pm_push (-9),
  pm_cmpeq 48,
  pm_aload 1,
  pm_getf 4 0,
  pm_iload 4,
  pm_iald,
  pm_istore 6,
  pm_iload 6,
  pm_iload 3,
  pm_bin (fun x y => x - y),
  pm_aload 0,
  pm_getf 5 5,
  pm_cmple 31,
  pm_iload 2,
  pm_iret,
  pm_iload 2,
  pm_push (1),
  pm_iload 4,
  pm_bin (fun x y => x <<< (y &&& 31)),
  pm_bin (fun x y => x ||| y),
  pm_istore 2,
  pm_iload 6,
  pm_istore 3,
  pm_aload 0,
  pm_aload 1,
  pm_iload 6,
  pm_push (1),
  pm_bin (fun x y => x + y),
  pm_callV 5 41 3,
  pm_istore 4,
  pm_iinc 5 (1),
  pm_goto 11,
  pm_iload 2,
  pm_iret]
set_option maxRecDepth 20000 in
set_option maxHeartbeats 4000000 in
theorem ms_X5_hearers : pm_MS 37 RX5 bp_X5_hearers co_X5_hearers := fun p l e R s m args below meth c cells slots Qm D cs ad sz d C hR => ⟨
  pm_s_iconst C (n := 0) (by decide +kernel) rfl rfl,
  pm_s_istore_n C (n := 2) (by decide +kernel) rfl rfl,
  pm_s_iconst C (n := 0) (by decide +kernel) rfl rfl,
  pm_s_istore_n C (n := 3) (by decide +kernel) rfl rfl,
  pm_s_aload_n C (n := 0) (by decide +kernel) rfl rfl,
  pm_s_aload_n C (n := 1) (by decide +kernel) rfl rfl,
  pm_s_iconst C (n := 0) (by decide +kernel) rfl rfl,
  pm_s_callV C hR (n := 88) (ci := 5) rfl (by decide +kernel) pm_ml_X5_88 pm_im41 pm_se41 pm_in_X5 pm_cw41 pm_q41 (by decide) rfl,
  pm_s_istore C (by decide +kernel) rfl,
  pm_s_iconst C (n := 0) (by decide +kernel) rfl rfl,
  pm_s_istore C (by decide +kernel) rfl,
  pm_s_iload C (by decide +kernel) rfl,
  pm_s_aload_n C (n := 0) (by decide +kernel) rfl rfl,
  pm_s_getf C (n := 38) (ci := 5) rfl rfl wiX5 (by decide) (by decide +kernel) pm_fl_X5_38 rfl,
  pm_s_cmpge C (off := 59) (by decide +kernel) (by decide +kernel) rfl,
  pm_s_iload C (by decide +kernel) rfl,
  pm_s_bipush C (n := -9) (by decide +kernel) rfl rfl,
  pm_s_cmpeq C (off := 52) (by decide +kernel) (by decide +kernel) rfl,
  pm_s_aload_n C (n := 1) (by decide +kernel) rfl rfl,
  pm_s_getfN C (n := 57) (ci := 4) rfl rfl wiX4 (by decide) (by decide +kernel) pm_fn_X5_57 rfl,
  pm_s_iload C (by decide +kernel) rfl,
  pm_s_iald C (by decide +kernel) rfl,
  pm_s_istore C (by decide +kernel) rfl,
  pm_s_iload C (by decide +kernel) rfl,
  pm_s_iload_n C (n := 3) (by decide +kernel) rfl rfl,
  pm_s_isub C (by decide +kernel) rfl,
  pm_s_aload_n C (n := 0) (by decide +kernel) rfl rfl,
  pm_s_getf C (n := 25) (ci := 5) rfl rfl wiX5 (by decide) (by decide +kernel) pm_fl_X5_25 rfl,
  pm_s_cmple C (off := 5) (by decide +kernel) (by decide +kernel) rfl,
  pm_s_iload_n C (n := 2) (by decide +kernel) rfl rfl,
  pm_s_iret (by decide +kernel) rfl,
  pm_s_iload_n C (n := 2) (by decide +kernel) rfl rfl,
  pm_s_iconst C (n := 1) (by decide +kernel) rfl rfl,
  pm_s_iload C (by decide +kernel) rfl,
  pm_s_ishl C (by decide +kernel) rfl,
  pm_s_ior C (by decide +kernel) rfl,
  pm_s_istore_n C (n := 2) (by decide +kernel) rfl rfl,
  pm_s_iload C (by decide +kernel) rfl,
  pm_s_istore_n C (n := 3) (by decide +kernel) rfl rfl,
  pm_s_aload_n C (n := 0) (by decide +kernel) rfl rfl,
  pm_s_aload_n C (n := 1) (by decide +kernel) rfl rfl,
  pm_s_iload C (by decide +kernel) rfl,
  pm_s_iconst C (n := 1) (by decide +kernel) rfl rfl,
  pm_s_iadd C (by decide +kernel) rfl,
  pm_s_callV C hR (n := 88) (ci := 5) rfl (by decide +kernel) pm_ml_X5_88 pm_im41 pm_se41 pm_in_X5 pm_cw41 pm_q41 (by decide) rfl,
  pm_s_istore C (by decide +kernel) rfl,
  pm_s_iinc C (n := 1) (by decide +kernel) rfl rfl,
  pm_s_goto C (off := -62) (by decide +kernel) (by decide +kernel),
  pm_s_iload_n C (n := 2) (by decide +kernel) rfl rfl,
  pm_s_iret (by decide +kernel) rfl,
  trivial⟩
def bp_X5_doAllHear : List Nat := [0, 1, 2, 5, 6, 9, 12, 13, 16, 17]
def co_X5_doAllHear : List pm_Op := [
  pm_aload 0,
  pm_aload 1,
  pm_callV 5 37 2,
  pm_aload 0,
  pm_callV 5 31 1,
  pm_cmpne 8,
  pm_push (1),
  pm_goto 9,
  pm_push (0),
  pm_zret]
set_option maxRecDepth 20000 in
set_option maxHeartbeats 4000000 in
theorem ms_X5_doAllHear : pm_MS 38 RX5 bp_X5_doAllHear co_X5_doAllHear := fun p l e R s m args below meth c cells slots Qm D cs ad sz d C hR => ⟨
  pm_s_aload_n C (n := 0) (by decide +kernel) rfl rfl,
  pm_s_aload_n C (n := 1) (by decide +kernel) rfl rfl,
  pm_s_callV C hR (n := 92) (ci := 5) rfl (by decide +kernel) pm_ml_X5_92 pm_im37 pm_se37 pm_in_X5 pm_cw37 pm_q37 (by decide) rfl,
  pm_s_aload_n C (n := 0) (by decide +kernel) rfl rfl,
  pm_s_callV C hR (n := 96) (ci := 5) rfl (by decide +kernel) pm_ml_X5_96 pm_im31 pm_se31 pm_in_X5 pm_cw31 pm_q31 (by decide) rfl,
  pm_s_cmpne C (off := 7) (by decide +kernel) (by decide +kernel) rfl,
  pm_s_iconst C (n := 1) (by decide +kernel) rfl rfl,
  pm_s_goto C (off := 4) (by decide +kernel) (by decide +kernel),
  pm_s_iconst C (n := 0) (by decide +kernel) rfl rfl,
  pm_s_zret (by decide +kernel) rfl,
  trivial⟩
def bp_X5_turnOfEars : List Nat := [0, 1, 2, 5, 6, 7, 8, 9, 11, 13, 14, 17, 20, 21, 22, 24, 25, 26, 27, 28, 31, 33, 34, 35, 36, 37, 40, 43, 44]
def co_X5_turnOfEars : List pm_Op := [
  pm_aload 0,
  pm_aload 1,
  pm_callV 5 37 2,
  pm_istore 2,
  pm_push (0),
  pm_istore 3,
  pm_push (0),
  pm_istore 4,
  pm_iload 4,
  pm_aload 0,
  pm_getf 5 3,
  pm_cmpge 27,
  pm_iload 3,
  pm_iload 2,
  pm_iload 4,
  pm_bin (fun x y => x >>> (y &&& 31)),
  pm_push (1),
  pm_bin (fun x y => x &&& y),
  pm_aload 0,
  pm_getf 5 2,
  pm_iload 4,
  pm_iald,
  pm_bin (fun x y => x * y),
  pm_bin (fun x y => x + y),
  pm_istore 3,
  pm_iinc 4 (1),
  pm_goto 8,
  pm_iload 3,
  pm_iret]
set_option maxRecDepth 20000 in
set_option maxHeartbeats 4000000 in
theorem ms_X5_turnOfEars : pm_MS 39 RX5 bp_X5_turnOfEars co_X5_turnOfEars := fun p l e R s m args below meth c cells slots Qm D cs ad sz d C hR => ⟨
  pm_s_aload_n C (n := 0) (by decide +kernel) rfl rfl,
  pm_s_aload_n C (n := 1) (by decide +kernel) rfl rfl,
  pm_s_callV C hR (n := 92) (ci := 5) rfl (by decide +kernel) pm_ml_X5_92 pm_im37 pm_se37 pm_in_X5 pm_cw37 pm_q37 (by decide) rfl,
  pm_s_istore_n C (n := 2) (by decide +kernel) rfl rfl,
  pm_s_iconst C (n := 0) (by decide +kernel) rfl rfl,
  pm_s_istore_n C (n := 3) (by decide +kernel) rfl rfl,
  pm_s_iconst C (n := 0) (by decide +kernel) rfl rfl,
  pm_s_istore C (by decide +kernel) rfl,
  pm_s_iload C (by decide +kernel) rfl,
  pm_s_aload_n C (n := 0) (by decide +kernel) rfl rfl,
  pm_s_getf C (n := 38) (ci := 5) rfl rfl wiX5 (by decide) (by decide +kernel) pm_fl_X5_38 rfl,
  pm_s_cmpge C (off := 26) (by decide +kernel) (by decide +kernel) rfl,
  pm_s_iload_n C (n := 3) (by decide +kernel) rfl rfl,
  pm_s_iload_n C (n := 2) (by decide +kernel) rfl rfl,
  pm_s_iload C (by decide +kernel) rfl,
  pm_s_ishr C (by decide +kernel) rfl,
  pm_s_iconst C (n := 1) (by decide +kernel) rfl rfl,
  pm_s_iand C (by decide +kernel) rfl,
  pm_s_aload_n C (n := 0) (by decide +kernel) rfl rfl,
  pm_s_getf C (n := 18) (ci := 5) rfl rfl wiX5 (by decide) (by decide +kernel) pm_fl_X5_18 rfl,
  pm_s_iload C (by decide +kernel) rfl,
  pm_s_iald C (by decide +kernel) rfl,
  pm_s_imul C (by decide +kernel) rfl,
  pm_s_iadd C (by decide +kernel) rfl,
  pm_s_istore_n C (n := 3) (by decide +kernel) rfl rfl,
  pm_s_iinc C (n := 1) (by decide +kernel) rfl rfl,
  pm_s_goto C (off := -29) (by decide +kernel) (by decide +kernel),
  pm_s_iload_n C (n := 3) (by decide +kernel) rfl rfl,
  pm_s_iret (by decide +kernel) rfl,
  trivial⟩
def bp_X5_farthest : List Nat := [0, 2, 3, 4, 5, 6, 8, 10, 11, 14, 17, 18, 21, 23, 24, 25, 28, 29, 32, 34, 35, 36, 38, 39, 42, 45, 46]
def co_X5_farthest : List pm_Op := [
  pm_push (-9),
  pm_istore 2,
  pm_push (-1),
  pm_istore 3,
  pm_push (0),
  pm_istore 4,
  pm_iload 4,
  pm_aload 0,
  pm_getf 5 3,
  pm_cmpge 25,
  pm_aload 1,
  pm_getf 4 0,
  pm_iload 4,
  pm_iald,
  pm_iload 3,
  pm_cmple 23,
  pm_aload 1,
  pm_getf 4 0,
  pm_iload 4,
  pm_iald,
  pm_istore 3,
  pm_iload 4,
  pm_istore 2,
  pm_iinc 4 (1),
  pm_goto 6,
  pm_iload 2,
  pm_iret]
set_option maxRecDepth 20000 in
set_option maxHeartbeats 4000000 in
theorem ms_X5_farthest : pm_MS 40 RX5 bp_X5_farthest co_X5_farthest := fun p l e R s m args below meth c cells slots Qm D cs ad sz d C hR => ⟨
  pm_s_bipush C (n := -9) (by decide +kernel) rfl rfl,
  pm_s_istore_n C (n := 2) (by decide +kernel) rfl rfl,
  pm_s_iconst C (n := -1) (by decide +kernel) rfl rfl,
  pm_s_istore_n C (n := 3) (by decide +kernel) rfl rfl,
  pm_s_iconst C (n := 0) (by decide +kernel) rfl rfl,
  pm_s_istore C (by decide +kernel) rfl,
  pm_s_iload C (by decide +kernel) rfl,
  pm_s_aload_n C (n := 0) (by decide +kernel) rfl rfl,
  pm_s_getf C (n := 38) (ci := 5) rfl rfl wiX5 (by decide) (by decide +kernel) pm_fl_X5_38 rfl,
  pm_s_cmpge C (off := 31) (by decide +kernel) (by decide +kernel) rfl,
  pm_s_aload_n C (n := 1) (by decide +kernel) rfl rfl,
  pm_s_getfN C (n := 57) (ci := 4) rfl rfl wiX4 (by decide) (by decide +kernel) pm_fn_X5_57 rfl,
  pm_s_iload C (by decide +kernel) rfl,
  pm_s_iald C (by decide +kernel) rfl,
  pm_s_iload_n C (n := 3) (by decide +kernel) rfl rfl,
  pm_s_cmple C (off := 14) (by decide +kernel) (by decide +kernel) rfl,
  pm_s_aload_n C (n := 1) (by decide +kernel) rfl rfl,
  pm_s_getfN C (n := 57) (ci := 4) rfl rfl wiX4 (by decide) (by decide +kernel) pm_fn_X5_57 rfl,
  pm_s_iload C (by decide +kernel) rfl,
  pm_s_iald C (by decide +kernel) rfl,
  pm_s_istore_n C (n := 3) (by decide +kernel) rfl rfl,
  pm_s_iload C (by decide +kernel) rfl,
  pm_s_istore_n C (n := 2) (by decide +kernel) rfl rfl,
  pm_s_iinc C (n := 1) (by decide +kernel) rfl rfl,
  pm_s_goto C (off := -34) (by decide +kernel) (by decide +kernel),
  pm_s_iload_n C (n := 2) (by decide +kernel) rfl rfl,
  pm_s_iret (by decide +kernel) rfl,
  trivial⟩
def bp_X5_nextFrom : List Nat := [0, 2, 3, 5, 7, 8, 10, 12, 13, 16, 19, 20, 23, 25, 26, 27, 30, 31, 34, 36, 37, 39, 42, 43, 46, 48, 49, 51, 53, 54, 57, 60, 61]
def co_X5_nextFrom : List pm_Op := [
  pm_push (-9),
  pm_istore 3,
  pm_push (60),
  pm_istore 4,
  pm_push (0),
  pm_istore 5,
  pm_iload 5,
  pm_aload 0,
  pm_getf 5 3,
  pm_cmpge 31,
  pm_aload 1,
  pm_getf 4 0,
  pm_iload 5,
  pm_iald,
  pm_iload 2,
  pm_cmplt 29,
  pm_aload 1,
  pm_getf 4 0,
  pm_iload 5,
  pm_iald,
  pm_iload 4,
  pm_cmpge 29,
  pm_aload 1,
  pm_getf 4 0,
  pm_iload 5,
  pm_iald,
  pm_istore 4,
  pm_iload 5,
  pm_istore 3,
  pm_iinc 5 (1),
  pm_goto 6,
  pm_iload 3,
  pm_iret]
set_option maxRecDepth 20000 in
set_option maxHeartbeats 4000000 in
theorem ms_X5_nextFrom : pm_MS 41 RX5 bp_X5_nextFrom co_X5_nextFrom := fun p l e R s m args below meth c cells slots Qm D cs ad sz d C hR => ⟨
  pm_s_bipush C (n := -9) (by decide +kernel) rfl rfl,
  pm_s_istore_n C (n := 3) (by decide +kernel) rfl rfl,
  pm_s_bipush C (n := 60) (by decide +kernel) rfl rfl,
  pm_s_istore C (by decide +kernel) rfl,
  pm_s_iconst C (n := 0) (by decide +kernel) rfl rfl,
  pm_s_istore C (by decide +kernel) rfl,
  pm_s_iload C (by decide +kernel) rfl,
  pm_s_aload_n C (n := 0) (by decide +kernel) rfl rfl,
  pm_s_getf C (n := 38) (ci := 5) rfl rfl wiX5 (by decide) (by decide +kernel) pm_fl_X5_38 rfl,
  pm_s_cmpge C (off := 44) (by decide +kernel) (by decide +kernel) rfl,
  pm_s_aload_n C (n := 1) (by decide +kernel) rfl rfl,
  pm_s_getfN C (n := 57) (ci := 4) rfl rfl wiX4 (by decide) (by decide +kernel) pm_fn_X5_57 rfl,
  pm_s_iload C (by decide +kernel) rfl,
  pm_s_iald C (by decide +kernel) rfl,
  pm_s_iload_n C (n := 2) (by decide +kernel) rfl rfl,
  pm_s_cmplt C (off := 27) (by decide +kernel) (by decide +kernel) rfl,
  pm_s_aload_n C (n := 1) (by decide +kernel) rfl rfl,
  pm_s_getfN C (n := 57) (ci := 4) rfl rfl wiX4 (by decide) (by decide +kernel) pm_fn_X5_57 rfl,
  pm_s_iload C (by decide +kernel) rfl,
  pm_s_iald C (by decide +kernel) rfl,
  pm_s_iload C (by decide +kernel) rfl,
  pm_s_cmpge C (off := 15) (by decide +kernel) (by decide +kernel) rfl,
  pm_s_aload_n C (n := 1) (by decide +kernel) rfl rfl,
  pm_s_getfN C (n := 57) (ci := 4) rfl rfl wiX4 (by decide) (by decide +kernel) pm_fn_X5_57 rfl,
  pm_s_iload C (by decide +kernel) rfl,
  pm_s_iald C (by decide +kernel) rfl,
  pm_s_istore C (by decide +kernel) rfl,
  pm_s_iload C (by decide +kernel) rfl,
  pm_s_istore_n C (n := 3) (by decide +kernel) rfl rfl,
  pm_s_iinc C (n := 1) (by decide +kernel) rfl rfl,
  pm_s_goto C (off := -47) (by decide +kernel) (by decide +kernel),
  pm_s_iload_n C (n := 3) (by decide +kernel) rfl rfl,
  pm_s_iret (by decide +kernel) rfl,
  trivial⟩
def bp_X5_isTaken : List Nat := [0, 1, 2, 3, 4, 7, 10, 11, 14, 15, 16, 17, 20, 21, 22, 25, 28, 29]
def co_X5_isTaken : List pm_Op := [
  pm_push (0),
  pm_istore 3,
  pm_iload 3,
  pm_aload 0,
  pm_getf 5 3,
  pm_cmpge 16,
  pm_aload 1,
  pm_getf 4 0,
  pm_iload 3,
  pm_iald,
  pm_iload 2,
  pm_cmpne 14,
  pm_push (1),
  pm_zret,
  pm_iinc 3 (1),
  pm_goto 2,
  pm_push (0),
  pm_zret]
set_option maxRecDepth 20000 in
set_option maxHeartbeats 4000000 in
theorem ms_X5_isTaken : pm_MS 42 RX5 bp_X5_isTaken co_X5_isTaken := fun p l e R s m args below meth c cells slots Qm D cs ad sz d C hR => ⟨
  pm_s_iconst C (n := 0) (by decide +kernel) rfl rfl,
  pm_s_istore_n C (n := 3) (by decide +kernel) rfl rfl,
  pm_s_iload_n C (n := 3) (by decide +kernel) rfl rfl,
  pm_s_aload_n C (n := 0) (by decide +kernel) rfl rfl,
  pm_s_getf C (n := 38) (ci := 5) rfl rfl wiX5 (by decide) (by decide +kernel) pm_fl_X5_38 rfl,
  pm_s_cmpge C (off := 21) (by decide +kernel) (by decide +kernel) rfl,
  pm_s_aload_n C (n := 1) (by decide +kernel) rfl rfl,
  pm_s_getfN C (n := 57) (ci := 4) rfl rfl wiX4 (by decide) (by decide +kernel) pm_fn_X5_57 rfl,
  pm_s_iload_n C (n := 3) (by decide +kernel) rfl rfl,
  pm_s_iald C (by decide +kernel) rfl,
  pm_s_iload_n C (n := 2) (by decide +kernel) rfl rfl,
  pm_s_cmpne C (off := 5) (by decide +kernel) (by decide +kernel) rfl,
  pm_s_iconst C (n := 1) (by decide +kernel) rfl rfl,
  pm_s_zret (by decide +kernel) rfl,
  pm_s_iinc C (n := 1) (by decide +kernel) rfl rfl,
  pm_s_goto C (off := -23) (by decide +kernel) (by decide +kernel),
  pm_s_iconst C (n := 0) (by decide +kernel) rfl rfl,
  pm_s_zret (by decide +kernel) rfl,
  trivial⟩
def bp_X5_growthOf : List Nat := [0, 1, 4, 5, 6, 7, 8, 11, 12, 13, 16, 19, 20, 21, 24, 25]
def co_X5_growthOf : List pm_Op := [
  pm_aload 0,
  pm_getf 5 0,
  pm_iload 1,
  pm_iald,
  pm_istore 2,
  pm_iload 2,
  pm_iflt 14,
  pm_iload 2,
  pm_push (4),
  pm_cmpge 14,
  pm_gets 36,
  pm_iload 2,
  pm_iald,
  pm_goto 15,
  pm_push (0),
  pm_iret]
set_option maxRecDepth 20000 in
set_option maxHeartbeats 4000000 in
theorem ms_X5_growthOf : pm_MS 43 RX5 bp_X5_growthOf co_X5_growthOf := fun p l e R s m args below meth c cells slots Qm D cs ad sz d C hR => ⟨
  pm_s_aload_n C (n := 0) (by decide +kernel) rfl rfl,
  pm_s_getf C (n := 9) (ci := 5) rfl rfl wiX5 (by decide) (by decide +kernel) pm_fl_X5_9 rfl,
  pm_s_iload_n C (n := 1) (by decide +kernel) rfl rfl,
  pm_s_iald C (by decide +kernel) rfl,
  pm_s_istore_n C (n := 2) (by decide +kernel) rfl rfl,
  pm_s_iload_n C (n := 2) (by decide +kernel) rfl rfl,
  pm_s_iflt C (off := 16) (by decide +kernel) (by decide +kernel) rfl,
  pm_s_iload_n C (n := 2) (by decide +kernel) rfl rfl,
  pm_s_iconst C (n := 4) (by decide +kernel) rfl rfl,
  pm_s_cmpge C (off := 11) (by decide +kernel) (by decide +kernel) rfl,
  pm_s_getsN C (n := 99) (by decide) (by decide) (by decide +kernel) pm_fn_X5_99 rfl,
  pm_s_iload_n C (n := 2) (by decide +kernel) rfl rfl,
  pm_s_iald C (by decide +kernel) rfl,
  pm_s_goto C (off := 4) (by decide +kernel) (by decide +kernel),
  pm_s_iconst C (n := 0) (by decide +kernel) rfl rfl,
  pm_s_iret (by decide +kernel) rfl,
  trivial⟩
