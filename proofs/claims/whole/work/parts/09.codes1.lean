/-! ===== codes 1 ===== -/
set_option maxRecDepth 20000 in
theorem pm_fl_X0_18 : Cond.fieldLink RX0 18 "LeafTable$Acts" "number" "I" ∈ wAll := wIn 160 rfl rfl
set_option maxRecDepth 20000 in
theorem pm_ml_X0_22 : Cond.methodLink RX0 22 (pm_m 2).1 ∈ wAll := wIn 386 rfl rfl
set_option maxRecDepth 20000 in
theorem pm_q2 : (pm_m 2).1.cls ≠ "java/lang/invoke/MethodHandle" ∧ (pm_m 2).1.cls ≠ "java/lang/invoke/VarHandle" ∧ (parseMethodDescriptor (pm_m 2).1.desc).map (fun d => d.parameters.length) = some 0 := by decide +kernel
set_option maxRecDepth 20000 in
theorem pm_in_X0 : Cond.initialized RX0 ∈ wAll := wIn 49 rfl rfl
set_option maxRecDepth 20000 in
theorem pm_im2 : Cond.instanceMethod (pm_m 2).1 ∈ wAll := wIn 388 rfl rfl
set_option maxRecDepth 20000 in
theorem pm_se2 : Cond.selects RX0 (pm_m 2).1 (pm_m 2).1 ∈ wAll := wIn 8 rfl rfl
set_option maxRecDepth 20000 in
theorem pm_fl_X0_11 : Cond.fieldLink RX0 11 "LeafTable$Acts" "before" "[LLeafTable$Seats;" ∈ wAll := wIn 159 rfl rfl
set_option maxRecDepth 20000 in
theorem pm_ml_X0_25 : Cond.methodLink RX0 25 (pm_m 27).1 ∈ wAll := wIn 390 rfl rfl
set_option maxRecDepth 20000 in
theorem pm_q27 : (pm_m 27).1.cls ≠ "java/lang/invoke/MethodHandle" ∧ (pm_m 27).1.cls ≠ "java/lang/invoke/VarHandle" ∧ (parseMethodDescriptor (pm_m 27).1.desc).map (fun d => d.parameters.length) = some 1 := by decide +kernel
set_option maxRecDepth 20000 in
theorem pm_in_X4 : Cond.initialized RX4 ∈ wAll := wIn 48 rfl rfl
set_option maxRecDepth 20000 in
theorem pm_im27 : Cond.instanceMethod (pm_m 27).1 ∈ wAll := wIn 391 rfl rfl
set_option maxRecDepth 20000 in
theorem pm_se27 : Cond.selects RX4 (pm_m 27).1 (pm_m 27).1 ∈ wAll := wIn 392 rfl rfl
set_option maxRecDepth 20000 in
theorem pm_fl_X4_9 : Cond.fieldLink RX4 9 "LeafTable$Seats" "leaves" "[I" ∈ wAll := wIn 120 rfl rfl
set_option maxRecDepth 20000 in
theorem pm_fl_X4_15 : Cond.fieldLink RX4 15 "LeafTable$Seats" "length" "I" ∈ wAll := wIn 123 rfl rfl
set_option maxRecDepth 20000 in
theorem pm_fl_X4_22 : Cond.fieldLink RX4 22 "LeafTable$Seats" "soup" "I" ∈ wAll := wIn 128 rfl rfl
set_option maxRecDepth 20000 in
theorem pm_fl_X4_19 : Cond.fieldLink RX4 19 "LeafTable$Seats" "warmth" "I" ∈ wAll := wIn 131 rfl rfl
set_option maxRecDepth 20000 in
theorem pm_fl_X4_25 : Cond.fieldLink RX4 25 "LeafTable$Seats" "served" "I" ∈ wAll := wIn 135 rfl rfl
set_option maxRecDepth 20000 in
theorem pm_ml_X4_28 : Cond.methodLink RX4 28 (pm_m 47).1 ∈ wAll := wIn 345 rfl rfl
set_option maxRecDepth 20000 in
theorem pm_q47 : (pm_m 47).1.cls ≠ "java/lang/invoke/MethodHandle" ∧ (pm_m 47).1.cls ≠ "java/lang/invoke/VarHandle" ∧ (parseMethodDescriptor (pm_m 47).1.desc).map (fun d => d.parameters.length) = some 0 := by decide +kernel
set_option maxRecDepth 20000 in
theorem pm_in_X6 : Cond.initialized RX6 ∈ wAll := wIn 46 rfl rfl
set_option maxRecDepth 20000 in
theorem pm_im47 : Cond.instanceMethod (pm_m 47).1 ∈ wAll := wIn 302 rfl rfl
set_option maxRecDepth 20000 in
theorem pm_se47 : Cond.selects RX6 (pm_m 47).1 (pm_m 47).1 ∈ wAll := wIn 303 rfl rfl
set_option maxRecDepth 20000 in
theorem pm_fn_X4_34 : (RX4, 34, "LeafTable$Table", "number", "I", "LeafTable") ∈ pm_nF := List.mem_of_getElem? (i := 5) rfl
set_option maxRecDepth 20000 in
theorem pm_ml_X4_39 : Cond.methodLink RX4 39 (pm_m 48).1 ∈ wAll := wIn 346 rfl rfl
set_option maxRecDepth 20000 in
theorem pm_q48 : (pm_m 48).1.cls ≠ "java/lang/invoke/MethodHandle" ∧ (pm_m 48).1.cls ≠ "java/lang/invoke/VarHandle" ∧ (parseMethodDescriptor (pm_m 48).1.desc).map (fun d => d.parameters.length) = some 1 := by decide +kernel
set_option maxRecDepth 20000 in
theorem pm_im48 : Cond.instanceMethod (pm_m 48).1 ∈ wAll := wIn 318 rfl rfl
set_option maxRecDepth 20000 in
theorem pm_se48 : Cond.selects RX6 (pm_m 48).1 (pm_m 48).1 ∈ wAll := wIn 319 rfl rfl
set_option maxRecDepth 20000 in
theorem pm_fn_X4_43 : (RX4, 43, "LeafTable$Table", "warm", "I", "LeafTable") ∈ pm_nF := List.mem_of_getElem? (i := 8) rfl
set_option maxRecDepth 20000 in
theorem pm_fl_X6_15 : Cond.fieldLink RX6 15 "LeafTable$Text" "size" "I" ∈ wAll := wIn 71 rfl rfl
set_option maxRecDepth 20000 in
theorem pm_fl_X6_9 : Cond.fieldLink RX6 9 "LeafTable$Text" "letters" "[I" ∈ wAll := wIn 70 rfl rfl
set_option maxRecDepth 20000 in
theorem pm_ml_X6_19 : Cond.methodLink RX6 19 (pm_m 52).1 ∈ wAll := wIn 289 rfl rfl
set_option maxRecDepth 20000 in
theorem pm_q52 : (pm_m 52).1.cls ≠ "java/lang/invoke/MethodHandle" ∧ (pm_m 52).1.cls ≠ "java/lang/invoke/VarHandle" ∧ (parseMethodDescriptor (pm_m 52).1.desc).map (fun d => d.parameters.length) = some 1 := by decide +kernel
set_option maxRecDepth 20000 in
theorem pm_im52 : Cond.instanceMethod (pm_m 52).1 ∈ wAll := wIn 291 rfl rfl
set_option maxRecDepth 20000 in
theorem pm_se52 : Cond.selects RX6 (pm_m 52).1 (pm_m 52).1 ∈ wAll := wIn 0 rfl rfl
set_option maxRecDepth 20000 in
theorem pm_ml_X6_23 : Cond.methodLink RX6 23 (pm_m 53).1 ∈ wAll := wIn 305 rfl rfl
set_option maxRecDepth 20000 in
theorem pm_q53 : (pm_m 53).1.cls ≠ "java/lang/invoke/MethodHandle" ∧ (pm_m 53).1.cls ≠ "java/lang/invoke/VarHandle" ∧ (parseMethodDescriptor (pm_m 53).1.desc).map (fun d => d.parameters.length) = some 1 := by decide +kernel
set_option maxRecDepth 20000 in
theorem pm_im53 : Cond.instanceMethod (pm_m 53).1 ∈ wAll := wIn 307 rfl rfl
set_option maxRecDepth 20000 in
theorem pm_se53 : Cond.selects RX6 (pm_m 53).1 (pm_m 53).1 ∈ wAll := wIn 2 rfl rfl
set_option maxRecDepth 20000 in
theorem pm_ml_X6_26 : Cond.methodLink RX6 26 (pm_m 155).1 ∈ wAll := wIn 334 rfl rfl
set_option maxRecDepth 20000 in
theorem pm_q155 : (pm_m 155).1.cls ≠ "java/lang/invoke/MethodHandle" ∧ (pm_m 155).1.cls ≠ "java/lang/invoke/VarHandle" ∧ (parseMethodDescriptor (pm_m 155).1.desc).map (fun d => d.parameters.length) = some 2 := by decide +kernel
set_option maxRecDepth 20000 in
theorem pm_in_J9 : Cond.initialized RJ9 ∈ wAll := wIn 54 rfl rfl
set_option maxRecDepth 20000 in
theorem pm_ss155 : Cond.static (pm_m 155).1 ∈ wAll := wIn 335 rfl rfl
set_option maxRecDepth 20000 in
theorem pm_ml_X6_32 : Cond.methodLink RX6 32 (pm_m 50).1 ∈ wAll := wIn 293 rfl rfl
set_option maxRecDepth 20000 in
theorem pm_q50 : (pm_m 50).1.cls ≠ "java/lang/invoke/MethodHandle" ∧ (pm_m 50).1.cls ≠ "java/lang/invoke/VarHandle" ∧ (parseMethodDescriptor (pm_m 50).1.desc).map (fun d => d.parameters.length) = some 1 := by decide +kernel
set_option maxRecDepth 20000 in
theorem pm_im50 : Cond.instanceMethod (pm_m 50).1 ∈ wAll := wIn 294 rfl rfl
set_option maxRecDepth 20000 in
theorem pm_se50 : Cond.selects RX6 (pm_m 50).1 (pm_m 50).1 ∈ wAll := wIn 295 rfl rfl
set_option maxRecDepth 20000 in
theorem pm_ml_X6_36 : Cond.methodLink RX6 36 (pm_m 51).1 ∈ wAll := wIn 297 rfl rfl
set_option maxRecDepth 20000 in
theorem pm_q51 : (pm_m 51).1.cls ≠ "java/lang/invoke/MethodHandle" ∧ (pm_m 51).1.cls ≠ "java/lang/invoke/VarHandle" ∧ (parseMethodDescriptor (pm_m 51).1.desc).map (fun d => d.parameters.length) = some 2 := by decide +kernel
set_option maxRecDepth 20000 in
theorem pm_im51 : Cond.instanceMethod (pm_m 51).1 ∈ wAll := wIn 299 rfl rfl
set_option maxRecDepth 20000 in
theorem pm_se51 : Cond.selects RX6 (pm_m 51).1 (pm_m 51).1 ∈ wAll := wIn 1 rfl rfl
set_option maxRecDepth 20000 in
theorem pm_ml_X6_40 : Cond.methodLink RX6 40 (pm_m 47).1 ∈ wAll := wIn 301 rfl rfl
set_option maxRecDepth 20000 in
theorem pm_ml_X6_44 : Cond.methodLink RX6 44 (pm_m 54).1 ∈ wAll := wIn 309 rfl rfl
set_option maxRecDepth 20000 in
theorem pm_q54 : (pm_m 54).1.cls ≠ "java/lang/invoke/MethodHandle" ∧ (pm_m 54).1.cls ≠ "java/lang/invoke/VarHandle" ∧ (parseMethodDescriptor (pm_m 54).1.desc).map (fun d => d.parameters.length) = some 2 := by decide +kernel
set_option maxRecDepth 20000 in
theorem pm_im54 : Cond.instanceMethod (pm_m 54).1 ∈ wAll := wIn 311 rfl rfl
set_option maxRecDepth 20000 in
theorem pm_se54 : Cond.selects RX6 (pm_m 54).1 (pm_m 54).1 ∈ wAll := wIn 3 rfl rfl
set_option maxRecDepth 20000 in
theorem pm_ml_X6_48 : Cond.methodLink RX6 48 (pm_m 48).1 ∈ wAll := wIn 317 rfl rfl
set_option maxRecDepth 20000 in
theorem pm_ml_X6_51 : Cond.methodLink RX6 51 (pm_m 55).1 ∈ wAll := wIn 313 rfl rfl
set_option maxRecDepth 20000 in
theorem pm_q55 : (pm_m 55).1.cls ≠ "java/lang/invoke/MethodHandle" ∧ (pm_m 55).1.cls ≠ "java/lang/invoke/VarHandle" ∧ (parseMethodDescriptor (pm_m 55).1.desc).map (fun d => d.parameters.length) = some 2 := by decide +kernel
set_option maxRecDepth 20000 in
theorem pm_im55 : Cond.instanceMethod (pm_m 55).1 ∈ wAll := wIn 315 rfl rfl
set_option maxRecDepth 20000 in
theorem pm_se55 : Cond.selects RX6 (pm_m 55).1 (pm_m 55).1 ∈ wAll := wIn 4 rfl rfl
set_option maxRecDepth 20000 in
theorem pm_k_J6_265 : Cond.constant RJ6 265 (1431655765) ∈ wAll := wIn 451 rfl rfl
set_option maxRecDepth 20000 in
theorem pm_k_J6_266 : Cond.constant RJ6 266 (858993459) ∈ wAll := wIn 452 rfl rfl
set_option maxRecDepth 20000 in
theorem pm_k_J6_267 : Cond.constant RJ6 267 (252645135) ∈ wAll := wIn 453 rfl rfl
def bp_X0_remember : List Nat := [0, 1, 4, 6, 9, 10, 13, 14, 17, 18, 21, 22, 23, 26, 27, 28, 31, 32, 33, 36]
def co_X0_remember : List pm_Op := [
  pm_aload 0,
  pm_getf 0 1,
  pm_push (14),
  pm_cmplt 6,
  pm_aload 0,
  pm_callV 0 2 1,
  pm_aload 0,
  pm_getf 0 0,
  pm_aload 0,
  pm_getf 0 1,
  pm_aald,
  pm_aload 1,
  pm_callV 4 27 2,
  pm_aload 0,
  pm_dup,
  pm_getf 0 1,
  pm_push (1),
  pm_bin (fun x y => x + y),
  pm_putf 0 1,
  pm_vret]
set_option maxRecDepth 20000 in
set_option maxHeartbeats 4000000 in
theorem ms_X0_remember : pm_MS 0 RX0 bp_X0_remember co_X0_remember := fun p l e R s m args below meth c cells slots Qm D cs ad sz d C hR => ⟨
  pm_s_aload_n C (n := 0) (by decide +kernel) rfl rfl,
  pm_s_getf C (n := 18) (ci := 0) rfl rfl wiX0 (by decide) (by decide +kernel) pm_fl_X0_18 rfl,
  pm_s_bipush C (n := 14) (by decide +kernel) rfl rfl,
  pm_s_cmplt C (off := 7) (by decide +kernel) (by decide +kernel) rfl,
  pm_s_aload_n C (n := 0) (by decide +kernel) rfl rfl,
  pm_s_callV C hR (n := 22) (ci := 0) rfl (by decide +kernel) pm_ml_X0_22 pm_im2 pm_se2 pm_in_X0 pm_cw2 pm_q2 (by decide) rfl,
  pm_s_aload_n C (n := 0) (by decide +kernel) rfl rfl,
  pm_s_getf C (n := 11) (ci := 0) rfl rfl wiX0 (by decide) (by decide +kernel) pm_fl_X0_11 rfl,
  pm_s_aload_n C (n := 0) (by decide +kernel) rfl rfl,
  pm_s_getf C (n := 18) (ci := 0) rfl rfl wiX0 (by decide) (by decide +kernel) pm_fl_X0_18 rfl,
  pm_s_aald C (by decide +kernel) rfl,
  pm_s_aload_n C (n := 1) (by decide +kernel) rfl rfl,
  pm_s_callV C hR (n := 25) (ci := 4) rfl (by decide +kernel) pm_ml_X0_25 pm_im27 pm_se27 pm_in_X4 pm_cw27 pm_q27 (by decide) rfl,
  pm_s_aload_n C (n := 0) (by decide +kernel) rfl rfl,
  pm_s_dup C (by decide +kernel) rfl,
  pm_s_getf C (n := 18) (ci := 0) rfl rfl wiX0 (by decide) (by decide +kernel) pm_fl_X0_18 rfl,
  pm_s_iconst C (n := 1) (by decide +kernel) rfl rfl,
  pm_s_iadd C (by decide +kernel) rfl,
  pm_s_putf C (n := 18) (ci := 0) rfl rfl wiX0 (by decide) tyX0 tyX0_ok nmX0 rfl (by decide +kernel) (by decide +kernel) pm_fl_X0_18 rfl,
  pm_s_vret (by decide +kernel) rfl,
  trivial⟩
def bp_X0_takeBack : List Nat := [0, 1, 4, 7, 8, 11, 13, 16, 17, 18, 21, 22, 23, 26, 27, 28, 31, 32, 35, 36, 39]
def co_X0_takeBack : List pm_Op := [
  pm_aload 0,
  pm_getf 0 1,
  pm_ifle 20,
  pm_aload 0,
  pm_getf 0 1,
  pm_push (14),
  pm_cmpgt 20,
  pm_aload 0,
  pm_dup,
  pm_getf 0 1,
  pm_push (1),
  pm_bin (fun x y => x - y),
  pm_putf 0 1,
  pm_aload 1,
  pm_aload 0,
  pm_getf 0 0,
  pm_aload 0,
  pm_getf 0 1,
  pm_aald,
  pm_callV 4 27 2,
  pm_vret]
set_option maxRecDepth 20000 in
set_option maxHeartbeats 4000000 in
theorem ms_X0_takeBack : pm_MS 1 RX0 bp_X0_takeBack co_X0_takeBack := fun p l e R s m args below meth c cells slots Qm D cs ad sz d C hR => ⟨
  pm_s_aload_n C (n := 0) (by decide +kernel) rfl rfl,
  pm_s_getf C (n := 18) (ci := 0) rfl rfl wiX0 (by decide) (by decide +kernel) pm_fl_X0_18 rfl,
  pm_s_ifle C (off := 35) (by decide +kernel) (by decide +kernel) rfl,
  pm_s_aload_n C (n := 0) (by decide +kernel) rfl rfl,
  pm_s_getf C (n := 18) (ci := 0) rfl rfl wiX0 (by decide) (by decide +kernel) pm_fl_X0_18 rfl,
  pm_s_bipush C (n := 14) (by decide +kernel) rfl rfl,
  pm_s_cmpgt C (off := 26) (by decide +kernel) (by decide +kernel) rfl,
  pm_s_aload_n C (n := 0) (by decide +kernel) rfl rfl,
  pm_s_dup C (by decide +kernel) rfl,
  pm_s_getf C (n := 18) (ci := 0) rfl rfl wiX0 (by decide) (by decide +kernel) pm_fl_X0_18 rfl,
  pm_s_iconst C (n := 1) (by decide +kernel) rfl rfl,
  pm_s_isub C (by decide +kernel) rfl,
  pm_s_putf C (n := 18) (ci := 0) rfl rfl wiX0 (by decide) tyX0 tyX0_ok nmX0 rfl (by decide +kernel) (by decide +kernel) pm_fl_X0_18 rfl,
  pm_s_aload_n C (n := 1) (by decide +kernel) rfl rfl,
  pm_s_aload_n C (n := 0) (by decide +kernel) rfl rfl,
  pm_s_getf C (n := 11) (ci := 0) rfl rfl wiX0 (by decide) (by decide +kernel) pm_fl_X0_11 rfl,
  pm_s_aload_n C (n := 0) (by decide +kernel) rfl rfl,
  pm_s_getf C (n := 18) (ci := 0) rfl rfl wiX0 (by decide) (by decide +kernel) pm_fl_X0_18 rfl,
  pm_s_aald C (by decide +kernel) rfl,
  pm_s_callV C hR (n := 25) (ci := 4) rfl (by decide +kernel) pm_ml_X0_25 pm_im27 pm_se27 pm_in_X4 pm_cw27 pm_q27 (by decide) rfl,
  pm_s_vret (by decide +kernel) rfl,
  trivial⟩
def bp_X0_forgetFirst : List Nat := [0, 1, 4, 5, 6, 7, 8, 9, 10, 12, 15, 16, 19, 20, 21, 22, 23, 26, 27, 28, 29, 32, 35, 36, 39, 41, 42, 43, 44, 46, 49]
def co_X0_forgetFirst : List pm_Op := [
  pm_aload 0,
  pm_getf 0 0,
  pm_push (0),
  pm_aald,
  pm_astore 1,
  pm_push (1),
  pm_istore 2,
  pm_iload 2,
  pm_push (14),
  pm_cmpge 22,
  pm_aload 0,
  pm_getf 0 0,
  pm_iload 2,
  pm_push (1),
  pm_bin (fun x y => x - y),
  pm_aload 0,
  pm_getf 0 0,
  pm_iload 2,
  pm_aald,
  pm_aast,
  pm_iinc 2 (1),
  pm_goto 7,
  pm_aload 0,
  pm_getf 0 0,
  pm_push (13),
  pm_aload 1,
  pm_aast,
  pm_aload 0,
  pm_push (13),
  pm_putf 0 1,
  pm_vret]
set_option maxRecDepth 20000 in
set_option maxHeartbeats 4000000 in
theorem ms_X0_forgetFirst : pm_MS 2 RX0 bp_X0_forgetFirst co_X0_forgetFirst := fun p l e R s m args below meth c cells slots Qm D cs ad sz d C hR => ⟨
  pm_s_aload_n C (n := 0) (by decide +kernel) rfl rfl,
  pm_s_getf C (n := 11) (ci := 0) rfl rfl wiX0 (by decide) (by decide +kernel) pm_fl_X0_11 rfl,
  pm_s_iconst C (n := 0) (by decide +kernel) rfl rfl,
  pm_s_aald C (by decide +kernel) rfl,
  pm_s_astore_n C (n := 1) (by decide +kernel) rfl rfl,
  pm_s_iconst C (n := 1) (by decide +kernel) rfl rfl,
  pm_s_istore_n C (n := 2) (by decide +kernel) rfl rfl,
  pm_s_iload_n C (n := 2) (by decide +kernel) rfl rfl,
  pm_s_bipush C (n := 14) (by decide +kernel) rfl rfl,
  pm_s_cmpge C (off := 23) (by decide +kernel) (by decide +kernel) rfl,
  pm_s_aload_n C (n := 0) (by decide +kernel) rfl rfl,
  pm_s_getf C (n := 11) (ci := 0) rfl rfl wiX0 (by decide) (by decide +kernel) pm_fl_X0_11 rfl,
  pm_s_iload_n C (n := 2) (by decide +kernel) rfl rfl,
  pm_s_iconst C (n := 1) (by decide +kernel) rfl rfl,
  pm_s_isub C (by decide +kernel) rfl,
  pm_s_aload_n C (n := 0) (by decide +kernel) rfl rfl,
  pm_s_getf C (n := 11) (ci := 0) rfl rfl wiX0 (by decide) (by decide +kernel) pm_fl_X0_11 rfl,
  pm_s_iload_n C (n := 2) (by decide +kernel) rfl rfl,
  pm_s_aald C (by decide +kernel) rfl,
  pm_s_aast C (by decide +kernel) rfl,
  pm_s_iinc C (n := 1) (by decide +kernel) rfl rfl,
  pm_s_goto C (off := -23) (by decide +kernel) (by decide +kernel),
  pm_s_aload_n C (n := 0) (by decide +kernel) rfl rfl,
  pm_s_getf C (n := 11) (ci := 0) rfl rfl wiX0 (by decide) (by decide +kernel) pm_fl_X0_11 rfl,
  pm_s_bipush C (n := 13) (by decide +kernel) rfl rfl,
  pm_s_aload_n C (n := 1) (by decide +kernel) rfl rfl,
  pm_s_aast C (by decide +kernel) rfl,
  pm_s_aload_n C (n := 0) (by decide +kernel) rfl rfl,
  pm_s_bipush C (n := 13) (by decide +kernel) rfl rfl,
  pm_s_putf C (n := 18) (ci := 0) rfl rfl wiX0 (by decide) tyX0 tyX0_ok nmX0 rfl (by decide +kernel) (by decide +kernel) pm_fl_X0_18 rfl,
  pm_s_vret (by decide +kernel) rfl,
  trivial⟩
def bp_X4_become : List Nat := [0, 1, 2, 3, 4, 7, 8, 11, 12, 13, 16, 17, 18, 19, 22, 25, 26, 27, 30, 33, 34, 35, 38, 41, 42, 43, 46, 49, 50, 51, 54, 57]
def co_X4_become : List pm_Op := [
  pm_push (0),
  pm_istore 2,
  pm_iload 2,
  pm_push (5),
  pm_cmpge 15,
  pm_aload 0,
  pm_getf 4 0,
  pm_iload 2,
  pm_aload 1,
  pm_getf 4 0,
  pm_iload 2,
  pm_iald,
  pm_iast,
  pm_iinc 2 (1),
  pm_goto 2,
  pm_aload 0,
  pm_aload 1,
  pm_getf 4 1,
  pm_putf 4 1,
  pm_aload 0,
  pm_aload 1,
  pm_getf 4 2,
  pm_putf 4 2,
  pm_aload 0,
  pm_aload 1,
  pm_getf 4 3,
  pm_putf 4 3,
  pm_aload 0,
  pm_aload 1,
  pm_getf 4 4,
  pm_putf 4 4,
  pm_vret]
set_option maxRecDepth 20000 in
set_option maxHeartbeats 4000000 in
theorem ms_X4_become : pm_MS 27 RX4 bp_X4_become co_X4_become := fun p l e R s m args below meth c cells slots Qm D cs ad sz d C hR => ⟨
  pm_s_iconst C (n := 0) (by decide +kernel) rfl rfl,
  pm_s_istore_n C (n := 2) (by decide +kernel) rfl rfl,
  pm_s_iload_n C (n := 2) (by decide +kernel) rfl rfl,
  pm_s_iconst C (n := 5) (by decide +kernel) rfl rfl,
  pm_s_cmpge C (off := 21) (by decide +kernel) (by decide +kernel) rfl,
  pm_s_aload_n C (n := 0) (by decide +kernel) rfl rfl,
  pm_s_getf C (n := 9) (ci := 4) rfl rfl wiX4 (by decide) (by decide +kernel) pm_fl_X4_9 rfl,
  pm_s_iload_n C (n := 2) (by decide +kernel) rfl rfl,
  pm_s_aload_n C (n := 1) (by decide +kernel) rfl rfl,
  pm_s_getf C (n := 9) (ci := 4) rfl rfl wiX4 (by decide) (by decide +kernel) pm_fl_X4_9 rfl,
  pm_s_iload_n C (n := 2) (by decide +kernel) rfl rfl,
  pm_s_iald C (by decide +kernel) rfl,
  pm_s_iast C (by decide +kernel) rfl,
  pm_s_iinc C (n := 1) (by decide +kernel) rfl rfl,
  pm_s_goto C (off := -20) (by decide +kernel) (by decide +kernel),
  pm_s_aload_n C (n := 0) (by decide +kernel) rfl rfl,
  pm_s_aload_n C (n := 1) (by decide +kernel) rfl rfl,
  pm_s_getf C (n := 15) (ci := 4) rfl rfl wiX4 (by decide) (by decide +kernel) pm_fl_X4_15 rfl,
  pm_s_putf C (n := 15) (ci := 4) rfl rfl wiX4 (by decide) tyX4 tyX4_ok nmX4 rfl (by decide +kernel) (by decide +kernel) pm_fl_X4_15 rfl,
  pm_s_aload_n C (n := 0) (by decide +kernel) rfl rfl,
  pm_s_aload_n C (n := 1) (by decide +kernel) rfl rfl,
  pm_s_getf C (n := 22) (ci := 4) rfl rfl wiX4 (by decide) (by decide +kernel) pm_fl_X4_22 rfl,
  pm_s_putf C (n := 22) (ci := 4) rfl rfl wiX4 (by decide) tyX4 tyX4_ok nmX4 rfl (by decide +kernel) (by decide +kernel) pm_fl_X4_22 rfl,
  pm_s_aload_n C (n := 0) (by decide +kernel) rfl rfl,
  pm_s_aload_n C (n := 1) (by decide +kernel) rfl rfl,
  pm_s_getf C (n := 19) (ci := 4) rfl rfl wiX4 (by decide) (by decide +kernel) pm_fl_X4_19 rfl,
  pm_s_putf C (n := 19) (ci := 4) rfl rfl wiX4 (by decide) tyX4 tyX4_ok nmX4 rfl (by decide +kernel) (by decide +kernel) pm_fl_X4_19 rfl,
  pm_s_aload_n C (n := 0) (by decide +kernel) rfl rfl,
  pm_s_aload_n C (n := 1) (by decide +kernel) rfl rfl,
  pm_s_getf C (n := 25) (ci := 4) rfl rfl wiX4 (by decide) (by decide +kernel) pm_fl_X4_25 rfl,
  pm_s_putf C (n := 25) (ci := 4) rfl rfl wiX4 (by decide) tyX4 tyX4_ok nmX4 rfl (by decide +kernel) (by decide +kernel) pm_fl_X4_25 rfl,
  pm_s_vret (by decide +kernel) rfl,
  trivial⟩
def bp_X4_readFrom : List Nat := [0, 1, 2, 5, 8, 9, 10, 11, 12, 15, 16, 19, 20, 21, 22, 25, 28, 29, 30, 33, 36, 37, 38, 41, 44, 45, 46, 49, 50, 51, 54, 57, 58, 59, 62]
def co_X4_readFrom : List pm_Op := [
  pm_aload 0,
  pm_aload 1,
  pm_callV 6 47 1,
  pm_putf 4 1,
  pm_push (0),
  pm_istore 3,
  pm_iload 3,
  pm_push (5),
  pm_cmpge 24,
  pm_aload 0,
  pm_getf 4 0,
  pm_iload 3,
  pm_iload 3,
  pm_aload 2,
  pm_getf 5 3,
  pm_cmpge 20,
  pm_aload 1,
  pm_iload 3,
  pm_callV 6 48 2,
  pm_goto 21,
  pm_push (0),
  pm_iast,
  pm_iinc 3 (1),
  pm_goto 6,
  pm_aload 0,
  pm_push (0),
  pm_putf 4 2,
  pm_aload 0,
  pm_aload 2,
  pm_getf 5 4,
  pm_putf 4 3,
  pm_aload 0,
  pm_push (0),
  pm_putf 4 4,
  pm_vret]
set_option maxRecDepth 20000 in
set_option maxHeartbeats 4000000 in
theorem ms_X4_readFrom : pm_MS 28 RX4 bp_X4_readFrom co_X4_readFrom := fun p l e R s m args below meth c cells slots Qm D cs ad sz d C hR => ⟨
  pm_s_aload_n C (n := 0) (by decide +kernel) rfl rfl,
  pm_s_aload_n C (n := 1) (by decide +kernel) rfl rfl,
  pm_s_callV C hR (n := 28) (ci := 6) rfl (by decide +kernel) pm_ml_X4_28 pm_im47 pm_se47 pm_in_X6 pm_cw47 pm_q47 (by decide) rfl,
  pm_s_putf C (n := 15) (ci := 4) rfl rfl wiX4 (by decide) tyX4 tyX4_ok nmX4 rfl (by decide +kernel) (by decide +kernel) pm_fl_X4_15 rfl,
  pm_s_iconst C (n := 0) (by decide +kernel) rfl rfl,
  pm_s_istore_n C (n := 3) (by decide +kernel) rfl rfl,
  pm_s_iload_n C (n := 3) (by decide +kernel) rfl rfl,
  pm_s_iconst C (n := 5) (by decide +kernel) rfl rfl,
  pm_s_cmpge C (off := 32) (by decide +kernel) (by decide +kernel) rfl,
  pm_s_aload_n C (n := 0) (by decide +kernel) rfl rfl,
  pm_s_getf C (n := 9) (ci := 4) rfl rfl wiX4 (by decide) (by decide +kernel) pm_fl_X4_9 rfl,
  pm_s_iload_n C (n := 3) (by decide +kernel) rfl rfl,
  pm_s_iload_n C (n := 3) (by decide +kernel) rfl rfl,
  pm_s_aload_n C (n := 2) (by decide +kernel) rfl rfl,
  pm_s_getfN C (n := 34) (ci := 5) rfl rfl wiX5 (by decide) (by decide +kernel) pm_fn_X4_34 rfl,
  pm_s_cmpge C (off := 11) (by decide +kernel) (by decide +kernel) rfl,
  pm_s_aload_n C (n := 1) (by decide +kernel) rfl rfl,
  pm_s_iload_n C (n := 3) (by decide +kernel) rfl rfl,
  pm_s_callV C hR (n := 39) (ci := 6) rfl (by decide +kernel) pm_ml_X4_39 pm_im48 pm_se48 pm_in_X6 pm_cw48 pm_q48 (by decide) rfl,
  pm_s_goto C (off := 4) (by decide +kernel) (by decide +kernel),
  pm_s_iconst C (n := 0) (by decide +kernel) rfl rfl,
  pm_s_iast C (by decide +kernel) rfl,
  pm_s_iinc C (n := 1) (by decide +kernel) rfl rfl,
  pm_s_goto C (off := -31) (by decide +kernel) (by decide +kernel),
  pm_s_aload_n C (n := 0) (by decide +kernel) rfl rfl,
  pm_s_iconst C (n := 0) (by decide +kernel) rfl rfl,
  pm_s_putf C (n := 22) (ci := 4) rfl rfl wiX4 (by decide) tyX4 tyX4_ok nmX4 rfl (by decide +kernel) (by decide +kernel) pm_fl_X4_22 rfl,
  pm_s_aload_n C (n := 0) (by decide +kernel) rfl rfl,
  pm_s_aload_n C (n := 2) (by decide +kernel) rfl rfl,
  pm_s_getfN C (n := 43) (ci := 5) rfl rfl wiX5 (by decide) (by decide +kernel) pm_fn_X4_43 rfl,
  pm_s_putf C (n := 19) (ci := 4) rfl rfl wiX4 (by decide) tyX4 tyX4_ok nmX4 rfl (by decide +kernel) (by decide +kernel) pm_fl_X4_19 rfl,
  pm_s_aload_n C (n := 0) (by decide +kernel) rfl rfl,
  pm_s_iconst C (n := 0) (by decide +kernel) rfl rfl,
  pm_s_putf C (n := 25) (ci := 4) rfl rfl wiX4 (by decide) tyX4 tyX4_ok nmX4 rfl (by decide +kernel) (by decide +kernel) pm_fl_X4_25 rfl,
  pm_s_vret (by decide +kernel) rfl,
  trivial⟩
def bp_X6_append : List Nat := [0, 1, 4, 7, 8, 11, 13, 16, 17, 18, 19, 22, 23, 26, 27, 28, 29, 30, 33, 34, 35, 38, 39]
def co_X6_append : List pm_Op := [
  pm_aload 0,
  pm_getf 6 1,
  pm_iflt 7,
  pm_aload 0,
  pm_getf 6 1,
  pm_push (40),
  pm_cmplt 9,
  pm_push (0),
  pm_zret,
  pm_aload 0,
  pm_getf 6 0,
  pm_aload 0,
  pm_getf 6 1,
  pm_iload 1,
  pm_iast,
  pm_aload 0,
  pm_dup,
  pm_getf 6 1,
  pm_push (1),
  pm_bin (fun x y => x + y),
  pm_putf 6 1,
  pm_push (1),
  pm_zret]
set_option maxRecDepth 20000 in
set_option maxHeartbeats 4000000 in
theorem ms_X6_append : pm_MS 44 RX6 bp_X6_append co_X6_append := fun p l e R s m args below meth c cells slots Qm D cs ad sz d C hR => ⟨
  pm_s_aload_n C (n := 0) (by decide +kernel) rfl rfl,
  pm_s_getf C (n := 15) (ci := 6) rfl rfl wiX6 (by decide) (by decide +kernel) pm_fl_X6_15 rfl,
  pm_s_iflt C (off := 12) (by decide +kernel) (by decide +kernel) rfl,
  pm_s_aload_n C (n := 0) (by decide +kernel) rfl rfl,
  pm_s_getf C (n := 15) (ci := 6) rfl rfl wiX6 (by decide) (by decide +kernel) pm_fl_X6_15 rfl,
  pm_s_bipush C (n := 40) (by decide +kernel) rfl rfl,
  pm_s_cmplt C (off := 5) (by decide +kernel) (by decide +kernel) rfl,
  pm_s_iconst C (n := 0) (by decide +kernel) rfl rfl,
  pm_s_zret (by decide +kernel) rfl,
  pm_s_aload_n C (n := 0) (by decide +kernel) rfl rfl,
  pm_s_getf C (n := 9) (ci := 6) rfl rfl wiX6 (by decide) (by decide +kernel) pm_fl_X6_9 rfl,
  pm_s_aload_n C (n := 0) (by decide +kernel) rfl rfl,
  pm_s_getf C (n := 15) (ci := 6) rfl rfl wiX6 (by decide) (by decide +kernel) pm_fl_X6_15 rfl,
  pm_s_iload_n C (n := 1) (by decide +kernel) rfl rfl,
  pm_s_iast C (by decide +kernel) rfl,
  pm_s_aload_n C (n := 0) (by decide +kernel) rfl rfl,
  pm_s_dup C (by decide +kernel) rfl,
  pm_s_getf C (n := 15) (ci := 6) rfl rfl wiX6 (by decide) (by decide +kernel) pm_fl_X6_15 rfl,
  pm_s_iconst C (n := 1) (by decide +kernel) rfl rfl,
  pm_s_iadd C (by decide +kernel) rfl,
  pm_s_putf C (n := 15) (ci := 6) rfl rfl wiX6 (by decide) tyX6 tyX6_ok nmX6 rfl (by decide +kernel) (by decide +kernel) pm_fl_X6_15 rfl,
  pm_s_iconst C (n := 1) (by decide +kernel) rfl rfl,
  pm_s_zret (by decide +kernel) rfl,
  trivial⟩
def bp_X6_firstFault : List Nat := [0, 1, 2, 3, 4, 7, 10, 11, 12, 15, 16, 17, 20, 23, 26, 27, 28, 31, 34, 35, 36, 39, 42, 43, 46, 47, 50, 51, 54, 55, 56, 58, 59, 62, 63, 66, 67, 68, 69, 72, 74, 77, 78, 81]
def co_X6_firstFault : List pm_Op := [
  pm_push (0),
  pm_istore 1,
  pm_iload 1,
  pm_aload 0,
  pm_getf 6 1,
  pm_cmpge 22,
  pm_iload 1,
  pm_push (5),
  pm_cmpge 14,
  pm_aload 0,
  pm_iload 1,
  pm_callV 6 52 2,
  pm_ifne 20,
  pm_goto 18,
  pm_aload 0,
  pm_iload 1,
  pm_callV 6 53 2,
  pm_ifne 20,
  pm_iload 1,
  pm_iret,
  pm_iinc 1 (1),
  pm_goto 2,
  pm_aload 0,
  pm_getf 6 1,
  pm_push (5),
  pm_cmplt 35,
  pm_aload 0,
  pm_getf 6 1,
  pm_push (5),
  pm_bin (fun x y => x - y),
  pm_push (6),
  pm_irem,
  pm_ifne 35,
  pm_push (1),
  pm_goto 36,
  pm_push (0),
  pm_istore 1,
  pm_iload 1,
  pm_ifeq 41,
  pm_push (-9),
  pm_goto 43,
  pm_aload 0,
  pm_getf 6 1,
  pm_iret]
set_option maxRecDepth 20000 in
set_option maxHeartbeats 4000000 in
theorem ms_X6_firstFault : pm_MS 45 RX6 bp_X6_firstFault co_X6_firstFault := fun p l e R s m args below meth c cells slots Qm D cs ad sz d C hR => ⟨
  pm_s_iconst C (n := 0) (by decide +kernel) rfl rfl,
  pm_s_istore_n C (n := 1) (by decide +kernel) rfl rfl,
  pm_s_iload_n C (n := 1) (by decide +kernel) rfl rfl,
  pm_s_aload_n C (n := 0) (by decide +kernel) rfl rfl,
  pm_s_getf C (n := 15) (ci := 6) rfl rfl wiX6 (by decide) (by decide +kernel) pm_fl_X6_15 rfl,
  pm_s_cmpge C (off := 35) (by decide +kernel) (by decide +kernel) rfl,
  pm_s_iload_n C (n := 1) (by decide +kernel) rfl rfl,
  pm_s_iconst C (n := 5) (by decide +kernel) rfl rfl,
  pm_s_cmpge C (off := 14) (by decide +kernel) (by decide +kernel) rfl,
  pm_s_aload_n C (n := 0) (by decide +kernel) rfl rfl,
  pm_s_iload_n C (n := 1) (by decide +kernel) rfl rfl,
  pm_s_callV C hR (n := 19) (ci := 6) rfl (by decide +kernel) pm_ml_X6_19 pm_im52 pm_se52 pm_in_X6 pm_cw52 pm_q52 (by decide) rfl,
  pm_s_ifne C (off := 16) (by decide +kernel) (by decide +kernel) rfl,
  pm_s_goto C (off := 11) (by decide +kernel) (by decide +kernel),
  pm_s_aload_n C (n := 0) (by decide +kernel) rfl rfl,
  pm_s_iload_n C (n := 1) (by decide +kernel) rfl rfl,
  pm_s_callV C hR (n := 23) (ci := 6) rfl (by decide +kernel) pm_ml_X6_23 pm_im53 pm_se53 pm_in_X6 pm_cw53 pm_q53 (by decide) rfl,
  pm_s_ifne C (off := 5) (by decide +kernel) (by decide +kernel) rfl,
  pm_s_iload_n C (n := 1) (by decide +kernel) rfl rfl,
  pm_s_iret (by decide +kernel) rfl,
  pm_s_iinc C (n := 1) (by decide +kernel) rfl rfl,
  pm_s_goto C (off := -37) (by decide +kernel) (by decide +kernel),
  pm_s_aload_n C (n := 0) (by decide +kernel) rfl rfl,
  pm_s_getf C (n := 15) (ci := 6) rfl rfl wiX6 (by decide) (by decide +kernel) pm_fl_X6_15 rfl,
  pm_s_iconst C (n := 5) (by decide +kernel) rfl rfl,
  pm_s_cmplt C (off := 19) (by decide +kernel) (by decide +kernel) rfl,
  pm_s_aload_n C (n := 0) (by decide +kernel) rfl rfl,
  pm_s_getf C (n := 15) (ci := 6) rfl rfl wiX6 (by decide) (by decide +kernel) pm_fl_X6_15 rfl,
  pm_s_iconst C (n := 5) (by decide +kernel) rfl rfl,
  pm_s_isub C (by decide +kernel) rfl,
  pm_s_bipush C (n := 6) (by decide +kernel) rfl rfl,
  pm_s_irem C (by decide +kernel) rfl,
  pm_s_ifne C (off := 7) (by decide +kernel) (by decide +kernel) rfl,
  pm_s_iconst C (n := 1) (by decide +kernel) rfl rfl,
  pm_s_goto C (off := 4) (by decide +kernel) (by decide +kernel),
  pm_s_iconst C (n := 0) (by decide +kernel) rfl rfl,
  pm_s_istore_n C (n := 1) (by decide +kernel) rfl rfl,
  pm_s_iload_n C (n := 1) (by decide +kernel) rfl rfl,
  pm_s_ifeq C (off := 8) (by decide +kernel) (by decide +kernel) rfl,
  pm_s_bipush C (n := -9) (by decide +kernel) rfl rfl,
  pm_s_goto C (off := 7) (by decide +kernel) (by decide +kernel),
  pm_s_aload_n C (n := 0) (by decide +kernel) rfl rfl,
  pm_s_getf C (n := 15) (ci := 6) rfl rfl wiX6 (by decide) (by decide +kernel) pm_fl_X6_15 rfl,
  pm_s_iret (by decide +kernel) rfl,
  trivial⟩
def bp_X6_guestsTold : List Nat := [0, 1, 4, 5, 8, 9, 12, 13, 16, 17, 18, 20, 21, 22, 25]
def co_X6_guestsTold : List pm_Op := [
  pm_aload 0,
  pm_getf 6 1,
  pm_push (5),
  pm_cmpge 6,
  pm_push (0),
  pm_goto 14,
  pm_aload 0,
  pm_getf 6 1,
  pm_push (5),
  pm_bin (fun x y => x - y),
  pm_push (6),
  pm_idiv,
  pm_push (5),
  pm_callS 155 2,
  pm_iret]
set_option maxRecDepth 20000 in
set_option maxHeartbeats 4000000 in
theorem ms_X6_guestsTold : pm_MS 46 RX6 bp_X6_guestsTold co_X6_guestsTold := fun p l e R s m args below meth c cells slots Qm D cs ad sz d C hR => ⟨
  pm_s_aload_n C (n := 0) (by decide +kernel) rfl rfl,
  pm_s_getf C (n := 15) (ci := 6) rfl rfl wiX6 (by decide) (by decide +kernel) pm_fl_X6_15 rfl,
  pm_s_iconst C (n := 5) (by decide +kernel) rfl rfl,
  pm_s_cmpge C (off := 7) (by decide +kernel) (by decide +kernel) rfl,
  pm_s_iconst C (n := 0) (by decide +kernel) rfl rfl,
  pm_s_goto C (off := 16) (by decide +kernel) (by decide +kernel),
  pm_s_aload_n C (n := 0) (by decide +kernel) rfl rfl,
  pm_s_getf C (n := 15) (ci := 6) rfl rfl wiX6 (by decide) (by decide +kernel) pm_fl_X6_15 rfl,
  pm_s_iconst C (n := 5) (by decide +kernel) rfl rfl,
  pm_s_isub C (by decide +kernel) rfl,
  pm_s_bipush C (n := 6) (by decide +kernel) rfl rfl,
  pm_s_idiv C (by decide +kernel) rfl,
  pm_s_iconst C (n := 5) (by decide +kernel) rfl rfl,
  pm_s_callS C hR (n := 26) (by decide +kernel) pm_ml_X6_26 pm_ss155 pm_in_J9 pm_cw155 pm_q155 (by decide) rfl,
  pm_s_iret (by decide +kernel) rfl,
  trivial⟩
def bp_X6_lengthTold : List Nat := [0, 2, 3, 4, 7, 8, 9, 10, 13, 14]
def co_X6_lengthTold : List pm_Op := [
  pm_push (10),
  pm_aload 0,
  pm_push (1),
  pm_callV 6 50 2,
  pm_bin (fun x y => x * y),
  pm_aload 0,
  pm_push (2),
  pm_callV 6 50 2,
  pm_bin (fun x y => x + y),
  pm_iret]
set_option maxRecDepth 20000 in
set_option maxHeartbeats 4000000 in
theorem ms_X6_lengthTold : pm_MS 47 RX6 bp_X6_lengthTold co_X6_lengthTold := fun p l e R s m args below meth c cells slots Qm D cs ad sz d C hR => ⟨
  pm_s_bipush C (n := 10) (by decide +kernel) rfl rfl,
  pm_s_aload_n C (n := 0) (by decide +kernel) rfl rfl,
  pm_s_iconst C (n := 1) (by decide +kernel) rfl rfl,
  pm_s_callV C hR (n := 32) (ci := 6) rfl (by decide +kernel) pm_ml_X6_32 pm_im50 pm_se50 pm_in_X6 pm_cw50 pm_q50 (by decide) rfl,
  pm_s_imul C (by decide +kernel) rfl,
  pm_s_aload_n C (n := 0) (by decide +kernel) rfl rfl,
  pm_s_iconst C (n := 2) (by decide +kernel) rfl rfl,
  pm_s_callV C hR (n := 32) (ci := 6) rfl (by decide +kernel) pm_ml_X6_32 pm_im50 pm_se50 pm_in_X6 pm_cw50 pm_q50 (by decide) rfl,
  pm_s_iadd C (by decide +kernel) rfl,
  pm_s_iret (by decide +kernel) rfl,
  trivial⟩
def bp_X6_leafTold : List Nat := [0, 1, 3, 4, 5, 6, 7, 8, 9, 11, 12, 13, 16, 17, 18, 19, 20, 21, 24, 25]
def co_X6_leafTold : List pm_Op := [
  pm_push (5),
  pm_push (6),
  pm_iload 1,
  pm_bin (fun x y => x * y),
  pm_bin (fun x y => x + y),
  pm_push (1),
  pm_bin (fun x y => x + y),
  pm_istore 2,
  pm_push (10),
  pm_aload 0,
  pm_iload 2,
  pm_callV 6 50 2,
  pm_bin (fun x y => x * y),
  pm_aload 0,
  pm_iload 2,
  pm_push (1),
  pm_bin (fun x y => x + y),
  pm_callV 6 50 2,
  pm_bin (fun x y => x + y),
  pm_iret]
set_option maxRecDepth 20000 in
set_option maxHeartbeats 4000000 in
theorem ms_X6_leafTold : pm_MS 48 RX6 bp_X6_leafTold co_X6_leafTold := fun p l e R s m args below meth c cells slots Qm D cs ad sz d C hR => ⟨
  pm_s_iconst C (n := 5) (by decide +kernel) rfl rfl,
  pm_s_bipush C (n := 6) (by decide +kernel) rfl rfl,
  pm_s_iload_n C (n := 1) (by decide +kernel) rfl rfl,
  pm_s_imul C (by decide +kernel) rfl,
  pm_s_iadd C (by decide +kernel) rfl,
  pm_s_iconst C (n := 1) (by decide +kernel) rfl rfl,
  pm_s_iadd C (by decide +kernel) rfl,
  pm_s_istore_n C (n := 2) (by decide +kernel) rfl rfl,
  pm_s_bipush C (n := 10) (by decide +kernel) rfl rfl,
  pm_s_aload_n C (n := 0) (by decide +kernel) rfl rfl,
  pm_s_iload_n C (n := 2) (by decide +kernel) rfl rfl,
  pm_s_callV C hR (n := 32) (ci := 6) rfl (by decide +kernel) pm_ml_X6_32 pm_im50 pm_se50 pm_in_X6 pm_cw50 pm_q50 (by decide) rfl,
  pm_s_imul C (by decide +kernel) rfl,
  pm_s_aload_n C (n := 0) (by decide +kernel) rfl rfl,
  pm_s_iload_n C (n := 2) (by decide +kernel) rfl rfl,
  pm_s_iconst C (n := 1) (by decide +kernel) rfl rfl,
  pm_s_iadd C (by decide +kernel) rfl,
  pm_s_callV C hR (n := 32) (ci := 6) rfl (by decide +kernel) pm_ml_X6_32 pm_im50 pm_se50 pm_in_X6 pm_cw50 pm_q50 (by decide) rfl,
  pm_s_iadd C (by decide +kernel) rfl,
  pm_s_iret (by decide +kernel) rfl,
  trivial⟩
def bp_X6_partTold : List Nat := [0, 1, 2, 4, 5, 6, 7, 8, 9, 12]
def co_X6_partTold : List pm_Op := [
  pm_aload 0,
  pm_push (5),
  pm_push (6),
  pm_iload 1,
  pm_bin (fun x y => x * y),
  pm_bin (fun x y => x + y),
  pm_iload 2,
  pm_bin (fun x y => x + y),
  pm_callV 6 50 2,
  pm_iret]
set_option maxRecDepth 20000 in
set_option maxHeartbeats 4000000 in
theorem ms_X6_partTold : pm_MS 49 RX6 bp_X6_partTold co_X6_partTold := fun p l e R s m args below meth c cells slots Qm D cs ad sz d C hR => ⟨
  pm_s_aload_n C (n := 0) (by decide +kernel) rfl rfl,
  pm_s_iconst C (n := 5) (by decide +kernel) rfl rfl,
  pm_s_bipush C (n := 6) (by decide +kernel) rfl rfl,
  pm_s_iload_n C (n := 1) (by decide +kernel) rfl rfl,
  pm_s_imul C (by decide +kernel) rfl,
  pm_s_iadd C (by decide +kernel) rfl,
  pm_s_iload_n C (n := 2) (by decide +kernel) rfl rfl,
  pm_s_iadd C (by decide +kernel) rfl,
  pm_s_callV C hR (n := 32) (ci := 6) rfl (by decide +kernel) pm_ml_X6_32 pm_im50 pm_se50 pm_in_X6 pm_cw50 pm_q50 (by decide) rfl,
  pm_s_iret (by decide +kernel) rfl,
  trivial⟩
def bp_X6_figureTold : List Nat := [0, 1, 4, 5, 6, 9, 12, 13, 15, 18, 19, 20, 21, 24, 25, 26, 28, 29, 30, 31, 34, 35, 37, 40, 41, 44, 45]
def co_X6_figureTold : List pm_Op := [
  pm_iload 1,
  pm_iflt 9,
  pm_iload 1,
  pm_aload 0,
  pm_getf 6 1,
  pm_cmpge 9,
  pm_iload 1,
  pm_push (40),
  pm_cmplt 11,
  pm_push (-1),
  pm_iret,
  pm_aload 0,
  pm_getf 6 0,
  pm_iload 1,
  pm_iald,
  pm_push (48),
  pm_bin (fun x y => x - y),
  pm_istore 2,
  pm_iload 2,
  pm_iflt 25,
  pm_iload 2,
  pm_push (9),
  pm_cmpgt 25,
  pm_iload 2,
  pm_goto 26,
  pm_push (-1),
  pm_iret]
set_option maxRecDepth 20000 in
set_option maxHeartbeats 4000000 in
theorem ms_X6_figureTold : pm_MS 50 RX6 bp_X6_figureTold co_X6_figureTold := fun p l e R s m args below meth c cells slots Qm D cs ad sz d C hR => ⟨
  pm_s_iload_n C (n := 1) (by decide +kernel) rfl rfl,
  pm_s_iflt C (off := 17) (by decide +kernel) (by decide +kernel) rfl,
  pm_s_iload_n C (n := 1) (by decide +kernel) rfl rfl,
  pm_s_aload_n C (n := 0) (by decide +kernel) rfl rfl,
  pm_s_getf C (n := 15) (ci := 6) rfl rfl wiX6 (by decide) (by decide +kernel) pm_fl_X6_15 rfl,
  pm_s_cmpge C (off := 9) (by decide +kernel) (by decide +kernel) rfl,
  pm_s_iload_n C (n := 1) (by decide +kernel) rfl rfl,
  pm_s_bipush C (n := 40) (by decide +kernel) rfl rfl,
  pm_s_cmplt C (off := 5) (by decide +kernel) (by decide +kernel) rfl,
  pm_s_iconst C (n := -1) (by decide +kernel) rfl rfl,
  pm_s_iret (by decide +kernel) rfl,
  pm_s_aload_n C (n := 0) (by decide +kernel) rfl rfl,
  pm_s_getf C (n := 9) (ci := 6) rfl rfl wiX6 (by decide) (by decide +kernel) pm_fl_X6_9 rfl,
  pm_s_iload_n C (n := 1) (by decide +kernel) rfl rfl,
  pm_s_iald C (by decide +kernel) rfl,
  pm_s_bipush C (n := 48) (by decide +kernel) rfl rfl,
  pm_s_isub C (by decide +kernel) rfl,
  pm_s_istore_n C (n := 2) (by decide +kernel) rfl rfl,
  pm_s_iload_n C (n := 2) (by decide +kernel) rfl rfl,
  pm_s_iflt C (off := 13) (by decide +kernel) (by decide +kernel) rfl,
  pm_s_iload_n C (n := 2) (by decide +kernel) rfl rfl,
  pm_s_bipush C (n := 9) (by decide +kernel) rfl rfl,
  pm_s_cmpgt C (off := 7) (by decide +kernel) (by decide +kernel) rfl,
  pm_s_iload_n C (n := 2) (by decide +kernel) rfl rfl,
  pm_s_goto C (off := 4) (by decide +kernel) (by decide +kernel),
  pm_s_iconst C (n := -1) (by decide +kernel) rfl rfl,
  pm_s_iret (by decide +kernel) rfl,
  trivial⟩
def bp_X6_isLetter : List Nat := [0, 1, 4, 5, 6, 9, 12, 13, 15, 18, 19, 22, 23, 24, 25, 28, 29, 32, 33]
def co_X6_isLetter : List pm_Op := [
  pm_iload 1,
  pm_iflt 17,
  pm_iload 1,
  pm_aload 0,
  pm_getf 6 1,
  pm_cmpge 17,
  pm_iload 1,
  pm_push (40),
  pm_cmpge 17,
  pm_aload 0,
  pm_getf 6 0,
  pm_iload 1,
  pm_iald,
  pm_iload 2,
  pm_cmpne 17,
  pm_push (1),
  pm_goto 18,
  pm_push (0),
  pm_zret]
set_option maxRecDepth 20000 in
set_option maxHeartbeats 4000000 in
theorem ms_X6_isLetter : pm_MS 51 RX6 bp_X6_isLetter co_X6_isLetter := fun p l e R s m args below meth c cells slots Qm D cs ad sz d C hR => ⟨
  pm_s_iload_n C (n := 1) (by decide +kernel) rfl rfl,
  pm_s_iflt C (off := 31) (by decide +kernel) (by decide +kernel) rfl,
  pm_s_iload_n C (n := 1) (by decide +kernel) rfl rfl,
  pm_s_aload_n C (n := 0) (by decide +kernel) rfl rfl,
  pm_s_getf C (n := 15) (ci := 6) rfl rfl wiX6 (by decide) (by decide +kernel) pm_fl_X6_15 rfl,
  pm_s_cmpge C (off := 23) (by decide +kernel) (by decide +kernel) rfl,
  pm_s_iload_n C (n := 1) (by decide +kernel) rfl rfl,
  pm_s_bipush C (n := 40) (by decide +kernel) rfl rfl,
  pm_s_cmpge C (off := 17) (by decide +kernel) (by decide +kernel) rfl,
  pm_s_aload_n C (n := 0) (by decide +kernel) rfl rfl,
  pm_s_getf C (n := 9) (ci := 6) rfl rfl wiX6 (by decide) (by decide +kernel) pm_fl_X6_9 rfl,
  pm_s_iload_n C (n := 1) (by decide +kernel) rfl rfl,
  pm_s_iald C (by decide +kernel) rfl,
  pm_s_iload_n C (n := 2) (by decide +kernel) rfl rfl,
  pm_s_cmpne C (off := 7) (by decide +kernel) (by decide +kernel) rfl,
  pm_s_iconst C (n := 1) (by decide +kernel) rfl rfl,
  pm_s_goto C (off := 4) (by decide +kernel) (by decide +kernel),
  pm_s_iconst C (n := 0) (by decide +kernel) rfl rfl,
  pm_s_zret (by decide +kernel) rfl,
  trivial⟩
def bp_X6_fitsHead : List Nat := [0, 1, 2, 5, 6, 7, 32, 33, 34, 36, 39, 40, 41, 44, 46, 47, 48, 50, 53, 54, 57, 58, 59, 60, 63, 64, 67, 68, 71, 72, 75, 77, 80, 81, 84, 85, 86, 87, 88, 91, 92, 95, 96]
def co_X6_fitsHead : List pm_Op := [
  pm_aload 0,
  pm_iload 1,
  pm_callV 6 50 2,
  pm_istore 2,
  pm_iload 1,
  pm_tsw 36 [(0, 6), (1, 11), (2, 22)],
  pm_aload 0,
  pm_iload 1,
  pm_push (84),
  pm_callV 6 51 3,
  pm_zret,
  pm_iload 2,
  pm_iflt 20,
  pm_push (10),
  pm_iload 2,
  pm_bin (fun x y => x * y),
  pm_push (30),
  pm_cmpgt 20,
  pm_push (1),
  pm_goto 21,
  pm_push (0),
  pm_zret,
  pm_iload 2,
  pm_iflt 34,
  pm_aload 0,
  pm_callV 6 47 1,
  pm_push (1),
  pm_cmplt 34,
  pm_aload 0,
  pm_callV 6 47 1,
  pm_push (30),
  pm_cmpgt 34,
  pm_push (1),
  pm_goto 35,
  pm_push (0),
  pm_zret,
  pm_iload 2,
  pm_push (1),
  pm_cmplt 41,
  pm_push (1),
  pm_goto 42,
  pm_push (0),
  pm_zret]
set_option maxRecDepth 20000 in
set_option maxHeartbeats 4000000 in
theorem ms_X6_fitsHead : pm_MS 52 RX6 bp_X6_fitsHead co_X6_fitsHead := fun p l e R s m args below meth c cells slots Qm D cs ad sz d C hR => ⟨
  pm_s_aload_n C (n := 0) (by decide +kernel) rfl rfl,
  pm_s_iload_n C (n := 1) (by decide +kernel) rfl rfl,
  pm_s_callV C hR (n := 32) (ci := 6) rfl (by decide +kernel) pm_ml_X6_32 pm_im50 pm_se50 pm_in_X6 pm_cw50 pm_q50 (by decide) rfl,
  pm_s_istore_n C (n := 2) (by decide +kernel) rfl rfl,
  pm_s_iload_n C (n := 1) (by decide +kernel) rfl rfl,
  pm_s_tsw C (dflt := 79) (lo := 0) (hi := 2) (offs := #[25, 33, 52]) (len := 25) (by decide +kernel) (by decide +kernel) (by decide +kernel) (by decide +kernel),
  pm_s_aload_n C (n := 0) (by decide +kernel) rfl rfl,
  pm_s_iload_n C (n := 1) (by decide +kernel) rfl rfl,
  pm_s_bipush C (n := 84) (by decide +kernel) rfl rfl,
  pm_s_callV C hR (n := 36) (ci := 6) rfl (by decide +kernel) pm_ml_X6_36 pm_im51 pm_se51 pm_in_X6 pm_cw51 pm_q51 (by decide) rfl,
  pm_s_zret (by decide +kernel) rfl,
  pm_s_iload_n C (n := 2) (by decide +kernel) rfl rfl,
  pm_s_iflt C (off := 16) (by decide +kernel) (by decide +kernel) rfl,
  pm_s_bipush C (n := 10) (by decide +kernel) rfl rfl,
  pm_s_iload_n C (n := 2) (by decide +kernel) rfl rfl,
  pm_s_imul C (by decide +kernel) rfl,
  pm_s_bipush C (n := 30) (by decide +kernel) rfl rfl,
  pm_s_cmpgt C (off := 7) (by decide +kernel) (by decide +kernel) rfl,
  pm_s_iconst C (n := 1) (by decide +kernel) rfl rfl,
  pm_s_goto C (off := 4) (by decide +kernel) (by decide +kernel),
  pm_s_iconst C (n := 0) (by decide +kernel) rfl rfl,
  pm_s_zret (by decide +kernel) rfl,
  pm_s_iload_n C (n := 2) (by decide +kernel) rfl rfl,
  pm_s_iflt C (off := 24) (by decide +kernel) (by decide +kernel) rfl,
  pm_s_aload_n C (n := 0) (by decide +kernel) rfl rfl,
  pm_s_callV C hR (n := 40) (ci := 6) rfl (by decide +kernel) pm_ml_X6_40 pm_im47 pm_se47 pm_in_X6 pm_cw47 pm_q47 (by decide) rfl,
  pm_s_iconst C (n := 1) (by decide +kernel) rfl rfl,
  pm_s_cmplt C (off := 16) (by decide +kernel) (by decide +kernel) rfl,
  pm_s_aload_n C (n := 0) (by decide +kernel) rfl rfl,
  pm_s_callV C hR (n := 40) (ci := 6) rfl (by decide +kernel) pm_ml_X6_40 pm_im47 pm_se47 pm_in_X6 pm_cw47 pm_q47 (by decide) rfl,
  pm_s_bipush C (n := 30) (by decide +kernel) rfl rfl,
  pm_s_cmpgt C (off := 7) (by decide +kernel) (by decide +kernel) rfl,
  pm_s_iconst C (n := 1) (by decide +kernel) rfl rfl,
  pm_s_goto C (off := 4) (by decide +kernel) (by decide +kernel),
  pm_s_iconst C (n := 0) (by decide +kernel) rfl rfl,
  pm_s_zret (by decide +kernel) rfl,
  pm_s_iload_n C (n := 2) (by decide +kernel) rfl rfl,
  pm_s_iconst C (n := 1) (by decide +kernel) rfl rfl,
  pm_s_cmplt C (off := 7) (by decide +kernel) (by decide +kernel) rfl,
  pm_s_iconst C (n := 1) (by decide +kernel) rfl rfl,
  pm_s_goto C (off := 4) (by decide +kernel) (by decide +kernel),
  pm_s_iconst C (n := 0) (by decide +kernel) rfl rfl,
  pm_s_zret (by decide +kernel) rfl,
  trivial⟩
def bp_X6_fitsGuest : List Nat := [0, 1, 2, 3, 5, 6, 7, 8, 9, 12, 13, 14, 15, 16, 18, 19, 52, 53, 54, 56, 59, 62, 63, 64, 67, 68, 69, 72, 75, 76, 79, 80, 81, 82, 85, 86, 87, 89, 90, 91, 94, 97, 98, 101, 102, 103, 104, 107, 108, 109, 110, 111, 114, 117, 120, 121, 124, 125, 126, 127, 130, 131, 134, 135, 136, 137, 140, 141, 142, 145, 146, 149, 150]
def co_X6_fitsGuest : List pm_Op := [
  pm_iload 1,
  pm_push (5),
  pm_bin (fun x y => x - y),
  pm_push (6),
  pm_idiv,
  pm_istore 2,
  pm_aload 0,
  pm_iload 1,
  pm_callV 6 50 2,
  pm_istore 3,
  pm_iload 1,
  pm_push (5),
  pm_bin (fun x y => x - y),
  pm_push (6),
  pm_irem,
  pm_tsw 64 [(0, 16), (1, 32), (2, 45), (3, 64), (4, 58)],
  pm_aload 0,
  pm_iload 1,
  pm_push (71),
  pm_callV 6 51 3,
  pm_ifeq 30,
  pm_iload 2,
  pm_push (5),
  pm_cmpge 30,
  pm_iload 2,
  pm_aload 0,
  pm_callV 6 47 1,
  pm_cmpge 30,
  pm_push (1),
  pm_goto 31,
  pm_push (0),
  pm_zret,
  pm_iload 3,
  pm_iflt 43,
  pm_aload 0,
  pm_iload 2,
  pm_push (10),
  pm_iload 3,
  pm_bin (fun x y => x * y),
  pm_callV 6 54 3,
  pm_ifeq 43,
  pm_push (1),
  pm_goto 44,
  pm_push (0),
  pm_zret,
  pm_iload 3,
  pm_iflt 56,
  pm_aload 0,
  pm_iload 2,
  pm_aload 0,
  pm_iload 2,
  pm_callV 6 48 2,
  pm_callV 6 55 3,
  pm_ifeq 56,
  pm_push (1),
  pm_goto 57,
  pm_push (0),
  pm_zret,
  pm_iload 3,
  pm_iflt 62,
  pm_push (1),
  pm_goto 63,
  pm_push (0),
  pm_zret,
  pm_iload 3,
  pm_iflt 71,
  pm_iload 3,
  pm_push (3),
  pm_cmpgt 71,
  pm_push (1),
  pm_goto 72,
  pm_push (0),
  pm_zret]
set_option maxRecDepth 20000 in
set_option maxHeartbeats 4000000 in
theorem ms_X6_fitsGuest : pm_MS 53 RX6 bp_X6_fitsGuest co_X6_fitsGuest := fun p l e R s m args below meth c cells slots Qm D cs ad sz d C hR => ⟨
  pm_s_iload_n C (n := 1) (by decide +kernel) rfl rfl,
  pm_s_iconst C (n := 5) (by decide +kernel) rfl rfl,
  pm_s_isub C (by decide +kernel) rfl,
  pm_s_bipush C (n := 6) (by decide +kernel) rfl rfl,
  pm_s_idiv C (by decide +kernel) rfl,
  pm_s_istore_n C (n := 2) (by decide +kernel) rfl rfl,
  pm_s_aload_n C (n := 0) (by decide +kernel) rfl rfl,
  pm_s_iload_n C (n := 1) (by decide +kernel) rfl rfl,
  pm_s_callV C hR (n := 32) (ci := 6) rfl (by decide +kernel) pm_ml_X6_32 pm_im50 pm_se50 pm_in_X6 pm_cw50 pm_q50 (by decide) rfl,
  pm_s_istore_n C (n := 3) (by decide +kernel) rfl rfl,
  pm_s_iload_n C (n := 1) (by decide +kernel) rfl rfl,
  pm_s_iconst C (n := 5) (by decide +kernel) rfl rfl,
  pm_s_isub C (by decide +kernel) rfl,
  pm_s_bipush C (n := 6) (by decide +kernel) rfl rfl,
  pm_s_irem C (by decide +kernel) rfl,
  pm_s_tsw C (dflt := 117) (lo := 0) (hi := 4) (offs := #[33, 62, 84, 117, 107]) (len := 33) (by decide +kernel) (by decide +kernel) (by decide +kernel) (by decide +kernel),
  pm_s_aload_n C (n := 0) (by decide +kernel) rfl rfl,
  pm_s_iload_n C (n := 1) (by decide +kernel) rfl rfl,
  pm_s_bipush C (n := 71) (by decide +kernel) rfl rfl,
  pm_s_callV C hR (n := 36) (ci := 6) rfl (by decide +kernel) pm_ml_X6_36 pm_im51 pm_se51 pm_in_X6 pm_cw51 pm_q51 (by decide) rfl,
  pm_s_ifeq C (off := 20) (by decide +kernel) (by decide +kernel) rfl,
  pm_s_iload_n C (n := 2) (by decide +kernel) rfl rfl,
  pm_s_iconst C (n := 5) (by decide +kernel) rfl rfl,
  pm_s_cmpge C (off := 15) (by decide +kernel) (by decide +kernel) rfl,
  pm_s_iload_n C (n := 2) (by decide +kernel) rfl rfl,
  pm_s_aload_n C (n := 0) (by decide +kernel) rfl rfl,
  pm_s_callV C hR (n := 40) (ci := 6) rfl (by decide +kernel) pm_ml_X6_40 pm_im47 pm_se47 pm_in_X6 pm_cw47 pm_q47 (by decide) rfl,
  pm_s_cmpge C (off := 7) (by decide +kernel) (by decide +kernel) rfl,
  pm_s_iconst C (n := 1) (by decide +kernel) rfl rfl,
  pm_s_goto C (off := 4) (by decide +kernel) (by decide +kernel),
  pm_s_iconst C (n := 0) (by decide +kernel) rfl rfl,
  pm_s_zret (by decide +kernel) rfl,
  pm_s_iload_n C (n := 3) (by decide +kernel) rfl rfl,
  pm_s_iflt C (off := 19) (by decide +kernel) (by decide +kernel) rfl,
  pm_s_aload_n C (n := 0) (by decide +kernel) rfl rfl,
  pm_s_iload_n C (n := 2) (by decide +kernel) rfl rfl,
  pm_s_bipush C (n := 10) (by decide +kernel) rfl rfl,
  pm_s_iload_n C (n := 3) (by decide +kernel) rfl rfl,
  pm_s_imul C (by decide +kernel) rfl,
  pm_s_callV C hR (n := 44) (ci := 6) rfl (by decide +kernel) pm_ml_X6_44 pm_im54 pm_se54 pm_in_X6 pm_cw54 pm_q54 (by decide) rfl,
  pm_s_ifeq C (off := 7) (by decide +kernel) (by decide +kernel) rfl,
  pm_s_iconst C (n := 1) (by decide +kernel) rfl rfl,
  pm_s_goto C (off := 4) (by decide +kernel) (by decide +kernel),
  pm_s_iconst C (n := 0) (by decide +kernel) rfl rfl,
  pm_s_zret (by decide +kernel) rfl,
  pm_s_iload_n C (n := 3) (by decide +kernel) rfl rfl,
  pm_s_iflt C (off := 20) (by decide +kernel) (by decide +kernel) rfl,
  pm_s_aload_n C (n := 0) (by decide +kernel) rfl rfl,
  pm_s_iload_n C (n := 2) (by decide +kernel) rfl rfl,
  pm_s_aload_n C (n := 0) (by decide +kernel) rfl rfl,
  pm_s_iload_n C (n := 2) (by decide +kernel) rfl rfl,
  pm_s_callV C hR (n := 48) (ci := 6) rfl (by decide +kernel) pm_ml_X6_48 pm_im48 pm_se48 pm_in_X6 pm_cw48 pm_q48 (by decide) rfl,
  pm_s_callV C hR (n := 51) (ci := 6) rfl (by decide +kernel) pm_ml_X6_51 pm_im55 pm_se55 pm_in_X6 pm_cw55 pm_q55 (by decide) rfl,
  pm_s_ifeq C (off := 7) (by decide +kernel) (by decide +kernel) rfl,
  pm_s_iconst C (n := 1) (by decide +kernel) rfl rfl,
  pm_s_goto C (off := 4) (by decide +kernel) (by decide +kernel),
  pm_s_iconst C (n := 0) (by decide +kernel) rfl rfl,
  pm_s_zret (by decide +kernel) rfl,
  pm_s_iload_n C (n := 3) (by decide +kernel) rfl rfl,
  pm_s_iflt C (off := 7) (by decide +kernel) (by decide +kernel) rfl,
  pm_s_iconst C (n := 1) (by decide +kernel) rfl rfl,
  pm_s_goto C (off := 4) (by decide +kernel) (by decide +kernel),
  pm_s_iconst C (n := 0) (by decide +kernel) rfl rfl,
  pm_s_zret (by decide +kernel) rfl,
  pm_s_iload_n C (n := 3) (by decide +kernel) rfl rfl,
  pm_s_iflt C (off := 12) (by decide +kernel) (by decide +kernel) rfl,
  pm_s_iload_n C (n := 3) (by decide +kernel) rfl rfl,
  pm_s_iconst C (n := 3) (by decide +kernel) rfl rfl,
  pm_s_cmpgt C (off := 7) (by decide +kernel) (by decide +kernel) rfl,
  pm_s_iconst C (n := 1) (by decide +kernel) rfl rfl,
  pm_s_goto C (off := 4) (by decide +kernel) (by decide +kernel),
  pm_s_iconst C (n := 0) (by decide +kernel) rfl rfl,
  pm_s_zret (by decide +kernel) rfl,
  trivial⟩
def bp_X6_isAnyFree : List Nat := [0, 1, 2, 3, 5, 8, 9, 10, 11, 12, 13, 16, 19, 20, 21, 24, 27, 28]
def co_X6_isAnyFree : List pm_Op := [
  pm_push (0),
  pm_istore 3,
  pm_iload 3,
  pm_push (10),
  pm_cmpge 16,
  pm_aload 0,
  pm_iload 1,
  pm_iload 2,
  pm_iload 3,
  pm_bin (fun x y => x + y),
  pm_callV 6 55 3,
  pm_ifeq 14,
  pm_push (1),
  pm_zret,
  pm_iinc 3 (1),
  pm_goto 2,
  pm_push (0),
  pm_zret]
set_option maxRecDepth 20000 in
set_option maxHeartbeats 4000000 in
theorem ms_X6_isAnyFree : pm_MS 54 RX6 bp_X6_isAnyFree co_X6_isAnyFree := fun p l e R s m args below meth c cells slots Qm D cs ad sz d C hR => ⟨
  pm_s_iconst C (n := 0) (by decide +kernel) rfl rfl,
  pm_s_istore_n C (n := 3) (by decide +kernel) rfl rfl,
  pm_s_iload_n C (n := 3) (by decide +kernel) rfl rfl,
  pm_s_bipush C (n := 10) (by decide +kernel) rfl rfl,
  pm_s_cmpge C (off := 22) (by decide +kernel) (by decide +kernel) rfl,
  pm_s_aload_n C (n := 0) (by decide +kernel) rfl rfl,
  pm_s_iload_n C (n := 1) (by decide +kernel) rfl rfl,
  pm_s_iload_n C (n := 2) (by decide +kernel) rfl rfl,
  pm_s_iload_n C (n := 3) (by decide +kernel) rfl rfl,
  pm_s_iadd C (by decide +kernel) rfl,
  pm_s_callV C hR (n := 51) (ci := 6) rfl (by decide +kernel) pm_ml_X6_51 pm_im55 pm_se55 pm_in_X6 pm_cw55 pm_q55 (by decide) rfl,
  pm_s_ifeq C (off := 5) (by decide +kernel) (by decide +kernel) rfl,
  pm_s_iconst C (n := 1) (by decide +kernel) rfl rfl,
  pm_s_zret (by decide +kernel) rfl,
  pm_s_iinc C (n := 1) (by decide +kernel) rfl rfl,
  pm_s_goto C (off := -22) (by decide +kernel) (by decide +kernel),
  pm_s_iconst C (n := 0) (by decide +kernel) rfl rfl,
  pm_s_zret (by decide +kernel) rfl,
  trivial⟩
def bp_X6_isFree : List Nat := [0, 1, 2, 5, 8, 9, 10, 11, 12, 13, 14, 17, 18, 19, 22, 23, 26, 27, 28, 31, 34, 35]
def co_X6_isFree : List pm_Op := [
  pm_iload 2,
  pm_aload 0,
  pm_callV 6 47 1,
  pm_cmplt 6,
  pm_push (0),
  pm_zret,
  pm_push (0),
  pm_istore 3,
  pm_iload 3,
  pm_iload 1,
  pm_cmpge 20,
  pm_aload 0,
  pm_iload 3,
  pm_callV 6 48 2,
  pm_iload 2,
  pm_cmpne 18,
  pm_push (0),
  pm_zret,
  pm_iinc 3 (1),
  pm_goto 8,
  pm_push (1),
  pm_zret]
set_option maxRecDepth 20000 in
set_option maxHeartbeats 4000000 in
theorem ms_X6_isFree : pm_MS 55 RX6 bp_X6_isFree co_X6_isFree := fun p l e R s m args below meth c cells slots Qm D cs ad sz d C hR => ⟨
  pm_s_iload_n C (n := 2) (by decide +kernel) rfl rfl,
  pm_s_aload_n C (n := 0) (by decide +kernel) rfl rfl,
  pm_s_callV C hR (n := 40) (ci := 6) rfl (by decide +kernel) pm_ml_X6_40 pm_im47 pm_se47 pm_in_X6 pm_cw47 pm_q47 (by decide) rfl,
  pm_s_cmplt C (off := 5) (by decide +kernel) (by decide +kernel) rfl,
  pm_s_iconst C (n := 0) (by decide +kernel) rfl rfl,
  pm_s_zret (by decide +kernel) rfl,
  pm_s_iconst C (n := 0) (by decide +kernel) rfl rfl,
  pm_s_istore_n C (n := 3) (by decide +kernel) rfl rfl,
  pm_s_iload_n C (n := 3) (by decide +kernel) rfl rfl,
  pm_s_iload_n C (n := 1) (by decide +kernel) rfl rfl,
  pm_s_cmpge C (off := 20) (by decide +kernel) (by decide +kernel) rfl,
  pm_s_aload_n C (n := 0) (by decide +kernel) rfl rfl,
  pm_s_iload_n C (n := 3) (by decide +kernel) rfl rfl,
  pm_s_callV C hR (n := 48) (ci := 6) rfl (by decide +kernel) pm_ml_X6_48 pm_im48 pm_se48 pm_in_X6 pm_cw48 pm_q48 (by decide) rfl,
  pm_s_iload_n C (n := 2) (by decide +kernel) rfl rfl,
  pm_s_cmpne C (off := 5) (by decide +kernel) (by decide +kernel) rfl,
  pm_s_iconst C (n := 0) (by decide +kernel) rfl rfl,
  pm_s_zret (by decide +kernel) rfl,
  pm_s_iinc C (n := 1) (by decide +kernel) rfl rfl,
  pm_s_goto C (off := -19) (by decide +kernel) (by decide +kernel),
  pm_s_iconst C (n := 1) (by decide +kernel) rfl rfl,
  pm_s_zret (by decide +kernel) rfl,
  trivial⟩
def bp_J6_bitCount_0f7a4 : List Nat := [0, 1, 2, 3, 4, 7, 8, 9, 10, 11, 14, 15, 16, 17, 18, 21, 22, 23, 24, 25, 26, 27, 28, 29, 32, 33, 34, 35, 36, 38, 39, 40, 41, 42, 43, 45, 46, 47, 48, 49, 51, 52]
def co_J6_bitCount_0f7a4 : List pm_Op := [
  pm_iload 0,
  pm_iload 0,
  pm_push (1),
  pm_bin (fun x y => (x.toUInt32 >>> (y.toUInt32 &&& Int32.toUInt32 31)).toInt32),
  pm_push (1431655765),
  pm_bin (fun x y => x &&& y),
  pm_bin (fun x y => x - y),
  pm_istore 0,
  pm_iload 0,
  pm_push (858993459),
  pm_bin (fun x y => x &&& y),
  pm_iload 0,
  pm_push (2),
  pm_bin (fun x y => (x.toUInt32 >>> (y.toUInt32 &&& Int32.toUInt32 31)).toInt32),
  pm_push (858993459),
  pm_bin (fun x y => x &&& y),
  pm_bin (fun x y => x + y),
  pm_istore 0,
  pm_iload 0,
  pm_iload 0,
  pm_push (4),
  pm_bin (fun x y => (x.toUInt32 >>> (y.toUInt32 &&& Int32.toUInt32 31)).toInt32),
  pm_bin (fun x y => x + y),
  pm_push (252645135),
  pm_bin (fun x y => x &&& y),
  pm_istore 0,
  pm_iload 0,
  pm_iload 0,
  pm_push (8),
  pm_bin (fun x y => (x.toUInt32 >>> (y.toUInt32 &&& Int32.toUInt32 31)).toInt32),
  pm_bin (fun x y => x + y),
  pm_istore 0,
  pm_iload 0,
  pm_iload 0,
  pm_push (16),
  pm_bin (fun x y => (x.toUInt32 >>> (y.toUInt32 &&& Int32.toUInt32 31)).toInt32),
  pm_bin (fun x y => x + y),
  pm_istore 0,
  pm_iload 0,
  pm_push (63),
  pm_bin (fun x y => x &&& y),
  pm_iret]
set_option maxRecDepth 20000 in
set_option maxHeartbeats 4000000 in
theorem ms_J6_bitCount_0f7a4 : pm_MS 151 RJ6 bp_J6_bitCount_0f7a4 co_J6_bitCount_0f7a4 := fun p l e R s m args below meth c cells slots Qm D cs ad sz d C hR => ⟨
  pm_s_iload_n C (n := 0) (by decide +kernel) rfl rfl,
  pm_s_iload_n C (n := 0) (by decide +kernel) rfl rfl,
  pm_s_iconst C (n := 1) (by decide +kernel) rfl rfl,
  pm_s_iushr C (by decide +kernel) rfl,
  pm_s_ldcw C (n := 265) (by decide +kernel) pm_k_J6_265 rfl,
  pm_s_iand C (by decide +kernel) rfl,
  pm_s_isub C (by decide +kernel) rfl,
  pm_s_istore_n C (n := 0) (by decide +kernel) rfl rfl,
  pm_s_iload_n C (n := 0) (by decide +kernel) rfl rfl,
  pm_s_ldcw C (n := 266) (by decide +kernel) pm_k_J6_266 rfl,
  pm_s_iand C (by decide +kernel) rfl,
  pm_s_iload_n C (n := 0) (by decide +kernel) rfl rfl,
  pm_s_iconst C (n := 2) (by decide +kernel) rfl rfl,
  pm_s_iushr C (by decide +kernel) rfl,
  pm_s_ldcw C (n := 266) (by decide +kernel) pm_k_J6_266 rfl,
  pm_s_iand C (by decide +kernel) rfl,
  pm_s_iadd C (by decide +kernel) rfl,
  pm_s_istore_n C (n := 0) (by decide +kernel) rfl rfl,
  pm_s_iload_n C (n := 0) (by decide +kernel) rfl rfl,
  pm_s_iload_n C (n := 0) (by decide +kernel) rfl rfl,
  pm_s_iconst C (n := 4) (by decide +kernel) rfl rfl,
  pm_s_iushr C (by decide +kernel) rfl,
  pm_s_iadd C (by decide +kernel) rfl,
  pm_s_ldcw C (n := 267) (by decide +kernel) pm_k_J6_267 rfl,
  pm_s_iand C (by decide +kernel) rfl,
  pm_s_istore_n C (n := 0) (by decide +kernel) rfl rfl,
  pm_s_iload_n C (n := 0) (by decide +kernel) rfl rfl,
  pm_s_iload_n C (n := 0) (by decide +kernel) rfl rfl,
  pm_s_bipush C (n := 8) (by decide +kernel) rfl rfl,
  pm_s_iushr C (by decide +kernel) rfl,
  pm_s_iadd C (by decide +kernel) rfl,
  pm_s_istore_n C (n := 0) (by decide +kernel) rfl rfl,
  pm_s_iload_n C (n := 0) (by decide +kernel) rfl rfl,
  pm_s_iload_n C (n := 0) (by decide +kernel) rfl rfl,
  pm_s_bipush C (n := 16) (by decide +kernel) rfl rfl,
  pm_s_iushr C (by decide +kernel) rfl,
  pm_s_iadd C (by decide +kernel) rfl,
  pm_s_istore_n C (n := 0) (by decide +kernel) rfl rfl,
  pm_s_iload_n C (n := 0) (by decide +kernel) rfl rfl,
  pm_s_bipush C (n := 63) (by decide +kernel) rfl rfl,
  pm_s_iand C (by decide +kernel) rfl,
  pm_s_iret (by decide +kernel) rfl,
  trivial⟩
def bp_J9_floorMod_7cf53 : List Nat := [0, 1, 2, 3, 4, 5, 6, 7, 10, 11, 14, 15, 16, 17, 18, 19]
def co_J9_floorMod_7cf53 : List pm_Op := [
  pm_iload 0,
  pm_iload 1,
  pm_irem,
  pm_istore 2,
  pm_iload 0,
  pm_iload 1,
  pm_bin (fun x y => x ^^^ y),
  pm_ifge 14,
  pm_iload 2,
  pm_ifeq 14,
  pm_iload 2,
  pm_iload 1,
  pm_bin (fun x y => x + y),
  pm_iret,
  pm_iload 2,
  pm_iret]
set_option maxRecDepth 20000 in
set_option maxHeartbeats 4000000 in
theorem ms_J9_floorMod_7cf53 : pm_MS 152 RJ9 bp_J9_floorMod_7cf53 co_J9_floorMod_7cf53 := fun p l e R s m args below meth c cells slots Qm D cs ad sz d C hR => ⟨
  pm_s_iload_n C (n := 0) (by decide +kernel) rfl rfl,
  pm_s_iload_n C (n := 1) (by decide +kernel) rfl rfl,
  pm_s_irem C (by decide +kernel) rfl,
  pm_s_istore_n C (n := 2) (by decide +kernel) rfl rfl,
  pm_s_iload_n C (n := 0) (by decide +kernel) rfl rfl,
  pm_s_iload_n C (n := 1) (by decide +kernel) rfl rfl,
  pm_s_ixor C (by decide +kernel) rfl,
  pm_s_ifge C (off := 11) (by decide +kernel) (by decide +kernel) rfl,
  pm_s_iload_n C (n := 2) (by decide +kernel) rfl rfl,
  pm_s_ifeq C (off := 7) (by decide +kernel) (by decide +kernel) rfl,
  pm_s_iload_n C (n := 2) (by decide +kernel) rfl rfl,
  pm_s_iload_n C (n := 1) (by decide +kernel) rfl rfl,
  pm_s_iadd C (by decide +kernel) rfl,
  pm_s_iret (by decide +kernel) rfl,
  pm_s_iload_n C (n := 2) (by decide +kernel) rfl rfl,
  pm_s_iret (by decide +kernel) rfl,
  trivial⟩
def bp_J9_abs_0f7a4 : List Nat := [0, 1, 4, 5, 6, 9, 10]
def co_J9_abs_0f7a4 : List pm_Op := [
  pm_iload 0,
  pm_ifge 5,
  pm_iload 0,
  pm_ineg,
  pm_goto 6,
  pm_iload 0,
  pm_iret]
set_option maxRecDepth 20000 in
set_option maxHeartbeats 4000000 in
theorem ms_J9_abs_0f7a4 : pm_MS 153 RJ9 bp_J9_abs_0f7a4 co_J9_abs_0f7a4 := fun p l e R s m args below meth c cells slots Qm D cs ad sz d C hR => ⟨
  pm_s_iload_n C (n := 0) (by decide +kernel) rfl rfl,
  pm_s_ifge C (off := 8) (by decide +kernel) (by decide +kernel) rfl,
  pm_s_iload_n C (n := 0) (by decide +kernel) rfl rfl,
  pm_s_ineg C (by decide +kernel) rfl,
  pm_s_goto C (off := 4) (by decide +kernel) (by decide +kernel),
  pm_s_iload_n C (n := 0) (by decide +kernel) rfl rfl,
  pm_s_iret (by decide +kernel) rfl,
  trivial⟩
def bp_J9_max_7cf53 : List Nat := [0, 1, 2, 5, 6, 9, 10]
def co_J9_max_7cf53 : List pm_Op := [
  pm_iload 0,
  pm_iload 1,
  pm_cmplt 5,
  pm_iload 0,
  pm_goto 6,
  pm_iload 1,
  pm_iret]
set_option maxRecDepth 20000 in
set_option maxHeartbeats 4000000 in
theorem ms_J9_max_7cf53 : pm_MS 154 RJ9 bp_J9_max_7cf53 co_J9_max_7cf53 := fun p l e R s m args below meth c cells slots Qm D cs ad sz d C hR => ⟨
  pm_s_iload_n C (n := 0) (by decide +kernel) rfl rfl,
  pm_s_iload_n C (n := 1) (by decide +kernel) rfl rfl,
  pm_s_cmplt C (off := 7) (by decide +kernel) (by decide +kernel) rfl,
  pm_s_iload_n C (n := 0) (by decide +kernel) rfl rfl,
  pm_s_goto C (off := 4) (by decide +kernel) (by decide +kernel),
  pm_s_iload_n C (n := 1) (by decide +kernel) rfl rfl,
  pm_s_iret (by decide +kernel) rfl,
  trivial⟩
def bp_J9_min_7cf53 : List Nat := [0, 1, 2, 5, 6, 9, 10]
def co_J9_min_7cf53 : List pm_Op := [
  pm_iload 0,
  pm_iload 1,
  pm_cmpgt 5,
  pm_iload 0,
  pm_goto 6,
  pm_iload 1,
  pm_iret]
set_option maxRecDepth 20000 in
set_option maxHeartbeats 4000000 in
theorem ms_J9_min_7cf53 : pm_MS 155 RJ9 bp_J9_min_7cf53 co_J9_min_7cf53 := fun p l e R s m args below meth c cells slots Qm D cs ad sz d C hR => ⟨
  pm_s_iload_n C (n := 0) (by decide +kernel) rfl rfl,
  pm_s_iload_n C (n := 1) (by decide +kernel) rfl rfl,
  pm_s_cmpgt C (off := 7) (by decide +kernel) (by decide +kernel) rfl,
  pm_s_iload_n C (n := 0) (by decide +kernel) rfl rfl,
  pm_s_goto C (off := 4) (by decide +kernel) (by decide +kernel),
  pm_s_iload_n C (n := 1) (by decide +kernel) rfl rfl,
  pm_s_iret (by decide +kernel) rfl,
  trivial⟩
