/-! ===== LeafTable() ===== -/
theorem dk_X7_init_0 : decode cX7_init 0 = .ok (.aload_n 0, 1) := by decide +kernel
set_option maxRecDepth 20000 in
theorem ck_ol_X7 : Cond.methodLink RX7 1 objectInit ∈ wAll := wIn 61 rfl rfl
theorem dk_X7_init_1 : decode cX7_init 1 = .ok (.invokespecial 1, 3) := by decide +kernel
theorem dk_X7_init_4 : decode cX7_init 4 = .ok (.aload_n 0, 1) := by decide +kernel
set_option maxRecDepth 20000 in
theorem ck_cl_X7_7 : Cond.classLink RX7 7 RX6 ∈ wAll := wIn 64 rfl rfl
set_option maxRecDepth 20000 in
theorem ck_in_X6 : Cond.instantiable RX6 2 ∈ wAll := wIn 65 rfl rfl
set_option maxRecDepth 20000 in
theorem ck_it_X6 : Cond.initialized RX6 ∈ wAll := wIn 46 rfl rfl
theorem ck_fs_X6 : ∀ j, j < 2 → defaultValue (tyX6 j) = vp_V [.null, .int 0] j
  | 0, _ => rfl
  | 1, _ => rfl
  | j + 2, h => absurd h (by omega)
theorem dk_X7_init_5 : decode cX7_init 5 = .ok (.new 7, 3) := by decide +kernel
theorem dk_X7_init_8 : decode cX7_init 8 = .ok (.dup, 1) := by decide +kernel
theorem ck_nm_X7_9 : (RX7, 9, yX6_init, "LeafTable") ∈ pm_nM := List.mem_of_getElem? (i := 0) rfl
set_option maxRecDepth 20000 in
theorem ck_co_X6_init : Cond.code yX6_init cX6_init 1 none ∈ wAll := wIn 68 rfl rfl
set_option maxRecDepth 20000 in
theorem ck_im_X6_init : Cond.instanceMethod yX6_init ∈ wAll := wIn 67 rfl rfl
theorem ck_dd_X6_init : yX6_init.cls ≠ "java/lang/invoke/MethodHandle" ∧ yX6_init.cls ≠ "java/lang/invoke/VarHandle" ∧ (parseMethodDescriptor yX6_init.desc).map (fun d => d.parameters.length) = some 0 := by decide +kernel
theorem dk_X7_init_9 : decode cX7_init 9 = .ok (.invokespecial 9, 3) := by decide +kernel
set_option maxRecDepth 20000 in
theorem ck_fl_X7_10 : Cond.fieldLink RX7 10 RX7 "text" "LLeafTable$Text;" ∈ wAll := wIn 238 rfl rfl
theorem dk_X7_init_12 : decode cX7_init 12 = .ok (.putfield 10, 3) := by decide +kernel
theorem dk_X7_init_15 : decode cX7_init 15 = .ok (.aload_n 0, 1) := by decide +kernel
set_option maxRecDepth 20000 in
theorem ck_cl_X7_16 : Cond.classLink RX7 16 RX5 ∈ wAll := wIn 79 rfl rfl
set_option maxRecDepth 20000 in
theorem ck_in_X5 : Cond.instantiable RX5 6 ∈ wAll := wIn 80 rfl rfl
set_option maxRecDepth 20000 in
theorem ck_it_X5 : Cond.initialized RX5 ∈ wAll := wIn 47 rfl rfl
theorem ck_fs_X5 : ∀ j, j < 6 → defaultValue (tyX5 j) = vp_V [.null, .null, .null, .int 0, .int 0, .int 0] j
  | 0, _ => rfl
  | 1, _ => rfl
  | 2, _ => rfl
  | 3, _ => rfl
  | 4, _ => rfl
  | 5, _ => rfl
  | j + 6, h => absurd h (by omega)
theorem dk_X7_init_16 : decode cX7_init 16 = .ok (.new 16, 3) := by decide +kernel
theorem dk_X7_init_19 : decode cX7_init 19 = .ok (.dup, 1) := by decide +kernel
theorem ck_nm_X7_18 : (RX7, 18, yX5_init, "LeafTable") ∈ pm_nM := List.mem_of_getElem? (i := 1) rfl
set_option maxRecDepth 20000 in
theorem ck_co_X5_init : Cond.code yX5_init cX5_init 1 none ∈ wAll := wIn 83 rfl rfl
set_option maxRecDepth 20000 in
theorem ck_im_X5_init : Cond.instanceMethod yX5_init ∈ wAll := wIn 82 rfl rfl
theorem ck_dd_X5_init : yX5_init.cls ≠ "java/lang/invoke/MethodHandle" ∧ yX5_init.cls ≠ "java/lang/invoke/VarHandle" ∧ (parseMethodDescriptor yX5_init.desc).map (fun d => d.parameters.length) = some 0 := by decide +kernel
theorem dk_X7_init_20 : decode cX7_init 20 = .ok (.invokespecial 18, 3) := by decide +kernel
set_option maxRecDepth 20000 in
theorem ck_fl_X7_19 : Cond.fieldLink RX7 19 RX7 "table" "LLeafTable$Table;" ∈ wAll := wIn 239 rfl rfl
theorem dk_X7_init_23 : decode cX7_init 23 = .ok (.putfield 19, 3) := by decide +kernel
theorem dk_X7_init_26 : decode cX7_init 26 = .ok (.aload_n 0, 1) := by decide +kernel
theorem dk_X7_init_27 : decode cX7_init 27 = .ok (.new 23, 3) := by decide +kernel
theorem dk_X7_init_30 : decode cX7_init 30 = .ok (.dup, 1) := by decide +kernel
theorem dk_X7_init_31 : decode cX7_init 31 = .ok (.invokespecial 25, 3) := by decide +kernel
set_option maxRecDepth 20000 in
theorem ck_fl_X7_26 : Cond.fieldLink RX7 26 RX7 "now" "LLeafTable$Seats;" ∈ wAll := wIn 240 rfl rfl
theorem dk_X7_init_34 : decode cX7_init 34 = .ok (.putfield 26, 3) := by decide +kernel
theorem dk_X7_init_37 : decode cX7_init 37 = .ok (.aload_n 0, 1) := by decide +kernel
set_option maxRecDepth 20000 in
theorem ck_cl_X7_30 : Cond.classLink RX7 30 RX0 ∈ wAll := wIn 150 rfl rfl
set_option maxRecDepth 20000 in
theorem ck_in_X0 : Cond.instantiable RX0 2 ∈ wAll := wIn 151 rfl rfl
set_option maxRecDepth 20000 in
theorem ck_it_X0 : Cond.initialized RX0 ∈ wAll := wIn 49 rfl rfl
theorem ck_fs_X0 : ∀ j, j < 2 → defaultValue (tyX0 j) = vp_V [.null, .int 0] j
  | 0, _ => rfl
  | 1, _ => rfl
  | j + 2, h => absurd h (by omega)
theorem dk_X7_init_38 : decode cX7_init 38 = .ok (.new 30, 3) := by decide +kernel
theorem dk_X7_init_41 : decode cX7_init 41 = .ok (.dup, 1) := by decide +kernel
set_option maxRecDepth 20000 in
theorem ck_ml_X7_32 : Cond.methodLink RX7 32 yX0_init ∈ wAll := wIn 152 rfl rfl
set_option maxRecDepth 20000 in
theorem ck_co_X0_init : Cond.code yX0_init cX0_init 2 none ∈ wAll := wIn 154 rfl rfl
set_option maxRecDepth 20000 in
theorem ck_im_X0_init : Cond.instanceMethod yX0_init ∈ wAll := wIn 153 rfl rfl
theorem ck_dd_X0_init : yX0_init.cls ≠ "java/lang/invoke/MethodHandle" ∧ yX0_init.cls ≠ "java/lang/invoke/VarHandle" ∧ (parseMethodDescriptor yX0_init.desc).map (fun d => d.parameters.length) = some 0 := by decide +kernel
theorem dk_X7_init_42 : decode cX7_init 42 = .ok (.invokespecial 32, 3) := by decide +kernel
set_option maxRecDepth 20000 in
theorem ck_fl_X7_33 : Cond.fieldLink RX7 33 RX7 "acts" "LLeafTable$Acts;" ∈ wAll := wIn 241 rfl rfl
theorem dk_X7_init_45 : decode cX7_init 45 = .ok (.putfield 33, 3) := by decide +kernel
theorem dk_X7_init_48 : decode cX7_init 48 = .ok (.aload_n 0, 1) := by decide +kernel
theorem dk_X7_init_49 : decode cX7_init 49 = .ok (.iconst 2, 1) := by decide +kernel
theorem dk_X7_init_50 : decode cX7_init 50 = .ok (.anewarray 23, 3) := by decide +kernel
theorem dk_X7_init_53 : decode cX7_init 53 = .ok (.putfield 37, 3) := by decide +kernel
theorem dk_X7_init_56 : decode cX7_init 56 = .ok (.iconst 0, 1) := by decide +kernel
theorem dk_X7_init_57 : decode cX7_init 57 = .ok (.istore_n 1, 1) := by decide +kernel
theorem dk_X7_init_82 : decode cX7_init 82 = .ok (.aload_n 0, 1) := by decide +kernel
theorem dk_X7_init_83 : decode cX7_init 83 = .ok (.iconst 2, 1) := by decide +kernel
theorem dk_X7_init_84 : decode cX7_init 84 = .ok (.newarray .boolean, 2) := by decide +kernel
set_option maxRecDepth 20000 in
theorem ck_fl_X7_41 : Cond.fieldLink RX7 41 RX7 "isKept" "[Z" ∈ wAll := wIn 243 rfl rfl
theorem dk_X7_init_86 : decode cX7_init 86 = .ok (.putfield 41, 3) := by decide +kernel
theorem dk_X7_init_89 : decode cX7_init 89 = .ok (.aload_n 0, 1) := by decide +kernel
set_option maxRecDepth 20000 in
theorem ck_cl_X7_45 : Cond.classLink RX7 45 RX2 ∈ wAll := wIn 167 rfl rfl
set_option maxRecDepth 20000 in
theorem ck_in_X2 : Cond.instantiable RX2 6 ∈ wAll := wIn 168 rfl rfl
set_option maxRecDepth 20000 in
theorem ck_it_X2 : Cond.initialized RX2 ∈ wAll := wIn 50 rfl rfl
theorem ck_fs_X2 : ∀ j, j < 6 → defaultValue (tyX2 j) = vp_V [.null, .null, .int 0, .int 0, .int 0, .int 0] j
  | 0, _ => rfl
  | 1, _ => rfl
  | 2, _ => rfl
  | 3, _ => rfl
  | 4, _ => rfl
  | 5, _ => rfl
  | j + 6, h => absurd h (by omega)
theorem dk_X7_init_90 : decode cX7_init 90 = .ok (.new 45, 3) := by decide +kernel
theorem dk_X7_init_93 : decode cX7_init 93 = .ok (.dup, 1) := by decide +kernel
theorem ck_nm_X7_47 : (RX7, 47, yX2_init, "LeafTable") ∈ pm_nM := List.mem_of_getElem? (i := 4) rfl
set_option maxRecDepth 20000 in
theorem ck_co_X2_init : Cond.code yX2_init cX2_init 1 none ∈ wAll := wIn 171 rfl rfl
set_option maxRecDepth 20000 in
theorem ck_im_X2_init : Cond.instanceMethod yX2_init ∈ wAll := wIn 170 rfl rfl
theorem ck_dd_X2_init : yX2_init.cls ≠ "java/lang/invoke/MethodHandle" ∧ yX2_init.cls ≠ "java/lang/invoke/VarHandle" ∧ (parseMethodDescriptor yX2_init.desc).map (fun d => d.parameters.length) = some 0 := by decide +kernel
theorem dk_X7_init_94 : decode cX7_init 94 = .ok (.invokespecial 47, 3) := by decide +kernel
set_option maxRecDepth 20000 in
theorem ck_fl_X7_48 : Cond.fieldLink RX7 48 RX7 "dinners" "LLeafTable$Dinners;" ∈ wAll := wIn 244 rfl rfl
theorem dk_X7_init_97 : decode cX7_init 97 = .ok (.putfield 48, 3) := by decide +kernel
theorem dk_X7_init_100 : decode cX7_init 100 = .ok (.aload_n 0, 1) := by decide +kernel
set_option maxRecDepth 20000 in
theorem ck_cl_X7_52 : Cond.classLink RX7 52 RX3 ∈ wAll := wIn 197 rfl rfl
set_option maxRecDepth 20000 in
theorem ck_in_X3 : Cond.instantiable RX3 5 ∈ wAll := wIn 198 rfl rfl
set_option maxRecDepth 20000 in
theorem ck_it_X3 : Cond.initialized RX3 ∈ wAll := wIn 51 rfl rfl
theorem ck_fs_X3 : ∀ j, j < 5 → defaultValue (tyX3 j) = vp_V [.null, .null, .int 0, .int 0, .int 0] j
  | 0, _ => rfl
  | 1, _ => rfl
  | 2, _ => rfl
  | 3, _ => rfl
  | 4, _ => rfl
  | j + 5, h => absurd h (by omega)
theorem dk_X7_init_101 : decode cX7_init 101 = .ok (.new 52, 3) := by decide +kernel
theorem dk_X7_init_104 : decode cX7_init 104 = .ok (.dup, 1) := by decide +kernel
theorem dk_X7_init_105 : decode cX7_init 105 = .ok (.aload_n 0, 1) := by decide +kernel
theorem dk_X7_init_106 : decode cX7_init 106 = .ok (.getfield 19, 3) := by decide +kernel
set_option maxRecDepth 20000 in
theorem ck_ml_X7_54 : Cond.methodLink RX7 54 yX3_init ∈ wAll := wIn 199 rfl rfl
set_option maxRecDepth 20000 in
theorem ck_co_X3_init : Cond.code yX3_init cX3_init 3 none ∈ wAll := wIn 201 rfl rfl
set_option maxRecDepth 20000 in
theorem ck_im_X3_init : Cond.instanceMethod yX3_init ∈ wAll := wIn 200 rfl rfl
theorem ck_dd_X3_init : yX3_init.cls ≠ "java/lang/invoke/MethodHandle" ∧ yX3_init.cls ≠ "java/lang/invoke/VarHandle" ∧ (parseMethodDescriptor yX3_init.desc).map (fun d => d.parameters.length) = some 1 := by decide +kernel
theorem dk_X7_init_109 : decode cX7_init 109 = .ok (.invokespecial 54, 3) := by decide +kernel
set_option maxRecDepth 20000 in
theorem ck_fl_X7_57 : Cond.fieldLink RX7 57 RX7 "plans" "LLeafTable$Plans;" ∈ wAll := wIn 245 rfl rfl
theorem dk_X7_init_112 : decode cX7_init 112 = .ok (.putfield 57, 3) := by decide +kernel
theorem dk_X7_init_115 : decode cX7_init 115 = .ok (.aload_n 0, 1) := by decide +kernel
set_option maxRecDepth 20000 in
theorem ck_cl_X7_61 : Cond.classLink RX7 61 RX1 ∈ wAll := wIn 225 rfl rfl
set_option maxRecDepth 20000 in
theorem ck_in_X1 : Cond.instantiable RX1 2 ∈ wAll := wIn 226 rfl rfl
set_option maxRecDepth 20000 in
theorem ck_it_X1 : Cond.initialized RX1 ∈ wAll := wIn 52 rfl rfl
theorem ck_fs_X1 : ∀ j, j < 2 → defaultValue (tyX1 j) = vp_V [.null, .null] j
  | 0, _ => rfl
  | 1, _ => rfl
  | j + 2, h => absurd h (by omega)
theorem dk_X7_init_116 : decode cX7_init 116 = .ok (.new 61, 3) := by decide +kernel
theorem dk_X7_init_119 : decode cX7_init 119 = .ok (.dup, 1) := by decide +kernel
theorem dk_X7_init_120 : decode cX7_init 120 = .ok (.aload_n 0, 1) := by decide +kernel
theorem dk_X7_init_121 : decode cX7_init 121 = .ok (.getfield 19, 3) := by decide +kernel
theorem dk_X7_init_124 : decode cX7_init 124 = .ok (.aload_n 0, 1) := by decide +kernel
theorem dk_X7_init_125 : decode cX7_init 125 = .ok (.getfield 57, 3) := by decide +kernel
set_option maxRecDepth 20000 in
theorem ck_ml_X7_63 : Cond.methodLink RX7 63 yX1_init ∈ wAll := wIn 227 rfl rfl
set_option maxRecDepth 20000 in
theorem ck_co_X1_init : Cond.code yX1_init cX1_init 3 none ∈ wAll := wIn 229 rfl rfl
set_option maxRecDepth 20000 in
theorem ck_im_X1_init : Cond.instanceMethod yX1_init ∈ wAll := wIn 228 rfl rfl
theorem ck_dd_X1_init : yX1_init.cls ≠ "java/lang/invoke/MethodHandle" ∧ yX1_init.cls ≠ "java/lang/invoke/VarHandle" ∧ (parseMethodDescriptor yX1_init.desc).map (fun d => d.parameters.length) = some 2 := by decide +kernel
theorem dk_X7_init_128 : decode cX7_init 128 = .ok (.invokespecial 63, 3) := by decide +kernel
set_option maxRecDepth 20000 in
theorem ck_fl_X7_66 : Cond.fieldLink RX7 66 RX7 "chances" "LLeafTable$Chances;" ∈ wAll := wIn 246 rfl rfl
theorem dk_X7_init_131 : decode cX7_init 131 = .ok (.putfield 66, 3) := by decide +kernel
theorem dk_X7_init_134 : decode cX7_init 134 = .ok (.return_, 1) := by decide +kernel
def pw_X7_init (cs : pm_Cs) (h0 : Nat) : (Nat → Nat → Nat) → va_W := fun v => (h0, .inr (7, [.ref (v 0 0), .ref (v 0 1), .ref (v 0 2), .ref (v 0 3), .ref (v 0 4), .ref (v 0 5), .ref (v 0 6), .ref (v 0 7), .ref (v 0 8), .long 0])) :: (pw_X1_init cs (v 0 8) (v 0 1) (v 0 7) (v 7) ++ (pw_X3_init cs (v 0 7) (v 0 1) (v 6) ++ (pw_X2_init cs (v 0 6) (v 5) ++ ((v 0 5, .inl (cs.2.1, 2, .inl (fun _ => 0))) :: ((v 0 4, .inl (cs.2.2, 2, .inr (.inr (.inr (.inr (fS (v 8) 2)))))) :: (stW cs (v 8) (v 9) 2 ++ (pw_X0_init cs (v 0 3) (v 4) ++ (pw_X4_init cs (v 0 2) (v 3) ++ (pw_X5_init cs (v 0 1) (v 2) ++ (pw_X6_init cs (v 0 0) (v 1) ++ []))))))))))
set_option maxHeartbeats 4000000 in
set_option maxRecDepth 100000 in
theorem c_X7_init (l : Launch) (D : va_G) (cs : pm_Cs) (h0 : Nat) : cMet l yX7_init cX7_init 2 D cs [] h0 (.inr (7, [.null, .null, .null, .null, .null, .null, .null, .null, .null, .long 0])) (pw_X7_init cs h0) 62 344 3 := by
  refine cMet_of (by decide +kernel) (Nat.le_of_ble_eq_true rfl) (fun p e s m args below meth c C hr hlocks hm => ?_)
  refine r_aload C dk_X7_init_0 rfl 0 rfl ?_
  refine r_obj C ck_ol_X7 ck_oi ck_oc dk_X7_init_1 ⟨(Nat.le_of_ble_eq_true rfl), (Nat.le_of_ble_eq_true rfl)⟩ ?_
  refine r_aload C dk_X7_init_4 rfl 0 rfl ?_
  refine r_new C (ci := 6) (fs := [.null, .int 0]) wiX6 tyX6 tyX6_ok ck_cl_X7_7 ck_in_X6 ck_it_X6 rfl ck_fs_X6 (Nat.le_of_ble_eq_true rfl) (Nat.le_of_ble_eq_true rfl) dk_X7_init_5 (fun q1 => ?_)
  refine r_dup C dk_X7_init_8 ?_
  refine r_callN C (c_X6_init l D cs q1) ck_nm_X7_9 ck_co_X6_init ck_it_X6 ck_im_X6_init rfl ck_dd_X6_init ⟨(Nat.le_of_ble_eq_true rfl), (Nat.le_of_ble_eq_true rfl)⟩ (Nat.le_of_ble_eq_true rfl) ⟨(Nat.le_of_ble_eq_true rfl), (Nat.le_of_ble_eq_true rfl)⟩ (rest := [.ref q1, .ref h0]) rfl (Nat.le_of_ble_eq_true rfl) dk_X7_init_9 (fun u1 => ?_)
  refine r_perm List.perm_middle ?_
  refine r_putF C hm wiX7 tyX7 tyX7_ok nmX7 (k := 0) (fs' := [.ref q1, .null, .null, .null, .null, .null, .null, .null, .null, .long 0]) rfl (by decide) ck_fl_X7_10 rfl rfl (tyX7_ok 0 (by decide)) rfl rfl (Nat.le_of_ble_eq_true rfl) dk_X7_init_12 rfl ?_
  refine r_aload C dk_X7_init_15 rfl 0 rfl ?_
  refine r_new C (ci := 5) (fs := [.null, .null, .null, .int 0, .int 0, .int 0]) wiX5 tyX5 tyX5_ok ck_cl_X7_16 ck_in_X5 ck_it_X5 rfl ck_fs_X5 (Nat.le_of_ble_eq_true rfl) (Nat.le_of_ble_eq_true rfl) dk_X7_init_16 (fun q2 => ?_)
  refine r_dup C dk_X7_init_19 ?_
  refine r_callN C (c_X5_init l D cs q2) ck_nm_X7_18 ck_co_X5_init ck_it_X5 ck_im_X5_init rfl ck_dd_X5_init ⟨(Nat.le_of_ble_eq_true rfl), (Nat.le_of_ble_eq_true rfl)⟩ (Nat.le_of_ble_eq_true rfl) ⟨(Nat.le_of_ble_eq_true rfl), (Nat.le_of_ble_eq_true rfl)⟩ (rest := [.ref q2, .ref h0]) rfl (Nat.le_of_ble_eq_true rfl) dk_X7_init_20 (fun u2 => ?_)
  refine r_perm List.perm_middle ?_
  refine r_putF C hm wiX7 tyX7 tyX7_ok nmX7 (k := 1) (fs' := [.ref q1, .ref q2, .null, .null, .null, .null, .null, .null, .null, .long 0]) rfl (by decide) ck_fl_X7_19 rfl rfl (tyX7_ok 1 (by decide)) rfl rfl (Nat.le_of_ble_eq_true rfl) dk_X7_init_23 rfl ?_
  refine r_aload C dk_X7_init_26 rfl 0 rfl ?_
  refine r_new C (ci := 4) (fs := [.null, .int 0, .int 0, .int 0, .int 0]) wiX4 tyX4 tyX4_ok ck_cl_X7_23 ck_in_X4 ck_it_X4 rfl ck_fs_X4 (Nat.le_of_ble_eq_true rfl) (Nat.le_of_ble_eq_true rfl) dk_X7_init_27 (fun q3 => ?_)
  refine r_dup C dk_X7_init_30 ?_
  refine r_callN C (c_X4_init l D cs q3) ck_nm_X7_25 ck_co_X4_init ck_it_X4 ck_im_X4_init rfl ck_dd_X4_init ⟨(Nat.le_of_ble_eq_true rfl), (Nat.le_of_ble_eq_true rfl)⟩ (Nat.le_of_ble_eq_true rfl) ⟨(Nat.le_of_ble_eq_true rfl), (Nat.le_of_ble_eq_true rfl)⟩ (rest := [.ref q3, .ref h0]) rfl (Nat.le_of_ble_eq_true rfl) dk_X7_init_31 (fun u3 => ?_)
  refine r_perm List.perm_middle ?_
  refine r_putF C hm wiX7 tyX7 tyX7_ok nmX7 (k := 2) (fs' := [.ref q1, .ref q2, .ref q3, .null, .null, .null, .null, .null, .null, .long 0]) rfl (by decide) ck_fl_X7_26 rfl rfl (tyX7_ok 2 (by decide)) rfl rfl (Nat.le_of_ble_eq_true rfl) dk_X7_init_34 rfl ?_
  refine r_aload C dk_X7_init_37 rfl 0 rfl ?_
  refine r_new C (ci := 0) (fs := [.null, .int 0]) wiX0 tyX0 tyX0_ok ck_cl_X7_30 ck_in_X0 ck_it_X0 rfl ck_fs_X0 (Nat.le_of_ble_eq_true rfl) (Nat.le_of_ble_eq_true rfl) dk_X7_init_38 (fun q4 => ?_)
  refine r_dup C dk_X7_init_41 ?_
  refine r_callI C (c_X0_init l D cs q4) ck_ml_X7_32 ck_co_X0_init ck_it_X0 ck_im_X0_init rfl ck_dd_X0_init ⟨(Nat.le_of_ble_eq_true rfl), (Nat.le_of_ble_eq_true rfl)⟩ (Nat.le_of_ble_eq_true rfl) ⟨(Nat.le_of_ble_eq_true rfl), (Nat.le_of_ble_eq_true rfl)⟩ (rest := [.ref q4, .ref h0]) rfl (Nat.le_of_ble_eq_true rfl) dk_X7_init_42 (fun u4 => ?_)
  refine r_perm List.perm_middle ?_
  refine r_putF C hm wiX7 tyX7 tyX7_ok nmX7 (k := 3) (fs' := [.ref q1, .ref q2, .ref q3, .ref q4, .null, .null, .null, .null, .null, .long 0]) rfl (by decide) ck_fl_X7_33 rfl rfl (tyX7_ok 3 (by decide)) rfl rfl (Nat.le_of_ble_eq_true rfl) dk_X7_init_45 rfl ?_
  refine r_aload C dk_X7_init_48 rfl 0 rfl ?_
  refine r_iconst C (v := 2) dk_X7_init_49 (by decide) ?_
  refine r_newS C (N := 2) ck_cl_X7_23 (by decide) (by decide) (by decide) (Nat.le_of_ble_eq_true rfl) (Nat.le_of_ble_eq_true rfl) dk_X7_init_50 (fun q5 => ?_)
  refine r_perm (List.Perm.swap _ _ _) ?_
  refine r_putF C hm wiX7 tyX7 tyX7_ok nmX7 (k := 4) (fs' := [.ref q1, .ref q2, .ref q3, .ref q4, .ref q5, .null, .null, .null, .null, .long 0]) rfl (by decide) ck_fl_X7_37 rfl rfl (tyX7_ok 4 (by decide)) rfl rfl (Nat.le_of_ble_eq_true rfl) dk_X7_init_53 rfl ?_
  refine r_iconst C (v := 0) dk_X7_init_56 (by decide) ?_
  refine r_istore C (lv' := [(1, .int 0), (0, .ref h0)]) dk_X7_init_57 rfl (by decide) rfl ?_
  refine r_eq (ws' := (h0, .inr (7, [.ref q1, .ref q2, .ref q3, .ref q4, .ref q5, .null, .null, .null, .null, .long 0])) :: (q5, .inl (cs.2.2, 2, .inr (.inr (.inr (.inr (fS (fun _ => 0) 0)))))) :: (stW cs (fun _ => 0) (fun _ => 0) 0 ++ (pw_X0_init cs q4 u4 ++ (pw_X4_init cs q3 u3 ++ (pw_X5_init cs q2 u2 ++ (pw_X6_init cs q1 u1 ++ [])))))) (by rw [fS_0]; rfl) ?_
  refine r_cnt (cells' := 39 + 2 * 0) (slots' := 231 + 10 * 0) rfl rfl ?_
  refine lo_X7_init C ⟨(Nat.le_of_ble_eq_true rfl), (Nat.le_of_ble_eq_true rfl)⟩ h0 q5 q1 q2 q3 q4 _ 39 231 ⟨(Nat.le_of_ble_eq_true rfl), (Nat.le_of_ble_eq_true rfl)⟩ (fun S Lf => ?_) 2 0 (fun _ => 0) (fun _ => 0) rfl
  refine r_aload C dk_X7_init_82 rfl 1 rfl ?_
  refine r_iconst C (v := 2) dk_X7_init_83 (by decide) ?_
  refine r_newZ C (N := 2) ck_ar_boolean (by decide) (by decide) (by decide) (Nat.le_of_ble_eq_true rfl) (Nat.le_of_ble_eq_true rfl) dk_X7_init_84 (fun q6 => ?_)
  refine r_perm (List.Perm.swap _ _ _) ?_
  refine r_putF C hm wiX7 tyX7 tyX7_ok nmX7 (k := 5) (fs' := [.ref q1, .ref q2, .ref q3, .ref q4, .ref q5, .ref q6, .null, .null, .null, .long 0]) rfl (by decide) ck_fl_X7_41 rfl rfl (tyX7_ok 5 (by decide)) rfl rfl (Nat.le_of_ble_eq_true rfl) dk_X7_init_86 rfl ?_
  refine r_aload C dk_X7_init_89 rfl 1 rfl ?_
  refine r_new C (ci := 2) (fs := [.null, .null, .int 0, .int 0, .int 0, .int 0]) wiX2 tyX2 tyX2_ok ck_cl_X7_45 ck_in_X2 ck_it_X2 rfl ck_fs_X2 (Nat.le_of_ble_eq_true rfl) (Nat.le_of_ble_eq_true rfl) dk_X7_init_90 (fun q7 => ?_)
  refine r_dup C dk_X7_init_93 ?_
  refine r_callN C (c_X2_init l D cs q7) ck_nm_X7_47 ck_co_X2_init ck_it_X2 ck_im_X2_init rfl ck_dd_X2_init ⟨(Nat.le_of_ble_eq_true rfl), (Nat.le_of_ble_eq_true rfl)⟩ (Nat.le_of_ble_eq_true rfl) ⟨(Nat.le_of_ble_eq_true rfl), (Nat.le_of_ble_eq_true rfl)⟩ (rest := [.ref q7, .ref h0]) rfl (Nat.le_of_ble_eq_true rfl) dk_X7_init_94 (fun u5 => ?_)
  refine r_perm List.perm_middle ?_
  refine r_putF C hm wiX7 tyX7 tyX7_ok nmX7 (k := 6) (fs' := [.ref q1, .ref q2, .ref q3, .ref q4, .ref q5, .ref q6, .ref q7, .null, .null, .long 0]) rfl (by decide) ck_fl_X7_48 rfl rfl (tyX7_ok 6 (by decide)) rfl rfl (Nat.le_of_ble_eq_true rfl) dk_X7_init_97 rfl ?_
  refine r_aload C dk_X7_init_100 rfl 1 rfl ?_
  refine r_new C (ci := 3) (fs := [.null, .null, .int 0, .int 0, .int 0]) wiX3 tyX3 tyX3_ok ck_cl_X7_52 ck_in_X3 ck_it_X3 rfl ck_fs_X3 (Nat.le_of_ble_eq_true rfl) (Nat.le_of_ble_eq_true rfl) dk_X7_init_101 (fun q8 => ?_)
  refine r_dup C dk_X7_init_104 ?_
  refine r_aload C dk_X7_init_105 rfl 1 rfl ?_
  refine r_perm (List.Perm.swap _ _ _) ?_
  refine r_get C wiX7 (k := 1) rfl (by decide) ck_fl_X7_19 rfl rfl dk_X7_init_106 ?_
  refine r_perm (List.Perm.swap _ _ _) ?_
  refine r_callI C (c_X3_init l D cs q8 q2) ck_ml_X7_54 ck_co_X3_init ck_it_X3 ck_im_X3_init rfl ck_dd_X3_init ⟨(Nat.le_of_ble_eq_true rfl), (Nat.le_of_ble_eq_true rfl)⟩ (Nat.le_of_ble_eq_true rfl) ⟨(Nat.le_of_ble_eq_true rfl), (Nat.le_of_ble_eq_true rfl)⟩ (rest := [.ref q8, .ref h0]) rfl (Nat.le_of_ble_eq_true rfl) dk_X7_init_109 (fun u6 => ?_)
  refine r_perm List.perm_middle ?_
  refine r_putF C hm wiX7 tyX7 tyX7_ok nmX7 (k := 7) (fs' := [.ref q1, .ref q2, .ref q3, .ref q4, .ref q5, .ref q6, .ref q7, .ref q8, .null, .long 0]) rfl (by decide) ck_fl_X7_57 rfl rfl (tyX7_ok 7 (by decide)) rfl rfl (Nat.le_of_ble_eq_true rfl) dk_X7_init_112 rfl ?_
  refine r_aload C dk_X7_init_115 rfl 1 rfl ?_
  refine r_new C (ci := 1) (fs := [.null, .null]) wiX1 tyX1 tyX1_ok ck_cl_X7_61 ck_in_X1 ck_it_X1 rfl ck_fs_X1 (Nat.le_of_ble_eq_true rfl) (Nat.le_of_ble_eq_true rfl) dk_X7_init_116 (fun q9 => ?_)
  refine r_dup C dk_X7_init_119 ?_
  refine r_aload C dk_X7_init_120 rfl 1 rfl ?_
  refine r_perm (List.Perm.swap _ _ _) ?_
  refine r_get C wiX7 (k := 1) rfl (by decide) ck_fl_X7_19 rfl rfl dk_X7_init_121 ?_
  refine r_perm (List.Perm.swap _ _ _) ?_
  refine r_aload C dk_X7_init_124 rfl 1 rfl ?_
  refine r_perm (List.Perm.swap _ _ _) ?_
  refine r_get C wiX7 (k := 7) rfl (by decide) ck_fl_X7_57 rfl rfl dk_X7_init_125 ?_
  refine r_perm (List.Perm.swap _ _ _) ?_
  refine r_callI C (c_X1_init l D cs q9 q2 q8) ck_ml_X7_63 ck_co_X1_init ck_it_X1 ck_im_X1_init rfl ck_dd_X1_init ⟨(Nat.le_of_ble_eq_true rfl), (Nat.le_of_ble_eq_true rfl)⟩ (Nat.le_of_ble_eq_true rfl) ⟨(Nat.le_of_ble_eq_true rfl), (Nat.le_of_ble_eq_true rfl)⟩ (rest := [.ref q9, .ref h0]) rfl (Nat.le_of_ble_eq_true rfl) dk_X7_init_128 (fun u7 => ?_)
  refine r_perm List.perm_middle ?_
  refine r_putF C hm wiX7 tyX7 tyX7_ok nmX7 (k := 8) (fs' := [.ref q1, .ref q2, .ref q3, .ref q4, .ref q5, .ref q6, .ref q7, .ref q8, .ref q9, .long 0]) rfl (by decide) ck_fl_X7_66 rfl rfl (tyX7_ok 8 (by decide)) rfl rfl (Nat.le_of_ble_eq_true rfl) dk_X7_init_131 rfl ?_
  exact r_ret C hr hlocks (fun i => pm_nth (fun _ => 0) [fun k => pm_nth 0 [q1, q2, q3, q4, q5, q6, q7, q8, q9] k, u1, u2, u3, u4, u5, u6, u7, S, Lf] i) (List.Perm.refl _) rfl rfl dk_X7_init_134
