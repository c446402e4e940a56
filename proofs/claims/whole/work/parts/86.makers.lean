/-! ===== constructors ===== -/
theorem dk_X4_init_0 : decode cX4_init 0 = .ok (.aload_n 0, 1) := by decide +kernel
set_option maxRecDepth 20000 in
theorem ck_ol_X4 : Cond.methodLink RX4 3 objectInit ∈ wAll := wIn 119 rfl rfl
set_option maxRecDepth 20000 in
theorem ck_oi : Cond.instanceMethod objectInit ∈ wAll := wIn 62 rfl rfl
set_option maxRecDepth 20000 in
theorem ck_oc : Cond.code objectInit ⟨#[0xb1]⟩ 1 none ∈ wAll := wIn 63 rfl rfl
theorem dk_X4_init_1 : decode cX4_init 1 = .ok (.invokespecial 3, 3) := by decide +kernel
theorem dk_X4_init_4 : decode cX4_init 4 = .ok (.aload_n 0, 1) := by decide +kernel
theorem dk_X4_init_5 : decode cX4_init 5 = .ok (.iconst 5, 1) := by decide +kernel
set_option maxRecDepth 20000 in
theorem ck_ar_int : Cond.arrayClass .int ∈ wAll := wIn 78 rfl rfl
theorem dk_X4_init_6 : decode cX4_init 6 = .ok (.newarray .int, 2) := by decide +kernel
set_option maxRecDepth 20000 in
theorem ck_fl_X4_9 : Cond.fieldLink RX4 9 RX4 "leaves" "[I" ∈ wAll := wIn 120 rfl rfl
theorem dk_X4_init_8 : decode cX4_init 8 = .ok (.putfield 9, 3) := by decide +kernel
theorem dk_X4_init_11 : decode cX4_init 11 = .ok (.aload_n 0, 1) := by decide +kernel
theorem dk_X4_init_12 : decode cX4_init 12 = .ok (.iconst 1, 1) := by decide +kernel
set_option maxRecDepth 20000 in
theorem ck_fl_X4_15 : Cond.fieldLink RX4 15 RX4 "length" "I" ∈ wAll := wIn 123 rfl rfl
theorem dk_X4_init_13 : decode cX4_init 13 = .ok (.putfield 15, 3) := by decide +kernel
theorem dk_X4_init_16 : decode cX4_init 16 = .ok (.aload_n 0, 1) := by decide +kernel
theorem dk_X4_init_17 : decode cX4_init 17 = .ok (.iconst 1, 1) := by decide +kernel
set_option maxRecDepth 20000 in
theorem ck_fl_X4_19 : Cond.fieldLink RX4 19 RX4 "warmth" "I" ∈ wAll := wIn 131 rfl rfl
theorem dk_X4_init_18 : decode cX4_init 18 = .ok (.putfield 19, 3) := by decide +kernel
theorem dk_X4_init_21 : decode cX4_init 21 = .ok (.return_, 1) := by decide +kernel
def pw_X4_init (cs : pm_Cs) (h0 : Nat) : (Nat → Nat) → va_W := fun u => [(h0, .inr (4, [.ref (u 0), .int 1, .int 0, .int 1, .int 0])), (u 0, .inl (cs.1, 5, .inl (fun _ => 0)))]
set_option maxHeartbeats 4000000 in
set_option maxRecDepth 100000 in
theorem c_X4_init (l : Launch) (D : va_G) (cs : pm_Cs) (h0 : Nat) : cMet l yX4_init cX4_init 1 D cs [] h0 (.inr (4, [.null, .int 0, .int 0, .int 0, .int 0])) (pw_X4_init cs h0) 1 5 1 := by
  refine cMet_of (by decide +kernel) (Nat.le_of_ble_eq_true rfl) (fun p e s m args below meth c C hr hlocks hm => ?_)
  refine r_aload C dk_X4_init_0 rfl 0 rfl ?_
  refine r_obj C ck_ol_X4 ck_oi ck_oc dk_X4_init_1 ⟨(Nat.le_of_ble_eq_true rfl), (Nat.le_of_ble_eq_true rfl)⟩ ?_
  refine r_aload C dk_X4_init_4 rfl 0 rfl ?_
  refine r_iconst C (v := 5) dk_X4_init_5 (by decide) ?_
  refine r_newI C (N := 5) ck_ar_int (by decide) (by decide) (by decide) (Nat.le_of_ble_eq_true rfl) (Nat.le_of_ble_eq_true rfl) dk_X4_init_6 (fun q1 => ?_)
  refine r_perm (List.Perm.swap _ _ _) ?_
  refine r_putF C hm wiX4 tyX4 tyX4_ok nmX4 (k := 0) (fs' := [.ref q1, .int 0, .int 0, .int 0, .int 0]) rfl (by decide) ck_fl_X4_9 rfl rfl (tyX4_ok 0 (by decide)) rfl rfl (Nat.le_of_ble_eq_true rfl) dk_X4_init_8 rfl ?_
  refine r_aload C dk_X4_init_11 rfl 0 rfl ?_
  refine r_iconst C (v := 1) dk_X4_init_12 (by decide) ?_
  refine r_put C wiX4 tyX4 tyX4_ok nmX4 (k := 1) (fs' := [.ref q1, .int 1, .int 0, .int 0, .int 0]) rfl (by decide) ck_fl_X4_15 rfl rfl (tyX4_ok 1 (by decide)) rfl rfl (Nat.le_of_ble_eq_true rfl) dk_X4_init_13 rfl ?_
  refine r_aload C dk_X4_init_16 rfl 0 rfl ?_
  refine r_iconst C (v := 1) dk_X4_init_17 (by decide) ?_
  refine r_put C wiX4 tyX4 tyX4_ok nmX4 (k := 3) (fs' := [.ref q1, .int 1, .int 0, .int 1, .int 0]) rfl (by decide) ck_fl_X4_19 rfl rfl (tyX4_ok 3 (by decide)) rfl rfl (Nat.le_of_ble_eq_true rfl) dk_X4_init_18 rfl ?_
  exact r_ret C hr hlocks (fun k => pm_nth 0 [q1] k) (List.Perm.refl _) rfl rfl dk_X4_init_21
theorem dk_X6_init_0 : decode cX6_init 0 = .ok (.aload_n 0, 1) := by decide +kernel
set_option maxRecDepth 20000 in
theorem ck_ol_X6 : Cond.methodLink RX6 3 objectInit ∈ wAll := wIn 69 rfl rfl
theorem dk_X6_init_1 : decode cX6_init 1 = .ok (.invokespecial 3, 3) := by decide +kernel
theorem dk_X6_init_4 : decode cX6_init 4 = .ok (.aload_n 0, 1) := by decide +kernel
theorem dk_X6_init_5 : decode cX6_init 5 = .ok (.bipush 40, 2) := by decide +kernel
theorem dk_X6_init_7 : decode cX6_init 7 = .ok (.newarray .int, 2) := by decide +kernel
set_option maxRecDepth 20000 in
theorem ck_fl_X6_9 : Cond.fieldLink RX6 9 RX6 "letters" "[I" ∈ wAll := wIn 70 rfl rfl
theorem dk_X6_init_9 : decode cX6_init 9 = .ok (.putfield 9, 3) := by decide +kernel
theorem dk_X6_init_12 : decode cX6_init 12 = .ok (.return_, 1) := by decide +kernel
def pw_X6_init (cs : pm_Cs) (h0 : Nat) : (Nat → Nat) → va_W := fun u => [(h0, .inr (6, [.ref (u 0), .int 0])), (u 0, .inl (cs.1, 40, .inl (fun _ => 0)))]
set_option maxHeartbeats 4000000 in
set_option maxRecDepth 100000 in
theorem c_X6_init (l : Launch) (D : va_G) (cs : pm_Cs) (h0 : Nat) : cMet l yX6_init cX6_init 1 D cs [] h0 (.inr (6, [.null, .int 0])) (pw_X6_init cs h0) 1 40 1 := by
  refine cMet_of (by decide +kernel) (Nat.le_of_ble_eq_true rfl) (fun p e s m args below meth c C hr hlocks hm => ?_)
  refine r_aload C dk_X6_init_0 rfl 0 rfl ?_
  refine r_obj C ck_ol_X6 ck_oi ck_oc dk_X6_init_1 ⟨(Nat.le_of_ble_eq_true rfl), (Nat.le_of_ble_eq_true rfl)⟩ ?_
  refine r_aload C dk_X6_init_4 rfl 0 rfl ?_
  refine r_bipush C (v := 40) dk_X6_init_5 (by decide) ?_
  refine r_newI C (N := 40) ck_ar_int (by decide) (by decide) (by decide) (Nat.le_of_ble_eq_true rfl) (Nat.le_of_ble_eq_true rfl) dk_X6_init_7 (fun q1 => ?_)
  refine r_perm (List.Perm.swap _ _ _) ?_
  refine r_putF C hm wiX6 tyX6 tyX6_ok nmX6 (k := 0) (fs' := [.ref q1, .int 0]) rfl (by decide) ck_fl_X6_9 rfl rfl (tyX6_ok 0 (by decide)) rfl rfl (Nat.le_of_ble_eq_true rfl) dk_X6_init_9 rfl ?_
  exact r_ret C hr hlocks (fun k => pm_nth 0 [q1] k) (List.Perm.refl _) rfl rfl dk_X6_init_12
theorem dk_X5_init_0 : decode cX5_init 0 = .ok (.aload_n 0, 1) := by decide +kernel
set_option maxRecDepth 20000 in
theorem ck_ol_X5 : Cond.methodLink RX5 3 objectInit ∈ wAll := wIn 84 rfl rfl
theorem dk_X5_init_1 : decode cX5_init 1 = .ok (.invokespecial 3, 3) := by decide +kernel
theorem dk_X5_init_4 : decode cX5_init 4 = .ok (.aload_n 0, 1) := by decide +kernel
theorem dk_X5_init_5 : decode cX5_init 5 = .ok (.iconst 5, 1) := by decide +kernel
theorem dk_X5_init_6 : decode cX5_init 6 = .ok (.newarray .int, 2) := by decide +kernel
set_option maxRecDepth 20000 in
theorem ck_fl_X5_9 : Cond.fieldLink RX5 9 RX5 "kinds" "[I" ∈ wAll := wIn 85 rfl rfl
theorem dk_X5_init_8 : decode cX5_init 8 = .ok (.putfield 9, 3) := by decide +kernel
theorem dk_X5_init_11 : decode cX5_init 11 = .ok (.aload_n 0, 1) := by decide +kernel
theorem dk_X5_init_12 : decode cX5_init 12 = .ok (.iconst 5, 1) := by decide +kernel
theorem dk_X5_init_13 : decode cX5_init 13 = .ok (.newarray .int, 2) := by decide +kernel
set_option maxRecDepth 20000 in
theorem ck_fl_X5_15 : Cond.fieldLink RX5 15 RX5 "wants" "[I" ∈ wAll := wIn 87 rfl rfl
theorem dk_X5_init_15 : decode cX5_init 15 = .ok (.putfield 15, 3) := by decide +kernel
theorem dk_X5_init_18 : decode cX5_init 18 = .ok (.aload_n 0, 1) := by decide +kernel
theorem dk_X5_init_19 : decode cX5_init 19 = .ok (.iconst 5, 1) := by decide +kernel
theorem dk_X5_init_20 : decode cX5_init 20 = .ok (.newarray .int, 2) := by decide +kernel
set_option maxRecDepth 20000 in
theorem ck_fl_X5_18 : Cond.fieldLink RX5 18 RX5 "ears" "[I" ∈ wAll := wIn 89 rfl rfl
theorem dk_X5_init_22 : decode cX5_init 22 = .ok (.putfield 18, 3) := by decide +kernel
theorem dk_X5_init_25 : decode cX5_init 25 = .ok (.aload_n 0, 1) := by decide +kernel
theorem dk_X5_init_26 : decode cX5_init 26 = .ok (.iconst 1, 1) := by decide +kernel
set_option maxRecDepth 20000 in
theorem ck_fl_X5_21 : Cond.fieldLink RX5 21 RX5 "warm" "I" ∈ wAll := wIn 96 rfl rfl
theorem dk_X5_init_27 : decode cX5_init 27 = .ok (.putfield 21, 3) := by decide +kernel
theorem dk_X5_init_30 : decode cX5_init 30 = .ok (.aload_n 0, 1) := by decide +kernel
theorem dk_X5_init_31 : decode cX5_init 31 = .ok (.iconst 1, 1) := by decide +kernel
set_option maxRecDepth 20000 in
theorem ck_fl_X5_25 : Cond.fieldLink RX5 25 RX5 "reach" "I" ∈ wAll := wIn 99 rfl rfl
theorem dk_X5_init_32 : decode cX5_init 32 = .ok (.putfield 25, 3) := by decide +kernel
theorem dk_X5_init_35 : decode cX5_init 35 = .ok (.return_, 1) := by decide +kernel
def pw_X5_init (cs : pm_Cs) (h0 : Nat) : (Nat → Nat) → va_W := fun u => [(h0, .inr (5, [.ref (u 0), .ref (u 1), .ref (u 2), .int 0, .int 1, .int 1])), (u 2, .inl (cs.1, 5, .inl (fun _ => 0))), (u 1, .inl (cs.1, 5, .inl (fun _ => 0))), (u 0, .inl (cs.1, 5, .inl (fun _ => 0)))]
set_option maxHeartbeats 4000000 in
set_option maxRecDepth 100000 in
theorem c_X5_init (l : Launch) (D : va_G) (cs : pm_Cs) (h0 : Nat) : cMet l yX5_init cX5_init 1 D cs [] h0 (.inr (5, [.null, .null, .null, .int 0, .int 0, .int 0])) (pw_X5_init cs h0) 3 15 1 := by
  refine cMet_of (by decide +kernel) (Nat.le_of_ble_eq_true rfl) (fun p e s m args below meth c C hr hlocks hm => ?_)
  refine r_aload C dk_X5_init_0 rfl 0 rfl ?_
  refine r_obj C ck_ol_X5 ck_oi ck_oc dk_X5_init_1 ⟨(Nat.le_of_ble_eq_true rfl), (Nat.le_of_ble_eq_true rfl)⟩ ?_
  refine r_aload C dk_X5_init_4 rfl 0 rfl ?_
  refine r_iconst C (v := 5) dk_X5_init_5 (by decide) ?_
  refine r_newI C (N := 5) ck_ar_int (by decide) (by decide) (by decide) (Nat.le_of_ble_eq_true rfl) (Nat.le_of_ble_eq_true rfl) dk_X5_init_6 (fun q1 => ?_)
  refine r_perm (List.Perm.swap _ _ _) ?_
  refine r_putF C hm wiX5 tyX5 tyX5_ok nmX5 (k := 0) (fs' := [.ref q1, .null, .null, .int 0, .int 0, .int 0]) rfl (by decide) ck_fl_X5_9 rfl rfl (tyX5_ok 0 (by decide)) rfl rfl (Nat.le_of_ble_eq_true rfl) dk_X5_init_8 rfl ?_
  refine r_aload C dk_X5_init_11 rfl 0 rfl ?_
  refine r_iconst C (v := 5) dk_X5_init_12 (by decide) ?_
  refine r_newI C (N := 5) ck_ar_int (by decide) (by decide) (by decide) (Nat.le_of_ble_eq_true rfl) (Nat.le_of_ble_eq_true rfl) dk_X5_init_13 (fun q2 => ?_)
  refine r_perm (List.Perm.swap _ _ _) ?_
  refine r_putF C hm wiX5 tyX5 tyX5_ok nmX5 (k := 1) (fs' := [.ref q1, .ref q2, .null, .int 0, .int 0, .int 0]) rfl (by decide) ck_fl_X5_15 rfl rfl (tyX5_ok 1 (by decide)) rfl rfl (Nat.le_of_ble_eq_true rfl) dk_X5_init_15 rfl ?_
  refine r_aload C dk_X5_init_18 rfl 0 rfl ?_
  refine r_iconst C (v := 5) dk_X5_init_19 (by decide) ?_
  refine r_newI C (N := 5) ck_ar_int (by decide) (by decide) (by decide) (Nat.le_of_ble_eq_true rfl) (Nat.le_of_ble_eq_true rfl) dk_X5_init_20 (fun q3 => ?_)
  refine r_perm (List.Perm.swap _ _ _) ?_
  refine r_putF C hm wiX5 tyX5 tyX5_ok nmX5 (k := 2) (fs' := [.ref q1, .ref q2, .ref q3, .int 0, .int 0, .int 0]) rfl (by decide) ck_fl_X5_18 rfl rfl (tyX5_ok 2 (by decide)) rfl rfl (Nat.le_of_ble_eq_true rfl) dk_X5_init_22 rfl ?_
  refine r_aload C dk_X5_init_25 rfl 0 rfl ?_
  refine r_iconst C (v := 1) dk_X5_init_26 (by decide) ?_
  refine r_put C wiX5 tyX5 tyX5_ok nmX5 (k := 4) (fs' := [.ref q1, .ref q2, .ref q3, .int 0, .int 1, .int 0]) rfl (by decide) ck_fl_X5_21 rfl rfl (tyX5_ok 4 (by decide)) rfl rfl (Nat.le_of_ble_eq_true rfl) dk_X5_init_27 rfl ?_
  refine r_aload C dk_X5_init_30 rfl 0 rfl ?_
  refine r_iconst C (v := 1) dk_X5_init_31 (by decide) ?_
  refine r_put C wiX5 tyX5 tyX5_ok nmX5 (k := 5) (fs' := [.ref q1, .ref q2, .ref q3, .int 0, .int 1, .int 1]) rfl (by decide) ck_fl_X5_25 rfl rfl (tyX5_ok 5 (by decide)) rfl rfl (Nat.le_of_ble_eq_true rfl) dk_X5_init_32 rfl ?_
  exact r_ret C hr hlocks (fun k => pm_nth 0 [q1, q2, q3] k) (List.Perm.refl _) rfl rfl dk_X5_init_35
theorem dk_X2_init_0 : decode cX2_init 0 = .ok (.aload_n 0, 1) := by decide +kernel
set_option maxRecDepth 20000 in
theorem ck_ol_X2 : Cond.methodLink RX2 5 objectInit ∈ wAll := wIn 172 rfl rfl
theorem dk_X2_init_1 : decode cX2_init 1 = .ok (.invokespecial 5, 3) := by decide +kernel
theorem dk_X2_init_4 : decode cX2_init 4 = .ok (.aload_n 0, 1) := by decide +kernel
theorem dk_X2_init_5 : decode cX2_init 5 = .ok (.bipush 6, 2) := by decide +kernel
theorem dk_X2_init_7 : decode cX2_init 7 = .ok (.newarray .int, 2) := by decide +kernel
set_option maxRecDepth 20000 in
theorem ck_fl_X2_11 : Cond.fieldLink RX2 11 RX2 "spoke" "[I" ∈ wAll := wIn 173 rfl rfl
theorem dk_X2_init_9 : decode cX2_init 9 = .ok (.putfield 11, 3) := by decide +kernel
theorem dk_X2_init_12 : decode cX2_init 12 = .ok (.aload_n 0, 1) := by decide +kernel
theorem dk_X2_init_13 : decode cX2_init 13 = .ok (.bipush 6, 2) := by decide +kernel
theorem dk_X2_init_15 : decode cX2_init 15 = .ok (.newarray .int, 2) := by decide +kernel
set_option maxRecDepth 20000 in
theorem ck_fl_X2_15 : Cond.fieldLink RX2 15 RX2 "more" "[I" ∈ wAll := wIn 174 rfl rfl
theorem dk_X2_init_17 : decode cX2_init 17 = .ok (.putfield 15, 3) := by decide +kernel
theorem dk_X2_init_20 : decode cX2_init 20 = .ok (.return_, 1) := by decide +kernel
def pw_X2_init (cs : pm_Cs) (h0 : Nat) : (Nat → Nat) → va_W := fun u => [(h0, .inr (2, [.ref (u 0), .ref (u 1), .int 0, .int 0, .int 0, .int 0])), (u 1, .inl (cs.1, 6, .inl (fun _ => 0))), (u 0, .inl (cs.1, 6, .inl (fun _ => 0)))]
set_option maxHeartbeats 4000000 in
set_option maxRecDepth 100000 in
theorem c_X2_init (l : Launch) (D : va_G) (cs : pm_Cs) (h0 : Nat) : cMet l yX2_init cX2_init 1 D cs [] h0 (.inr (2, [.null, .null, .int 0, .int 0, .int 0, .int 0])) (pw_X2_init cs h0) 2 12 1 := by
  refine cMet_of (by decide +kernel) (Nat.le_of_ble_eq_true rfl) (fun p e s m args below meth c C hr hlocks hm => ?_)
  refine r_aload C dk_X2_init_0 rfl 0 rfl ?_
  refine r_obj C ck_ol_X2 ck_oi ck_oc dk_X2_init_1 ⟨(Nat.le_of_ble_eq_true rfl), (Nat.le_of_ble_eq_true rfl)⟩ ?_
  refine r_aload C dk_X2_init_4 rfl 0 rfl ?_
  refine r_bipush C (v := 6) dk_X2_init_5 (by decide) ?_
  refine r_newI C (N := 6) ck_ar_int (by decide) (by decide) (by decide) (Nat.le_of_ble_eq_true rfl) (Nat.le_of_ble_eq_true rfl) dk_X2_init_7 (fun q1 => ?_)
  refine r_perm (List.Perm.swap _ _ _) ?_
  refine r_putF C hm wiX2 tyX2 tyX2_ok nmX2 (k := 0) (fs' := [.ref q1, .null, .int 0, .int 0, .int 0, .int 0]) rfl (by decide) ck_fl_X2_11 rfl rfl (tyX2_ok 0 (by decide)) rfl rfl (Nat.le_of_ble_eq_true rfl) dk_X2_init_9 rfl ?_
  refine r_aload C dk_X2_init_12 rfl 0 rfl ?_
  refine r_bipush C (v := 6) dk_X2_init_13 (by decide) ?_
  refine r_newI C (N := 6) ck_ar_int (by decide) (by decide) (by decide) (Nat.le_of_ble_eq_true rfl) (Nat.le_of_ble_eq_true rfl) dk_X2_init_15 (fun q2 => ?_)
  refine r_perm (List.Perm.swap _ _ _) ?_
  refine r_putF C hm wiX2 tyX2 tyX2_ok nmX2 (k := 1) (fs' := [.ref q1, .ref q2, .int 0, .int 0, .int 0, .int 0]) rfl (by decide) ck_fl_X2_15 rfl rfl (tyX2_ok 1 (by decide)) rfl rfl (Nat.le_of_ble_eq_true rfl) dk_X2_init_17 rfl ?_
  exact r_ret C hr hlocks (fun k => pm_nth 0 [q1, q2] k) (List.Perm.refl _) rfl rfl dk_X2_init_20
theorem dk_X1_init_0 : decode cX1_init 0 = .ok (.aload_n 0, 1) := by decide +kernel
set_option maxRecDepth 20000 in
theorem ck_ol_X1 : Cond.methodLink RX1 3 objectInit ∈ wAll := wIn 230 rfl rfl
theorem dk_X1_init_1 : decode cX1_init 1 = .ok (.invokespecial 3, 3) := by decide +kernel
theorem dk_X1_init_4 : decode cX1_init 4 = .ok (.aload_n 0, 1) := by decide +kernel
theorem dk_X1_init_5 : decode cX1_init 5 = .ok (.aload_n 1, 1) := by decide +kernel
set_option maxRecDepth 20000 in
theorem ck_fl_X1_9 : Cond.fieldLink RX1 9 RX1 "table" "LLeafTable$Table;" ∈ wAll := wIn 231 rfl rfl
theorem dk_X1_init_6 : decode cX1_init 6 = .ok (.putfield 9, 3) := by decide +kernel
theorem dk_X1_init_9 : decode cX1_init 9 = .ok (.aload_n 0, 1) := by decide +kernel
theorem dk_X1_init_10 : decode cX1_init 10 = .ok (.aload_n 2, 1) := by decide +kernel
set_option maxRecDepth 20000 in
theorem ck_fl_X1_15 : Cond.fieldLink RX1 15 RX1 "plans" "LLeafTable$Plans;" ∈ wAll := wIn 232 rfl rfl
theorem dk_X1_init_11 : decode cX1_init 11 = .ok (.putfield 15, 3) := by decide +kernel
theorem dk_X1_init_14 : decode cX1_init 14 = .ok (.return_, 1) := by decide +kernel
def pw_X1_init (cs : pm_Cs) (h0 : Nat) (t : Nat) (g : Nat) : (Nat → Nat) → va_W := fun u => [(h0, .inr (1, [.ref t, .ref g]))]
set_option maxHeartbeats 4000000 in
set_option maxRecDepth 100000 in
theorem c_X1_init (l : Launch) (D : va_G) (cs : pm_Cs) (h0 : Nat) (t : Nat) (g : Nat) : cMet l yX1_init cX1_init 3 D cs [.ref t, .ref g] h0 (.inr (1, [.null, .null])) (pw_X1_init cs h0 t g) 0 0 1 := by
  refine cMet_of (by decide +kernel) (Nat.le_of_ble_eq_true rfl) (fun p e s m args below meth c C hr hlocks hm => ?_)
  refine r_aload C dk_X1_init_0 rfl 0 rfl ?_
  refine r_obj C ck_ol_X1 ck_oi ck_oc dk_X1_init_1 ⟨(Nat.le_of_ble_eq_true rfl), (Nat.le_of_ble_eq_true rfl)⟩ ?_
  refine r_aload C dk_X1_init_4 rfl 0 rfl ?_
  refine r_aload C dk_X1_init_5 rfl 1 rfl ?_
  refine r_putF C hm wiX1 tyX1 tyX1_ok nmX1 (k := 0) (fs' := [.ref t, .null]) rfl (by decide) ck_fl_X1_9 rfl rfl (tyX1_ok 0 (by decide)) rfl rfl (Nat.le_of_ble_eq_true rfl) dk_X1_init_6 rfl ?_
  refine r_aload C dk_X1_init_9 rfl 0 rfl ?_
  refine r_aload C dk_X1_init_10 rfl 2 rfl ?_
  refine r_putF C hm wiX1 tyX1 tyX1_ok nmX1 (k := 1) (fs' := [.ref t, .ref g]) rfl (by decide) ck_fl_X1_15 rfl rfl (tyX1_ok 1 (by decide)) rfl rfl (Nat.le_of_ble_eq_true rfl) dk_X1_init_11 rfl ?_
  exact r_ret C hr hlocks (fun k => pm_nth 0 [] k) (List.Perm.refl _) rfl rfl dk_X1_init_14
theorem dk_X8_init_0 : decode cX8_init 0 = .ok (.aload_n 0, 1) := by decide +kernel
set_option maxRecDepth 20000 in
theorem ck_ol_X8 : Cond.methodLink RX8 1 objectInit ∈ wAll := wIn 666 rfl rfl
theorem dk_X8_init_1 : decode cX8_init 1 = .ok (.invokespecial 1, 3) := by decide +kernel
theorem dk_X8_init_4 : decode cX8_init 4 = .ok (.aload_n 0, 1) := by decide +kernel
theorem dk_X8_init_5 : decode cX8_init 5 = .ok (.iconst 5, 1) := by decide +kernel
theorem dk_X8_init_6 : decode cX8_init 6 = .ok (.newarray .int, 2) := by decide +kernel
set_option maxRecDepth 20000 in
theorem ck_fl_X8_7 : Cond.fieldLink RX8 7 RX8 "kind" "[I" ∈ wAll := wIn 670 rfl rfl
theorem dk_X8_init_8 : decode cX8_init 8 = .ok (.putfield 7, 3) := by decide +kernel
theorem dk_X8_init_11 : decode cX8_init 11 = .ok (.aload_n 0, 1) := by decide +kernel
theorem dk_X8_init_12 : decode cX8_init 12 = .ok (.iconst 5, 1) := by decide +kernel
theorem dk_X8_init_13 : decode cX8_init 13 = .ok (.newarray .int, 2) := by decide +kernel
set_option maxRecDepth 20000 in
theorem ck_fl_X8_13 : Cond.fieldLink RX8 13 RX8 "wants" "[I" ∈ wAll := wIn 671 rfl rfl
theorem dk_X8_init_15 : decode cX8_init 15 = .ok (.putfield 13, 3) := by decide +kernel
theorem dk_X8_init_18 : decode cX8_init 18 = .ok (.aload_n 0, 1) := by decide +kernel
theorem dk_X8_init_19 : decode cX8_init 19 = .ok (.iconst 5, 1) := by decide +kernel
theorem dk_X8_init_20 : decode cX8_init 20 = .ok (.newarray .int, 2) := by decide +kernel
set_option maxRecDepth 20000 in
theorem ck_fl_X8_16 : Cond.fieldLink RX8 16 RX8 "ear" "[I" ∈ wAll := wIn 672 rfl rfl
theorem dk_X8_init_22 : decode cX8_init 22 = .ok (.putfield 16, 3) := by decide +kernel
theorem dk_X8_init_25 : decode cX8_init 25 = .ok (.aload_n 0, 1) := by decide +kernel
theorem dk_X8_init_26 : decode cX8_init 26 = .ok (.bipush 18, 2) := by decide +kernel
theorem dk_X8_init_28 : decode cX8_init 28 = .ok (.newarray .int, 2) := by decide +kernel
set_option maxRecDepth 20000 in
theorem ck_fl_X8_19 : Cond.fieldLink RX8 19 RX8 "now" "[I" ∈ wAll := wIn 673 rfl rfl
theorem dk_X8_init_30 : decode cX8_init 30 = .ok (.putfield 19, 3) := by decide +kernel
theorem dk_X8_init_33 : decode cX8_init 33 = .ok (.aload_n 0, 1) := by decide +kernel
theorem dk_X8_init_34 : decode cX8_init 34 = .ok (.iconst 5, 1) := by decide +kernel
theorem dk_X8_init_35 : decode cX8_init 35 = .ok (.newarray .int, 2) := by decide +kernel
set_option maxRecDepth 20000 in
theorem ck_fl_X8_22 : Cond.fieldLink RX8 22 RX8 "readLeaf" "[I" ∈ wAll := wIn 678 rfl rfl
theorem dk_X8_init_37 : decode cX8_init 37 = .ok (.putfield 22, 3) := by decide +kernel
theorem dk_X8_init_40 : decode cX8_init 40 = .ok (.aload_n 0, 1) := by decide +kernel
theorem dk_X8_init_41 : decode cX8_init 41 = .ok (.iconst 5, 1) := by decide +kernel
theorem dk_X8_init_42 : decode cX8_init 42 = .ok (.newarray .int, 2) := by decide +kernel
set_option maxRecDepth 20000 in
theorem ck_fl_X8_25 : Cond.fieldLink RX8 25 RX8 "readKind" "[I" ∈ wAll := wIn 679 rfl rfl
theorem dk_X8_init_44 : decode cX8_init 44 = .ok (.putfield 25, 3) := by decide +kernel
theorem dk_X8_init_47 : decode cX8_init 47 = .ok (.aload_n 0, 1) := by decide +kernel
theorem dk_X8_init_48 : decode cX8_init 48 = .ok (.iconst 5, 1) := by decide +kernel
theorem dk_X8_init_49 : decode cX8_init 49 = .ok (.newarray .int, 2) := by decide +kernel
set_option maxRecDepth 20000 in
theorem ck_fl_X8_28 : Cond.fieldLink RX8 28 RX8 "readWants" "[I" ∈ wAll := wIn 680 rfl rfl
theorem dk_X8_init_51 : decode cX8_init 51 = .ok (.putfield 28, 3) := by decide +kernel
theorem dk_X8_init_54 : decode cX8_init 54 = .ok (.aload_n 0, 1) := by decide +kernel
theorem dk_X8_init_55 : decode cX8_init 55 = .ok (.iconst 5, 1) := by decide +kernel
theorem dk_X8_init_56 : decode cX8_init 56 = .ok (.newarray .int, 2) := by decide +kernel
set_option maxRecDepth 20000 in
theorem ck_fl_X8_31 : Cond.fieldLink RX8 31 RX8 "readEar" "[I" ∈ wAll := wIn 681 rfl rfl
theorem dk_X8_init_58 : decode cX8_init 58 = .ok (.putfield 31, 3) := by decide +kernel
theorem dk_X8_init_61 : decode cX8_init 61 = .ok (.aload_n 0, 1) := by decide +kernel
theorem dk_X8_init_62 : decode cX8_init 62 = .ok (.bipush 40, 2) := by decide +kernel
theorem dk_X8_init_64 : decode cX8_init 64 = .ok (.newarray .int, 2) := by decide +kernel
set_option maxRecDepth 20000 in
theorem ck_fl_X8_34 : Cond.fieldLink RX8 34 RX8 "text" "[I" ∈ wAll := wIn 682 rfl rfl
theorem dk_X8_init_66 : decode cX8_init 66 = .ok (.putfield 34, 3) := by decide +kernel
theorem dk_X8_init_69 : decode cX8_init 69 = .ok (.aload_n 0, 1) := by decide +kernel
theorem dk_X8_init_70 : decode cX8_init 70 = .ok (.bipush 126, 2) := by decide +kernel
theorem dk_X8_init_72 : decode cX8_init 72 = .ok (.newarray .int, 2) := by decide +kernel
set_option maxRecDepth 20000 in
theorem ck_fl_X8_37 : Cond.fieldLink RX8 37 RX8 "row" "[I" ∈ wAll := wIn 688 rfl rfl
theorem dk_X8_init_74 : decode cX8_init 74 = .ok (.putfield 37, 3) := by decide +kernel
theorem dk_X8_init_77 : decode cX8_init 77 = .ok (.aload_n 0, 1) := by decide +kernel
theorem dk_X8_init_78 : decode cX8_init 78 = .ok (.bipush 32, 2) := by decide +kernel
theorem dk_X8_init_80 : decode cX8_init 80 = .ok (.newarray .int, 2) := by decide +kernel
set_option maxRecDepth 20000 in
theorem ck_fl_X8_40 : Cond.fieldLink RX8 40 RX8 "mosts" "[I" ∈ wAll := wIn 690 rfl rfl
theorem dk_X8_init_82 : decode cX8_init 82 = .ok (.putfield 40, 3) := by decide +kernel
theorem dk_X8_init_85 : decode cX8_init 85 = .ok (.aload_n 0, 1) := by decide +kernel
theorem dk_X8_init_86 : decode cX8_init 86 = .ok (.bipush 6, 2) := by decide +kernel
theorem dk_X8_init_88 : decode cX8_init 88 = .ok (.newarray .int, 2) := by decide +kernel
set_option maxRecDepth 20000 in
theorem ck_fl_X8_43 : Cond.fieldLink RX8 43 RX8 "spoke" "[I" ∈ wAll := wIn 692 rfl rfl
theorem dk_X8_init_90 : decode cX8_init 90 = .ok (.putfield 43, 3) := by decide +kernel
theorem dk_X8_init_93 : decode cX8_init 93 = .ok (.aload_n 0, 1) := by decide +kernel
theorem dk_X8_init_94 : decode cX8_init 94 = .ok (.bipush 6, 2) := by decide +kernel
theorem dk_X8_init_96 : decode cX8_init 96 = .ok (.newarray .int, 2) := by decide +kernel
set_option maxRecDepth 20000 in
theorem ck_fl_X8_46 : Cond.fieldLink RX8 46 RX8 "grew" "[I" ∈ wAll := wIn 693 rfl rfl
theorem dk_X8_init_98 : decode cX8_init 98 = .ok (.putfield 46, 3) := by decide +kernel
theorem dk_X8_init_101 : decode cX8_init 101 = .ok (.aload_n 0, 1) := by decide +kernel
theorem dk_X8_init_102 : decode cX8_init 102 = .ok (.sipush 1296, 3) := by decide +kernel
theorem dk_X8_init_105 : decode cX8_init 105 = .ok (.newarray .int, 2) := by decide +kernel
set_option maxRecDepth 20000 in
theorem ck_fl_X8_49 : Cond.fieldLink RX8 49 RX8 "values" "[I" ∈ wAll := wIn 694 rfl rfl
theorem dk_X8_init_107 : decode cX8_init 107 = .ok (.putfield 49, 3) := by decide +kernel
theorem dk_X8_init_110 : decode cX8_init 110 = .ok (.aload_n 0, 1) := by decide +kernel
theorem dk_X8_init_111 : decode cX8_init 111 = .ok (.iconst 2, 1) := by decide +kernel
set_option maxRecDepth 20000 in
theorem ck_ar_boolean : Cond.arrayClass .boolean ∈ wAll := wIn 196 rfl rfl
theorem dk_X8_init_112 : decode cX8_init 112 = .ok (.newarray .boolean, 2) := by decide +kernel
set_option maxRecDepth 20000 in
theorem ck_fl_X8_52 : Cond.fieldLink RX8 52 RX8 "isKept" "[Z" ∈ wAll := wIn 696 rfl rfl
theorem dk_X8_init_114 : decode cX8_init 114 = .ok (.putfield 52, 3) := by decide +kernel
theorem dk_X8_init_117 : decode cX8_init 117 = .ok (.aload_n 0, 1) := by decide +kernel
theorem dk_X8_init_118 : decode cX8_init 118 = .ok (.bipush 18, 2) := by decide +kernel
theorem dk_X8_init_120 : decode cX8_init 120 = .ok (.newarray .int, 2) := by decide +kernel
set_option maxRecDepth 20000 in
theorem ck_fl_X8_56 : Cond.fieldLink RX8 56 RX8 "kept" "[I" ∈ wAll := wIn 697 rfl rfl
theorem dk_X8_init_122 : decode cX8_init 122 = .ok (.putfield 56, 3) := by decide +kernel
theorem dk_X8_init_125 : decode cX8_init 125 = .ok (.aload_n 0, 1) := by decide +kernel
theorem dk_X8_init_126 : decode cX8_init 126 = .ok (.iconst 1, 1) := by decide +kernel
set_option maxRecDepth 20000 in
theorem ck_fl_X8_59 : Cond.fieldLink RX8 59 RX8 "warm" "I" ∈ wAll := wIn 668 rfl rfl
theorem dk_X8_init_127 : decode cX8_init 127 = .ok (.putfield 59, 3) := by decide +kernel
theorem dk_X8_init_130 : decode cX8_init 130 = .ok (.aload_n 0, 1) := by decide +kernel
theorem dk_X8_init_131 : decode cX8_init 131 = .ok (.iconst 1, 1) := by decide +kernel
set_option maxRecDepth 20000 in
theorem ck_fl_X8_63 : Cond.fieldLink RX8 63 RX8 "reach" "I" ∈ wAll := wIn 669 rfl rfl
theorem dk_X8_init_132 : decode cX8_init 132 = .ok (.putfield 63, 3) := by decide +kernel
theorem dk_X8_init_135 : decode cX8_init 135 = .ok (.aload_n 0, 1) := by decide +kernel
theorem dk_X8_init_136 : decode cX8_init 136 = .ok (.getfield 19, 3) := by decide +kernel
theorem dk_X8_init_139 : decode cX8_init 139 = .ok (.iconst 5, 1) := by decide +kernel
theorem dk_X8_init_140 : decode cX8_init 140 = .ok (.iconst 1, 1) := by decide +kernel
theorem dk_X8_init_141 : decode cX8_init 141 = .ok (.iastore, 1) := by decide +kernel
theorem dk_X8_init_142 : decode cX8_init 142 = .ok (.aload_n 0, 1) := by decide +kernel
theorem dk_X8_init_143 : decode cX8_init 143 = .ok (.getfield 19, 3) := by decide +kernel
theorem dk_X8_init_146 : decode cX8_init 146 = .ok (.bipush 7, 2) := by decide +kernel
theorem dk_X8_init_148 : decode cX8_init 148 = .ok (.iconst 1, 1) := by decide +kernel
theorem dk_X8_init_149 : decode cX8_init 149 = .ok (.iastore, 1) := by decide +kernel
theorem dk_X8_init_150 : decode cX8_init 150 = .ok (.return_, 1) := by decide +kernel
def pw_X8_init (cs : pm_Cs) (h0 : Nat) : (Nat → Nat) → va_W := fun u => [(h0, .inr (8, [.int 0, .int 1, .int 1, .ref (u 0), .ref (u 1), .ref (u 2), .ref (u 3), .int 0, .int 0, .int 0, .int 0, .ref (u 4), .ref (u 5), .ref (u 6), .ref (u 7), .ref (u 8), .int 0, .int 0, .int 0, .int 0, .int 0, .ref (u 9), .int 0, .ref (u 10), .int 0, .ref (u 11), .ref (u 12), .ref (u 13), .long 0, .ref (u 14), .ref (u 15)])), (u 15, .inl (cs.1, 18, .inl (fun _ => 0))), (u 14, .inl (cs.2.1, 2, .inl (fun _ => 0))), (u 13, .inl (cs.1, 1296, .inl (fun _ => 0))), (u 12, .inl (cs.1, 6, .inl (fun _ => 0))), (u 11, .inl (cs.1, 6, .inl (fun _ => 0))), (u 10, .inl (cs.1, 32, .inl (fun _ => 0))), (u 9, .inl (cs.1, 126, .inl (fun _ => 0))), (u 8, .inl (cs.1, 40, .inl (fun _ => 0))), (u 7, .inl (cs.1, 5, .inl (fun _ => 0))), (u 6, .inl (cs.1, 5, .inl (fun _ => 0))), (u 5, .inl (cs.1, 5, .inl (fun _ => 0))), (u 4, .inl (cs.1, 5, .inl (fun _ => 0))), (u 3, .inl (cs.1, 18, .inl (upd (upd (fun _ => 0) 5 1) 7 1))), (u 2, .inl (cs.1, 5, .inl (fun _ => 0))), (u 1, .inl (cs.1, 5, .inl (fun _ => 0))), (u 0, .inl (cs.1, 5, .inl (fun _ => 0)))]
set_option maxHeartbeats 4000000 in
set_option maxRecDepth 100000 in
theorem c_X8_init (l : Launch) (D : va_G) (cs : pm_Cs) (h0 : Nat) : cMet l yX8_init cX8_init 1 D cs [] h0 (.inr (8, [.int 0, .int 0, .int 0, .null, .null, .null, .null, .int 0, .int 0, .int 0, .int 0, .null, .null, .null, .null, .null, .int 0, .int 0, .int 0, .int 0, .int 0, .null, .int 0, .null, .int 0, .null, .null, .null, .long 0, .null, .null])) (pw_X8_init cs h0) 16 1579 1 := by
  refine cMet_of (by decide +kernel) (Nat.le_of_ble_eq_true rfl) (fun p e s m args below meth c C hr hlocks hm => ?_)
  refine r_aload C dk_X8_init_0 rfl 0 rfl ?_
  refine r_obj C ck_ol_X8 ck_oi ck_oc dk_X8_init_1 ⟨(Nat.le_of_ble_eq_true rfl), (Nat.le_of_ble_eq_true rfl)⟩ ?_
  refine r_aload C dk_X8_init_4 rfl 0 rfl ?_
  refine r_iconst C (v := 5) dk_X8_init_5 (by decide) ?_
  refine r_newI C (N := 5) ck_ar_int (by decide) (by decide) (by decide) (Nat.le_of_ble_eq_true rfl) (Nat.le_of_ble_eq_true rfl) dk_X8_init_6 (fun q1 => ?_)
  refine r_perm (List.Perm.swap _ _ _) ?_
  refine r_putF C hm wiX8 tyX8 tyX8_ok nmX8 (k := 3) (fs' := [.int 0, .int 0, .int 0, .ref q1, .null, .null, .null, .int 0, .int 0, .int 0, .int 0, .null, .null, .null, .null, .null, .int 0, .int 0, .int 0, .int 0, .int 0, .null, .int 0, .null, .int 0, .null, .null, .null, .long 0, .null, .null]) rfl (by decide) ck_fl_X8_7 rfl rfl (tyX8_ok 3 (by decide)) rfl rfl (Nat.le_of_ble_eq_true rfl) dk_X8_init_8 rfl ?_
  refine r_aload C dk_X8_init_11 rfl 0 rfl ?_
  refine r_iconst C (v := 5) dk_X8_init_12 (by decide) ?_
  refine r_newI C (N := 5) ck_ar_int (by decide) (by decide) (by decide) (Nat.le_of_ble_eq_true rfl) (Nat.le_of_ble_eq_true rfl) dk_X8_init_13 (fun q2 => ?_)
  refine r_perm (List.Perm.swap _ _ _) ?_
  refine r_putF C hm wiX8 tyX8 tyX8_ok nmX8 (k := 4) (fs' := [.int 0, .int 0, .int 0, .ref q1, .ref q2, .null, .null, .int 0, .int 0, .int 0, .int 0, .null, .null, .null, .null, .null, .int 0, .int 0, .int 0, .int 0, .int 0, .null, .int 0, .null, .int 0, .null, .null, .null, .long 0, .null, .null]) rfl (by decide) ck_fl_X8_13 rfl rfl (tyX8_ok 4 (by decide)) rfl rfl (Nat.le_of_ble_eq_true rfl) dk_X8_init_15 rfl ?_
  refine r_aload C dk_X8_init_18 rfl 0 rfl ?_
  refine r_iconst C (v := 5) dk_X8_init_19 (by decide) ?_
  refine r_newI C (N := 5) ck_ar_int (by decide) (by decide) (by decide) (Nat.le_of_ble_eq_true rfl) (Nat.le_of_ble_eq_true rfl) dk_X8_init_20 (fun q3 => ?_)
  refine r_perm (List.Perm.swap _ _ _) ?_
  refine r_putF C hm wiX8 tyX8 tyX8_ok nmX8 (k := 5) (fs' := [.int 0, .int 0, .int 0, .ref q1, .ref q2, .ref q3, .null, .int 0, .int 0, .int 0, .int 0, .null, .null, .null, .null, .null, .int 0, .int 0, .int 0, .int 0, .int 0, .null, .int 0, .null, .int 0, .null, .null, .null, .long 0, .null, .null]) rfl (by decide) ck_fl_X8_16 rfl rfl (tyX8_ok 5 (by decide)) rfl rfl (Nat.le_of_ble_eq_true rfl) dk_X8_init_22 rfl ?_
  refine r_aload C dk_X8_init_25 rfl 0 rfl ?_
  refine r_bipush C (v := 18) dk_X8_init_26 (by decide) ?_
  refine r_newI C (N := 18) ck_ar_int (by decide) (by decide) (by decide) (Nat.le_of_ble_eq_true rfl) (Nat.le_of_ble_eq_true rfl) dk_X8_init_28 (fun q4 => ?_)
  refine r_perm (List.Perm.swap _ _ _) ?_
  refine r_putF C hm wiX8 tyX8 tyX8_ok nmX8 (k := 6) (fs' := [.int 0, .int 0, .int 0, .ref q1, .ref q2, .ref q3, .ref q4, .int 0, .int 0, .int 0, .int 0, .null, .null, .null, .null, .null, .int 0, .int 0, .int 0, .int 0, .int 0, .null, .int 0, .null, .int 0, .null, .null, .null, .long 0, .null, .null]) rfl (by decide) ck_fl_X8_19 rfl rfl (tyX8_ok 6 (by decide)) rfl rfl (Nat.le_of_ble_eq_true rfl) dk_X8_init_30 rfl ?_
  refine r_aload C dk_X8_init_33 rfl 0 rfl ?_
  refine r_iconst C (v := 5) dk_X8_init_34 (by decide) ?_
  refine r_newI C (N := 5) ck_ar_int (by decide) (by decide) (by decide) (Nat.le_of_ble_eq_true rfl) (Nat.le_of_ble_eq_true rfl) dk_X8_init_35 (fun q5 => ?_)
  refine r_perm (List.Perm.swap _ _ _) ?_
  refine r_putF C hm wiX8 tyX8 tyX8_ok nmX8 (k := 11) (fs' := [.int 0, .int 0, .int 0, .ref q1, .ref q2, .ref q3, .ref q4, .int 0, .int 0, .int 0, .int 0, .ref q5, .null, .null, .null, .null, .int 0, .int 0, .int 0, .int 0, .int 0, .null, .int 0, .null, .int 0, .null, .null, .null, .long 0, .null, .null]) rfl (by decide) ck_fl_X8_22 rfl rfl (tyX8_ok 11 (by decide)) rfl rfl (Nat.le_of_ble_eq_true rfl) dk_X8_init_37 rfl ?_
  refine r_aload C dk_X8_init_40 rfl 0 rfl ?_
  refine r_iconst C (v := 5) dk_X8_init_41 (by decide) ?_
  refine r_newI C (N := 5) ck_ar_int (by decide) (by decide) (by decide) (Nat.le_of_ble_eq_true rfl) (Nat.le_of_ble_eq_true rfl) dk_X8_init_42 (fun q6 => ?_)
  refine r_perm (List.Perm.swap _ _ _) ?_
  refine r_putF C hm wiX8 tyX8 tyX8_ok nmX8 (k := 12) (fs' := [.int 0, .int 0, .int 0, .ref q1, .ref q2, .ref q3, .ref q4, .int 0, .int 0, .int 0, .int 0, .ref q5, .ref q6, .null, .null, .null, .int 0, .int 0, .int 0, .int 0, .int 0, .null, .int 0, .null, .int 0, .null, .null, .null, .long 0, .null, .null]) rfl (by decide) ck_fl_X8_25 rfl rfl (tyX8_ok 12 (by decide)) rfl rfl (Nat.le_of_ble_eq_true rfl) dk_X8_init_44 rfl ?_
  refine r_aload C dk_X8_init_47 rfl 0 rfl ?_
  refine r_iconst C (v := 5) dk_X8_init_48 (by decide) ?_
  refine r_newI C (N := 5) ck_ar_int (by decide) (by decide) (by decide) (Nat.le_of_ble_eq_true rfl) (Nat.le_of_ble_eq_true rfl) dk_X8_init_49 (fun q7 => ?_)
  refine r_perm (List.Perm.swap _ _ _) ?_
  refine r_putF C hm wiX8 tyX8 tyX8_ok nmX8 (k := 13) (fs' := [.int 0, .int 0, .int 0, .ref q1, .ref q2, .ref q3, .ref q4, .int 0, .int 0, .int 0, .int 0, .ref q5, .ref q6, .ref q7, .null, .null, .int 0, .int 0, .int 0, .int 0, .int 0, .null, .int 0, .null, .int 0, .null, .null, .null, .long 0, .null, .null]) rfl (by decide) ck_fl_X8_28 rfl rfl (tyX8_ok 13 (by decide)) rfl rfl (Nat.le_of_ble_eq_true rfl) dk_X8_init_51 rfl ?_
  refine r_aload C dk_X8_init_54 rfl 0 rfl ?_
  refine r_iconst C (v := 5) dk_X8_init_55 (by decide) ?_
  refine r_newI C (N := 5) ck_ar_int (by decide) (by decide) (by decide) (Nat.le_of_ble_eq_true rfl) (Nat.le_of_ble_eq_true rfl) dk_X8_init_56 (fun q8 => ?_)
  refine r_perm (List.Perm.swap _ _ _) ?_
  refine r_putF C hm wiX8 tyX8 tyX8_ok nmX8 (k := 14) (fs' := [.int 0, .int 0, .int 0, .ref q1, .ref q2, .ref q3, .ref q4, .int 0, .int 0, .int 0, .int 0, .ref q5, .ref q6, .ref q7, .ref q8, .null, .int 0, .int 0, .int 0, .int 0, .int 0, .null, .int 0, .null, .int 0, .null, .null, .null, .long 0, .null, .null]) rfl (by decide) ck_fl_X8_31 rfl rfl (tyX8_ok 14 (by decide)) rfl rfl (Nat.le_of_ble_eq_true rfl) dk_X8_init_58 rfl ?_
  refine r_aload C dk_X8_init_61 rfl 0 rfl ?_
  refine r_bipush C (v := 40) dk_X8_init_62 (by decide) ?_
  refine r_newI C (N := 40) ck_ar_int (by decide) (by decide) (by decide) (Nat.le_of_ble_eq_true rfl) (Nat.le_of_ble_eq_true rfl) dk_X8_init_64 (fun q9 => ?_)
  refine r_perm (List.Perm.swap _ _ _) ?_
  refine r_putF C hm wiX8 tyX8 tyX8_ok nmX8 (k := 15) (fs' := [.int 0, .int 0, .int 0, .ref q1, .ref q2, .ref q3, .ref q4, .int 0, .int 0, .int 0, .int 0, .ref q5, .ref q6, .ref q7, .ref q8, .ref q9, .int 0, .int 0, .int 0, .int 0, .int 0, .null, .int 0, .null, .int 0, .null, .null, .null, .long 0, .null, .null]) rfl (by decide) ck_fl_X8_34 rfl rfl (tyX8_ok 15 (by decide)) rfl rfl (Nat.le_of_ble_eq_true rfl) dk_X8_init_66 rfl ?_
  refine r_aload C dk_X8_init_69 rfl 0 rfl ?_
  refine r_bipush C (v := 126) dk_X8_init_70 (by decide) ?_
  refine r_newI C (N := 126) ck_ar_int (by decide) (by decide) (by decide) (Nat.le_of_ble_eq_true rfl) (Nat.le_of_ble_eq_true rfl) dk_X8_init_72 (fun q10 => ?_)
  refine r_perm (List.Perm.swap _ _ _) ?_
  refine r_putF C hm wiX8 tyX8 tyX8_ok nmX8 (k := 21) (fs' := [.int 0, .int 0, .int 0, .ref q1, .ref q2, .ref q3, .ref q4, .int 0, .int 0, .int 0, .int 0, .ref q5, .ref q6, .ref q7, .ref q8, .ref q9, .int 0, .int 0, .int 0, .int 0, .int 0, .ref q10, .int 0, .null, .int 0, .null, .null, .null, .long 0, .null, .null]) rfl (by decide) ck_fl_X8_37 rfl rfl (tyX8_ok 21 (by decide)) rfl rfl (Nat.le_of_ble_eq_true rfl) dk_X8_init_74 rfl ?_
  refine r_aload C dk_X8_init_77 rfl 0 rfl ?_
  refine r_bipush C (v := 32) dk_X8_init_78 (by decide) ?_
  refine r_newI C (N := 32) ck_ar_int (by decide) (by decide) (by decide) (Nat.le_of_ble_eq_true rfl) (Nat.le_of_ble_eq_true rfl) dk_X8_init_80 (fun q11 => ?_)
  refine r_perm (List.Perm.swap _ _ _) ?_
  refine r_putF C hm wiX8 tyX8 tyX8_ok nmX8 (k := 23) (fs' := [.int 0, .int 0, .int 0, .ref q1, .ref q2, .ref q3, .ref q4, .int 0, .int 0, .int 0, .int 0, .ref q5, .ref q6, .ref q7, .ref q8, .ref q9, .int 0, .int 0, .int 0, .int 0, .int 0, .ref q10, .int 0, .ref q11, .int 0, .null, .null, .null, .long 0, .null, .null]) rfl (by decide) ck_fl_X8_40 rfl rfl (tyX8_ok 23 (by decide)) rfl rfl (Nat.le_of_ble_eq_true rfl) dk_X8_init_82 rfl ?_
  refine r_aload C dk_X8_init_85 rfl 0 rfl ?_
  refine r_bipush C (v := 6) dk_X8_init_86 (by decide) ?_
  refine r_newI C (N := 6) ck_ar_int (by decide) (by decide) (by decide) (Nat.le_of_ble_eq_true rfl) (Nat.le_of_ble_eq_true rfl) dk_X8_init_88 (fun q12 => ?_)
  refine r_perm (List.Perm.swap _ _ _) ?_
  refine r_putF C hm wiX8 tyX8 tyX8_ok nmX8 (k := 25) (fs' := [.int 0, .int 0, .int 0, .ref q1, .ref q2, .ref q3, .ref q4, .int 0, .int 0, .int 0, .int 0, .ref q5, .ref q6, .ref q7, .ref q8, .ref q9, .int 0, .int 0, .int 0, .int 0, .int 0, .ref q10, .int 0, .ref q11, .int 0, .ref q12, .null, .null, .long 0, .null, .null]) rfl (by decide) ck_fl_X8_43 rfl rfl (tyX8_ok 25 (by decide)) rfl rfl (Nat.le_of_ble_eq_true rfl) dk_X8_init_90 rfl ?_
  refine r_aload C dk_X8_init_93 rfl 0 rfl ?_
  refine r_bipush C (v := 6) dk_X8_init_94 (by decide) ?_
  refine r_newI C (N := 6) ck_ar_int (by decide) (by decide) (by decide) (Nat.le_of_ble_eq_true rfl) (Nat.le_of_ble_eq_true rfl) dk_X8_init_96 (fun q13 => ?_)
  refine r_perm (List.Perm.swap _ _ _) ?_
  refine r_putF C hm wiX8 tyX8 tyX8_ok nmX8 (k := 26) (fs' := [.int 0, .int 0, .int 0, .ref q1, .ref q2, .ref q3, .ref q4, .int 0, .int 0, .int 0, .int 0, .ref q5, .ref q6, .ref q7, .ref q8, .ref q9, .int 0, .int 0, .int 0, .int 0, .int 0, .ref q10, .int 0, .ref q11, .int 0, .ref q12, .ref q13, .null, .long 0, .null, .null]) rfl (by decide) ck_fl_X8_46 rfl rfl (tyX8_ok 26 (by decide)) rfl rfl (Nat.le_of_ble_eq_true rfl) dk_X8_init_98 rfl ?_
  refine r_aload C dk_X8_init_101 rfl 0 rfl ?_
  refine r_sipush C (v := 1296) dk_X8_init_102 (by decide) ?_
  refine r_newI C (N := 1296) ck_ar_int (by decide) (by decide) (by decide) (Nat.le_of_ble_eq_true rfl) (Nat.le_of_ble_eq_true rfl) dk_X8_init_105 (fun q14 => ?_)
  refine r_perm (List.Perm.swap _ _ _) ?_
  refine r_putF C hm wiX8 tyX8 tyX8_ok nmX8 (k := 27) (fs' := [.int 0, .int 0, .int 0, .ref q1, .ref q2, .ref q3, .ref q4, .int 0, .int 0, .int 0, .int 0, .ref q5, .ref q6, .ref q7, .ref q8, .ref q9, .int 0, .int 0, .int 0, .int 0, .int 0, .ref q10, .int 0, .ref q11, .int 0, .ref q12, .ref q13, .ref q14, .long 0, .null, .null]) rfl (by decide) ck_fl_X8_49 rfl rfl (tyX8_ok 27 (by decide)) rfl rfl (Nat.le_of_ble_eq_true rfl) dk_X8_init_107 rfl ?_
  refine r_aload C dk_X8_init_110 rfl 0 rfl ?_
  refine r_iconst C (v := 2) dk_X8_init_111 (by decide) ?_
  refine r_newZ C (N := 2) ck_ar_boolean (by decide) (by decide) (by decide) (Nat.le_of_ble_eq_true rfl) (Nat.le_of_ble_eq_true rfl) dk_X8_init_112 (fun q15 => ?_)
  refine r_perm (List.Perm.swap _ _ _) ?_
  refine r_putF C hm wiX8 tyX8 tyX8_ok nmX8 (k := 29) (fs' := [.int 0, .int 0, .int 0, .ref q1, .ref q2, .ref q3, .ref q4, .int 0, .int 0, .int 0, .int 0, .ref q5, .ref q6, .ref q7, .ref q8, .ref q9, .int 0, .int 0, .int 0, .int 0, .int 0, .ref q10, .int 0, .ref q11, .int 0, .ref q12, .ref q13, .ref q14, .long 0, .ref q15, .null]) rfl (by decide) ck_fl_X8_52 rfl rfl (tyX8_ok 29 (by decide)) rfl rfl (Nat.le_of_ble_eq_true rfl) dk_X8_init_114 rfl ?_
  refine r_aload C dk_X8_init_117 rfl 0 rfl ?_
  refine r_bipush C (v := 18) dk_X8_init_118 (by decide) ?_
  refine r_newI C (N := 18) ck_ar_int (by decide) (by decide) (by decide) (Nat.le_of_ble_eq_true rfl) (Nat.le_of_ble_eq_true rfl) dk_X8_init_120 (fun q16 => ?_)
  refine r_perm (List.Perm.swap _ _ _) ?_
  refine r_putF C hm wiX8 tyX8 tyX8_ok nmX8 (k := 30) (fs' := [.int 0, .int 0, .int 0, .ref q1, .ref q2, .ref q3, .ref q4, .int 0, .int 0, .int 0, .int 0, .ref q5, .ref q6, .ref q7, .ref q8, .ref q9, .int 0, .int 0, .int 0, .int 0, .int 0, .ref q10, .int 0, .ref q11, .int 0, .ref q12, .ref q13, .ref q14, .long 0, .ref q15, .ref q16]) rfl (by decide) ck_fl_X8_56 rfl rfl (tyX8_ok 30 (by decide)) rfl rfl (Nat.le_of_ble_eq_true rfl) dk_X8_init_122 rfl ?_
  refine r_aload C dk_X8_init_125 rfl 0 rfl ?_
  refine r_iconst C (v := 1) dk_X8_init_126 (by decide) ?_
  refine r_put C wiX8 tyX8 tyX8_ok nmX8 (k := 1) (fs' := [.int 0, .int 1, .int 0, .ref q1, .ref q2, .ref q3, .ref q4, .int 0, .int 0, .int 0, .int 0, .ref q5, .ref q6, .ref q7, .ref q8, .ref q9, .int 0, .int 0, .int 0, .int 0, .int 0, .ref q10, .int 0, .ref q11, .int 0, .ref q12, .ref q13, .ref q14, .long 0, .ref q15, .ref q16]) rfl (by decide) ck_fl_X8_59 rfl rfl (tyX8_ok 1 (by decide)) rfl rfl (Nat.le_of_ble_eq_true rfl) dk_X8_init_127 rfl ?_
  refine r_aload C dk_X8_init_130 rfl 0 rfl ?_
  refine r_iconst C (v := 1) dk_X8_init_131 (by decide) ?_
  refine r_put C wiX8 tyX8 tyX8_ok nmX8 (k := 2) (fs' := [.int 0, .int 1, .int 1, .ref q1, .ref q2, .ref q3, .ref q4, .int 0, .int 0, .int 0, .int 0, .ref q5, .ref q6, .ref q7, .ref q8, .ref q9, .int 0, .int 0, .int 0, .int 0, .int 0, .ref q10, .int 0, .ref q11, .int 0, .ref q12, .ref q13, .ref q14, .long 0, .ref q15, .ref q16]) rfl (by decide) ck_fl_X8_63 rfl rfl (tyX8_ok 2 (by decide)) rfl rfl (Nat.le_of_ble_eq_true rfl) dk_X8_init_132 rfl ?_
  refine r_aload C dk_X8_init_135 rfl 0 rfl ?_
  refine r_get C wiX8 (k := 6) rfl (by decide) ck_fl_X8_19 rfl rfl dk_X8_init_136 ?_
  refine r_iconst C (v := 5) dk_X8_init_139 (by decide) ?_
  refine r_iconst C (v := 1) dk_X8_init_140 (by decide) ?_
  refine r_iast C 13 rfl (pm_inb_in (by decide)) dk_X8_init_141 (ws' := [(h0, .inr (8, [.int 0, .int 1, .int 1, .ref q1, .ref q2, .ref q3, .ref q4, .int 0, .int 0, .int 0, .int 0, .ref q5, .ref q6, .ref q7, .ref q8, .ref q9, .int 0, .int 0, .int 0, .int 0, .int 0, .ref q10, .int 0, .ref q11, .int 0, .ref q12, .ref q13, .ref q14, .long 0, .ref q15, .ref q16])), (q16, .inl (cs.1, 18, .inl (fun _ => 0))), (q15, .inl (cs.2.1, 2, .inl (fun _ => 0))), (q14, .inl (cs.1, 1296, .inl (fun _ => 0))), (q13, .inl (cs.1, 6, .inl (fun _ => 0))), (q12, .inl (cs.1, 6, .inl (fun _ => 0))), (q11, .inl (cs.1, 32, .inl (fun _ => 0))), (q10, .inl (cs.1, 126, .inl (fun _ => 0))), (q9, .inl (cs.1, 40, .inl (fun _ => 0))), (q8, .inl (cs.1, 5, .inl (fun _ => 0))), (q7, .inl (cs.1, 5, .inl (fun _ => 0))), (q6, .inl (cs.1, 5, .inl (fun _ => 0))), (q5, .inl (cs.1, 5, .inl (fun _ => 0))), (q4, .inl (cs.1, 18, .inl (upd (fun _ => 0) 5 1))), (q3, .inl (cs.1, 5, .inl (fun _ => 0))), (q2, .inl (cs.1, 5, .inl (fun _ => 0))), (q1, .inl (cs.1, 5, .inl (fun _ => 0)))]) rfl ?_
  refine r_aload C dk_X8_init_142 rfl 0 rfl ?_
  refine r_get C wiX8 (k := 6) rfl (by decide) ck_fl_X8_19 rfl rfl dk_X8_init_143 ?_
  refine r_bipush C (v := 7) dk_X8_init_146 (by decide) ?_
  refine r_iconst C (v := 1) dk_X8_init_148 (by decide) ?_
  refine r_iast C 13 rfl (pm_inb_in (by decide)) dk_X8_init_149 (ws' := [(h0, .inr (8, [.int 0, .int 1, .int 1, .ref q1, .ref q2, .ref q3, .ref q4, .int 0, .int 0, .int 0, .int 0, .ref q5, .ref q6, .ref q7, .ref q8, .ref q9, .int 0, .int 0, .int 0, .int 0, .int 0, .ref q10, .int 0, .ref q11, .int 0, .ref q12, .ref q13, .ref q14, .long 0, .ref q15, .ref q16])), (q16, .inl (cs.1, 18, .inl (fun _ => 0))), (q15, .inl (cs.2.1, 2, .inl (fun _ => 0))), (q14, .inl (cs.1, 1296, .inl (fun _ => 0))), (q13, .inl (cs.1, 6, .inl (fun _ => 0))), (q12, .inl (cs.1, 6, .inl (fun _ => 0))), (q11, .inl (cs.1, 32, .inl (fun _ => 0))), (q10, .inl (cs.1, 126, .inl (fun _ => 0))), (q9, .inl (cs.1, 40, .inl (fun _ => 0))), (q8, .inl (cs.1, 5, .inl (fun _ => 0))), (q7, .inl (cs.1, 5, .inl (fun _ => 0))), (q6, .inl (cs.1, 5, .inl (fun _ => 0))), (q5, .inl (cs.1, 5, .inl (fun _ => 0))), (q4, .inl (cs.1, 18, .inl (upd (upd (fun _ => 0) 5 1) 7 1))), (q3, .inl (cs.1, 5, .inl (fun _ => 0))), (q2, .inl (cs.1, 5, .inl (fun _ => 0))), (q1, .inl (cs.1, 5, .inl (fun _ => 0)))]) rfl ?_
  exact r_ret C hr hlocks (fun k => pm_nth 0 [q1, q2, q3, q4, q5, q6, q7, q8, q9, q10, q11, q12, q13, q14, q15, q16] k) (List.Perm.refl _) rfl rfl dk_X8_init_150
