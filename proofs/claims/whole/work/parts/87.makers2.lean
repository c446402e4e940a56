/-! ===== constructors with loops ===== -/
def stW (cs : pm_Cs) (S Lf : Nat → Nat) : Nat → va_W
  | 0 => []
  | j + 1 => (S j, .inr (4, [.ref (Lf j), .int 1, .int 0, .int 1, .int 0])) :: (Lf j, .inl (cs.1, 5, .inl (fun _ => 0))) :: stW cs S Lf j
def fS (S : Nat → Nat) (j : Nat) : Nat → Option Nat := fun n => if n < j then some (S n) else none
def xtd (S : Nat → Nat) (j q : Nat) : Nat → Nat := fun n => if n = j then q else S n
theorem xtd_s {S : Nat → Nat} {j q : Nat} : xtd S j q j = q := if_pos rfl
theorem stW_xtd {cs : pm_Cs} {S Lf : Nat → Nat} {k q r : Nat} : ∀ j, j ≤ k → stW cs (xtd S k q) (xtd Lf k r) j = stW cs S Lf j
  | 0, _ => rfl
  | j + 1, h => by
    unfold stW
    rw [stW_xtd j (by omega), show xtd S k q j = S j from if_neg (by omega), show xtd Lf k r j = Lf j from if_neg (by omega)]
theorem stW_s {cs : pm_Cs} {S Lf : Nat → Nat} {j q r : Nat} : stW cs (xtd S j q) (xtd Lf j r) (j + 1) = (q, .inr (4, [.ref r, .int 1, .int 0, .int 1, .int 0])) :: (r, .inl (cs.1, 5, .inl (fun _ => 0))) :: stW cs S Lf j := by
  rw [stW, stW_xtd j (Nat.le_refl _), xtd_s, xtd_s]
theorem fS_0 {S : Nat → Nat} : fS S 0 = fun _ => none := funext fun n => if_neg (by omega)
theorem fS_s {S : Nat → Nat} {j q : Nat} : va_up (fS S j) j (some q) = fS (xtd S j q) (j + 1) := by
  funext n
  unfold va_up fS xtd
  by_cases h : n = j
  · rw [if_pos h, if_pos (by omega), if_pos h]
  · rw [if_neg h]
    by_cases h2 : n < j
    · rw [if_pos h2, if_pos (by omega), if_neg h]
    · rw [if_neg h2, if_neg (by omega)]
def uC (a : Nat) (S Lf : Nat → Nat) : Nat → Nat := fun k => if k = 0 then a else if k % 2 = 1 then S (k / 2) else Lf (k / 2 - 1)
theorem uC_1 {a : Nat} {S Lf : Nat → Nat} : (fun j => uC a S Lf (2 * j + 1)) = S := by
  funext j
  unfold uC
  rw [if_neg (by omega), if_pos (by omega), show (2 * j + 1) / 2 = j by omega]
theorem uC_2 {a : Nat} {S Lf : Nat → Nat} : (fun j => uC a S Lf (2 * j + 2)) = Lf := by
  funext j
  unfold uC
  rw [if_neg (by omega), if_neg (by omega), show (2 * j + 2) / 2 - 1 = j by omega]
theorem dk_X0_init_16 : decode cX0_init 16 = .ok (.bipush 14, 2) := by decide +kernel
set_option maxRecDepth 20000 in
theorem ck_cl_X0_9 : Cond.classLink RX0 9 RX4 ∈ wAll := wIn 156 rfl rfl
theorem ck_nm_X0_17 : (RX0, 17, yX4_init, "LeafTable") ∈ pm_nM := List.mem_of_getElem? (i := 3) rfl
theorem dk_X0_init_15 : decode cX0_init 15 = .ok (.iload_n 1, 1) := by decide +kernel
theorem dk_X0_init_18 : decode cX0_init 18 = .ok (.if_icmp .ge 22, 3) := by decide +kernel
theorem dk_X0_init_21 : decode cX0_init 21 = .ok (.aload_n 0, 1) := by decide +kernel
set_option maxRecDepth 20000 in
theorem ck_fl_X0_11 : Cond.fieldLink RX0 11 RX0 "before" "[LLeafTable$Seats;" ∈ wAll := wIn 159 rfl rfl
theorem dk_X0_init_22 : decode cX0_init 22 = .ok (.getfield 11, 3) := by decide +kernel
theorem dk_X0_init_25 : decode cX0_init 25 = .ok (.iload_n 1, 1) := by decide +kernel
set_option maxRecDepth 20000 in
theorem ck_in_X4 : Cond.instantiable RX4 5 ∈ wAll := wIn 115 rfl rfl
set_option maxRecDepth 20000 in
theorem ck_it_X4 : Cond.initialized RX4 ∈ wAll := wIn 48 rfl rfl
theorem ck_fs_X4 : ∀ j, j < 5 → defaultValue (tyX4 j) = vp_V [.null, .int 0, .int 0, .int 0, .int 0] j
  | 0, _ => rfl
  | 1, _ => rfl
  | 2, _ => rfl
  | 3, _ => rfl
  | 4, _ => rfl
  | j + 5, h => absurd h (by omega)
theorem dk_X0_init_26 : decode cX0_init 26 = .ok (.new 9, 3) := by decide +kernel
theorem dk_X0_init_29 : decode cX0_init 29 = .ok (.dup, 1) := by decide +kernel
set_option maxRecDepth 20000 in
theorem ck_co_X4_init : Cond.code yX4_init cX4_init 1 none ∈ wAll := wIn 118 rfl rfl
set_option maxRecDepth 20000 in
theorem ck_im_X4_init : Cond.instanceMethod yX4_init ∈ wAll := wIn 117 rfl rfl
theorem ck_dd_X4_init : yX4_init.cls ≠ "java/lang/invoke/MethodHandle" ∧ yX4_init.cls ≠ "java/lang/invoke/VarHandle" ∧ (parseMethodDescriptor yX4_init.desc).map (fun d => d.parameters.length) = some 0 := by decide +kernel
theorem dk_X0_init_30 : decode cX0_init 30 = .ok (.invokespecial 17, 3) := by decide +kernel
theorem dk_X0_init_33 : decode cX0_init 33 = .ok (.aastore, 1) := by decide +kernel
theorem dk_X0_init_34 : decode cX0_init 34 = .ok (.iinc 1 1, 3) := by decide +kernel
theorem dk_X0_init_37 : decode cX0_init 37 = .ok (.goto (-22), 3) := by decide +kernel
set_option maxHeartbeats 4000000 in
set_option maxRecDepth 100000 in
theorem lo_X0_init {p : Program} {l : Launch} {e : Env} {R : Room} {s : State} {m : MethodId} {args : Array Value} {below : List Frame} {meth : Method} {c : Code} {Qm : State → Prop} {D : va_G} {cs : pm_Cs} {A : Nat → Prop} (C : cX p s m args c D cs A RX0 cX0_init 2) (hR : 2 ≤ R.frames ∧ 120 ≤ R.locals) (h0 a : Nat) (rest : va_W) (c0 s0 : Nat) (hc : c0 + 28 ≤ R.cells ∧ s0 + 140 ≤ R.slots) (K : ∀ S Lf, cF p l e R s m args below meth c Qm D A 2 ((h0, .inr (0, [.ref a, .int 0])) :: (a, .inl (cs.2.2, 14, .inr (.inr (.inr (.inr (fS S 14)))))) :: (stW cs S Lf 14 ++ rest)) (c0 + 28) (s0 + 140) [(1, .int (nI 14)), (0, .ref h0)] 40 []) : ∀ (m' j : Nat) (S Lf : Nat → Nat), j + m' = 14 → cF p l e R s m args below meth c Qm D A 2 ((h0, .inr (0, [.ref a, .int 0])) :: (a, .inl (cs.2.2, 14, .inr (.inr (.inr (.inr (fS S j)))))) :: (stW cs S Lf j ++ rest)) (c0 + 2 * j) (s0 + 10 * j) [(1, .int (nI j)), (0, .ref h0)] 15 [] := by
  intro m'
  induction m' with
  | zero =>
    intro j S Lf hj
    have : j = 14 := by omega
    subst this
    refine r_iload C dk_X0_init_15 rfl 0 rfl ?_
    refine r_bipush C (v := 14) dk_X0_init_16 (by decide) ?_
    refine r_ge C (tgt := 40) dk_X0_init_18 (by decide) (fun _ => ?_) (fun z => absurd (by decide) z)
    exact K S Lf
  | succ m' ih =>
    intro j S Lf hj
    refine r_iload C dk_X0_init_15 rfl 0 rfl ?_
    refine r_bipush C (v := 14) dk_X0_init_16 (by decide) ?_
    have hz : ¬ (14 : Int32) ≤ nI j := by rw [show (14 : Int32) = nI 14 from rfl, nx_le (by omega) (by omega)]; omega
    refine r_ge C (tgt := 40) dk_X0_init_18 (by decide) (fun z => absurd z hz) (fun _ => ?_)
    refine r_aload C dk_X0_init_21 rfl 1 rfl ?_
    refine r_get C wiX0 (k := 0) rfl (by decide) ck_fl_X0_11 rfl rfl dk_X0_init_22 ?_
    refine r_iload C dk_X0_init_25 rfl 0 rfl ?_
    refine r_new C (ci := 4) (fs := [.null, .int 0, .int 0, .int 0, .int 0]) wiX4 tyX4 tyX4_ok ck_cl_X0_9 ck_in_X4 ck_it_X4 rfl ck_fs_X4 (by omega) (by omega) dk_X0_init_26 (fun q => ?_)
    refine r_dup C dk_X0_init_29 ?_
    refine r_callN C (c_X4_init l D cs q) ck_nm_X0_17 ck_co_X4_init ck_it_X4 ck_im_X4_init rfl ck_dd_X4_init ⟨hR.1, hR.2⟩ (Nat.le_of_ble_eq_true rfl) ⟨by omega, by omega⟩ (rest := [.ref q, .int (nI j), .ref a]) rfl (Nat.le_of_ble_eq_true rfl) dk_X0_init_30 (fun u => ?_)
    refine r_aast C 3 0 rfl rfl (vp_in_nI (by omega) (by omega)) dk_X0_init_33 (ws' := [(q, .inr (4, [.ref (u 0), .int 1, .int 0, .int 1, .int 0])), (u 0, .inl (cs.1, 5, .inl (fun _ => 0)))] ++ ([(h0, .inr (0, [.ref a, .int 0])), (a, .inl (cs.2.2, 14, .inr (.inr (.inr (.inr (va_up (fS S j) (nI j).toNatClampNeg (some q)))))))] ++ (stW cs S Lf j ++ rest))) rfl ?_
    refine r_perm (List.perm_append_comm_assoc _ _ _) ?_
    refine r_eq (ws' := (h0, .inr (0, [.ref a, .int 0])) :: (a, .inl (cs.2.2, 14, .inr (.inr (.inr (.inr (fS (xtd S j q) (j + 1))))))) :: (stW cs (xtd S j q) (xtd Lf j (u 0)) (j + 1) ++ rest)) (by rw [nx_cl (by omega), fS_s, stW_s]; rfl) ?_
    refine r_iinc C (i := 1) (k := 0) (v := nI (j + 1)) (lv' := [(1, .int (nI (j + 1))), (0, .ref h0)]) dk_X0_init_34 rfl (nx_s j) (by decide) rfl ?_
    refine r_goto C (tgt := 15) dk_X0_init_37 (by decide) ?_
    exact r_cnt (by omega) (by omega) (ih (j + 1) (xtd S j q) (xtd Lf j (u 0)) (by omega))
theorem dk_X3_init_21 : decode cX3_init 21 = .ok (.iconst 5, 1) := by decide +kernel
set_option maxRecDepth 20000 in
theorem ck_cl_X3_11 : Cond.classLink RX3 11 RX4 ∈ wAll := wIn 203 rfl rfl
theorem ck_nm_X3_21 : (RX3, 21, yX4_init, "LeafTable") ∈ pm_nM := List.mem_of_getElem? (i := 5) rfl
theorem dk_X3_init_20 : decode cX3_init 20 = .ok (.iload_n 2, 1) := by decide +kernel
theorem dk_X3_init_22 : decode cX3_init 22 = .ok (.if_icmp .gt 22, 3) := by decide +kernel
theorem dk_X3_init_25 : decode cX3_init 25 = .ok (.aload_n 0, 1) := by decide +kernel
set_option maxRecDepth 20000 in
theorem ck_fl_X3_13 : Cond.fieldLink RX3 13 RX3 "trials" "[LLeafTable$Seats;" ∈ wAll := wIn 206 rfl rfl
theorem dk_X3_init_26 : decode cX3_init 26 = .ok (.getfield 13, 3) := by decide +kernel
theorem dk_X3_init_29 : decode cX3_init 29 = .ok (.iload_n 2, 1) := by decide +kernel
theorem dk_X3_init_30 : decode cX3_init 30 = .ok (.new 11, 3) := by decide +kernel
theorem dk_X3_init_33 : decode cX3_init 33 = .ok (.dup, 1) := by decide +kernel
theorem dk_X3_init_34 : decode cX3_init 34 = .ok (.invokespecial 21, 3) := by decide +kernel
theorem dk_X3_init_37 : decode cX3_init 37 = .ok (.aastore, 1) := by decide +kernel
theorem dk_X3_init_38 : decode cX3_init 38 = .ok (.iinc 2 1, 3) := by decide +kernel
theorem dk_X3_init_41 : decode cX3_init 41 = .ok (.goto (-21), 3) := by decide +kernel
set_option maxHeartbeats 4000000 in
set_option maxRecDepth 100000 in
theorem lo_X3_init {p : Program} {l : Launch} {e : Env} {R : Room} {s : State} {m : MethodId} {args : Array Value} {below : List Frame} {meth : Method} {c : Code} {Qm : State → Prop} {D : va_G} {cs : pm_Cs} {A : Nat → Prop} (C : cX p s m args c D cs A RX3 cX3_init 3) (hR : 2 ≤ R.frames ∧ 120 ≤ R.locals) (h0 a t : Nat) (rest : va_W) (c0 s0 : Nat) (hc : c0 + 12 ≤ R.cells ∧ s0 + 60 ≤ R.slots) (K : ∀ S Lf, cF p l e R s m args below meth c Qm D A 3 ((h0, .inr (3, [.ref t, .ref a, .int 0, .int 0, .int 0])) :: (a, .inl (cs.2.2, 6, .inr (.inr (.inr (.inr (fS S 6)))))) :: (stW cs S Lf 6 ++ rest)) (c0 + 12) (s0 + 60) [(2, .int (nI 6)), (0, .ref h0), (1, .ref t)] 44 []) : ∀ (m' j : Nat) (S Lf : Nat → Nat), j + m' = 6 → cF p l e R s m args below meth c Qm D A 3 ((h0, .inr (3, [.ref t, .ref a, .int 0, .int 0, .int 0])) :: (a, .inl (cs.2.2, 6, .inr (.inr (.inr (.inr (fS S j)))))) :: (stW cs S Lf j ++ rest)) (c0 + 2 * j) (s0 + 10 * j) [(2, .int (nI j)), (0, .ref h0), (1, .ref t)] 20 [] := by
  intro m'
  induction m' with
  | zero =>
    intro j S Lf hj
    have : j = 6 := by omega
    subst this
    refine r_iload C dk_X3_init_20 rfl 0 rfl ?_
    refine r_iconst C (v := 5) dk_X3_init_21 (by decide) ?_
    refine r_gt C (tgt := 44) dk_X3_init_22 (by decide) (fun _ => ?_) (fun z => absurd (by decide) z)
    exact K S Lf
  | succ m' ih =>
    intro j S Lf hj
    refine r_iload C dk_X3_init_20 rfl 0 rfl ?_
    refine r_iconst C (v := 5) dk_X3_init_21 (by decide) ?_
    have hz : ¬ (5 : Int32) < nI j := by rw [show (5 : Int32) = nI 5 from rfl, nx_lt (by omega) (by omega)]; omega
    refine r_gt C (tgt := 44) dk_X3_init_22 (by decide) (fun z => absurd z hz) (fun _ => ?_)
    refine r_aload C dk_X3_init_25 rfl 1 rfl ?_
    refine r_get C wiX3 (k := 1) rfl (by decide) ck_fl_X3_13 rfl rfl dk_X3_init_26 ?_
    refine r_iload C dk_X3_init_29 rfl 0 rfl ?_
    refine r_new C (ci := 4) (fs := [.null, .int 0, .int 0, .int 0, .int 0]) wiX4 tyX4 tyX4_ok ck_cl_X3_11 ck_in_X4 ck_it_X4 rfl ck_fs_X4 (by omega) (by omega) dk_X3_init_30 (fun q => ?_)
    refine r_dup C dk_X3_init_33 ?_
    refine r_callN C (c_X4_init l D cs q) ck_nm_X3_21 ck_co_X4_init ck_it_X4 ck_im_X4_init rfl ck_dd_X4_init ⟨hR.1, hR.2⟩ (Nat.le_of_ble_eq_true rfl) ⟨by omega, by omega⟩ (rest := [.ref q, .int (nI j), .ref a]) rfl (Nat.le_of_ble_eq_true rfl) dk_X3_init_34 (fun u => ?_)
    refine r_aast C 3 0 rfl rfl (vp_in_nI (by omega) (by omega)) dk_X3_init_37 (ws' := [(q, .inr (4, [.ref (u 0), .int 1, .int 0, .int 1, .int 0])), (u 0, .inl (cs.1, 5, .inl (fun _ => 0)))] ++ ([(h0, .inr (3, [.ref t, .ref a, .int 0, .int 0, .int 0])), (a, .inl (cs.2.2, 6, .inr (.inr (.inr (.inr (va_up (fS S j) (nI j).toNatClampNeg (some q)))))))] ++ (stW cs S Lf j ++ rest))) rfl ?_
    refine r_perm (List.perm_append_comm_assoc _ _ _) ?_
    refine r_eq (ws' := (h0, .inr (3, [.ref t, .ref a, .int 0, .int 0, .int 0])) :: (a, .inl (cs.2.2, 6, .inr (.inr (.inr (.inr (fS (xtd S j q) (j + 1))))))) :: (stW cs (xtd S j q) (xtd Lf j (u 0)) (j + 1) ++ rest)) (by rw [nx_cl (by omega), fS_s, stW_s]; rfl) ?_
    refine r_iinc C (i := 2) (k := 0) (v := nI (j + 1)) (lv' := [(2, .int (nI (j + 1))), (0, .ref h0), (1, .ref t)]) dk_X3_init_38 rfl (nx_s j) (by decide) rfl ?_
    refine r_goto C (tgt := 20) dk_X3_init_41 (by decide) ?_
    exact r_cnt (by omega) (by omega) (ih (j + 1) (xtd S j q) (xtd Lf j (u 0)) (by omega))
theorem dk_X7_init_59 : decode cX7_init 59 = .ok (.iconst 2, 1) := by decide +kernel
set_option maxRecDepth 20000 in
theorem ck_cl_X7_23 : Cond.classLink RX7 23 RX4 ∈ wAll := wIn 114 rfl rfl
theorem ck_nm_X7_25 : (RX7, 25, yX4_init, "LeafTable") ∈ pm_nM := List.mem_of_getElem? (i := 2) rfl
theorem dk_X7_init_58 : decode cX7_init 58 = .ok (.iload_n 1, 1) := by decide +kernel
theorem dk_X7_init_60 : decode cX7_init 60 = .ok (.if_icmp .ge 22, 3) := by decide +kernel
theorem dk_X7_init_63 : decode cX7_init 63 = .ok (.aload_n 0, 1) := by decide +kernel
set_option maxRecDepth 20000 in
theorem ck_fl_X7_37 : Cond.fieldLink RX7 37 RX7 "kept" "[LLeafTable$Seats;" ∈ wAll := wIn 242 rfl rfl
theorem dk_X7_init_64 : decode cX7_init 64 = .ok (.getfield 37, 3) := by decide +kernel
theorem dk_X7_init_67 : decode cX7_init 67 = .ok (.iload_n 1, 1) := by decide +kernel
theorem dk_X7_init_68 : decode cX7_init 68 = .ok (.new 23, 3) := by decide +kernel
theorem dk_X7_init_71 : decode cX7_init 71 = .ok (.dup, 1) := by decide +kernel
theorem dk_X7_init_72 : decode cX7_init 72 = .ok (.invokespecial 25, 3) := by decide +kernel
theorem dk_X7_init_75 : decode cX7_init 75 = .ok (.aastore, 1) := by decide +kernel
theorem dk_X7_init_76 : decode cX7_init 76 = .ok (.iinc 1 1, 3) := by decide +kernel
theorem dk_X7_init_79 : decode cX7_init 79 = .ok (.goto (-21), 3) := by decide +kernel
set_option maxHeartbeats 4000000 in
set_option maxRecDepth 100000 in
theorem lo_X7_init {p : Program} {l : Launch} {e : Env} {R : Room} {s : State} {m : MethodId} {args : Array Value} {below : List Frame} {meth : Method} {c : Code} {Qm : State → Prop} {D : va_G} {cs : pm_Cs} {A : Nat → Prop} (C : cX p s m args c D cs A RX7 cX7_init 2) (hR : 2 ≤ R.frames ∧ 120 ≤ R.locals) (h0 a f0 f1 f2 f3 : Nat) (rest : va_W) (c0 s0 : Nat) (hc : c0 + 4 ≤ R.cells ∧ s0 + 20 ≤ R.slots) (K : ∀ S Lf, cF p l e R s m args below meth c Qm D A 2 ((h0, .inr (7, [.ref f0, .ref f1, .ref f2, .ref f3, .ref a, .null, .null, .null, .null, .long 0])) :: (a, .inl (cs.2.2, 2, .inr (.inr (.inr (.inr (fS S 2)))))) :: (stW cs S Lf 2 ++ rest)) (c0 + 4) (s0 + 20) [(1, .int (nI 2)), (0, .ref h0)] 82 []) : ∀ (m' j : Nat) (S Lf : Nat → Nat), j + m' = 2 → cF p l e R s m args below meth c Qm D A 2 ((h0, .inr (7, [.ref f0, .ref f1, .ref f2, .ref f3, .ref a, .null, .null, .null, .null, .long 0])) :: (a, .inl (cs.2.2, 2, .inr (.inr (.inr (.inr (fS S j)))))) :: (stW cs S Lf j ++ rest)) (c0 + 2 * j) (s0 + 10 * j) [(1, .int (nI j)), (0, .ref h0)] 58 [] := by
  intro m'
  induction m' with
  | zero =>
    intro j S Lf hj
    have : j = 2 := by omega
    subst this
    refine r_iload C dk_X7_init_58 rfl 0 rfl ?_
    refine r_iconst C (v := 2) dk_X7_init_59 (by decide) ?_
    refine r_ge C (tgt := 82) dk_X7_init_60 (by decide) (fun _ => ?_) (fun z => absurd (by decide) z)
    exact K S Lf
  | succ m' ih =>
    intro j S Lf hj
    refine r_iload C dk_X7_init_58 rfl 0 rfl ?_
    refine r_iconst C (v := 2) dk_X7_init_59 (by decide) ?_
    have hz : ¬ (2 : Int32) ≤ nI j := by rw [show (2 : Int32) = nI 2 from rfl, nx_le (by omega) (by omega)]; omega
    refine r_ge C (tgt := 82) dk_X7_init_60 (by decide) (fun z => absurd z hz) (fun _ => ?_)
    refine r_aload C dk_X7_init_63 rfl 1 rfl ?_
    refine r_get C wiX7 (k := 4) rfl (by decide) ck_fl_X7_37 rfl rfl dk_X7_init_64 ?_
    refine r_iload C dk_X7_init_67 rfl 0 rfl ?_
    refine r_new C (ci := 4) (fs := [.null, .int 0, .int 0, .int 0, .int 0]) wiX4 tyX4 tyX4_ok ck_cl_X7_23 ck_in_X4 ck_it_X4 rfl ck_fs_X4 (by omega) (by omega) dk_X7_init_68 (fun q => ?_)
    refine r_dup C dk_X7_init_71 ?_
    refine r_callN C (c_X4_init l D cs q) ck_nm_X7_25 ck_co_X4_init ck_it_X4 ck_im_X4_init rfl ck_dd_X4_init ⟨hR.1, hR.2⟩ (Nat.le_of_ble_eq_true rfl) ⟨by omega, by omega⟩ (rest := [.ref q, .int (nI j), .ref a]) rfl (Nat.le_of_ble_eq_true rfl) dk_X7_init_72 (fun u => ?_)
    refine r_aast C 3 0 rfl rfl (vp_in_nI (by omega) (by omega)) dk_X7_init_75 (ws' := [(q, .inr (4, [.ref (u 0), .int 1, .int 0, .int 1, .int 0])), (u 0, .inl (cs.1, 5, .inl (fun _ => 0)))] ++ ([(h0, .inr (7, [.ref f0, .ref f1, .ref f2, .ref f3, .ref a, .null, .null, .null, .null, .long 0])), (a, .inl (cs.2.2, 2, .inr (.inr (.inr (.inr (va_up (fS S j) (nI j).toNatClampNeg (some q)))))))] ++ (stW cs S Lf j ++ rest))) rfl ?_
    refine r_perm (List.perm_append_comm_assoc _ _ _) ?_
    refine r_eq (ws' := (h0, .inr (7, [.ref f0, .ref f1, .ref f2, .ref f3, .ref a, .null, .null, .null, .null, .long 0])) :: (a, .inl (cs.2.2, 2, .inr (.inr (.inr (.inr (fS (xtd S j q) (j + 1))))))) :: (stW cs (xtd S j q) (xtd Lf j (u 0)) (j + 1) ++ rest)) (by rw [nx_cl (by omega), fS_s, stW_s]; rfl) ?_
    refine r_iinc C (i := 1) (k := 0) (v := nI (j + 1)) (lv' := [(1, .int (nI (j + 1))), (0, .ref h0)]) dk_X7_init_76 rfl (nx_s j) (by decide) rfl ?_
    refine r_goto C (tgt := 58) dk_X7_init_79 (by decide) ?_
    exact r_cnt (by omega) (by omega) (ih (j + 1) (xtd S j q) (xtd Lf j (u 0)) (by omega))
theorem dk_X0_init_0 : decode cX0_init 0 = .ok (.aload_n 0, 1) := by decide +kernel
set_option maxRecDepth 20000 in
theorem ck_ol_X0 : Cond.methodLink RX0 3 objectInit ∈ wAll := wIn 155 rfl rfl
theorem dk_X0_init_1 : decode cX0_init 1 = .ok (.invokespecial 3, 3) := by decide +kernel
theorem dk_X0_init_4 : decode cX0_init 4 = .ok (.aload_n 0, 1) := by decide +kernel
theorem dk_X0_init_5 : decode cX0_init 5 = .ok (.bipush 14, 2) := by decide +kernel
theorem dk_X0_init_7 : decode cX0_init 7 = .ok (.anewarray 9, 3) := by decide +kernel
theorem dk_X0_init_10 : decode cX0_init 10 = .ok (.putfield 11, 3) := by decide +kernel
theorem dk_X0_init_13 : decode cX0_init 13 = .ok (.iconst 0, 1) := by decide +kernel
theorem dk_X0_init_14 : decode cX0_init 14 = .ok (.istore_n 1, 1) := by decide +kernel
theorem dk_X0_init_40 : decode cX0_init 40 = .ok (.return_, 1) := by decide +kernel
def pw_X0_init (cs : pm_Cs) (h0 : Nat) : (Nat → Nat) → va_W := fun u => (h0, .inr (0, [.ref (u 0), .int 0])) :: (u 0, .inl (cs.2.2, 14, .inr (.inr (.inr (.inr (fS (fun j => u (2 * j + 1)) 14)))))) :: stW cs (fun j => u (2 * j + 1)) (fun j => u (2 * j + 2)) 14
set_option maxHeartbeats 4000000 in
set_option maxRecDepth 100000 in
theorem c_X0_init (l : Launch) (D : va_G) (cs : pm_Cs) (h0 : Nat) : cMet l yX0_init cX0_init 2 D cs [] h0 (.inr (0, [.null, .int 0])) (pw_X0_init cs h0) 29 154 2 := by
  refine cMet_of (by decide +kernel) (Nat.le_of_ble_eq_true rfl) (fun p e s m args below meth c C hr hlocks hm => ?_)
  refine r_aload C dk_X0_init_0 rfl 0 rfl ?_
  refine r_obj C ck_ol_X0 ck_oi ck_oc dk_X0_init_1 ⟨(Nat.le_of_ble_eq_true rfl), (Nat.le_of_ble_eq_true rfl)⟩ ?_
  refine r_aload C dk_X0_init_4 rfl 0 rfl ?_
  refine r_bipush C (v := 14) dk_X0_init_5 (by decide) ?_
  refine r_newS C (N := 14) ck_cl_X0_9 (by decide) (by decide) (by decide) (Nat.le_of_ble_eq_true rfl) (Nat.le_of_ble_eq_true rfl) dk_X0_init_7 (fun q1 => ?_)
  refine r_perm (List.Perm.swap _ _ _) ?_
  refine r_putF C hm wiX0 tyX0 tyX0_ok nmX0 (k := 0) (fs' := [.ref q1, .int 0]) rfl (by decide) ck_fl_X0_11 rfl rfl (tyX0_ok 0 (by decide)) rfl rfl (Nat.le_of_ble_eq_true rfl) dk_X0_init_10 rfl ?_
  refine r_iconst C (v := 0) dk_X0_init_13 (by decide) ?_
  refine r_istore C (lv' := [(1, .int 0), (0, .ref h0)]) dk_X0_init_14 rfl (by decide) rfl ?_
  refine r_eq (ws' := (h0, .inr (0, [.ref q1, .int 0])) :: (q1, .inl (cs.2.2, 14, .inr (.inr (.inr (.inr (fS (fun _ => 0) 0)))))) :: (stW cs (fun _ => 0) (fun _ => 0) 0 ++ [])) (by rw [fS_0]; rfl) ?_
  refine lo_X0_init C ⟨(Nat.le_of_ble_eq_true rfl), (Nat.le_of_ble_eq_true rfl)⟩ h0 q1 [] 1 14 ⟨(Nat.le_of_ble_eq_true rfl), (Nat.le_of_ble_eq_true rfl)⟩ (fun S Lf => ?_) 14 0 (fun _ => 0) (fun _ => 0) rfl
  refine r_ret C hr hlocks (uC q1 S Lf) (by unfold pw_X0_init; rw [uC_1, uC_2, List.append_nil]; exact List.Perm.refl _) rfl rfl dk_X0_init_40
theorem dk_X3_init_0 : decode cX3_init 0 = .ok (.aload_n 0, 1) := by decide +kernel
set_option maxRecDepth 20000 in
theorem ck_ol_X3 : Cond.methodLink RX3 3 objectInit ∈ wAll := wIn 202 rfl rfl
theorem dk_X3_init_1 : decode cX3_init 1 = .ok (.invokespecial 3, 3) := by decide +kernel
theorem dk_X3_init_4 : decode cX3_init 4 = .ok (.aload_n 0, 1) := by decide +kernel
theorem dk_X3_init_5 : decode cX3_init 5 = .ok (.bipush 6, 2) := by decide +kernel
theorem dk_X3_init_7 : decode cX3_init 7 = .ok (.anewarray 11, 3) := by decide +kernel
theorem dk_X3_init_10 : decode cX3_init 10 = .ok (.putfield 13, 3) := by decide +kernel
theorem dk_X3_init_13 : decode cX3_init 13 = .ok (.aload_n 0, 1) := by decide +kernel
theorem dk_X3_init_14 : decode cX3_init 14 = .ok (.aload_n 1, 1) := by decide +kernel
set_option maxRecDepth 20000 in
theorem ck_fl_X3_17 : Cond.fieldLink RX3 17 RX3 "table" "LLeafTable$Table;" ∈ wAll := wIn 205 rfl rfl
theorem dk_X3_init_15 : decode cX3_init 15 = .ok (.putfield 17, 3) := by decide +kernel
theorem dk_X3_init_18 : decode cX3_init 18 = .ok (.iconst 0, 1) := by decide +kernel
theorem dk_X3_init_19 : decode cX3_init 19 = .ok (.istore_n 2, 1) := by decide +kernel
theorem dk_X3_init_44 : decode cX3_init 44 = .ok (.return_, 1) := by decide +kernel
def pw_X3_init (cs : pm_Cs) (h0 : Nat) (t : Nat) : (Nat → Nat) → va_W := fun u => (h0, .inr (3, [.ref t, .ref (u 0), .int 0, .int 0, .int 0])) :: (u 0, .inl (cs.2.2, 6, .inr (.inr (.inr (.inr (fS (fun j => u (2 * j + 1)) 6)))))) :: stW cs (fun j => u (2 * j + 1)) (fun j => u (2 * j + 2)) 6
set_option maxHeartbeats 4000000 in
set_option maxRecDepth 100000 in
theorem c_X3_init (l : Launch) (D : va_G) (cs : pm_Cs) (h0 : Nat) (t : Nat) : cMet l yX3_init cX3_init 3 D cs [.ref t] h0 (.inr (3, [.null, .null, .int 0, .int 0, .int 0])) (pw_X3_init cs h0 t) 13 66 2 := by
  refine cMet_of (by decide +kernel) (Nat.le_of_ble_eq_true rfl) (fun p e s m args below meth c C hr hlocks hm => ?_)
  refine r_aload C dk_X3_init_0 rfl 0 rfl ?_
  refine r_obj C ck_ol_X3 ck_oi ck_oc dk_X3_init_1 ⟨(Nat.le_of_ble_eq_true rfl), (Nat.le_of_ble_eq_true rfl)⟩ ?_
  refine r_aload C dk_X3_init_4 rfl 0 rfl ?_
  refine r_bipush C (v := 6) dk_X3_init_5 (by decide) ?_
  refine r_newS C (N := 6) ck_cl_X3_11 (by decide) (by decide) (by decide) (Nat.le_of_ble_eq_true rfl) (Nat.le_of_ble_eq_true rfl) dk_X3_init_7 (fun q1 => ?_)
  refine r_perm (List.Perm.swap _ _ _) ?_
  refine r_putF C hm wiX3 tyX3 tyX3_ok nmX3 (k := 1) (fs' := [.null, .ref q1, .int 0, .int 0, .int 0]) rfl (by decide) ck_fl_X3_13 rfl rfl (tyX3_ok 1 (by decide)) rfl rfl (Nat.le_of_ble_eq_true rfl) dk_X3_init_10 rfl ?_
  refine r_aload C dk_X3_init_13 rfl 0 rfl ?_
  refine r_aload C dk_X3_init_14 rfl 1 rfl ?_
  refine r_putF C hm wiX3 tyX3 tyX3_ok nmX3 (k := 0) (fs' := [.ref t, .ref q1, .int 0, .int 0, .int 0]) rfl (by decide) ck_fl_X3_17 rfl rfl (tyX3_ok 0 (by decide)) rfl rfl (Nat.le_of_ble_eq_true rfl) dk_X3_init_15 rfl ?_
  refine r_iconst C (v := 0) dk_X3_init_18 (by decide) ?_
  refine r_istore C (lv' := [(2, .int 0), (0, .ref h0), (1, .ref t)]) dk_X3_init_19 rfl (by decide) rfl ?_
  refine r_eq (ws' := (h0, .inr (3, [.ref t, .ref q1, .int 0, .int 0, .int 0])) :: (q1, .inl (cs.2.2, 6, .inr (.inr (.inr (.inr (fS (fun _ => 0) 0)))))) :: (stW cs (fun _ => 0) (fun _ => 0) 0 ++ [])) (by rw [fS_0]; rfl) ?_
  refine lo_X3_init C ⟨(Nat.le_of_ble_eq_true rfl), (Nat.le_of_ble_eq_true rfl)⟩ h0 q1 t [] 1 6 ⟨(Nat.le_of_ble_eq_true rfl), (Nat.le_of_ble_eq_true rfl)⟩ (fun S Lf => ?_) 6 0 (fun _ => 0) (fun _ => 0) rfl
  refine r_ret C hr hlocks (uC q1 S Lf) (by unfold pw_X3_init; rw [uC_1, uC_2, List.append_nil]; exact List.Perm.refl _) rfl rfl dk_X3_init_44
