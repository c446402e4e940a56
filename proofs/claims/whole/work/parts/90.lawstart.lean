/-! ===== the law: its start ===== -/
set_option maxRecDepth 20000 in
theorem ck_cl_L_7 : Cond.classLink RL 7 RX7 ∈ wAll := wIn 56 rfl rfl
set_option maxRecDepth 20000 in
theorem ck_in_X7 : Cond.instantiable RX7 10 ∈ wAll := wIn 57 rfl rfl
set_option maxRecDepth 20000 in
theorem ck_it_X7 : Cond.initialized RX7 ∈ wAll := wIn 45 rfl rfl
theorem ck_fs_X7 : ∀ j, j < 10 → defaultValue (tyX7 j) = vp_V [.null, .null, .null, .null, .null, .null, .null, .null, .null, .long 0] j
  | 0, _ => rfl
  | 1, _ => rfl
  | 2, _ => rfl
  | 3, _ => rfl
  | 4, _ => rfl
  | 5, _ => rfl
  | 6, _ => rfl
  | 7, _ => rfl
  | 8, _ => rfl
  | 9, _ => rfl
  | j + 10, h => absurd h (by omega)
theorem dk_L_law_0 : decode code 0 = .ok (.new 7, 3) := by decide +kernel
theorem dk_L_law_3 : decode code 3 = .ok (.dup, 1) := by decide +kernel
set_option maxRecDepth 20000 in
theorem ck_ml_L_9 : Cond.methodLink RL 9 yX7_init ∈ wAll := wIn 58 rfl rfl
set_option maxRecDepth 20000 in
theorem ck_co_X7_init : Cond.code yX7_init cX7_init 2 none ∈ wAll := wIn 60 rfl rfl
set_option maxRecDepth 20000 in
theorem ck_im_X7_init : Cond.instanceMethod yX7_init ∈ wAll := wIn 59 rfl rfl
theorem ck_dd_X7_init : yX7_init.cls ≠ "java/lang/invoke/MethodHandle" ∧ yX7_init.cls ≠ "java/lang/invoke/VarHandle" ∧ (parseMethodDescriptor yX7_init.desc).map (fun d => d.parameters.length) = some 0 := by decide +kernel
theorem dk_L_law_4 : decode code 4 = .ok (.invokespecial 9, 3) := by decide +kernel
theorem dk_L_law_7 : decode code 7 = .ok (.astore_n 1, 1) := by decide +kernel
set_option maxRecDepth 20000 in
theorem ck_cl_L_10 : Cond.classLink RL 10 RX8 ∈ wAll := wIn 661 rfl rfl
set_option maxRecDepth 20000 in
theorem ck_in_X8 : Cond.instantiable RX8 31 ∈ wAll := wIn 662 rfl rfl
set_option maxRecDepth 20000 in
theorem ck_it_X8 : Cond.initialized RX8 ∈ wAll := wIn 53 rfl rfl
theorem ck_fs_X8 : ∀ j, j < 31 → defaultValue (tyX8 j) = vp_V [.int 0, .int 0, .int 0, .null, .null, .null, .null, .int 0, .int 0, .int 0, .int 0, .null, .null, .null, .null, .null, .int 0, .int 0, .int 0, .int 0, .int 0, .null, .int 0, .null, .int 0, .null, .null, .null, .long 0, .null, .null] j
  | 0, _ => rfl
  | 1, _ => rfl
  | 2, _ => rfl
  | 3, _ => rfl
  | 4, _ => rfl
  | 5, _ => rfl
  | 6, _ => rfl
  | 7, _ => rfl
  | 8, _ => rfl
  | 9, _ => rfl
  | 10, _ => rfl
  | 11, _ => rfl
  | 12, _ => rfl
  | 13, _ => rfl
  | 14, _ => rfl
  | 15, _ => rfl
  | 16, _ => rfl
  | 17, _ => rfl
  | 18, _ => rfl
  | 19, _ => rfl
  | 20, _ => rfl
  | 21, _ => rfl
  | 22, _ => rfl
  | 23, _ => rfl
  | 24, _ => rfl
  | 25, _ => rfl
  | 26, _ => rfl
  | 27, _ => rfl
  | 28, _ => rfl
  | 29, _ => rfl
  | 30, _ => rfl
  | j + 31, h => absurd h (by omega)
theorem dk_L_law_8 : decode code 8 = .ok (.new 10, 3) := by decide +kernel
theorem dk_L_law_11 : decode code 11 = .ok (.dup, 1) := by decide +kernel
set_option maxRecDepth 20000 in
theorem ck_ml_L_12 : Cond.methodLink RL 12 yX8_init ∈ wAll := wIn 663 rfl rfl
set_option maxRecDepth 20000 in
theorem ck_co_X8_init : Cond.code yX8_init cX8_init 1 none ∈ wAll := wIn 665 rfl rfl
set_option maxRecDepth 20000 in
theorem ck_im_X8_init : Cond.instanceMethod yX8_init ∈ wAll := wIn 664 rfl rfl
theorem ck_dd_X8_init : yX8_init.cls ≠ "java/lang/invoke/MethodHandle" ∧ yX8_init.cls ≠ "java/lang/invoke/VarHandle" ∧ (parseMethodDescriptor yX8_init.desc).map (fun d => d.parameters.length) = some 0 := by decide +kernel
theorem dk_L_law_12 : decode code 12 = .ok (.invokespecial 12, 3) := by decide +kernel
theorem dk_L_law_15 : decode code 15 = .ok (.astore_n 2, 1) := by decide +kernel
set_option maxRecDepth 20000 in
theorem sta_GROWTH {args : Array Value} {s : State} (hts : ∀ w ∈ lw_tbl, w.before args s = true) (hgv : (Jvm.Cond.and given_1 narrow_1).before args s = true) : ∃ t : Nat, va_Z "LeafTable" "GROWTH" "[I" (.ref t) (pm_A s.heap.size) s s.heap ∧ va_T .int t 4 (fun n => .int (pm_st 36 n)) (pm_A s.heap.size) s s.heap := by
  have hs := flat_of_before _ hgv
  have hA : ∀ a : Nat, a < s.heap.size → ¬ pm_A s.heap.size a := fun a h => Nat.not_le.mpr h
  have harr : (Cond.arrayOf (.static "LeafTable" "GROWTH" "[I") .int).before args s = true := hs _ (by decide +kernel)
  have hlen : (Term.length (.static "LeafTable" "GROWTH" "[I")).eval args s none [] s = some (.int 4) := va_eqt (hs _ (by decide +kernel))
  have e0 : (Term.elem (.static "LeafTable" "GROWTH" "[I") (.int 0)).eval args s none [] s = some (.int (1)) := va_eqt (hs _ (by decide +kernel))
  have e1 : (Term.elem (.static "LeafTable" "GROWTH" "[I") (.int 1)).eval args s none [] s = some (.int (-1)) := va_eqt (hs _ (by decide +kernel))
  have e2 : (Term.elem (.static "LeafTable" "GROWTH" "[I") (.int 2)).eval args s none [] s = some (.int (2)) := va_eqt (hs _ (by decide +kernel))
  have e3 : (Term.elem (.static "LeafTable" "GROWTH" "[I") (.int 3)).eval args s none [] s = some (.int (0)) := va_eqt (hs _ (by decide +kernel))
  obtain ⟨t, ht, hT⟩ := va_Tof (N := 4) (f := fun n => .int (pm_st 36 n)) (by decide) harr hlen (fun j hj => match j, hj with
    | 0, _ => e0
    | 1, _ => e1
    | 2, _ => e2
    | 3, _ => e3
    | j + 4, h => absurd h (by omega)) hA
  exact ⟨t, va_Zref (hts _ (List.mem_of_getElem? (i := 377) rfl)) (hts (.initialized "LeafTable") (List.mem_of_getElem? (i := 45) rfl)) ht hA, hT⟩
set_option maxRecDepth 20000 in
theorem sta_TENS {args : Array Value} {s : State} (hts : ∀ w ∈ lw_tbl, w.before args s = true) (hgv : (Jvm.Cond.and given_1 narrow_1).before args s = true) : ∃ t : Nat, va_Z "LeafTable" "TENS" "[I" (.ref t) (pm_A s.heap.size) s s.heap ∧ va_T .int t 7 (fun n => .int (pm_st 37 n)) (pm_A s.heap.size) s s.heap := by
  have hs := flat_of_before _ hgv
  have hA : ∀ a : Nat, a < s.heap.size → ¬ pm_A s.heap.size a := fun a h => Nat.not_le.mpr h
  have harr : (Cond.arrayOf (.static "LeafTable" "TENS" "[I") .int).before args s = true := hs _ (by decide +kernel)
  have hlen : (Term.length (.static "LeafTable" "TENS" "[I")).eval args s none [] s = some (.int 7) := va_eqt (hs _ (by decide +kernel))
  have e0 : (Term.elem (.static "LeafTable" "TENS" "[I") (.int 0)).eval args s none [] s = some (.int (1)) := va_eqt (hs _ (by decide +kernel))
  have e1 : (Term.elem (.static "LeafTable" "TENS" "[I") (.int 1)).eval args s none [] s = some (.int (10)) := va_eqt (hs _ (by decide +kernel))
  have e2 : (Term.elem (.static "LeafTable" "TENS" "[I") (.int 2)).eval args s none [] s = some (.int (100)) := va_eqt (hs _ (by decide +kernel))
  have e3 : (Term.elem (.static "LeafTable" "TENS" "[I") (.int 3)).eval args s none [] s = some (.int (1000)) := va_eqt (hs _ (by decide +kernel))
  have e4 : (Term.elem (.static "LeafTable" "TENS" "[I") (.int 4)).eval args s none [] s = some (.int (10000)) := va_eqt (hs _ (by decide +kernel))
  have e5 : (Term.elem (.static "LeafTable" "TENS" "[I") (.int 5)).eval args s none [] s = some (.int (100000)) := va_eqt (hs _ (by decide +kernel))
  have e6 : (Term.elem (.static "LeafTable" "TENS" "[I") (.int 6)).eval args s none [] s = some (.int (1000000)) := va_eqt (hs _ (by decide +kernel))
  obtain ⟨t, ht, hT⟩ := va_Tof (N := 7) (f := fun n => .int (pm_st 37 n)) (by decide) harr hlen (fun j hj => match j, hj with
    | 0, _ => e0
    | 1, _ => e1
    | 2, _ => e2
    | 3, _ => e3
    | 4, _ => e4
    | 5, _ => e5
    | 6, _ => e6
    | j + 7, h => absurd h (by omega)) hA
  exact ⟨t, va_Zref (hts _ (List.mem_of_getElem? (i := 493) rfl)) (hts (.initialized "LeafTable") (List.mem_of_getElem? (i := 45) rfl)) ht hA, hT⟩
set_option maxRecDepth 20000 in
theorem sta_FACTORIALS {args : Array Value} {s : State} (hts : ∀ w ∈ lw_tbl, w.before args s = true) (hgv : (Jvm.Cond.and given_1 narrow_1).before args s = true) : ∃ t : Nat, va_Z "LeafTable" "FACTORIALS" "[I" (.ref t) (pm_A s.heap.size) s s.heap ∧ va_T .int t 6 (fun n => .int (pm_st 38 n)) (pm_A s.heap.size) s s.heap := by
  have hs := flat_of_before _ hgv
  have hA : ∀ a : Nat, a < s.heap.size → ¬ pm_A s.heap.size a := fun a h => Nat.not_le.mpr h
  have harr : (Cond.arrayOf (.static "LeafTable" "FACTORIALS" "[I") .int).before args s = true := hs _ (by decide +kernel)
  have hlen : (Term.length (.static "LeafTable" "FACTORIALS" "[I")).eval args s none [] s = some (.int 6) := va_eqt (hs _ (by decide +kernel))
  have e0 : (Term.elem (.static "LeafTable" "FACTORIALS" "[I") (.int 0)).eval args s none [] s = some (.int (1)) := va_eqt (hs _ (by decide +kernel))
  have e1 : (Term.elem (.static "LeafTable" "FACTORIALS" "[I") (.int 1)).eval args s none [] s = some (.int (1)) := va_eqt (hs _ (by decide +kernel))
  have e2 : (Term.elem (.static "LeafTable" "FACTORIALS" "[I") (.int 2)).eval args s none [] s = some (.int (2)) := va_eqt (hs _ (by decide +kernel))
  have e3 : (Term.elem (.static "LeafTable" "FACTORIALS" "[I") (.int 3)).eval args s none [] s = some (.int (6)) := va_eqt (hs _ (by decide +kernel))
  have e4 : (Term.elem (.static "LeafTable" "FACTORIALS" "[I") (.int 4)).eval args s none [] s = some (.int (24)) := va_eqt (hs _ (by decide +kernel))
  have e5 : (Term.elem (.static "LeafTable" "FACTORIALS" "[I") (.int 5)).eval args s none [] s = some (.int (120)) := va_eqt (hs _ (by decide +kernel))
  obtain ⟨t, ht, hT⟩ := va_Tof (N := 6) (f := fun n => .int (pm_st 38 n)) (by decide) harr hlen (fun j hj => match j, hj with
    | 0, _ => e0
    | 1, _ => e1
    | 2, _ => e2
    | 3, _ => e3
    | 4, _ => e4
    | 5, _ => e5
    | j + 6, h => absurd h (by omega)) hA
  exact ⟨t, va_Zref (hts _ (List.mem_of_getElem? (i := 541) rfl)) (hts (.initialized "LeafTable") (List.mem_of_getElem? (i := 45) rfl)) ht hA, hT⟩
set_option maxRecDepth 20000 in
theorem nF_in : ∀ q ∈ pm_nF, Cond.fieldLinkNest q.1 q.2.1 q.2.2.1 q.2.2.2.1 q.2.2.2.2.1 q.2.2.2.2.2 ∈ lw_tbl := List.forall_mem_cons.mpr ⟨List.mem_of_getElem? (i := 72) rfl, List.forall_mem_cons.mpr ⟨List.mem_of_getElem? (i := 86) rfl, List.forall_mem_cons.mpr ⟨List.mem_of_getElem? (i := 88) rfl, List.forall_mem_cons.mpr ⟨List.mem_of_getElem? (i := 90) rfl, List.forall_mem_cons.mpr ⟨List.mem_of_getElem? (i := 92) rfl, List.forall_mem_cons.mpr ⟨List.mem_of_getElem? (i := 93) rfl, List.forall_mem_cons.mpr ⟨List.mem_of_getElem? (i := 94) rfl, List.forall_mem_cons.mpr ⟨List.mem_of_getElem? (i := 95) rfl, List.forall_mem_cons.mpr ⟨List.mem_of_getElem? (i := 97) rfl, List.forall_mem_cons.mpr ⟨List.mem_of_getElem? (i := 98) rfl, List.forall_mem_cons.mpr ⟨List.mem_of_getElem? (i := 100) rfl, List.forall_mem_cons.mpr ⟨List.mem_of_getElem? (i := 121) rfl, List.forall_mem_cons.mpr ⟨List.mem_of_getElem? (i := 122) rfl, List.forall_mem_cons.mpr ⟨List.mem_of_getElem? (i := 124) rfl, List.forall_mem_cons.mpr ⟨List.mem_of_getElem? (i := 125) rfl, List.forall_mem_cons.mpr ⟨List.mem_of_getElem? (i := 126) rfl, List.forall_mem_cons.mpr ⟨List.mem_of_getElem? (i := 127) rfl, List.forall_mem_cons.mpr ⟨List.mem_of_getElem? (i := 129) rfl, List.forall_mem_cons.mpr ⟨List.mem_of_getElem? (i := 130) rfl, List.forall_mem_cons.mpr ⟨List.mem_of_getElem? (i := 132) rfl, List.forall_mem_cons.mpr ⟨List.mem_of_getElem? (i := 133) rfl, List.forall_mem_cons.mpr ⟨List.mem_of_getElem? (i := 134) rfl, List.forall_mem_cons.mpr ⟨List.mem_of_getElem? (i := 136) rfl, List.forall_mem_cons.mpr ⟨List.mem_of_getElem? (i := 137) rfl, List.forall_mem_cons.mpr ⟨List.mem_of_getElem? (i := 138) rfl, List.forall_mem_cons.mpr ⟨List.mem_of_getElem? (i := 161) rfl, List.forall_mem_cons.mpr ⟨List.mem_of_getElem? (i := 176) rfl, List.forall_mem_cons.mpr ⟨List.mem_of_getElem? (i := 178) rfl, List.forall_mem_cons.mpr ⟨List.mem_of_getElem? (i := 180) rfl, List.forall_mem_cons.mpr ⟨List.mem_of_getElem? (i := 182) rfl, List.forall_mem_cons.mpr ⟨List.mem_of_getElem? (i := 208) rfl, List.forall_mem_cons.mpr ⟨List.mem_of_getElem? (i := 209) rfl, List.forall_mem_cons.mpr ⟨List.mem_of_getElem? (i := 211) rfl, List.forall_mem_cons.mpr ⟨List.mem_of_getElem? (i := 213) rfl, List.forall_mem_cons.mpr ⟨List.mem_of_getElem? (i := 376) rfl, List.forall_mem_cons.mpr ⟨List.mem_of_getElem? (i := 540) rfl, List.forall_mem_cons.mpr ⟨List.mem_of_getElem? (i := 595) rfl, List.forall_mem_cons.mpr ⟨List.mem_of_getElem? (i := 634) rfl, fun _ h => absurd h List.not_mem_nil⟩⟩⟩⟩⟩⟩⟩⟩⟩⟩⟩⟩⟩⟩⟩⟩⟩⟩⟩⟩⟩⟩⟩⟩⟩⟩⟩⟩⟩⟩⟩⟩⟩⟩⟩⟩⟩⟩
set_option maxRecDepth 20000 in
theorem nM_in : ∀ q ∈ pm_nM, Cond.methodLinkNest q.1 q.2.1 q.2.2.1 q.2.2.2 ∈ lw_tbl := List.forall_mem_cons.mpr ⟨List.mem_of_getElem? (i := 66) rfl, List.forall_mem_cons.mpr ⟨List.mem_of_getElem? (i := 81) rfl, List.forall_mem_cons.mpr ⟨List.mem_of_getElem? (i := 116) rfl, List.forall_mem_cons.mpr ⟨List.mem_of_getElem? (i := 158) rfl, List.forall_mem_cons.mpr ⟨List.mem_of_getElem? (i := 169) rfl, List.forall_mem_cons.mpr ⟨List.mem_of_getElem? (i := 204) rfl, List.forall_mem_cons.mpr ⟨List.mem_of_getElem? (i := 509) rfl, List.forall_mem_cons.mpr ⟨List.mem_of_getElem? (i := 600) rfl, fun _ h => absurd h List.not_mem_nil⟩⟩⟩⟩⟩⟩⟩⟩
set_option maxHeartbeats 4000000 in
set_option maxRecDepth 20000 in
theorem law_env {args : Array Value} {s : State} (hts : ∀ w ∈ lw_tbl, w.before args s = true) : ∃ (D : va_G) (cs : pm_Cs), va_K D vwCl (pm_tys cs) s ∧ va_AO "LeafTable$Seats" s := by
  obtain ⟨c0, i0, k0⟩ := u_known (C := RX0) (T := TX0) (N := 2) (n := 2) hts (fun w h => wAll_tbl w (wiX0 w h)) (hts (.instantiable RX0 2) (List.mem_of_getElem? (i := 151) rfl))
  obtain ⟨c1, i1, k1⟩ := u_known (C := RX1) (T := TX1) (N := 2) (n := 2) hts (fun w h => wAll_tbl w (wiX1 w h)) (hts (.instantiable RX1 2) (List.mem_of_getElem? (i := 226) rfl))
  obtain ⟨c2, i2, k2⟩ := u_known (C := RX2) (T := TX2) (N := 6) (n := 6) hts (fun w h => wAll_tbl w (wiX2 w h)) (hts (.instantiable RX2 6) (List.mem_of_getElem? (i := 168) rfl))
  obtain ⟨c3, i3, k3⟩ := u_known (C := RX3) (T := TX3) (N := 5) (n := 5) hts (fun w h => wAll_tbl w (wiX3 w h)) (hts (.instantiable RX3 5) (List.mem_of_getElem? (i := 198) rfl))
  obtain ⟨c4, i4, k4⟩ := u_known (C := RX4) (T := TX4) (N := 5) (n := 5) hts (fun w h => wAll_tbl w (wiX4 w h)) (hts (.instantiable RX4 5) (List.mem_of_getElem? (i := 115) rfl))
  obtain ⟨c5, i5, k5⟩ := u_known (C := RX5) (T := TX5) (N := 6) (n := 6) hts (fun w h => wAll_tbl w (wiX5 w h)) (hts (.instantiable RX5 6) (List.mem_of_getElem? (i := 80) rfl))
  obtain ⟨c6, i6, k6⟩ := u_known (C := RX6) (T := TX6) (N := 2) (n := 2) hts (fun w h => wAll_tbl w (wiX6 w h)) (hts (.instantiable RX6 2) (List.mem_of_getElem? (i := 65) rfl))
  obtain ⟨c7, i7, k7⟩ := u_known (C := RX7) (T := TX7) (N := 10) (n := 10) hts (fun w h => wAll_tbl w (wiX7 w h)) (hts (.instantiable RX7 10) (List.mem_of_getElem? (i := 57) rfl))
  obtain ⟨c8, i8, k8⟩ := u_known (C := RX8) (T := TX8) (N := 31) (n := 31) hts (fun w h => wAll_tbl w (wiX8 w h)) (hts (.instantiable RX8 31) (List.mem_of_getElem? (i := 662) rfl))
  have hAO : va_AO "LeafTable$Seats" s := va_AO.of (hts (.arrayOver (.object "LeafTable$Seats")) (List.mem_of_getElem? (i := 157) rfl))
  obtain ⟨a0, b0, d0, f0, g0, h0⟩ := Cond.arrayClass_spec (hts (.arrayClass .int) (List.mem_of_getElem? (i := 78) rfl))
  obtain ⟨a1, b1, d1, f1, g1, h1⟩ := Cond.arrayClass_spec (hts (.arrayClass .boolean) (List.mem_of_getElem? (i := 196) rfl))
  obtain ⟨d2, a2, b2, e2, _, g2, h2, f2⟩ := Cond.arrayOver_spec hAO
  refine ⟨(fun k => pm_nth c0 [c0, c1, c2, c3, c4, c5, c6, c7, c8] k, fun k => pm_nth i0 [i0, i1, i2, i3, i4, i5, i6, i7, i8] k), (a0, a1, a2), ⟨fun k q hq => ?_, fun k q hq => ?_⟩, hAO⟩
  · match k, hq with
    | 0, hq => cases hq; exact k0
    | 1, hq => cases hq; exact k1
    | 2, hq => cases hq; exact k2
    | 3, hq => cases hq; exact k3
    | 4, hq => cases hq; exact k4
    | 5, hq => cases hq; exact k5
    | 6, hq => cases hq; exact k6
    | 7, hq => cases hq; exact k7
    | 8, hq => cases hq; exact k8
    | k + 9, hq => exact absurd (List.getElem?_eq_some_iff.mp hq).1 (by simp [vwCl])
  · match k, hq with
    | 0, hq => cases hq; exact ⟨fun n z => ⟨fun k h => (by cases h), b0, g0, d0, h0⟩, f0⟩
    | 1, hq => cases hq; exact ⟨fun n z => ⟨fun k h => (by cases h), b1, g1, d1, h1⟩, f1⟩
    | 2, hq => cases hq; exact ⟨fun n z => ⟨fun k h => (by cases h), b2, g2, d2, h2⟩, b2, d2, g2, h2, e2, f2⟩
    | k + 3, hq => exact absurd (List.getElem?_eq_some_iff.mp hq).1 (by simp [pm_tys])
