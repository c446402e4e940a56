def f_X0_forgetFirst_L7 (F : Nat) : Nat → pm_W → Nat → Int32 → Option (Int32 × pm_W)
  | 0, _, _, _ => none
  | n + 1, w, v1, v2 => (if 14 ≤ v2 then some (v2, w) else (if pm_inb v2 14 = true then (if pm_inb (v2 - 1) 14 = true then (pm_wlet (pm_setB w ((v2 - 1).toNatClampNeg) (w.2.2 v2.toNatClampNeg)) fun w4 => f_X0_forgetFirst_L7 F n w4 v1 (v2 + 1)) else none) else none))
def f_X0_forgetFirst (F : Nat) (w : pm_W) : Option (pm_W) := ((f_X0_forgetFirst_L7 F F w (w.2.2 0) 1).bind fun x5 => (pm_wlet (pm_setB x5.2 13 (w.2.2 0)) fun w7 => (pm_wlet (pm_setI w7 9 0 1 13) fun w8 => some w8)))
set_option maxRecDepth 20000 in
set_option maxHeartbeats 4000000 in
theorem a_X0_forgetFirst_L7 (F : Nat) (d : Nat) (hd : 0 ≤ d) (Q : pm_Q) : ∀ (n : Nat) (w : pm_W) (v1 : Nat) (v2 : Int32) (x : Int32 × pm_W), f_X0_forgetFirst_L7 F n w v1 v2 = some x → pm_Gx (RT d) co_X0_forgetFirst 22 [some (.inr (.inr (9, 0))), some (.inr (.inr (7, v1))), some (.inl x.1)] [] x.2 Q → pm_Gx (RT d) co_X0_forgetFirst 7 [some (.inr (.inr (9, 0))), some (.inr (.inr (7, v1))), some (.inl v2)] [] w Q := by
  intro n
  induction n with
  | zero =>
    intro w v1 v2 x hf
    cases hf
  | succ n ih =>
    intro w v1 v2 x hf hk
    rw [f_X0_forgetFirst_L7] at hf
    refine pm_go (i2 := 9) (ls2 := [some (.inr (.inr (9, 0))), some (.inr (.inr (7, v1))), some (.inl v2)]) (st2 := [.inl 14, .inl v2]) (w2 := w) 2 (fun F h => h) ?_
    refine pm_if (P := 14 ≤ v2) (i2 := 22) (i3 := 10) (ls2 := [some (.inr (.inr (9, 0))), some (.inr (.inr (7, v1))), some (.inl v2)]) (st2 := []) (w2 := w) 1 (fun F h => h) (fun hc1 => ?_) (fun hc1 => ?_)
    · rw [if_pos hc1] at hf
      obtain rfl := Option.some.inj hf
      exact hk
    · rw [if_neg hc1] at hf
      obtain ⟨hs2, hf⟩ := pm_itn hf
      obtain ⟨hs3, hf⟩ := pm_itn hf
      refine pm_go (i2 := 20) (ls2 := [some (.inr (.inr (9, 0))), some (.inr (.inr (7, v1))), some (.inl v2)]) (st2 := []) (w2 := (pm_setB w ((v2 - 1).toNatClampNeg) (w.2.2 v2.toNatClampNeg))) 10 (fun F h => ⟨(pm_inb_in hs2), (pm_inb_in hs3), h⟩) ?_
      generalize (pm_setB w ((v2 - 1).toNatClampNeg) (w.2.2 v2.toNatClampNeg)) = w4 at hf ⊢
      replace hf := pm_wlet_un hf
      refine pm_go (i2 := 7) (ls2 := [some (.inr (.inr (9, 0))), some (.inr (.inr (7, v1))), some (.inl (v2 + 1))]) (st2 := []) (w2 := w4) 2 (fun F h => h) ?_
      exact ih w4 v1 (v2 + 1) _ hf hk
set_option maxRecDepth 20000 in
set_option maxHeartbeats 4000000 in
theorem b_X0_forgetFirst (F : Nat) (d : Nat) (hd : 0 ≤ d) (Q : pm_Q) (w : pm_W) (x : pm_W) (hf : f_X0_forgetFirst F w = some x) (hq : Q (none) x) : pm_Gx (RT d) co_X0_forgetFirst 0 [some (.inr (.inr (9, 0))), none, none] [] w Q := by
  unfold f_X0_forgetFirst at hf
  refine pm_go (i2 := 7) (ls2 := [some (.inr (.inr (9, 0))), some (.inr (.inr (7, (w.2.2 0)))), some (.inl 1)]) (st2 := []) (w2 := w) 7 (fun F h => ⟨(pm_inb_in (by decide)), h⟩) ?_
  obtain ⟨x5, hx6, hf⟩ := Option.bind_eq_some_iff.mp hf
  refine a_X0_forgetFirst_L7 F d hd Q F w (w.2.2 0) 1 x5 hx6 ?_
  refine pm_go (i2 := 27) (ls2 := [some (.inr (.inr (9, 0))), some (.inr (.inr (7, (w.2.2 0)))), some (.inl x5.1)]) (st2 := []) (w2 := (pm_setB x5.2 13 (w.2.2 0))) 5 (fun F h => ⟨(pm_inb_in (by decide)), h⟩) ?_
  generalize (pm_setB x5.2 13 (w.2.2 0)) = w7 at hf ⊢
  replace hf := pm_wlet_un hf
  refine pm_go (i2 := 30) (ls2 := [some (.inr (.inr (9, 0))), some (.inr (.inr (7, (w.2.2 0)))), some (.inl x5.1)]) (st2 := []) (w2 := (pm_setI w7 9 0 1 13)) 3 (fun F h => h) ?_
  generalize (pm_setI w7 9 0 1 13) = w8 at hf ⊢
  replace hf := pm_wlet_un hf
  obtain rfl := Option.some.inj hf
  exact pm_re (r := none) (w2 := w8) 1 (fun F h => h) hq
set_option maxRecDepth 20000 in
set_option maxHeartbeats 4000000 in
theorem a_X0_forgetFirst (F : Nat) (w : pm_W) (x : pm_W) (d : Nat) (hd : 1 ≤ d) (hf : f_X0_forgetFirst F w = some x) : RT d 2 [.inr (.inr (9, 0))] w (none) x := by
  obtain ⟨d, rfl, hd2⟩ := pm_dep hd
  exact pm_start (co := co_X0_forgetFirst) (nL := 3) (by decide) rfl rfl (Nat.le_of_ble_eq_true rfl) (b_X0_forgetFirst F d hd2 _ w x hf ⟨rfl, rfl⟩)
def f_X4_become_L2 (F : Nat) : Nat → pm_W → Nat → Nat → Int32 → Option (Int32 × pm_W)
  | 0, _, _, _, _ => none
  | n + 1, w, v0, v1, v2 => (if 5 ≤ v2 then some (v2, w) else (if pm_inb v2 5 = true then (if pm_inb v2 5 = true then (pm_wlet (pm_setI w 8 v0 v2.toNatClampNeg (w.1 8 v1 v2.toNatClampNeg)) fun w4 => f_X4_become_L2 F n w4 v0 v1 (v2 + 1)) else none) else none))
def f_X4_become (F : Nat) (w : pm_W) (a0 : Nat) (a1 : Nat) : Option (pm_W) := ((f_X4_become_L2 F F w a0 a1 0).bind fun x5 => (pm_wlet (pm_setI x5.2 7 a0 1 (x5.2.1 7 a1 1)) fun w7 => (pm_wlet (pm_setI w7 7 a0 2 (w7.1 7 a1 2)) fun w8 => (pm_wlet (pm_setI w8 7 a0 3 (w8.1 7 a1 3)) fun w9 => (pm_wlet (pm_setI w9 7 a0 4 (w9.1 7 a1 4)) fun w10 => some w10)))))
set_option maxRecDepth 20000 in
set_option maxHeartbeats 4000000 in
theorem a_X4_become_L2 (F : Nat) (d : Nat) (hd : 0 ≤ d) (Q : pm_Q) : ∀ (n : Nat) (w : pm_W) (v0 : Nat) (v1 : Nat) (v2 : Int32) (x : Int32 × pm_W), f_X4_become_L2 F n w v0 v1 v2 = some x → pm_Gx (RT d) co_X4_become 15 [some (.inr (.inr (7, v0))), some (.inr (.inr (7, v1))), some (.inl x.1)] [] x.2 Q → pm_Gx (RT d) co_X4_become 2 [some (.inr (.inr (7, v0))), some (.inr (.inr (7, v1))), some (.inl v2)] [] w Q := by
  intro n
  induction n with
  | zero =>
    intro w v0 v1 v2 x hf
    cases hf
  | succ n ih =>
    intro w v0 v1 v2 x hf hk
    rw [f_X4_become_L2] at hf
    refine pm_go (i2 := 4) (ls2 := [some (.inr (.inr (7, v0))), some (.inr (.inr (7, v1))), some (.inl v2)]) (st2 := [.inl 5, .inl v2]) (w2 := w) 2 (fun F h => h) ?_
    refine pm_if (P := 5 ≤ v2) (i2 := 15) (i3 := 5) (ls2 := [some (.inr (.inr (7, v0))), some (.inr (.inr (7, v1))), some (.inl v2)]) (st2 := []) (w2 := w) 1 (fun F h => h) (fun hc1 => ?_) (fun hc1 => ?_)
    · rw [if_pos hc1] at hf
      obtain rfl := Option.some.inj hf
      exact hk
    · rw [if_neg hc1] at hf
      obtain ⟨hs2, hf⟩ := pm_itn hf
      obtain ⟨hs3, hf⟩ := pm_itn hf
      refine pm_go (i2 := 13) (ls2 := [some (.inr (.inr (7, v0))), some (.inr (.inr (7, v1))), some (.inl v2)]) (st2 := []) (w2 := (pm_setI w 8 v0 v2.toNatClampNeg (w.1 8 v1 v2.toNatClampNeg))) 8 (fun F h => ⟨(pm_inb_in hs2), (pm_inb_in hs3), h⟩) ?_
      generalize (pm_setI w 8 v0 v2.toNatClampNeg (w.1 8 v1 v2.toNatClampNeg)) = w4 at hf ⊢
      replace hf := pm_wlet_un hf
      refine pm_go (i2 := 2) (ls2 := [some (.inr (.inr (7, v0))), some (.inr (.inr (7, v1))), some (.inl (v2 + 1))]) (st2 := []) (w2 := w4) 2 (fun F h => h) ?_
      exact ih w4 v0 v1 (v2 + 1) _ hf hk
set_option maxRecDepth 20000 in
set_option maxHeartbeats 4000000 in
theorem b_X4_become (F : Nat) (d : Nat) (hd : 0 ≤ d) (Q : pm_Q) (w : pm_W) (a0 : Nat) (a1 : Nat) (x : pm_W) (hf : f_X4_become F w a0 a1 = some x) (hq : Q (none) x) : pm_Gx (RT d) co_X4_become 0 [some (.inr (.inr (7, a0))), some (.inr (.inr (7, a1))), none] [] w Q := by
  unfold f_X4_become at hf
  refine pm_go (i2 := 2) (ls2 := [some (.inr (.inr (7, a0))), some (.inr (.inr (7, a1))), some (.inl 0)]) (st2 := []) (w2 := w) 2 (fun F h => h) ?_
  obtain ⟨x5, hx6, hf⟩ := Option.bind_eq_some_iff.mp hf
  refine a_X4_become_L2 F d hd Q F w a0 a1 0 x5 hx6 ?_
  refine pm_go (i2 := 19) (ls2 := [some (.inr (.inr (7, a0))), some (.inr (.inr (7, a1))), some (.inl x5.1)]) (st2 := []) (w2 := (pm_setI x5.2 7 a0 1 (x5.2.1 7 a1 1))) 4 (fun F h => h) ?_
  generalize (pm_setI x5.2 7 a0 1 (x5.2.1 7 a1 1)) = w7 at hf ⊢
  replace hf := pm_wlet_un hf
  refine pm_go (i2 := 23) (ls2 := [some (.inr (.inr (7, a0))), some (.inr (.inr (7, a1))), some (.inl x5.1)]) (st2 := []) (w2 := (pm_setI w7 7 a0 2 (w7.1 7 a1 2))) 4 (fun F h => h) ?_
  generalize (pm_setI w7 7 a0 2 (w7.1 7 a1 2)) = w8 at hf ⊢
  replace hf := pm_wlet_un hf
  refine pm_go (i2 := 27) (ls2 := [some (.inr (.inr (7, a0))), some (.inr (.inr (7, a1))), some (.inl x5.1)]) (st2 := []) (w2 := (pm_setI w8 7 a0 3 (w8.1 7 a1 3))) 4 (fun F h => h) ?_
  generalize (pm_setI w8 7 a0 3 (w8.1 7 a1 3)) = w9 at hf ⊢
  replace hf := pm_wlet_un hf
  refine pm_go (i2 := 31) (ls2 := [some (.inr (.inr (7, a0))), some (.inr (.inr (7, a1))), some (.inl x5.1)]) (st2 := []) (w2 := (pm_setI w9 7 a0 4 (w9.1 7 a1 4))) 4 (fun F h => h) ?_
  generalize (pm_setI w9 7 a0 4 (w9.1 7 a1 4)) = w10 at hf ⊢
  replace hf := pm_wlet_un hf
  obtain rfl := Option.some.inj hf
  exact pm_re (r := none) (w2 := w10) 1 (fun F h => h) hq
set_option maxRecDepth 20000 in
set_option maxHeartbeats 4000000 in
theorem a_X4_become (F : Nat) (w : pm_W) (a0 : Nat) (a1 : Nat) (x : pm_W) (d : Nat) (hd : 1 ≤ d) (hf : f_X4_become F w a0 a1 = some x) : RT d 27 [.inr (.inr (7, a0)), .inr (.inr (7, a1))] w (none) x := by
  obtain ⟨d, rfl, hd2⟩ := pm_dep hd
  exact pm_start (co := co_X4_become) (nL := 3) (by decide) rfl rfl (Nat.le_of_ble_eq_true rfl) (b_X4_become F d hd2 _ w a0 a1 x hf ⟨rfl, rfl⟩)
def f_X0_remember (F : Nat) (w : pm_W) (a1 : Nat) : Option (pm_W) := (if (w.1 9 0 1) < 14 then (if pm_inb (w.1 9 0 1) 14 = true then ((f_X4_become F w (w.2.2 ((w.1 9 0 1).toNatClampNeg)) a1).bind fun r3 => (pm_wlet (pm_setI r3 9 0 1 ((r3.1 9 0 1) + 1)) fun w5 => some w5)) else none) else ((f_X0_forgetFirst F w).bind fun r6 => (if pm_inb (r6.1 9 0 1) 14 = true then ((f_X4_become F r6 (r6.2.2 ((r6.1 9 0 1).toNatClampNeg)) a1).bind fun r9 => (pm_wlet (pm_setI r9 9 0 1 ((r9.1 9 0 1) + 1)) fun w11 => some w11)) else none)))
set_option maxRecDepth 20000 in
set_option maxHeartbeats 4000000 in
theorem b_X0_remember (F : Nat) (d : Nat) (hd : 1 ≤ d) (Q : pm_Q) (w : pm_W) (a1 : Nat) (x : pm_W) (hf : f_X0_remember F w a1 = some x) (hq : Q (none) x) : pm_Gx (RT d) co_X0_remember 0 [some (.inr (.inr (9, 0))), some (.inr (.inr (7, a1)))] [] w Q := by
  unfold f_X0_remember at hf
  refine pm_go (i2 := 3) (ls2 := [some (.inr (.inr (9, 0))), some (.inr (.inr (7, a1)))]) (st2 := [.inl 14, .inl (w.1 9 0 1)]) (w2 := w) 3 (fun F h => h) ?_
  refine pm_if (P := (w.1 9 0 1) < 14) (i2 := 6) (i3 := 4) (ls2 := [some (.inr (.inr (9, 0))), some (.inr (.inr (7, a1)))]) (st2 := []) (w2 := w) 1 (fun F h => h) (fun hc1 => ?_) (fun hc1 => ?_)
  · rw [if_pos hc1] at hf
    obtain ⟨hs2, hf⟩ := pm_itn hf
    refine pm_go (i2 := 12) (ls2 := [some (.inr (.inr (9, 0))), some (.inr (.inr (7, a1)))]) (st2 := [.inr (.inr (7, a1)), .inr (.inr (7, (w.2.2 ((w.1 9 0 1).toNatClampNeg))))]) (w2 := w) 6 (fun F h => ⟨(pm_inb_in hs2), h⟩) ?_
    obtain ⟨r3, hr4, hf⟩ := Option.bind_eq_some_iff.mp hf
    refine pm_ca (y := 27) (as := [.inr (.inr (7, (w.2.2 ((w.1 9 0 1).toNatClampNeg)))), .inr (.inr (7, a1))]) (r := none) (w2 := w) (w1 := r3) (t := []) (i2 := 13) (ls2 := [some (.inr (.inr (9, 0))), some (.inr (.inr (7, a1)))]) 1 (a_X4_become F w (w.2.2 ((w.1 9 0 1).toNatClampNeg)) a1 r3 d (by omega) hr4) (fun F h => h) ?_
    show pm_Gx (RT d) co_X0_remember 13 [some (.inr (.inr (9, 0))), some (.inr (.inr (7, a1)))] [] r3 Q
    refine pm_go (i2 := 19) (ls2 := [some (.inr (.inr (9, 0))), some (.inr (.inr (7, a1)))]) (st2 := []) (w2 := (pm_setI r3 9 0 1 ((r3.1 9 0 1) + 1))) 6 (fun F h => h) ?_
    generalize (pm_setI r3 9 0 1 ((r3.1 9 0 1) + 1)) = w5 at hf ⊢
    replace hf := pm_wlet_un hf
    obtain rfl := Option.some.inj hf
    exact pm_re (r := none) (w2 := w5) 1 (fun F h => h) hq
  · rw [if_neg hc1] at hf
    refine pm_go (i2 := 5) (ls2 := [some (.inr (.inr (9, 0))), some (.inr (.inr (7, a1)))]) (st2 := [.inr (.inr (9, 0))]) (w2 := w) 1 (fun F h => h) ?_
    obtain ⟨r6, hr7, hf⟩ := Option.bind_eq_some_iff.mp hf
    refine pm_ca (y := 2) (as := [.inr (.inr (9, 0))]) (r := none) (w2 := w) (w1 := r6) (t := []) (i2 := 6) (ls2 := [some (.inr (.inr (9, 0))), some (.inr (.inr (7, a1)))]) 1 (a_X0_forgetFirst F w r6 d (by omega) hr7) (fun F h => h) ?_
    show pm_Gx (RT d) co_X0_remember 6 [some (.inr (.inr (9, 0))), some (.inr (.inr (7, a1)))] [] r6 Q
    obtain ⟨hs8, hf⟩ := pm_itn hf
    refine pm_go (i2 := 12) (ls2 := [some (.inr (.inr (9, 0))), some (.inr (.inr (7, a1)))]) (st2 := [.inr (.inr (7, a1)), .inr (.inr (7, (r6.2.2 ((r6.1 9 0 1).toNatClampNeg))))]) (w2 := r6) 6 (fun F h => ⟨(pm_inb_in hs8), h⟩) ?_
    obtain ⟨r9, hr10, hf⟩ := Option.bind_eq_some_iff.mp hf
    refine pm_ca (y := 27) (as := [.inr (.inr (7, (r6.2.2 ((r6.1 9 0 1).toNatClampNeg)))), .inr (.inr (7, a1))]) (r := none) (w2 := r6) (w1 := r9) (t := []) (i2 := 13) (ls2 := [some (.inr (.inr (9, 0))), some (.inr (.inr (7, a1)))]) 1 (a_X4_become F r6 (r6.2.2 ((r6.1 9 0 1).toNatClampNeg)) a1 r9 d (by omega) hr10) (fun F h => h) ?_
    show pm_Gx (RT d) co_X0_remember 13 [some (.inr (.inr (9, 0))), some (.inr (.inr (7, a1)))] [] r9 Q
    refine pm_go (i2 := 19) (ls2 := [some (.inr (.inr (9, 0))), some (.inr (.inr (7, a1)))]) (st2 := []) (w2 := (pm_setI r9 9 0 1 ((r9.1 9 0 1) + 1))) 6 (fun F h => h) ?_
    generalize (pm_setI r9 9 0 1 ((r9.1 9 0 1) + 1)) = w11 at hf ⊢
    replace hf := pm_wlet_un hf
    obtain rfl := Option.some.inj hf
    exact pm_re (r := none) (w2 := w11) 1 (fun F h => h) hq
set_option maxRecDepth 20000 in
set_option maxHeartbeats 4000000 in
theorem a_X0_remember (F : Nat) (w : pm_W) (a1 : Nat) (x : pm_W) (d : Nat) (hd : 2 ≤ d) (hf : f_X0_remember F w a1 = some x) : RT d 0 [.inr (.inr (9, 0)), .inr (.inr (7, a1))] w (none) x := by
  obtain ⟨d, rfl, hd2⟩ := pm_dep hd
  exact pm_start (co := co_X0_remember) (nL := 2) (by decide) rfl rfl (Nat.le_of_ble_eq_true rfl) (b_X0_remember F d hd2 _ w a1 x hf ⟨rfl, rfl⟩)
def f_X0_takeBack (F : Nat) (w : pm_W) (a1 : Nat) : Option (pm_W) := (if (w.1 9 0 1) ≤ 0 then some w else (if 14 < (w.1 9 0 1) then some w else (pm_wlet (pm_setI w 9 0 1 ((w.1 9 0 1) - 1)) fun w3 => (if pm_inb (w3.1 9 0 1) 14 = true then ((f_X4_become F w3 a1 (w3.2.2 ((w3.1 9 0 1).toNatClampNeg))).bind fun r5 => some r5) else none))))
set_option maxRecDepth 20000 in
set_option maxHeartbeats 4000000 in
theorem b_X0_takeBack (F : Nat) (d : Nat) (hd : 1 ≤ d) (Q : pm_Q) (w : pm_W) (a1 : Nat) (x : pm_W) (hf : f_X0_takeBack F w a1 = some x) (hq : Q (none) x) : pm_Gx (RT d) co_X0_takeBack 0 [some (.inr (.inr (9, 0))), some (.inr (.inr (7, a1)))] [] w Q := by
  unfold f_X0_takeBack at hf
  refine pm_go (i2 := 2) (ls2 := [some (.inr (.inr (9, 0))), some (.inr (.inr (7, a1)))]) (st2 := [.inl (w.1 9 0 1)]) (w2 := w) 2 (fun F h => h) ?_
  refine pm_if (P := (w.1 9 0 1) ≤ 0) (i2 := 20) (i3 := 3) (ls2 := [some (.inr (.inr (9, 0))), some (.inr (.inr (7, a1)))]) (st2 := []) (w2 := w) 1 (fun F h => h) (fun hc1 => ?_) (fun hc1 => ?_)
  · rw [if_pos hc1] at hf
    obtain rfl := Option.some.inj hf
    exact pm_re (r := none) (w2 := w) 1 (fun F h => h) hq
  · rw [if_neg hc1] at hf
    refine pm_go (i2 := 6) (ls2 := [some (.inr (.inr (9, 0))), some (.inr (.inr (7, a1)))]) (st2 := [.inl 14, .inl (w.1 9 0 1)]) (w2 := w) 3 (fun F h => h) ?_
    refine pm_if (P := 14 < (w.1 9 0 1)) (i2 := 20) (i3 := 7) (ls2 := [some (.inr (.inr (9, 0))), some (.inr (.inr (7, a1)))]) (st2 := []) (w2 := w) 1 (fun F h => h) (fun hc2 => ?_) (fun hc2 => ?_)
    · rw [if_pos hc2] at hf
      obtain rfl := Option.some.inj hf
      exact pm_re (r := none) (w2 := w) 1 (fun F h => h) hq
    · rw [if_neg hc2] at hf
      refine pm_go (i2 := 13) (ls2 := [some (.inr (.inr (9, 0))), some (.inr (.inr (7, a1)))]) (st2 := []) (w2 := (pm_setI w 9 0 1 ((w.1 9 0 1) - 1))) 6 (fun F h => h) ?_
      generalize (pm_setI w 9 0 1 ((w.1 9 0 1) - 1)) = w3 at hf ⊢
      replace hf := pm_wlet_un hf
      obtain ⟨hs4, hf⟩ := pm_itn hf
      refine pm_go (i2 := 19) (ls2 := [some (.inr (.inr (9, 0))), some (.inr (.inr (7, a1)))]) (st2 := [.inr (.inr (7, (w3.2.2 ((w3.1 9 0 1).toNatClampNeg)))), .inr (.inr (7, a1))]) (w2 := w3) 6 (fun F h => ⟨(pm_inb_in hs4), h⟩) ?_
      obtain ⟨r5, hr6, hf⟩ := Option.bind_eq_some_iff.mp hf
      refine pm_ca (y := 27) (as := [.inr (.inr (7, a1)), .inr (.inr (7, (w3.2.2 ((w3.1 9 0 1).toNatClampNeg))))]) (r := none) (w2 := w3) (w1 := r5) (t := []) (i2 := 20) (ls2 := [some (.inr (.inr (9, 0))), some (.inr (.inr (7, a1)))]) 1 (a_X4_become F w3 a1 (w3.2.2 ((w3.1 9 0 1).toNatClampNeg)) r5 d (by omega) hr6) (fun F h => h) ?_
      show pm_Gx (RT d) co_X0_takeBack 20 [some (.inr (.inr (9, 0))), some (.inr (.inr (7, a1)))] [] r5 Q
      obtain rfl := Option.some.inj hf
      exact pm_re (r := none) (w2 := r5) 1 (fun F h => h) hq
set_option maxRecDepth 20000 in
set_option maxHeartbeats 4000000 in
theorem a_X0_takeBack (F : Nat) (w : pm_W) (a1 : Nat) (x : pm_W) (d : Nat) (hd : 2 ≤ d) (hf : f_X0_takeBack F w a1 = some x) : RT d 1 [.inr (.inr (9, 0)), .inr (.inr (7, a1))] w (none) x := by
  obtain ⟨d, rfl, hd2⟩ := pm_dep hd
  exact pm_start (co := co_X0_takeBack) (nL := 2) (by decide) rfl rfl (Nat.le_of_ble_eq_true rfl) (b_X0_takeBack F d hd2 _ w a1 x hf ⟨rfl, rfl⟩)
def f_X5_everybody (F : Nat) (w : pm_W) : Option (Int32) := some ((1 <<< ((w.1 3 0 3) &&& 31)) - 1)
set_option maxRecDepth 20000 in
set_option maxHeartbeats 4000000 in
theorem b_X5_everybody (F : Nat) (d : Nat) (hd : 0 ≤ d) (Q : pm_Q) (w : pm_W) (x : Int32) (hf : f_X5_everybody F w = some x) (hq : Q (some (.inl x)) w) : pm_Gx (RT d) co_X5_everybody 0 [some (.inr (.inr (3, 0)))] [] w Q := by
  unfold f_X5_everybody at hf
  refine pm_go (i2 := 6) (ls2 := [some (.inr (.inr (3, 0)))]) (st2 := [.inl ((1 <<< ((w.1 3 0 3) &&& 31)) - 1)]) (w2 := w) 6 (fun F h => h) ?_
  obtain rfl := Option.some.inj hf
  exact pm_re (r := some (.inl ((1 <<< ((w.1 3 0 3) &&& 31)) - 1))) (w2 := w) 1 (fun F h => h) hq
set_option maxRecDepth 20000 in
set_option maxHeartbeats 4000000 in
theorem a_X5_everybody (F : Nat) (w : pm_W) (x : Int32) (d : Nat) (hd : 1 ≤ d) (hf : f_X5_everybody F w = some x) : RT d 31 [.inr (.inr (3, 0))] w (some (.inl x)) w := by
  obtain ⟨d, rfl, hd2⟩ := pm_dep hd
  exact pm_start (co := co_X5_everybody) (nL := 1) (by decide) rfl rfl (Nat.le_of_ble_eq_true rfl) (b_X5_everybody F d hd2 _ w x hf ⟨rfl, rfl⟩)
def f_X3_trialFrom (F : Nat) (w : pm_W) (a1 : Nat) : Option ((Nat × pm_W)) := ((f_X4_become F w 17 a1).bind fun r1 => some (17, r1))
set_option maxRecDepth 20000 in
set_option maxHeartbeats 4000000 in
theorem b_X3_trialFrom (F : Nat) (d : Nat) (hd : 1 ≤ d) (Q : pm_Q) (w : pm_W) (a1 : Nat) (x : (Nat × pm_W)) (hf : f_X3_trialFrom F w a1 = some x) (hq : Q (some (.inr (.inr (7, x.1)))) x.2) : pm_Gx (RT d) co_X3_trialFrom 0 [some (.inr (.inr (16, 0))), some (.inr (.inr (7, a1)))] [] w Q := by
  unfold f_X3_trialFrom at hf
  refine pm_go (i2 := 5) (ls2 := [some (.inr (.inr (16, 0))), some (.inr (.inr (7, a1)))]) (st2 := [.inr (.inr (7, a1)), .inr (.inr (7, 17))]) (w2 := w) 5 (fun F h => ⟨(pm_inb_in (by decide)), h⟩) ?_
  obtain ⟨r1, hr2, hf⟩ := Option.bind_eq_some_iff.mp hf
  refine pm_ca (y := 27) (as := [.inr (.inr (7, 17)), .inr (.inr (7, a1))]) (r := none) (w2 := w) (w1 := r1) (t := []) (i2 := 6) (ls2 := [some (.inr (.inr (16, 0))), some (.inr (.inr (7, a1)))]) 1 (a_X4_become F w 17 a1 r1 d (by omega) hr2) (fun F h => h) ?_
  show pm_Gx (RT d) co_X3_trialFrom 6 [some (.inr (.inr (16, 0))), some (.inr (.inr (7, a1)))] [] r1 Q
  refine pm_go (i2 := 10) (ls2 := [some (.inr (.inr (16, 0))), some (.inr (.inr (7, a1)))]) (st2 := [.inr (.inr (7, 17))]) (w2 := r1) 4 (fun F h => ⟨(pm_inb_in (by decide)), h⟩) ?_
  obtain rfl := Option.some.inj hf
  exact pm_re (r := some (.inr (.inr (7, 17)))) (w2 := r1) 1 (fun F h => h) hq
set_option maxRecDepth 20000 in
set_option maxHeartbeats 4000000 in
theorem a_X3_trialFrom (F : Nat) (w : pm_W) (a1 : Nat) (x : (Nat × pm_W)) (d : Nat) (hd : 2 ≤ d) (hf : f_X3_trialFrom F w a1 = some x) : RT d 16 [.inr (.inr (16, 0)), .inr (.inr (7, a1))] w (some (.inr (.inr (7, x.1)))) x.2 := by
  obtain ⟨d, rfl, hd2⟩ := pm_dep hd
  exact pm_start (co := co_X3_trialFrom) (nL := 2) (by decide) rfl rfl (Nat.le_of_ble_eq_true rfl) (b_X3_trialFrom F d hd2 _ w a1 x hf ⟨rfl, rfl⟩)
def f_J6_bitCount (F : Nat) (w : pm_W) (a0 : Int32) : Option (Int32) := some ((((((((a0 - (((a0.toUInt32 >>> ((1 : Int32).toUInt32 &&& Int32.toUInt32 31)).toInt32) &&& 1431655765)) &&& 858993459) + ((((a0 - (((a0.toUInt32 >>> ((1 : Int32).toUInt32 &&& Int32.toUInt32 31)).toInt32) &&& 1431655765)).toUInt32 >>> ((2 : Int32).toUInt32 &&& Int32.toUInt32 31)).toInt32) &&& 858993459)) + (((((a0 - (((a0.toUInt32 >>> ((1 : Int32).toUInt32 &&& Int32.toUInt32 31)).toInt32) &&& 1431655765)) &&& 858993459) + ((((a0 - (((a0.toUInt32 >>> ((1 : Int32).toUInt32 &&& Int32.toUInt32 31)).toInt32) &&& 1431655765)).toUInt32 >>> ((2 : Int32).toUInt32 &&& Int32.toUInt32 31)).toInt32) &&& 858993459)).toUInt32 >>> ((4 : Int32).toUInt32 &&& Int32.toUInt32 31)).toInt32)) &&& 252645135) + (((((((a0 - (((a0.toUInt32 >>> ((1 : Int32).toUInt32 &&& Int32.toUInt32 31)).toInt32) &&& 1431655765)) &&& 858993459) + ((((a0 - (((a0.toUInt32 >>> ((1 : Int32).toUInt32 &&& Int32.toUInt32 31)).toInt32) &&& 1431655765)).toUInt32 >>> ((2 : Int32).toUInt32 &&& Int32.toUInt32 31)).toInt32) &&& 858993459)) + (((((a0 - (((a0.toUInt32 >>> ((1 : Int32).toUInt32 &&& Int32.toUInt32 31)).toInt32) &&& 1431655765)) &&& 858993459) + ((((a0 - (((a0.toUInt32 >>> ((1 : Int32).toUInt32 &&& Int32.toUInt32 31)).toInt32) &&& 1431655765)).toUInt32 >>> ((2 : Int32).toUInt32 &&& Int32.toUInt32 31)).toInt32) &&& 858993459)).toUInt32 >>> ((4 : Int32).toUInt32 &&& Int32.toUInt32 31)).toInt32)) &&& 252645135).toUInt32 >>> ((8 : Int32).toUInt32 &&& Int32.toUInt32 31)).toInt32)) + ((((((((a0 - (((a0.toUInt32 >>> ((1 : Int32).toUInt32 &&& Int32.toUInt32 31)).toInt32) &&& 1431655765)) &&& 858993459) + ((((a0 - (((a0.toUInt32 >>> ((1 : Int32).toUInt32 &&& Int32.toUInt32 31)).toInt32) &&& 1431655765)).toUInt32 >>> ((2 : Int32).toUInt32 &&& Int32.toUInt32 31)).toInt32) &&& 858993459)) + (((((a0 - (((a0.toUInt32 >>> ((1 : Int32).toUInt32 &&& Int32.toUInt32 31)).toInt32) &&& 1431655765)) &&& 858993459) + ((((a0 - (((a0.toUInt32 >>> ((1 : Int32).toUInt32 &&& Int32.toUInt32 31)).toInt32) &&& 1431655765)).toUInt32 >>> ((2 : Int32).toUInt32 &&& Int32.toUInt32 31)).toInt32) &&& 858993459)).toUInt32 >>> ((4 : Int32).toUInt32 &&& Int32.toUInt32 31)).toInt32)) &&& 252645135) + (((((((a0 - (((a0.toUInt32 >>> ((1 : Int32).toUInt32 &&& Int32.toUInt32 31)).toInt32) &&& 1431655765)) &&& 858993459) + ((((a0 - (((a0.toUInt32 >>> ((1 : Int32).toUInt32 &&& Int32.toUInt32 31)).toInt32) &&& 1431655765)).toUInt32 >>> ((2 : Int32).toUInt32 &&& Int32.toUInt32 31)).toInt32) &&& 858993459)) + (((((a0 - (((a0.toUInt32 >>> ((1 : Int32).toUInt32 &&& Int32.toUInt32 31)).toInt32) &&& 1431655765)) &&& 858993459) + ((((a0 - (((a0.toUInt32 >>> ((1 : Int32).toUInt32 &&& Int32.toUInt32 31)).toInt32) &&& 1431655765)).toUInt32 >>> ((2 : Int32).toUInt32 &&& Int32.toUInt32 31)).toInt32) &&& 858993459)).toUInt32 >>> ((4 : Int32).toUInt32 &&& Int32.toUInt32 31)).toInt32)) &&& 252645135).toUInt32 >>> ((8 : Int32).toUInt32 &&& Int32.toUInt32 31)).toInt32)).toUInt32 >>> ((16 : Int32).toUInt32 &&& Int32.toUInt32 31)).toInt32)) &&& 63)
set_option maxRecDepth 20000 in
set_option maxHeartbeats 4000000 in
theorem b_J6_bitCount (F : Nat) (d : Nat) (hd : 0 ≤ d) (Q : pm_Q) (w : pm_W) (a0 : Int32) (x : Int32) (hf : f_J6_bitCount F w a0 = some x) (hq : Q (some (.inl x)) w) : pm_Gx (RT d) co_J6_bitCount_0f7a4 0 [some (.inl a0)] [] w Q := by
  unfold f_J6_bitCount at hf
  refine pm_go (i2 := 41) (ls2 := [some (.inl (((((((a0 - (((a0.toUInt32 >>> ((1 : Int32).toUInt32 &&& Int32.toUInt32 31)).toInt32) &&& 1431655765)) &&& 858993459) + ((((a0 - (((a0.toUInt32 >>> ((1 : Int32).toUInt32 &&& Int32.toUInt32 31)).toInt32) &&& 1431655765)).toUInt32 >>> ((2 : Int32).toUInt32 &&& Int32.toUInt32 31)).toInt32) &&& 858993459)) + (((((a0 - (((a0.toUInt32 >>> ((1 : Int32).toUInt32 &&& Int32.toUInt32 31)).toInt32) &&& 1431655765)) &&& 858993459) + ((((a0 - (((a0.toUInt32 >>> ((1 : Int32).toUInt32 &&& Int32.toUInt32 31)).toInt32) &&& 1431655765)).toUInt32 >>> ((2 : Int32).toUInt32 &&& Int32.toUInt32 31)).toInt32) &&& 858993459)).toUInt32 >>> ((4 : Int32).toUInt32 &&& Int32.toUInt32 31)).toInt32)) &&& 252645135) + (((((((a0 - (((a0.toUInt32 >>> ((1 : Int32).toUInt32 &&& Int32.toUInt32 31)).toInt32) &&& 1431655765)) &&& 858993459) + ((((a0 - (((a0.toUInt32 >>> ((1 : Int32).toUInt32 &&& Int32.toUInt32 31)).toInt32) &&& 1431655765)).toUInt32 >>> ((2 : Int32).toUInt32 &&& Int32.toUInt32 31)).toInt32) &&& 858993459)) + (((((a0 - (((a0.toUInt32 >>> ((1 : Int32).toUInt32 &&& Int32.toUInt32 31)).toInt32) &&& 1431655765)) &&& 858993459) + ((((a0 - (((a0.toUInt32 >>> ((1 : Int32).toUInt32 &&& Int32.toUInt32 31)).toInt32) &&& 1431655765)).toUInt32 >>> ((2 : Int32).toUInt32 &&& Int32.toUInt32 31)).toInt32) &&& 858993459)).toUInt32 >>> ((4 : Int32).toUInt32 &&& Int32.toUInt32 31)).toInt32)) &&& 252645135).toUInt32 >>> ((8 : Int32).toUInt32 &&& Int32.toUInt32 31)).toInt32)) + ((((((((a0 - (((a0.toUInt32 >>> ((1 : Int32).toUInt32 &&& Int32.toUInt32 31)).toInt32) &&& 1431655765)) &&& 858993459) + ((((a0 - (((a0.toUInt32 >>> ((1 : Int32).toUInt32 &&& Int32.toUInt32 31)).toInt32) &&& 1431655765)).toUInt32 >>> ((2 : Int32).toUInt32 &&& Int32.toUInt32 31)).toInt32) &&& 858993459)) + (((((a0 - (((a0.toUInt32 >>> ((1 : Int32).toUInt32 &&& Int32.toUInt32 31)).toInt32) &&& 1431655765)) &&& 858993459) + ((((a0 - (((a0.toUInt32 >>> ((1 : Int32).toUInt32 &&& Int32.toUInt32 31)).toInt32) &&& 1431655765)).toUInt32 >>> ((2 : Int32).toUInt32 &&& Int32.toUInt32 31)).toInt32) &&& 858993459)).toUInt32 >>> ((4 : Int32).toUInt32 &&& Int32.toUInt32 31)).toInt32)) &&& 252645135) + (((((((a0 - (((a0.toUInt32 >>> ((1 : Int32).toUInt32 &&& Int32.toUInt32 31)).toInt32) &&& 1431655765)) &&& 858993459) + ((((a0 - (((a0.toUInt32 >>> ((1 : Int32).toUInt32 &&& Int32.toUInt32 31)).toInt32) &&& 1431655765)).toUInt32 >>> ((2 : Int32).toUInt32 &&& Int32.toUInt32 31)).toInt32) &&& 858993459)) + (((((a0 - (((a0.toUInt32 >>> ((1 : Int32).toUInt32 &&& Int32.toUInt32 31)).toInt32) &&& 1431655765)) &&& 858993459) + ((((a0 - (((a0.toUInt32 >>> ((1 : Int32).toUInt32 &&& Int32.toUInt32 31)).toInt32) &&& 1431655765)).toUInt32 >>> ((2 : Int32).toUInt32 &&& Int32.toUInt32 31)).toInt32) &&& 858993459)).toUInt32 >>> ((4 : Int32).toUInt32 &&& Int32.toUInt32 31)).toInt32)) &&& 252645135).toUInt32 >>> ((8 : Int32).toUInt32 &&& Int32.toUInt32 31)).toInt32)).toUInt32 >>> ((16 : Int32).toUInt32 &&& Int32.toUInt32 31)).toInt32)))]) (st2 := [.inl ((((((((a0 - (((a0.toUInt32 >>> ((1 : Int32).toUInt32 &&& Int32.toUInt32 31)).toInt32) &&& 1431655765)) &&& 858993459) + ((((a0 - (((a0.toUInt32 >>> ((1 : Int32).toUInt32 &&& Int32.toUInt32 31)).toInt32) &&& 1431655765)).toUInt32 >>> ((2 : Int32).toUInt32 &&& Int32.toUInt32 31)).toInt32) &&& 858993459)) + (((((a0 - (((a0.toUInt32 >>> ((1 : Int32).toUInt32 &&& Int32.toUInt32 31)).toInt32) &&& 1431655765)) &&& 858993459) + ((((a0 - (((a0.toUInt32 >>> ((1 : Int32).toUInt32 &&& Int32.toUInt32 31)).toInt32) &&& 1431655765)).toUInt32 >>> ((2 : Int32).toUInt32 &&& Int32.toUInt32 31)).toInt32) &&& 858993459)).toUInt32 >>> ((4 : Int32).toUInt32 &&& Int32.toUInt32 31)).toInt32)) &&& 252645135) + (((((((a0 - (((a0.toUInt32 >>> ((1 : Int32).toUInt32 &&& Int32.toUInt32 31)).toInt32) &&& 1431655765)) &&& 858993459) + ((((a0 - (((a0.toUInt32 >>> ((1 : Int32).toUInt32 &&& Int32.toUInt32 31)).toInt32) &&& 1431655765)).toUInt32 >>> ((2 : Int32).toUInt32 &&& Int32.toUInt32 31)).toInt32) &&& 858993459)) + (((((a0 - (((a0.toUInt32 >>> ((1 : Int32).toUInt32 &&& Int32.toUInt32 31)).toInt32) &&& 1431655765)) &&& 858993459) + ((((a0 - (((a0.toUInt32 >>> ((1 : Int32).toUInt32 &&& Int32.toUInt32 31)).toInt32) &&& 1431655765)).toUInt32 >>> ((2 : Int32).toUInt32 &&& Int32.toUInt32 31)).toInt32) &&& 858993459)).toUInt32 >>> ((4 : Int32).toUInt32 &&& Int32.toUInt32 31)).toInt32)) &&& 252645135).toUInt32 >>> ((8 : Int32).toUInt32 &&& Int32.toUInt32 31)).toInt32)) + ((((((((a0 - (((a0.toUInt32 >>> ((1 : Int32).toUInt32 &&& Int32.toUInt32 31)).toInt32) &&& 1431655765)) &&& 858993459) + ((((a0 - (((a0.toUInt32 >>> ((1 : Int32).toUInt32 &&& Int32.toUInt32 31)).toInt32) &&& 1431655765)).toUInt32 >>> ((2 : Int32).toUInt32 &&& Int32.toUInt32 31)).toInt32) &&& 858993459)) + (((((a0 - (((a0.toUInt32 >>> ((1 : Int32).toUInt32 &&& Int32.toUInt32 31)).toInt32) &&& 1431655765)) &&& 858993459) + ((((a0 - (((a0.toUInt32 >>> ((1 : Int32).toUInt32 &&& Int32.toUInt32 31)).toInt32) &&& 1431655765)).toUInt32 >>> ((2 : Int32).toUInt32 &&& Int32.toUInt32 31)).toInt32) &&& 858993459)).toUInt32 >>> ((4 : Int32).toUInt32 &&& Int32.toUInt32 31)).toInt32)) &&& 252645135) + (((((((a0 - (((a0.toUInt32 >>> ((1 : Int32).toUInt32 &&& Int32.toUInt32 31)).toInt32) &&& 1431655765)) &&& 858993459) + ((((a0 - (((a0.toUInt32 >>> ((1 : Int32).toUInt32 &&& Int32.toUInt32 31)).toInt32) &&& 1431655765)).toUInt32 >>> ((2 : Int32).toUInt32 &&& Int32.toUInt32 31)).toInt32) &&& 858993459)) + (((((a0 - (((a0.toUInt32 >>> ((1 : Int32).toUInt32 &&& Int32.toUInt32 31)).toInt32) &&& 1431655765)) &&& 858993459) + ((((a0 - (((a0.toUInt32 >>> ((1 : Int32).toUInt32 &&& Int32.toUInt32 31)).toInt32) &&& 1431655765)).toUInt32 >>> ((2 : Int32).toUInt32 &&& Int32.toUInt32 31)).toInt32) &&& 858993459)).toUInt32 >>> ((4 : Int32).toUInt32 &&& Int32.toUInt32 31)).toInt32)) &&& 252645135).toUInt32 >>> ((8 : Int32).toUInt32 &&& Int32.toUInt32 31)).toInt32)).toUInt32 >>> ((16 : Int32).toUInt32 &&& Int32.toUInt32 31)).toInt32)) &&& 63)]) (w2 := w) 41 (fun F h => h) ?_
  obtain rfl := Option.some.inj hf
  exact pm_re (r := some (.inl ((((((((a0 - (((a0.toUInt32 >>> ((1 : Int32).toUInt32 &&& Int32.toUInt32 31)).toInt32) &&& 1431655765)) &&& 858993459) + ((((a0 - (((a0.toUInt32 >>> ((1 : Int32).toUInt32 &&& Int32.toUInt32 31)).toInt32) &&& 1431655765)).toUInt32 >>> ((2 : Int32).toUInt32 &&& Int32.toUInt32 31)).toInt32) &&& 858993459)) + (((((a0 - (((a0.toUInt32 >>> ((1 : Int32).toUInt32 &&& Int32.toUInt32 31)).toInt32) &&& 1431655765)) &&& 858993459) + ((((a0 - (((a0.toUInt32 >>> ((1 : Int32).toUInt32 &&& Int32.toUInt32 31)).toInt32) &&& 1431655765)).toUInt32 >>> ((2 : Int32).toUInt32 &&& Int32.toUInt32 31)).toInt32) &&& 858993459)).toUInt32 >>> ((4 : Int32).toUInt32 &&& Int32.toUInt32 31)).toInt32)) &&& 252645135) + (((((((a0 - (((a0.toUInt32 >>> ((1 : Int32).toUInt32 &&& Int32.toUInt32 31)).toInt32) &&& 1431655765)) &&& 858993459) + ((((a0 - (((a0.toUInt32 >>> ((1 : Int32).toUInt32 &&& Int32.toUInt32 31)).toInt32) &&& 1431655765)).toUInt32 >>> ((2 : Int32).toUInt32 &&& Int32.toUInt32 31)).toInt32) &&& 858993459)) + (((((a0 - (((a0.toUInt32 >>> ((1 : Int32).toUInt32 &&& Int32.toUInt32 31)).toInt32) &&& 1431655765)) &&& 858993459) + ((((a0 - (((a0.toUInt32 >>> ((1 : Int32).toUInt32 &&& Int32.toUInt32 31)).toInt32) &&& 1431655765)).toUInt32 >>> ((2 : Int32).toUInt32 &&& Int32.toUInt32 31)).toInt32) &&& 858993459)).toUInt32 >>> ((4 : Int32).toUInt32 &&& Int32.toUInt32 31)).toInt32)) &&& 252645135).toUInt32 >>> ((8 : Int32).toUInt32 &&& Int32.toUInt32 31)).toInt32)) + ((((((((a0 - (((a0.toUInt32 >>> ((1 : Int32).toUInt32 &&& Int32.toUInt32 31)).toInt32) &&& 1431655765)) &&& 858993459) + ((((a0 - (((a0.toUInt32 >>> ((1 : Int32).toUInt32 &&& Int32.toUInt32 31)).toInt32) &&& 1431655765)).toUInt32 >>> ((2 : Int32).toUInt32 &&& Int32.toUInt32 31)).toInt32) &&& 858993459)) + (((((a0 - (((a0.toUInt32 >>> ((1 : Int32).toUInt32 &&& Int32.toUInt32 31)).toInt32) &&& 1431655765)) &&& 858993459) + ((((a0 - (((a0.toUInt32 >>> ((1 : Int32).toUInt32 &&& Int32.toUInt32 31)).toInt32) &&& 1431655765)).toUInt32 >>> ((2 : Int32).toUInt32 &&& Int32.toUInt32 31)).toInt32) &&& 858993459)).toUInt32 >>> ((4 : Int32).toUInt32 &&& Int32.toUInt32 31)).toInt32)) &&& 252645135) + (((((((a0 - (((a0.toUInt32 >>> ((1 : Int32).toUInt32 &&& Int32.toUInt32 31)).toInt32) &&& 1431655765)) &&& 858993459) + ((((a0 - (((a0.toUInt32 >>> ((1 : Int32).toUInt32 &&& Int32.toUInt32 31)).toInt32) &&& 1431655765)).toUInt32 >>> ((2 : Int32).toUInt32 &&& Int32.toUInt32 31)).toInt32) &&& 858993459)) + (((((a0 - (((a0.toUInt32 >>> ((1 : Int32).toUInt32 &&& Int32.toUInt32 31)).toInt32) &&& 1431655765)) &&& 858993459) + ((((a0 - (((a0.toUInt32 >>> ((1 : Int32).toUInt32 &&& Int32.toUInt32 31)).toInt32) &&& 1431655765)).toUInt32 >>> ((2 : Int32).toUInt32 &&& Int32.toUInt32 31)).toInt32) &&& 858993459)).toUInt32 >>> ((4 : Int32).toUInt32 &&& Int32.toUInt32 31)).toInt32)) &&& 252645135).toUInt32 >>> ((8 : Int32).toUInt32 &&& Int32.toUInt32 31)).toInt32)).toUInt32 >>> ((16 : Int32).toUInt32 &&& Int32.toUInt32 31)).toInt32)) &&& 63))) (w2 := w) 1 (fun F h => h) hq
set_option maxRecDepth 20000 in
set_option maxHeartbeats 4000000 in
theorem a_J6_bitCount (F : Nat) (w : pm_W) (a0 : Int32) (x : Int32) (d : Nat) (hd : 1 ≤ d) (hf : f_J6_bitCount F w a0 = some x) : RT d 151 [.inl a0] w (some (.inl x)) w := by
  obtain ⟨d, rfl, hd2⟩ := pm_dep hd
  exact pm_start (co := co_J6_bitCount_0f7a4) (nL := 1) (by decide) rfl rfl (Nat.le_of_ble_eq_true rfl) (b_J6_bitCount F d hd2 _ w a0 x hf ⟨rfl, rfl⟩)
def f_X3_takePasses (F : Nat) (w : pm_W) (a1 : Int32) (a2 : Int32) : Option (pm_W) := (if (w.1 16 0 2) < a1 then (pm_wlet (pm_setI w 16 0 2 a1) fun w2 => (pm_wlet (pm_setI w2 16 0 3 a2) fun w3 => some w3)) else (if a1 = (w.1 16 0 2) then (if (w.1 16 0 3) ≤ a2 then some w else (pm_wlet (pm_setI w 16 0 2 a1) fun w6 => (pm_wlet (pm_setI w6 16 0 3 a2) fun w7 => some w7))) else some w))
set_option maxRecDepth 20000 in
set_option maxHeartbeats 4000000 in
theorem b_X3_takePasses (F : Nat) (d : Nat) (hd : 0 ≤ d) (Q : pm_Q) (w : pm_W) (a1 : Int32) (a2 : Int32) (x : pm_W) (hf : f_X3_takePasses F w a1 a2 = some x) (hq : Q (none) x) : pm_Gx (RT d) co_X3_takePasses 0 [some (.inr (.inr (16, 0))), some (.inl a1), some (.inl a2)] [] w Q := by
  unfold f_X3_takePasses at hf
  refine pm_go (i2 := 3) (ls2 := [some (.inr (.inr (16, 0))), some (.inl a1), some (.inl a2)]) (st2 := [.inl (w.1 16 0 2), .inl a1]) (w2 := w) 3 (fun F h => h) ?_
  refine pm_if (P := (w.1 16 0 2) < a1) (i2 := 12) (i3 := 4) (ls2 := [some (.inr (.inr (16, 0))), some (.inl a1), some (.inl a2)]) (st2 := []) (w2 := w) 1 (fun F h => h) (fun hc1 => ?_) (fun hc1 => ?_)
  · rw [if_pos hc1] at hf
    refine pm_go (i2 := 15) (ls2 := [some (.inr (.inr (16, 0))), some (.inl a1), some (.inl a2)]) (st2 := []) (w2 := (pm_setI w 16 0 2 a1)) 3 (fun F h => h) ?_
    generalize (pm_setI w 16 0 2 a1) = w2 at hf ⊢
    replace hf := pm_wlet_un hf
    refine pm_go (i2 := 18) (ls2 := [some (.inr (.inr (16, 0))), some (.inl a1), some (.inl a2)]) (st2 := []) (w2 := (pm_setI w2 16 0 3 a2)) 3 (fun F h => h) ?_
    generalize (pm_setI w2 16 0 3 a2) = w3 at hf ⊢
    replace hf := pm_wlet_un hf
    obtain rfl := Option.some.inj hf
    exact pm_re (r := none) (w2 := w3) 1 (fun F h => h) hq
  · rw [if_neg hc1] at hf
    refine pm_go (i2 := 7) (ls2 := [some (.inr (.inr (16, 0))), some (.inl a1), some (.inl a2)]) (st2 := [.inl (w.1 16 0 2), .inl a1]) (w2 := w) 3 (fun F h => h) ?_
    refine pm_if (P := a1 = (w.1 16 0 2)) (i2 := 8) (i3 := 18) (ls2 := [some (.inr (.inr (16, 0))), some (.inl a1), some (.inl a2)]) (st2 := []) (w2 := w) 1 (fun F h => h) (fun hc4 => ?_) (fun hc4 => ?_)
    · rw [if_pos hc4] at hf
      refine pm_go (i2 := 11) (ls2 := [some (.inr (.inr (16, 0))), some (.inl a1), some (.inl a2)]) (st2 := [.inl (w.1 16 0 3), .inl a2]) (w2 := w) 3 (fun F h => h) ?_
      refine pm_if (P := (w.1 16 0 3) ≤ a2) (i2 := 18) (i3 := 12) (ls2 := [some (.inr (.inr (16, 0))), some (.inl a1), some (.inl a2)]) (st2 := []) (w2 := w) 1 (fun F h => h) (fun hc5 => ?_) (fun hc5 => ?_)
      · rw [if_pos hc5] at hf
        obtain rfl := Option.some.inj hf
        exact pm_re (r := none) (w2 := w) 1 (fun F h => h) hq
      · rw [if_neg hc5] at hf
        refine pm_go (i2 := 15) (ls2 := [some (.inr (.inr (16, 0))), some (.inl a1), some (.inl a2)]) (st2 := []) (w2 := (pm_setI w 16 0 2 a1)) 3 (fun F h => h) ?_
        generalize (pm_setI w 16 0 2 a1) = w6 at hf ⊢
        replace hf := pm_wlet_un hf
        refine pm_go (i2 := 18) (ls2 := [some (.inr (.inr (16, 0))), some (.inl a1), some (.inl a2)]) (st2 := []) (w2 := (pm_setI w6 16 0 3 a2)) 3 (fun F h => h) ?_
        generalize (pm_setI w6 16 0 3 a2) = w7 at hf ⊢
        replace hf := pm_wlet_un hf
        obtain rfl := Option.some.inj hf
        exact pm_re (r := none) (w2 := w7) 1 (fun F h => h) hq
    · rw [if_neg hc4] at hf
      obtain rfl := Option.some.inj hf
      exact pm_re (r := none) (w2 := w) 1 (fun F h => h) hq
set_option maxRecDepth 20000 in
set_option maxHeartbeats 4000000 in
theorem a_X3_takePasses (F : Nat) (w : pm_W) (a1 : Int32) (a2 : Int32) (x : pm_W) (d : Nat) (hd : 1 ≤ d) (hf : f_X3_takePasses F w a1 a2 = some x) : RT d 19 [.inr (.inr (16, 0)), .inl a1, .inl a2] w (none) x := by
  obtain ⟨d, rfl, hd2⟩ := pm_dep hd
  exact pm_start (co := co_X3_takePasses) (nL := 3) (by decide) rfl rfl (Nat.le_of_ble_eq_true rfl) (b_X3_takePasses F d hd2 _ w a1 a2 x hf ⟨rfl, rfl⟩)
def f_X5_knows (F : Nat) (w : pm_W) (a1 : Int32) : Option (Int32) := (if pm_isb (if a1 < 0 then 0 else (if (w.1 3 0 3) ≤ a1 then 0 else (if 5 ≤ a1 then 0 else 1 : Int32) : Int32) : Int32) = true then some (if a1 < 0 then 0 else (if (w.1 3 0 3) ≤ a1 then 0 else (if 5 ≤ a1 then 0 else 1 : Int32) : Int32) : Int32) else none)
set_option maxRecDepth 20000 in
set_option maxHeartbeats 4000000 in
theorem b_X5_knows (F : Nat) (d : Nat) (hd : 0 ≤ d) (Q : pm_Q) (w : pm_W) (a1 : Int32) (x : Int32) (hf : f_X5_knows F w a1 = some x) (hq : Q (some (.inl x)) w) : pm_Gx (RT d) co_X5_knows 0 [some (.inr (.inr (3, 0))), some (.inl a1)] [] w Q := by
  unfold f_X5_knows at hf
  refine pm_go (i2 := 1) (ls2 := [some (.inr (.inr (3, 0))), some (.inl a1)]) (st2 := [.inl a1]) (w2 := w) 1 (fun F h => h) ?_
  have key : pm_Gx (RT d) co_X5_knows 12 [some (.inr (.inr (3, 0))), some (.inl a1)] [.inl (if a1 < 0 then 0 else (if (w.1 3 0 3) ≤ a1 then 0 else (if 5 ≤ a1 then 0 else 1 : Int32) : Int32) : Int32)] w Q := by
    obtain ⟨hz1, hf⟩ := pm_itn hf
    obtain rfl := Option.some.inj hf
    exact pm_re (r := some (.inl (if a1 < 0 then 0 else (if (w.1 3 0 3) ≤ a1 then 0 else (if 5 ≤ a1 then 0 else 1 : Int32) : Int32) : Int32))) (w2 := w) 1 (fun F h => ⟨pm_isb_nar hz1, h⟩) hq
  clear hf
  refine pm_if (P := a1 < 0) (i2 := 11) (i3 := 2) (ls2 := [some (.inr (.inr (3, 0))), some (.inl a1)]) (st2 := []) (w2 := w) 1 (fun F h => h) (fun hc2 => ?_) (fun hc2 => ?_)
  · try simp only [if_pos hc2] at key
    refine pm_go (i2 := 12) (ls2 := [some (.inr (.inr (3, 0))), some (.inl a1)]) (st2 := [.inl 0]) (w2 := w) 1 (fun F h => h) ?_
    exact key
  · try simp only [if_neg hc2] at key
    refine pm_go (i2 := 5) (ls2 := [some (.inr (.inr (3, 0))), some (.inl a1)]) (st2 := [.inl (w.1 3 0 3), .inl a1]) (w2 := w) 3 (fun F h => h) ?_
    refine pm_if (P := (w.1 3 0 3) ≤ a1) (i2 := 11) (i3 := 6) (ls2 := [some (.inr (.inr (3, 0))), some (.inl a1)]) (st2 := []) (w2 := w) 1 (fun F h => h) (fun hc3 => ?_) (fun hc3 => ?_)
    · try simp only [if_pos hc3] at key
      refine pm_go (i2 := 12) (ls2 := [some (.inr (.inr (3, 0))), some (.inl a1)]) (st2 := [.inl 0]) (w2 := w) 1 (fun F h => h) ?_
      exact key
    · try simp only [if_neg hc3] at key
      refine pm_go (i2 := 8) (ls2 := [some (.inr (.inr (3, 0))), some (.inl a1)]) (st2 := [.inl 5, .inl a1]) (w2 := w) 2 (fun F h => h) ?_
      refine pm_if (P := 5 ≤ a1) (i2 := 11) (i3 := 9) (ls2 := [some (.inr (.inr (3, 0))), some (.inl a1)]) (st2 := []) (w2 := w) 1 (fun F h => h) (fun hc4 => ?_) (fun hc4 => ?_)
      · try simp only [if_pos hc4] at key
        refine pm_go (i2 := 12) (ls2 := [some (.inr (.inr (3, 0))), some (.inl a1)]) (st2 := [.inl 0]) (w2 := w) 1 (fun F h => h) ?_
        exact key
      · try simp only [if_neg hc4] at key
        refine pm_go (i2 := 12) (ls2 := [some (.inr (.inr (3, 0))), some (.inl a1)]) (st2 := [.inl 1]) (w2 := w) 2 (fun F h => h) ?_
        exact key
set_option maxRecDepth 20000 in
set_option maxHeartbeats 4000000 in
theorem a_X5_knows (F : Nat) (w : pm_W) (a1 : Int32) (x : Int32) (d : Nat) (hd : 1 ≤ d) (hf : f_X5_knows F w a1 = some x) : RT d 30 [.inr (.inr (3, 0)), .inl a1] w (some (.inl x)) w := by
  obtain ⟨d, rfl, hd2⟩ := pm_dep hd
  exact pm_start (co := co_X5_knows) (nL := 2) (by decide) rfl rfl (Nat.le_of_ble_eq_true rfl) (b_X5_knows F d hd2 _ w a1 x hf ⟨rfl, rfl⟩)
def f_J9_abs (F : Nat) (w : pm_W) (a0 : Int32) : Option (Int32) := some (if 0 ≤ a0 then a0 else -a0 : Int32)
set_option maxRecDepth 20000 in
set_option maxHeartbeats 4000000 in
theorem b_J9_abs (F : Nat) (d : Nat) (hd : 0 ≤ d) (Q : pm_Q) (w : pm_W) (a0 : Int32) (x : Int32) (hf : f_J9_abs F w a0 = some x) (hq : Q (some (.inl x)) w) : pm_Gx (RT d) co_J9_abs_0f7a4 0 [some (.inl a0)] [] w Q := by
  unfold f_J9_abs at hf
  refine pm_go (i2 := 1) (ls2 := [some (.inl a0)]) (st2 := [.inl a0]) (w2 := w) 1 (fun F h => h) ?_
  have key : pm_Gx (RT d) co_J9_abs_0f7a4 6 [some (.inl a0)] [.inl (if 0 ≤ a0 then a0 else -a0 : Int32)] w Q := by
    obtain rfl := Option.some.inj hf
    exact pm_re (r := some (.inl (if 0 ≤ a0 then a0 else -a0 : Int32))) (w2 := w) 1 (fun F h => h) hq
  clear hf
  refine pm_if (P := 0 ≤ a0) (i2 := 5) (i3 := 2) (ls2 := [some (.inl a0)]) (st2 := []) (w2 := w) 1 (fun F h => h) (fun hc1 => ?_) (fun hc1 => ?_)
  · try simp only [if_pos hc1] at key
    refine pm_go (i2 := 6) (ls2 := [some (.inl a0)]) (st2 := [.inl a0]) (w2 := w) 1 (fun F h => h) ?_
    exact key
  · try simp only [if_neg hc1] at key
    refine pm_go (i2 := 6) (ls2 := [some (.inl a0)]) (st2 := [.inl (-a0)]) (w2 := w) 3 (fun F h => h) ?_
    exact key
set_option maxRecDepth 20000 in
set_option maxHeartbeats 4000000 in
theorem a_J9_abs (F : Nat) (w : pm_W) (a0 : Int32) (x : Int32) (d : Nat) (hd : 1 ≤ d) (hf : f_J9_abs F w a0 = some x) : RT d 153 [.inl a0] w (some (.inl x)) w := by
  obtain ⟨d, rfl, hd2⟩ := pm_dep hd
  exact pm_start (co := co_J9_abs_0f7a4) (nL := 1) (by decide) rfl rfl (Nat.le_of_ble_eq_true rfl) (b_J9_abs F d hd2 _ w a0 x hf ⟨rfl, rfl⟩)
def f_J9_max (F : Nat) (w : pm_W) (a0 : Int32) (a1 : Int32) : Option (Int32) := some (if a0 < a1 then a1 else a0 : Int32)
set_option maxRecDepth 20000 in
set_option maxHeartbeats 4000000 in
theorem b_J9_max (F : Nat) (d : Nat) (hd : 0 ≤ d) (Q : pm_Q) (w : pm_W) (a0 : Int32) (a1 : Int32) (x : Int32) (hf : f_J9_max F w a0 a1 = some x) (hq : Q (some (.inl x)) w) : pm_Gx (RT d) co_J9_max_7cf53 0 [some (.inl a0), some (.inl a1)] [] w Q := by
  unfold f_J9_max at hf
  refine pm_go (i2 := 2) (ls2 := [some (.inl a0), some (.inl a1)]) (st2 := [.inl a1, .inl a0]) (w2 := w) 2 (fun F h => h) ?_
  have key : pm_Gx (RT d) co_J9_max_7cf53 6 [some (.inl a0), some (.inl a1)] [.inl (if a0 < a1 then a1 else a0 : Int32)] w Q := by
    obtain rfl := Option.some.inj hf
    exact pm_re (r := some (.inl (if a0 < a1 then a1 else a0 : Int32))) (w2 := w) 1 (fun F h => h) hq
  clear hf
  refine pm_if (P := a0 < a1) (i2 := 5) (i3 := 3) (ls2 := [some (.inl a0), some (.inl a1)]) (st2 := []) (w2 := w) 1 (fun F h => h) (fun hc1 => ?_) (fun hc1 => ?_)
  · try simp only [if_pos hc1] at key
    refine pm_go (i2 := 6) (ls2 := [some (.inl a0), some (.inl a1)]) (st2 := [.inl a1]) (w2 := w) 1 (fun F h => h) ?_
    exact key
  · try simp only [if_neg hc1] at key
    refine pm_go (i2 := 6) (ls2 := [some (.inl a0), some (.inl a1)]) (st2 := [.inl a0]) (w2 := w) 2 (fun F h => h) ?_
    exact key
set_option maxRecDepth 20000 in
set_option maxHeartbeats 4000000 in
theorem a_J9_max (F : Nat) (w : pm_W) (a0 : Int32) (a1 : Int32) (x : Int32) (d : Nat) (hd : 1 ≤ d) (hf : f_J9_max F w a0 a1 = some x) : RT d 154 [.inl a0, .inl a1] w (some (.inl x)) w := by
  obtain ⟨d, rfl, hd2⟩ := pm_dep hd
  exact pm_start (co := co_J9_max_7cf53) (nL := 2) (by decide) rfl rfl (Nat.le_of_ble_eq_true rfl) (b_J9_max F d hd2 _ w a0 a1 x hf ⟨rfl, rfl⟩)
def f_X5_hand (F : Nat) (w : pm_W) (a1 : Nat) (a2 : Int32) : Option (pm_W) := ((f_X5_knows F w a2).bind fun r1 => (if r1 = 0 then some w else (if pm_inb a2 5 = true then ((f_J9_abs F w ((w.1 8 a1 a2.toNatClampNeg) - (w.1 7 a1 2))).bind fun r5 => ((f_J9_max F w 0 ((w.1 7 a1 3) - r5)).bind fun r7 => (pm_wlet (pm_setI w 7 a1 3 r7) fun w9 => (pm_wlet (pm_setI w9 7 a1 2 (w.1 8 a1 a2.toNatClampNeg)) fun w10 => (if pm_inb a2 5 = true then (if (w10.1 7 a1 3) < (w10.1 5 0 a2.toNatClampNeg) then some w10 else (pm_wlet (pm_setI w10 7 a1 4 ((w10.1 7 a1 4) ||| (1 <<< (a2 &&& 31)))) fun w13 => some w13)) else none))))) else none)))
set_option maxRecDepth 20000 in
set_option maxHeartbeats 4000000 in
theorem b_X5_hand (F : Nat) (d : Nat) (hd : 1 ≤ d) (Q : pm_Q) (w : pm_W) (a1 : Nat) (a2 : Int32) (x : pm_W) (hf : f_X5_hand F w a1 a2 = some x) (hq : Q (none) x) : pm_Gx (RT d) co_X5_hand 0 [some (.inr (.inr (3, 0))), some (.inr (.inr (7, a1))), some (.inl a2), none] [] w Q := by
  unfold f_X5_hand at hf
  refine pm_go (i2 := 2) (ls2 := [some (.inr (.inr (3, 0))), some (.inr (.inr (7, a1))), some (.inl a2), none]) (st2 := [.inl a2, .inr (.inr (3, 0))]) (w2 := w) 2 (fun F h => h) ?_
  obtain ⟨r1, hr2, hf⟩ := Option.bind_eq_some_iff.mp hf
  refine pm_ca (y := 30) (as := [.inr (.inr (3, 0)), .inl a2]) (r := some (.inl r1)) (w2 := w) (w1 := w) (t := []) (i2 := 3) (ls2 := [some (.inr (.inr (3, 0))), some (.inr (.inr (7, a1))), some (.inl a2), none]) 1 (a_X5_knows F w a2 r1 d (by omega) hr2) (fun F h => h) ?_
  show pm_Gx (RT d) co_X5_hand 3 [some (.inr (.inr (3, 0))), some (.inr (.inr (7, a1))), some (.inl a2), none] [.inl r1] w Q
  refine pm_if (P := r1 = 0) (i2 := 4) (i3 := 5) (ls2 := [some (.inr (.inr (3, 0))), some (.inr (.inr (7, a1))), some (.inl a2), none]) (st2 := []) (w2 := w) 1 (fun F h => h) (fun hc3 => ?_) (fun hc3 => ?_)
  · rw [if_pos hc3] at hf
    obtain rfl := Option.some.inj hf
    exact pm_re (r := none) (w2 := w) 1 (fun F h => h) hq
  · rw [if_neg hc3] at hf
    obtain ⟨hs4, hf⟩ := pm_itn hf
    refine pm_go (i2 := 18) (ls2 := [some (.inr (.inr (3, 0))), some (.inr (.inr (7, a1))), some (.inl a2), some (.inl (w.1 8 a1 a2.toNatClampNeg))]) (st2 := [.inl ((w.1 8 a1 a2.toNatClampNeg) - (w.1 7 a1 2)), .inl (w.1 7 a1 3), .inl 0, .inr (.inr (7, a1))]) (w2 := w) 13 (fun F h => ⟨(pm_inb_in hs4), h⟩) ?_
    obtain ⟨r5, hr6, hf⟩ := Option.bind_eq_some_iff.mp hf
    refine pm_ca (y := 153) (as := [.inl ((w.1 8 a1 a2.toNatClampNeg) - (w.1 7 a1 2))]) (r := some (.inl r5)) (w2 := w) (w1 := w) (t := [.inl (w.1 7 a1 3), .inl 0, .inr (.inr (7, a1))]) (i2 := 19) (ls2 := [some (.inr (.inr (3, 0))), some (.inr (.inr (7, a1))), some (.inl a2), some (.inl (w.1 8 a1 a2.toNatClampNeg))]) 1 (a_J9_abs F w ((w.1 8 a1 a2.toNatClampNeg) - (w.1 7 a1 2)) r5 d (by omega) hr6) (fun F h => h) ?_
    show pm_Gx (RT d) co_X5_hand 19 [some (.inr (.inr (3, 0))), some (.inr (.inr (7, a1))), some (.inl a2), some (.inl (w.1 8 a1 a2.toNatClampNeg))] [.inl r5, .inl (w.1 7 a1 3), .inl 0, .inr (.inr (7, a1))] w Q
    refine pm_go (i2 := 20) (ls2 := [some (.inr (.inr (3, 0))), some (.inr (.inr (7, a1))), some (.inl a2), some (.inl (w.1 8 a1 a2.toNatClampNeg))]) (st2 := [.inl ((w.1 7 a1 3) - r5), .inl 0, .inr (.inr (7, a1))]) (w2 := w) 1 (fun F h => h) ?_
    obtain ⟨r7, hr8, hf⟩ := Option.bind_eq_some_iff.mp hf
    refine pm_ca (y := 154) (as := [.inl 0, .inl ((w.1 7 a1 3) - r5)]) (r := some (.inl r7)) (w2 := w) (w1 := w) (t := [.inr (.inr (7, a1))]) (i2 := 21) (ls2 := [some (.inr (.inr (3, 0))), some (.inr (.inr (7, a1))), some (.inl a2), some (.inl (w.1 8 a1 a2.toNatClampNeg))]) 1 (a_J9_max F w 0 ((w.1 7 a1 3) - r5) r7 d (by omega) hr8) (fun F h => h) ?_
    show pm_Gx (RT d) co_X5_hand 21 [some (.inr (.inr (3, 0))), some (.inr (.inr (7, a1))), some (.inl a2), some (.inl (w.1 8 a1 a2.toNatClampNeg))] [.inl r7, .inr (.inr (7, a1))] w Q
    refine pm_go (i2 := 22) (ls2 := [some (.inr (.inr (3, 0))), some (.inr (.inr (7, a1))), some (.inl a2), some (.inl (w.1 8 a1 a2.toNatClampNeg))]) (st2 := []) (w2 := (pm_setI w 7 a1 3 r7)) 1 (fun F h => h) ?_
    generalize (pm_setI w 7 a1 3 r7) = w9 at hf ⊢
    replace hf := pm_wlet_un hf
    refine pm_go (i2 := 25) (ls2 := [some (.inr (.inr (3, 0))), some (.inr (.inr (7, a1))), some (.inl a2), some (.inl (w.1 8 a1 a2.toNatClampNeg))]) (st2 := []) (w2 := (pm_setI w9 7 a1 2 (w.1 8 a1 a2.toNatClampNeg))) 3 (fun F h => h) ?_
    generalize (pm_setI w9 7 a1 2 (w.1 8 a1 a2.toNatClampNeg)) = w10 at hf ⊢
    replace hf := pm_wlet_un hf
    obtain ⟨hs11, hf⟩ := pm_itn hf
    refine pm_go (i2 := 31) (ls2 := [some (.inr (.inr (3, 0))), some (.inr (.inr (7, a1))), some (.inl a2), some (.inl (w.1 8 a1 a2.toNatClampNeg))]) (st2 := [.inl (w10.1 5 0 a2.toNatClampNeg), .inl (w10.1 7 a1 3)]) (w2 := w10) 6 (fun F h => ⟨(pm_inb_in hs11), h⟩) ?_
    refine pm_if (P := (w10.1 7 a1 3) < (w10.1 5 0 a2.toNatClampNeg)) (i2 := 40) (i3 := 32) (ls2 := [some (.inr (.inr (3, 0))), some (.inr (.inr (7, a1))), some (.inl a2), some (.inl (w.1 8 a1 a2.toNatClampNeg))]) (st2 := []) (w2 := w10) 1 (fun F h => h) (fun hc12 => ?_) (fun hc12 => ?_)
    · rw [if_pos hc12] at hf
      obtain rfl := Option.some.inj hf
      exact pm_re (r := none) (w2 := w10) 1 (fun F h => h) hq
    · rw [if_neg hc12] at hf
      refine pm_go (i2 := 40) (ls2 := [some (.inr (.inr (3, 0))), some (.inr (.inr (7, a1))), some (.inl a2), some (.inl (w.1 8 a1 a2.toNatClampNeg))]) (st2 := []) (w2 := (pm_setI w10 7 a1 4 ((w10.1 7 a1 4) ||| (1 <<< (a2 &&& 31))))) 8 (fun F h => h) ?_
      generalize (pm_setI w10 7 a1 4 ((w10.1 7 a1 4) ||| (1 <<< (a2 &&& 31)))) = w13 at hf ⊢
      replace hf := pm_wlet_un hf
      obtain rfl := Option.some.inj hf
      exact pm_re (r := none) (w2 := w13) 1 (fun F h => h) hq
set_option maxRecDepth 20000 in
set_option maxHeartbeats 4000000 in
theorem a_X5_hand (F : Nat) (w : pm_W) (a1 : Nat) (a2 : Int32) (x : pm_W) (d : Nat) (hd : 2 ≤ d) (hf : f_X5_hand F w a1 a2 = some x) : RT d 35 [.inr (.inr (3, 0)), .inr (.inr (7, a1)), .inl a2] w (none) x := by
  obtain ⟨d, rfl, hd2⟩ := pm_dep hd
  exact pm_start (co := co_X5_hand) (nL := 4) (by decide) rfl rfl (Nat.le_of_ble_eq_true rfl) (b_X5_hand F d hd2 _ w a1 a2 x hf ⟨rfl, rfl⟩)
def f_X3_tryPasses_L30 (F : Nat) (rec : pm_W → Int32 → Int32 → Int32 → Option (pm_W)) : Nat → pm_W → Int32 → Int32 → Int32 → Nat → Nat → Int32 → Option (Int32 × pm_W)
  | 0, _, _, _, _, _, _, _ => none
  | n + 1, w, v1, v2, v3, v4, v5, v6 => (if (w.1 3 0 3) ≤ v6 then some (v6, w) else (if ((v3 >>> (v6 &&& 31)) &&& 1) = 1 then ((f_X4_become F w v5 v4).bind fun r12 => ((f_X5_hand F r12 v5 v6).bind fun r14 => ((rec r14 (v1 + 1) (((v2 * 10) + v6) + 1) (v3 &&& ((1 <<< (v6 &&& 31)) ^^^ (-1)))).bind fun r16 => f_X3_tryPasses_L30 F rec n r16 v1 v2 v3 v4 v5 (v6 + 1)))) else f_X3_tryPasses_L30 F rec n w v1 v2 v3 v4 v5 (v6 + 1)))
def f_X3_tryPasses_B (F : Nat) (rec : pm_W → Int32 → Int32 → Int32 → Option (pm_W)) (w : pm_W) (a1 : Int32) (a2 : Int32) (a3 : Int32) : Option (pm_W) := (if a1 < 0 then some w else (if a1 ≤ 5 then (if pm_inb a1 6 = true then ((f_J6_bitCount F w (w.1 7 (17 + a1.toNatClampNeg) 4)).bind fun r4 => ((f_X3_takePasses F w r4 a2).bind fun r6 => (if a1 = 5 then some r6 else (if pm_inb (a1 + 1) 6 = true then ((f_X3_tryPasses_L30 F rec F r6 a1 a2 a3 (17 + a1.toNatClampNeg) (17 + (a1 + 1).toNatClampNeg) 0).bind fun x18 => some x18.2) else none)))) else none) else some w))
def f_X3_tryPasses (F : Nat) : Nat → pm_W → Int32 → Int32 → Int32 → Option (pm_W)
  | 0, _, _, _, _ => none
  | D + 1, w, a1, a2, a3 => f_X3_tryPasses_B F (f_X3_tryPasses F D) w a1 a2 a3
set_option maxRecDepth 20000 in
set_option maxHeartbeats 4000000 in
theorem a_X3_tryPasses_L30 (F : Nat) (rec : pm_W → Int32 → Int32 → Int32 → Option (pm_W)) (d : Nat) (hd : 2 ≤ d) (hrec : ∀ (w : pm_W) (a1 : Int32) (a2 : Int32) (a3 : Int32) (r : pm_W), rec w a1 a2 a3 = some r → RT d 18 [.inr (.inr (16, 0)), .inl a1, .inl a2, .inl a3] w (none) r) (Q : pm_Q) : ∀ (n : Nat) (w : pm_W) (v1 : Int32) (v2 : Int32) (v3 : Int32) (v4 : Nat) (v5 : Nat) (v6 : Int32) (x : Int32 × pm_W), f_X3_tryPasses_L30 F rec n w v1 v2 v3 v4 v5 v6 = some x → pm_Gx (RT d) co_X3_tryPasses 71 [some (.inr (.inr (16, 0))), some (.inl v1), some (.inl v2), some (.inl v3), some (.inr (.inr (7, v4))), some (.inr (.inr (7, v5))), some (.inl x.1)] [] x.2 Q → pm_Gx (RT d) co_X3_tryPasses 30 [some (.inr (.inr (16, 0))), some (.inl v1), some (.inl v2), some (.inl v3), some (.inr (.inr (7, v4))), some (.inr (.inr (7, v5))), some (.inl v6)] [] w Q := by
  intro n
  induction n with
  | zero =>
    intro w v1 v2 v3 v4 v5 v6 x hf
    cases hf
  | succ n ih =>
    intro w v1 v2 v3 v4 v5 v6 x hf hk
    rw [f_X3_tryPasses_L30] at hf
    refine pm_go (i2 := 34) (ls2 := [some (.inr (.inr (16, 0))), some (.inl v1), some (.inl v2), some (.inl v3), some (.inr (.inr (7, v4))), some (.inr (.inr (7, v5))), some (.inl v6)]) (st2 := [.inl (w.1 3 0 3), .inl v6]) (w2 := w) 4 (fun F h => h) ?_
    refine pm_if (P := (w.1 3 0 3) ≤ v6) (i2 := 71) (i3 := 35) (ls2 := [some (.inr (.inr (16, 0))), some (.inl v1), some (.inl v2), some (.inl v3), some (.inr (.inr (7, v4))), some (.inr (.inr (7, v5))), some (.inl v6)]) (st2 := []) (w2 := w) 1 (fun F h => h) (fun hc10 => ?_) (fun hc10 => ?_)
    · rw [if_pos hc10] at hf
      obtain rfl := Option.some.inj hf
      exact hk
    · rw [if_neg hc10] at hf
      refine pm_go (i2 := 41) (ls2 := [some (.inr (.inr (16, 0))), some (.inl v1), some (.inl v2), some (.inl v3), some (.inr (.inr (7, v4))), some (.inr (.inr (7, v5))), some (.inl v6)]) (st2 := [.inl 1, .inl ((v3 >>> (v6 &&& 31)) &&& 1)]) (w2 := w) 6 (fun F h => h) ?_
      refine pm_if (P := ((v3 >>> (v6 &&& 31)) &&& 1) = 1) (i2 := 42) (i3 := 69) (ls2 := [some (.inr (.inr (16, 0))), some (.inl v1), some (.inl v2), some (.inl v3), some (.inr (.inr (7, v4))), some (.inr (.inr (7, v5))), some (.inl v6)]) (st2 := []) (w2 := w) 1 (fun F h => h) (fun hc11 => ?_) (fun hc11 => ?_)
      · rw [if_pos hc11] at hf
        refine pm_go (i2 := 44) (ls2 := [some (.inr (.inr (16, 0))), some (.inl v1), some (.inl v2), some (.inl v3), some (.inr (.inr (7, v4))), some (.inr (.inr (7, v5))), some (.inl v6)]) (st2 := [.inr (.inr (7, v4)), .inr (.inr (7, v5))]) (w2 := w) 2 (fun F h => h) ?_
        obtain ⟨r12, hr13, hf⟩ := Option.bind_eq_some_iff.mp hf
        refine pm_ca (y := 27) (as := [.inr (.inr (7, v5)), .inr (.inr (7, v4))]) (r := none) (w2 := w) (w1 := r12) (t := []) (i2 := 45) (ls2 := [some (.inr (.inr (16, 0))), some (.inl v1), some (.inl v2), some (.inl v3), some (.inr (.inr (7, v4))), some (.inr (.inr (7, v5))), some (.inl v6)]) 1 (a_X4_become F w v5 v4 r12 d (by omega) hr13) (fun F h => h) ?_
        show pm_Gx (RT d) co_X3_tryPasses 45 [some (.inr (.inr (16, 0))), some (.inl v1), some (.inl v2), some (.inl v3), some (.inr (.inr (7, v4))), some (.inr (.inr (7, v5))), some (.inl v6)] [] r12 Q
        refine pm_go (i2 := 49) (ls2 := [some (.inr (.inr (16, 0))), some (.inl v1), some (.inl v2), some (.inl v3), some (.inr (.inr (7, v4))), some (.inr (.inr (7, v5))), some (.inl v6)]) (st2 := [.inl v6, .inr (.inr (7, v5)), .inr (.inr (3, 0))]) (w2 := r12) 4 (fun F h => h) ?_
        obtain ⟨r14, hr15, hf⟩ := Option.bind_eq_some_iff.mp hf
        refine pm_ca (y := 35) (as := [.inr (.inr (3, 0)), .inr (.inr (7, v5)), .inl v6]) (r := none) (w2 := r12) (w1 := r14) (t := []) (i2 := 50) (ls2 := [some (.inr (.inr (16, 0))), some (.inl v1), some (.inl v2), some (.inl v3), some (.inr (.inr (7, v4))), some (.inr (.inr (7, v5))), some (.inl v6)]) 1 (a_X5_hand F r12 v5 v6 r14 d (by omega) hr15) (fun F h => h) ?_
        show pm_Gx (RT d) co_X3_tryPasses 50 [some (.inr (.inr (16, 0))), some (.inl v1), some (.inl v2), some (.inl v3), some (.inr (.inr (7, v4))), some (.inr (.inr (7, v5))), some (.inl v6)] [] r14 Q
        refine pm_go (i2 := 68) (ls2 := [some (.inr (.inr (16, 0))), some (.inl v1), some (.inl v2), some (.inl v3), some (.inr (.inr (7, v4))), some (.inr (.inr (7, v5))), some (.inl v6)]) (st2 := [.inl (v3 &&& ((1 <<< (v6 &&& 31)) ^^^ (-1))), .inl (((v2 * 10) + v6) + 1), .inl (v1 + 1), .inr (.inr (16, 0))]) (w2 := r14) 18 (fun F h => h) ?_
        obtain ⟨r16, hr17, hf⟩ := Option.bind_eq_some_iff.mp hf
        refine pm_ca (y := 18) (as := [.inr (.inr (16, 0)), .inl (v1 + 1), .inl (((v2 * 10) + v6) + 1), .inl (v3 &&& ((1 <<< (v6 &&& 31)) ^^^ (-1)))]) (r := none) (w2 := r14) (w1 := r16) (t := []) (i2 := 69) (ls2 := [some (.inr (.inr (16, 0))), some (.inl v1), some (.inl v2), some (.inl v3), some (.inr (.inr (7, v4))), some (.inr (.inr (7, v5))), some (.inl v6)]) 1 (hrec r14 (v1 + 1) (((v2 * 10) + v6) + 1) (v3 &&& ((1 <<< (v6 &&& 31)) ^^^ (-1))) r16 hr17) (fun F h => h) ?_
        show pm_Gx (RT d) co_X3_tryPasses 69 [some (.inr (.inr (16, 0))), some (.inl v1), some (.inl v2), some (.inl v3), some (.inr (.inr (7, v4))), some (.inr (.inr (7, v5))), some (.inl v6)] [] r16 Q
        refine pm_go (i2 := 30) (ls2 := [some (.inr (.inr (16, 0))), some (.inl v1), some (.inl v2), some (.inl v3), some (.inr (.inr (7, v4))), some (.inr (.inr (7, v5))), some (.inl (v6 + 1))]) (st2 := []) (w2 := r16) 2 (fun F h => h) ?_
        exact ih r16 v1 v2 v3 v4 v5 (v6 + 1) _ hf hk
      · rw [if_neg hc11] at hf
        refine pm_go (i2 := 30) (ls2 := [some (.inr (.inr (16, 0))), some (.inl v1), some (.inl v2), some (.inl v3), some (.inr (.inr (7, v4))), some (.inr (.inr (7, v5))), some (.inl (v6 + 1))]) (st2 := []) (w2 := w) 2 (fun F h => h) ?_
        exact ih w v1 v2 v3 v4 v5 (v6 + 1) _ hf hk
set_option maxRecDepth 20000 in
set_option maxHeartbeats 4000000 in
theorem b_X3_tryPasses (F : Nat) (rec : pm_W → Int32 → Int32 → Int32 → Option (pm_W)) (d : Nat) (hd : 2 ≤ d) (hrec : ∀ (w : pm_W) (a1 : Int32) (a2 : Int32) (a3 : Int32) (r : pm_W), rec w a1 a2 a3 = some r → RT d 18 [.inr (.inr (16, 0)), .inl a1, .inl a2, .inl a3] w (none) r) (Q : pm_Q) (w : pm_W) (a1 : Int32) (a2 : Int32) (a3 : Int32) (x : pm_W) (hf : f_X3_tryPasses_B F rec w a1 a2 a3 = some x) (hq : Q (none) x) : pm_Gx (RT d) co_X3_tryPasses 0 [some (.inr (.inr (16, 0))), some (.inl a1), some (.inl a2), some (.inl a3), none, none, none] [] w Q := by
  unfold f_X3_tryPasses_B at hf
  refine pm_go (i2 := 1) (ls2 := [some (.inr (.inr (16, 0))), some (.inl a1), some (.inl a2), some (.inl a3), none, none, none]) (st2 := [.inl a1]) (w2 := w) 1 (fun F h => h) ?_
  refine pm_if (P := a1 < 0) (i2 := 5) (i3 := 2) (ls2 := [some (.inr (.inr (16, 0))), some (.inl a1), some (.inl a2), some (.inl a3), none, none, none]) (st2 := []) (w2 := w) 1 (fun F h => h) (fun hc1 => ?_) (fun hc1 => ?_)
  · rw [if_pos hc1] at hf
    obtain rfl := Option.some.inj hf
    exact pm_re (r := none) (w2 := w) 1 (fun F h => h) hq
  · rw [if_neg hc1] at hf
    refine pm_go (i2 := 4) (ls2 := [some (.inr (.inr (16, 0))), some (.inl a1), some (.inl a2), some (.inl a3), none, none, none]) (st2 := [.inl 5, .inl a1]) (w2 := w) 2 (fun F h => h) ?_
    refine pm_if (P := a1 ≤ 5) (i2 := 6) (i3 := 5) (ls2 := [some (.inr (.inr (16, 0))), some (.inl a1), some (.inl a2), some (.inl a3), none, none, none]) (st2 := []) (w2 := w) 1 (fun F h => h) (fun hc2 => ?_) (fun hc2 => ?_)
    · rw [if_pos hc2] at hf
      obtain ⟨hs3, hf⟩ := pm_itn hf
      refine pm_go (i2 := 14) (ls2 := [some (.inr (.inr (16, 0))), some (.inl a1), some (.inl a2), some (.inl a3), some (.inr (.inr (7, (17 + a1.toNatClampNeg)))), none, none]) (st2 := [.inl (w.1 7 (17 + a1.toNatClampNeg) 4), .inr (.inr (16, 0))]) (w2 := w) 8 (fun F h => ⟨(pm_inb_in hs3), h⟩) ?_
      obtain ⟨r4, hr5, hf⟩ := Option.bind_eq_some_iff.mp hf
      refine pm_ca (y := 151) (as := [.inl (w.1 7 (17 + a1.toNatClampNeg) 4)]) (r := some (.inl r4)) (w2 := w) (w1 := w) (t := [.inr (.inr (16, 0))]) (i2 := 15) (ls2 := [some (.inr (.inr (16, 0))), some (.inl a1), some (.inl a2), some (.inl a3), some (.inr (.inr (7, (17 + a1.toNatClampNeg)))), none, none]) 1 (a_J6_bitCount F w (w.1 7 (17 + a1.toNatClampNeg) 4) r4 d (by omega) hr5) (fun F h => h) ?_
      show pm_Gx (RT d) co_X3_tryPasses 15 [some (.inr (.inr (16, 0))), some (.inl a1), some (.inl a2), some (.inl a3), some (.inr (.inr (7, (17 + a1.toNatClampNeg)))), none, none] [.inl r4, .inr (.inr (16, 0))] w Q
      refine pm_go (i2 := 16) (ls2 := [some (.inr (.inr (16, 0))), some (.inl a1), some (.inl a2), some (.inl a3), some (.inr (.inr (7, (17 + a1.toNatClampNeg)))), none, none]) (st2 := [.inl a2, .inl r4, .inr (.inr (16, 0))]) (w2 := w) 1 (fun F h => h) ?_
      obtain ⟨r6, hr7, hf⟩ := Option.bind_eq_some_iff.mp hf
      refine pm_ca (y := 19) (as := [.inr (.inr (16, 0)), .inl r4, .inl a2]) (r := none) (w2 := w) (w1 := r6) (t := []) (i2 := 17) (ls2 := [some (.inr (.inr (16, 0))), some (.inl a1), some (.inl a2), some (.inl a3), some (.inr (.inr (7, (17 + a1.toNatClampNeg)))), none, none]) 1 (a_X3_takePasses F w r4 a2 r6 d (by omega) hr7) (fun F h => h) ?_
      show pm_Gx (RT d) co_X3_tryPasses 17 [some (.inr (.inr (16, 0))), some (.inl a1), some (.inl a2), some (.inl a3), some (.inr (.inr (7, (17 + a1.toNatClampNeg)))), none, none] [] r6 Q
      refine pm_go (i2 := 19) (ls2 := [some (.inr (.inr (16, 0))), some (.inl a1), some (.inl a2), some (.inl a3), some (.inr (.inr (7, (17 + a1.toNatClampNeg)))), none, none]) (st2 := [.inl 5, .inl a1]) (w2 := r6) 2 (fun F h => h) ?_
      refine pm_if (P := a1 = 5) (i2 := 20) (i3 := 21) (ls2 := [some (.inr (.inr (16, 0))), some (.inl a1), some (.inl a2), some (.inl a3), some (.inr (.inr (7, (17 + a1.toNatClampNeg)))), none, none]) (st2 := []) (w2 := r6) 1 (fun F h => h) (fun hc8 => ?_) (fun hc8 => ?_)
      · rw [if_pos hc8] at hf
        obtain rfl := Option.some.inj hf
        exact pm_re (r := none) (w2 := r6) 1 (fun F h => h) hq
      · rw [if_neg hc8] at hf
        obtain ⟨hs9, hf⟩ := pm_itn hf
        refine pm_go (i2 := 30) (ls2 := [some (.inr (.inr (16, 0))), some (.inl a1), some (.inl a2), some (.inl a3), some (.inr (.inr (7, (17 + a1.toNatClampNeg)))), some (.inr (.inr (7, (17 + (a1 + 1).toNatClampNeg)))), some (.inl 0)]) (st2 := []) (w2 := r6) 9 (fun F h => ⟨(pm_inb_in hs9), h⟩) ?_
        obtain ⟨x18, hx19, hf⟩ := Option.bind_eq_some_iff.mp hf
        refine a_X3_tryPasses_L30 F rec d hd hrec Q F r6 a1 a2 a3 (17 + a1.toNatClampNeg) (17 + (a1 + 1).toNatClampNeg) 0 x18 hx19 ?_
        obtain rfl := Option.some.inj hf
        exact pm_re (r := none) (w2 := x18.2) 1 (fun F h => h) hq
    · rw [if_neg hc2] at hf
      obtain rfl := Option.some.inj hf
      exact pm_re (r := none) (w2 := w) 1 (fun F h => h) hq
set_option maxRecDepth 20000 in
set_option maxHeartbeats 4000000 in
theorem a_X3_tryPasses_D (F : Nat) : ∀ (D : Nat) (w : pm_W) (a1 : Int32) (a2 : Int32) (a3 : Int32) (x : pm_W) (d : Nat) (hd : 3 + D ≤ d) (hf : f_X3_tryPasses F D w a1 a2 a3 = some x), RT d 18 [.inr (.inr (16, 0)), .inl a1, .inl a2, .inl a3] w (none) x := by
  intro D
  induction D with
  | zero =>
    intro w a1 a2 a3 x d hd hf
    cases hf
  | succ D ih =>
    intro w a1 a2 a3 x d hd hf
    obtain ⟨d, rfl, hd2⟩ := pm_dep (show (3 + D) + 1 ≤ d by omega)
    exact pm_start (co := co_X3_tryPasses) (nL := 7) (by decide) rfl rfl (Nat.le_of_ble_eq_true rfl) (b_X3_tryPasses F (f_X3_tryPasses F D) d (by omega) (fun w a1 a2 a3 r hr => ih w a1 a2 a3 r d (by omega) hr) _ w a1 a2 a3 x hf ⟨rfl, rfl⟩)
theorem a_X3_tryPasses (F : Nat) (w : pm_W) (a1 : Int32) (a2 : Int32) (a3 : Int32) (x : pm_W) (d : Nat) (hd : 11 ≤ d) (hf : f_X3_tryPasses F 8 w a1 a2 a3 = some x) : RT d 18 [.inr (.inr (16, 0)), .inl a1, .inl a2, .inl a3] w (none) x := a_X3_tryPasses_D F 8 w a1 a2 a3 x d (by omega) hf
def f_X3_planPasses (F : Nat) (w : pm_W) (a1 : Nat) (a2 : Int32) (a3 : Int32) : Option (pm_W) := ((f_X3_trialFrom F w a1).bind fun r1 => (pm_wlet (pm_setI r1.2 7 r1.1 4 a2) fun w3 => (pm_wlet (pm_setI w3 16 0 2 (-1)) fun w4 => (pm_wlet (pm_setI w4 16 0 3 0) fun w5 => ((f_X3_tryPasses F 8 w5 0 0 a3).bind fun r6 => some r6)))))
set_option maxRecDepth 20000 in
set_option maxHeartbeats 4000000 in
theorem b_X3_planPasses (F : Nat) (d : Nat) (hd : 11 ≤ d) (Q : pm_Q) (w : pm_W) (a1 : Nat) (a2 : Int32) (a3 : Int32) (x : pm_W) (hf : f_X3_planPasses F w a1 a2 a3 = some x) (hq : Q (none) x) : pm_Gx (RT d) co_X3_planPasses 0 [some (.inr (.inr (16, 0))), some (.inr (.inr (7, a1))), some (.inl a2), some (.inl a3)] [] w Q := by
  unfold f_X3_planPasses at hf
  refine pm_go (i2 := 2) (ls2 := [some (.inr (.inr (16, 0))), some (.inr (.inr (7, a1))), some (.inl a2), some (.inl a3)]) (st2 := [.inr (.inr (7, a1)), .inr (.inr (16, 0))]) (w2 := w) 2 (fun F h => h) ?_
  obtain ⟨r1, hr2, hf⟩ := Option.bind_eq_some_iff.mp hf
  refine pm_ca (y := 16) (as := [.inr (.inr (16, 0)), .inr (.inr (7, a1))]) (r := some (.inr (.inr (7, r1.1)))) (w2 := w) (w1 := r1.2) (t := []) (i2 := 3) (ls2 := [some (.inr (.inr (16, 0))), some (.inr (.inr (7, a1))), some (.inl a2), some (.inl a3)]) 1 (a_X3_trialFrom F w a1 r1 d (by omega) hr2) (fun F h => h) ?_
  show pm_Gx (RT d) co_X3_planPasses 3 [some (.inr (.inr (16, 0))), some (.inr (.inr (7, a1))), some (.inl a2), some (.inl a3)] [.inr (.inr (7, r1.1))] r1.2 Q
  refine pm_go (i2 := 5) (ls2 := [some (.inr (.inr (16, 0))), some (.inr (.inr (7, a1))), some (.inl a2), some (.inl a3)]) (st2 := []) (w2 := (pm_setI r1.2 7 r1.1 4 a2)) 2 (fun F h => h) ?_
  generalize (pm_setI r1.2 7 r1.1 4 a2) = w3 at hf ⊢
  replace hf := pm_wlet_un hf
  refine pm_go (i2 := 8) (ls2 := [some (.inr (.inr (16, 0))), some (.inr (.inr (7, a1))), some (.inl a2), some (.inl a3)]) (st2 := []) (w2 := (pm_setI w3 16 0 2 (-1))) 3 (fun F h => h) ?_
  generalize (pm_setI w3 16 0 2 (-1)) = w4 at hf ⊢
  replace hf := pm_wlet_un hf
  refine pm_go (i2 := 11) (ls2 := [some (.inr (.inr (16, 0))), some (.inr (.inr (7, a1))), some (.inl a2), some (.inl a3)]) (st2 := []) (w2 := (pm_setI w4 16 0 3 0)) 3 (fun F h => h) ?_
  generalize (pm_setI w4 16 0 3 0) = w5 at hf ⊢
  replace hf := pm_wlet_un hf
  refine pm_go (i2 := 15) (ls2 := [some (.inr (.inr (16, 0))), some (.inr (.inr (7, a1))), some (.inl a2), some (.inl a3)]) (st2 := [.inl a3, .inl 0, .inl 0, .inr (.inr (16, 0))]) (w2 := w5) 4 (fun F h => h) ?_
  obtain ⟨r6, hr7, hf⟩ := Option.bind_eq_some_iff.mp hf
  refine pm_ca (y := 18) (as := [.inr (.inr (16, 0)), .inl 0, .inl 0, .inl a3]) (r := none) (w2 := w5) (w1 := r6) (t := []) (i2 := 16) (ls2 := [some (.inr (.inr (16, 0))), some (.inr (.inr (7, a1))), some (.inl a2), some (.inl a3)]) 1 (a_X3_tryPasses F w5 0 0 a3 r6 d (by omega) hr7) (fun F h => h) ?_
  show pm_Gx (RT d) co_X3_planPasses 16 [some (.inr (.inr (16, 0))), some (.inr (.inr (7, a1))), some (.inl a2), some (.inl a3)] [] r6 Q
  obtain rfl := Option.some.inj hf
  exact pm_re (r := none) (w2 := r6) 1 (fun F h => h) hq
set_option maxRecDepth 20000 in
set_option maxHeartbeats 4000000 in
theorem a_X3_planPasses (F : Nat) (w : pm_W) (a1 : Nat) (a2 : Int32) (a3 : Int32) (x : pm_W) (d : Nat) (hd : 12 ≤ d) (hf : f_X3_planPasses F w a1 a2 a3 = some x) : RT d 17 [.inr (.inr (16, 0)), .inr (.inr (7, a1)), .inl a2, .inl a3] w (none) x := by
  obtain ⟨d, rfl, hd2⟩ := pm_dep hd
  exact pm_start (co := co_X3_planPasses) (nL := 4) (by decide) rfl rfl (Nat.le_of_ble_eq_true rfl) (b_X3_planPasses F d hd2 _ w a1 a2 a3 x hf ⟨rfl, rfl⟩)
def f_X1_mostOf (F : Nat) (w : pm_W) (a1 : Nat) (a2 : Int32) : Option ((Int32 × pm_W)) := ((f_X3_planPasses F w a1 0 a2).bind fun r1 => some (r1.1 16 0 2, r1))
set_option maxRecDepth 20000 in
set_option maxHeartbeats 4000000 in
theorem b_X1_mostOf (F : Nat) (d : Nat) (hd : 12 ≤ d) (Q : pm_Q) (w : pm_W) (a1 : Nat) (a2 : Int32) (x : (Int32 × pm_W)) (hf : f_X1_mostOf F w a1 a2 = some x) (hq : Q (some (.inl x.1)) x.2) : pm_Gx (RT d) co_X1_mostOf 0 [some (.inr (.inr (18, 0))), some (.inr (.inr (7, a1))), some (.inl a2)] [] w Q := by
  unfold f_X1_mostOf at hf
  refine pm_go (i2 := 5) (ls2 := [some (.inr (.inr (18, 0))), some (.inr (.inr (7, a1))), some (.inl a2)]) (st2 := [.inl a2, .inl 0, .inr (.inr (7, a1)), .inr (.inr (16, 0))]) (w2 := w) 5 (fun F h => h) ?_
  obtain ⟨r1, hr2, hf⟩ := Option.bind_eq_some_iff.mp hf
  refine pm_ca (y := 17) (as := [.inr (.inr (16, 0)), .inr (.inr (7, a1)), .inl 0, .inl a2]) (r := none) (w2 := w) (w1 := r1) (t := []) (i2 := 6) (ls2 := [some (.inr (.inr (18, 0))), some (.inr (.inr (7, a1))), some (.inl a2)]) 1 (a_X3_planPasses F w a1 0 a2 r1 d (by omega) hr2) (fun F h => h) ?_
  show pm_Gx (RT d) co_X1_mostOf 6 [some (.inr (.inr (18, 0))), some (.inr (.inr (7, a1))), some (.inl a2)] [] r1 Q
  refine pm_go (i2 := 9) (ls2 := [some (.inr (.inr (18, 0))), some (.inr (.inr (7, a1))), some (.inl a2)]) (st2 := [.inl (r1.1 16 0 2)]) (w2 := r1) 3 (fun F h => h) ?_
  obtain rfl := Option.some.inj hf
  exact pm_re (r := some (.inl (r1.1 16 0 2))) (w2 := r1) 1 (fun F h => h) hq
set_option maxRecDepth 20000 in
set_option maxHeartbeats 4000000 in
theorem a_X1_mostOf (F : Nat) (w : pm_W) (a1 : Nat) (a2 : Int32) (x : (Int32 × pm_W)) (d : Nat) (hd : 13 ≤ d) (hf : f_X1_mostOf F w a1 a2 = some x) : RT d 5 [.inr (.inr (18, 0)), .inr (.inr (7, a1)), .inl a2] w (some (.inl x.1)) x.2 := by
  obtain ⟨d, rfl, hd2⟩ := pm_dep hd
  exact pm_start (co := co_X1_mostOf) (nL := 3) (by decide) rfl rfl (Nat.le_of_ble_eq_true rfl) (b_X1_mostOf F d hd2 _ w a1 a2 x hf ⟨rfl, rfl⟩)
def f_X1_ordersWith (F : Nat) (w : pm_W) (a1 : Int32) : Option (Int32) := (if (if a1 < 0 then 0 else (if 5 < a1 then 0 else (if (((w.1 3 0 3) - 1) - a1) < 0 then 0 else (if 5 < (((w.1 3 0 3) - 1) - a1) then 0 else 1 : Int32) : Int32) : Int32) : Int32) = 0 then some 0 else (if pm_inb a1 6 = true then (if pm_inb (((w.1 3 0 3) - 1) - a1) 6 = true then some ((pm_st 38 a1.toNatClampNeg) * (pm_st 38 ((((w.1 3 0 3) - 1) - a1).toNatClampNeg))) else none) else none))
set_option maxRecDepth 20000 in
set_option maxHeartbeats 4000000 in
theorem b_X1_ordersWith (F : Nat) (d : Nat) (hd : 0 ≤ d) (Q : pm_Q) (w : pm_W) (a1 : Int32) (x : Int32) (hf : f_X1_ordersWith F w a1 = some x) (hq : Q (some (.inl x)) w) : pm_Gx (RT d) co_X1_ordersWith 0 [some (.inr (.inr (18, 0))), some (.inl a1), none, none] [] w Q := by
  unfold f_X1_ordersWith at hf
  refine pm_go (i2 := 9) (ls2 := [some (.inr (.inr (18, 0))), some (.inl a1), some (.inl (((w.1 3 0 3) - 1) - a1)), none]) (st2 := [.inl a1]) (w2 := w) 9 (fun F h => h) ?_
  have key : pm_Gx (RT d) co_X1_ordersWith 21 [some (.inr (.inr (18, 0))), some (.inl a1), some (.inl (((w.1 3 0 3) - 1) - a1)), none] [.inl (if a1 < 0 then 0 else (if 5 < a1 then 0 else (if (((w.1 3 0 3) - 1) - a1) < 0 then 0 else (if 5 < (((w.1 3 0 3) - 1) - a1) then 0 else 1 : Int32) : Int32) : Int32) : Int32)] w Q := by
    refine pm_go (i2 := 23) (ls2 := [some (.inr (.inr (18, 0))), some (.inl a1), some (.inl (((w.1 3 0 3) - 1) - a1)), some (.inl (if a1 < 0 then 0 else (if 5 < a1 then 0 else (if (((w.1 3 0 3) - 1) - a1) < 0 then 0 else (if 5 < (((w.1 3 0 3) - 1) - a1) then 0 else 1 : Int32) : Int32) : Int32) : Int32))]) (st2 := [.inl (if a1 < 0 then 0 else (if 5 < a1 then 0 else (if (((w.1 3 0 3) - 1) - a1) < 0 then 0 else (if 5 < (((w.1 3 0 3) - 1) - a1) then 0 else 1 : Int32) : Int32) : Int32) : Int32)]) (w2 := w) 2 (fun F h => h) ?_
    refine pm_if (P := (if a1 < 0 then 0 else (if 5 < a1 then 0 else (if (((w.1 3 0 3) - 1) - a1) < 0 then 0 else (if 5 < (((w.1 3 0 3) - 1) - a1) then 0 else 1 : Int32) : Int32) : Int32) : Int32) = 0) (i2 := 32) (i3 := 24) (ls2 := [some (.inr (.inr (18, 0))), some (.inl a1), some (.inl (((w.1 3 0 3) - 1) - a1)), some (.inl (if a1 < 0 then 0 else (if 5 < a1 then 0 else (if (((w.1 3 0 3) - 1) - a1) < 0 then 0 else (if 5 < (((w.1 3 0 3) - 1) - a1) then 0 else 1 : Int32) : Int32) : Int32) : Int32))]) (st2 := []) (w2 := w) 1 (fun F h => h) (fun hc1 => ?_) (fun hc1 => ?_)
    · rw [if_pos hc1] at hf
      refine pm_go (i2 := 33) (ls2 := [some (.inr (.inr (18, 0))), some (.inl a1), some (.inl (((w.1 3 0 3) - 1) - a1)), some (.inl (if a1 < 0 then 0 else (if 5 < a1 then 0 else (if (((w.1 3 0 3) - 1) - a1) < 0 then 0 else (if 5 < (((w.1 3 0 3) - 1) - a1) then 0 else 1 : Int32) : Int32) : Int32) : Int32))]) (st2 := [.inl 0]) (w2 := w) 1 (fun F h => h) ?_
      obtain rfl := Option.some.inj hf
      exact pm_re (r := some (.inl 0)) (w2 := w) 1 (fun F h => h) hq
    · rw [if_neg hc1] at hf
      obtain ⟨hs2, hf⟩ := pm_itn hf
      obtain ⟨hs3, hf⟩ := pm_itn hf
      refine pm_go (i2 := 33) (ls2 := [some (.inr (.inr (18, 0))), some (.inl a1), some (.inl (((w.1 3 0 3) - 1) - a1)), some (.inl (if a1 < 0 then 0 else (if 5 < a1 then 0 else (if (((w.1 3 0 3) - 1) - a1) < 0 then 0 else (if 5 < (((w.1 3 0 3) - 1) - a1) then 0 else 1 : Int32) : Int32) : Int32) : Int32))]) (st2 := [.inl ((pm_st 38 a1.toNatClampNeg) * (pm_st 38 ((((w.1 3 0 3) - 1) - a1).toNatClampNeg)))]) (w2 := w) 8 (fun F h => ⟨(pm_inb_in hs2), (pm_inb_in hs3), h⟩) ?_
      obtain rfl := Option.some.inj hf
      exact pm_re (r := some (.inl ((pm_st 38 a1.toNatClampNeg) * (pm_st 38 ((((w.1 3 0 3) - 1) - a1).toNatClampNeg))))) (w2 := w) 1 (fun F h => h) hq
  clear hf
  refine pm_if (P := a1 < 0) (i2 := 20) (i3 := 10) (ls2 := [some (.inr (.inr (18, 0))), some (.inl a1), some (.inl (((w.1 3 0 3) - 1) - a1)), none]) (st2 := []) (w2 := w) 1 (fun F h => h) (fun hc4 => ?_) (fun hc4 => ?_)
  · try simp only [if_pos hc4] at key
    refine pm_go (i2 := 21) (ls2 := [some (.inr (.inr (18, 0))), some (.inl a1), some (.inl (((w.1 3 0 3) - 1) - a1)), none]) (st2 := [.inl 0]) (w2 := w) 1 (fun F h => h) ?_
    exact key
  · try simp only [if_neg hc4] at key
    refine pm_go (i2 := 12) (ls2 := [some (.inr (.inr (18, 0))), some (.inl a1), some (.inl (((w.1 3 0 3) - 1) - a1)), none]) (st2 := [.inl 5, .inl a1]) (w2 := w) 2 (fun F h => h) ?_
    refine pm_if (P := 5 < a1) (i2 := 20) (i3 := 13) (ls2 := [some (.inr (.inr (18, 0))), some (.inl a1), some (.inl (((w.1 3 0 3) - 1) - a1)), none]) (st2 := []) (w2 := w) 1 (fun F h => h) (fun hc5 => ?_) (fun hc5 => ?_)
    · try simp only [if_pos hc5] at key
      refine pm_go (i2 := 21) (ls2 := [some (.inr (.inr (18, 0))), some (.inl a1), some (.inl (((w.1 3 0 3) - 1) - a1)), none]) (st2 := [.inl 0]) (w2 := w) 1 (fun F h => h) ?_
      exact key
    · try simp only [if_neg hc5] at key
      refine pm_go (i2 := 14) (ls2 := [some (.inr (.inr (18, 0))), some (.inl a1), some (.inl (((w.1 3 0 3) - 1) - a1)), none]) (st2 := [.inl (((w.1 3 0 3) - 1) - a1)]) (w2 := w) 1 (fun F h => h) ?_
      refine pm_if (P := (((w.1 3 0 3) - 1) - a1) < 0) (i2 := 20) (i3 := 15) (ls2 := [some (.inr (.inr (18, 0))), some (.inl a1), some (.inl (((w.1 3 0 3) - 1) - a1)), none]) (st2 := []) (w2 := w) 1 (fun F h => h) (fun hc6 => ?_) (fun hc6 => ?_)
      · try simp only [if_pos hc6] at key
        refine pm_go (i2 := 21) (ls2 := [some (.inr (.inr (18, 0))), some (.inl a1), some (.inl (((w.1 3 0 3) - 1) - a1)), none]) (st2 := [.inl 0]) (w2 := w) 1 (fun F h => h) ?_
        exact key
      · try simp only [if_neg hc6] at key
        refine pm_go (i2 := 17) (ls2 := [some (.inr (.inr (18, 0))), some (.inl a1), some (.inl (((w.1 3 0 3) - 1) - a1)), none]) (st2 := [.inl 5, .inl (((w.1 3 0 3) - 1) - a1)]) (w2 := w) 2 (fun F h => h) ?_
        refine pm_if (P := 5 < (((w.1 3 0 3) - 1) - a1)) (i2 := 20) (i3 := 18) (ls2 := [some (.inr (.inr (18, 0))), some (.inl a1), some (.inl (((w.1 3 0 3) - 1) - a1)), none]) (st2 := []) (w2 := w) 1 (fun F h => h) (fun hc7 => ?_) (fun hc7 => ?_)
        · try simp only [if_pos hc7] at key
          refine pm_go (i2 := 21) (ls2 := [some (.inr (.inr (18, 0))), some (.inl a1), some (.inl (((w.1 3 0 3) - 1) - a1)), none]) (st2 := [.inl 0]) (w2 := w) 1 (fun F h => h) ?_
          exact key
        · try simp only [if_neg hc7] at key
          refine pm_go (i2 := 21) (ls2 := [some (.inr (.inr (18, 0))), some (.inl a1), some (.inl (((w.1 3 0 3) - 1) - a1)), none]) (st2 := [.inl 1]) (w2 := w) 2 (fun F h => h) ?_
          exact key
set_option maxRecDepth 20000 in
set_option maxHeartbeats 4000000 in
theorem a_X1_ordersWith (F : Nat) (w : pm_W) (a1 : Int32) (x : Int32) (d : Nat) (hd : 1 ≤ d) (hf : f_X1_ordersWith F w a1 = some x) : RT d 4 [.inr (.inr (18, 0)), .inl a1] w (some (.inl x)) w := by
  obtain ⟨d, rfl, hd2⟩ := pm_dep hd
  exact pm_start (co := co_X1_ordersWith) (nL := 4) (by decide) rfl rfl (Nat.le_of_ble_eq_true rfl) (b_X1_ordersWith F d hd2 _ w a1 x hf ⟨rfl, rfl⟩)
def f_J9_min (F : Nat) (w : pm_W) (a0 : Int32) (a1 : Int32) : Option (Int32) := some (if a1 < a0 then a1 else a0 : Int32)
set_option maxRecDepth 20000 in
set_option maxHeartbeats 4000000 in
theorem b_J9_min (F : Nat) (d : Nat) (hd : 0 ≤ d) (Q : pm_Q) (w : pm_W) (a0 : Int32) (a1 : Int32) (x : Int32) (hf : f_J9_min F w a0 a1 = some x) (hq : Q (some (.inl x)) w) : pm_Gx (RT d) co_J9_min_7cf53 0 [some (.inl a0), some (.inl a1)] [] w Q := by
  unfold f_J9_min at hf
  refine pm_go (i2 := 2) (ls2 := [some (.inl a0), some (.inl a1)]) (st2 := [.inl a1, .inl a0]) (w2 := w) 2 (fun F h => h) ?_
  have key : pm_Gx (RT d) co_J9_min_7cf53 6 [some (.inl a0), some (.inl a1)] [.inl (if a1 < a0 then a1 else a0 : Int32)] w Q := by
    obtain rfl := Option.some.inj hf
    exact pm_re (r := some (.inl (if a1 < a0 then a1 else a0 : Int32))) (w2 := w) 1 (fun F h => h) hq
  clear hf
  refine pm_if (P := a1 < a0) (i2 := 5) (i3 := 3) (ls2 := [some (.inl a0), some (.inl a1)]) (st2 := []) (w2 := w) 1 (fun F h => h) (fun hc1 => ?_) (fun hc1 => ?_)
  · try simp only [if_pos hc1] at key
    refine pm_go (i2 := 6) (ls2 := [some (.inl a0), some (.inl a1)]) (st2 := [.inl a1]) (w2 := w) 1 (fun F h => h) ?_
    exact key
  · try simp only [if_neg hc1] at key
    refine pm_go (i2 := 6) (ls2 := [some (.inl a0), some (.inl a1)]) (st2 := [.inl a0]) (w2 := w) 2 (fun F h => h) ?_
    exact key
set_option maxRecDepth 20000 in
set_option maxHeartbeats 4000000 in
theorem a_J9_min (F : Nat) (w : pm_W) (a0 : Int32) (a1 : Int32) (x : Int32) (d : Nat) (hd : 1 ≤ d) (hf : f_J9_min F w a0 a1 = some x) : RT d 155 [.inl a0, .inl a1] w (some (.inl x)) w := by
  obtain ⟨d, rfl, hd2⟩ := pm_dep hd
  exact pm_start (co := co_J9_min_7cf53) (nL := 2) (by decide) rfl rfl (Nat.le_of_ble_eq_true rfl) (b_J9_min F d hd2 _ w a0 a1 x hf ⟨rfl, rfl⟩)
def f_X1_greatestDivisor_L2 (F : Nat) (w : pm_W) : Nat → Int32 → Int32 → Int32 → Option (Int32 × Int32 × Int32)
  | 0, _, _, _ => none
  | n + 1, v0, v1, v2 => (if 64 ≤ v2 then some (v0, v1, v2) else (if v1 = 0 then some (v0, v1, v2) else (if pm_nz v1 = true then f_X1_greatestDivisor_L2 F w n v1 (v0 - v0 / v1 * v1) (v2 + 1) else none)))
def f_X1_greatestDivisor (F : Nat) (w : pm_W) (a0 : Int32) (a1 : Int32) : Option (Int32) := ((f_X1_greatestDivisor_L2 F w F a0 a1 0).bind fun x4 => some x4.1)
set_option maxRecDepth 20000 in
set_option maxHeartbeats 4000000 in
theorem a_X1_greatestDivisor_L2 (F : Nat) (d : Nat) (hd : 0 ≤ d) (Q : pm_Q) (w : pm_W) : ∀ (n : Nat) (v0 : Int32) (v1 : Int32) (v2 : Int32) (x : Int32 × Int32 × Int32), f_X1_greatestDivisor_L2 F w n v0 v1 v2 = some x → pm_Gx (RT d) co_X1_greatestDivisor 17 [some (.inl x.1), some (.inl x.2.1), some (.inl x.2.2), none] [] w Q → pm_Gx (RT d) co_X1_greatestDivisor 2 [some (.inl v0), some (.inl v1), some (.inl v2), none] [] w Q := by
  intro n
  induction n with
  | zero =>
    intro v0 v1 v2 x hf
    cases hf
  | succ n ih =>
    intro v0 v1 v2 x hf hk
    rw [f_X1_greatestDivisor_L2] at hf
    refine pm_go (i2 := 4) (ls2 := [some (.inl v0), some (.inl v1), some (.inl v2), none]) (st2 := [.inl 64, .inl v2]) (w2 := w) 2 (fun F h => h) ?_
    refine pm_if (P := 64 ≤ v2) (i2 := 17) (i3 := 5) (ls2 := [some (.inl v0), some (.inl v1), some (.inl v2), none]) (st2 := []) (w2 := w) 1 (fun F h => h) (fun hc1 => ?_) (fun hc1 => ?_)
    · rw [if_pos hc1] at hf
      obtain rfl := Option.some.inj hf
      exact hk
    · rw [if_neg hc1] at hf
      refine pm_go (i2 := 6) (ls2 := [some (.inl v0), some (.inl v1), some (.inl v2), none]) (st2 := [.inl v1]) (w2 := w) 1 (fun F h => h) ?_
      refine pm_if (P := v1 = 0) (i2 := 17) (i3 := 7) (ls2 := [some (.inl v0), some (.inl v1), some (.inl v2), none]) (st2 := []) (w2 := w) 1 (fun F h => h) (fun hc2 => ?_) (fun hc2 => ?_)
      · rw [if_pos hc2] at hf
        obtain rfl := Option.some.inj hf
        exact hk
      · rw [if_neg hc2] at hf
        obtain ⟨hs3, hf⟩ := pm_itn hf
        refine pm_go (i2 := 2) (ls2 := [some (.inl v1), some (.inl (v0 - v0 / v1 * v1)), some (.inl (v2 + 1)), some (.inl (v0 - v0 / v1 * v1))]) (st2 := []) (w2 := w) 10 (fun F h => ⟨(pm_nz_ne hs3), h⟩) ?_
        refine pm_wk (ls := [some (.inl v1), some (.inl (v0 - v0 / v1 * v1)), some (.inl (v2 + 1)), none]) ⟨.inr rfl, .inr rfl, .inr rfl, .inl rfl, trivial⟩ ?_
        exact ih v1 (v0 - v0 / v1 * v1) (v2 + 1) _ hf hk
set_option maxRecDepth 20000 in
set_option maxHeartbeats 4000000 in
theorem b_X1_greatestDivisor (F : Nat) (d : Nat) (hd : 0 ≤ d) (Q : pm_Q) (w : pm_W) (a0 : Int32) (a1 : Int32) (x : Int32) (hf : f_X1_greatestDivisor F w a0 a1 = some x) (hq : Q (some (.inl x)) w) : pm_Gx (RT d) co_X1_greatestDivisor 0 [some (.inl a0), some (.inl a1), none, none] [] w Q := by
  unfold f_X1_greatestDivisor at hf
  refine pm_go (i2 := 2) (ls2 := [some (.inl a0), some (.inl a1), some (.inl 0), none]) (st2 := []) (w2 := w) 2 (fun F h => h) ?_
  obtain ⟨x4, hx5, hf⟩ := Option.bind_eq_some_iff.mp hf
  refine a_X1_greatestDivisor_L2 F d hd Q w F a0 a1 0 x4 hx5 ?_
  refine pm_go (i2 := 18) (ls2 := [some (.inl x4.1), some (.inl x4.2.1), some (.inl x4.2.2), none]) (st2 := [.inl x4.1]) (w2 := w) 1 (fun F h => h) ?_
  obtain rfl := Option.some.inj hf
  exact pm_re (r := some (.inl x4.1)) (w2 := w) 1 (fun F h => h) hq
set_option maxRecDepth 20000 in
set_option maxHeartbeats 4000000 in
theorem a_X1_greatestDivisor (F : Nat) (w : pm_W) (a0 : Int32) (a1 : Int32) (x : Int32) (d : Nat) (hd : 1 ≤ d) (hf : f_X1_greatestDivisor F w a0 a1 = some x) : RT d 10 [.inl a0, .inl a1] w (some (.inl x)) w := by
  obtain ⟨d, rfl, hd2⟩ := pm_dep hd
  exact pm_start (co := co_X1_greatestDivisor) (nL := 4) (by decide) rfl rfl (Nat.le_of_ble_eq_true rfl) (b_X1_greatestDivisor F d hd2 _ w a0 a1 x hf ⟨rfl, rfl⟩)
def f_X1_leastTerms (F : Nat) (w : pm_W) (a0 : Int32) (a1 : Int32) (a2 : Int32) : Option (Int32) := ((f_J9_abs F w a0).bind fun r1 => ((f_X1_greatestDivisor F w r1 a1).bind fun r3 => (if r3 = 0 then some 0 else (if a2 = 0 then (if pm_nz r3 = true then some (a1 / r3) else none) else (if pm_nz r3 = true then some (a0 / r3) else none)))))
set_option maxRecDepth 20000 in
set_option maxHeartbeats 4000000 in
theorem b_X1_leastTerms (F : Nat) (d : Nat) (hd : 1 ≤ d) (Q : pm_Q) (w : pm_W) (a0 : Int32) (a1 : Int32) (a2 : Int32) (x : Int32) (hf : f_X1_leastTerms F w a0 a1 a2 = some x) (hq : Q (some (.inl x)) w) : pm_Gx (RT d) co_X1_leastTerms 0 [some (.inl a0), some (.inl a1), some (.inl a2), none] [] w Q := by
  unfold f_X1_leastTerms at hf
  refine pm_go (i2 := 1) (ls2 := [some (.inl a0), some (.inl a1), some (.inl a2), none]) (st2 := [.inl a0]) (w2 := w) 1 (fun F h => h) ?_
  obtain ⟨r1, hr2, hf⟩ := Option.bind_eq_some_iff.mp hf
  refine pm_ca (y := 153) (as := [.inl a0]) (r := some (.inl r1)) (w2 := w) (w1 := w) (t := []) (i2 := 2) (ls2 := [some (.inl a0), some (.inl a1), some (.inl a2), none]) 1 (a_J9_abs F w a0 r1 d (by omega) hr2) (fun F h => h) ?_
  show pm_Gx (RT d) co_X1_leastTerms 2 [some (.inl a0), some (.inl a1), some (.inl a2), none] [.inl r1] w Q
  refine pm_go (i2 := 3) (ls2 := [some (.inl a0), some (.inl a1), some (.inl a2), none]) (st2 := [.inl a1, .inl r1]) (w2 := w) 1 (fun F h => h) ?_
  obtain ⟨r3, hr4, hf⟩ := Option.bind_eq_some_iff.mp hf
  refine pm_ca (y := 10) (as := [.inl r1, .inl a1]) (r := some (.inl r3)) (w2 := w) (w1 := w) (t := []) (i2 := 4) (ls2 := [some (.inl a0), some (.inl a1), some (.inl a2), none]) 1 (a_X1_greatestDivisor F w r1 a1 r3 d (by omega) hr4) (fun F h => h) ?_
  show pm_Gx (RT d) co_X1_leastTerms 4 [some (.inl a0), some (.inl a1), some (.inl a2), none] [.inl r3] w Q
  refine pm_go (i2 := 6) (ls2 := [some (.inl a0), some (.inl a1), some (.inl a2), some (.inl r3)]) (st2 := [.inl r3]) (w2 := w) 2 (fun F h => h) ?_
  refine pm_if (P := r3 = 0) (i2 := 7) (i3 := 9) (ls2 := [some (.inl a0), some (.inl a1), some (.inl a2), some (.inl r3)]) (st2 := []) (w2 := w) 1 (fun F h => h) (fun hc5 => ?_) (fun hc5 => ?_)
  · rw [if_pos hc5] at hf
    refine pm_go (i2 := 8) (ls2 := [some (.inl a0), some (.inl a1), some (.inl a2), some (.inl r3)]) (st2 := [.inl 0]) (w2 := w) 1 (fun F h => h) ?_
    obtain rfl := Option.some.inj hf
    exact pm_re (r := some (.inl 0)) (w2 := w) 1 (fun F h => h) hq
  · rw [if_neg hc5] at hf
    refine pm_go (i2 := 10) (ls2 := [some (.inl a0), some (.inl a1), some (.inl a2), some (.inl r3)]) (st2 := [.inl a2]) (w2 := w) 1 (fun F h => h) ?_
    refine pm_if (P := a2 = 0) (i2 := 15) (i3 := 11) (ls2 := [some (.inl a0), some (.inl a1), some (.inl a2), some (.inl r3)]) (st2 := []) (w2 := w) 1 (fun F h => h) (fun hc6 => ?_) (fun hc6 => ?_)
    · rw [if_pos hc6] at hf
      obtain ⟨hs7, hf⟩ := pm_itn hf
      refine pm_go (i2 := 18) (ls2 := [some (.inl a0), some (.inl a1), some (.inl a2), some (.inl r3)]) (st2 := [.inl (a1 / r3)]) (w2 := w) 3 (fun F h => ⟨(pm_nz_ne hs7), h⟩) ?_
      obtain rfl := Option.some.inj hf
      exact pm_re (r := some (.inl (a1 / r3))) (w2 := w) 1 (fun F h => h) hq
    · rw [if_neg hc6] at hf
      obtain ⟨hs8, hf⟩ := pm_itn hf
      refine pm_go (i2 := 18) (ls2 := [some (.inl a0), some (.inl a1), some (.inl a2), some (.inl r3)]) (st2 := [.inl (a0 / r3)]) (w2 := w) 4 (fun F h => ⟨(pm_nz_ne hs8), h⟩) ?_
      obtain rfl := Option.some.inj hf
      exact pm_re (r := some (.inl (a0 / r3))) (w2 := w) 1 (fun F h => h) hq
set_option maxRecDepth 20000 in
set_option maxHeartbeats 4000000 in
theorem a_X1_leastTerms (F : Nat) (w : pm_W) (a0 : Int32) (a1 : Int32) (a2 : Int32) (x : Int32) (d : Nat) (hd : 2 ≤ d) (hf : f_X1_leastTerms F w a0 a1 a2 = some x) : RT d 9 [.inl a0, .inl a1, .inl a2] w (some (.inl x)) w := by
  obtain ⟨d, rfl, hd2⟩ := pm_dep hd
  exact pm_start (co := co_X1_leastTerms) (nL := 4) (by decide) rfl rfl (Nat.le_of_ble_eq_true rfl) (b_X1_leastTerms F d hd2 _ w a0 a1 a2 x hf ⟨rfl, rfl⟩)
def f_X1_shareOf_L8 (F : Nat) : Nat → pm_W → Nat → Int32 → Int32 → Int32 → Int32 → Int32 → Option (Int32 × Int32 × pm_W)
  | 0, _, _, _, _, _, _, _ => none
  | n + 1, w, v1, v2, v3, v4, v5, v6 => ((f_X5_everybody F w).bind fun r1 => (if r1 < v6 then some (v4, v6, w) else (if (v6 &&& v5) = 0 then ((f_X1_mostOf F w v1 (v6 ||| v5)).bind fun r5 => ((f_X1_mostOf F r5.2 v1 v6).bind fun r7 => ((f_J6_bitCount F r7.2 v6).bind fun r9 => ((f_X1_ordersWith F r7.2 r9).bind fun r11 => f_X1_shareOf_L8 F n r7.2 v1 v2 v3 (v4 + ((r5.1 - r7.1) * r11)) v5 (v6 + 1))))) else f_X1_shareOf_L8 F n w v1 v2 v3 v4 v5 (v6 + 1))))
def f_X1_shareOf (F : Nat) (w : pm_W) (a1 : Nat) (a2 : Int32) (a3 : Int32) : Option ((Int32 × pm_W)) := ((f_X1_shareOf_L8 F F w a1 a2 a3 0 (1 <<< (a2 &&& 31)) 0).bind fun x13 => ((f_J9_min F x13.2.2 (x13.2.2.1 3 0 3) 5).bind fun r15 => (if pm_inb r15 6 = true then ((f_X1_leastTerms F x13.2.2 x13.1 (pm_st 38 r15.toNatClampNeg) a3).bind fun r18 => some (r18, x13.2.2)) else none)))
set_option maxRecDepth 20000 in
set_option maxHeartbeats 4000000 in
theorem a_X1_shareOf_L8 (F : Nat) (d : Nat) (hd : 13 ≤ d) (Q : pm_Q) : ∀ (n : Nat) (w : pm_W) (v1 : Nat) (v2 : Int32) (v3 : Int32) (v4 : Int32) (v5 : Int32) (v6 : Int32) (x : Int32 × Int32 × pm_W), f_X1_shareOf_L8 F n w v1 v2 v3 v4 v5 v6 = some x → pm_Gx (RT d) co_X1_shareOf 40 [some (.inr (.inr (18, 0))), some (.inr (.inr (7, v1))), some (.inl v2), some (.inl v3), some (.inl x.1), some (.inl v5), some (.inl x.2.1), none] [] x.2.2 Q → pm_Gx (RT d) co_X1_shareOf 8 [some (.inr (.inr (18, 0))), some (.inr (.inr (7, v1))), some (.inl v2), some (.inl v3), some (.inl v4), some (.inl v5), some (.inl v6), none] [] w Q := by
  intro n
  induction n with
  | zero =>
    intro w v1 v2 v3 v4 v5 v6 x hf
    cases hf
  | succ n ih =>
    intro w v1 v2 v3 v4 v5 v6 x hf hk
    rw [f_X1_shareOf_L8] at hf
    refine pm_go (i2 := 11) (ls2 := [some (.inr (.inr (18, 0))), some (.inr (.inr (7, v1))), some (.inl v2), some (.inl v3), some (.inl v4), some (.inl v5), some (.inl v6), none]) (st2 := [.inr (.inr (3, 0)), .inl v6]) (w2 := w) 3 (fun F h => h) ?_
    obtain ⟨r1, hr2, hf⟩ := Option.bind_eq_some_iff.mp hf
    refine pm_ca (y := 31) (as := [.inr (.inr (3, 0))]) (r := some (.inl r1)) (w2 := w) (w1 := w) (t := [.inl v6]) (i2 := 12) (ls2 := [some (.inr (.inr (18, 0))), some (.inr (.inr (7, v1))), some (.inl v2), some (.inl v3), some (.inl v4), some (.inl v5), some (.inl v6), none]) 1 (a_X5_everybody F w r1 d (by omega) hr2) (fun F h => h) ?_
    show pm_Gx (RT d) co_X1_shareOf 12 [some (.inr (.inr (18, 0))), some (.inr (.inr (7, v1))), some (.inl v2), some (.inl v3), some (.inl v4), some (.inl v5), some (.inl v6), none] [.inl r1, .inl v6] w Q
    refine pm_if (P := r1 < v6) (i2 := 40) (i3 := 13) (ls2 := [some (.inr (.inr (18, 0))), some (.inr (.inr (7, v1))), some (.inl v2), some (.inl v3), some (.inl v4), some (.inl v5), some (.inl v6), none]) (st2 := []) (w2 := w) 1 (fun F h => h) (fun hc3 => ?_) (fun hc3 => ?_)
    · rw [if_pos hc3] at hf
      obtain rfl := Option.some.inj hf
      exact hk
    · rw [if_neg hc3] at hf
      refine pm_go (i2 := 16) (ls2 := [some (.inr (.inr (18, 0))), some (.inr (.inr (7, v1))), some (.inl v2), some (.inl v3), some (.inl v4), some (.inl v5), some (.inl v6), none]) (st2 := [.inl (v6 &&& v5)]) (w2 := w) 3 (fun F h => h) ?_
      refine pm_if (P := (v6 &&& v5) = 0) (i2 := 17) (i3 := 38) (ls2 := [some (.inr (.inr (18, 0))), some (.inr (.inr (7, v1))), some (.inl v2), some (.inl v3), some (.inl v4), some (.inl v5), some (.inl v6), none]) (st2 := []) (w2 := w) 1 (fun F h => h) (fun hc4 => ?_) (fun hc4 => ?_)
      · rw [if_pos hc4] at hf
        refine pm_go (i2 := 22) (ls2 := [some (.inr (.inr (18, 0))), some (.inr (.inr (7, v1))), some (.inl v2), some (.inl v3), some (.inl v4), some (.inl v5), some (.inl v6), none]) (st2 := [.inl (v6 ||| v5), .inr (.inr (7, v1)), .inr (.inr (18, 0))]) (w2 := w) 5 (fun F h => h) ?_
        obtain ⟨r5, hr6, hf⟩ := Option.bind_eq_some_iff.mp hf
        refine pm_ca (y := 5) (as := [.inr (.inr (18, 0)), .inr (.inr (7, v1)), .inl (v6 ||| v5)]) (r := some (.inl r5.1)) (w2 := w) (w1 := r5.2) (t := []) (i2 := 23) (ls2 := [some (.inr (.inr (18, 0))), some (.inr (.inr (7, v1))), some (.inl v2), some (.inl v3), some (.inl v4), some (.inl v5), some (.inl v6), none]) 1 (a_X1_mostOf F w v1 (v6 ||| v5) r5 d (by omega) hr6) (fun F h => h) ?_
        show pm_Gx (RT d) co_X1_shareOf 23 [some (.inr (.inr (18, 0))), some (.inr (.inr (7, v1))), some (.inl v2), some (.inl v3), some (.inl v4), some (.inl v5), some (.inl v6), none] [.inl r5.1] r5.2 Q
        refine pm_go (i2 := 26) (ls2 := [some (.inr (.inr (18, 0))), some (.inr (.inr (7, v1))), some (.inl v2), some (.inl v3), some (.inl v4), some (.inl v5), some (.inl v6), none]) (st2 := [.inl v6, .inr (.inr (7, v1)), .inr (.inr (18, 0)), .inl r5.1]) (w2 := r5.2) 3 (fun F h => h) ?_
        obtain ⟨r7, hr8, hf⟩ := Option.bind_eq_some_iff.mp hf
        refine pm_ca (y := 5) (as := [.inr (.inr (18, 0)), .inr (.inr (7, v1)), .inl v6]) (r := some (.inl r7.1)) (w2 := r5.2) (w1 := r7.2) (t := [.inl r5.1]) (i2 := 27) (ls2 := [some (.inr (.inr (18, 0))), some (.inr (.inr (7, v1))), some (.inl v2), some (.inl v3), some (.inl v4), some (.inl v5), some (.inl v6), none]) 1 (a_X1_mostOf F r5.2 v1 v6 r7 d (by omega) hr8) (fun F h => h) ?_
        show pm_Gx (RT d) co_X1_shareOf 27 [some (.inr (.inr (18, 0))), some (.inr (.inr (7, v1))), some (.inl v2), some (.inl v3), some (.inl v4), some (.inl v5), some (.inl v6), none] [.inl r7.1, .inl r5.1] r7.2 Q
        refine pm_go (i2 := 33) (ls2 := [some (.inr (.inr (18, 0))), some (.inr (.inr (7, v1))), some (.inl v2), some (.inl v3), some (.inl v4), some (.inl v5), some (.inl v6), some (.inl (r5.1 - r7.1))]) (st2 := [.inl v6, .inr (.inr (18, 0)), .inl (r5.1 - r7.1), .inl v4]) (w2 := r7.2) 6 (fun F h => h) ?_
        obtain ⟨r9, hr10, hf⟩ := Option.bind_eq_some_iff.mp hf
        refine pm_ca (y := 151) (as := [.inl v6]) (r := some (.inl r9)) (w2 := r7.2) (w1 := r7.2) (t := [.inr (.inr (18, 0)), .inl (r5.1 - r7.1), .inl v4]) (i2 := 34) (ls2 := [some (.inr (.inr (18, 0))), some (.inr (.inr (7, v1))), some (.inl v2), some (.inl v3), some (.inl v4), some (.inl v5), some (.inl v6), some (.inl (r5.1 - r7.1))]) 1 (a_J6_bitCount F r7.2 v6 r9 d (by omega) hr10) (fun F h => h) ?_
        show pm_Gx (RT d) co_X1_shareOf 34 [some (.inr (.inr (18, 0))), some (.inr (.inr (7, v1))), some (.inl v2), some (.inl v3), some (.inl v4), some (.inl v5), some (.inl v6), some (.inl (r5.1 - r7.1))] [.inl r9, .inr (.inr (18, 0)), .inl (r5.1 - r7.1), .inl v4] r7.2 Q
        obtain ⟨r11, hr12, hf⟩ := Option.bind_eq_some_iff.mp hf
        refine pm_ca (y := 4) (as := [.inr (.inr (18, 0)), .inl r9]) (r := some (.inl r11)) (w2 := r7.2) (w1 := r7.2) (t := [.inl (r5.1 - r7.1), .inl v4]) (i2 := 35) (ls2 := [some (.inr (.inr (18, 0))), some (.inr (.inr (7, v1))), some (.inl v2), some (.inl v3), some (.inl v4), some (.inl v5), some (.inl v6), some (.inl (r5.1 - r7.1))]) 1 (a_X1_ordersWith F r7.2 r9 r11 d (by omega) hr12) (fun F h => h) ?_
        show pm_Gx (RT d) co_X1_shareOf 35 [some (.inr (.inr (18, 0))), some (.inr (.inr (7, v1))), some (.inl v2), some (.inl v3), some (.inl v4), some (.inl v5), some (.inl v6), some (.inl (r5.1 - r7.1))] [.inl r11, .inl (r5.1 - r7.1), .inl v4] r7.2 Q
        refine pm_go (i2 := 8) (ls2 := [some (.inr (.inr (18, 0))), some (.inr (.inr (7, v1))), some (.inl v2), some (.inl v3), some (.inl (v4 + ((r5.1 - r7.1) * r11))), some (.inl v5), some (.inl (v6 + 1)), some (.inl (r5.1 - r7.1))]) (st2 := []) (w2 := r7.2) 5 (fun F h => h) ?_
        refine pm_wk (ls := [some (.inr (.inr (18, 0))), some (.inr (.inr (7, v1))), some (.inl v2), some (.inl v3), some (.inl (v4 + ((r5.1 - r7.1) * r11))), some (.inl v5), some (.inl (v6 + 1)), none]) ⟨.inr rfl, .inr rfl, .inr rfl, .inr rfl, .inr rfl, .inr rfl, .inr rfl, .inl rfl, trivial⟩ ?_
        exact ih r7.2 v1 v2 v3 (v4 + ((r5.1 - r7.1) * r11)) v5 (v6 + 1) _ hf hk
      · rw [if_neg hc4] at hf
        refine pm_go (i2 := 8) (ls2 := [some (.inr (.inr (18, 0))), some (.inr (.inr (7, v1))), some (.inl v2), some (.inl v3), some (.inl v4), some (.inl v5), some (.inl (v6 + 1)), none]) (st2 := []) (w2 := w) 2 (fun F h => h) ?_
        exact ih w v1 v2 v3 v4 v5 (v6 + 1) _ hf hk
set_option maxRecDepth 20000 in
set_option maxHeartbeats 4000000 in
theorem b_X1_shareOf (F : Nat) (d : Nat) (hd : 13 ≤ d) (Q : pm_Q) (w : pm_W) (a1 : Nat) (a2 : Int32) (a3 : Int32) (x : (Int32 × pm_W)) (hf : f_X1_shareOf F w a1 a2 a3 = some x) (hq : Q (some (.inl x.1)) x.2) : pm_Gx (RT d) co_X1_shareOf 0 [some (.inr (.inr (18, 0))), some (.inr (.inr (7, a1))), some (.inl a2), some (.inl a3), none, none, none, none] [] w Q := by
  unfold f_X1_shareOf at hf
  refine pm_go (i2 := 8) (ls2 := [some (.inr (.inr (18, 0))), some (.inr (.inr (7, a1))), some (.inl a2), some (.inl a3), some (.inl 0), some (.inl (1 <<< (a2 &&& 31))), some (.inl 0), none]) (st2 := []) (w2 := w) 8 (fun F h => h) ?_
  obtain ⟨x13, hx14, hf⟩ := Option.bind_eq_some_iff.mp hf
  refine a_X1_shareOf_L8 F d hd Q F w a1 a2 a3 0 (1 <<< (a2 &&& 31)) 0 x13 hx14 ?_
  refine pm_go (i2 := 46) (ls2 := [some (.inr (.inr (18, 0))), some (.inr (.inr (7, a1))), some (.inl a2), some (.inl a3), some (.inl x13.1), some (.inl (1 <<< (a2 &&& 31))), some (.inl x13.2.1), none]) (st2 := [.inl 5, .inl (x13.2.2.1 3 0 3), .inr (.inr (38, 0)), .inl x13.1]) (w2 := x13.2.2) 6 (fun F h => h) ?_
  obtain ⟨r15, hr16, hf⟩ := Option.bind_eq_some_iff.mp hf
  refine pm_ca (y := 155) (as := [.inl (x13.2.2.1 3 0 3), .inl 5]) (r := some (.inl r15)) (w2 := x13.2.2) (w1 := x13.2.2) (t := [.inr (.inr (38, 0)), .inl x13.1]) (i2 := 47) (ls2 := [some (.inr (.inr (18, 0))), some (.inr (.inr (7, a1))), some (.inl a2), some (.inl a3), some (.inl x13.1), some (.inl (1 <<< (a2 &&& 31))), some (.inl x13.2.1), none]) 1 (a_J9_min F x13.2.2 (x13.2.2.1 3 0 3) 5 r15 d (by omega) hr16) (fun F h => h) ?_
  show pm_Gx (RT d) co_X1_shareOf 47 [some (.inr (.inr (18, 0))), some (.inr (.inr (7, a1))), some (.inl a2), some (.inl a3), some (.inl x13.1), some (.inl (1 <<< (a2 &&& 31))), some (.inl x13.2.1), none] [.inl r15, .inr (.inr (38, 0)), .inl x13.1] x13.2.2 Q
  obtain ⟨hs17, hf⟩ := pm_itn hf
  refine pm_go (i2 := 49) (ls2 := [some (.inr (.inr (18, 0))), some (.inr (.inr (7, a1))), some (.inl a2), some (.inl a3), some (.inl x13.1), some (.inl (1 <<< (a2 &&& 31))), some (.inl x13.2.1), none]) (st2 := [.inl a3, .inl (pm_st 38 r15.toNatClampNeg), .inl x13.1]) (w2 := x13.2.2) 2 (fun F h => ⟨(pm_inb_in hs17), h⟩) ?_
  obtain ⟨r18, hr19, hf⟩ := Option.bind_eq_some_iff.mp hf
  refine pm_ca (y := 9) (as := [.inl x13.1, .inl (pm_st 38 r15.toNatClampNeg), .inl a3]) (r := some (.inl r18)) (w2 := x13.2.2) (w1 := x13.2.2) (t := []) (i2 := 50) (ls2 := [some (.inr (.inr (18, 0))), some (.inr (.inr (7, a1))), some (.inl a2), some (.inl a3), some (.inl x13.1), some (.inl (1 <<< (a2 &&& 31))), some (.inl x13.2.1), none]) 1 (a_X1_leastTerms F x13.2.2 x13.1 (pm_st 38 r15.toNatClampNeg) a3 r18 d (by omega) hr19) (fun F h => h) ?_
  show pm_Gx (RT d) co_X1_shareOf 50 [some (.inr (.inr (18, 0))), some (.inr (.inr (7, a1))), some (.inl a2), some (.inl a3), some (.inl x13.1), some (.inl (1 <<< (a2 &&& 31))), some (.inl x13.2.1), none] [.inl r18] x13.2.2 Q
  obtain rfl := Option.some.inj hf
  exact pm_re (r := some (.inl r18)) (w2 := x13.2.2) 1 (fun F h => h) hq
set_option maxRecDepth 20000 in
set_option maxHeartbeats 4000000 in
theorem a_X1_shareOf (F : Nat) (w : pm_W) (a1 : Nat) (a2 : Int32) (a3 : Int32) (x : (Int32 × pm_W)) (d : Nat) (hd : 14 ≤ d) (hf : f_X1_shareOf F w a1 a2 a3 = some x) : RT d 3 [.inr (.inr (18, 0)), .inr (.inr (7, a1)), .inl a2, .inl a3] w (some (.inl x.1)) x.2 := by
  obtain ⟨d, rfl, hd2⟩ := pm_dep hd
  exact pm_start (co := co_X1_shareOf) (nL := 8) (by decide) rfl rfl (Nat.le_of_ble_eq_true rfl) (b_X1_shareOf F d hd2 _ w a1 a2 a3 x hf ⟨rfl, rfl⟩)
def f_X5_growthOf (F : Nat) (w : pm_W) (a1 : Int32) : Option (Int32) := (if pm_inb a1 5 = true then (if (w.1 4 0 a1.toNatClampNeg) < 0 then some 0 else (if 4 ≤ (w.1 4 0 a1.toNatClampNeg) then some 0 else (if pm_inb (w.1 4 0 a1.toNatClampNeg) 4 = true then some (pm_st 36 ((w.1 4 0 a1.toNatClampNeg).toNatClampNeg)) else none))) else none)
set_option maxRecDepth 20000 in
set_option maxHeartbeats 4000000 in
theorem b_X5_growthOf (F : Nat) (d : Nat) (hd : 0 ≤ d) (Q : pm_Q) (w : pm_W) (a1 : Int32) (x : Int32) (hf : f_X5_growthOf F w a1 = some x) (hq : Q (some (.inl x)) w) : pm_Gx (RT d) co_X5_growthOf 0 [some (.inr (.inr (3, 0))), some (.inl a1), none] [] w Q := by
  unfold f_X5_growthOf at hf
  obtain ⟨hs1, hf⟩ := pm_itn hf
  refine pm_go (i2 := 6) (ls2 := [some (.inr (.inr (3, 0))), some (.inl a1), some (.inl (w.1 4 0 a1.toNatClampNeg))]) (st2 := [.inl (w.1 4 0 a1.toNatClampNeg)]) (w2 := w) 6 (fun F h => ⟨(pm_inb_in hs1), h⟩) ?_
  refine pm_if (P := (w.1 4 0 a1.toNatClampNeg) < 0) (i2 := 14) (i3 := 7) (ls2 := [some (.inr (.inr (3, 0))), some (.inl a1), some (.inl (w.1 4 0 a1.toNatClampNeg))]) (st2 := []) (w2 := w) 1 (fun F h => h) (fun hc2 => ?_) (fun hc2 => ?_)
  · rw [if_pos hc2] at hf
    refine pm_go (i2 := 15) (ls2 := [some (.inr (.inr (3, 0))), some (.inl a1), some (.inl (w.1 4 0 a1.toNatClampNeg))]) (st2 := [.inl 0]) (w2 := w) 1 (fun F h => h) ?_
    obtain rfl := Option.some.inj hf
    exact pm_re (r := some (.inl 0)) (w2 := w) 1 (fun F h => h) hq
  · rw [if_neg hc2] at hf
    refine pm_go (i2 := 9) (ls2 := [some (.inr (.inr (3, 0))), some (.inl a1), some (.inl (w.1 4 0 a1.toNatClampNeg))]) (st2 := [.inl 4, .inl (w.1 4 0 a1.toNatClampNeg)]) (w2 := w) 2 (fun F h => h) ?_
    refine pm_if (P := 4 ≤ (w.1 4 0 a1.toNatClampNeg)) (i2 := 14) (i3 := 10) (ls2 := [some (.inr (.inr (3, 0))), some (.inl a1), some (.inl (w.1 4 0 a1.toNatClampNeg))]) (st2 := []) (w2 := w) 1 (fun F h => h) (fun hc3 => ?_) (fun hc3 => ?_)
    · rw [if_pos hc3] at hf
      refine pm_go (i2 := 15) (ls2 := [some (.inr (.inr (3, 0))), some (.inl a1), some (.inl (w.1 4 0 a1.toNatClampNeg))]) (st2 := [.inl 0]) (w2 := w) 1 (fun F h => h) ?_
      obtain rfl := Option.some.inj hf
      exact pm_re (r := some (.inl 0)) (w2 := w) 1 (fun F h => h) hq
    · rw [if_neg hc3] at hf
      obtain ⟨hs4, hf⟩ := pm_itn hf
      refine pm_go (i2 := 15) (ls2 := [some (.inr (.inr (3, 0))), some (.inl a1), some (.inl (w.1 4 0 a1.toNatClampNeg))]) (st2 := [.inl (pm_st 36 ((w.1 4 0 a1.toNatClampNeg).toNatClampNeg))]) (w2 := w) 4 (fun F h => ⟨(pm_inb_in hs4), h⟩) ?_
      obtain rfl := Option.some.inj hf
      exact pm_re (r := some (.inl (pm_st 36 ((w.1 4 0 a1.toNatClampNeg).toNatClampNeg)))) (w2 := w) 1 (fun F h => h) hq
set_option maxRecDepth 20000 in
set_option maxHeartbeats 4000000 in
theorem a_X5_growthOf (F : Nat) (w : pm_W) (a1 : Int32) (x : Int32) (d : Nat) (hd : 1 ≤ d) (hf : f_X5_growthOf F w a1 = some x) : RT d 43 [.inr (.inr (3, 0)), .inl a1] w (some (.inl x)) w := by
  obtain ⟨d, rfl, hd2⟩ := pm_dep hd
  exact pm_start (co := co_X5_growthOf) (nL := 3) (by decide) rfl rfl (Nat.le_of_ble_eq_true rfl) (b_X5_growthOf F d hd2 _ w a1 x hf ⟨rfl, rfl⟩)
def f_X5_isTaken_L2 (F : Nat) (w : pm_W) : Nat → Nat → Int32 → Int32 → Option ((Int32) ⊕ Int32)
  | 0, _, _, _ => none
  | n + 1, v1, v2, v3 => (if (w.1 3 0 3) ≤ v3 then some (.inl v3) else (if pm_inb v3 5 = true then (if (w.1 8 v1 v3.toNatClampNeg) = v2 then some (.inr 1) else f_X5_isTaken_L2 F w n v1 v2 (v3 + 1)) else none))
def f_X5_isTaken (F : Nat) (w : pm_W) (a1 : Nat) (a2 : Int32) : Option (Int32) := ((f_X5_isTaken_L2 F w F a1 a2 0).bind fun x4 => Sum.elim (fun ex4 => some 0) (fun rx4 => some rx4) x4)
set_option maxRecDepth 20000 in
set_option maxHeartbeats 4000000 in
theorem a_X5_isTaken_L2 (F : Nat) (d : Nat) (hd : 0 ≤ d) (Q : pm_Q) (w : pm_W) : ∀ (n : Nat) (v1 : Nat) (v2 : Int32) (v3 : Int32) (x : (Int32) ⊕ Int32), f_X5_isTaken_L2 F w n v1 v2 v3 = some x → (∀ e, x = .inl e → pm_Gx (RT d) co_X5_isTaken 16 [some (.inr (.inr (3, 0))), some (.inr (.inr (7, v1))), some (.inl v2), some (.inl e)] [] w Q) → (∀ r, x = .inr r → Q (some (.inl r)) w) → pm_Gx (RT d) co_X5_isTaken 2 [some (.inr (.inr (3, 0))), some (.inr (.inr (7, v1))), some (.inl v2), some (.inl v3)] [] w Q := by
  intro n
  induction n with
  | zero =>
    intro v1 v2 v3 x hf
    cases hf
  | succ n ih =>
    intro v1 v2 v3 x hf hk hq
    rw [f_X5_isTaken_L2] at hf
    refine pm_go (i2 := 5) (ls2 := [some (.inr (.inr (3, 0))), some (.inr (.inr (7, v1))), some (.inl v2), some (.inl v3)]) (st2 := [.inl (w.1 3 0 3), .inl v3]) (w2 := w) 3 (fun F h => h) ?_
    refine pm_if (P := (w.1 3 0 3) ≤ v3) (i2 := 16) (i3 := 6) (ls2 := [some (.inr (.inr (3, 0))), some (.inr (.inr (7, v1))), some (.inl v2), some (.inl v3)]) (st2 := []) (w2 := w) 1 (fun F h => h) (fun hc1 => ?_) (fun hc1 => ?_)
    · rw [if_pos hc1] at hf
      obtain rfl := Option.some.inj hf
      exact hk _ rfl
    · rw [if_neg hc1] at hf
      obtain ⟨hs2, hf⟩ := pm_itn hf
      refine pm_go (i2 := 11) (ls2 := [some (.inr (.inr (3, 0))), some (.inr (.inr (7, v1))), some (.inl v2), some (.inl v3)]) (st2 := [.inl v2, .inl (w.1 8 v1 v3.toNatClampNeg)]) (w2 := w) 5 (fun F h => ⟨(pm_inb_in hs2), h⟩) ?_
      refine pm_if (P := (w.1 8 v1 v3.toNatClampNeg) = v2) (i2 := 12) (i3 := 14) (ls2 := [some (.inr (.inr (3, 0))), some (.inr (.inr (7, v1))), some (.inl v2), some (.inl v3)]) (st2 := []) (w2 := w) 1 (fun F h => h) (fun hc3 => ?_) (fun hc3 => ?_)
      · rw [if_pos hc3] at hf
        refine pm_go (i2 := 13) (ls2 := [some (.inr (.inr (3, 0))), some (.inr (.inr (7, v1))), some (.inl v2), some (.inl v3)]) (st2 := [.inl 1]) (w2 := w) 1 (fun F h => h) ?_
        obtain rfl := Option.some.inj hf
        exact pm_re (r := some (.inl 1)) (w2 := w) 1 (fun F h => ⟨rfl, h⟩) (hq _ rfl)
      · rw [if_neg hc3] at hf
        refine pm_go (i2 := 2) (ls2 := [some (.inr (.inr (3, 0))), some (.inr (.inr (7, v1))), some (.inl v2), some (.inl (v3 + 1))]) (st2 := []) (w2 := w) 2 (fun F h => h) ?_
        exact ih v1 v2 (v3 + 1) _ hf hk hq
set_option maxRecDepth 20000 in
set_option maxHeartbeats 4000000 in
theorem b_X5_isTaken (F : Nat) (d : Nat) (hd : 0 ≤ d) (Q : pm_Q) (w : pm_W) (a1 : Nat) (a2 : Int32) (x : Int32) (hf : f_X5_isTaken F w a1 a2 = some x) (hq : Q (some (.inl x)) w) : pm_Gx (RT d) co_X5_isTaken 0 [some (.inr (.inr (3, 0))), some (.inr (.inr (7, a1))), some (.inl a2), none] [] w Q := by
  unfold f_X5_isTaken at hf
  refine pm_go (i2 := 2) (ls2 := [some (.inr (.inr (3, 0))), some (.inr (.inr (7, a1))), some (.inl a2), some (.inl 0)]) (st2 := []) (w2 := w) 2 (fun F h => h) ?_
  obtain ⟨x4, hx5, hf⟩ := Option.bind_eq_some_iff.mp hf
  refine a_X5_isTaken_L2 F d hd Q w F a1 a2 0 x4 hx5 (fun ex4 hx4 => ?_) (fun rx4 hx4 => ?_)
  · subst hx4
    change _ = _ at hf
    refine pm_go (i2 := 17) (ls2 := [some (.inr (.inr (3, 0))), some (.inr (.inr (7, a1))), some (.inl a2), some (.inl ex4)]) (st2 := [.inl 0]) (w2 := w) 1 (fun F h => h) ?_
    obtain rfl := Option.some.inj hf
    exact pm_re (r := some (.inl 0)) (w2 := w) 1 (fun F h => ⟨rfl, h⟩) hq
  · subst hx4
    obtain rfl := Option.some.inj (show some rx4 = some x from hf)
    exact hq
set_option maxRecDepth 20000 in
set_option maxHeartbeats 4000000 in
theorem a_X5_isTaken (F : Nat) (w : pm_W) (a1 : Nat) (a2 : Int32) (x : Int32) (d : Nat) (hd : 1 ≤ d) (hf : f_X5_isTaken F w a1 a2 = some x) : RT d 42 [.inr (.inr (3, 0)), .inr (.inr (7, a1)), .inl a2] w (some (.inl x)) w := by
  obtain ⟨d, rfl, hd2⟩ := pm_dep hd
  exact pm_start (co := co_X5_isTaken) (nL := 4) (by decide) rfl rfl (Nat.le_of_ble_eq_true rfl) (b_X5_isTaken F d hd2 _ w a1 a2 x hf ⟨rfl, rfl⟩)
def f_X5_canSpeak (F : Nat) (w : pm_W) (a1 : Nat) (a2 : Int32) : Option (Int32) := ((f_X5_knows F w a2).bind fun r1 => (if r1 = 0 then some 0 else ((f_X5_growthOf F w a2).bind fun r4 => (if r4 < 0 then (if pm_inb a2 5 = true then (if (w.1 7 a1 1) ≤ ((w.1 8 a1 a2.toNatClampNeg) + 1) then some 0 else ((f_X5_isTaken F w a1 ((w.1 8 a1 a2.toNatClampNeg) + 1)).bind fun r9 => (if pm_isb (if r9 = 0 then 1 else 0 : Int32) = true then some (if r9 = 0 then 1 else 0 : Int32) else none))) else none) else (if pm_isb (if 60 < ((w.1 7 a1 1) + r4) then 0 else 1 : Int32) = true then some (if 60 < ((w.1 7 a1 1) + r4) then 0 else 1 : Int32) else none)))))
set_option maxRecDepth 20000 in
set_option maxHeartbeats 4000000 in
theorem b_X5_canSpeak (F : Nat) (d : Nat) (hd : 1 ≤ d) (Q : pm_Q) (w : pm_W) (a1 : Nat) (a2 : Int32) (x : Int32) (hf : f_X5_canSpeak F w a1 a2 = some x) (hq : Q (some (.inl x)) w) : pm_Gx (RT d) co_X5_canSpeak 0 [some (.inr (.inr (3, 0))), some (.inr (.inr (7, a1))), some (.inl a2), none, none] [] w Q := by
  unfold f_X5_canSpeak at hf
  refine pm_go (i2 := 2) (ls2 := [some (.inr (.inr (3, 0))), some (.inr (.inr (7, a1))), some (.inl a2), none, none]) (st2 := [.inl a2, .inr (.inr (3, 0))]) (w2 := w) 2 (fun F h => h) ?_
  obtain ⟨r1, hr2, hf⟩ := Option.bind_eq_some_iff.mp hf
  refine pm_ca (y := 30) (as := [.inr (.inr (3, 0)), .inl a2]) (r := some (.inl r1)) (w2 := w) (w1 := w) (t := []) (i2 := 3) (ls2 := [some (.inr (.inr (3, 0))), some (.inr (.inr (7, a1))), some (.inl a2), none, none]) 1 (a_X5_knows F w a2 r1 d (by omega) hr2) (fun F h => h) ?_
  show pm_Gx (RT d) co_X5_canSpeak 3 [some (.inr (.inr (3, 0))), some (.inr (.inr (7, a1))), some (.inl a2), none, none] [.inl r1] w Q
  refine pm_if (P := r1 = 0) (i2 := 4) (i3 := 6) (ls2 := [some (.inr (.inr (3, 0))), some (.inr (.inr (7, a1))), some (.inl a2), none, none]) (st2 := []) (w2 := w) 1 (fun F h => h) (fun hc3 => ?_) (fun hc3 => ?_)
  · rw [if_pos hc3] at hf
    refine pm_go (i2 := 5) (ls2 := [some (.inr (.inr (3, 0))), some (.inr (.inr (7, a1))), some (.inl a2), none, none]) (st2 := [.inl 0]) (w2 := w) 1 (fun F h => h) ?_
    obtain rfl := Option.some.inj hf
    exact pm_re (r := some (.inl 0)) (w2 := w) 1 (fun F h => ⟨rfl, h⟩) hq
  · rw [if_neg hc3] at hf
    refine pm_go (i2 := 8) (ls2 := [some (.inr (.inr (3, 0))), some (.inr (.inr (7, a1))), some (.inl a2), none, none]) (st2 := [.inl a2, .inr (.inr (3, 0))]) (w2 := w) 2 (fun F h => h) ?_
    obtain ⟨r4, hr5, hf⟩ := Option.bind_eq_some_iff.mp hf
    refine pm_ca (y := 43) (as := [.inr (.inr (3, 0)), .inl a2]) (r := some (.inl r4)) (w2 := w) (w1 := w) (t := []) (i2 := 9) (ls2 := [some (.inr (.inr (3, 0))), some (.inr (.inr (7, a1))), some (.inl a2), none, none]) 1 (a_X5_growthOf F w a2 r4 d (by omega) hr5) (fun F h => h) ?_
    show pm_Gx (RT d) co_X5_canSpeak 9 [some (.inr (.inr (3, 0))), some (.inr (.inr (7, a1))), some (.inl a2), none, none] [.inl r4] w Q
    refine pm_go (i2 := 11) (ls2 := [some (.inr (.inr (3, 0))), some (.inr (.inr (7, a1))), some (.inl a2), some (.inl r4), none]) (st2 := [.inl r4]) (w2 := w) 2 (fun F h => h) ?_
    refine pm_if (P := r4 < 0) (i2 := 22) (i3 := 12) (ls2 := [some (.inr (.inr (3, 0))), some (.inr (.inr (7, a1))), some (.inl a2), some (.inl r4), none]) (st2 := []) (w2 := w) 1 (fun F h => h) (fun hc6 => ?_) (fun hc6 => ?_)
    · rw [if_pos hc6] at hf
      obtain ⟨hs7, hf⟩ := pm_itn hf
      refine pm_go (i2 := 32) (ls2 := [some (.inr (.inr (3, 0))), some (.inr (.inr (7, a1))), some (.inl a2), some (.inl r4), some (.inl ((w.1 8 a1 a2.toNatClampNeg) + 1))]) (st2 := [.inl (w.1 7 a1 1), .inl ((w.1 8 a1 a2.toNatClampNeg) + 1)]) (w2 := w) 10 (fun F h => ⟨(pm_inb_in hs7), h⟩) ?_
      refine pm_if (P := (w.1 7 a1 1) ≤ ((w.1 8 a1 a2.toNatClampNeg) + 1)) (i2 := 40) (i3 := 33) (ls2 := [some (.inr (.inr (3, 0))), some (.inr (.inr (7, a1))), some (.inl a2), some (.inl r4), some (.inl ((w.1 8 a1 a2.toNatClampNeg) + 1))]) (st2 := []) (w2 := w) 1 (fun F h => h) (fun hc8 => ?_) (fun hc8 => ?_)
      · rw [if_pos hc8] at hf
        refine pm_go (i2 := 41) (ls2 := [some (.inr (.inr (3, 0))), some (.inr (.inr (7, a1))), some (.inl a2), some (.inl r4), some (.inl ((w.1 8 a1 a2.toNatClampNeg) + 1))]) (st2 := [.inl 0]) (w2 := w) 1 (fun F h => h) ?_
        obtain rfl := Option.some.inj hf
        exact pm_re (r := some (.inl 0)) (w2 := w) 1 (fun F h => ⟨rfl, h⟩) hq
      · rw [if_neg hc8] at hf
        refine pm_go (i2 := 36) (ls2 := [some (.inr (.inr (3, 0))), some (.inr (.inr (7, a1))), some (.inl a2), some (.inl r4), some (.inl ((w.1 8 a1 a2.toNatClampNeg) + 1))]) (st2 := [.inl ((w.1 8 a1 a2.toNatClampNeg) + 1), .inr (.inr (7, a1)), .inr (.inr (3, 0))]) (w2 := w) 3 (fun F h => h) ?_
        obtain ⟨r9, hr10, hf⟩ := Option.bind_eq_some_iff.mp hf
        refine pm_ca (y := 42) (as := [.inr (.inr (3, 0)), .inr (.inr (7, a1)), .inl ((w.1 8 a1 a2.toNatClampNeg) + 1)]) (r := some (.inl r9)) (w2 := w) (w1 := w) (t := []) (i2 := 37) (ls2 := [some (.inr (.inr (3, 0))), some (.inr (.inr (7, a1))), some (.inl a2), some (.inl r4), some (.inl ((w.1 8 a1 a2.toNatClampNeg) + 1))]) 1 (a_X5_isTaken F w a1 ((w.1 8 a1 a2.toNatClampNeg) + 1) r9 d (by omega) hr10) (fun F h => h) ?_
        show pm_Gx (RT d) co_X5_canSpeak 37 [some (.inr (.inr (3, 0))), some (.inr (.inr (7, a1))), some (.inl a2), some (.inl r4), some (.inl ((w.1 8 a1 a2.toNatClampNeg) + 1))] [.inl r9] w Q
        have key : pm_Gx (RT d) co_X5_canSpeak 41 [some (.inr (.inr (3, 0))), some (.inr (.inr (7, a1))), some (.inl a2), some (.inl r4), some (.inl ((w.1 8 a1 a2.toNatClampNeg) + 1))] [.inl (if r9 = 0 then 1 else 0 : Int32)] w Q := by
          obtain ⟨hz11, hf⟩ := pm_itn hf
          obtain rfl := Option.some.inj hf
          exact pm_re (r := some (.inl (if r9 = 0 then 1 else 0 : Int32))) (w2 := w) 1 (fun F h => ⟨pm_isb_nar hz11, h⟩) hq
        clear hf
        refine pm_if (P := r9 = 0) (i2 := 38) (i3 := 40) (ls2 := [some (.inr (.inr (3, 0))), some (.inr (.inr (7, a1))), some (.inl a2), some (.inl r4), some (.inl ((w.1 8 a1 a2.toNatClampNeg) + 1))]) (st2 := []) (w2 := w) 1 (fun F h => h) (fun hc12 => ?_) (fun hc12 => ?_)
        · try simp only [if_pos hc12] at key
          refine pm_go (i2 := 41) (ls2 := [some (.inr (.inr (3, 0))), some (.inr (.inr (7, a1))), some (.inl a2), some (.inl r4), some (.inl ((w.1 8 a1 a2.toNatClampNeg) + 1))]) (st2 := [.inl 1]) (w2 := w) 2 (fun F h => h) ?_
          exact key
        · try simp only [if_neg hc12] at key
          refine pm_go (i2 := 41) (ls2 := [some (.inr (.inr (3, 0))), some (.inr (.inr (7, a1))), some (.inl a2), some (.inl r4), some (.inl ((w.1 8 a1 a2.toNatClampNeg) + 1))]) (st2 := [.inl 0]) (w2 := w) 1 (fun F h => h) ?_
          exact key
    · rw [if_neg hc6] at hf
      refine pm_go (i2 := 17) (ls2 := [some (.inr (.inr (3, 0))), some (.inr (.inr (7, a1))), some (.inl a2), some (.inl r4), none]) (st2 := [.inl 60, .inl ((w.1 7 a1 1) + r4)]) (w2 := w) 5 (fun F h => h) ?_
      have key : pm_Gx (RT d) co_X5_canSpeak 21 [some (.inr (.inr (3, 0))), some (.inr (.inr (7, a1))), some (.inl a2), some (.inl r4), none] [.inl (if 60 < ((w.1 7 a1 1) + r4) then 0 else 1 : Int32)] w Q := by
        obtain ⟨hz13, hf⟩ := pm_itn hf
        obtain rfl := Option.some.inj hf
        exact pm_re (r := some (.inl (if 60 < ((w.1 7 a1 1) + r4) then 0 else 1 : Int32))) (w2 := w) 1 (fun F h => ⟨pm_isb_nar hz13, h⟩) hq
      clear hf
      refine pm_if (P := 60 < ((w.1 7 a1 1) + r4)) (i2 := 20) (i3 := 18) (ls2 := [some (.inr (.inr (3, 0))), some (.inr (.inr (7, a1))), some (.inl a2), some (.inl r4), none]) (st2 := []) (w2 := w) 1 (fun F h => h) (fun hc14 => ?_) (fun hc14 => ?_)
      · try simp only [if_pos hc14] at key
        refine pm_go (i2 := 21) (ls2 := [some (.inr (.inr (3, 0))), some (.inr (.inr (7, a1))), some (.inl a2), some (.inl r4), none]) (st2 := [.inl 0]) (w2 := w) 1 (fun F h => h) ?_
        exact key
      · try simp only [if_neg hc14] at key
        refine pm_go (i2 := 21) (ls2 := [some (.inr (.inr (3, 0))), some (.inr (.inr (7, a1))), some (.inl a2), some (.inl r4), none]) (st2 := [.inl 1]) (w2 := w) 2 (fun F h => h) ?_
        exact key
set_option maxRecDepth 20000 in
set_option maxHeartbeats 4000000 in
theorem a_X5_canSpeak (F : Nat) (w : pm_W) (a1 : Nat) (a2 : Int32) (x : Int32) (d : Nat) (hd : 2 ≤ d) (hf : f_X5_canSpeak F w a1 a2 = some x) : RT d 32 [.inr (.inr (3, 0)), .inr (.inr (7, a1)), .inl a2] w (some (.inl x)) w := by
  obtain ⟨d, rfl, hd2⟩ := pm_dep hd
  exact pm_start (co := co_X5_canSpeak) (nL := 5) (by decide) rfl rfl (Nat.le_of_ble_eq_true rfl) (b_X5_canSpeak F d hd2 _ w a1 a2 x hf ⟨rfl, rfl⟩)
def f_X5_speak_L16 (F : Nat) : Nat → pm_W → Nat → Int32 → Int32 → Int32 → Int32 → Option (Int32 × pm_W)
  | 0, _, _, _, _, _, _ => none
  | n + 1, w, v1, v2, v3, v4, v5 => (if (w.1 3 0 3) ≤ v5 then some (v5, w) else (if pm_inb v5 5 = true then (if (w.1 8 v1 v5.toNatClampNeg) ≤ v4 then f_X5_speak_L16 F n w v1 v2 v3 v4 (v5 + 1) else (if pm_inb v5 5 = true then (if pm_inb v5 5 = true then (pm_wlet (pm_setI w 8 v1 v5.toNatClampNeg ((w.1 8 v1 v5.toNatClampNeg) + v3)) fun w12 => f_X5_speak_L16 F n w12 v1 v2 v3 v4 (v5 + 1)) else none) else none)) else none))
def f_X5_speak (F : Nat) (w : pm_W) (a1 : Nat) (a2 : Int32) : Option (pm_W) := ((f_X5_knows F w a2).bind fun r1 => (if r1 = 0 then some w else ((f_X5_growthOf F w a2).bind fun r4 => (if pm_inb a2 5 = true then ((f_X5_speak_L16 F F w a1 a2 r4 (w.1 8 a1 a2.toNatClampNeg) 0).bind fun x13 => (if (x13.2.1 7 a1 2) ≤ (w.1 8 a1 a2.toNatClampNeg) then (pm_wlet (pm_setI x13.2 7 a1 1 ((x13.2.1 7 a1 1) + r4)) fun w16 => some w16) else (pm_wlet (pm_setI x13.2 7 a1 2 ((x13.2.1 7 a1 2) + r4)) fun w17 => (pm_wlet (pm_setI w17 7 a1 1 ((w17.1 7 a1 1) + r4)) fun w18 => some w18)))) else none))))
set_option maxRecDepth 20000 in
set_option maxHeartbeats 4000000 in
theorem a_X5_speak_L16 (F : Nat) (d : Nat) (hd : 1 ≤ d) (Q : pm_Q) : ∀ (n : Nat) (w : pm_W) (v1 : Nat) (v2 : Int32) (v3 : Int32) (v4 : Int32) (v5 : Int32) (x : Int32 × pm_W), f_X5_speak_L16 F n w v1 v2 v3 v4 v5 = some x → pm_Gx (RT d) co_X5_speak 36 [some (.inr (.inr (3, 0))), some (.inr (.inr (7, v1))), some (.inl v2), some (.inl v3), some (.inl v4), some (.inl x.1)] [] x.2 Q → pm_Gx (RT d) co_X5_speak 16 [some (.inr (.inr (3, 0))), some (.inr (.inr (7, v1))), some (.inl v2), some (.inl v3), some (.inl v4), some (.inl v5)] [] w Q := by
  intro n
  induction n with
  | zero =>
    intro w v1 v2 v3 v4 v5 x hf
    cases hf
  | succ n ih =>
    intro w v1 v2 v3 v4 v5 x hf hk
    rw [f_X5_speak_L16] at hf
    refine pm_go (i2 := 19) (ls2 := [some (.inr (.inr (3, 0))), some (.inr (.inr (7, v1))), some (.inl v2), some (.inl v3), some (.inl v4), some (.inl v5)]) (st2 := [.inl (w.1 3 0 3), .inl v5]) (w2 := w) 3 (fun F h => h) ?_
    refine pm_if (P := (w.1 3 0 3) ≤ v5) (i2 := 36) (i3 := 20) (ls2 := [some (.inr (.inr (3, 0))), some (.inr (.inr (7, v1))), some (.inl v2), some (.inl v3), some (.inl v4), some (.inl v5)]) (st2 := []) (w2 := w) 1 (fun F h => h) (fun hc7 => ?_) (fun hc7 => ?_)
    · rw [if_pos hc7] at hf
      obtain rfl := Option.some.inj hf
      exact hk
    · rw [if_neg hc7] at hf
      obtain ⟨hs8, hf⟩ := pm_itn hf
      refine pm_go (i2 := 25) (ls2 := [some (.inr (.inr (3, 0))), some (.inr (.inr (7, v1))), some (.inl v2), some (.inl v3), some (.inl v4), some (.inl v5)]) (st2 := [.inl v4, .inl (w.1 8 v1 v5.toNatClampNeg)]) (w2 := w) 5 (fun F h => ⟨(pm_inb_in hs8), h⟩) ?_
      refine pm_if (P := (w.1 8 v1 v5.toNatClampNeg) ≤ v4) (i2 := 34) (i3 := 26) (ls2 := [some (.inr (.inr (3, 0))), some (.inr (.inr (7, v1))), some (.inl v2), some (.inl v3), some (.inl v4), some (.inl v5)]) (st2 := []) (w2 := w) 1 (fun F h => h) (fun hc9 => ?_) (fun hc9 => ?_)
      · rw [if_pos hc9] at hf
        refine pm_go (i2 := 16) (ls2 := [some (.inr (.inr (3, 0))), some (.inr (.inr (7, v1))), some (.inl v2), some (.inl v3), some (.inl v4), some (.inl (v5 + 1))]) (st2 := []) (w2 := w) 2 (fun F h => h) ?_
        exact ih w v1 v2 v3 v4 (v5 + 1) _ hf hk
      · rw [if_neg hc9] at hf
        obtain ⟨hs10, hf⟩ := pm_itn hf
        obtain ⟨hs11, hf⟩ := pm_itn hf
        refine pm_go (i2 := 34) (ls2 := [some (.inr (.inr (3, 0))), some (.inr (.inr (7, v1))), some (.inl v2), some (.inl v3), some (.inl v4), some (.inl v5)]) (st2 := []) (w2 := (pm_setI w 8 v1 v5.toNatClampNeg ((w.1 8 v1 v5.toNatClampNeg) + v3))) 8 (fun F h => ⟨(pm_inb_in hs10), (pm_inb_in hs11), h⟩) ?_
        generalize (pm_setI w 8 v1 v5.toNatClampNeg ((w.1 8 v1 v5.toNatClampNeg) + v3)) = w12 at hf ⊢
        replace hf := pm_wlet_un hf
        refine pm_go (i2 := 16) (ls2 := [some (.inr (.inr (3, 0))), some (.inr (.inr (7, v1))), some (.inl v2), some (.inl v3), some (.inl v4), some (.inl (v5 + 1))]) (st2 := []) (w2 := w12) 2 (fun F h => h) ?_
        exact ih w12 v1 v2 v3 v4 (v5 + 1) _ hf hk
set_option maxRecDepth 20000 in
set_option maxHeartbeats 4000000 in
theorem b_X5_speak (F : Nat) (d : Nat) (hd : 1 ≤ d) (Q : pm_Q) (w : pm_W) (a1 : Nat) (a2 : Int32) (x : pm_W) (hf : f_X5_speak F w a1 a2 = some x) (hq : Q (none) x) : pm_Gx (RT d) co_X5_speak 0 [some (.inr (.inr (3, 0))), some (.inr (.inr (7, a1))), some (.inl a2), none, none, none] [] w Q := by
  unfold f_X5_speak at hf
  refine pm_go (i2 := 2) (ls2 := [some (.inr (.inr (3, 0))), some (.inr (.inr (7, a1))), some (.inl a2), none, none, none]) (st2 := [.inl a2, .inr (.inr (3, 0))]) (w2 := w) 2 (fun F h => h) ?_
  obtain ⟨r1, hr2, hf⟩ := Option.bind_eq_some_iff.mp hf
  refine pm_ca (y := 30) (as := [.inr (.inr (3, 0)), .inl a2]) (r := some (.inl r1)) (w2 := w) (w1 := w) (t := []) (i2 := 3) (ls2 := [some (.inr (.inr (3, 0))), some (.inr (.inr (7, a1))), some (.inl a2), none, none, none]) 1 (a_X5_knows F w a2 r1 d (by omega) hr2) (fun F h => h) ?_
  show pm_Gx (RT d) co_X5_speak 3 [some (.inr (.inr (3, 0))), some (.inr (.inr (7, a1))), some (.inl a2), none, none, none] [.inl r1] w Q
  refine pm_if (P := r1 = 0) (i2 := 4) (i3 := 5) (ls2 := [some (.inr (.inr (3, 0))), some (.inr (.inr (7, a1))), some (.inl a2), none, none, none]) (st2 := []) (w2 := w) 1 (fun F h => h) (fun hc3 => ?_) (fun hc3 => ?_)
  · rw [if_pos hc3] at hf
    obtain rfl := Option.some.inj hf
    exact pm_re (r := none) (w2 := w) 1 (fun F h => h) hq
  · rw [if_neg hc3] at hf
    refine pm_go (i2 := 7) (ls2 := [some (.inr (.inr (3, 0))), some (.inr (.inr (7, a1))), some (.inl a2), none, none, none]) (st2 := [.inl a2, .inr (.inr (3, 0))]) (w2 := w) 2 (fun F h => h) ?_
    obtain ⟨r4, hr5, hf⟩ := Option.bind_eq_some_iff.mp hf
    refine pm_ca (y := 43) (as := [.inr (.inr (3, 0)), .inl a2]) (r := some (.inl r4)) (w2 := w) (w1 := w) (t := []) (i2 := 8) (ls2 := [some (.inr (.inr (3, 0))), some (.inr (.inr (7, a1))), some (.inl a2), none, none, none]) 1 (a_X5_growthOf F w a2 r4 d (by omega) hr5) (fun F h => h) ?_
    show pm_Gx (RT d) co_X5_speak 8 [some (.inr (.inr (3, 0))), some (.inr (.inr (7, a1))), some (.inl a2), none, none, none] [.inl r4] w Q
    obtain ⟨hs6, hf⟩ := pm_itn hf
    refine pm_go (i2 := 16) (ls2 := [some (.inr (.inr (3, 0))), some (.inr (.inr (7, a1))), some (.inl a2), some (.inl r4), some (.inl (w.1 8 a1 a2.toNatClampNeg)), some (.inl 0)]) (st2 := []) (w2 := w) 8 (fun F h => ⟨(pm_inb_in hs6), h⟩) ?_
    obtain ⟨x13, hx14, hf⟩ := Option.bind_eq_some_iff.mp hf
    refine a_X5_speak_L16 F d hd Q F w a1 a2 r4 (w.1 8 a1 a2.toNatClampNeg) 0 x13 hx14 ?_
    refine pm_go (i2 := 39) (ls2 := [some (.inr (.inr (3, 0))), some (.inr (.inr (7, a1))), some (.inl a2), some (.inl r4), some (.inl (w.1 8 a1 a2.toNatClampNeg)), some (.inl x13.1)]) (st2 := [.inl (w.1 8 a1 a2.toNatClampNeg), .inl (x13.2.1 7 a1 2)]) (w2 := x13.2) 3 (fun F h => h) ?_
    refine pm_if (P := (x13.2.1 7 a1 2) ≤ (w.1 8 a1 a2.toNatClampNeg)) (i2 := 46) (i3 := 40) (ls2 := [some (.inr (.inr (3, 0))), some (.inr (.inr (7, a1))), some (.inl a2), some (.inl r4), some (.inl (w.1 8 a1 a2.toNatClampNeg)), some (.inl x13.1)]) (st2 := []) (w2 := x13.2) 1 (fun F h => h) (fun hc15 => ?_) (fun hc15 => ?_)
    · rw [if_pos hc15] at hf
      refine pm_go (i2 := 52) (ls2 := [some (.inr (.inr (3, 0))), some (.inr (.inr (7, a1))), some (.inl a2), some (.inl r4), some (.inl (w.1 8 a1 a2.toNatClampNeg)), some (.inl x13.1)]) (st2 := []) (w2 := (pm_setI x13.2 7 a1 1 ((x13.2.1 7 a1 1) + r4))) 6 (fun F h => h) ?_
      generalize (pm_setI x13.2 7 a1 1 ((x13.2.1 7 a1 1) + r4)) = w16 at hf ⊢
      replace hf := pm_wlet_un hf
      obtain rfl := Option.some.inj hf
      exact pm_re (r := none) (w2 := w16) 1 (fun F h => h) hq
    · rw [if_neg hc15] at hf
      refine pm_go (i2 := 46) (ls2 := [some (.inr (.inr (3, 0))), some (.inr (.inr (7, a1))), some (.inl a2), some (.inl r4), some (.inl (w.1 8 a1 a2.toNatClampNeg)), some (.inl x13.1)]) (st2 := []) (w2 := (pm_setI x13.2 7 a1 2 ((x13.2.1 7 a1 2) + r4))) 6 (fun F h => h) ?_
      generalize (pm_setI x13.2 7 a1 2 ((x13.2.1 7 a1 2) + r4)) = w17 at hf ⊢
      replace hf := pm_wlet_un hf
      refine pm_go (i2 := 52) (ls2 := [some (.inr (.inr (3, 0))), some (.inr (.inr (7, a1))), some (.inl a2), some (.inl r4), some (.inl (w.1 8 a1 a2.toNatClampNeg)), some (.inl x13.1)]) (st2 := []) (w2 := (pm_setI w17 7 a1 1 ((w17.1 7 a1 1) + r4))) 6 (fun F h => h) ?_
      generalize (pm_setI w17 7 a1 1 ((w17.1 7 a1 1) + r4)) = w18 at hf ⊢
      replace hf := pm_wlet_un hf
      obtain rfl := Option.some.inj hf
      exact pm_re (r := none) (w2 := w18) 1 (fun F h => h) hq
set_option maxRecDepth 20000 in
set_option maxHeartbeats 4000000 in
theorem a_X5_speak (F : Nat) (w : pm_W) (a1 : Nat) (a2 : Int32) (x : pm_W) (d : Nat) (hd : 2 ≤ d) (hf : f_X5_speak F w a1 a2 = some x) : RT d 33 [.inr (.inr (3, 0)), .inr (.inr (7, a1)), .inl a2] w (none) x := by
  obtain ⟨d, rfl, hd2⟩ := pm_dep hd
  exact pm_start (co := co_X5_speak) (nL := 6) (by decide) rfl rfl (Nat.le_of_ble_eq_true rfl) (b_X5_speak F d hd2 _ w a1 a2 x hf ⟨rfl, rfl⟩)
def f_X5_speakIfCan (F : Nat) (w : pm_W) (a1 : Nat) (a2 : Int32) : Option ((Int32 × pm_W)) := ((f_X5_canSpeak F w a1 a2).bind fun r1 => (if r1 = 0 then some (0, w) else ((f_X5_speak F w a1 a2).bind fun r4 => some (1, r4))))
set_option maxRecDepth 20000 in
set_option maxHeartbeats 4000000 in
theorem b_X5_speakIfCan (F : Nat) (d : Nat) (hd : 2 ≤ d) (Q : pm_Q) (w : pm_W) (a1 : Nat) (a2 : Int32) (x : (Int32 × pm_W)) (hf : f_X5_speakIfCan F w a1 a2 = some x) (hq : Q (some (.inl x.1)) x.2) : pm_Gx (RT d) co_X5_speakIfCan 0 [some (.inr (.inr (3, 0))), some (.inr (.inr (7, a1))), some (.inl a2)] [] w Q := by
  unfold f_X5_speakIfCan at hf
  refine pm_go (i2 := 3) (ls2 := [some (.inr (.inr (3, 0))), some (.inr (.inr (7, a1))), some (.inl a2)]) (st2 := [.inl a2, .inr (.inr (7, a1)), .inr (.inr (3, 0))]) (w2 := w) 3 (fun F h => h) ?_
  obtain ⟨r1, hr2, hf⟩ := Option.bind_eq_some_iff.mp hf
  refine pm_ca (y := 32) (as := [.inr (.inr (3, 0)), .inr (.inr (7, a1)), .inl a2]) (r := some (.inl r1)) (w2 := w) (w1 := w) (t := []) (i2 := 4) (ls2 := [some (.inr (.inr (3, 0))), some (.inr (.inr (7, a1))), some (.inl a2)]) 1 (a_X5_canSpeak F w a1 a2 r1 d (by omega) hr2) (fun F h => h) ?_
  show pm_Gx (RT d) co_X5_speakIfCan 4 [some (.inr (.inr (3, 0))), some (.inr (.inr (7, a1))), some (.inl a2)] [.inl r1] w Q
  refine pm_if (P := r1 = 0) (i2 := 5) (i3 := 7) (ls2 := [some (.inr (.inr (3, 0))), some (.inr (.inr (7, a1))), some (.inl a2)]) (st2 := []) (w2 := w) 1 (fun F h => h) (fun hc3 => ?_) (fun hc3 => ?_)
  · rw [if_pos hc3] at hf
    refine pm_go (i2 := 6) (ls2 := [some (.inr (.inr (3, 0))), some (.inr (.inr (7, a1))), some (.inl a2)]) (st2 := [.inl 0]) (w2 := w) 1 (fun F h => h) ?_
    obtain rfl := Option.some.inj hf
    exact pm_re (r := some (.inl 0)) (w2 := w) 1 (fun F h => ⟨rfl, h⟩) hq
  · rw [if_neg hc3] at hf
    refine pm_go (i2 := 10) (ls2 := [some (.inr (.inr (3, 0))), some (.inr (.inr (7, a1))), some (.inl a2)]) (st2 := [.inl a2, .inr (.inr (7, a1)), .inr (.inr (3, 0))]) (w2 := w) 3 (fun F h => h) ?_
    obtain ⟨r4, hr5, hf⟩ := Option.bind_eq_some_iff.mp hf
    refine pm_ca (y := 33) (as := [.inr (.inr (3, 0)), .inr (.inr (7, a1)), .inl a2]) (r := none) (w2 := w) (w1 := r4) (t := []) (i2 := 11) (ls2 := [some (.inr (.inr (3, 0))), some (.inr (.inr (7, a1))), some (.inl a2)]) 1 (a_X5_speak F w a1 a2 r4 d (by omega) hr5) (fun F h => h) ?_
    show pm_Gx (RT d) co_X5_speakIfCan 11 [some (.inr (.inr (3, 0))), some (.inr (.inr (7, a1))), some (.inl a2)] [] r4 Q
    refine pm_go (i2 := 12) (ls2 := [some (.inr (.inr (3, 0))), some (.inr (.inr (7, a1))), some (.inl a2)]) (st2 := [.inl 1]) (w2 := r4) 1 (fun F h => h) ?_
    obtain rfl := Option.some.inj hf
    exact pm_re (r := some (.inl 1)) (w2 := r4) 1 (fun F h => ⟨rfl, h⟩) hq
set_option maxRecDepth 20000 in
set_option maxHeartbeats 4000000 in
theorem a_X5_speakIfCan (F : Nat) (w : pm_W) (a1 : Nat) (a2 : Int32) (x : (Int32 × pm_W)) (d : Nat) (hd : 3 ≤ d) (hf : f_X5_speakIfCan F w a1 a2 = some x) : RT d 34 [.inr (.inr (3, 0)), .inr (.inr (7, a1)), .inl a2] w (some (.inl x.1)) x.2 := by
  obtain ⟨d, rfl, hd2⟩ := pm_dep hd
  exact pm_start (co := co_X5_speakIfCan) (nL := 3) (by decide) rfl rfl (Nat.le_of_ble_eq_true rfl) (b_X5_speakIfCan F d hd2 _ w a1 a2 x hf ⟨rfl, rfl⟩)
def f_X1_lengthBy_L7 (F : Nat) : Nat → pm_W → Nat → Int32 → Nat → Int32 → Option (Int32 × pm_W)
  | 0, _, _, _, _, _ => none
  | n + 1, w, v1, v2, v3, v4 => (if (w.1 3 0 3) ≤ v4 then some (v4, w) else (if ((v2 >>> (v4 &&& 31)) &&& 1) = 1 then ((f_X5_speakIfCan F w v3 v4).bind fun r5 => f_X1_lengthBy_L7 F n r5.2 v1 v2 v3 (v4 + 1)) else f_X1_lengthBy_L7 F n w v1 v2 v3 (v4 + 1)))
def f_X1_lengthBy (F : Nat) (w : pm_W) (a1 : Nat) (a2 : Int32) : Option ((Int32 × pm_W)) := ((f_X3_trialFrom F w a1).bind fun r1 => ((f_X1_lengthBy_L7 F F r1.2 a1 a2 r1.1 0).bind fun x7 => some (x7.2.1 7 r1.1 1, x7.2)))
set_option maxRecDepth 20000 in
set_option maxHeartbeats 4000000 in
theorem a_X1_lengthBy_L7 (F : Nat) (d : Nat) (hd : 3 ≤ d) (Q : pm_Q) : ∀ (n : Nat) (w : pm_W) (v1 : Nat) (v2 : Int32) (v3 : Nat) (v4 : Int32) (x : Int32 × pm_W), f_X1_lengthBy_L7 F n w v1 v2 v3 v4 = some x → pm_Gx (RT d) co_X1_lengthBy 27 [some (.inr (.inr (18, 0))), some (.inr (.inr (7, v1))), some (.inl v2), some (.inr (.inr (7, v3))), some (.inl x.1)] [] x.2 Q → pm_Gx (RT d) co_X1_lengthBy 7 [some (.inr (.inr (18, 0))), some (.inr (.inr (7, v1))), some (.inl v2), some (.inr (.inr (7, v3))), some (.inl v4)] [] w Q := by
  intro n
  induction n with
  | zero =>
    intro w v1 v2 v3 v4 x hf
    cases hf
  | succ n ih =>
    intro w v1 v2 v3 v4 x hf hk
    rw [f_X1_lengthBy_L7] at hf
    refine pm_go (i2 := 11) (ls2 := [some (.inr (.inr (18, 0))), some (.inr (.inr (7, v1))), some (.inl v2), some (.inr (.inr (7, v3))), some (.inl v4)]) (st2 := [.inl (w.1 3 0 3), .inl v4]) (w2 := w) 4 (fun F h => h) ?_
    refine pm_if (P := (w.1 3 0 3) ≤ v4) (i2 := 27) (i3 := 12) (ls2 := [some (.inr (.inr (18, 0))), some (.inr (.inr (7, v1))), some (.inl v2), some (.inr (.inr (7, v3))), some (.inl v4)]) (st2 := []) (w2 := w) 1 (fun F h => h) (fun hc3 => ?_) (fun hc3 => ?_)
    · rw [if_pos hc3] at hf
      obtain rfl := Option.some.inj hf
      exact hk
    · rw [if_neg hc3] at hf
      refine pm_go (i2 := 18) (ls2 := [some (.inr (.inr (18, 0))), some (.inr (.inr (7, v1))), some (.inl v2), some (.inr (.inr (7, v3))), some (.inl v4)]) (st2 := [.inl 1, .inl ((v2 >>> (v4 &&& 31)) &&& 1)]) (w2 := w) 6 (fun F h => h) ?_
      refine pm_if (P := ((v2 >>> (v4 &&& 31)) &&& 1) = 1) (i2 := 19) (i3 := 25) (ls2 := [some (.inr (.inr (18, 0))), some (.inr (.inr (7, v1))), some (.inl v2), some (.inr (.inr (7, v3))), some (.inl v4)]) (st2 := []) (w2 := w) 1 (fun F h => h) (fun hc4 => ?_) (fun hc4 => ?_)
      · rw [if_pos hc4] at hf
        refine pm_go (i2 := 23) (ls2 := [some (.inr (.inr (18, 0))), some (.inr (.inr (7, v1))), some (.inl v2), some (.inr (.inr (7, v3))), some (.inl v4)]) (st2 := [.inl v4, .inr (.inr (7, v3)), .inr (.inr (3, 0))]) (w2 := w) 4 (fun F h => h) ?_
        obtain ⟨r5, hr6, hf⟩ := Option.bind_eq_some_iff.mp hf
        refine pm_ca (y := 34) (as := [.inr (.inr (3, 0)), .inr (.inr (7, v3)), .inl v4]) (r := some (.inl r5.1)) (w2 := w) (w1 := r5.2) (t := []) (i2 := 24) (ls2 := [some (.inr (.inr (18, 0))), some (.inr (.inr (7, v1))), some (.inl v2), some (.inr (.inr (7, v3))), some (.inl v4)]) 1 (a_X5_speakIfCan F w v3 v4 r5 d (by omega) hr6) (fun F h => h) ?_
        show pm_Gx (RT d) co_X1_lengthBy 24 [some (.inr (.inr (18, 0))), some (.inr (.inr (7, v1))), some (.inl v2), some (.inr (.inr (7, v3))), some (.inl v4)] [.inl r5.1] r5.2 Q
        refine pm_go (i2 := 7) (ls2 := [some (.inr (.inr (18, 0))), some (.inr (.inr (7, v1))), some (.inl v2), some (.inr (.inr (7, v3))), some (.inl (v4 + 1))]) (st2 := []) (w2 := r5.2) 3 (fun F h => h) ?_
        exact ih r5.2 v1 v2 v3 (v4 + 1) _ hf hk
      · rw [if_neg hc4] at hf
        refine pm_go (i2 := 7) (ls2 := [some (.inr (.inr (18, 0))), some (.inr (.inr (7, v1))), some (.inl v2), some (.inr (.inr (7, v3))), some (.inl (v4 + 1))]) (st2 := []) (w2 := w) 2 (fun F h => h) ?_
        exact ih w v1 v2 v3 (v4 + 1) _ hf hk
set_option maxRecDepth 20000 in
set_option maxHeartbeats 4000000 in
theorem b_X1_lengthBy (F : Nat) (d : Nat) (hd : 3 ≤ d) (Q : pm_Q) (w : pm_W) (a1 : Nat) (a2 : Int32) (x : (Int32 × pm_W)) (hf : f_X1_lengthBy F w a1 a2 = some x) (hq : Q (some (.inl x.1)) x.2) : pm_Gx (RT d) co_X1_lengthBy 0 [some (.inr (.inr (18, 0))), some (.inr (.inr (7, a1))), some (.inl a2), none, none] [] w Q := by
  unfold f_X1_lengthBy at hf
  refine pm_go (i2 := 3) (ls2 := [some (.inr (.inr (18, 0))), some (.inr (.inr (7, a1))), some (.inl a2), none, none]) (st2 := [.inr (.inr (7, a1)), .inr (.inr (16, 0))]) (w2 := w) 3 (fun F h => h) ?_
  obtain ⟨r1, hr2, hf⟩ := Option.bind_eq_some_iff.mp hf
  refine pm_ca (y := 16) (as := [.inr (.inr (16, 0)), .inr (.inr (7, a1))]) (r := some (.inr (.inr (7, r1.1)))) (w2 := w) (w1 := r1.2) (t := []) (i2 := 4) (ls2 := [some (.inr (.inr (18, 0))), some (.inr (.inr (7, a1))), some (.inl a2), none, none]) 1 (a_X3_trialFrom F w a1 r1 d (by omega) hr2) (fun F h => h) ?_
  show pm_Gx (RT d) co_X1_lengthBy 4 [some (.inr (.inr (18, 0))), some (.inr (.inr (7, a1))), some (.inl a2), none, none] [.inr (.inr (7, r1.1))] r1.2 Q
  refine pm_go (i2 := 7) (ls2 := [some (.inr (.inr (18, 0))), some (.inr (.inr (7, a1))), some (.inl a2), some (.inr (.inr (7, r1.1))), some (.inl 0)]) (st2 := []) (w2 := r1.2) 3 (fun F h => h) ?_
  obtain ⟨x7, hx8, hf⟩ := Option.bind_eq_some_iff.mp hf
  refine a_X1_lengthBy_L7 F d hd Q F r1.2 a1 a2 r1.1 0 x7 hx8 ?_
  refine pm_go (i2 := 29) (ls2 := [some (.inr (.inr (18, 0))), some (.inr (.inr (7, a1))), some (.inl a2), some (.inr (.inr (7, r1.1))), some (.inl x7.1)]) (st2 := [.inl (x7.2.1 7 r1.1 1)]) (w2 := x7.2) 2 (fun F h => h) ?_
  obtain rfl := Option.some.inj hf
  exact pm_re (r := some (.inl (x7.2.1 7 r1.1 1))) (w2 := x7.2) 1 (fun F h => h) hq
set_option maxRecDepth 20000 in
set_option maxHeartbeats 4000000 in
theorem a_X1_lengthBy (F : Nat) (w : pm_W) (a1 : Nat) (a2 : Int32) (x : (Int32 × pm_W)) (d : Nat) (hd : 4 ≤ d) (hf : f_X1_lengthBy F w a1 a2 = some x) : RT d 7 [.inr (.inr (18, 0)), .inr (.inr (7, a1)), .inl a2] w (some (.inl x.1)) x.2 := by
  obtain ⟨d, rfl, hd2⟩ := pm_dep hd
  exact pm_start (co := co_X1_lengthBy) (nL := 5) (by decide) rfl rfl (Nat.le_of_ble_eq_true rfl) (b_X1_lengthBy F d hd2 _ w a1 a2 x hf ⟨rfl, rfl⟩)
