def f_X3_lengthByTurns (F : Nat) (w : pm_W) (a1 : Nat) (a2 : Int32) : Option ((Int32 × pm_W)) := ((f_X3_trialFrom F w a1).bind fun r1 => (pm_wlet (pm_setI r1.2 16 0 4 0) fun w3 => ((f_X3_tryTurn F 8 w3 0 a2).bind fun r4 => some (r4.1, r4.2))))
set_option maxRecDepth 20000 in
set_option maxHeartbeats 4000000 in
theorem b_X3_lengthByTurns (F : Nat) (d : Nat) (hd : 12 ≤ d) (Q : pm_Q) (w : pm_W) (a1 : Nat) (a2 : Int32) (x : (Int32 × pm_W)) (hf : f_X3_lengthByTurns F w a1 a2 = some x) (hq : Q (some (.inl x.1)) x.2) : pm_Gx (RT d) co_X3_lengthByTurns 0 [some (.inr (.inr (16, 0))), some (.inr (.inr (7, a1))), some (.inl a2)] [] w Q := by
  unfold f_X3_lengthByTurns at hf
  refine pm_go (i2 := 2) (ls2 := [some (.inr (.inr (16, 0))), some (.inr (.inr (7, a1))), some (.inl a2)]) (st2 := [.inr (.inr (7, a1)), .inr (.inr (16, 0))]) (w2 := w) 2 (fun F h => h) ?_
  obtain ⟨r1, hr2, hf⟩ := Option.bind_eq_some_iff.mp hf
  refine pm_ca (y := 16) (as := [.inr (.inr (16, 0)), .inr (.inr (7, a1))]) (r := some (.inr (.inr (7, r1.1)))) (w2 := w) (w1 := r1.2) (t := []) (i2 := 3) (ls2 := [some (.inr (.inr (16, 0))), some (.inr (.inr (7, a1))), some (.inl a2)]) 1 (a_X3_trialFrom F w a1 r1 d (by omega) hr2) (fun F h => h) ?_
  show pm_Gx (RT d) co_X3_lengthByTurns 3 [some (.inr (.inr (16, 0))), some (.inr (.inr (7, a1))), some (.inl a2)] [.inr (.inr (7, r1.1))] r1.2 Q
  refine pm_go (i2 := 7) (ls2 := [some (.inr (.inr (16, 0))), some (.inr (.inr (7, a1))), some (.inl a2)]) (st2 := []) (w2 := (pm_setI r1.2 16 0 4 0)) 4 (fun F h => h) ?_
  generalize (pm_setI r1.2 16 0 4 0) = w3 at hf ⊢
  replace hf := pm_wlet_un hf
  refine pm_go (i2 := 10) (ls2 := [some (.inr (.inr (16, 0))), some (.inr (.inr (7, a1))), some (.inl a2)]) (st2 := [.inl a2, .inl 0, .inr (.inr (16, 0))]) (w2 := w3) 3 (fun F h => h) ?_
  obtain ⟨r4, hr5, hf⟩ := Option.bind_eq_some_iff.mp hf
  refine pm_ca (y := 26) (as := [.inr (.inr (16, 0)), .inl 0, .inl a2]) (r := some (.inl r4.1)) (w2 := w3) (w1 := r4.2) (t := []) (i2 := 11) (ls2 := [some (.inr (.inr (16, 0))), some (.inr (.inr (7, a1))), some (.inl a2)]) 1 (a_X3_tryTurn F w3 0 a2 r4 d (by omega) hr5) (fun F h => h) ?_
  show pm_Gx (RT d) co_X3_lengthByTurns 11 [some (.inr (.inr (16, 0))), some (.inr (.inr (7, a1))), some (.inl a2)] [.inl r4.1] r4.2 Q
  obtain rfl := Option.some.inj hf
  exact pm_re (r := some (.inl r4.1)) (w2 := r4.2) 1 (fun F h => h) hq
set_option maxRecDepth 20000 in
set_option maxHeartbeats 4000000 in
theorem a_X3_lengthByTurns (F : Nat) (w : pm_W) (a1 : Nat) (a2 : Int32) (x : (Int32 × pm_W)) (d : Nat) (hd : 13 ≤ d) (hf : f_X3_lengthByTurns F w a1 a2 = some x) : RT d 25 [.inr (.inr (16, 0)), .inr (.inr (7, a1)), .inl a2] w (some (.inl x.1)) x.2 := by
  obtain ⟨d, rfl, hd2⟩ := pm_dep hd
  exact pm_start (co := co_X3_lengthByTurns) (nL := 3) (by decide) rfl rfl (Nat.le_of_ble_eq_true rfl) (b_X3_lengthByTurns F d hd2 _ w a1 a2 x hf ⟨rfl, rfl⟩)
def f_X6_figureTold (F : Nat) (w : pm_W) (a1 : Int32) : Option (Int32) := (if a1 < 0 then some (-1) else (if (w.1 1 0 1) ≤ a1 then some (-1) else (if a1 < 40 then (if pm_inb a1 40 = true then some (if ((w.1 2 0 a1.toNatClampNeg) - 48) < 0 then (-1) else (if 9 < ((w.1 2 0 a1.toNatClampNeg) - 48) then (-1) else (w.1 2 0 a1.toNatClampNeg) - 48 : Int32) : Int32) else none) else some (-1))))
set_option maxRecDepth 20000 in
set_option maxHeartbeats 4000000 in
theorem b_X6_figureTold (F : Nat) (d : Nat) (hd : 0 ≤ d) (Q : pm_Q) (w : pm_W) (a1 : Int32) (x : Int32) (hf : f_X6_figureTold F w a1 = some x) (hq : Q (some (.inl x)) w) : pm_Gx (RT d) co_X6_figureTold 0 [some (.inr (.inr (1, 0))), some (.inl a1), none] [] w Q := by
  unfold f_X6_figureTold at hf
  refine pm_go (i2 := 1) (ls2 := [some (.inr (.inr (1, 0))), some (.inl a1), none]) (st2 := [.inl a1]) (w2 := w) 1 (fun F h => h) ?_
  refine pm_if (P := a1 < 0) (i2 := 9) (i3 := 2) (ls2 := [some (.inr (.inr (1, 0))), some (.inl a1), none]) (st2 := []) (w2 := w) 1 (fun F h => h) (fun hc1 => ?_) (fun hc1 => ?_)
  · rw [if_pos hc1] at hf
    refine pm_go (i2 := 10) (ls2 := [some (.inr (.inr (1, 0))), some (.inl a1), none]) (st2 := [.inl (-1)]) (w2 := w) 1 (fun F h => h) ?_
    obtain rfl := Option.some.inj hf
    exact pm_re (r := some (.inl (-1))) (w2 := w) 1 (fun F h => h) hq
  · rw [if_neg hc1] at hf
    refine pm_go (i2 := 5) (ls2 := [some (.inr (.inr (1, 0))), some (.inl a1), none]) (st2 := [.inl (w.1 1 0 1), .inl a1]) (w2 := w) 3 (fun F h => h) ?_
    refine pm_if (P := (w.1 1 0 1) ≤ a1) (i2 := 9) (i3 := 6) (ls2 := [some (.inr (.inr (1, 0))), some (.inl a1), none]) (st2 := []) (w2 := w) 1 (fun F h => h) (fun hc2 => ?_) (fun hc2 => ?_)
    · rw [if_pos hc2] at hf
      refine pm_go (i2 := 10) (ls2 := [some (.inr (.inr (1, 0))), some (.inl a1), none]) (st2 := [.inl (-1)]) (w2 := w) 1 (fun F h => h) ?_
      obtain rfl := Option.some.inj hf
      exact pm_re (r := some (.inl (-1))) (w2 := w) 1 (fun F h => h) hq
    · rw [if_neg hc2] at hf
      refine pm_go (i2 := 8) (ls2 := [some (.inr (.inr (1, 0))), some (.inl a1), none]) (st2 := [.inl 40, .inl a1]) (w2 := w) 2 (fun F h => h) ?_
      refine pm_if (P := a1 < 40) (i2 := 11) (i3 := 9) (ls2 := [some (.inr (.inr (1, 0))), some (.inl a1), none]) (st2 := []) (w2 := w) 1 (fun F h => h) (fun hc3 => ?_) (fun hc3 => ?_)
      · rw [if_pos hc3] at hf
        obtain ⟨hs4, hf⟩ := pm_itn hf
        refine pm_go (i2 := 19) (ls2 := [some (.inr (.inr (1, 0))), some (.inl a1), some (.inl ((w.1 2 0 a1.toNatClampNeg) - 48))]) (st2 := [.inl ((w.1 2 0 a1.toNatClampNeg) - 48)]) (w2 := w) 8 (fun F h => ⟨(pm_inb_in hs4), h⟩) ?_
        have key : pm_Gx (RT d) co_X6_figureTold 26 [some (.inr (.inr (1, 0))), some (.inl a1), some (.inl ((w.1 2 0 a1.toNatClampNeg) - 48))] [.inl (if ((w.1 2 0 a1.toNatClampNeg) - 48) < 0 then (-1) else (if 9 < ((w.1 2 0 a1.toNatClampNeg) - 48) then (-1) else (w.1 2 0 a1.toNatClampNeg) - 48 : Int32) : Int32)] w Q := by
          obtain rfl := Option.some.inj hf
          exact pm_re (r := some (.inl (if ((w.1 2 0 a1.toNatClampNeg) - 48) < 0 then (-1) else (if 9 < ((w.1 2 0 a1.toNatClampNeg) - 48) then (-1) else (w.1 2 0 a1.toNatClampNeg) - 48 : Int32) : Int32))) (w2 := w) 1 (fun F h => h) hq
        clear hf
        refine pm_if (P := ((w.1 2 0 a1.toNatClampNeg) - 48) < 0) (i2 := 25) (i3 := 20) (ls2 := [some (.inr (.inr (1, 0))), some (.inl a1), some (.inl ((w.1 2 0 a1.toNatClampNeg) - 48))]) (st2 := []) (w2 := w) 1 (fun F h => h) (fun hc5 => ?_) (fun hc5 => ?_)
        · try simp only [if_pos hc5] at key
          refine pm_go (i2 := 26) (ls2 := [some (.inr (.inr (1, 0))), some (.inl a1), some (.inl ((w.1 2 0 a1.toNatClampNeg) - 48))]) (st2 := [.inl (-1)]) (w2 := w) 1 (fun F h => h) ?_
          exact key
        · try simp only [if_neg hc5] at key
          refine pm_go (i2 := 22) (ls2 := [some (.inr (.inr (1, 0))), some (.inl a1), some (.inl ((w.1 2 0 a1.toNatClampNeg) - 48))]) (st2 := [.inl 9, .inl ((w.1 2 0 a1.toNatClampNeg) - 48)]) (w2 := w) 2 (fun F h => h) ?_
          refine pm_if (P := 9 < ((w.1 2 0 a1.toNatClampNeg) - 48)) (i2 := 25) (i3 := 23) (ls2 := [some (.inr (.inr (1, 0))), some (.inl a1), some (.inl ((w.1 2 0 a1.toNatClampNeg) - 48))]) (st2 := []) (w2 := w) 1 (fun F h => h) (fun hc6 => ?_) (fun hc6 => ?_)
          · try simp only [if_pos hc6] at key
            refine pm_go (i2 := 26) (ls2 := [some (.inr (.inr (1, 0))), some (.inl a1), some (.inl ((w.1 2 0 a1.toNatClampNeg) - 48))]) (st2 := [.inl (-1)]) (w2 := w) 1 (fun F h => h) ?_
            exact key
          · try simp only [if_neg hc6] at key
            refine pm_go (i2 := 26) (ls2 := [some (.inr (.inr (1, 0))), some (.inl a1), some (.inl ((w.1 2 0 a1.toNatClampNeg) - 48))]) (st2 := [.inl ((w.1 2 0 a1.toNatClampNeg) - 48)]) (w2 := w) 2 (fun F h => h) ?_
            exact key
      · rw [if_neg hc3] at hf
        refine pm_go (i2 := 10) (ls2 := [some (.inr (.inr (1, 0))), some (.inl a1), none]) (st2 := [.inl (-1)]) (w2 := w) 1 (fun F h => h) ?_
        obtain rfl := Option.some.inj hf
        exact pm_re (r := some (.inl (-1))) (w2 := w) 1 (fun F h => h) hq
set_option maxRecDepth 20000 in
set_option maxHeartbeats 4000000 in
theorem a_X6_figureTold (F : Nat) (w : pm_W) (a1 : Int32) (x : Int32) (d : Nat) (hd : 1 ≤ d) (hf : f_X6_figureTold F w a1 = some x) : RT d 50 [.inr (.inr (1, 0)), .inl a1] w (some (.inl x)) w := by
  obtain ⟨d, rfl, hd2⟩ := pm_dep hd
  exact pm_start (co := co_X6_figureTold) (nL := 3) (by decide) rfl rfl (Nat.le_of_ble_eq_true rfl) (b_X6_figureTold F d hd2 _ w a1 x hf ⟨rfl, rfl⟩)
def f_X6_lengthTold (F : Nat) (w : pm_W) : Option (Int32) := ((f_X6_figureTold F w 1).bind fun r1 => ((f_X6_figureTold F w 2).bind fun r3 => some ((10 * r1) + r3)))
set_option maxRecDepth 20000 in
set_option maxHeartbeats 4000000 in
theorem b_X6_lengthTold (F : Nat) (d : Nat) (hd : 1 ≤ d) (Q : pm_Q) (w : pm_W) (x : Int32) (hf : f_X6_lengthTold F w = some x) (hq : Q (some (.inl x)) w) : pm_Gx (RT d) co_X6_lengthTold 0 [some (.inr (.inr (1, 0)))] [] w Q := by
  unfold f_X6_lengthTold at hf
  refine pm_go (i2 := 3) (ls2 := [some (.inr (.inr (1, 0)))]) (st2 := [.inl 1, .inr (.inr (1, 0)), .inl 10]) (w2 := w) 3 (fun F h => h) ?_
  obtain ⟨r1, hr2, hf⟩ := Option.bind_eq_some_iff.mp hf
  refine pm_ca (y := 50) (as := [.inr (.inr (1, 0)), .inl 1]) (r := some (.inl r1)) (w2 := w) (w1 := w) (t := [.inl 10]) (i2 := 4) (ls2 := [some (.inr (.inr (1, 0)))]) 1 (a_X6_figureTold F w 1 r1 d (by omega) hr2) (fun F h => h) ?_
  show pm_Gx (RT d) co_X6_lengthTold 4 [some (.inr (.inr (1, 0)))] [.inl r1, .inl 10] w Q
  refine pm_go (i2 := 7) (ls2 := [some (.inr (.inr (1, 0)))]) (st2 := [.inl 2, .inr (.inr (1, 0)), .inl (10 * r1)]) (w2 := w) 3 (fun F h => h) ?_
  obtain ⟨r3, hr4, hf⟩ := Option.bind_eq_some_iff.mp hf
  refine pm_ca (y := 50) (as := [.inr (.inr (1, 0)), .inl 2]) (r := some (.inl r3)) (w2 := w) (w1 := w) (t := [.inl (10 * r1)]) (i2 := 8) (ls2 := [some (.inr (.inr (1, 0)))]) 1 (a_X6_figureTold F w 2 r3 d (by omega) hr4) (fun F h => h) ?_
  show pm_Gx (RT d) co_X6_lengthTold 8 [some (.inr (.inr (1, 0)))] [.inl r3, .inl (10 * r1)] w Q
  refine pm_go (i2 := 9) (ls2 := [some (.inr (.inr (1, 0)))]) (st2 := [.inl ((10 * r1) + r3)]) (w2 := w) 1 (fun F h => h) ?_
  obtain rfl := Option.some.inj hf
  exact pm_re (r := some (.inl ((10 * r1) + r3))) (w2 := w) 1 (fun F h => h) hq
set_option maxRecDepth 20000 in
set_option maxHeartbeats 4000000 in
theorem a_X6_lengthTold (F : Nat) (w : pm_W) (x : Int32) (d : Nat) (hd : 2 ≤ d) (hf : f_X6_lengthTold F w = some x) : RT d 47 [.inr (.inr (1, 0))] w (some (.inl x)) w := by
  obtain ⟨d, rfl, hd2⟩ := pm_dep hd
  exact pm_start (co := co_X6_lengthTold) (nL := 1) (by decide) rfl rfl (Nat.le_of_ble_eq_true rfl) (b_X6_lengthTold F d hd2 _ w x hf ⟨rfl, rfl⟩)
def f_X6_leafTold (F : Nat) (w : pm_W) (a1 : Int32) : Option (Int32) := ((f_X6_figureTold F w ((5 + (6 * a1)) + 1)).bind fun r1 => ((f_X6_figureTold F w (((5 + (6 * a1)) + 1) + 1)).bind fun r3 => some ((10 * r1) + r3)))
set_option maxRecDepth 20000 in
set_option maxHeartbeats 4000000 in
theorem b_X6_leafTold (F : Nat) (d : Nat) (hd : 1 ≤ d) (Q : pm_Q) (w : pm_W) (a1 : Int32) (x : Int32) (hf : f_X6_leafTold F w a1 = some x) (hq : Q (some (.inl x)) w) : pm_Gx (RT d) co_X6_leafTold 0 [some (.inr (.inr (1, 0))), some (.inl a1), none] [] w Q := by
  unfold f_X6_leafTold at hf
  refine pm_go (i2 := 11) (ls2 := [some (.inr (.inr (1, 0))), some (.inl a1), some (.inl ((5 + (6 * a1)) + 1))]) (st2 := [.inl ((5 + (6 * a1)) + 1), .inr (.inr (1, 0)), .inl 10]) (w2 := w) 11 (fun F h => h) ?_
  obtain ⟨r1, hr2, hf⟩ := Option.bind_eq_some_iff.mp hf
  refine pm_ca (y := 50) (as := [.inr (.inr (1, 0)), .inl ((5 + (6 * a1)) + 1)]) (r := some (.inl r1)) (w2 := w) (w1 := w) (t := [.inl 10]) (i2 := 12) (ls2 := [some (.inr (.inr (1, 0))), some (.inl a1), some (.inl ((5 + (6 * a1)) + 1))]) 1 (a_X6_figureTold F w ((5 + (6 * a1)) + 1) r1 d (by omega) hr2) (fun F h => h) ?_
  show pm_Gx (RT d) co_X6_leafTold 12 [some (.inr (.inr (1, 0))), some (.inl a1), some (.inl ((5 + (6 * a1)) + 1))] [.inl r1, .inl 10] w Q
  refine pm_go (i2 := 17) (ls2 := [some (.inr (.inr (1, 0))), some (.inl a1), some (.inl ((5 + (6 * a1)) + 1))]) (st2 := [.inl (((5 + (6 * a1)) + 1) + 1), .inr (.inr (1, 0)), .inl (10 * r1)]) (w2 := w) 5 (fun F h => h) ?_
  obtain ⟨r3, hr4, hf⟩ := Option.bind_eq_some_iff.mp hf
  refine pm_ca (y := 50) (as := [.inr (.inr (1, 0)), .inl (((5 + (6 * a1)) + 1) + 1)]) (r := some (.inl r3)) (w2 := w) (w1 := w) (t := [.inl (10 * r1)]) (i2 := 18) (ls2 := [some (.inr (.inr (1, 0))), some (.inl a1), some (.inl ((5 + (6 * a1)) + 1))]) 1 (a_X6_figureTold F w (((5 + (6 * a1)) + 1) + 1) r3 d (by omega) hr4) (fun F h => h) ?_
  show pm_Gx (RT d) co_X6_leafTold 18 [some (.inr (.inr (1, 0))), some (.inl a1), some (.inl ((5 + (6 * a1)) + 1))] [.inl r3, .inl (10 * r1)] w Q
  refine pm_go (i2 := 19) (ls2 := [some (.inr (.inr (1, 0))), some (.inl a1), some (.inl ((5 + (6 * a1)) + 1))]) (st2 := [.inl ((10 * r1) + r3)]) (w2 := w) 1 (fun F h => h) ?_
  obtain rfl := Option.some.inj hf
  exact pm_re (r := some (.inl ((10 * r1) + r3))) (w2 := w) 1 (fun F h => h) hq
set_option maxRecDepth 20000 in
set_option maxHeartbeats 4000000 in
theorem a_X6_leafTold (F : Nat) (w : pm_W) (a1 : Int32) (x : Int32) (d : Nat) (hd : 2 ≤ d) (hf : f_X6_leafTold F w a1 = some x) : RT d 48 [.inr (.inr (1, 0)), .inl a1] w (some (.inl x)) w := by
  obtain ⟨d, rfl, hd2⟩ := pm_dep hd
  exact pm_start (co := co_X6_leafTold) (nL := 3) (by decide) rfl rfl (Nat.le_of_ble_eq_true rfl) (b_X6_leafTold F d hd2 _ w a1 x hf ⟨rfl, rfl⟩)
def f_X4_readFrom_L6 (F : Nat) : Nat → pm_W → Nat → Int32 → Option (Int32 × pm_W)
  | 0, _, _, _ => none
  | n + 1, w, v0, v3 => (if 5 ≤ v3 then some (v3, w) else (if (w.1 3 0 3) ≤ v3 then (if pm_inb v3 5 = true then (pm_wlet (pm_setI w 8 v0 v3.toNatClampNeg 0) fun w7 => f_X4_readFrom_L6 F n w7 v0 (v3 + 1)) else none) else ((f_X6_leafTold F w v3).bind fun r8 => (if pm_inb v3 5 = true then (pm_wlet (pm_setI w 8 v0 v3.toNatClampNeg r8) fun w11 => f_X4_readFrom_L6 F n w11 v0 (v3 + 1)) else none))))
def f_X4_readFrom (F : Nat) (w : pm_W) (a0 : Nat) : Option (pm_W) := ((f_X6_lengthTold F w).bind fun r1 => (pm_wlet (pm_setI w 7 a0 1 r1) fun w3 => ((f_X4_readFrom_L6 F F w3 a0 0).bind fun x12 => (pm_wlet (pm_setI x12.2 7 a0 2 0) fun w14 => (pm_wlet (pm_setI w14 7 a0 3 (w14.1 3 0 4)) fun w15 => (pm_wlet (pm_setI w15 7 a0 4 0) fun w16 => some w16))))))
set_option maxRecDepth 20000 in
set_option maxHeartbeats 4000000 in
theorem a_X4_readFrom_L6 (F : Nat) (d : Nat) (hd : 2 ≤ d) (Q : pm_Q) : ∀ (n : Nat) (w : pm_W) (v0 : Nat) (v3 : Int32) (x : Int32 × pm_W), f_X4_readFrom_L6 F n w v0 v3 = some x → pm_Gx (RT d) co_X4_readFrom 24 [some (.inr (.inr (7, v0))), some (.inr (.inr (1, 0))), some (.inr (.inr (3, 0))), some (.inl x.1)] [] x.2 Q → pm_Gx (RT d) co_X4_readFrom 6 [some (.inr (.inr (7, v0))), some (.inr (.inr (1, 0))), some (.inr (.inr (3, 0))), some (.inl v3)] [] w Q := by
  intro n
  induction n with
  | zero =>
    intro w v0 v3 x hf
    cases hf
  | succ n ih =>
    intro w v0 v3 x hf hk
    rw [f_X4_readFrom_L6] at hf
    refine pm_go (i2 := 8) (ls2 := [some (.inr (.inr (7, v0))), some (.inr (.inr (1, 0))), some (.inr (.inr (3, 0))), some (.inl v3)]) (st2 := [.inl 5, .inl v3]) (w2 := w) 2 (fun F h => h) ?_
    refine pm_if (P := 5 ≤ v3) (i2 := 24) (i3 := 9) (ls2 := [some (.inr (.inr (7, v0))), some (.inr (.inr (1, 0))), some (.inr (.inr (3, 0))), some (.inl v3)]) (st2 := []) (w2 := w) 1 (fun F h => h) (fun hc4 => ?_) (fun hc4 => ?_)
    · rw [if_pos hc4] at hf
      obtain rfl := Option.some.inj hf
      exact hk
    · rw [if_neg hc4] at hf
      refine pm_go (i2 := 15) (ls2 := [some (.inr (.inr (7, v0))), some (.inr (.inr (1, 0))), some (.inr (.inr (3, 0))), some (.inl v3)]) (st2 := [.inl (w.1 3 0 3), .inl v3, .inl v3, .inr (.inr (8, v0))]) (w2 := w) 6 (fun F h => h) ?_
      refine pm_if (P := (w.1 3 0 3) ≤ v3) (i2 := 20) (i3 := 16) (ls2 := [some (.inr (.inr (7, v0))), some (.inr (.inr (1, 0))), some (.inr (.inr (3, 0))), some (.inl v3)]) (st2 := [.inl v3, .inr (.inr (8, v0))]) (w2 := w) 1 (fun F h => h) (fun hc5 => ?_) (fun hc5 => ?_)
      · rw [if_pos hc5] at hf
        obtain ⟨hs6, hf⟩ := pm_itn hf
        refine pm_go (i2 := 22) (ls2 := [some (.inr (.inr (7, v0))), some (.inr (.inr (1, 0))), some (.inr (.inr (3, 0))), some (.inl v3)]) (st2 := []) (w2 := (pm_setI w 8 v0 v3.toNatClampNeg 0)) 2 (fun F h => ⟨(pm_inb_in hs6), h⟩) ?_
        generalize (pm_setI w 8 v0 v3.toNatClampNeg 0) = w7 at hf ⊢
        replace hf := pm_wlet_un hf
        refine pm_go (i2 := 6) (ls2 := [some (.inr (.inr (7, v0))), some (.inr (.inr (1, 0))), some (.inr (.inr (3, 0))), some (.inl (v3 + 1))]) (st2 := []) (w2 := w7) 2 (fun F h => h) ?_
        exact ih w7 v0 (v3 + 1) _ hf hk
      · rw [if_neg hc5] at hf
        refine pm_go (i2 := 18) (ls2 := [some (.inr (.inr (7, v0))), some (.inr (.inr (1, 0))), some (.inr (.inr (3, 0))), some (.inl v3)]) (st2 := [.inl v3, .inr (.inr (1, 0)), .inl v3, .inr (.inr (8, v0))]) (w2 := w) 2 (fun F h => h) ?_
        obtain ⟨r8, hr9, hf⟩ := Option.bind_eq_some_iff.mp hf
        refine pm_ca (y := 48) (as := [.inr (.inr (1, 0)), .inl v3]) (r := some (.inl r8)) (w2 := w) (w1 := w) (t := [.inl v3, .inr (.inr (8, v0))]) (i2 := 19) (ls2 := [some (.inr (.inr (7, v0))), some (.inr (.inr (1, 0))), some (.inr (.inr (3, 0))), some (.inl v3)]) 1 (a_X6_leafTold F w v3 r8 d (by omega) hr9) (fun F h => h) ?_
        show pm_Gx (RT d) co_X4_readFrom 19 [some (.inr (.inr (7, v0))), some (.inr (.inr (1, 0))), some (.inr (.inr (3, 0))), some (.inl v3)] [.inl r8, .inl v3, .inr (.inr (8, v0))] w Q
        obtain ⟨hs10, hf⟩ := pm_itn hf
        refine pm_go (i2 := 22) (ls2 := [some (.inr (.inr (7, v0))), some (.inr (.inr (1, 0))), some (.inr (.inr (3, 0))), some (.inl v3)]) (st2 := []) (w2 := (pm_setI w 8 v0 v3.toNatClampNeg r8)) 2 (fun F h => ⟨(pm_inb_in hs10), h⟩) ?_
        generalize (pm_setI w 8 v0 v3.toNatClampNeg r8) = w11 at hf ⊢
        replace hf := pm_wlet_un hf
        refine pm_go (i2 := 6) (ls2 := [some (.inr (.inr (7, v0))), some (.inr (.inr (1, 0))), some (.inr (.inr (3, 0))), some (.inl (v3 + 1))]) (st2 := []) (w2 := w11) 2 (fun F h => h) ?_
        exact ih w11 v0 (v3 + 1) _ hf hk
set_option maxRecDepth 20000 in
set_option maxHeartbeats 4000000 in
theorem b_X4_readFrom (F : Nat) (d : Nat) (hd : 2 ≤ d) (Q : pm_Q) (w : pm_W) (a0 : Nat) (x : pm_W) (hf : f_X4_readFrom F w a0 = some x) (hq : Q (none) x) : pm_Gx (RT d) co_X4_readFrom 0 [some (.inr (.inr (7, a0))), some (.inr (.inr (1, 0))), some (.inr (.inr (3, 0))), none] [] w Q := by
  unfold f_X4_readFrom at hf
  refine pm_go (i2 := 2) (ls2 := [some (.inr (.inr (7, a0))), some (.inr (.inr (1, 0))), some (.inr (.inr (3, 0))), none]) (st2 := [.inr (.inr (1, 0)), .inr (.inr (7, a0))]) (w2 := w) 2 (fun F h => h) ?_
  obtain ⟨r1, hr2, hf⟩ := Option.bind_eq_some_iff.mp hf
  refine pm_ca (y := 47) (as := [.inr (.inr (1, 0))]) (r := some (.inl r1)) (w2 := w) (w1 := w) (t := [.inr (.inr (7, a0))]) (i2 := 3) (ls2 := [some (.inr (.inr (7, a0))), some (.inr (.inr (1, 0))), some (.inr (.inr (3, 0))), none]) 1 (a_X6_lengthTold F w r1 d (by omega) hr2) (fun F h => h) ?_
  show pm_Gx (RT d) co_X4_readFrom 3 [some (.inr (.inr (7, a0))), some (.inr (.inr (1, 0))), some (.inr (.inr (3, 0))), none] [.inl r1, .inr (.inr (7, a0))] w Q
  refine pm_go (i2 := 4) (ls2 := [some (.inr (.inr (7, a0))), some (.inr (.inr (1, 0))), some (.inr (.inr (3, 0))), none]) (st2 := []) (w2 := (pm_setI w 7 a0 1 r1)) 1 (fun F h => h) ?_
  generalize (pm_setI w 7 a0 1 r1) = w3 at hf ⊢
  replace hf := pm_wlet_un hf
  refine pm_go (i2 := 6) (ls2 := [some (.inr (.inr (7, a0))), some (.inr (.inr (1, 0))), some (.inr (.inr (3, 0))), some (.inl 0)]) (st2 := []) (w2 := w3) 2 (fun F h => h) ?_
  obtain ⟨x12, hx13, hf⟩ := Option.bind_eq_some_iff.mp hf
  refine a_X4_readFrom_L6 F d hd Q F w3 a0 0 x12 hx13 ?_
  refine pm_go (i2 := 27) (ls2 := [some (.inr (.inr (7, a0))), some (.inr (.inr (1, 0))), some (.inr (.inr (3, 0))), some (.inl x12.1)]) (st2 := []) (w2 := (pm_setI x12.2 7 a0 2 0)) 3 (fun F h => h) ?_
  generalize (pm_setI x12.2 7 a0 2 0) = w14 at hf ⊢
  replace hf := pm_wlet_un hf
  refine pm_go (i2 := 31) (ls2 := [some (.inr (.inr (7, a0))), some (.inr (.inr (1, 0))), some (.inr (.inr (3, 0))), some (.inl x12.1)]) (st2 := []) (w2 := (pm_setI w14 7 a0 3 (w14.1 3 0 4))) 4 (fun F h => h) ?_
  generalize (pm_setI w14 7 a0 3 (w14.1 3 0 4)) = w15 at hf ⊢
  replace hf := pm_wlet_un hf
  refine pm_go (i2 := 34) (ls2 := [some (.inr (.inr (7, a0))), some (.inr (.inr (1, 0))), some (.inr (.inr (3, 0))), some (.inl x12.1)]) (st2 := []) (w2 := (pm_setI w15 7 a0 4 0)) 3 (fun F h => h) ?_
  generalize (pm_setI w15 7 a0 4 0) = w16 at hf ⊢
  replace hf := pm_wlet_un hf
  obtain rfl := Option.some.inj hf
  exact pm_re (r := none) (w2 := w16) 1 (fun F h => h) hq
set_option maxRecDepth 20000 in
set_option maxHeartbeats 4000000 in
theorem a_X4_readFrom (F : Nat) (w : pm_W) (a0 : Nat) (x : pm_W) (d : Nat) (hd : 3 ≤ d) (hf : f_X4_readFrom F w a0 = some x) : RT d 28 [.inr (.inr (7, a0)), .inr (.inr (1, 0)), .inr (.inr (3, 0))] w (none) x := by
  obtain ⟨d, rfl, hd2⟩ := pm_dep hd
  exact pm_start (co := co_X4_readFrom) (nL := 4) (by decide) rfl rfl (Nat.le_of_ble_eq_true rfl) (b_X4_readFrom F d hd2 _ w a0 x hf ⟨rfl, rfl⟩)
def f_X6_guestsTold (F : Nat) (w : pm_W) : Option (Int32) := (if 5 ≤ (w.1 1 0 1) then ((f_J9_min F w (((w.1 1 0 1) - 5) / 6) 5).bind fun r2 => some r2) else some 0)
set_option maxRecDepth 20000 in
set_option maxHeartbeats 4000000 in
theorem b_X6_guestsTold (F : Nat) (d : Nat) (hd : 1 ≤ d) (Q : pm_Q) (w : pm_W) (x : Int32) (hf : f_X6_guestsTold F w = some x) (hq : Q (some (.inl x)) w) : pm_Gx (RT d) co_X6_guestsTold 0 [some (.inr (.inr (1, 0)))] [] w Q := by
  unfold f_X6_guestsTold at hf
  refine pm_go (i2 := 3) (ls2 := [some (.inr (.inr (1, 0)))]) (st2 := [.inl 5, .inl (w.1 1 0 1)]) (w2 := w) 3 (fun F h => h) ?_
  refine pm_if (P := 5 ≤ (w.1 1 0 1)) (i2 := 6) (i3 := 4) (ls2 := [some (.inr (.inr (1, 0)))]) (st2 := []) (w2 := w) 1 (fun F h => h) (fun hc1 => ?_) (fun hc1 => ?_)
  · rw [if_pos hc1] at hf
    refine pm_go (i2 := 13) (ls2 := [some (.inr (.inr (1, 0)))]) (st2 := [.inl 5, .inl (((w.1 1 0 1) - 5) / 6)]) (w2 := w) 7 (fun F h => ⟨(by decide), h⟩) ?_
    obtain ⟨r2, hr3, hf⟩ := Option.bind_eq_some_iff.mp hf
    refine pm_ca (y := 155) (as := [.inl (((w.1 1 0 1) - 5) / 6), .inl 5]) (r := some (.inl r2)) (w2 := w) (w1 := w) (t := []) (i2 := 14) (ls2 := [some (.inr (.inr (1, 0)))]) 1 (a_J9_min F w (((w.1 1 0 1) - 5) / 6) 5 r2 d (by omega) hr3) (fun F h => h) ?_
    show pm_Gx (RT d) co_X6_guestsTold 14 [some (.inr (.inr (1, 0)))] [.inl r2] w Q
    obtain rfl := Option.some.inj hf
    exact pm_re (r := some (.inl r2)) (w2 := w) 1 (fun F h => h) hq
  · rw [if_neg hc1] at hf
    refine pm_go (i2 := 14) (ls2 := [some (.inr (.inr (1, 0)))]) (st2 := [.inl 0]) (w2 := w) 2 (fun F h => h) ?_
    obtain rfl := Option.some.inj hf
    exact pm_re (r := some (.inl 0)) (w2 := w) 1 (fun F h => h) hq
set_option maxRecDepth 20000 in
set_option maxHeartbeats 4000000 in
theorem a_X6_guestsTold (F : Nat) (w : pm_W) (x : Int32) (d : Nat) (hd : 2 ≤ d) (hf : f_X6_guestsTold F w = some x) : RT d 46 [.inr (.inr (1, 0))] w (some (.inl x)) w := by
  obtain ⟨d, rfl, hd2⟩ := pm_dep hd
  exact pm_start (co := co_X6_guestsTold) (nL := 1) (by decide) rfl rfl (Nat.le_of_ble_eq_true rfl) (b_X6_guestsTold F d hd2 _ w x hf ⟨rfl, rfl⟩)
def f_X6_partTold (F : Nat) (w : pm_W) (a1 : Int32) (a2 : Int32) : Option (Int32) := ((f_X6_figureTold F w ((5 + (6 * a1)) + a2)).bind fun r1 => some r1)
set_option maxRecDepth 20000 in
set_option maxHeartbeats 4000000 in
theorem b_X6_partTold (F : Nat) (d : Nat) (hd : 1 ≤ d) (Q : pm_Q) (w : pm_W) (a1 : Int32) (a2 : Int32) (x : Int32) (hf : f_X6_partTold F w a1 a2 = some x) (hq : Q (some (.inl x)) w) : pm_Gx (RT d) co_X6_partTold 0 [some (.inr (.inr (1, 0))), some (.inl a1), some (.inl a2)] [] w Q := by
  unfold f_X6_partTold at hf
  refine pm_go (i2 := 8) (ls2 := [some (.inr (.inr (1, 0))), some (.inl a1), some (.inl a2)]) (st2 := [.inl ((5 + (6 * a1)) + a2), .inr (.inr (1, 0))]) (w2 := w) 8 (fun F h => h) ?_
  obtain ⟨r1, hr2, hf⟩ := Option.bind_eq_some_iff.mp hf
  refine pm_ca (y := 50) (as := [.inr (.inr (1, 0)), .inl ((5 + (6 * a1)) + a2)]) (r := some (.inl r1)) (w2 := w) (w1 := w) (t := []) (i2 := 9) (ls2 := [some (.inr (.inr (1, 0))), some (.inl a1), some (.inl a2)]) 1 (a_X6_figureTold F w ((5 + (6 * a1)) + a2) r1 d (by omega) hr2) (fun F h => h) ?_
  show pm_Gx (RT d) co_X6_partTold 9 [some (.inr (.inr (1, 0))), some (.inl a1), some (.inl a2)] [.inl r1] w Q
  obtain rfl := Option.some.inj hf
  exact pm_re (r := some (.inl r1)) (w2 := w) 1 (fun F h => h) hq
set_option maxRecDepth 20000 in
set_option maxHeartbeats 4000000 in
theorem a_X6_partTold (F : Nat) (w : pm_W) (a1 : Int32) (a2 : Int32) (x : Int32) (d : Nat) (hd : 2 ≤ d) (hf : f_X6_partTold F w a1 a2 = some x) : RT d 49 [.inr (.inr (1, 0)), .inl a1, .inl a2] w (some (.inl x)) w := by
  obtain ⟨d, rfl, hd2⟩ := pm_dep hd
  exact pm_start (co := co_X6_partTold) (nL := 3) (by decide) rfl rfl (Nat.le_of_ble_eq_true rfl) (b_X6_partTold F d hd2 _ w a1 a2 x hf ⟨rfl, rfl⟩)
def f_X5_readFrom_L16 (F : Nat) : Nat → pm_W → Int32 → Option (Int32 × pm_W)
  | 0, _, _ => none
  | n + 1, w, v2 => (if (w.1 3 0 3) ≤ v2 then some (v2, w) else ((f_X6_partTold F w v2 3).bind fun r11 => (if pm_inb v2 5 = true then (pm_wlet (pm_setI w 4 0 v2.toNatClampNeg r11) fun w14 => ((f_X6_partTold F w14 v2 4).bind fun r15 => (if pm_inb v2 5 = true then (pm_wlet (pm_setI w14 5 0 v2.toNatClampNeg r15) fun w18 => ((f_X6_partTold F w18 v2 5).bind fun r19 => (if pm_inb v2 5 = true then (pm_wlet (pm_setI w18 6 0 v2.toNatClampNeg r19) fun w22 => f_X5_readFrom_L16 F n w22 (v2 + 1)) else none))) else none))) else none)))
def f_X5_readFrom (F : Nat) (w : pm_W) : Option (pm_W) := ((f_X6_figureTold F w 3).bind fun r1 => (pm_wlet (pm_setI w 3 0 4 r1) fun w3 => ((f_X6_figureTold F w3 4).bind fun r4 => (pm_wlet (pm_setI w3 3 0 5 r4) fun w6 => ((f_X6_guestsTold F w6).bind fun r7 => (pm_wlet (pm_setI w6 3 0 3 r7) fun w9 => ((f_X5_readFrom_L16 F F w9 0).bind fun x23 => some x23.2)))))))
set_option maxRecDepth 20000 in
set_option maxHeartbeats 4000000 in
theorem a_X5_readFrom_L16 (F : Nat) (d : Nat) (hd : 2 ≤ d) (Q : pm_Q) : ∀ (n : Nat) (w : pm_W) (v2 : Int32) (x : Int32 × pm_W), f_X5_readFrom_L16 F n w v2 = some x → pm_Gx (RT d) co_X5_readFrom 46 [some (.inr (.inr (3, 0))), some (.inr (.inr (1, 0))), some (.inl x.1)] [] x.2 Q → pm_Gx (RT d) co_X5_readFrom 16 [some (.inr (.inr (3, 0))), some (.inr (.inr (1, 0))), some (.inl v2)] [] w Q := by
  intro n
  induction n with
  | zero =>
    intro w v2 x hf
    cases hf
  | succ n ih =>
    intro w v2 x hf hk
    rw [f_X5_readFrom_L16] at hf
    refine pm_go (i2 := 19) (ls2 := [some (.inr (.inr (3, 0))), some (.inr (.inr (1, 0))), some (.inl v2)]) (st2 := [.inl (w.1 3 0 3), .inl v2]) (w2 := w) 3 (fun F h => h) ?_
    refine pm_if (P := (w.1 3 0 3) ≤ v2) (i2 := 46) (i3 := 20) (ls2 := [some (.inr (.inr (3, 0))), some (.inr (.inr (1, 0))), some (.inl v2)]) (st2 := []) (w2 := w) 1 (fun F h => h) (fun hc10 => ?_) (fun hc10 => ?_)
    · rw [if_pos hc10] at hf
      obtain rfl := Option.some.inj hf
      exact hk
    · rw [if_neg hc10] at hf
      refine pm_go (i2 := 26) (ls2 := [some (.inr (.inr (3, 0))), some (.inr (.inr (1, 0))), some (.inl v2)]) (st2 := [.inl 3, .inl v2, .inr (.inr (1, 0)), .inl v2, .inr (.inr (4, 0))]) (w2 := w) 6 (fun F h => h) ?_
      obtain ⟨r11, hr12, hf⟩ := Option.bind_eq_some_iff.mp hf
      refine pm_ca (y := 49) (as := [.inr (.inr (1, 0)), .inl v2, .inl 3]) (r := some (.inl r11)) (w2 := w) (w1 := w) (t := [.inl v2, .inr (.inr (4, 0))]) (i2 := 27) (ls2 := [some (.inr (.inr (3, 0))), some (.inr (.inr (1, 0))), some (.inl v2)]) 1 (a_X6_partTold F w v2 3 r11 d (by omega) hr12) (fun F h => h) ?_
      show pm_Gx (RT d) co_X5_readFrom 27 [some (.inr (.inr (3, 0))), some (.inr (.inr (1, 0))), some (.inl v2)] [.inl r11, .inl v2, .inr (.inr (4, 0))] w Q
      obtain ⟨hs13, hf⟩ := pm_itn hf
      refine pm_go (i2 := 28) (ls2 := [some (.inr (.inr (3, 0))), some (.inr (.inr (1, 0))), some (.inl v2)]) (st2 := []) (w2 := (pm_setI w 4 0 v2.toNatClampNeg r11)) 1 (fun F h => ⟨(pm_inb_in hs13), h⟩) ?_
      generalize (pm_setI w 4 0 v2.toNatClampNeg r11) = w14 at hf ⊢
      replace hf := pm_wlet_un hf
      refine pm_go (i2 := 34) (ls2 := [some (.inr (.inr (3, 0))), some (.inr (.inr (1, 0))), some (.inl v2)]) (st2 := [.inl 4, .inl v2, .inr (.inr (1, 0)), .inl v2, .inr (.inr (5, 0))]) (w2 := w14) 6 (fun F h => h) ?_
      obtain ⟨r15, hr16, hf⟩ := Option.bind_eq_some_iff.mp hf
      refine pm_ca (y := 49) (as := [.inr (.inr (1, 0)), .inl v2, .inl 4]) (r := some (.inl r15)) (w2 := w14) (w1 := w14) (t := [.inl v2, .inr (.inr (5, 0))]) (i2 := 35) (ls2 := [some (.inr (.inr (3, 0))), some (.inr (.inr (1, 0))), some (.inl v2)]) 1 (a_X6_partTold F w14 v2 4 r15 d (by omega) hr16) (fun F h => h) ?_
      show pm_Gx (RT d) co_X5_readFrom 35 [some (.inr (.inr (3, 0))), some (.inr (.inr (1, 0))), some (.inl v2)] [.inl r15, .inl v2, .inr (.inr (5, 0))] w14 Q
      obtain ⟨hs17, hf⟩ := pm_itn hf
      refine pm_go (i2 := 36) (ls2 := [some (.inr (.inr (3, 0))), some (.inr (.inr (1, 0))), some (.inl v2)]) (st2 := []) (w2 := (pm_setI w14 5 0 v2.toNatClampNeg r15)) 1 (fun F h => ⟨(pm_inb_in hs17), h⟩) ?_
      generalize (pm_setI w14 5 0 v2.toNatClampNeg r15) = w18 at hf ⊢
      replace hf := pm_wlet_un hf
      refine pm_go (i2 := 42) (ls2 := [some (.inr (.inr (3, 0))), some (.inr (.inr (1, 0))), some (.inl v2)]) (st2 := [.inl 5, .inl v2, .inr (.inr (1, 0)), .inl v2, .inr (.inr (6, 0))]) (w2 := w18) 6 (fun F h => h) ?_
      obtain ⟨r19, hr20, hf⟩ := Option.bind_eq_some_iff.mp hf
      refine pm_ca (y := 49) (as := [.inr (.inr (1, 0)), .inl v2, .inl 5]) (r := some (.inl r19)) (w2 := w18) (w1 := w18) (t := [.inl v2, .inr (.inr (6, 0))]) (i2 := 43) (ls2 := [some (.inr (.inr (3, 0))), some (.inr (.inr (1, 0))), some (.inl v2)]) 1 (a_X6_partTold F w18 v2 5 r19 d (by omega) hr20) (fun F h => h) ?_
      show pm_Gx (RT d) co_X5_readFrom 43 [some (.inr (.inr (3, 0))), some (.inr (.inr (1, 0))), some (.inl v2)] [.inl r19, .inl v2, .inr (.inr (6, 0))] w18 Q
      obtain ⟨hs21, hf⟩ := pm_itn hf
      refine pm_go (i2 := 44) (ls2 := [some (.inr (.inr (3, 0))), some (.inr (.inr (1, 0))), some (.inl v2)]) (st2 := []) (w2 := (pm_setI w18 6 0 v2.toNatClampNeg r19)) 1 (fun F h => ⟨(pm_inb_in hs21), h⟩) ?_
      generalize (pm_setI w18 6 0 v2.toNatClampNeg r19) = w22 at hf ⊢
      replace hf := pm_wlet_un hf
      refine pm_go (i2 := 16) (ls2 := [some (.inr (.inr (3, 0))), some (.inr (.inr (1, 0))), some (.inl (v2 + 1))]) (st2 := []) (w2 := w22) 2 (fun F h => h) ?_
      exact ih w22 (v2 + 1) _ hf hk
set_option maxRecDepth 20000 in
set_option maxHeartbeats 4000000 in
theorem b_X5_readFrom (F : Nat) (d : Nat) (hd : 2 ≤ d) (Q : pm_Q) (w : pm_W) (x : pm_W) (hf : f_X5_readFrom F w = some x) (hq : Q (none) x) : pm_Gx (RT d) co_X5_readFrom 0 [some (.inr (.inr (3, 0))), some (.inr (.inr (1, 0))), none] [] w Q := by
  unfold f_X5_readFrom at hf
  refine pm_go (i2 := 3) (ls2 := [some (.inr (.inr (3, 0))), some (.inr (.inr (1, 0))), none]) (st2 := [.inl 3, .inr (.inr (1, 0)), .inr (.inr (3, 0))]) (w2 := w) 3 (fun F h => h) ?_
  obtain ⟨r1, hr2, hf⟩ := Option.bind_eq_some_iff.mp hf
  refine pm_ca (y := 50) (as := [.inr (.inr (1, 0)), .inl 3]) (r := some (.inl r1)) (w2 := w) (w1 := w) (t := [.inr (.inr (3, 0))]) (i2 := 4) (ls2 := [some (.inr (.inr (3, 0))), some (.inr (.inr (1, 0))), none]) 1 (a_X6_figureTold F w 3 r1 d (by omega) hr2) (fun F h => h) ?_
  show pm_Gx (RT d) co_X5_readFrom 4 [some (.inr (.inr (3, 0))), some (.inr (.inr (1, 0))), none] [.inl r1, .inr (.inr (3, 0))] w Q
  refine pm_go (i2 := 5) (ls2 := [some (.inr (.inr (3, 0))), some (.inr (.inr (1, 0))), none]) (st2 := []) (w2 := (pm_setI w 3 0 4 r1)) 1 (fun F h => h) ?_
  generalize (pm_setI w 3 0 4 r1) = w3 at hf ⊢
  replace hf := pm_wlet_un hf
  refine pm_go (i2 := 8) (ls2 := [some (.inr (.inr (3, 0))), some (.inr (.inr (1, 0))), none]) (st2 := [.inl 4, .inr (.inr (1, 0)), .inr (.inr (3, 0))]) (w2 := w3) 3 (fun F h => h) ?_
  obtain ⟨r4, hr5, hf⟩ := Option.bind_eq_some_iff.mp hf
  refine pm_ca (y := 50) (as := [.inr (.inr (1, 0)), .inl 4]) (r := some (.inl r4)) (w2 := w3) (w1 := w3) (t := [.inr (.inr (3, 0))]) (i2 := 9) (ls2 := [some (.inr (.inr (3, 0))), some (.inr (.inr (1, 0))), none]) 1 (a_X6_figureTold F w3 4 r4 d (by omega) hr5) (fun F h => h) ?_
  show pm_Gx (RT d) co_X5_readFrom 9 [some (.inr (.inr (3, 0))), some (.inr (.inr (1, 0))), none] [.inl r4, .inr (.inr (3, 0))] w3 Q
  refine pm_go (i2 := 10) (ls2 := [some (.inr (.inr (3, 0))), some (.inr (.inr (1, 0))), none]) (st2 := []) (w2 := (pm_setI w3 3 0 5 r4)) 1 (fun F h => h) ?_
  generalize (pm_setI w3 3 0 5 r4) = w6 at hf ⊢
  replace hf := pm_wlet_un hf
  refine pm_go (i2 := 12) (ls2 := [some (.inr (.inr (3, 0))), some (.inr (.inr (1, 0))), none]) (st2 := [.inr (.inr (1, 0)), .inr (.inr (3, 0))]) (w2 := w6) 2 (fun F h => h) ?_
  obtain ⟨r7, hr8, hf⟩ := Option.bind_eq_some_iff.mp hf
  refine pm_ca (y := 46) (as := [.inr (.inr (1, 0))]) (r := some (.inl r7)) (w2 := w6) (w1 := w6) (t := [.inr (.inr (3, 0))]) (i2 := 13) (ls2 := [some (.inr (.inr (3, 0))), some (.inr (.inr (1, 0))), none]) 1 (a_X6_guestsTold F w6 r7 d (by omega) hr8) (fun F h => h) ?_
  show pm_Gx (RT d) co_X5_readFrom 13 [some (.inr (.inr (3, 0))), some (.inr (.inr (1, 0))), none] [.inl r7, .inr (.inr (3, 0))] w6 Q
  refine pm_go (i2 := 14) (ls2 := [some (.inr (.inr (3, 0))), some (.inr (.inr (1, 0))), none]) (st2 := []) (w2 := (pm_setI w6 3 0 3 r7)) 1 (fun F h => h) ?_
  generalize (pm_setI w6 3 0 3 r7) = w9 at hf ⊢
  replace hf := pm_wlet_un hf
  refine pm_go (i2 := 16) (ls2 := [some (.inr (.inr (3, 0))), some (.inr (.inr (1, 0))), some (.inl 0)]) (st2 := []) (w2 := w9) 2 (fun F h => h) ?_
  obtain ⟨x23, hx24, hf⟩ := Option.bind_eq_some_iff.mp hf
  refine a_X5_readFrom_L16 F d hd Q F w9 0 x23 hx24 ?_
  obtain rfl := Option.some.inj hf
  exact pm_re (r := none) (w2 := x23.2) 1 (fun F h => h) hq
set_option maxRecDepth 20000 in
set_option maxHeartbeats 4000000 in
theorem a_X5_readFrom (F : Nat) (w : pm_W) (x : pm_W) (d : Nat) (hd : 3 ≤ d) (hf : f_X5_readFrom F w = some x) : RT d 29 [.inr (.inr (3, 0)), .inr (.inr (1, 0))] w (none) x := by
  obtain ⟨d, rfl, hd2⟩ := pm_dep hd
  exact pm_start (co := co_X5_readFrom) (nL := 3) (by decide) rfl rfl (Nat.le_of_ble_eq_true rfl) (b_X5_readFrom F d hd2 _ w x hf ⟨rfl, rfl⟩)
def f_X5_turnOfEars_L8 (F : Nat) (w : pm_W) : Nat → Nat → Int32 → Int32 → Int32 → Option (Int32 × Int32)
  | 0, _, _, _, _ => none
  | n + 1, v1, v2, v3, v4 => (if (w.1 3 0 3) ≤ v4 then some (v3, v4) else (if pm_inb v4 5 = true then f_X5_turnOfEars_L8 F w n v1 v2 (v3 + (((v2 >>> (v4 &&& 31)) &&& 1) * (w.1 6 0 v4.toNatClampNeg))) (v4 + 1) else none))
def f_X5_turnOfEars (F : Nat) (w : pm_W) (a1 : Nat) : Option (Int32) := ((f_X5_hearers F w a1).bind fun r1 => ((f_X5_turnOfEars_L8 F w F a1 r1 0 0).bind fun x5 => some x5.1))
set_option maxRecDepth 20000 in
set_option maxHeartbeats 4000000 in
theorem a_X5_turnOfEars_L8 (F : Nat) (d : Nat) (hd : 2 ≤ d) (Q : pm_Q) (w : pm_W) : ∀ (n : Nat) (v1 : Nat) (v2 : Int32) (v3 : Int32) (v4 : Int32) (x : Int32 × Int32), f_X5_turnOfEars_L8 F w n v1 v2 v3 v4 = some x → pm_Gx (RT d) co_X5_turnOfEars 27 [some (.inr (.inr (3, 0))), some (.inr (.inr (7, v1))), some (.inl v2), some (.inl x.1), some (.inl x.2)] [] w Q → pm_Gx (RT d) co_X5_turnOfEars 8 [some (.inr (.inr (3, 0))), some (.inr (.inr (7, v1))), some (.inl v2), some (.inl v3), some (.inl v4)] [] w Q := by
  intro n
  induction n with
  | zero =>
    intro v1 v2 v3 v4 x hf
    cases hf
  | succ n ih =>
    intro v1 v2 v3 v4 x hf hk
    rw [f_X5_turnOfEars_L8] at hf
    refine pm_go (i2 := 11) (ls2 := [some (.inr (.inr (3, 0))), some (.inr (.inr (7, v1))), some (.inl v2), some (.inl v3), some (.inl v4)]) (st2 := [.inl (w.1 3 0 3), .inl v4]) (w2 := w) 3 (fun F h => h) ?_
    refine pm_if (P := (w.1 3 0 3) ≤ v4) (i2 := 27) (i3 := 12) (ls2 := [some (.inr (.inr (3, 0))), some (.inr (.inr (7, v1))), some (.inl v2), some (.inl v3), some (.inl v4)]) (st2 := []) (w2 := w) 1 (fun F h => h) (fun hc3 => ?_) (fun hc3 => ?_)
    · rw [if_pos hc3] at hf
      obtain rfl := Option.some.inj hf
      exact hk
    · rw [if_neg hc3] at hf
      obtain ⟨hs4, hf⟩ := pm_itn hf
      refine pm_go (i2 := 8) (ls2 := [some (.inr (.inr (3, 0))), some (.inr (.inr (7, v1))), some (.inl v2), some (.inl (v3 + (((v2 >>> (v4 &&& 31)) &&& 1) * (w.1 6 0 v4.toNatClampNeg)))), some (.inl (v4 + 1))]) (st2 := []) (w2 := w) 15 (fun F h => ⟨(pm_inb_in hs4), h⟩) ?_
      exact ih v1 v2 (v3 + (((v2 >>> (v4 &&& 31)) &&& 1) * (w.1 6 0 v4.toNatClampNeg))) (v4 + 1) _ hf hk
set_option maxRecDepth 20000 in
set_option maxHeartbeats 4000000 in
theorem b_X5_turnOfEars (F : Nat) (d : Nat) (hd : 2 ≤ d) (Q : pm_Q) (w : pm_W) (a1 : Nat) (x : Int32) (hf : f_X5_turnOfEars F w a1 = some x) (hq : Q (some (.inl x)) w) : pm_Gx (RT d) co_X5_turnOfEars 0 [some (.inr (.inr (3, 0))), some (.inr (.inr (7, a1))), none, none, none] [] w Q := by
  unfold f_X5_turnOfEars at hf
  refine pm_go (i2 := 2) (ls2 := [some (.inr (.inr (3, 0))), some (.inr (.inr (7, a1))), none, none, none]) (st2 := [.inr (.inr (7, a1)), .inr (.inr (3, 0))]) (w2 := w) 2 (fun F h => h) ?_
  obtain ⟨r1, hr2, hf⟩ := Option.bind_eq_some_iff.mp hf
  refine pm_ca (y := 37) (as := [.inr (.inr (3, 0)), .inr (.inr (7, a1))]) (r := some (.inl r1)) (w2 := w) (w1 := w) (t := []) (i2 := 3) (ls2 := [some (.inr (.inr (3, 0))), some (.inr (.inr (7, a1))), none, none, none]) 1 (a_X5_hearers F w a1 r1 d (by omega) hr2) (fun F h => h) ?_
  show pm_Gx (RT d) co_X5_turnOfEars 3 [some (.inr (.inr (3, 0))), some (.inr (.inr (7, a1))), none, none, none] [.inl r1] w Q
  refine pm_go (i2 := 8) (ls2 := [some (.inr (.inr (3, 0))), some (.inr (.inr (7, a1))), some (.inl r1), some (.inl 0), some (.inl 0)]) (st2 := []) (w2 := w) 5 (fun F h => h) ?_
  obtain ⟨x5, hx6, hf⟩ := Option.bind_eq_some_iff.mp hf
  refine a_X5_turnOfEars_L8 F d hd Q w F a1 r1 0 0 x5 hx6 ?_
  refine pm_go (i2 := 28) (ls2 := [some (.inr (.inr (3, 0))), some (.inr (.inr (7, a1))), some (.inl r1), some (.inl x5.1), some (.inl x5.2)]) (st2 := [.inl x5.1]) (w2 := w) 1 (fun F h => h) ?_
  obtain rfl := Option.some.inj hf
  exact pm_re (r := some (.inl x5.1)) (w2 := w) 1 (fun F h => h) hq
set_option maxRecDepth 20000 in
set_option maxHeartbeats 4000000 in
theorem a_X5_turnOfEars (F : Nat) (w : pm_W) (a1 : Nat) (x : Int32) (d : Nat) (hd : 3 ≤ d) (hf : f_X5_turnOfEars F w a1 = some x) : RT d 39 [.inr (.inr (3, 0)), .inr (.inr (7, a1))] w (some (.inl x)) w := by
  obtain ⟨d, rfl, hd2⟩ := pm_dep hd
  exact pm_start (co := co_X5_turnOfEars) (nL := 5) (by decide) rfl rfl (Nat.le_of_ble_eq_true rfl) (b_X5_turnOfEars F d hd2 _ w a1 x hf ⟨rfl, rfl⟩)
def f_X6_append (F : Nat) (w : pm_W) (a1 : Int32) : Option ((Int32 × pm_W)) := (if (w.1 1 0 1) < 0 then some (0, w) else (if (w.1 1 0 1) < 40 then (if pm_inb (w.1 1 0 1) 40 = true then (pm_wlet (pm_setI w 2 0 ((w.1 1 0 1).toNatClampNeg) a1) fun w4 => (pm_wlet (pm_setI w4 1 0 1 ((w4.1 1 0 1) + 1)) fun w5 => some (1, w5))) else none) else some (0, w)))
set_option maxRecDepth 20000 in
set_option maxHeartbeats 4000000 in
theorem b_X6_append (F : Nat) (d : Nat) (hd : 0 ≤ d) (Q : pm_Q) (w : pm_W) (a1 : Int32) (x : (Int32 × pm_W)) (hf : f_X6_append F w a1 = some x) (hq : Q (some (.inl x.1)) x.2) : pm_Gx (RT d) co_X6_append 0 [some (.inr (.inr (1, 0))), some (.inl a1)] [] w Q := by
  unfold f_X6_append at hf
  refine pm_go (i2 := 2) (ls2 := [some (.inr (.inr (1, 0))), some (.inl a1)]) (st2 := [.inl (w.1 1 0 1)]) (w2 := w) 2 (fun F h => h) ?_
  refine pm_if (P := (w.1 1 0 1) < 0) (i2 := 7) (i3 := 3) (ls2 := [some (.inr (.inr (1, 0))), some (.inl a1)]) (st2 := []) (w2 := w) 1 (fun F h => h) (fun hc1 => ?_) (fun hc1 => ?_)
  · rw [if_pos hc1] at hf
    refine pm_go (i2 := 8) (ls2 := [some (.inr (.inr (1, 0))), some (.inl a1)]) (st2 := [.inl 0]) (w2 := w) 1 (fun F h => h) ?_
    obtain rfl := Option.some.inj hf
    exact pm_re (r := some (.inl 0)) (w2 := w) 1 (fun F h => ⟨rfl, h⟩) hq
  · rw [if_neg hc1] at hf
    refine pm_go (i2 := 6) (ls2 := [some (.inr (.inr (1, 0))), some (.inl a1)]) (st2 := [.inl 40, .inl (w.1 1 0 1)]) (w2 := w) 3 (fun F h => h) ?_
    refine pm_if (P := (w.1 1 0 1) < 40) (i2 := 9) (i3 := 7) (ls2 := [some (.inr (.inr (1, 0))), some (.inl a1)]) (st2 := []) (w2 := w) 1 (fun F h => h) (fun hc2 => ?_) (fun hc2 => ?_)
    · rw [if_pos hc2] at hf
      obtain ⟨hs3, hf⟩ := pm_itn hf
      refine pm_go (i2 := 15) (ls2 := [some (.inr (.inr (1, 0))), some (.inl a1)]) (st2 := []) (w2 := (pm_setI w 2 0 ((w.1 1 0 1).toNatClampNeg) a1)) 6 (fun F h => ⟨(pm_inb_in hs3), h⟩) ?_
      generalize (pm_setI w 2 0 ((w.1 1 0 1).toNatClampNeg) a1) = w4 at hf ⊢
      replace hf := pm_wlet_un hf
      refine pm_go (i2 := 21) (ls2 := [some (.inr (.inr (1, 0))), some (.inl a1)]) (st2 := []) (w2 := (pm_setI w4 1 0 1 ((w4.1 1 0 1) + 1))) 6 (fun F h => h) ?_
      generalize (pm_setI w4 1 0 1 ((w4.1 1 0 1) + 1)) = w5 at hf ⊢
      replace hf := pm_wlet_un hf
      refine pm_go (i2 := 22) (ls2 := [some (.inr (.inr (1, 0))), some (.inl a1)]) (st2 := [.inl 1]) (w2 := w5) 1 (fun F h => h) ?_
      obtain rfl := Option.some.inj hf
      exact pm_re (r := some (.inl 1)) (w2 := w5) 1 (fun F h => ⟨rfl, h⟩) hq
    · rw [if_neg hc2] at hf
      refine pm_go (i2 := 8) (ls2 := [some (.inr (.inr (1, 0))), some (.inl a1)]) (st2 := [.inl 0]) (w2 := w) 1 (fun F h => h) ?_
      obtain rfl := Option.some.inj hf
      exact pm_re (r := some (.inl 0)) (w2 := w) 1 (fun F h => ⟨rfl, h⟩) hq
set_option maxRecDepth 20000 in
set_option maxHeartbeats 4000000 in
theorem a_X6_append (F : Nat) (w : pm_W) (a1 : Int32) (x : (Int32 × pm_W)) (d : Nat) (hd : 1 ≤ d) (hf : f_X6_append F w a1 = some x) : RT d 44 [.inr (.inr (1, 0)), .inl a1] w (some (.inl x.1)) x.2 := by
  obtain ⟨d, rfl, hd2⟩ := pm_dep hd
  exact pm_start (co := co_X6_append) (nL := 2) (by decide) rfl rfl (Nat.le_of_ble_eq_true rfl) (b_X6_append F d hd2 _ w a1 x hf ⟨rfl, rfl⟩)
def f_X6_isLetter (F : Nat) (w : pm_W) (a1 : Int32) (a2 : Int32) : Option (Int32) := (if a1 < 0 then some 0 else (if (w.1 1 0 1) ≤ a1 then some 0 else (if 40 ≤ a1 then some 0 else (if pm_inb a1 40 = true then (if pm_isb (if (w.1 2 0 a1.toNatClampNeg) = a2 then 1 else 0 : Int32) = true then some (if (w.1 2 0 a1.toNatClampNeg) = a2 then 1 else 0 : Int32) else none) else none))))
set_option maxRecDepth 20000 in
set_option maxHeartbeats 4000000 in
theorem b_X6_isLetter (F : Nat) (d : Nat) (hd : 0 ≤ d) (Q : pm_Q) (w : pm_W) (a1 : Int32) (a2 : Int32) (x : Int32) (hf : f_X6_isLetter F w a1 a2 = some x) (hq : Q (some (.inl x)) w) : pm_Gx (RT d) co_X6_isLetter 0 [some (.inr (.inr (1, 0))), some (.inl a1), some (.inl a2)] [] w Q := by
  unfold f_X6_isLetter at hf
  refine pm_go (i2 := 1) (ls2 := [some (.inr (.inr (1, 0))), some (.inl a1), some (.inl a2)]) (st2 := [.inl a1]) (w2 := w) 1 (fun F h => h) ?_
  refine pm_if (P := a1 < 0) (i2 := 17) (i3 := 2) (ls2 := [some (.inr (.inr (1, 0))), some (.inl a1), some (.inl a2)]) (st2 := []) (w2 := w) 1 (fun F h => h) (fun hc1 => ?_) (fun hc1 => ?_)
  · rw [if_pos hc1] at hf
    refine pm_go (i2 := 18) (ls2 := [some (.inr (.inr (1, 0))), some (.inl a1), some (.inl a2)]) (st2 := [.inl 0]) (w2 := w) 1 (fun F h => h) ?_
    obtain rfl := Option.some.inj hf
    exact pm_re (r := some (.inl 0)) (w2 := w) 1 (fun F h => ⟨rfl, h⟩) hq
  · rw [if_neg hc1] at hf
    refine pm_go (i2 := 5) (ls2 := [some (.inr (.inr (1, 0))), some (.inl a1), some (.inl a2)]) (st2 := [.inl (w.1 1 0 1), .inl a1]) (w2 := w) 3 (fun F h => h) ?_
    refine pm_if (P := (w.1 1 0 1) ≤ a1) (i2 := 17) (i3 := 6) (ls2 := [some (.inr (.inr (1, 0))), some (.inl a1), some (.inl a2)]) (st2 := []) (w2 := w) 1 (fun F h => h) (fun hc2 => ?_) (fun hc2 => ?_)
    · rw [if_pos hc2] at hf
      refine pm_go (i2 := 18) (ls2 := [some (.inr (.inr (1, 0))), some (.inl a1), some (.inl a2)]) (st2 := [.inl 0]) (w2 := w) 1 (fun F h => h) ?_
      obtain rfl := Option.some.inj hf
      exact pm_re (r := some (.inl 0)) (w2 := w) 1 (fun F h => ⟨rfl, h⟩) hq
    · rw [if_neg hc2] at hf
      refine pm_go (i2 := 8) (ls2 := [some (.inr (.inr (1, 0))), some (.inl a1), some (.inl a2)]) (st2 := [.inl 40, .inl a1]) (w2 := w) 2 (fun F h => h) ?_
      refine pm_if (P := 40 ≤ a1) (i2 := 17) (i3 := 9) (ls2 := [some (.inr (.inr (1, 0))), some (.inl a1), some (.inl a2)]) (st2 := []) (w2 := w) 1 (fun F h => h) (fun hc3 => ?_) (fun hc3 => ?_)
      · rw [if_pos hc3] at hf
        refine pm_go (i2 := 18) (ls2 := [some (.inr (.inr (1, 0))), some (.inl a1), some (.inl a2)]) (st2 := [.inl 0]) (w2 := w) 1 (fun F h => h) ?_
        obtain rfl := Option.some.inj hf
        exact pm_re (r := some (.inl 0)) (w2 := w) 1 (fun F h => ⟨rfl, h⟩) hq
      · rw [if_neg hc3] at hf
        obtain ⟨hs4, hf⟩ := pm_itn hf
        refine pm_go (i2 := 14) (ls2 := [some (.inr (.inr (1, 0))), some (.inl a1), some (.inl a2)]) (st2 := [.inl a2, .inl (w.1 2 0 a1.toNatClampNeg)]) (w2 := w) 5 (fun F h => ⟨(pm_inb_in hs4), h⟩) ?_
        have key : pm_Gx (RT d) co_X6_isLetter 18 [some (.inr (.inr (1, 0))), some (.inl a1), some (.inl a2)] [.inl (if (w.1 2 0 a1.toNatClampNeg) = a2 then 1 else 0 : Int32)] w Q := by
          obtain ⟨hz5, hf⟩ := pm_itn hf
          obtain rfl := Option.some.inj hf
          exact pm_re (r := some (.inl (if (w.1 2 0 a1.toNatClampNeg) = a2 then 1 else 0 : Int32))) (w2 := w) 1 (fun F h => ⟨pm_isb_nar hz5, h⟩) hq
        clear hf
        refine pm_if (P := (w.1 2 0 a1.toNatClampNeg) = a2) (i2 := 15) (i3 := 17) (ls2 := [some (.inr (.inr (1, 0))), some (.inl a1), some (.inl a2)]) (st2 := []) (w2 := w) 1 (fun F h => h) (fun hc6 => ?_) (fun hc6 => ?_)
        · try simp only [if_pos hc6] at key
          refine pm_go (i2 := 18) (ls2 := [some (.inr (.inr (1, 0))), some (.inl a1), some (.inl a2)]) (st2 := [.inl 1]) (w2 := w) 2 (fun F h => h) ?_
          exact key
        · try simp only [if_neg hc6] at key
          refine pm_go (i2 := 18) (ls2 := [some (.inr (.inr (1, 0))), some (.inl a1), some (.inl a2)]) (st2 := [.inl 0]) (w2 := w) 1 (fun F h => h) ?_
          exact key
set_option maxRecDepth 20000 in
set_option maxHeartbeats 4000000 in
theorem a_X6_isLetter (F : Nat) (w : pm_W) (a1 : Int32) (a2 : Int32) (x : Int32) (d : Nat) (hd : 1 ≤ d) (hf : f_X6_isLetter F w a1 a2 = some x) : RT d 51 [.inr (.inr (1, 0)), .inl a1, .inl a2] w (some (.inl x)) w := by
  obtain ⟨d, rfl, hd2⟩ := pm_dep hd
  exact pm_start (co := co_X6_isLetter) (nL := 3) (by decide) rfl rfl (Nat.le_of_ble_eq_true rfl) (b_X6_isLetter F d hd2 _ w a1 a2 x hf ⟨rfl, rfl⟩)
def f_X6_fitsHead (F : Nat) (w : pm_W) (a1 : Int32) : Option (Int32) := ((f_X6_figureTold F w a1).bind fun r1 => (if a1 = 0 then ((f_X6_isLetter F w a1 84).bind fun r4 => (if pm_isb r4 = true then some r4 else none)) else (if a1 = 1 then (if pm_isb (if r1 < 0 then 0 else (if 30 < (10 * r1) then 0 else 1 : Int32) : Int32) = true then some (if r1 < 0 then 0 else (if 30 < (10 * r1) then 0 else 1 : Int32) : Int32) else none) else (if a1 = 2 then (if r1 < 0 then some 0 else ((f_X6_lengthTold F w).bind fun r13 => (if r13 < 1 then some 0 else ((f_X6_lengthTold F w).bind fun r16 => (if pm_isb (if 30 < r16 then 0 else 1 : Int32) = true then some (if 30 < r16 then 0 else 1 : Int32) else none))))) else (if pm_isb (if r1 < 1 then 0 else 1 : Int32) = true then some (if r1 < 1 then 0 else 1 : Int32) else none)))))
set_option maxRecDepth 20000 in
set_option maxHeartbeats 4000000 in
theorem b_X6_fitsHead (F : Nat) (d : Nat) (hd : 2 ≤ d) (Q : pm_Q) (w : pm_W) (a1 : Int32) (x : Int32) (hf : f_X6_fitsHead F w a1 = some x) (hq : Q (some (.inl x)) w) : pm_Gx (RT d) co_X6_fitsHead 0 [some (.inr (.inr (1, 0))), some (.inl a1), none] [] w Q := by
  unfold f_X6_fitsHead at hf
  refine pm_go (i2 := 2) (ls2 := [some (.inr (.inr (1, 0))), some (.inl a1), none]) (st2 := [.inl a1, .inr (.inr (1, 0))]) (w2 := w) 2 (fun F h => h) ?_
  obtain ⟨r1, hr2, hf⟩ := Option.bind_eq_some_iff.mp hf
  refine pm_ca (y := 50) (as := [.inr (.inr (1, 0)), .inl a1]) (r := some (.inl r1)) (w2 := w) (w1 := w) (t := []) (i2 := 3) (ls2 := [some (.inr (.inr (1, 0))), some (.inl a1), none]) 1 (a_X6_figureTold F w a1 r1 d (by omega) hr2) (fun F h => h) ?_
  show pm_Gx (RT d) co_X6_fitsHead 3 [some (.inr (.inr (1, 0))), some (.inl a1), none] [.inl r1] w Q
  refine pm_go (i2 := 5) (ls2 := [some (.inr (.inr (1, 0))), some (.inl a1), some (.inl r1)]) (st2 := [.inl a1]) (w2 := w) 2 (fun F h => h) ?_
  refine pm_swx (x := a1) (d := 36) (cs := [(0, 6), (1, 11), (2, 22)]) (ls2 := [some (.inr (.inr (1, 0))), some (.inl a1), some (.inl r1)]) (st2 := []) (w2 := w) 1 (fun F h => h) ?_
  refine pm_swc (fun hw3 => ?_) (fun hw3 => ?_)
  · rw [if_pos hw3] at hf
    refine pm_go (i2 := 9) (ls2 := [some (.inr (.inr (1, 0))), some (.inl a1), some (.inl r1)]) (st2 := [.inl 84, .inl a1, .inr (.inr (1, 0))]) (w2 := w) 3 (fun F h => h) ?_
    obtain ⟨r4, hr5, hf⟩ := Option.bind_eq_some_iff.mp hf
    refine pm_ca (y := 51) (as := [.inr (.inr (1, 0)), .inl a1, .inl 84]) (r := some (.inl r4)) (w2 := w) (w1 := w) (t := []) (i2 := 10) (ls2 := [some (.inr (.inr (1, 0))), some (.inl a1), some (.inl r1)]) 1 (a_X6_isLetter F w a1 84 r4 d (by omega) hr5) (fun F h => h) ?_
    show pm_Gx (RT d) co_X6_fitsHead 10 [some (.inr (.inr (1, 0))), some (.inl a1), some (.inl r1)] [.inl r4] w Q
    obtain ⟨hz6, hf⟩ := pm_itn hf
    obtain rfl := Option.some.inj hf
    exact pm_re (r := some (.inl r4)) (w2 := w) 1 (fun F h => ⟨pm_isb_nar hz6, h⟩) hq
  rw [if_neg hw3] at hf
  refine pm_swc (fun hw7 => ?_) (fun hw7 => ?_)
  · rw [if_pos hw7] at hf
    refine pm_go (i2 := 12) (ls2 := [some (.inr (.inr (1, 0))), some (.inl a1), some (.inl r1)]) (st2 := [.inl r1]) (w2 := w) 1 (fun F h => h) ?_
    have key : pm_Gx (RT d) co_X6_fitsHead 21 [some (.inr (.inr (1, 0))), some (.inl a1), some (.inl r1)] [.inl (if r1 < 0 then 0 else (if 30 < (10 * r1) then 0 else 1 : Int32) : Int32)] w Q := by
      obtain ⟨hz8, hf⟩ := pm_itn hf
      obtain rfl := Option.some.inj hf
      exact pm_re (r := some (.inl (if r1 < 0 then 0 else (if 30 < (10 * r1) then 0 else 1 : Int32) : Int32))) (w2 := w) 1 (fun F h => ⟨pm_isb_nar hz8, h⟩) hq
    clear hf
    refine pm_if (P := r1 < 0) (i2 := 20) (i3 := 13) (ls2 := [some (.inr (.inr (1, 0))), some (.inl a1), some (.inl r1)]) (st2 := []) (w2 := w) 1 (fun F h => h) (fun hc9 => ?_) (fun hc9 => ?_)
    · try simp only [if_pos hc9] at key
      refine pm_go (i2 := 21) (ls2 := [some (.inr (.inr (1, 0))), some (.inl a1), some (.inl r1)]) (st2 := [.inl 0]) (w2 := w) 1 (fun F h => h) ?_
      exact key
    · try simp only [if_neg hc9] at key
      refine pm_go (i2 := 17) (ls2 := [some (.inr (.inr (1, 0))), some (.inl a1), some (.inl r1)]) (st2 := [.inl 30, .inl (10 * r1)]) (w2 := w) 4 (fun F h => h) ?_
      refine pm_if (P := 30 < (10 * r1)) (i2 := 20) (i3 := 18) (ls2 := [some (.inr (.inr (1, 0))), some (.inl a1), some (.inl r1)]) (st2 := []) (w2 := w) 1 (fun F h => h) (fun hc10 => ?_) (fun hc10 => ?_)
      · try simp only [if_pos hc10] at key
        refine pm_go (i2 := 21) (ls2 := [some (.inr (.inr (1, 0))), some (.inl a1), some (.inl r1)]) (st2 := [.inl 0]) (w2 := w) 1 (fun F h => h) ?_
        exact key
      · try simp only [if_neg hc10] at key
        refine pm_go (i2 := 21) (ls2 := [some (.inr (.inr (1, 0))), some (.inl a1), some (.inl r1)]) (st2 := [.inl 1]) (w2 := w) 2 (fun F h => h) ?_
        exact key
  rw [if_neg hw7] at hf
  refine pm_swc (fun hw11 => ?_) (fun hw11 => ?_)
  · rw [if_pos hw11] at hf
    refine pm_go (i2 := 23) (ls2 := [some (.inr (.inr (1, 0))), some (.inl a1), some (.inl r1)]) (st2 := [.inl r1]) (w2 := w) 1 (fun F h => h) ?_
    refine pm_if (P := r1 < 0) (i2 := 34) (i3 := 24) (ls2 := [some (.inr (.inr (1, 0))), some (.inl a1), some (.inl r1)]) (st2 := []) (w2 := w) 1 (fun F h => h) (fun hc12 => ?_) (fun hc12 => ?_)
    · rw [if_pos hc12] at hf
      refine pm_go (i2 := 35) (ls2 := [some (.inr (.inr (1, 0))), some (.inl a1), some (.inl r1)]) (st2 := [.inl 0]) (w2 := w) 1 (fun F h => h) ?_
      obtain rfl := Option.some.inj hf
      exact pm_re (r := some (.inl 0)) (w2 := w) 1 (fun F h => ⟨rfl, h⟩) hq
    · rw [if_neg hc12] at hf
      refine pm_go (i2 := 25) (ls2 := [some (.inr (.inr (1, 0))), some (.inl a1), some (.inl r1)]) (st2 := [.inr (.inr (1, 0))]) (w2 := w) 1 (fun F h => h) ?_
      obtain ⟨r13, hr14, hf⟩ := Option.bind_eq_some_iff.mp hf
      refine pm_ca (y := 47) (as := [.inr (.inr (1, 0))]) (r := some (.inl r13)) (w2 := w) (w1 := w) (t := []) (i2 := 26) (ls2 := [some (.inr (.inr (1, 0))), some (.inl a1), some (.inl r1)]) 1 (a_X6_lengthTold F w r13 d (by omega) hr14) (fun F h => h) ?_
      show pm_Gx (RT d) co_X6_fitsHead 26 [some (.inr (.inr (1, 0))), some (.inl a1), some (.inl r1)] [.inl r13] w Q
      refine pm_go (i2 := 27) (ls2 := [some (.inr (.inr (1, 0))), some (.inl a1), some (.inl r1)]) (st2 := [.inl 1, .inl r13]) (w2 := w) 1 (fun F h => h) ?_
      refine pm_if (P := r13 < 1) (i2 := 34) (i3 := 28) (ls2 := [some (.inr (.inr (1, 0))), some (.inl a1), some (.inl r1)]) (st2 := []) (w2 := w) 1 (fun F h => h) (fun hc15 => ?_) (fun hc15 => ?_)
      · rw [if_pos hc15] at hf
        refine pm_go (i2 := 35) (ls2 := [some (.inr (.inr (1, 0))), some (.inl a1), some (.inl r1)]) (st2 := [.inl 0]) (w2 := w) 1 (fun F h => h) ?_
        obtain rfl := Option.some.inj hf
        exact pm_re (r := some (.inl 0)) (w2 := w) 1 (fun F h => ⟨rfl, h⟩) hq
      · rw [if_neg hc15] at hf
        refine pm_go (i2 := 29) (ls2 := [some (.inr (.inr (1, 0))), some (.inl a1), some (.inl r1)]) (st2 := [.inr (.inr (1, 0))]) (w2 := w) 1 (fun F h => h) ?_
        obtain ⟨r16, hr17, hf⟩ := Option.bind_eq_some_iff.mp hf
        refine pm_ca (y := 47) (as := [.inr (.inr (1, 0))]) (r := some (.inl r16)) (w2 := w) (w1 := w) (t := []) (i2 := 30) (ls2 := [some (.inr (.inr (1, 0))), some (.inl a1), some (.inl r1)]) 1 (a_X6_lengthTold F w r16 d (by omega) hr17) (fun F h => h) ?_
        show pm_Gx (RT d) co_X6_fitsHead 30 [some (.inr (.inr (1, 0))), some (.inl a1), some (.inl r1)] [.inl r16] w Q
        refine pm_go (i2 := 31) (ls2 := [some (.inr (.inr (1, 0))), some (.inl a1), some (.inl r1)]) (st2 := [.inl 30, .inl r16]) (w2 := w) 1 (fun F h => h) ?_
        have key : pm_Gx (RT d) co_X6_fitsHead 35 [some (.inr (.inr (1, 0))), some (.inl a1), some (.inl r1)] [.inl (if 30 < r16 then 0 else 1 : Int32)] w Q := by
          obtain ⟨hz18, hf⟩ := pm_itn hf
          obtain rfl := Option.some.inj hf
          exact pm_re (r := some (.inl (if 30 < r16 then 0 else 1 : Int32))) (w2 := w) 1 (fun F h => ⟨pm_isb_nar hz18, h⟩) hq
        clear hf
        refine pm_if (P := 30 < r16) (i2 := 34) (i3 := 32) (ls2 := [some (.inr (.inr (1, 0))), some (.inl a1), some (.inl r1)]) (st2 := []) (w2 := w) 1 (fun F h => h) (fun hc19 => ?_) (fun hc19 => ?_)
        · try simp only [if_pos hc19] at key
          refine pm_go (i2 := 35) (ls2 := [some (.inr (.inr (1, 0))), some (.inl a1), some (.inl r1)]) (st2 := [.inl 0]) (w2 := w) 1 (fun F h => h) ?_
          exact key
        · try simp only [if_neg hc19] at key
          refine pm_go (i2 := 35) (ls2 := [some (.inr (.inr (1, 0))), some (.inl a1), some (.inl r1)]) (st2 := [.inl 1]) (w2 := w) 2 (fun F h => h) ?_
          exact key
  rw [if_neg hw11] at hf
  refine pm_swd ?_
  refine pm_go (i2 := 38) (ls2 := [some (.inr (.inr (1, 0))), some (.inl a1), some (.inl r1)]) (st2 := [.inl 1, .inl r1]) (w2 := w) 2 (fun F h => h) ?_
  have key : pm_Gx (RT d) co_X6_fitsHead 42 [some (.inr (.inr (1, 0))), some (.inl a1), some (.inl r1)] [.inl (if r1 < 1 then 0 else 1 : Int32)] w Q := by
    obtain ⟨hz20, hf⟩ := pm_itn hf
    obtain rfl := Option.some.inj hf
    exact pm_re (r := some (.inl (if r1 < 1 then 0 else 1 : Int32))) (w2 := w) 1 (fun F h => ⟨pm_isb_nar hz20, h⟩) hq
  clear hf
  refine pm_if (P := r1 < 1) (i2 := 41) (i3 := 39) (ls2 := [some (.inr (.inr (1, 0))), some (.inl a1), some (.inl r1)]) (st2 := []) (w2 := w) 1 (fun F h => h) (fun hc21 => ?_) (fun hc21 => ?_)
  · try simp only [if_pos hc21] at key
    refine pm_go (i2 := 42) (ls2 := [some (.inr (.inr (1, 0))), some (.inl a1), some (.inl r1)]) (st2 := [.inl 0]) (w2 := w) 1 (fun F h => h) ?_
    exact key
  · try simp only [if_neg hc21] at key
    refine pm_go (i2 := 42) (ls2 := [some (.inr (.inr (1, 0))), some (.inl a1), some (.inl r1)]) (st2 := [.inl 1]) (w2 := w) 2 (fun F h => h) ?_
    exact key
set_option maxRecDepth 20000 in
set_option maxHeartbeats 4000000 in
theorem a_X6_fitsHead (F : Nat) (w : pm_W) (a1 : Int32) (x : Int32) (d : Nat) (hd : 3 ≤ d) (hf : f_X6_fitsHead F w a1 = some x) : RT d 52 [.inr (.inr (1, 0)), .inl a1] w (some (.inl x)) w := by
  obtain ⟨d, rfl, hd2⟩ := pm_dep hd
  exact pm_start (co := co_X6_fitsHead) (nL := 3) (by decide) rfl rfl (Nat.le_of_ble_eq_true rfl) (b_X6_fitsHead F d hd2 _ w a1 x hf ⟨rfl, rfl⟩)
def f_X6_isFree_L8 (F : Nat) (w : pm_W) : Nat → Int32 → Int32 → Int32 → Option ((Int32) ⊕ Int32)
  | 0, _, _, _ => none
  | n + 1, v1, v2, v3 => (if v1 ≤ v3 then some (.inl v3) else ((f_X6_leafTold F w v3).bind fun r5 => (if r5 = v2 then some (.inr 0) else f_X6_isFree_L8 F w n v1 v2 (v3 + 1))))
def f_X6_isFree (F : Nat) (w : pm_W) (a1 : Int32) (a2 : Int32) : Option (Int32) := ((f_X6_lengthTold F w).bind fun r1 => (if a2 < r1 then ((f_X6_isFree_L8 F w F a1 a2 0).bind fun x8 => Sum.elim (fun ex8 => some 1) (fun rx8 => some rx8) x8) else some 0))
set_option maxRecDepth 20000 in
set_option maxHeartbeats 4000000 in
theorem a_X6_isFree_L8 (F : Nat) (d : Nat) (hd : 2 ≤ d) (Q : pm_Q) (w : pm_W) : ∀ (n : Nat) (v1 : Int32) (v2 : Int32) (v3 : Int32) (x : (Int32) ⊕ Int32), f_X6_isFree_L8 F w n v1 v2 v3 = some x → (∀ e, x = .inl e → pm_Gx (RT d) co_X6_isFree 20 [some (.inr (.inr (1, 0))), some (.inl v1), some (.inl v2), some (.inl e)] [] w Q) → (∀ r, x = .inr r → Q (some (.inl r)) w) → pm_Gx (RT d) co_X6_isFree 8 [some (.inr (.inr (1, 0))), some (.inl v1), some (.inl v2), some (.inl v3)] [] w Q := by
  intro n
  induction n with
  | zero =>
    intro v1 v2 v3 x hf
    cases hf
  | succ n ih =>
    intro v1 v2 v3 x hf hk hq
    rw [f_X6_isFree_L8] at hf
    refine pm_go (i2 := 10) (ls2 := [some (.inr (.inr (1, 0))), some (.inl v1), some (.inl v2), some (.inl v3)]) (st2 := [.inl v1, .inl v3]) (w2 := w) 2 (fun F h => h) ?_
    refine pm_if (P := v1 ≤ v3) (i2 := 20) (i3 := 11) (ls2 := [some (.inr (.inr (1, 0))), some (.inl v1), some (.inl v2), some (.inl v3)]) (st2 := []) (w2 := w) 1 (fun F h => h) (fun hc4 => ?_) (fun hc4 => ?_)
    · rw [if_pos hc4] at hf
      obtain rfl := Option.some.inj hf
      exact hk _ rfl
    · rw [if_neg hc4] at hf
      refine pm_go (i2 := 13) (ls2 := [some (.inr (.inr (1, 0))), some (.inl v1), some (.inl v2), some (.inl v3)]) (st2 := [.inl v3, .inr (.inr (1, 0))]) (w2 := w) 2 (fun F h => h) ?_
      obtain ⟨r5, hr6, hf⟩ := Option.bind_eq_some_iff.mp hf
      refine pm_ca (y := 48) (as := [.inr (.inr (1, 0)), .inl v3]) (r := some (.inl r5)) (w2 := w) (w1 := w) (t := []) (i2 := 14) (ls2 := [some (.inr (.inr (1, 0))), some (.inl v1), some (.inl v2), some (.inl v3)]) 1 (a_X6_leafTold F w v3 r5 d (by omega) hr6) (fun F h => h) ?_
      show pm_Gx (RT d) co_X6_isFree 14 [some (.inr (.inr (1, 0))), some (.inl v1), some (.inl v2), some (.inl v3)] [.inl r5] w Q
      refine pm_go (i2 := 15) (ls2 := [some (.inr (.inr (1, 0))), some (.inl v1), some (.inl v2), some (.inl v3)]) (st2 := [.inl v2, .inl r5]) (w2 := w) 1 (fun F h => h) ?_
      refine pm_if (P := r5 = v2) (i2 := 16) (i3 := 18) (ls2 := [some (.inr (.inr (1, 0))), some (.inl v1), some (.inl v2), some (.inl v3)]) (st2 := []) (w2 := w) 1 (fun F h => h) (fun hc7 => ?_) (fun hc7 => ?_)
      · rw [if_pos hc7] at hf
        refine pm_go (i2 := 17) (ls2 := [some (.inr (.inr (1, 0))), some (.inl v1), some (.inl v2), some (.inl v3)]) (st2 := [.inl 0]) (w2 := w) 1 (fun F h => h) ?_
        obtain rfl := Option.some.inj hf
        exact pm_re (r := some (.inl 0)) (w2 := w) 1 (fun F h => ⟨rfl, h⟩) (hq _ rfl)
      · rw [if_neg hc7] at hf
        refine pm_go (i2 := 8) (ls2 := [some (.inr (.inr (1, 0))), some (.inl v1), some (.inl v2), some (.inl (v3 + 1))]) (st2 := []) (w2 := w) 2 (fun F h => h) ?_
        exact ih v1 v2 (v3 + 1) _ hf hk hq
set_option maxRecDepth 20000 in
set_option maxHeartbeats 4000000 in
theorem b_X6_isFree (F : Nat) (d : Nat) (hd : 2 ≤ d) (Q : pm_Q) (w : pm_W) (a1 : Int32) (a2 : Int32) (x : Int32) (hf : f_X6_isFree F w a1 a2 = some x) (hq : Q (some (.inl x)) w) : pm_Gx (RT d) co_X6_isFree 0 [some (.inr (.inr (1, 0))), some (.inl a1), some (.inl a2), none] [] w Q := by
  unfold f_X6_isFree at hf
  refine pm_go (i2 := 2) (ls2 := [some (.inr (.inr (1, 0))), some (.inl a1), some (.inl a2), none]) (st2 := [.inr (.inr (1, 0)), .inl a2]) (w2 := w) 2 (fun F h => h) ?_
  obtain ⟨r1, hr2, hf⟩ := Option.bind_eq_some_iff.mp hf
  refine pm_ca (y := 47) (as := [.inr (.inr (1, 0))]) (r := some (.inl r1)) (w2 := w) (w1 := w) (t := [.inl a2]) (i2 := 3) (ls2 := [some (.inr (.inr (1, 0))), some (.inl a1), some (.inl a2), none]) 1 (a_X6_lengthTold F w r1 d (by omega) hr2) (fun F h => h) ?_
  show pm_Gx (RT d) co_X6_isFree 3 [some (.inr (.inr (1, 0))), some (.inl a1), some (.inl a2), none] [.inl r1, .inl a2] w Q
  refine pm_if (P := a2 < r1) (i2 := 6) (i3 := 4) (ls2 := [some (.inr (.inr (1, 0))), some (.inl a1), some (.inl a2), none]) (st2 := []) (w2 := w) 1 (fun F h => h) (fun hc3 => ?_) (fun hc3 => ?_)
  · rw [if_pos hc3] at hf
    refine pm_go (i2 := 8) (ls2 := [some (.inr (.inr (1, 0))), some (.inl a1), some (.inl a2), some (.inl 0)]) (st2 := []) (w2 := w) 2 (fun F h => h) ?_
    obtain ⟨x8, hx9, hf⟩ := Option.bind_eq_some_iff.mp hf
    refine a_X6_isFree_L8 F d hd Q w F a1 a2 0 x8 hx9 (fun ex8 hx8 => ?_) (fun rx8 hx8 => ?_)
    · subst hx8
      change _ = _ at hf
      refine pm_go (i2 := 21) (ls2 := [some (.inr (.inr (1, 0))), some (.inl a1), some (.inl a2), some (.inl ex8)]) (st2 := [.inl 1]) (w2 := w) 1 (fun F h => h) ?_
      obtain rfl := Option.some.inj hf
      exact pm_re (r := some (.inl 1)) (w2 := w) 1 (fun F h => ⟨rfl, h⟩) hq
    · subst hx8
      obtain rfl := Option.some.inj (show some rx8 = some x from hf)
      exact hq
  · rw [if_neg hc3] at hf
    refine pm_go (i2 := 5) (ls2 := [some (.inr (.inr (1, 0))), some (.inl a1), some (.inl a2), none]) (st2 := [.inl 0]) (w2 := w) 1 (fun F h => h) ?_
    obtain rfl := Option.some.inj hf
    exact pm_re (r := some (.inl 0)) (w2 := w) 1 (fun F h => ⟨rfl, h⟩) hq
set_option maxRecDepth 20000 in
set_option maxHeartbeats 4000000 in
theorem a_X6_isFree (F : Nat) (w : pm_W) (a1 : Int32) (a2 : Int32) (x : Int32) (d : Nat) (hd : 3 ≤ d) (hf : f_X6_isFree F w a1 a2 = some x) : RT d 55 [.inr (.inr (1, 0)), .inl a1, .inl a2] w (some (.inl x)) w := by
  obtain ⟨d, rfl, hd2⟩ := pm_dep hd
  exact pm_start (co := co_X6_isFree) (nL := 4) (by decide) rfl rfl (Nat.le_of_ble_eq_true rfl) (b_X6_isFree F d hd2 _ w a1 a2 x hf ⟨rfl, rfl⟩)
def f_X6_isAnyFree_L2 (F : Nat) (w : pm_W) : Nat → Int32 → Int32 → Int32 → Option ((Int32) ⊕ Int32)
  | 0, _, _, _ => none
  | n + 1, v1, v2, v3 => (if 10 ≤ v3 then some (.inl v3) else ((f_X6_isFree F w v1 (v2 + v3)).bind fun r2 => (if r2 = 0 then f_X6_isAnyFree_L2 F w n v1 v2 (v3 + 1) else some (.inr 1))))
def f_X6_isAnyFree (F : Nat) (w : pm_W) (a1 : Int32) (a2 : Int32) : Option (Int32) := ((f_X6_isAnyFree_L2 F w F a1 a2 0).bind fun x5 => Sum.elim (fun ex5 => some 0) (fun rx5 => some rx5) x5)
set_option maxRecDepth 20000 in
set_option maxHeartbeats 4000000 in
theorem a_X6_isAnyFree_L2 (F : Nat) (d : Nat) (hd : 3 ≤ d) (Q : pm_Q) (w : pm_W) : ∀ (n : Nat) (v1 : Int32) (v2 : Int32) (v3 : Int32) (x : (Int32) ⊕ Int32), f_X6_isAnyFree_L2 F w n v1 v2 v3 = some x → (∀ e, x = .inl e → pm_Gx (RT d) co_X6_isAnyFree 16 [some (.inr (.inr (1, 0))), some (.inl v1), some (.inl v2), some (.inl e)] [] w Q) → (∀ r, x = .inr r → Q (some (.inl r)) w) → pm_Gx (RT d) co_X6_isAnyFree 2 [some (.inr (.inr (1, 0))), some (.inl v1), some (.inl v2), some (.inl v3)] [] w Q := by
  intro n
  induction n with
  | zero =>
    intro v1 v2 v3 x hf
    cases hf
  | succ n ih =>
    intro v1 v2 v3 x hf hk hq
    rw [f_X6_isAnyFree_L2] at hf
    refine pm_go (i2 := 4) (ls2 := [some (.inr (.inr (1, 0))), some (.inl v1), some (.inl v2), some (.inl v3)]) (st2 := [.inl 10, .inl v3]) (w2 := w) 2 (fun F h => h) ?_
    refine pm_if (P := 10 ≤ v3) (i2 := 16) (i3 := 5) (ls2 := [some (.inr (.inr (1, 0))), some (.inl v1), some (.inl v2), some (.inl v3)]) (st2 := []) (w2 := w) 1 (fun F h => h) (fun hc1 => ?_) (fun hc1 => ?_)
    · rw [if_pos hc1] at hf
      obtain rfl := Option.some.inj hf
      exact hk _ rfl
    · rw [if_neg hc1] at hf
      refine pm_go (i2 := 10) (ls2 := [some (.inr (.inr (1, 0))), some (.inl v1), some (.inl v2), some (.inl v3)]) (st2 := [.inl (v2 + v3), .inl v1, .inr (.inr (1, 0))]) (w2 := w) 5 (fun F h => h) ?_
      obtain ⟨r2, hr3, hf⟩ := Option.bind_eq_some_iff.mp hf
      refine pm_ca (y := 55) (as := [.inr (.inr (1, 0)), .inl v1, .inl (v2 + v3)]) (r := some (.inl r2)) (w2 := w) (w1 := w) (t := []) (i2 := 11) (ls2 := [some (.inr (.inr (1, 0))), some (.inl v1), some (.inl v2), some (.inl v3)]) 1 (a_X6_isFree F w v1 (v2 + v3) r2 d (by omega) hr3) (fun F h => h) ?_
      show pm_Gx (RT d) co_X6_isAnyFree 11 [some (.inr (.inr (1, 0))), some (.inl v1), some (.inl v2), some (.inl v3)] [.inl r2] w Q
      refine pm_if (P := r2 = 0) (i2 := 14) (i3 := 12) (ls2 := [some (.inr (.inr (1, 0))), some (.inl v1), some (.inl v2), some (.inl v3)]) (st2 := []) (w2 := w) 1 (fun F h => h) (fun hc4 => ?_) (fun hc4 => ?_)
      · rw [if_pos hc4] at hf
        refine pm_go (i2 := 2) (ls2 := [some (.inr (.inr (1, 0))), some (.inl v1), some (.inl v2), some (.inl (v3 + 1))]) (st2 := []) (w2 := w) 2 (fun F h => h) ?_
        exact ih v1 v2 (v3 + 1) _ hf hk hq
      · rw [if_neg hc4] at hf
        refine pm_go (i2 := 13) (ls2 := [some (.inr (.inr (1, 0))), some (.inl v1), some (.inl v2), some (.inl v3)]) (st2 := [.inl 1]) (w2 := w) 1 (fun F h => h) ?_
        obtain rfl := Option.some.inj hf
        exact pm_re (r := some (.inl 1)) (w2 := w) 1 (fun F h => ⟨rfl, h⟩) (hq _ rfl)
set_option maxRecDepth 20000 in
set_option maxHeartbeats 4000000 in
theorem b_X6_isAnyFree (F : Nat) (d : Nat) (hd : 3 ≤ d) (Q : pm_Q) (w : pm_W) (a1 : Int32) (a2 : Int32) (x : Int32) (hf : f_X6_isAnyFree F w a1 a2 = some x) (hq : Q (some (.inl x)) w) : pm_Gx (RT d) co_X6_isAnyFree 0 [some (.inr (.inr (1, 0))), some (.inl a1), some (.inl a2), none] [] w Q := by
  unfold f_X6_isAnyFree at hf
  refine pm_go (i2 := 2) (ls2 := [some (.inr (.inr (1, 0))), some (.inl a1), some (.inl a2), some (.inl 0)]) (st2 := []) (w2 := w) 2 (fun F h => h) ?_
  obtain ⟨x5, hx6, hf⟩ := Option.bind_eq_some_iff.mp hf
  refine a_X6_isAnyFree_L2 F d hd Q w F a1 a2 0 x5 hx6 (fun ex5 hx5 => ?_) (fun rx5 hx5 => ?_)
  · subst hx5
    change _ = _ at hf
    refine pm_go (i2 := 17) (ls2 := [some (.inr (.inr (1, 0))), some (.inl a1), some (.inl a2), some (.inl ex5)]) (st2 := [.inl 0]) (w2 := w) 1 (fun F h => h) ?_
    obtain rfl := Option.some.inj hf
    exact pm_re (r := some (.inl 0)) (w2 := w) 1 (fun F h => ⟨rfl, h⟩) hq
  · subst hx5
    obtain rfl := Option.some.inj (show some rx5 = some x from hf)
    exact hq
set_option maxRecDepth 20000 in
set_option maxHeartbeats 4000000 in
theorem a_X6_isAnyFree (F : Nat) (w : pm_W) (a1 : Int32) (a2 : Int32) (x : Int32) (d : Nat) (hd : 4 ≤ d) (hf : f_X6_isAnyFree F w a1 a2 = some x) : RT d 54 [.inr (.inr (1, 0)), .inl a1, .inl a2] w (some (.inl x)) w := by
  obtain ⟨d, rfl, hd2⟩ := pm_dep hd
  exact pm_start (co := co_X6_isAnyFree) (nL := 4) (by decide) rfl rfl (Nat.le_of_ble_eq_true rfl) (b_X6_isAnyFree F d hd2 _ w a1 a2 x hf ⟨rfl, rfl⟩)
def f_X6_fitsGuest (F : Nat) (w : pm_W) (a1 : Int32) : Option (Int32) := ((f_X6_figureTold F w a1).bind fun r1 => (if ((a1 - 5) - (a1 - 5) / 6 * 6) = 0 then ((f_X6_isLetter F w a1 71).bind fun r4 => (if r4 = 0 then some 0 else (if 5 ≤ ((a1 - 5) / 6) then some 0 else ((f_X6_lengthTold F w).bind fun r8 => (if pm_isb (if r8 ≤ ((a1 - 5) / 6) then 0 else 1 : Int32) = true then some (if r8 ≤ ((a1 - 5) / 6) then 0 else 1 : Int32) else none))))) else (if ((a1 - 5) - (a1 - 5) / 6 * 6) = 1 then (if r1 < 0 then some 0 else ((f_X6_isAnyFree F w ((a1 - 5) / 6) (10 * r1)).bind fun r14 => (if pm_isb (if r14 = 0 then 0 else 1 : Int32) = true then some (if r14 = 0 then 0 else 1 : Int32) else none))) else (if ((a1 - 5) - (a1 - 5) / 6 * 6) = 2 then (if r1 < 0 then some 0 else ((f_X6_leafTold F w ((a1 - 5) / 6)).bind fun r20 => ((f_X6_isFree F w ((a1 - 5) / 6) r20).bind fun r22 => (if pm_isb (if r22 = 0 then 0 else 1 : Int32) = true then some (if r22 = 0 then 0 else 1 : Int32) else none)))) else (if ((a1 - 5) - (a1 - 5) / 6 * 6) = 3 then (if pm_isb (if r1 < 0 then 0 else (if 3 < r1 then 0 else 1 : Int32) : Int32) = true then some (if r1 < 0 then 0 else (if 3 < r1 then 0 else 1 : Int32) : Int32) else none) else (if ((a1 - 5) - (a1 - 5) / 6 * 6) = 4 then (if pm_isb (if r1 < 0 then 0 else 1 : Int32) = true then some (if r1 < 0 then 0 else 1 : Int32) else none) else (if pm_isb (if r1 < 0 then 0 else (if 3 < r1 then 0 else 1 : Int32) : Int32) = true then some (if r1 < 0 then 0 else (if 3 < r1 then 0 else 1 : Int32) : Int32) else none)))))))
set_option maxRecDepth 20000 in
set_option maxHeartbeats 4000000 in
theorem b_X6_fitsGuest (F : Nat) (d : Nat) (hd : 4 ≤ d) (Q : pm_Q) (w : pm_W) (a1 : Int32) (x : Int32) (hf : f_X6_fitsGuest F w a1 = some x) (hq : Q (some (.inl x)) w) : pm_Gx (RT d) co_X6_fitsGuest 0 [some (.inr (.inr (1, 0))), some (.inl a1), none, none] [] w Q := by
  unfold f_X6_fitsGuest at hf
  refine pm_go (i2 := 8) (ls2 := [some (.inr (.inr (1, 0))), some (.inl a1), some (.inl ((a1 - 5) / 6)), none]) (st2 := [.inl a1, .inr (.inr (1, 0))]) (w2 := w) 8 (fun F h => ⟨(by decide), h⟩) ?_
  obtain ⟨r1, hr2, hf⟩ := Option.bind_eq_some_iff.mp hf
  refine pm_ca (y := 50) (as := [.inr (.inr (1, 0)), .inl a1]) (r := some (.inl r1)) (w2 := w) (w1 := w) (t := []) (i2 := 9) (ls2 := [some (.inr (.inr (1, 0))), some (.inl a1), some (.inl ((a1 - 5) / 6)), none]) 1 (a_X6_figureTold F w a1 r1 d (by omega) hr2) (fun F h => h) ?_
  show pm_Gx (RT d) co_X6_fitsGuest 9 [some (.inr (.inr (1, 0))), some (.inl a1), some (.inl ((a1 - 5) / 6)), none] [.inl r1] w Q
  refine pm_go (i2 := 15) (ls2 := [some (.inr (.inr (1, 0))), some (.inl a1), some (.inl ((a1 - 5) / 6)), some (.inl r1)]) (st2 := [.inl ((a1 - 5) - (a1 - 5) / 6 * 6)]) (w2 := w) 6 (fun F h => ⟨(by decide), h⟩) ?_
  refine pm_swx (x := ((a1 - 5) - (a1 - 5) / 6 * 6)) (d := 64) (cs := [(0, 16), (1, 32), (2, 45), (3, 64), (4, 58)]) (ls2 := [some (.inr (.inr (1, 0))), some (.inl a1), some (.inl ((a1 - 5) / 6)), some (.inl r1)]) (st2 := []) (w2 := w) 1 (fun F h => h) ?_
  refine pm_swc (fun hw3 => ?_) (fun hw3 => ?_)
  · rw [if_pos hw3] at hf
    refine pm_go (i2 := 19) (ls2 := [some (.inr (.inr (1, 0))), some (.inl a1), some (.inl ((a1 - 5) / 6)), some (.inl r1)]) (st2 := [.inl 71, .inl a1, .inr (.inr (1, 0))]) (w2 := w) 3 (fun F h => h) ?_
    obtain ⟨r4, hr5, hf⟩ := Option.bind_eq_some_iff.mp hf
    refine pm_ca (y := 51) (as := [.inr (.inr (1, 0)), .inl a1, .inl 71]) (r := some (.inl r4)) (w2 := w) (w1 := w) (t := []) (i2 := 20) (ls2 := [some (.inr (.inr (1, 0))), some (.inl a1), some (.inl ((a1 - 5) / 6)), some (.inl r1)]) 1 (a_X6_isLetter F w a1 71 r4 d (by omega) hr5) (fun F h => h) ?_
    show pm_Gx (RT d) co_X6_fitsGuest 20 [some (.inr (.inr (1, 0))), some (.inl a1), some (.inl ((a1 - 5) / 6)), some (.inl r1)] [.inl r4] w Q
    refine pm_if (P := r4 = 0) (i2 := 30) (i3 := 21) (ls2 := [some (.inr (.inr (1, 0))), some (.inl a1), some (.inl ((a1 - 5) / 6)), some (.inl r1)]) (st2 := []) (w2 := w) 1 (fun F h => h) (fun hc6 => ?_) (fun hc6 => ?_)
    · rw [if_pos hc6] at hf
      refine pm_go (i2 := 31) (ls2 := [some (.inr (.inr (1, 0))), some (.inl a1), some (.inl ((a1 - 5) / 6)), some (.inl r1)]) (st2 := [.inl 0]) (w2 := w) 1 (fun F h => h) ?_
      obtain rfl := Option.some.inj hf
      exact pm_re (r := some (.inl 0)) (w2 := w) 1 (fun F h => ⟨rfl, h⟩) hq
    · rw [if_neg hc6] at hf
      refine pm_go (i2 := 23) (ls2 := [some (.inr (.inr (1, 0))), some (.inl a1), some (.inl ((a1 - 5) / 6)), some (.inl r1)]) (st2 := [.inl 5, .inl ((a1 - 5) / 6)]) (w2 := w) 2 (fun F h => h) ?_
      refine pm_if (P := 5 ≤ ((a1 - 5) / 6)) (i2 := 30) (i3 := 24) (ls2 := [some (.inr (.inr (1, 0))), some (.inl a1), some (.inl ((a1 - 5) / 6)), some (.inl r1)]) (st2 := []) (w2 := w) 1 (fun F h => h) (fun hc7 => ?_) (fun hc7 => ?_)
      · rw [if_pos hc7] at hf
        refine pm_go (i2 := 31) (ls2 := [some (.inr (.inr (1, 0))), some (.inl a1), some (.inl ((a1 - 5) / 6)), some (.inl r1)]) (st2 := [.inl 0]) (w2 := w) 1 (fun F h => h) ?_
        obtain rfl := Option.some.inj hf
        exact pm_re (r := some (.inl 0)) (w2 := w) 1 (fun F h => ⟨rfl, h⟩) hq
      · rw [if_neg hc7] at hf
        refine pm_go (i2 := 26) (ls2 := [some (.inr (.inr (1, 0))), some (.inl a1), some (.inl ((a1 - 5) / 6)), some (.inl r1)]) (st2 := [.inr (.inr (1, 0)), .inl ((a1 - 5) / 6)]) (w2 := w) 2 (fun F h => h) ?_
        obtain ⟨r8, hr9, hf⟩ := Option.bind_eq_some_iff.mp hf
        refine pm_ca (y := 47) (as := [.inr (.inr (1, 0))]) (r := some (.inl r8)) (w2 := w) (w1 := w) (t := [.inl ((a1 - 5) / 6)]) (i2 := 27) (ls2 := [some (.inr (.inr (1, 0))), some (.inl a1), some (.inl ((a1 - 5) / 6)), some (.inl r1)]) 1 (a_X6_lengthTold F w r8 d (by omega) hr9) (fun F h => h) ?_
        show pm_Gx (RT d) co_X6_fitsGuest 27 [some (.inr (.inr (1, 0))), some (.inl a1), some (.inl ((a1 - 5) / 6)), some (.inl r1)] [.inl r8, .inl ((a1 - 5) / 6)] w Q
        have key : pm_Gx (RT d) co_X6_fitsGuest 31 [some (.inr (.inr (1, 0))), some (.inl a1), some (.inl ((a1 - 5) / 6)), some (.inl r1)] [.inl (if r8 ≤ ((a1 - 5) / 6) then 0 else 1 : Int32)] w Q := by
          obtain ⟨hz10, hf⟩ := pm_itn hf
          obtain rfl := Option.some.inj hf
          exact pm_re (r := some (.inl (if r8 ≤ ((a1 - 5) / 6) then 0 else 1 : Int32))) (w2 := w) 1 (fun F h => ⟨pm_isb_nar hz10, h⟩) hq
        clear hf
        refine pm_if (P := r8 ≤ ((a1 - 5) / 6)) (i2 := 30) (i3 := 28) (ls2 := [some (.inr (.inr (1, 0))), some (.inl a1), some (.inl ((a1 - 5) / 6)), some (.inl r1)]) (st2 := []) (w2 := w) 1 (fun F h => h) (fun hc11 => ?_) (fun hc11 => ?_)
        · try simp only [if_pos hc11] at key
          refine pm_go (i2 := 31) (ls2 := [some (.inr (.inr (1, 0))), some (.inl a1), some (.inl ((a1 - 5) / 6)), some (.inl r1)]) (st2 := [.inl 0]) (w2 := w) 1 (fun F h => h) ?_
          exact key
        · try simp only [if_neg hc11] at key
          refine pm_go (i2 := 31) (ls2 := [some (.inr (.inr (1, 0))), some (.inl a1), some (.inl ((a1 - 5) / 6)), some (.inl r1)]) (st2 := [.inl 1]) (w2 := w) 2 (fun F h => h) ?_
          exact key
  rw [if_neg hw3] at hf
  refine pm_swc (fun hw12 => ?_) (fun hw12 => ?_)
  · rw [if_pos hw12] at hf
    refine pm_go (i2 := 33) (ls2 := [some (.inr (.inr (1, 0))), some (.inl a1), some (.inl ((a1 - 5) / 6)), some (.inl r1)]) (st2 := [.inl r1]) (w2 := w) 1 (fun F h => h) ?_
    refine pm_if (P := r1 < 0) (i2 := 43) (i3 := 34) (ls2 := [some (.inr (.inr (1, 0))), some (.inl a1), some (.inl ((a1 - 5) / 6)), some (.inl r1)]) (st2 := []) (w2 := w) 1 (fun F h => h) (fun hc13 => ?_) (fun hc13 => ?_)
    · rw [if_pos hc13] at hf
      refine pm_go (i2 := 44) (ls2 := [some (.inr (.inr (1, 0))), some (.inl a1), some (.inl ((a1 - 5) / 6)), some (.inl r1)]) (st2 := [.inl 0]) (w2 := w) 1 (fun F h => h) ?_
      obtain rfl := Option.some.inj hf
      exact pm_re (r := some (.inl 0)) (w2 := w) 1 (fun F h => ⟨rfl, h⟩) hq
    · rw [if_neg hc13] at hf
      refine pm_go (i2 := 39) (ls2 := [some (.inr (.inr (1, 0))), some (.inl a1), some (.inl ((a1 - 5) / 6)), some (.inl r1)]) (st2 := [.inl (10 * r1), .inl ((a1 - 5) / 6), .inr (.inr (1, 0))]) (w2 := w) 5 (fun F h => h) ?_
      obtain ⟨r14, hr15, hf⟩ := Option.bind_eq_some_iff.mp hf
      refine pm_ca (y := 54) (as := [.inr (.inr (1, 0)), .inl ((a1 - 5) / 6), .inl (10 * r1)]) (r := some (.inl r14)) (w2 := w) (w1 := w) (t := []) (i2 := 40) (ls2 := [some (.inr (.inr (1, 0))), some (.inl a1), some (.inl ((a1 - 5) / 6)), some (.inl r1)]) 1 (a_X6_isAnyFree F w ((a1 - 5) / 6) (10 * r1) r14 d (by omega) hr15) (fun F h => h) ?_
      show pm_Gx (RT d) co_X6_fitsGuest 40 [some (.inr (.inr (1, 0))), some (.inl a1), some (.inl ((a1 - 5) / 6)), some (.inl r1)] [.inl r14] w Q
      have key : pm_Gx (RT d) co_X6_fitsGuest 44 [some (.inr (.inr (1, 0))), some (.inl a1), some (.inl ((a1 - 5) / 6)), some (.inl r1)] [.inl (if r14 = 0 then 0 else 1 : Int32)] w Q := by
        obtain ⟨hz16, hf⟩ := pm_itn hf
        obtain rfl := Option.some.inj hf
        exact pm_re (r := some (.inl (if r14 = 0 then 0 else 1 : Int32))) (w2 := w) 1 (fun F h => ⟨pm_isb_nar hz16, h⟩) hq
      clear hf
      refine pm_if (P := r14 = 0) (i2 := 43) (i3 := 41) (ls2 := [some (.inr (.inr (1, 0))), some (.inl a1), some (.inl ((a1 - 5) / 6)), some (.inl r1)]) (st2 := []) (w2 := w) 1 (fun F h => h) (fun hc17 => ?_) (fun hc17 => ?_)
      · try simp only [if_pos hc17] at key
        refine pm_go (i2 := 44) (ls2 := [some (.inr (.inr (1, 0))), some (.inl a1), some (.inl ((a1 - 5) / 6)), some (.inl r1)]) (st2 := [.inl 0]) (w2 := w) 1 (fun F h => h) ?_
        exact key
      · try simp only [if_neg hc17] at key
        refine pm_go (i2 := 44) (ls2 := [some (.inr (.inr (1, 0))), some (.inl a1), some (.inl ((a1 - 5) / 6)), some (.inl r1)]) (st2 := [.inl 1]) (w2 := w) 2 (fun F h => h) ?_
        exact key
  rw [if_neg hw12] at hf
  refine pm_swc (fun hw18 => ?_) (fun hw18 => ?_)
  · rw [if_pos hw18] at hf
    refine pm_go (i2 := 46) (ls2 := [some (.inr (.inr (1, 0))), some (.inl a1), some (.inl ((a1 - 5) / 6)), some (.inl r1)]) (st2 := [.inl r1]) (w2 := w) 1 (fun F h => h) ?_
    refine pm_if (P := r1 < 0) (i2 := 56) (i3 := 47) (ls2 := [some (.inr (.inr (1, 0))), some (.inl a1), some (.inl ((a1 - 5) / 6)), some (.inl r1)]) (st2 := []) (w2 := w) 1 (fun F h => h) (fun hc19 => ?_) (fun hc19 => ?_)
    · rw [if_pos hc19] at hf
      refine pm_go (i2 := 57) (ls2 := [some (.inr (.inr (1, 0))), some (.inl a1), some (.inl ((a1 - 5) / 6)), some (.inl r1)]) (st2 := [.inl 0]) (w2 := w) 1 (fun F h => h) ?_
      obtain rfl := Option.some.inj hf
      exact pm_re (r := some (.inl 0)) (w2 := w) 1 (fun F h => ⟨rfl, h⟩) hq
    · rw [if_neg hc19] at hf
      refine pm_go (i2 := 51) (ls2 := [some (.inr (.inr (1, 0))), some (.inl a1), some (.inl ((a1 - 5) / 6)), some (.inl r1)]) (st2 := [.inl ((a1 - 5) / 6), .inr (.inr (1, 0)), .inl ((a1 - 5) / 6), .inr (.inr (1, 0))]) (w2 := w) 4 (fun F h => h) ?_
      obtain ⟨r20, hr21, hf⟩ := Option.bind_eq_some_iff.mp hf
      refine pm_ca (y := 48) (as := [.inr (.inr (1, 0)), .inl ((a1 - 5) / 6)]) (r := some (.inl r20)) (w2 := w) (w1 := w) (t := [.inl ((a1 - 5) / 6), .inr (.inr (1, 0))]) (i2 := 52) (ls2 := [some (.inr (.inr (1, 0))), some (.inl a1), some (.inl ((a1 - 5) / 6)), some (.inl r1)]) 1 (a_X6_leafTold F w ((a1 - 5) / 6) r20 d (by omega) hr21) (fun F h => h) ?_
      show pm_Gx (RT d) co_X6_fitsGuest 52 [some (.inr (.inr (1, 0))), some (.inl a1), some (.inl ((a1 - 5) / 6)), some (.inl r1)] [.inl r20, .inl ((a1 - 5) / 6), .inr (.inr (1, 0))] w Q
      obtain ⟨r22, hr23, hf⟩ := Option.bind_eq_some_iff.mp hf
      refine pm_ca (y := 55) (as := [.inr (.inr (1, 0)), .inl ((a1 - 5) / 6), .inl r20]) (r := some (.inl r22)) (w2 := w) (w1 := w) (t := []) (i2 := 53) (ls2 := [some (.inr (.inr (1, 0))), some (.inl a1), some (.inl ((a1 - 5) / 6)), some (.inl r1)]) 1 (a_X6_isFree F w ((a1 - 5) / 6) r20 r22 d (by omega) hr23) (fun F h => h) ?_
      show pm_Gx (RT d) co_X6_fitsGuest 53 [some (.inr (.inr (1, 0))), some (.inl a1), some (.inl ((a1 - 5) / 6)), some (.inl r1)] [.inl r22] w Q
      have key : pm_Gx (RT d) co_X6_fitsGuest 57 [some (.inr (.inr (1, 0))), some (.inl a1), some (.inl ((a1 - 5) / 6)), some (.inl r1)] [.inl (if r22 = 0 then 0 else 1 : Int32)] w Q := by
        obtain ⟨hz24, hf⟩ := pm_itn hf
        obtain rfl := Option.some.inj hf
        exact pm_re (r := some (.inl (if r22 = 0 then 0 else 1 : Int32))) (w2 := w) 1 (fun F h => ⟨pm_isb_nar hz24, h⟩) hq
      clear hf
      refine pm_if (P := r22 = 0) (i2 := 56) (i3 := 54) (ls2 := [some (.inr (.inr (1, 0))), some (.inl a1), some (.inl ((a1 - 5) / 6)), some (.inl r1)]) (st2 := []) (w2 := w) 1 (fun F h => h) (fun hc25 => ?_) (fun hc25 => ?_)
      · try simp only [if_pos hc25] at key
        refine pm_go (i2 := 57) (ls2 := [some (.inr (.inr (1, 0))), some (.inl a1), some (.inl ((a1 - 5) / 6)), some (.inl r1)]) (st2 := [.inl 0]) (w2 := w) 1 (fun F h => h) ?_
        exact key
      · try simp only [if_neg hc25] at key
        refine pm_go (i2 := 57) (ls2 := [some (.inr (.inr (1, 0))), some (.inl a1), some (.inl ((a1 - 5) / 6)), some (.inl r1)]) (st2 := [.inl 1]) (w2 := w) 2 (fun F h => h) ?_
        exact key
  rw [if_neg hw18] at hf
  refine pm_swc (fun hw26 => ?_) (fun hw26 => ?_)
  · rw [if_pos hw26] at hf
    refine pm_go (i2 := 65) (ls2 := [some (.inr (.inr (1, 0))), some (.inl a1), some (.inl ((a1 - 5) / 6)), some (.inl r1)]) (st2 := [.inl r1]) (w2 := w) 1 (fun F h => h) ?_
    have key : pm_Gx (RT d) co_X6_fitsGuest 72 [some (.inr (.inr (1, 0))), some (.inl a1), some (.inl ((a1 - 5) / 6)), some (.inl r1)] [.inl (if r1 < 0 then 0 else (if 3 < r1 then 0 else 1 : Int32) : Int32)] w Q := by
      obtain ⟨hz27, hf⟩ := pm_itn hf
      obtain rfl := Option.some.inj hf
      exact pm_re (r := some (.inl (if r1 < 0 then 0 else (if 3 < r1 then 0 else 1 : Int32) : Int32))) (w2 := w) 1 (fun F h => ⟨pm_isb_nar hz27, h⟩) hq
    clear hf
    refine pm_if (P := r1 < 0) (i2 := 71) (i3 := 66) (ls2 := [some (.inr (.inr (1, 0))), some (.inl a1), some (.inl ((a1 - 5) / 6)), some (.inl r1)]) (st2 := []) (w2 := w) 1 (fun F h => h) (fun hc28 => ?_) (fun hc28 => ?_)
    · try simp only [if_pos hc28] at key
      refine pm_go (i2 := 72) (ls2 := [some (.inr (.inr (1, 0))), some (.inl a1), some (.inl ((a1 - 5) / 6)), some (.inl r1)]) (st2 := [.inl 0]) (w2 := w) 1 (fun F h => h) ?_
      exact key
    · try simp only [if_neg hc28] at key
      refine pm_go (i2 := 68) (ls2 := [some (.inr (.inr (1, 0))), some (.inl a1), some (.inl ((a1 - 5) / 6)), some (.inl r1)]) (st2 := [.inl 3, .inl r1]) (w2 := w) 2 (fun F h => h) ?_
      refine pm_if (P := 3 < r1) (i2 := 71) (i3 := 69) (ls2 := [some (.inr (.inr (1, 0))), some (.inl a1), some (.inl ((a1 - 5) / 6)), some (.inl r1)]) (st2 := []) (w2 := w) 1 (fun F h => h) (fun hc29 => ?_) (fun hc29 => ?_)
      · try simp only [if_pos hc29] at key
        refine pm_go (i2 := 72) (ls2 := [some (.inr (.inr (1, 0))), some (.inl a1), some (.inl ((a1 - 5) / 6)), some (.inl r1)]) (st2 := [.inl 0]) (w2 := w) 1 (fun F h => h) ?_
        exact key
      · try simp only [if_neg hc29] at key
        refine pm_go (i2 := 72) (ls2 := [some (.inr (.inr (1, 0))), some (.inl a1), some (.inl ((a1 - 5) / 6)), some (.inl r1)]) (st2 := [.inl 1]) (w2 := w) 2 (fun F h => h) ?_
        exact key
  rw [if_neg hw26] at hf
  refine pm_swc (fun hw30 => ?_) (fun hw30 => ?_)
  · rw [if_pos hw30] at hf
    refine pm_go (i2 := 59) (ls2 := [some (.inr (.inr (1, 0))), some (.inl a1), some (.inl ((a1 - 5) / 6)), some (.inl r1)]) (st2 := [.inl r1]) (w2 := w) 1 (fun F h => h) ?_
    have key : pm_Gx (RT d) co_X6_fitsGuest 63 [some (.inr (.inr (1, 0))), some (.inl a1), some (.inl ((a1 - 5) / 6)), some (.inl r1)] [.inl (if r1 < 0 then 0 else 1 : Int32)] w Q := by
      obtain ⟨hz31, hf⟩ := pm_itn hf
      obtain rfl := Option.some.inj hf
      exact pm_re (r := some (.inl (if r1 < 0 then 0 else 1 : Int32))) (w2 := w) 1 (fun F h => ⟨pm_isb_nar hz31, h⟩) hq
    clear hf
    refine pm_if (P := r1 < 0) (i2 := 62) (i3 := 60) (ls2 := [some (.inr (.inr (1, 0))), some (.inl a1), some (.inl ((a1 - 5) / 6)), some (.inl r1)]) (st2 := []) (w2 := w) 1 (fun F h => h) (fun hc32 => ?_) (fun hc32 => ?_)
    · try simp only [if_pos hc32] at key
      refine pm_go (i2 := 63) (ls2 := [some (.inr (.inr (1, 0))), some (.inl a1), some (.inl ((a1 - 5) / 6)), some (.inl r1)]) (st2 := [.inl 0]) (w2 := w) 1 (fun F h => h) ?_
      exact key
    · try simp only [if_neg hc32] at key
      refine pm_go (i2 := 63) (ls2 := [some (.inr (.inr (1, 0))), some (.inl a1), some (.inl ((a1 - 5) / 6)), some (.inl r1)]) (st2 := [.inl 1]) (w2 := w) 2 (fun F h => h) ?_
      exact key
  rw [if_neg hw30] at hf
  refine pm_swd ?_
  refine pm_go (i2 := 65) (ls2 := [some (.inr (.inr (1, 0))), some (.inl a1), some (.inl ((a1 - 5) / 6)), some (.inl r1)]) (st2 := [.inl r1]) (w2 := w) 1 (fun F h => h) ?_
  have key : pm_Gx (RT d) co_X6_fitsGuest 72 [some (.inr (.inr (1, 0))), some (.inl a1), some (.inl ((a1 - 5) / 6)), some (.inl r1)] [.inl (if r1 < 0 then 0 else (if 3 < r1 then 0 else 1 : Int32) : Int32)] w Q := by
    obtain ⟨hz33, hf⟩ := pm_itn hf
    obtain rfl := Option.some.inj hf
    exact pm_re (r := some (.inl (if r1 < 0 then 0 else (if 3 < r1 then 0 else 1 : Int32) : Int32))) (w2 := w) 1 (fun F h => ⟨pm_isb_nar hz33, h⟩) hq
  clear hf
  refine pm_if (P := r1 < 0) (i2 := 71) (i3 := 66) (ls2 := [some (.inr (.inr (1, 0))), some (.inl a1), some (.inl ((a1 - 5) / 6)), some (.inl r1)]) (st2 := []) (w2 := w) 1 (fun F h => h) (fun hc34 => ?_) (fun hc34 => ?_)
  · try simp only [if_pos hc34] at key
    refine pm_go (i2 := 72) (ls2 := [some (.inr (.inr (1, 0))), some (.inl a1), some (.inl ((a1 - 5) / 6)), some (.inl r1)]) (st2 := [.inl 0]) (w2 := w) 1 (fun F h => h) ?_
    exact key
  · try simp only [if_neg hc34] at key
    refine pm_go (i2 := 68) (ls2 := [some (.inr (.inr (1, 0))), some (.inl a1), some (.inl ((a1 - 5) / 6)), some (.inl r1)]) (st2 := [.inl 3, .inl r1]) (w2 := w) 2 (fun F h => h) ?_
    refine pm_if (P := 3 < r1) (i2 := 71) (i3 := 69) (ls2 := [some (.inr (.inr (1, 0))), some (.inl a1), some (.inl ((a1 - 5) / 6)), some (.inl r1)]) (st2 := []) (w2 := w) 1 (fun F h => h) (fun hc35 => ?_) (fun hc35 => ?_)
    · try simp only [if_pos hc35] at key
      refine pm_go (i2 := 72) (ls2 := [some (.inr (.inr (1, 0))), some (.inl a1), some (.inl ((a1 - 5) / 6)), some (.inl r1)]) (st2 := [.inl 0]) (w2 := w) 1 (fun F h => h) ?_
      exact key
    · try simp only [if_neg hc35] at key
      refine pm_go (i2 := 72) (ls2 := [some (.inr (.inr (1, 0))), some (.inl a1), some (.inl ((a1 - 5) / 6)), some (.inl r1)]) (st2 := [.inl 1]) (w2 := w) 2 (fun F h => h) ?_
      exact key
set_option maxRecDepth 20000 in
set_option maxHeartbeats 4000000 in
theorem a_X6_fitsGuest (F : Nat) (w : pm_W) (a1 : Int32) (x : Int32) (d : Nat) (hd : 5 ≤ d) (hf : f_X6_fitsGuest F w a1 = some x) : RT d 53 [.inr (.inr (1, 0)), .inl a1] w (some (.inl x)) w := by
  obtain ⟨d, rfl, hd2⟩ := pm_dep hd
  exact pm_start (co := co_X6_fitsGuest) (nL := 4) (by decide) rfl rfl (Nat.le_of_ble_eq_true rfl) (b_X6_fitsGuest F d hd2 _ w a1 x hf ⟨rfl, rfl⟩)
def f_X6_firstFault_L2 (F : Nat) (w : pm_W) : Nat → Int32 → Option ((Int32) ⊕ Int32)
  | 0, _ => none
  | n + 1, v1 => (if (w.1 1 0 1) ≤ v1 then some (.inl v1) else (if 5 ≤ v1 then ((f_X6_fitsGuest F w v1).bind fun r3 => (if r3 = 0 then some (.inr v1) else f_X6_firstFault_L2 F w n (v1 + 1))) else ((f_X6_fitsHead F w v1).bind fun r6 => (if r6 = 0 then some (.inr v1) else f_X6_firstFault_L2 F w n (v1 + 1)))))
def f_X6_firstFault (F : Nat) (w : pm_W) : Option (Int32) := ((f_X6_firstFault_L2 F w F 0).bind fun x9 => Sum.elim (fun ex9 => (if (w.1 1 0 1) < 5 then some (w.1 1 0 1) else some (if (if (((w.1 1 0 1) - 5) - ((w.1 1 0 1) - 5) / 6 * 6) = 0 then 1 else 0 : Int32) = 0 then w.1 1 0 1 else (-9) : Int32))) (fun rx9 => some rx9) x9)
set_option maxRecDepth 20000 in
set_option maxHeartbeats 4000000 in
theorem a_X6_firstFault_L2 (F : Nat) (d : Nat) (hd : 5 ≤ d) (Q : pm_Q) (w : pm_W) : ∀ (n : Nat) (v1 : Int32) (x : (Int32) ⊕ Int32), f_X6_firstFault_L2 F w n v1 = some x → (∀ e, x = .inl e → pm_Gx (RT d) co_X6_firstFault 22 [some (.inr (.inr (1, 0))), some (.inl e)] [] w Q) → (∀ r, x = .inr r → Q (some (.inl r)) w) → pm_Gx (RT d) co_X6_firstFault 2 [some (.inr (.inr (1, 0))), some (.inl v1)] [] w Q := by
  intro n
  induction n with
  | zero =>
    intro v1 x hf
    cases hf
  | succ n ih =>
    intro v1 x hf hk hq
    rw [f_X6_firstFault_L2] at hf
    refine pm_go (i2 := 5) (ls2 := [some (.inr (.inr (1, 0))), some (.inl v1)]) (st2 := [.inl (w.1 1 0 1), .inl v1]) (w2 := w) 3 (fun F h => h) ?_
    refine pm_if (P := (w.1 1 0 1) ≤ v1) (i2 := 22) (i3 := 6) (ls2 := [some (.inr (.inr (1, 0))), some (.inl v1)]) (st2 := []) (w2 := w) 1 (fun F h => h) (fun hc1 => ?_) (fun hc1 => ?_)
    · rw [if_pos hc1] at hf
      obtain rfl := Option.some.inj hf
      exact hk _ rfl
    · rw [if_neg hc1] at hf
      refine pm_go (i2 := 8) (ls2 := [some (.inr (.inr (1, 0))), some (.inl v1)]) (st2 := [.inl 5, .inl v1]) (w2 := w) 2 (fun F h => h) ?_
      refine pm_if (P := 5 ≤ v1) (i2 := 14) (i3 := 9) (ls2 := [some (.inr (.inr (1, 0))), some (.inl v1)]) (st2 := []) (w2 := w) 1 (fun F h => h) (fun hc2 => ?_) (fun hc2 => ?_)
      · rw [if_pos hc2] at hf
        refine pm_go (i2 := 16) (ls2 := [some (.inr (.inr (1, 0))), some (.inl v1)]) (st2 := [.inl v1, .inr (.inr (1, 0))]) (w2 := w) 2 (fun F h => h) ?_
        obtain ⟨r3, hr4, hf⟩ := Option.bind_eq_some_iff.mp hf
        refine pm_ca (y := 53) (as := [.inr (.inr (1, 0)), .inl v1]) (r := some (.inl r3)) (w2 := w) (w1 := w) (t := []) (i2 := 17) (ls2 := [some (.inr (.inr (1, 0))), some (.inl v1)]) 1 (a_X6_fitsGuest F w v1 r3 d (by omega) hr4) (fun F h => h) ?_
        show pm_Gx (RT d) co_X6_firstFault 17 [some (.inr (.inr (1, 0))), some (.inl v1)] [.inl r3] w Q
        refine pm_if (P := r3 = 0) (i2 := 18) (i3 := 20) (ls2 := [some (.inr (.inr (1, 0))), some (.inl v1)]) (st2 := []) (w2 := w) 1 (fun F h => h) (fun hc5 => ?_) (fun hc5 => ?_)
        · rw [if_pos hc5] at hf
          refine pm_go (i2 := 19) (ls2 := [some (.inr (.inr (1, 0))), some (.inl v1)]) (st2 := [.inl v1]) (w2 := w) 1 (fun F h => h) ?_
          obtain rfl := Option.some.inj hf
          exact pm_re (r := some (.inl v1)) (w2 := w) 1 (fun F h => h) (hq _ rfl)
        · rw [if_neg hc5] at hf
          refine pm_go (i2 := 2) (ls2 := [some (.inr (.inr (1, 0))), some (.inl (v1 + 1))]) (st2 := []) (w2 := w) 2 (fun F h => h) ?_
          exact ih (v1 + 1) _ hf hk hq
      · rw [if_neg hc2] at hf
        refine pm_go (i2 := 11) (ls2 := [some (.inr (.inr (1, 0))), some (.inl v1)]) (st2 := [.inl v1, .inr (.inr (1, 0))]) (w2 := w) 2 (fun F h => h) ?_
        obtain ⟨r6, hr7, hf⟩ := Option.bind_eq_some_iff.mp hf
        refine pm_ca (y := 52) (as := [.inr (.inr (1, 0)), .inl v1]) (r := some (.inl r6)) (w2 := w) (w1 := w) (t := []) (i2 := 12) (ls2 := [some (.inr (.inr (1, 0))), some (.inl v1)]) 1 (a_X6_fitsHead F w v1 r6 d (by omega) hr7) (fun F h => h) ?_
        show pm_Gx (RT d) co_X6_firstFault 12 [some (.inr (.inr (1, 0))), some (.inl v1)] [.inl r6] w Q
        refine pm_if (P := r6 = 0) (i2 := 13) (i3 := 20) (ls2 := [some (.inr (.inr (1, 0))), some (.inl v1)]) (st2 := []) (w2 := w) 1 (fun F h => h) (fun hc8 => ?_) (fun hc8 => ?_)
        · rw [if_pos hc8] at hf
          refine pm_go (i2 := 19) (ls2 := [some (.inr (.inr (1, 0))), some (.inl v1)]) (st2 := [.inl v1]) (w2 := w) 2 (fun F h => h) ?_
          obtain rfl := Option.some.inj hf
          exact pm_re (r := some (.inl v1)) (w2 := w) 1 (fun F h => h) (hq _ rfl)
        · rw [if_neg hc8] at hf
          refine pm_go (i2 := 2) (ls2 := [some (.inr (.inr (1, 0))), some (.inl (v1 + 1))]) (st2 := []) (w2 := w) 2 (fun F h => h) ?_
          exact ih (v1 + 1) _ hf hk hq
set_option maxRecDepth 20000 in
set_option maxHeartbeats 4000000 in
theorem b_X6_firstFault (F : Nat) (d : Nat) (hd : 5 ≤ d) (Q : pm_Q) (w : pm_W) (x : Int32) (hf : f_X6_firstFault F w = some x) (hq : Q (some (.inl x)) w) : pm_Gx (RT d) co_X6_firstFault 0 [some (.inr (.inr (1, 0))), none] [] w Q := by
  unfold f_X6_firstFault at hf
  refine pm_go (i2 := 2) (ls2 := [some (.inr (.inr (1, 0))), some (.inl 0)]) (st2 := []) (w2 := w) 2 (fun F h => h) ?_
  obtain ⟨x9, hx10, hf⟩ := Option.bind_eq_some_iff.mp hf
  refine a_X6_firstFault_L2 F d hd Q w F 0 x9 hx10 (fun ex9 hx9 => ?_) (fun rx9 hx9 => ?_)
  · subst hx9
    change _ = _ at hf
    refine pm_go (i2 := 25) (ls2 := [some (.inr (.inr (1, 0))), some (.inl ex9)]) (st2 := [.inl 5, .inl (w.1 1 0 1)]) (w2 := w) 3 (fun F h => h) ?_
    refine pm_if (P := (w.1 1 0 1) < 5) (i2 := 35) (i3 := 26) (ls2 := [some (.inr (.inr (1, 0))), some (.inl ex9)]) (st2 := []) (w2 := w) 1 (fun F h => h) (fun hc11 => ?_) (fun hc11 => ?_)
    · rw [if_pos hc11] at hf
      refine pm_go (i2 := 38) (ls2 := [some (.inr (.inr (1, 0))), some (.inl 0)]) (st2 := [.inl 0]) (w2 := w) 3 (fun F h => h) ?_
      refine pm_ift (P := (0 : Int32) = 0) (i2 := 41) (i3 := 39) (ls2 := [some (.inr (.inr (1, 0))), some (.inl 0)]) (st2 := []) (w2 := w) 1 (fun F h => h) (by decide) ?_
      refine pm_go (i2 := 43) (ls2 := [some (.inr (.inr (1, 0))), some (.inl 0)]) (st2 := [.inl (w.1 1 0 1)]) (w2 := w) 2 (fun F h => h) ?_
      obtain rfl := Option.some.inj hf
      exact pm_re (r := some (.inl (w.1 1 0 1))) (w2 := w) 1 (fun F h => h) hq
    · rw [if_neg hc11] at hf
      refine pm_go (i2 := 32) (ls2 := [some (.inr (.inr (1, 0))), some (.inl ex9)]) (st2 := [.inl (((w.1 1 0 1) - 5) - ((w.1 1 0 1) - 5) / 6 * 6)]) (w2 := w) 6 (fun F h => ⟨(by decide), h⟩) ?_
      have key : pm_Gx (RT d) co_X6_firstFault 36 [some (.inr (.inr (1, 0))), some (.inl ex9)] [.inl (if (((w.1 1 0 1) - 5) - ((w.1 1 0 1) - 5) / 6 * 6) = 0 then 1 else 0 : Int32)] w Q := by
        refine pm_go (i2 := 38) (ls2 := [some (.inr (.inr (1, 0))), some (.inl (if (((w.1 1 0 1) - 5) - ((w.1 1 0 1) - 5) / 6 * 6) = 0 then 1 else 0 : Int32))]) (st2 := [.inl (if (((w.1 1 0 1) - 5) - ((w.1 1 0 1) - 5) / 6 * 6) = 0 then 1 else 0 : Int32)]) (w2 := w) 2 (fun F h => h) ?_
        have key : pm_Gx (RT d) co_X6_firstFault 43 [some (.inr (.inr (1, 0))), some (.inl (if (((w.1 1 0 1) - 5) - ((w.1 1 0 1) - 5) / 6 * 6) = 0 then 1 else 0 : Int32))] [.inl (if (if (((w.1 1 0 1) - 5) - ((w.1 1 0 1) - 5) / 6 * 6) = 0 then 1 else 0 : Int32) = 0 then w.1 1 0 1 else (-9) : Int32)] w Q := by
          obtain rfl := Option.some.inj hf
          exact pm_re (r := some (.inl (if (if (((w.1 1 0 1) - 5) - ((w.1 1 0 1) - 5) / 6 * 6) = 0 then 1 else 0 : Int32) = 0 then w.1 1 0 1 else (-9) : Int32))) (w2 := w) 1 (fun F h => h) hq
        clear hf
        refine pm_if (P := (if (((w.1 1 0 1) - 5) - ((w.1 1 0 1) - 5) / 6 * 6) = 0 then 1 else 0 : Int32) = 0) (i2 := 41) (i3 := 39) (ls2 := [some (.inr (.inr (1, 0))), some (.inl (if (((w.1 1 0 1) - 5) - ((w.1 1 0 1) - 5) / 6 * 6) = 0 then 1 else 0 : Int32))]) (st2 := []) (w2 := w) 1 (fun F h => h) (fun hc12 => ?_) (fun hc12 => ?_)
        · try simp only [if_pos hc12] at key
          refine pm_go (i2 := 43) (ls2 := [some (.inr (.inr (1, 0))), some (.inl (if (((w.1 1 0 1) - 5) - ((w.1 1 0 1) - 5) / 6 * 6) = 0 then 1 else 0 : Int32))]) (st2 := [.inl (w.1 1 0 1)]) (w2 := w) 2 (fun F h => h) ?_
          exact key
        · try simp only [if_neg hc12] at key
          refine pm_go (i2 := 43) (ls2 := [some (.inr (.inr (1, 0))), some (.inl (if (((w.1 1 0 1) - 5) - ((w.1 1 0 1) - 5) / 6 * 6) = 0 then 1 else 0 : Int32))]) (st2 := [.inl (-9)]) (w2 := w) 2 (fun F h => h) ?_
          exact key
      clear hf
      refine pm_if (P := (((w.1 1 0 1) - 5) - ((w.1 1 0 1) - 5) / 6 * 6) = 0) (i2 := 33) (i3 := 35) (ls2 := [some (.inr (.inr (1, 0))), some (.inl ex9)]) (st2 := []) (w2 := w) 1 (fun F h => h) (fun hc13 => ?_) (fun hc13 => ?_)
      · try simp only [if_pos hc13] at key
        refine pm_go (i2 := 36) (ls2 := [some (.inr (.inr (1, 0))), some (.inl ex9)]) (st2 := [.inl 1]) (w2 := w) 2 (fun F h => h) ?_
        exact key
      · try simp only [if_neg hc13] at key
        refine pm_go (i2 := 36) (ls2 := [some (.inr (.inr (1, 0))), some (.inl ex9)]) (st2 := [.inl 0]) (w2 := w) 1 (fun F h => h) ?_
        exact key
  · subst hx9
    obtain rfl := Option.some.inj (show some rx9 = some x from hf)
    exact hq
set_option maxRecDepth 20000 in
set_option maxHeartbeats 4000000 in
theorem a_X6_firstFault (F : Nat) (w : pm_W) (x : Int32) (d : Nat) (hd : 6 ≤ d) (hf : f_X6_firstFault F w = some x) : RT d 45 [.inr (.inr (1, 0))] w (some (.inl x)) w := by
  obtain ⟨d, rfl, hd2⟩ := pm_dep hd
  exact pm_start (co := co_X6_firstFault) (nL := 2) (by decide) rfl rfl (Nat.le_of_ble_eq_true rfl) (b_X6_firstFault F d hd2 _ w x hf ⟨rfl, rfl⟩)
def f_X7_write (F : Nat) (w : pm_W) (a1 : Int32) : Option ((Int32 × pm_W)) := (if a1 < 0 then some ((-2), w) else (if a1 ≤ 255 then ((f_X6_append F w a1).bind fun r3 => some ((if r3.1 = 0 then (-4) else r3.2.1 1 0 1 : Int32), r3.2)) else some ((-2), w)))
set_option maxRecDepth 20000 in
set_option maxHeartbeats 4000000 in
theorem b_X7_write (F : Nat) (d : Nat) (hd : 1 ≤ d) (Q : pm_Q) (w : pm_W) (a1 : Int32) (x : (Int32 × pm_W)) (hf : f_X7_write F w a1 = some x) (hq : Q (some (.inl x.1)) x.2) : pm_Gx (RT d) co_X7_write 0 [some (.inr (.inr (0, 0))), some (.inl a1)] [] w Q := by
  unfold f_X7_write at hf
  refine pm_go (i2 := 1) (ls2 := [some (.inr (.inr (0, 0))), some (.inl a1)]) (st2 := [.inl a1]) (w2 := w) 1 (fun F h => h) ?_
  refine pm_if (P := a1 < 0) (i2 := 5) (i3 := 2) (ls2 := [some (.inr (.inr (0, 0))), some (.inl a1)]) (st2 := []) (w2 := w) 1 (fun F h => h) (fun hc1 => ?_) (fun hc1 => ?_)
  · rw [if_pos hc1] at hf
    refine pm_go (i2 := 6) (ls2 := [some (.inr (.inr (0, 0))), some (.inl a1)]) (st2 := [.inl (-2)]) (w2 := w) 1 (fun F h => h) ?_
    obtain rfl := Option.some.inj hf
    exact pm_re (r := some (.inl (-2))) (w2 := w) 1 (fun F h => h) hq
  · rw [if_neg hc1] at hf
    refine pm_go (i2 := 4) (ls2 := [some (.inr (.inr (0, 0))), some (.inl a1)]) (st2 := [.inl 255, .inl a1]) (w2 := w) 2 (fun F h => h) ?_
    refine pm_if (P := a1 ≤ 255) (i2 := 7) (i3 := 5) (ls2 := [some (.inr (.inr (0, 0))), some (.inl a1)]) (st2 := []) (w2 := w) 1 (fun F h => h) (fun hc2 => ?_) (fun hc2 => ?_)
    · rw [if_pos hc2] at hf
      refine pm_go (i2 := 10) (ls2 := [some (.inr (.inr (0, 0))), some (.inl a1)]) (st2 := [.inl a1, .inr (.inr (1, 0))]) (w2 := w) 3 (fun F h => h) ?_
      obtain ⟨r3, hr4, hf⟩ := Option.bind_eq_some_iff.mp hf
      refine pm_ca (y := 44) (as := [.inr (.inr (1, 0)), .inl a1]) (r := some (.inl r3.1)) (w2 := w) (w1 := r3.2) (t := []) (i2 := 11) (ls2 := [some (.inr (.inr (0, 0))), some (.inl a1)]) 1 (a_X6_append F w a1 r3 d (by omega) hr4) (fun F h => h) ?_
      show pm_Gx (RT d) co_X7_write 11 [some (.inr (.inr (0, 0))), some (.inl a1)] [.inl r3.1] r3.2 Q
      have key : pm_Gx (RT d) co_X7_write 17 [some (.inr (.inr (0, 0))), some (.inl a1)] [.inl (if r3.1 = 0 then (-4) else r3.2.1 1 0 1 : Int32)] r3.2 Q := by
        obtain rfl := Option.some.inj hf
        exact pm_re (r := some (.inl (if r3.1 = 0 then (-4) else r3.2.1 1 0 1 : Int32))) (w2 := r3.2) 1 (fun F h => h) hq
      clear hf
      refine pm_if (P := r3.1 = 0) (i2 := 16) (i3 := 12) (ls2 := [some (.inr (.inr (0, 0))), some (.inl a1)]) (st2 := []) (w2 := r3.2) 1 (fun F h => h) (fun hc5 => ?_) (fun hc5 => ?_)
      · try simp only [if_pos hc5] at key
        refine pm_go (i2 := 17) (ls2 := [some (.inr (.inr (0, 0))), some (.inl a1)]) (st2 := [.inl (-4)]) (w2 := r3.2) 1 (fun F h => h) ?_
        exact key
      · try simp only [if_neg hc5] at key
        refine pm_go (i2 := 17) (ls2 := [some (.inr (.inr (0, 0))), some (.inl a1)]) (st2 := [.inl (r3.2.1 1 0 1)]) (w2 := r3.2) 4 (fun F h => h) ?_
        exact key
    · rw [if_neg hc2] at hf
      refine pm_go (i2 := 6) (ls2 := [some (.inr (.inr (0, 0))), some (.inl a1)]) (st2 := [.inl (-2)]) (w2 := w) 1 (fun F h => h) ?_
      obtain rfl := Option.some.inj hf
      exact pm_re (r := some (.inl (-2))) (w2 := w) 1 (fun F h => h) hq
set_option maxRecDepth 20000 in
set_option maxHeartbeats 4000000 in
theorem a_X7_write (F : Nat) (w : pm_W) (a1 : Int32) (x : (Int32 × pm_W)) (d : Nat) (hd : 2 ≤ d) (hf : f_X7_write F w a1 = some x) : RT d 56 [.inr (.inr (0, 0)), .inl a1] w (some (.inl x.1)) x.2 := by
  obtain ⟨d, rfl, hd2⟩ := pm_dep hd
  exact pm_start (co := co_X7_write) (nL := 2) (by decide) rfl rfl (Nat.le_of_ble_eq_true rfl) (b_X7_write F d hd2 _ w a1 x hf ⟨rfl, rfl⟩)
def f_X7_wipe (F : Nat) (w : pm_W) : Option ((Int32 × pm_W)) := (pm_wlet (pm_setI w 1 0 1 0) fun w1 => some (w.1 1 0 1, w1))
set_option maxRecDepth 20000 in
set_option maxHeartbeats 4000000 in
theorem b_X7_wipe (F : Nat) (d : Nat) (hd : 0 ≤ d) (Q : pm_Q) (w : pm_W) (x : (Int32 × pm_W)) (hf : f_X7_wipe F w = some x) (hq : Q (some (.inl x.1)) x.2) : pm_Gx (RT d) co_X7_wipe 0 [some (.inr (.inr (0, 0))), none] [] w Q := by
  unfold f_X7_wipe at hf
  refine pm_go (i2 := 8) (ls2 := [some (.inr (.inr (0, 0))), some (.inl (w.1 1 0 1))]) (st2 := []) (w2 := (pm_setI w 1 0 1 0)) 8 (fun F h => h) ?_
  generalize (pm_setI w 1 0 1 0) = w1 at hf ⊢
  replace hf := pm_wlet_un hf
  refine pm_go (i2 := 9) (ls2 := [some (.inr (.inr (0, 0))), some (.inl (w.1 1 0 1))]) (st2 := [.inl (w.1 1 0 1)]) (w2 := w1) 1 (fun F h => h) ?_
  obtain rfl := Option.some.inj hf
  exact pm_re (r := some (.inl (w.1 1 0 1))) (w2 := w1) 1 (fun F h => h) hq
set_option maxRecDepth 20000 in
set_option maxHeartbeats 4000000 in
theorem a_X7_wipe (F : Nat) (w : pm_W) (x : (Int32 × pm_W)) (d : Nat) (hd : 1 ≤ d) (hf : f_X7_wipe F w = some x) : RT d 57 [.inr (.inr (0, 0))] w (some (.inl x.1)) x.2 := by
  obtain ⟨d, rfl, hd2⟩ := pm_dep hd
  exact pm_start (co := co_X7_wipe) (nL := 2) (by decide) rfl rfl (Nat.le_of_ble_eq_true rfl) (b_X7_wipe F d hd2 _ w x hf ⟨rfl, rfl⟩)
def f_X7_fault (F : Nat) (w : pm_W) : Option (Int32) := ((f_X6_firstFault F w).bind fun r1 => some r1)
set_option maxRecDepth 20000 in
set_option maxHeartbeats 4000000 in
theorem b_X7_fault (F : Nat) (d : Nat) (hd : 6 ≤ d) (Q : pm_Q) (w : pm_W) (x : Int32) (hf : f_X7_fault F w = some x) (hq : Q (some (.inl x)) w) : pm_Gx (RT d) co_X7_fault 0 [some (.inr (.inr (0, 0)))] [] w Q := by
  unfold f_X7_fault at hf
  refine pm_go (i2 := 2) (ls2 := [some (.inr (.inr (0, 0)))]) (st2 := [.inr (.inr (1, 0))]) (w2 := w) 2 (fun F h => h) ?_
  obtain ⟨r1, hr2, hf⟩ := Option.bind_eq_some_iff.mp hf
  refine pm_ca (y := 45) (as := [.inr (.inr (1, 0))]) (r := some (.inl r1)) (w2 := w) (w1 := w) (t := []) (i2 := 3) (ls2 := [some (.inr (.inr (0, 0)))]) 1 (a_X6_firstFault F w r1 d (by omega) hr2) (fun F h => h) ?_
  show pm_Gx (RT d) co_X7_fault 3 [some (.inr (.inr (0, 0)))] [.inl r1] w Q
  obtain rfl := Option.some.inj hf
  exact pm_re (r := some (.inl r1)) (w2 := w) 1 (fun F h => h) hq
set_option maxRecDepth 20000 in
set_option maxHeartbeats 4000000 in
theorem a_X7_fault (F : Nat) (w : pm_W) (x : Int32) (d : Nat) (hd : 7 ≤ d) (hf : f_X7_fault F w = some x) : RT d 58 [.inr (.inr (0, 0))] w (some (.inl x)) w := by
  obtain ⟨d, rfl, hd2⟩ := pm_dep hd
  exact pm_start (co := co_X7_fault) (nL := 1) (by decide) rfl rfl (Nat.le_of_ble_eq_true rfl) (b_X7_fault F d hd2 _ w x hf ⟨rfl, rfl⟩)
def f_X7_lay_L25 (F : Nat) : Nat → pm_W → Int32 → Option (Int32 × pm_W)
  | 0, _, _ => none
  | n + 1, w, v1 => (if 2 ≤ v1 then some (v1, w) else (if pm_inb v1 2 = true then (pm_wlet (pm_setI w 12 0 v1.toNatClampNeg (vp_nar .boolean 0)) fun w11 => f_X7_lay_L25 F n w11 (v1 + 1)) else none))
def f_X7_lay (F : Nat) (w : pm_W) : Option ((Int32 × pm_W)) := ((f_X6_firstFault F w).bind fun r1 => (if r1 = (-9) then ((f_X5_readFrom F w).bind fun r4 => ((f_X4_readFrom F r4 0).bind fun r6 => (pm_wlet (pm_setI r6 9 0 1 0) fun w8 => ((f_X7_lay_L25 F F w8 0).bind fun x12 => some (x12.2.1 3 0 3, x12.2))))) else some ((-3), w)))
set_option maxRecDepth 20000 in
set_option maxHeartbeats 4000000 in
theorem a_X7_lay_L25 (F : Nat) (d : Nat) (hd : 6 ≤ d) (Q : pm_Q) : ∀ (n : Nat) (w : pm_W) (v1 : Int32) (x : Int32 × pm_W), f_X7_lay_L25 F n w v1 = some x → pm_Gx (RT d) co_X7_lay 35 [some (.inr (.inr (0, 0))), some (.inl x.1)] [] x.2 Q → pm_Gx (RT d) co_X7_lay 25 [some (.inr (.inr (0, 0))), some (.inl v1)] [] w Q := by
  intro n
  induction n with
  | zero =>
    intro w v1 x hf
    cases hf
  | succ n ih =>
    intro w v1 x hf hk
    rw [f_X7_lay_L25] at hf
    refine pm_go (i2 := 27) (ls2 := [some (.inr (.inr (0, 0))), some (.inl v1)]) (st2 := [.inl 2, .inl v1]) (w2 := w) 2 (fun F h => h) ?_
    refine pm_if (P := 2 ≤ v1) (i2 := 35) (i3 := 28) (ls2 := [some (.inr (.inr (0, 0))), some (.inl v1)]) (st2 := []) (w2 := w) 1 (fun F h => h) (fun hc9 => ?_) (fun hc9 => ?_)
    · rw [if_pos hc9] at hf
      obtain rfl := Option.some.inj hf
      exact hk
    · rw [if_neg hc9] at hf
      obtain ⟨hs10, hf⟩ := pm_itn hf
      refine pm_go (i2 := 33) (ls2 := [some (.inr (.inr (0, 0))), some (.inl v1)]) (st2 := []) (w2 := (pm_setI w 12 0 v1.toNatClampNeg (vp_nar .boolean 0))) 5 (fun F h => ⟨(pm_inb_in hs10), h⟩) ?_
      generalize (pm_setI w 12 0 v1.toNatClampNeg (vp_nar .boolean 0)) = w11 at hf ⊢
      replace hf := pm_wlet_un hf
      refine pm_go (i2 := 25) (ls2 := [some (.inr (.inr (0, 0))), some (.inl (v1 + 1))]) (st2 := []) (w2 := w11) 2 (fun F h => h) ?_
      exact ih w11 (v1 + 1) _ hf hk
set_option maxRecDepth 20000 in
set_option maxHeartbeats 4000000 in
theorem b_X7_lay (F : Nat) (d : Nat) (hd : 6 ≤ d) (Q : pm_Q) (w : pm_W) (x : (Int32 × pm_W)) (hf : f_X7_lay F w = some x) (hq : Q (some (.inl x.1)) x.2) : pm_Gx (RT d) co_X7_lay 0 [some (.inr (.inr (0, 0))), none] [] w Q := by
  unfold f_X7_lay at hf
  refine pm_go (i2 := 2) (ls2 := [some (.inr (.inr (0, 0))), none]) (st2 := [.inr (.inr (1, 0))]) (w2 := w) 2 (fun F h => h) ?_
  obtain ⟨r1, hr2, hf⟩ := Option.bind_eq_some_iff.mp hf
  refine pm_ca (y := 45) (as := [.inr (.inr (1, 0))]) (r := some (.inl r1)) (w2 := w) (w1 := w) (t := []) (i2 := 3) (ls2 := [some (.inr (.inr (0, 0))), none]) 1 (a_X6_firstFault F w r1 d (by omega) hr2) (fun F h => h) ?_
  show pm_Gx (RT d) co_X7_lay 3 [some (.inr (.inr (0, 0))), none] [.inl r1] w Q
  refine pm_go (i2 := 4) (ls2 := [some (.inr (.inr (0, 0))), none]) (st2 := [.inl (-9), .inl r1]) (w2 := w) 1 (fun F h => h) ?_
  refine pm_if (P := r1 = (-9)) (i2 := 7) (i3 := 5) (ls2 := [some (.inr (.inr (0, 0))), none]) (st2 := []) (w2 := w) 1 (fun F h => h) (fun hc3 => ?_) (fun hc3 => ?_)
  · rw [if_pos hc3] at hf
    refine pm_go (i2 := 11) (ls2 := [some (.inr (.inr (0, 0))), none]) (st2 := [.inr (.inr (1, 0)), .inr (.inr (3, 0))]) (w2 := w) 4 (fun F h => h) ?_
    obtain ⟨r4, hr5, hf⟩ := Option.bind_eq_some_iff.mp hf
    refine pm_ca (y := 29) (as := [.inr (.inr (3, 0)), .inr (.inr (1, 0))]) (r := none) (w2 := w) (w1 := r4) (t := []) (i2 := 12) (ls2 := [some (.inr (.inr (0, 0))), none]) 1 (a_X5_readFrom F w r4 d (by omega) hr5) (fun F h => h) ?_
    show pm_Gx (RT d) co_X7_lay 12 [some (.inr (.inr (0, 0))), none] [] r4 Q
    refine pm_go (i2 := 18) (ls2 := [some (.inr (.inr (0, 0))), none]) (st2 := [.inr (.inr (3, 0)), .inr (.inr (1, 0)), .inr (.inr (7, 0))]) (w2 := r4) 6 (fun F h => h) ?_
    obtain ⟨r6, hr7, hf⟩ := Option.bind_eq_some_iff.mp hf
    refine pm_ca (y := 28) (as := [.inr (.inr (7, 0)), .inr (.inr (1, 0)), .inr (.inr (3, 0))]) (r := none) (w2 := r4) (w1 := r6) (t := []) (i2 := 19) (ls2 := [some (.inr (.inr (0, 0))), none]) 1 (a_X4_readFrom F r4 0 r6 d (by omega) hr7) (fun F h => h) ?_
    show pm_Gx (RT d) co_X7_lay 19 [some (.inr (.inr (0, 0))), none] [] r6 Q
    refine pm_go (i2 := 23) (ls2 := [some (.inr (.inr (0, 0))), none]) (st2 := []) (w2 := (pm_setI r6 9 0 1 0)) 4 (fun F h => h) ?_
    generalize (pm_setI r6 9 0 1 0) = w8 at hf ⊢
    replace hf := pm_wlet_un hf
    refine pm_go (i2 := 25) (ls2 := [some (.inr (.inr (0, 0))), some (.inl 0)]) (st2 := []) (w2 := w8) 2 (fun F h => h) ?_
    obtain ⟨x12, hx13, hf⟩ := Option.bind_eq_some_iff.mp hf
    refine a_X7_lay_L25 F d hd Q F w8 0 x12 hx13 ?_
    refine pm_go (i2 := 38) (ls2 := [some (.inr (.inr (0, 0))), some (.inl x12.1)]) (st2 := [.inl (x12.2.1 3 0 3)]) (w2 := x12.2) 3 (fun F h => h) ?_
    obtain rfl := Option.some.inj hf
    exact pm_re (r := some (.inl (x12.2.1 3 0 3))) (w2 := x12.2) 1 (fun F h => h) hq
  · rw [if_neg hc3] at hf
    refine pm_go (i2 := 6) (ls2 := [some (.inr (.inr (0, 0))), none]) (st2 := [.inl (-3)]) (w2 := w) 1 (fun F h => h) ?_
    obtain rfl := Option.some.inj hf
    exact pm_re (r := some (.inl (-3))) (w2 := w) 1 (fun F h => h) hq
set_option maxRecDepth 20000 in
set_option maxHeartbeats 4000000 in
theorem a_X7_lay (F : Nat) (w : pm_W) (x : (Int32 × pm_W)) (d : Nat) (hd : 7 ≤ d) (hf : f_X7_lay F w = some x) : RT d 59 [.inr (.inr (0, 0))] w (some (.inl x.1)) x.2 := by
  obtain ⟨d, rfl, hd2⟩ := pm_dep hd
  exact pm_start (co := co_X7_lay) (nL := 2) (by decide) rfl rfl (Nat.le_of_ble_eq_true rfl) (b_X7_lay F d hd2 _ w x hf ⟨rfl, rfl⟩)
def f_X7_guest (F : Nat) (w : pm_W) (a1 : Int32) (a2 : Int32) : Option (Int32) := ((f_X5_knows F w a1).bind fun r1 => (if r1 = 0 then some (-1) else (if a2 = 0 then (if pm_inb a1 5 = true then some (w.1 8 0 a1.toNatClampNeg) else none) else (if a2 = 1 then (if pm_inb a1 5 = true then some (w.1 4 0 a1.toNatClampNeg) else none) else (if a2 = 2 then (if pm_inb a1 5 = true then some (w.1 5 0 a1.toNatClampNeg) else none) else (if a2 = 3 then (if pm_inb a1 5 = true then some (w.1 6 0 a1.toNatClampNeg) else none) else (if a2 = 4 then some (((w.1 7 0 4) >>> (a1 &&& 31)) &&& 1) else (if a2 = 5 then ((f_X5_hearers F w 0).bind fun r14 => some ((r14 >>> (a1 &&& 31)) &&& 1)) else some (-2)))))))))
set_option maxRecDepth 20000 in
set_option maxHeartbeats 4000000 in
theorem b_X7_guest (F : Nat) (d : Nat) (hd : 2 ≤ d) (Q : pm_Q) (w : pm_W) (a1 : Int32) (a2 : Int32) (x : Int32) (hf : f_X7_guest F w a1 a2 = some x) (hq : Q (some (.inl x)) w) : pm_Gx (RT d) co_X7_guest 0 [some (.inr (.inr (0, 0))), some (.inl a1), some (.inl a2)] [] w Q := by
  unfold f_X7_guest at hf
  refine pm_go (i2 := 3) (ls2 := [some (.inr (.inr (0, 0))), some (.inl a1), some (.inl a2)]) (st2 := [.inl a1, .inr (.inr (3, 0))]) (w2 := w) 3 (fun F h => h) ?_
  obtain ⟨r1, hr2, hf⟩ := Option.bind_eq_some_iff.mp hf
  refine pm_ca (y := 30) (as := [.inr (.inr (3, 0)), .inl a1]) (r := some (.inl r1)) (w2 := w) (w1 := w) (t := []) (i2 := 4) (ls2 := [some (.inr (.inr (0, 0))), some (.inl a1), some (.inl a2)]) 1 (a_X5_knows F w a1 r1 d (by omega) hr2) (fun F h => h) ?_
  show pm_Gx (RT d) co_X7_guest 4 [some (.inr (.inr (0, 0))), some (.inl a1), some (.inl a2)] [.inl r1] w Q
  refine pm_if (P := r1 = 0) (i2 := 5) (i3 := 7) (ls2 := [some (.inr (.inr (0, 0))), some (.inl a1), some (.inl a2)]) (st2 := []) (w2 := w) 1 (fun F h => h) (fun hc3 => ?_) (fun hc3 => ?_)
  · rw [if_pos hc3] at hf
    refine pm_go (i2 := 6) (ls2 := [some (.inr (.inr (0, 0))), some (.inl a1), some (.inl a2)]) (st2 := [.inl (-1)]) (w2 := w) 1 (fun F h => h) ?_
    obtain rfl := Option.some.inj hf
    exact pm_re (r := some (.inl (-1))) (w2 := w) 1 (fun F h => h) hq
  · rw [if_neg hc3] at hf
    refine pm_go (i2 := 8) (ls2 := [some (.inr (.inr (0, 0))), some (.inl a1), some (.inl a2)]) (st2 := [.inl a2]) (w2 := w) 1 (fun F h => h) ?_
    refine pm_swx (x := a2) (d := 51) (cs := [(0, 9), (1, 15), (2, 21), (3, 27), (4, 33), (5, 41)]) (ls2 := [some (.inr (.inr (0, 0))), some (.inl a1), some (.inl a2)]) (st2 := []) (w2 := w) 1 (fun F h => h) ?_
    refine pm_swc (fun hw4 => ?_) (fun hw4 => ?_)
    · rw [if_pos hw4] at hf
      obtain ⟨hs5, hf⟩ := pm_itn hf
      refine pm_go (i2 := 14) (ls2 := [some (.inr (.inr (0, 0))), some (.inl a1), some (.inl a2)]) (st2 := [.inl (w.1 8 0 a1.toNatClampNeg)]) (w2 := w) 5 (fun F h => ⟨(pm_inb_in hs5), h⟩) ?_
      obtain rfl := Option.some.inj hf
      exact pm_re (r := some (.inl (w.1 8 0 a1.toNatClampNeg))) (w2 := w) 1 (fun F h => h) hq
    rw [if_neg hw4] at hf
    refine pm_swc (fun hw6 => ?_) (fun hw6 => ?_)
    · rw [if_pos hw6] at hf
      obtain ⟨hs7, hf⟩ := pm_itn hf
      refine pm_go (i2 := 20) (ls2 := [some (.inr (.inr (0, 0))), some (.inl a1), some (.inl a2)]) (st2 := [.inl (w.1 4 0 a1.toNatClampNeg)]) (w2 := w) 5 (fun F h => ⟨(pm_inb_in hs7), h⟩) ?_
      obtain rfl := Option.some.inj hf
      exact pm_re (r := some (.inl (w.1 4 0 a1.toNatClampNeg))) (w2 := w) 1 (fun F h => h) hq
    rw [if_neg hw6] at hf
    refine pm_swc (fun hw8 => ?_) (fun hw8 => ?_)
    · rw [if_pos hw8] at hf
      obtain ⟨hs9, hf⟩ := pm_itn hf
      refine pm_go (i2 := 26) (ls2 := [some (.inr (.inr (0, 0))), some (.inl a1), some (.inl a2)]) (st2 := [.inl (w.1 5 0 a1.toNatClampNeg)]) (w2 := w) 5 (fun F h => ⟨(pm_inb_in hs9), h⟩) ?_
      obtain rfl := Option.some.inj hf
      exact pm_re (r := some (.inl (w.1 5 0 a1.toNatClampNeg))) (w2 := w) 1 (fun F h => h) hq
    rw [if_neg hw8] at hf
    refine pm_swc (fun hw10 => ?_) (fun hw10 => ?_)
    · rw [if_pos hw10] at hf
      obtain ⟨hs11, hf⟩ := pm_itn hf
      refine pm_go (i2 := 32) (ls2 := [some (.inr (.inr (0, 0))), some (.inl a1), some (.inl a2)]) (st2 := [.inl (w.1 6 0 a1.toNatClampNeg)]) (w2 := w) 5 (fun F h => ⟨(pm_inb_in hs11), h⟩) ?_
      obtain rfl := Option.some.inj hf
      exact pm_re (r := some (.inl (w.1 6 0 a1.toNatClampNeg))) (w2 := w) 1 (fun F h => h) hq
    rw [if_neg hw10] at hf
    refine pm_swc (fun hw12 => ?_) (fun hw12 => ?_)
    · rw [if_pos hw12] at hf
      refine pm_go (i2 := 40) (ls2 := [some (.inr (.inr (0, 0))), some (.inl a1), some (.inl a2)]) (st2 := [.inl (((w.1 7 0 4) >>> (a1 &&& 31)) &&& 1)]) (w2 := w) 7 (fun F h => h) ?_
      obtain rfl := Option.some.inj hf
      exact pm_re (r := some (.inl (((w.1 7 0 4) >>> (a1 &&& 31)) &&& 1))) (w2 := w) 1 (fun F h => h) hq
    rw [if_neg hw12] at hf
    refine pm_swc (fun hw13 => ?_) (fun hw13 => ?_)
    · rw [if_pos hw13] at hf
      refine pm_go (i2 := 45) (ls2 := [some (.inr (.inr (0, 0))), some (.inl a1), some (.inl a2)]) (st2 := [.inr (.inr (7, 0)), .inr (.inr (3, 0))]) (w2 := w) 4 (fun F h => h) ?_
      obtain ⟨r14, hr15, hf⟩ := Option.bind_eq_some_iff.mp hf
      refine pm_ca (y := 37) (as := [.inr (.inr (3, 0)), .inr (.inr (7, 0))]) (r := some (.inl r14)) (w2 := w) (w1 := w) (t := []) (i2 := 46) (ls2 := [some (.inr (.inr (0, 0))), some (.inl a1), some (.inl a2)]) 1 (a_X5_hearers F w 0 r14 d (by omega) hr15) (fun F h => h) ?_
      show pm_Gx (RT d) co_X7_guest 46 [some (.inr (.inr (0, 0))), some (.inl a1), some (.inl a2)] [.inl r14] w Q
      refine pm_go (i2 := 50) (ls2 := [some (.inr (.inr (0, 0))), some (.inl a1), some (.inl a2)]) (st2 := [.inl ((r14 >>> (a1 &&& 31)) &&& 1)]) (w2 := w) 4 (fun F h => h) ?_
      obtain rfl := Option.some.inj hf
      exact pm_re (r := some (.inl ((r14 >>> (a1 &&& 31)) &&& 1))) (w2 := w) 1 (fun F h => h) hq
    rw [if_neg hw13] at hf
    refine pm_swd ?_
    refine pm_go (i2 := 52) (ls2 := [some (.inr (.inr (0, 0))), some (.inl a1), some (.inl a2)]) (st2 := [.inl (-2)]) (w2 := w) 1 (fun F h => h) ?_
    obtain rfl := Option.some.inj hf
    exact pm_re (r := some (.inl (-2))) (w2 := w) 1 (fun F h => h) hq
set_option maxRecDepth 20000 in
set_option maxHeartbeats 4000000 in
theorem a_X7_guest (F : Nat) (w : pm_W) (a1 : Int32) (a2 : Int32) (x : Int32) (d : Nat) (hd : 3 ≤ d) (hf : f_X7_guest F w a1 a2 = some x) : RT d 60 [.inr (.inr (0, 0)), .inl a1, .inl a2] w (some (.inl x)) w := by
  obtain ⟨d, rfl, hd2⟩ := pm_dep hd
  exact pm_start (co := co_X7_guest) (nL := 3) (by decide) rfl rfl (Nat.le_of_ble_eq_true rfl) (b_X7_guest F d hd2 _ w a1 a2 x hf ⟨rfl, rfl⟩)
def f_X7_say (F : Nat) (w : pm_W) (a1 : Int32) : Option ((Int32 × pm_W)) := ((f_X5_knows F w a1).bind fun r1 => (if r1 = 0 then some ((-1), w) else ((f_X5_canSpeak F w 0 a1).bind fun r4 => (if r4 = 0 then some ((-3), w) else ((f_X0_remember F w 0).bind fun r7 => ((f_X5_speak F r7 0 a1).bind fun r9 => some (r9.1 7 0 1, r9)))))))
set_option maxRecDepth 20000 in
set_option maxHeartbeats 4000000 in
theorem b_X7_say (F : Nat) (d : Nat) (hd : 2 ≤ d) (Q : pm_Q) (w : pm_W) (a1 : Int32) (x : (Int32 × pm_W)) (hf : f_X7_say F w a1 = some x) (hq : Q (some (.inl x.1)) x.2) : pm_Gx (RT d) co_X7_say 0 [some (.inr (.inr (0, 0))), some (.inl a1)] [] w Q := by
  unfold f_X7_say at hf
  refine pm_go (i2 := 3) (ls2 := [some (.inr (.inr (0, 0))), some (.inl a1)]) (st2 := [.inl a1, .inr (.inr (3, 0))]) (w2 := w) 3 (fun F h => h) ?_
  obtain ⟨r1, hr2, hf⟩ := Option.bind_eq_some_iff.mp hf
  refine pm_ca (y := 30) (as := [.inr (.inr (3, 0)), .inl a1]) (r := some (.inl r1)) (w2 := w) (w1 := w) (t := []) (i2 := 4) (ls2 := [some (.inr (.inr (0, 0))), some (.inl a1)]) 1 (a_X5_knows F w a1 r1 d (by omega) hr2) (fun F h => h) ?_
  show pm_Gx (RT d) co_X7_say 4 [some (.inr (.inr (0, 0))), some (.inl a1)] [.inl r1] w Q
  refine pm_if (P := r1 = 0) (i2 := 5) (i3 := 7) (ls2 := [some (.inr (.inr (0, 0))), some (.inl a1)]) (st2 := []) (w2 := w) 1 (fun F h => h) (fun hc3 => ?_) (fun hc3 => ?_)
  · rw [if_pos hc3] at hf
    refine pm_go (i2 := 6) (ls2 := [some (.inr (.inr (0, 0))), some (.inl a1)]) (st2 := [.inl (-1)]) (w2 := w) 1 (fun F h => h) ?_
    obtain rfl := Option.some.inj hf
    exact pm_re (r := some (.inl (-1))) (w2 := w) 1 (fun F h => h) hq
  · rw [if_neg hc3] at hf
    refine pm_go (i2 := 12) (ls2 := [some (.inr (.inr (0, 0))), some (.inl a1)]) (st2 := [.inl a1, .inr (.inr (7, 0)), .inr (.inr (3, 0))]) (w2 := w) 5 (fun F h => h) ?_
    obtain ⟨r4, hr5, hf⟩ := Option.bind_eq_some_iff.mp hf
    refine pm_ca (y := 32) (as := [.inr (.inr (3, 0)), .inr (.inr (7, 0)), .inl a1]) (r := some (.inl r4)) (w2 := w) (w1 := w) (t := []) (i2 := 13) (ls2 := [some (.inr (.inr (0, 0))), some (.inl a1)]) 1 (a_X5_canSpeak F w 0 a1 r4 d (by omega) hr5) (fun F h => h) ?_
    show pm_Gx (RT d) co_X7_say 13 [some (.inr (.inr (0, 0))), some (.inl a1)] [.inl r4] w Q
    refine pm_if (P := r4 = 0) (i2 := 14) (i3 := 16) (ls2 := [some (.inr (.inr (0, 0))), some (.inl a1)]) (st2 := []) (w2 := w) 1 (fun F h => h) (fun hc6 => ?_) (fun hc6 => ?_)
    · rw [if_pos hc6] at hf
      refine pm_go (i2 := 15) (ls2 := [some (.inr (.inr (0, 0))), some (.inl a1)]) (st2 := [.inl (-3)]) (w2 := w) 1 (fun F h => h) ?_
      obtain rfl := Option.some.inj hf
      exact pm_re (r := some (.inl (-3))) (w2 := w) 1 (fun F h => h) hq
    · rw [if_neg hc6] at hf
      refine pm_go (i2 := 20) (ls2 := [some (.inr (.inr (0, 0))), some (.inl a1)]) (st2 := [.inr (.inr (7, 0)), .inr (.inr (9, 0))]) (w2 := w) 4 (fun F h => h) ?_
      obtain ⟨r7, hr8, hf⟩ := Option.bind_eq_some_iff.mp hf
      refine pm_ca (y := 0) (as := [.inr (.inr (9, 0)), .inr (.inr (7, 0))]) (r := none) (w2 := w) (w1 := r7) (t := []) (i2 := 21) (ls2 := [some (.inr (.inr (0, 0))), some (.inl a1)]) 1 (a_X0_remember F w 0 r7 d (by omega) hr8) (fun F h => h) ?_
      show pm_Gx (RT d) co_X7_say 21 [some (.inr (.inr (0, 0))), some (.inl a1)] [] r7 Q
      refine pm_go (i2 := 26) (ls2 := [some (.inr (.inr (0, 0))), some (.inl a1)]) (st2 := [.inl a1, .inr (.inr (7, 0)), .inr (.inr (3, 0))]) (w2 := r7) 5 (fun F h => h) ?_
      obtain ⟨r9, hr10, hf⟩ := Option.bind_eq_some_iff.mp hf
      refine pm_ca (y := 33) (as := [.inr (.inr (3, 0)), .inr (.inr (7, 0)), .inl a1]) (r := none) (w2 := r7) (w1 := r9) (t := []) (i2 := 27) (ls2 := [some (.inr (.inr (0, 0))), some (.inl a1)]) 1 (a_X5_speak F r7 0 a1 r9 d (by omega) hr10) (fun F h => h) ?_
      show pm_Gx (RT d) co_X7_say 27 [some (.inr (.inr (0, 0))), some (.inl a1)] [] r9 Q
      refine pm_go (i2 := 30) (ls2 := [some (.inr (.inr (0, 0))), some (.inl a1)]) (st2 := [.inl (r9.1 7 0 1)]) (w2 := r9) 3 (fun F h => h) ?_
      obtain rfl := Option.some.inj hf
      exact pm_re (r := some (.inl (r9.1 7 0 1))) (w2 := r9) 1 (fun F h => h) hq
set_option maxRecDepth 20000 in
set_option maxHeartbeats 4000000 in
theorem a_X7_say (F : Nat) (w : pm_W) (a1 : Int32) (x : (Int32 × pm_W)) (d : Nat) (hd : 3 ≤ d) (hf : f_X7_say F w a1 = some x) : RT d 61 [.inr (.inr (0, 0)), .inl a1] w (some (.inl x.1)) x.2 := by
  obtain ⟨d, rfl, hd2⟩ := pm_dep hd
  exact pm_start (co := co_X7_say) (nL := 2) (by decide) rfl rfl (Nat.le_of_ble_eq_true rfl) (b_X7_say F d hd2 _ w a1 x hf ⟨rfl, rfl⟩)
def f_X7_pass (F : Nat) (w : pm_W) (a1 : Int32) : Option ((Int32 × pm_W)) := ((f_X5_knows F w a1).bind fun r1 => (if r1 = 0 then some ((-1), w) else ((f_X0_remember F w 0).bind fun r4 => ((f_X5_hand F r4 0 a1).bind fun r6 => some (r6.1 7 0 3, r6)))))
set_option maxRecDepth 20000 in
set_option maxHeartbeats 4000000 in
theorem b_X7_pass (F : Nat) (d : Nat) (hd : 2 ≤ d) (Q : pm_Q) (w : pm_W) (a1 : Int32) (x : (Int32 × pm_W)) (hf : f_X7_pass F w a1 = some x) (hq : Q (some (.inl x.1)) x.2) : pm_Gx (RT d) co_X7_pass 0 [some (.inr (.inr (0, 0))), some (.inl a1)] [] w Q := by
  unfold f_X7_pass at hf
  refine pm_go (i2 := 3) (ls2 := [some (.inr (.inr (0, 0))), some (.inl a1)]) (st2 := [.inl a1, .inr (.inr (3, 0))]) (w2 := w) 3 (fun F h => h) ?_
  obtain ⟨r1, hr2, hf⟩ := Option.bind_eq_some_iff.mp hf
  refine pm_ca (y := 30) (as := [.inr (.inr (3, 0)), .inl a1]) (r := some (.inl r1)) (w2 := w) (w1 := w) (t := []) (i2 := 4) (ls2 := [some (.inr (.inr (0, 0))), some (.inl a1)]) 1 (a_X5_knows F w a1 r1 d (by omega) hr2) (fun F h => h) ?_
  show pm_Gx (RT d) co_X7_pass 4 [some (.inr (.inr (0, 0))), some (.inl a1)] [.inl r1] w Q
  refine pm_if (P := r1 = 0) (i2 := 5) (i3 := 7) (ls2 := [some (.inr (.inr (0, 0))), some (.inl a1)]) (st2 := []) (w2 := w) 1 (fun F h => h) (fun hc3 => ?_) (fun hc3 => ?_)
  · rw [if_pos hc3] at hf
    refine pm_go (i2 := 6) (ls2 := [some (.inr (.inr (0, 0))), some (.inl a1)]) (st2 := [.inl (-1)]) (w2 := w) 1 (fun F h => h) ?_
    obtain rfl := Option.some.inj hf
    exact pm_re (r := some (.inl (-1))) (w2 := w) 1 (fun F h => h) hq
  · rw [if_neg hc3] at hf
    refine pm_go (i2 := 11) (ls2 := [some (.inr (.inr (0, 0))), some (.inl a1)]) (st2 := [.inr (.inr (7, 0)), .inr (.inr (9, 0))]) (w2 := w) 4 (fun F h => h) ?_
    obtain ⟨r4, hr5, hf⟩ := Option.bind_eq_some_iff.mp hf
    refine pm_ca (y := 0) (as := [.inr (.inr (9, 0)), .inr (.inr (7, 0))]) (r := none) (w2 := w) (w1 := r4) (t := []) (i2 := 12) (ls2 := [some (.inr (.inr (0, 0))), some (.inl a1)]) 1 (a_X0_remember F w 0 r4 d (by omega) hr5) (fun F h => h) ?_
    show pm_Gx (RT d) co_X7_pass 12 [some (.inr (.inr (0, 0))), some (.inl a1)] [] r4 Q
    refine pm_go (i2 := 17) (ls2 := [some (.inr (.inr (0, 0))), some (.inl a1)]) (st2 := [.inl a1, .inr (.inr (7, 0)), .inr (.inr (3, 0))]) (w2 := r4) 5 (fun F h => h) ?_
    obtain ⟨r6, hr7, hf⟩ := Option.bind_eq_some_iff.mp hf
    refine pm_ca (y := 35) (as := [.inr (.inr (3, 0)), .inr (.inr (7, 0)), .inl a1]) (r := none) (w2 := r4) (w1 := r6) (t := []) (i2 := 18) (ls2 := [some (.inr (.inr (0, 0))), some (.inl a1)]) 1 (a_X5_hand F r4 0 a1 r6 d (by omega) hr7) (fun F h => h) ?_
    show pm_Gx (RT d) co_X7_pass 18 [some (.inr (.inr (0, 0))), some (.inl a1)] [] r6 Q
    refine pm_go (i2 := 21) (ls2 := [some (.inr (.inr (0, 0))), some (.inl a1)]) (st2 := [.inl (r6.1 7 0 3)]) (w2 := r6) 3 (fun F h => h) ?_
    obtain rfl := Option.some.inj hf
    exact pm_re (r := some (.inl (r6.1 7 0 3))) (w2 := r6) 1 (fun F h => h) hq
set_option maxRecDepth 20000 in
set_option maxHeartbeats 4000000 in
theorem a_X7_pass (F : Nat) (w : pm_W) (a1 : Int32) (x : (Int32 × pm_W)) (d : Nat) (hd : 3 ≤ d) (hf : f_X7_pass F w a1 = some x) : RT d 62 [.inr (.inr (0, 0)), .inl a1] w (some (.inl x.1)) x.2 := by
  obtain ⟨d, rfl, hd2⟩ := pm_dep hd
  exact pm_start (co := co_X7_pass) (nL := 2) (by decide) rfl rfl (Nat.le_of_ble_eq_true rfl) (b_X7_pass F d hd2 _ w a1 x hf ⟨rfl, rfl⟩)
def f_X7_fetch (F : Nat) (w : pm_W) : Option ((Int32 × pm_W)) := ((f_X0_remember F w 0).bind fun r1 => ((f_X5_refill F r1 0).bind fun r3 => some (w.1 7 0 3, r3)))
set_option maxRecDepth 20000 in
set_option maxHeartbeats 4000000 in
theorem b_X7_fetch (F : Nat) (d : Nat) (hd : 2 ≤ d) (Q : pm_Q) (w : pm_W) (x : (Int32 × pm_W)) (hf : f_X7_fetch F w = some x) (hq : Q (some (.inl x.1)) x.2) : pm_Gx (RT d) co_X7_fetch 0 [some (.inr (.inr (0, 0))), none] [] w Q := by
  unfold f_X7_fetch at hf
  refine pm_go (i2 := 8) (ls2 := [some (.inr (.inr (0, 0))), some (.inl (w.1 7 0 3))]) (st2 := [.inr (.inr (7, 0)), .inr (.inr (9, 0))]) (w2 := w) 8 (fun F h => h) ?_
  obtain ⟨r1, hr2, hf⟩ := Option.bind_eq_some_iff.mp hf
  refine pm_ca (y := 0) (as := [.inr (.inr (9, 0)), .inr (.inr (7, 0))]) (r := none) (w2 := w) (w1 := r1) (t := []) (i2 := 9) (ls2 := [some (.inr (.inr (0, 0))), some (.inl (w.1 7 0 3))]) 1 (a_X0_remember F w 0 r1 d (by omega) hr2) (fun F h => h) ?_
  show pm_Gx (RT d) co_X7_fetch 9 [some (.inr (.inr (0, 0))), some (.inl (w.1 7 0 3))] [] r1 Q
  refine pm_go (i2 := 13) (ls2 := [some (.inr (.inr (0, 0))), some (.inl (w.1 7 0 3))]) (st2 := [.inr (.inr (7, 0)), .inr (.inr (3, 0))]) (w2 := r1) 4 (fun F h => h) ?_
  obtain ⟨r3, hr4, hf⟩ := Option.bind_eq_some_iff.mp hf
  refine pm_ca (y := 36) (as := [.inr (.inr (3, 0)), .inr (.inr (7, 0))]) (r := none) (w2 := r1) (w1 := r3) (t := []) (i2 := 14) (ls2 := [some (.inr (.inr (0, 0))), some (.inl (w.1 7 0 3))]) 1 (a_X5_refill F r1 0 r3 d (by omega) hr4) (fun F h => h) ?_
  show pm_Gx (RT d) co_X7_fetch 14 [some (.inr (.inr (0, 0))), some (.inl (w.1 7 0 3))] [] r3 Q
  refine pm_go (i2 := 15) (ls2 := [some (.inr (.inr (0, 0))), some (.inl (w.1 7 0 3))]) (st2 := [.inl (w.1 7 0 3)]) (w2 := r3) 1 (fun F h => h) ?_
  obtain rfl := Option.some.inj hf
  exact pm_re (r := some (.inl (w.1 7 0 3))) (w2 := r3) 1 (fun F h => h) hq
set_option maxRecDepth 20000 in
set_option maxHeartbeats 4000000 in
theorem a_X7_fetch (F : Nat) (w : pm_W) (x : (Int32 × pm_W)) (d : Nat) (hd : 3 ≤ d) (hf : f_X7_fetch F w = some x) : RT d 63 [.inr (.inr (0, 0))] w (some (.inl x.1)) x.2 := by
  obtain ⟨d, rfl, hd2⟩ := pm_dep hd
  exact pm_start (co := co_X7_fetch) (nL := 2) (by decide) rfl rfl (Nat.le_of_ble_eq_true rfl) (b_X7_fetch F d hd2 _ w x hf ⟨rfl, rfl⟩)
def f_X7_undo (F : Nat) (w : pm_W) : Option ((Int32 × pm_W)) := (if (w.1 9 0 1) = 0 then some ((-3), w) else ((f_X0_takeBack F w 0).bind fun r2 => some (r2.1 9 0 1, r2)))
set_option maxRecDepth 20000 in
set_option maxHeartbeats 4000000 in
theorem b_X7_undo (F : Nat) (d : Nat) (hd : 2 ≤ d) (Q : pm_Q) (w : pm_W) (x : (Int32 × pm_W)) (hf : f_X7_undo F w = some x) (hq : Q (some (.inl x.1)) x.2) : pm_Gx (RT d) co_X7_undo 0 [some (.inr (.inr (0, 0)))] [] w Q := by
  unfold f_X7_undo at hf
  refine pm_go (i2 := 3) (ls2 := [some (.inr (.inr (0, 0)))]) (st2 := [.inl (w.1 9 0 1)]) (w2 := w) 3 (fun F h => h) ?_
  refine pm_if (P := (w.1 9 0 1) = 0) (i2 := 4) (i3 := 6) (ls2 := [some (.inr (.inr (0, 0)))]) (st2 := []) (w2 := w) 1 (fun F h => h) (fun hc1 => ?_) (fun hc1 => ?_)
  · rw [if_pos hc1] at hf
    refine pm_go (i2 := 5) (ls2 := [some (.inr (.inr (0, 0)))]) (st2 := [.inl (-3)]) (w2 := w) 1 (fun F h => h) ?_
    obtain rfl := Option.some.inj hf
    exact pm_re (r := some (.inl (-3))) (w2 := w) 1 (fun F h => h) hq
  · rw [if_neg hc1] at hf
    refine pm_go (i2 := 10) (ls2 := [some (.inr (.inr (0, 0)))]) (st2 := [.inr (.inr (7, 0)), .inr (.inr (9, 0))]) (w2 := w) 4 (fun F h => h) ?_
    obtain ⟨r2, hr3, hf⟩ := Option.bind_eq_some_iff.mp hf
    refine pm_ca (y := 1) (as := [.inr (.inr (9, 0)), .inr (.inr (7, 0))]) (r := none) (w2 := w) (w1 := r2) (t := []) (i2 := 11) (ls2 := [some (.inr (.inr (0, 0)))]) 1 (a_X0_takeBack F w 0 r2 d (by omega) hr3) (fun F h => h) ?_
    show pm_Gx (RT d) co_X7_undo 11 [some (.inr (.inr (0, 0)))] [] r2 Q
    refine pm_go (i2 := 14) (ls2 := [some (.inr (.inr (0, 0)))]) (st2 := [.inl (r2.1 9 0 1)]) (w2 := r2) 3 (fun F h => h) ?_
    obtain rfl := Option.some.inj hf
    exact pm_re (r := some (.inl (r2.1 9 0 1))) (w2 := r2) 1 (fun F h => h) hq
set_option maxRecDepth 20000 in
set_option maxHeartbeats 4000000 in
theorem a_X7_undo (F : Nat) (w : pm_W) (x : (Int32 × pm_W)) (d : Nat) (hd : 3 ≤ d) (hf : f_X7_undo F w = some x) : RT d 64 [.inr (.inr (0, 0))] w (some (.inl x.1)) x.2 := by
  obtain ⟨d, rfl, hd2⟩ := pm_dep hd
  exact pm_start (co := co_X7_undo) (nL := 1) (by decide) rfl rfl (Nat.le_of_ble_eq_true rfl) (b_X7_undo F d hd2 _ w x hf ⟨rfl, rfl⟩)
def f_X7_passes (F : Nat) (w : pm_W) (a1 : Int32) : Option ((Int32 × pm_W)) := ((f_X5_everybody F w).bind fun r1 => ((f_X3_planPasses F w 0 (w.1 7 0 4) r1).bind fun r3 => some ((if a1 = 0 then r3.1 16 0 2 else r3.1 16 0 3 : Int32), r3)))
set_option maxRecDepth 20000 in
set_option maxHeartbeats 4000000 in
theorem b_X7_passes (F : Nat) (d : Nat) (hd : 12 ≤ d) (Q : pm_Q) (w : pm_W) (a1 : Int32) (x : (Int32 × pm_W)) (hf : f_X7_passes F w a1 = some x) (hq : Q (some (.inl x.1)) x.2) : pm_Gx (RT d) co_X7_passes 0 [some (.inr (.inr (0, 0))), some (.inl a1)] [] w Q := by
  unfold f_X7_passes at hf
  refine pm_go (i2 := 9) (ls2 := [some (.inr (.inr (0, 0))), some (.inl a1)]) (st2 := [.inr (.inr (3, 0)), .inl (w.1 7 0 4), .inr (.inr (7, 0)), .inr (.inr (16, 0))]) (w2 := w) 9 (fun F h => h) ?_
  obtain ⟨r1, hr2, hf⟩ := Option.bind_eq_some_iff.mp hf
  refine pm_ca (y := 31) (as := [.inr (.inr (3, 0))]) (r := some (.inl r1)) (w2 := w) (w1 := w) (t := [.inl (w.1 7 0 4), .inr (.inr (7, 0)), .inr (.inr (16, 0))]) (i2 := 10) (ls2 := [some (.inr (.inr (0, 0))), some (.inl a1)]) 1 (a_X5_everybody F w r1 d (by omega) hr2) (fun F h => h) ?_
  show pm_Gx (RT d) co_X7_passes 10 [some (.inr (.inr (0, 0))), some (.inl a1)] [.inl r1, .inl (w.1 7 0 4), .inr (.inr (7, 0)), .inr (.inr (16, 0))] w Q
  obtain ⟨r3, hr4, hf⟩ := Option.bind_eq_some_iff.mp hf
  refine pm_ca (y := 17) (as := [.inr (.inr (16, 0)), .inr (.inr (7, 0)), .inl (w.1 7 0 4), .inl r1]) (r := none) (w2 := w) (w1 := r3) (t := []) (i2 := 11) (ls2 := [some (.inr (.inr (0, 0))), some (.inl a1)]) 1 (a_X3_planPasses F w 0 (w.1 7 0 4) r1 r3 d (by omega) hr4) (fun F h => h) ?_
  show pm_Gx (RT d) co_X7_passes 11 [some (.inr (.inr (0, 0))), some (.inl a1)] [] r3 Q
  refine pm_go (i2 := 12) (ls2 := [some (.inr (.inr (0, 0))), some (.inl a1)]) (st2 := [.inl a1]) (w2 := r3) 1 (fun F h => h) ?_
  have key : pm_Gx (RT d) co_X7_passes 20 [some (.inr (.inr (0, 0))), some (.inl a1)] [.inl (if a1 = 0 then r3.1 16 0 2 else r3.1 16 0 3 : Int32)] r3 Q := by
    obtain rfl := Option.some.inj hf
    exact pm_re (r := some (.inl (if a1 = 0 then r3.1 16 0 2 else r3.1 16 0 3 : Int32))) (w2 := r3) 1 (fun F h => h) hq
  clear hf
  refine pm_if (P := a1 = 0) (i2 := 17) (i3 := 13) (ls2 := [some (.inr (.inr (0, 0))), some (.inl a1)]) (st2 := []) (w2 := r3) 1 (fun F h => h) (fun hc5 => ?_) (fun hc5 => ?_)
  · try simp only [if_pos hc5] at key
    refine pm_go (i2 := 20) (ls2 := [some (.inr (.inr (0, 0))), some (.inl a1)]) (st2 := [.inl (r3.1 16 0 2)]) (w2 := r3) 3 (fun F h => h) ?_
    exact key
  · try simp only [if_neg hc5] at key
    refine pm_go (i2 := 20) (ls2 := [some (.inr (.inr (0, 0))), some (.inl a1)]) (st2 := [.inl (r3.1 16 0 3)]) (w2 := r3) 4 (fun F h => h) ?_
    exact key
set_option maxRecDepth 20000 in
set_option maxHeartbeats 4000000 in
theorem a_X7_passes (F : Nat) (w : pm_W) (a1 : Int32) (x : (Int32 × pm_W)) (d : Nat) (hd : 13 ≤ d) (hf : f_X7_passes F w a1 = some x) : RT d 65 [.inr (.inr (0, 0)), .inl a1] w (some (.inl x.1)) x.2 := by
  obtain ⟨d, rfl, hd2⟩ := pm_dep hd
  exact pm_start (co := co_X7_passes) (nL := 2) (by decide) rfl rfl (Nat.le_of_ble_eq_true rfl) (b_X7_passes F d hd2 _ w a1 x hf ⟨rfl, rfl⟩)
