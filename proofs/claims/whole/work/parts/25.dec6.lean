def f_X8_layTrial_L2 (F : Nat) : Nat → pm_W → Int32 → Option (Int32 × pm_W)
  | 0, _, _ => none
  | n + 1, w, v1 => (if 9 ≤ v1 then some (v1, w) else (if pm_inb v1 18 = true then (if pm_inb (9 + v1) 18 = true then (pm_wlet (pm_setI w 23 0 ((9 + v1).toNatClampNeg) (w.1 23 0 v1.toNatClampNeg)) fun w4 => f_X8_layTrial_L2 F n w4 (v1 + 1)) else none) else none))
def f_X8_layTrial (F : Nat) (w : pm_W) : Option (pm_W) := ((f_X8_layTrial_L2 F F w 0).bind fun x5 => some x5.2)
set_option maxRecDepth 20000 in
set_option maxHeartbeats 4000000 in
theorem a_X8_layTrial_L2 (F : Nat) (d : Nat) (hd : 0 ≤ d) (Q : pm_Q) : ∀ (n : Nat) (w : pm_W) (v1 : Int32) (x : Int32 × pm_W), f_X8_layTrial_L2 F n w v1 = some x → pm_Gx (RT d) co_X8_layTrial 17 [some (.inr (.inr (19, 0))), some (.inl x.1)] [] x.2 Q → pm_Gx (RT d) co_X8_layTrial 2 [some (.inr (.inr (19, 0))), some (.inl v1)] [] w Q := by
  intro n
  induction n with
  | zero =>
    intro w v1 x hf
    cases hf
  | succ n ih =>
    intro w v1 x hf hk
    rw [f_X8_layTrial_L2] at hf
    refine pm_go (i2 := 4) (ls2 := [some (.inr (.inr (19, 0))), some (.inl v1)]) (st2 := [.inl 9, .inl v1]) (w2 := w) 2 (fun F h => h) ?_
    refine pm_if (P := 9 ≤ v1) (i2 := 17) (i3 := 5) (ls2 := [some (.inr (.inr (19, 0))), some (.inl v1)]) (st2 := []) (w2 := w) 1 (fun F h => h) (fun hc1 => ?_) (fun hc1 => ?_)
    · rw [if_pos hc1] at hf
      obtain rfl := Option.some.inj hf
      exact hk
    · rw [if_neg hc1] at hf
      obtain ⟨hs2, hf⟩ := pm_itn hf
      obtain ⟨hs3, hf⟩ := pm_itn hf
      refine pm_go (i2 := 15) (ls2 := [some (.inr (.inr (19, 0))), some (.inl v1)]) (st2 := []) (w2 := (pm_setI w 23 0 ((9 + v1).toNatClampNeg) (w.1 23 0 v1.toNatClampNeg))) 10 (fun F h => ⟨(pm_inb_in hs2), (pm_inb_in hs3), h⟩) ?_
      generalize (pm_setI w 23 0 ((9 + v1).toNatClampNeg) (w.1 23 0 v1.toNatClampNeg)) = w4 at hf ⊢
      replace hf := pm_wlet_un hf
      refine pm_go (i2 := 2) (ls2 := [some (.inr (.inr (19, 0))), some (.inl (v1 + 1))]) (st2 := []) (w2 := w4) 2 (fun F h => h) ?_
      exact ih w4 (v1 + 1) _ hf hk
set_option maxRecDepth 20000 in
set_option maxHeartbeats 4000000 in
theorem b_X8_layTrial (F : Nat) (d : Nat) (hd : 0 ≤ d) (Q : pm_Q) (w : pm_W) (x : pm_W) (hf : f_X8_layTrial F w = some x) (hq : Q (none) x) : pm_Gx (RT d) co_X8_layTrial 0 [some (.inr (.inr (19, 0))), none] [] w Q := by
  unfold f_X8_layTrial at hf
  refine pm_go (i2 := 2) (ls2 := [some (.inr (.inr (19, 0))), some (.inl 0)]) (st2 := []) (w2 := w) 2 (fun F h => h) ?_
  obtain ⟨x5, hx6, hf⟩ := Option.bind_eq_some_iff.mp hf
  refine a_X8_layTrial_L2 F d hd Q F w 0 x5 hx6 ?_
  obtain rfl := Option.some.inj hf
  exact pm_re (r := none) (w2 := x5.2) 1 (fun F h => h) hq
set_option maxRecDepth 20000 in
set_option maxHeartbeats 4000000 in
theorem a_X8_layTrial (F : Nat) (w : pm_W) (x : pm_W) (d : Nat) (hd : 1 ≤ d) (hf : f_X8_layTrial F w = some x) : RT d 116 [.inr (.inr (19, 0))] w (none) x := by
  obtain ⟨d, rfl, hd2⟩ := pm_dep hd
  exact pm_start (co := co_X8_layTrial) (nL := 2) (by decide) rfl rfl (Nat.le_of_ble_eq_true rfl) (b_X8_layTrial F d hd2 _ w x hf ⟨rfl, rfl⟩)
def f_X8_power_L4 (F : Nat) (w : pm_W) : Nat → Int32 → Int32 → Int32 → Int32 → Option (Int32 × Int32)
  | 0, _, _, _, _ => none
  | n + 1, v0, v1, v2, v3 => (if v1 ≤ v3 then some (v2, v3) else f_X8_power_L4 F w n v0 v1 (v2 * v0) (v3 + 1))
def f_X8_power (F : Nat) (w : pm_W) (a0 : Int32) (a1 : Int32) : Option (Int32) := ((f_X8_power_L4 F w F a0 a1 1 0).bind fun x2 => some x2.1)
set_option maxRecDepth 20000 in
set_option maxHeartbeats 4000000 in
theorem a_X8_power_L4 (F : Nat) (d : Nat) (hd : 0 ≤ d) (Q : pm_Q) (w : pm_W) : ∀ (n : Nat) (v0 : Int32) (v1 : Int32) (v2 : Int32) (v3 : Int32) (x : Int32 × Int32), f_X8_power_L4 F w n v0 v1 v2 v3 = some x → pm_Gx (RT d) co_X8_power 13 [some (.inl v0), some (.inl v1), some (.inl x.1), some (.inl x.2)] [] w Q → pm_Gx (RT d) co_X8_power 4 [some (.inl v0), some (.inl v1), some (.inl v2), some (.inl v3)] [] w Q := by
  intro n
  induction n with
  | zero =>
    intro v0 v1 v2 v3 x hf
    cases hf
  | succ n ih =>
    intro v0 v1 v2 v3 x hf hk
    rw [f_X8_power_L4] at hf
    refine pm_go (i2 := 6) (ls2 := [some (.inl v0), some (.inl v1), some (.inl v2), some (.inl v3)]) (st2 := [.inl v1, .inl v3]) (w2 := w) 2 (fun F h => h) ?_
    refine pm_if (P := v1 ≤ v3) (i2 := 13) (i3 := 7) (ls2 := [some (.inl v0), some (.inl v1), some (.inl v2), some (.inl v3)]) (st2 := []) (w2 := w) 1 (fun F h => h) (fun hc1 => ?_) (fun hc1 => ?_)
    · rw [if_pos hc1] at hf
      obtain rfl := Option.some.inj hf
      exact hk
    · rw [if_neg hc1] at hf
      refine pm_go (i2 := 4) (ls2 := [some (.inl v0), some (.inl v1), some (.inl (v2 * v0)), some (.inl (v3 + 1))]) (st2 := []) (w2 := w) 6 (fun F h => h) ?_
      exact ih v0 v1 (v2 * v0) (v3 + 1) _ hf hk
set_option maxRecDepth 20000 in
set_option maxHeartbeats 4000000 in
theorem b_X8_power (F : Nat) (d : Nat) (hd : 0 ≤ d) (Q : pm_Q) (w : pm_W) (a0 : Int32) (a1 : Int32) (x : Int32) (hf : f_X8_power F w a0 a1 = some x) (hq : Q (some (.inl x)) w) : pm_Gx (RT d) co_X8_power 0 [some (.inl a0), some (.inl a1), none, none] [] w Q := by
  unfold f_X8_power at hf
  refine pm_go (i2 := 4) (ls2 := [some (.inl a0), some (.inl a1), some (.inl 1), some (.inl 0)]) (st2 := []) (w2 := w) 4 (fun F h => h) ?_
  obtain ⟨x2, hx3, hf⟩ := Option.bind_eq_some_iff.mp hf
  refine a_X8_power_L4 F d hd Q w F a0 a1 1 0 x2 hx3 ?_
  refine pm_go (i2 := 14) (ls2 := [some (.inl a0), some (.inl a1), some (.inl x2.1), some (.inl x2.2)]) (st2 := [.inl x2.1]) (w2 := w) 1 (fun F h => h) ?_
  obtain rfl := Option.some.inj hf
  exact pm_re (r := some (.inl x2.1)) (w2 := w) 1 (fun F h => h) hq
set_option maxRecDepth 20000 in
set_option maxHeartbeats 4000000 in
theorem a_X8_power (F : Nat) (w : pm_W) (a0 : Int32) (a1 : Int32) (x : Int32) (d : Nat) (hd : 1 ≤ d) (hf : f_X8_power F w a0 a1 = some x) : RT d 117 [.inl a0, .inl a1] w (some (.inl x)) w := by
  obtain ⟨d, rfl, hd2⟩ := pm_dep hd
  exact pm_start (co := co_X8_power) (nL := 4) (by decide) rfl rfl (Nat.le_of_ble_eq_true rfl) (b_X8_power F d hd2 _ w a0 a1 x hf ⟨rfl, rfl⟩)
def f_X8_figureOf (F : Nat) (w : pm_W) (a0 : Int32) (a1 : Int32) (a2 : Int32) : Option (Int32) := ((f_X8_power F w 6 ((a1 - 1) - a2)).bind fun r1 => (if pm_nz r1 = true then some ((a0 / r1) - (a0 / r1) / 6 * 6) else none))
set_option maxRecDepth 20000 in
set_option maxHeartbeats 4000000 in
theorem b_X8_figureOf (F : Nat) (d : Nat) (hd : 1 ≤ d) (Q : pm_Q) (w : pm_W) (a0 : Int32) (a1 : Int32) (a2 : Int32) (x : Int32) (hf : f_X8_figureOf F w a0 a1 a2 = some x) (hq : Q (some (.inl x)) w) : pm_Gx (RT d) co_X8_figureOf 0 [some (.inl a0), some (.inl a1), some (.inl a2)] [] w Q := by
  unfold f_X8_figureOf at hf
  refine pm_go (i2 := 7) (ls2 := [some (.inl a0), some (.inl a1), some (.inl a2)]) (st2 := [.inl ((a1 - 1) - a2), .inl 6, .inl a0]) (w2 := w) 7 (fun F h => h) ?_
  obtain ⟨r1, hr2, hf⟩ := Option.bind_eq_some_iff.mp hf
  refine pm_ca (y := 117) (as := [.inl 6, .inl ((a1 - 1) - a2)]) (r := some (.inl r1)) (w2 := w) (w1 := w) (t := [.inl a0]) (i2 := 8) (ls2 := [some (.inl a0), some (.inl a1), some (.inl a2)]) 1 (a_X8_power F w 6 ((a1 - 1) - a2) r1 d (by omega) hr2) (fun F h => h) ?_
  show pm_Gx (RT d) co_X8_figureOf 8 [some (.inl a0), some (.inl a1), some (.inl a2)] [.inl r1, .inl a0] w Q
  obtain ⟨hs3, hf⟩ := pm_itn hf
  refine pm_go (i2 := 11) (ls2 := [some (.inl a0), some (.inl a1), some (.inl a2)]) (st2 := [.inl ((a0 / r1) - (a0 / r1) / 6 * 6)]) (w2 := w) 3 (fun F h => ⟨(pm_nz_ne hs3), (by decide), h⟩) ?_
  obtain rfl := Option.some.inj hf
  exact pm_re (r := some (.inl ((a0 / r1) - (a0 / r1) / 6 * 6))) (w2 := w) 1 (fun F h => h) hq
set_option maxRecDepth 20000 in
set_option maxHeartbeats 4000000 in
theorem a_X8_figureOf (F : Nat) (w : pm_W) (a0 : Int32) (a1 : Int32) (a2 : Int32) (x : Int32) (d : Nat) (hd : 2 ≤ d) (hf : f_X8_figureOf F w a0 a1 a2 = some x) : RT d 118 [.inl a0, .inl a1, .inl a2] w (some (.inl x)) w := by
  obtain ⟨d, rfl, hd2⟩ := pm_dep hd
  exact pm_start (co := co_X8_figureOf) (nL := 3) (by decide) rfl rfl (Nat.le_of_ble_eq_true rfl) (b_X8_figureOf F d hd2 _ w a0 a1 a2 x hf ⟨rfl, rfl⟩)
def f_X8_told_L4 (F : Nat) (w : pm_W) : Nat → Int32 → Int32 → Int32 → Int32 → Option (Int32 × Int32)
  | 0, _, _, _, _ => none
  | n + 1, v0, v1, v2, v3 => (if v1 ≤ v3 then some (v2, v3) else ((f_X8_figureOf F w v0 v1 v3).bind fun r2 => f_X8_told_L4 F w n v0 v1 (((10 * v2) + r2) + 1) (v3 + 1)))
def f_X8_told (F : Nat) (w : pm_W) (a0 : Int32) (a1 : Int32) : Option (Int32) := ((f_X8_told_L4 F w F a0 a1 0 0).bind fun x4 => some x4.1)
set_option maxRecDepth 20000 in
set_option maxHeartbeats 4000000 in
theorem a_X8_told_L4 (F : Nat) (d : Nat) (hd : 2 ≤ d) (Q : pm_Q) (w : pm_W) : ∀ (n : Nat) (v0 : Int32) (v1 : Int32) (v2 : Int32) (v3 : Int32) (x : Int32 × Int32), f_X8_told_L4 F w n v0 v1 v2 v3 = some x → pm_Gx (RT d) co_X8_told 20 [some (.inl v0), some (.inl v1), some (.inl x.1), some (.inl x.2)] [] w Q → pm_Gx (RT d) co_X8_told 4 [some (.inl v0), some (.inl v1), some (.inl v2), some (.inl v3)] [] w Q := by
  intro n
  induction n with
  | zero =>
    intro v0 v1 v2 v3 x hf
    cases hf
  | succ n ih =>
    intro v0 v1 v2 v3 x hf hk
    rw [f_X8_told_L4] at hf
    refine pm_go (i2 := 6) (ls2 := [some (.inl v0), some (.inl v1), some (.inl v2), some (.inl v3)]) (st2 := [.inl v1, .inl v3]) (w2 := w) 2 (fun F h => h) ?_
    refine pm_if (P := v1 ≤ v3) (i2 := 20) (i3 := 7) (ls2 := [some (.inl v0), some (.inl v1), some (.inl v2), some (.inl v3)]) (st2 := []) (w2 := w) 1 (fun F h => h) (fun hc1 => ?_) (fun hc1 => ?_)
    · rw [if_pos hc1] at hf
      obtain rfl := Option.some.inj hf
      exact hk
    · rw [if_neg hc1] at hf
      refine pm_go (i2 := 13) (ls2 := [some (.inl v0), some (.inl v1), some (.inl v2), some (.inl v3)]) (st2 := [.inl v3, .inl v1, .inl v0, .inl (10 * v2)]) (w2 := w) 6 (fun F h => h) ?_
      obtain ⟨r2, hr3, hf⟩ := Option.bind_eq_some_iff.mp hf
      refine pm_ca (y := 118) (as := [.inl v0, .inl v1, .inl v3]) (r := some (.inl r2)) (w2 := w) (w1 := w) (t := [.inl (10 * v2)]) (i2 := 14) (ls2 := [some (.inl v0), some (.inl v1), some (.inl v2), some (.inl v3)]) 1 (a_X8_figureOf F w v0 v1 v3 r2 d (by omega) hr3) (fun F h => h) ?_
      show pm_Gx (RT d) co_X8_told 14 [some (.inl v0), some (.inl v1), some (.inl v2), some (.inl v3)] [.inl r2, .inl (10 * v2)] w Q
      refine pm_go (i2 := 4) (ls2 := [some (.inl v0), some (.inl v1), some (.inl (((10 * v2) + r2) + 1)), some (.inl (v3 + 1))]) (st2 := []) (w2 := w) 6 (fun F h => h) ?_
      exact ih v0 v1 (((10 * v2) + r2) + 1) (v3 + 1) _ hf hk
set_option maxRecDepth 20000 in
set_option maxHeartbeats 4000000 in
theorem b_X8_told (F : Nat) (d : Nat) (hd : 2 ≤ d) (Q : pm_Q) (w : pm_W) (a0 : Int32) (a1 : Int32) (x : Int32) (hf : f_X8_told F w a0 a1 = some x) (hq : Q (some (.inl x)) w) : pm_Gx (RT d) co_X8_told 0 [some (.inl a0), some (.inl a1), none, none] [] w Q := by
  unfold f_X8_told at hf
  refine pm_go (i2 := 4) (ls2 := [some (.inl a0), some (.inl a1), some (.inl 0), some (.inl 0)]) (st2 := []) (w2 := w) 4 (fun F h => h) ?_
  obtain ⟨x4, hx5, hf⟩ := Option.bind_eq_some_iff.mp hf
  refine a_X8_told_L4 F d hd Q w F a0 a1 0 0 x4 hx5 ?_
  refine pm_go (i2 := 21) (ls2 := [some (.inl a0), some (.inl a1), some (.inl x4.1), some (.inl x4.2)]) (st2 := [.inl x4.1]) (w2 := w) 1 (fun F h => h) ?_
  obtain rfl := Option.some.inj hf
  exact pm_re (r := some (.inl x4.1)) (w2 := w) 1 (fun F h => h) hq
set_option maxRecDepth 20000 in
set_option maxHeartbeats 4000000 in
theorem a_X8_told (F : Nat) (w : pm_W) (a0 : Int32) (a1 : Int32) (x : Int32) (d : Nat) (hd : 3 ≤ d) (hf : f_X8_told F w a0 a1 = some x) : RT d 119 [.inl a0, .inl a1] w (some (.inl x)) w := by
  obtain ⟨d, rfl, hd2⟩ := pm_dep hd
  exact pm_start (co := co_X8_told) (nL := 4) (by decide) rfl rfl (Nat.le_of_ble_eq_true rfl) (b_X8_told F d hd2 _ w a0 a1 x hf ⟨rfl, rfl⟩)
def f_X8_mostBy_L28 (F : Nat) : Nat → pm_W → Int32 → Int32 → Int32 → Int32 → Int32 → Int32 → Int32 → Int32 → Option (Int32 × Int32 × Int32 × pm_W)
  | 0, _, _, _, _, _, _, _, _, _ => none
  | n + 1, w, v1, v2, v3, v4, v5, v6, v7, v8 => (if v4 ≤ v8 then some (v6, v7, v8, w) else (if v7 = 0 then some (v6, v7, v8, w) else ((f_X8_figureOf F w v5 v4 v8).bind fun r12 => ((f_X8_has F w v6 r12).bind fun r14 => (if r14 = 0 then f_X8_mostBy_L28 F n w v1 v2 v3 v4 v5 v6 r14 (v8 + 1) else ((f_X8_passOn F w 1 r12).bind fun r17 => f_X8_mostBy_L28 F n r17 v1 v2 v3 v4 v5 (v6 &&& ((1 <<< (r12 &&& 31)) ^^^ (-1))) r14 (v8 + 1)))))))
def f_X8_mostBy_L10 (F : Nat) : Nat → pm_W → Int32 → Int32 → Int32 → Int32 → Int32 → Option (Int32 × Int32 × pm_W)
  | 0, _, _, _, _, _, _ => none
  | n + 1, w, v1, v2, v3, v4, v5 => ((f_X8_power F w 6 v4).bind fun r4 => (if r4 ≤ v5 then some (v3, v5, w) else ((f_X8_layTrial F w).bind fun r7 => (pm_wlet (pm_setI r7 23 0 17 v2) fun w9 => ((f_X8_mostBy_L28 F F w9 v1 v2 v3 v4 v5 v1 1 0).bind fun x19 => (if x19.2.1 = 0 then (pm_wlet (pm_setI x19.2.2.2 19 0 22 (x19.2.2.2.1 19 0 22)) fun w22 => f_X8_mostBy_L10 F n w22 v1 v2 v3 v4 (v5 + 1)) else ((f_X8_ones F x19.2.2.2 (x19.2.2.2.1 23 0 17)).bind fun r23 => (if (if r23 ≤ v3 then 0 else 1 : Int32) = 0 then (pm_wlet (pm_setI x19.2.2.2 19 0 22 (x19.2.2.2.1 19 0 22)) fun w26 => (if (if r23 ≤ v3 then 0 else 1 : Int32) = 0 then f_X8_mostBy_L10 F n w26 v1 v2 v3 v4 (v5 + 1) else ((f_X8_ones F w26 (w26.1 23 0 17)).bind fun r28 => f_X8_mostBy_L10 F n w26 v1 v2 r28 v4 (v5 + 1)))) else ((f_X8_told F x19.2.2.2 v5 v4).bind fun r30 => (pm_wlet (pm_setI x19.2.2.2 19 0 22 r30) fun w32 => (if (if r23 ≤ v3 then 0 else 1 : Int32) = 0 then f_X8_mostBy_L10 F n w32 v1 v2 v3 v4 (v5 + 1) else ((f_X8_ones F w32 (w32.1 23 0 17)).bind fun r34 => f_X8_mostBy_L10 F n w32 v1 v2 r34 v4 (v5 + 1)))))))))))))
def f_X8_mostBy_L4 (F : Nat) : Nat → pm_W → Int32 → Int32 → Int32 → Int32 → Option (Int32 × Int32 × pm_W)
  | 0, _, _, _, _, _ => none
  | n + 1, w, v1, v2, v3, v4 => ((f_X8_ones F w v1).bind fun r1 => (if r1 < v4 then some (v3, v4, w) else ((f_X8_mostBy_L10 F F w v1 v2 v3 v4 0).bind fun x37 => f_X8_mostBy_L4 F n x37.2.2 v1 v2 x37.1 (v4 + 1))))
def f_X8_mostBy (F : Nat) (w : pm_W) (a1 : Int32) (a2 : Int32) : Option ((Int32 × pm_W)) := ((f_X8_mostBy_L4 F F w a1 a2 (-9) 0).bind fun x39 => some (x39.1, x39.2.2))
set_option maxRecDepth 20000 in
set_option maxHeartbeats 4000000 in
theorem a_X8_mostBy_L28 (F : Nat) (d : Nat) (hd : 3 ≤ d) (Q : pm_Q) : ∀ (n : Nat) (w : pm_W) (v1 : Int32) (v2 : Int32) (v3 : Int32) (v4 : Int32) (v5 : Int32) (v6 : Int32) (v7 : Int32) (v8 : Int32) (x : Int32 × Int32 × Int32 × pm_W), f_X8_mostBy_L28 F n w v1 v2 v3 v4 v5 v6 v7 v8 = some x → pm_Gx (RT d) co_X8_mostBy 58 [some (.inr (.inr (19, 0))), some (.inl v1), some (.inl v2), some (.inl v3), some (.inl v4), some (.inl v5), some (.inl x.1), some (.inl x.2.1), some (.inl x.2.2.1), none] [] x.2.2.2 Q → pm_Gx (RT d) co_X8_mostBy 28 [some (.inr (.inr (19, 0))), some (.inl v1), some (.inl v2), some (.inl v3), some (.inl v4), some (.inl v5), some (.inl v6), some (.inl v7), some (.inl v8), none] [] w Q := by
  intro n
  induction n with
  | zero =>
    intro w v1 v2 v3 v4 v5 v6 v7 v8 x hf
    cases hf
  | succ n ih =>
    intro w v1 v2 v3 v4 v5 v6 v7 v8 x hf hk
    rw [f_X8_mostBy_L28] at hf
    refine pm_go (i2 := 30) (ls2 := [some (.inr (.inr (19, 0))), some (.inl v1), some (.inl v2), some (.inl v3), some (.inl v4), some (.inl v5), some (.inl v6), some (.inl v7), some (.inl v8), none]) (st2 := [.inl v4, .inl v8]) (w2 := w) 2 (fun F h => h) ?_
    refine pm_if (P := v4 ≤ v8) (i2 := 58) (i3 := 31) (ls2 := [some (.inr (.inr (19, 0))), some (.inl v1), some (.inl v2), some (.inl v3), some (.inl v4), some (.inl v5), some (.inl v6), some (.inl v7), some (.inl v8), none]) (st2 := []) (w2 := w) 1 (fun F h => h) (fun hc10 => ?_) (fun hc10 => ?_)
    · rw [if_pos hc10] at hf
      obtain rfl := Option.some.inj hf
      exact hk
    · rw [if_neg hc10] at hf
      refine pm_go (i2 := 32) (ls2 := [some (.inr (.inr (19, 0))), some (.inl v1), some (.inl v2), some (.inl v3), some (.inl v4), some (.inl v5), some (.inl v6), some (.inl v7), some (.inl v8), none]) (st2 := [.inl v7]) (w2 := w) 1 (fun F h => h) ?_
      refine pm_if (P := v7 = 0) (i2 := 58) (i3 := 33) (ls2 := [some (.inr (.inr (19, 0))), some (.inl v1), some (.inl v2), some (.inl v3), some (.inl v4), some (.inl v5), some (.inl v6), some (.inl v7), some (.inl v8), none]) (st2 := []) (w2 := w) 1 (fun F h => h) (fun hc11 => ?_) (fun hc11 => ?_)
      · rw [if_pos hc11] at hf
        obtain rfl := Option.some.inj hf
        exact hk
      · rw [if_neg hc11] at hf
        refine pm_go (i2 := 36) (ls2 := [some (.inr (.inr (19, 0))), some (.inl v1), some (.inl v2), some (.inl v3), some (.inl v4), some (.inl v5), some (.inl v6), some (.inl v7), some (.inl v8), none]) (st2 := [.inl v8, .inl v4, .inl v5]) (w2 := w) 3 (fun F h => h) ?_
        obtain ⟨r12, hr13, hf⟩ := Option.bind_eq_some_iff.mp hf
        refine pm_ca (y := 118) (as := [.inl v5, .inl v4, .inl v8]) (r := some (.inl r12)) (w2 := w) (w1 := w) (t := []) (i2 := 37) (ls2 := [some (.inr (.inr (19, 0))), some (.inl v1), some (.inl v2), some (.inl v3), some (.inl v4), some (.inl v5), some (.inl v6), some (.inl v7), some (.inl v8), none]) 1 (a_X8_figureOf F w v5 v4 v8 r12 d (by omega) hr13) (fun F h => h) ?_
        show pm_Gx (RT d) co_X8_mostBy 37 [some (.inr (.inr (19, 0))), some (.inl v1), some (.inl v2), some (.inl v3), some (.inl v4), some (.inl v5), some (.inl v6), some (.inl v7), some (.inl v8), none] [.inl r12] w Q
        refine pm_go (i2 := 40) (ls2 := [some (.inr (.inr (19, 0))), some (.inl v1), some (.inl v2), some (.inl v3), some (.inl v4), some (.inl v5), some (.inl v6), some (.inl v7), some (.inl v8), some (.inl r12)]) (st2 := [.inl r12, .inl v6]) (w2 := w) 3 (fun F h => h) ?_
        obtain ⟨r14, hr15, hf⟩ := Option.bind_eq_some_iff.mp hf
        refine pm_ca (y := 89) (as := [.inl v6, .inl r12]) (r := some (.inl r14)) (w2 := w) (w1 := w) (t := []) (i2 := 41) (ls2 := [some (.inr (.inr (19, 0))), some (.inl v1), some (.inl v2), some (.inl v3), some (.inl v4), some (.inl v5), some (.inl v6), some (.inl v7), some (.inl v8), some (.inl r12)]) 1 (a_X8_has F w v6 r12 r14 d (by omega) hr15) (fun F h => h) ?_
        show pm_Gx (RT d) co_X8_mostBy 41 [some (.inr (.inr (19, 0))), some (.inl v1), some (.inl v2), some (.inl v3), some (.inl v4), some (.inl v5), some (.inl v6), some (.inl v7), some (.inl v8), some (.inl r12)] [.inl r14] w Q
        refine pm_go (i2 := 43) (ls2 := [some (.inr (.inr (19, 0))), some (.inl v1), some (.inl v2), some (.inl v3), some (.inl v4), some (.inl v5), some (.inl v6), some (.inl r14), some (.inl v8), some (.inl r12)]) (st2 := [.inl r14]) (w2 := w) 2 (fun F h => h) ?_
        refine pm_if (P := r14 = 0) (i2 := 56) (i3 := 44) (ls2 := [some (.inr (.inr (19, 0))), some (.inl v1), some (.inl v2), some (.inl v3), some (.inl v4), some (.inl v5), some (.inl v6), some (.inl r14), some (.inl v8), some (.inl r12)]) (st2 := []) (w2 := w) 1 (fun F h => h) (fun hc16 => ?_) (fun hc16 => ?_)
        · rw [if_pos hc16] at hf
          refine pm_go (i2 := 28) (ls2 := [some (.inr (.inr (19, 0))), some (.inl v1), some (.inl v2), some (.inl v3), some (.inl v4), some (.inl v5), some (.inl v6), some (.inl r14), some (.inl (v8 + 1)), some (.inl r12)]) (st2 := []) (w2 := w) 2 (fun F h => h) ?_
          refine pm_wk (ls := [some (.inr (.inr (19, 0))), some (.inl v1), some (.inl v2), some (.inl v3), some (.inl v4), some (.inl v5), some (.inl v6), some (.inl r14), some (.inl (v8 + 1)), none]) ⟨.inr rfl, .inr rfl, .inr rfl, .inr rfl, .inr rfl, .inr rfl, .inr rfl, .inr rfl, .inr rfl, .inl rfl, trivial⟩ ?_
          exact ih w v1 v2 v3 v4 v5 v6 r14 (v8 + 1) _ hf hk
        · rw [if_neg hc16] at hf
          refine pm_go (i2 := 55) (ls2 := [some (.inr (.inr (19, 0))), some (.inl v1), some (.inl v2), some (.inl v3), some (.inl v4), some (.inl v5), some (.inl (v6 &&& ((1 <<< (r12 &&& 31)) ^^^ (-1)))), some (.inl r14), some (.inl v8), some (.inl r12)]) (st2 := [.inl r12, .inl 1, .inr (.inr (19, 0))]) (w2 := w) 11 (fun F h => h) ?_
          obtain ⟨r17, hr18, hf⟩ := Option.bind_eq_some_iff.mp hf
          refine pm_ca (y := 109) (as := [.inr (.inr (19, 0)), .inl 1, .inl r12]) (r := none) (w2 := w) (w1 := r17) (t := []) (i2 := 56) (ls2 := [some (.inr (.inr (19, 0))), some (.inl v1), some (.inl v2), some (.inl v3), some (.inl v4), some (.inl v5), some (.inl (v6 &&& ((1 <<< (r12 &&& 31)) ^^^ (-1)))), some (.inl r14), some (.inl v8), some (.inl r12)]) 1 (a_X8_passOn F w 1 r12 r17 d (by omega) hr18) (fun F h => h) ?_
          show pm_Gx (RT d) co_X8_mostBy 56 [some (.inr (.inr (19, 0))), some (.inl v1), some (.inl v2), some (.inl v3), some (.inl v4), some (.inl v5), some (.inl (v6 &&& ((1 <<< (r12 &&& 31)) ^^^ (-1)))), some (.inl r14), some (.inl v8), some (.inl r12)] [] r17 Q
          refine pm_go (i2 := 28) (ls2 := [some (.inr (.inr (19, 0))), some (.inl v1), some (.inl v2), some (.inl v3), some (.inl v4), some (.inl v5), some (.inl (v6 &&& ((1 <<< (r12 &&& 31)) ^^^ (-1)))), some (.inl r14), some (.inl (v8 + 1)), some (.inl r12)]) (st2 := []) (w2 := r17) 2 (fun F h => h) ?_
          refine pm_wk (ls := [some (.inr (.inr (19, 0))), some (.inl v1), some (.inl v2), some (.inl v3), some (.inl v4), some (.inl v5), some (.inl (v6 &&& ((1 <<< (r12 &&& 31)) ^^^ (-1)))), some (.inl r14), some (.inl (v8 + 1)), none]) ⟨.inr rfl, .inr rfl, .inr rfl, .inr rfl, .inr rfl, .inr rfl, .inr rfl, .inr rfl, .inr rfl, .inl rfl, trivial⟩ ?_
          exact ih r17 v1 v2 v3 v4 v5 (v6 &&& ((1 <<< (r12 &&& 31)) ^^^ (-1))) r14 (v8 + 1) _ hf hk
set_option maxRecDepth 20000 in
set_option maxHeartbeats 4000000 in
theorem a_X8_mostBy_L10 (F : Nat) (d : Nat) (hd : 3 ≤ d) (Q : pm_Q) : ∀ (n : Nat) (w : pm_W) (v1 : Int32) (v2 : Int32) (v3 : Int32) (v4 : Int32) (v5 : Int32) (x : Int32 × Int32 × pm_W), f_X8_mostBy_L10 F n w v1 v2 v3 v4 v5 = some x → pm_Gx (RT d) co_X8_mostBy 93 [some (.inr (.inr (19, 0))), some (.inl v1), some (.inl v2), some (.inl x.1), some (.inl v4), some (.inl x.2.1), none, none, none, none] [] x.2.2 Q → pm_Gx (RT d) co_X8_mostBy 10 [some (.inr (.inr (19, 0))), some (.inl v1), some (.inl v2), some (.inl v3), some (.inl v4), some (.inl v5), none, none, none, none] [] w Q := by
  intro n
  induction n with
  | zero =>
    intro w v1 v2 v3 v4 v5 x hf
    cases hf
  | succ n ih =>
    intro w v1 v2 v3 v4 v5 x hf hk
    rw [f_X8_mostBy_L10] at hf
    refine pm_go (i2 := 13) (ls2 := [some (.inr (.inr (19, 0))), some (.inl v1), some (.inl v2), some (.inl v3), some (.inl v4), some (.inl v5), none, none, none, none]) (st2 := [.inl v4, .inl 6, .inl v5]) (w2 := w) 3 (fun F h => h) ?_
    obtain ⟨r4, hr5, hf⟩ := Option.bind_eq_some_iff.mp hf
    refine pm_ca (y := 117) (as := [.inl 6, .inl v4]) (r := some (.inl r4)) (w2 := w) (w1 := w) (t := [.inl v5]) (i2 := 14) (ls2 := [some (.inr (.inr (19, 0))), some (.inl v1), some (.inl v2), some (.inl v3), some (.inl v4), some (.inl v5), none, none, none, none]) 1 (a_X8_power F w 6 v4 r4 d (by omega) hr5) (fun F h => h) ?_
    show pm_Gx (RT d) co_X8_mostBy 14 [some (.inr (.inr (19, 0))), some (.inl v1), some (.inl v2), some (.inl v3), some (.inl v4), some (.inl v5), none, none, none, none] [.inl r4, .inl v5] w Q
    refine pm_if (P := r4 ≤ v5) (i2 := 93) (i3 := 15) (ls2 := [some (.inr (.inr (19, 0))), some (.inl v1), some (.inl v2), some (.inl v3), some (.inl v4), some (.inl v5), none, none, none, none]) (st2 := []) (w2 := w) 1 (fun F h => h) (fun hc6 => ?_) (fun hc6 => ?_)
    · rw [if_pos hc6] at hf
      obtain rfl := Option.some.inj hf
      exact hk
    · rw [if_neg hc6] at hf
      refine pm_go (i2 := 16) (ls2 := [some (.inr (.inr (19, 0))), some (.inl v1), some (.inl v2), some (.inl v3), some (.inl v4), some (.inl v5), none, none, none, none]) (st2 := [.inr (.inr (19, 0))]) (w2 := w) 1 (fun F h => h) ?_
      obtain ⟨r7, hr8, hf⟩ := Option.bind_eq_some_iff.mp hf
      refine pm_ca (y := 116) (as := [.inr (.inr (19, 0))]) (r := none) (w2 := w) (w1 := r7) (t := []) (i2 := 17) (ls2 := [some (.inr (.inr (19, 0))), some (.inl v1), some (.inl v2), some (.inl v3), some (.inl v4), some (.inl v5), none, none, none, none]) 1 (a_X8_layTrial F w r7 d (by omega) hr8) (fun F h => h) ?_
      show pm_Gx (RT d) co_X8_mostBy 17 [some (.inr (.inr (19, 0))), some (.inl v1), some (.inl v2), some (.inl v3), some (.inl v4), some (.inl v5), none, none, none, none] [] r7 Q
      refine pm_go (i2 := 22) (ls2 := [some (.inr (.inr (19, 0))), some (.inl v1), some (.inl v2), some (.inl v3), some (.inl v4), some (.inl v5), none, none, none, none]) (st2 := []) (w2 := (pm_setI r7 23 0 17 v2)) 5 (fun F h => ⟨(pm_inb_in (by decide)), h⟩) ?_
      generalize (pm_setI r7 23 0 17 v2) = w9 at hf ⊢
      replace hf := pm_wlet_un hf
      refine pm_go (i2 := 28) (ls2 := [some (.inr (.inr (19, 0))), some (.inl v1), some (.inl v2), some (.inl v3), some (.inl v4), some (.inl v5), some (.inl v1), some (.inl 1), some (.inl 0), none]) (st2 := []) (w2 := w9) 6 (fun F h => h) ?_
      obtain ⟨x19, hx20, hf⟩ := Option.bind_eq_some_iff.mp hf
      refine a_X8_mostBy_L28 F d hd Q F w9 v1 v2 v3 v4 v5 v1 1 0 x19 hx20 ?_
      refine pm_go (i2 := 59) (ls2 := [some (.inr (.inr (19, 0))), some (.inl v1), some (.inl v2), some (.inl v3), some (.inl v4), some (.inl v5), some (.inl x19.1), some (.inl x19.2.1), some (.inl x19.2.2.1), none]) (st2 := [.inl x19.2.1]) (w2 := x19.2.2.2) 1 (fun F h => h) ?_
      refine pm_if (P := x19.2.1 = 0) (i2 := 69) (i3 := 60) (ls2 := [some (.inr (.inr (19, 0))), some (.inl v1), some (.inl v2), some (.inl v3), some (.inl v4), some (.inl v5), some (.inl x19.1), some (.inl x19.2.1), some (.inl x19.2.2.1), none]) (st2 := []) (w2 := x19.2.2.2) 1 (fun F h => h) (fun hc21 => ?_) (fun hc21 => ?_)
      · rw [if_pos hc21] at hf
        refine pm_go (i2 := 73) (ls2 := [some (.inr (.inr (19, 0))), some (.inl v1), some (.inl v2), some (.inl v3), some (.inl v4), some (.inl v5), some (.inl x19.1), some (.inl x19.2.1), some (.inl 0), none]) (st2 := [.inl 0, .inr (.inr (19, 0))]) (w2 := x19.2.2.2) 4 (fun F h => h) ?_
        refine pm_ift (P := (0 : Int32) = 0) (i2 := 78) (i3 := 74) (ls2 := [some (.inr (.inr (19, 0))), some (.inl v1), some (.inl v2), some (.inl v3), some (.inl v4), some (.inl v5), some (.inl x19.1), some (.inl x19.2.1), some (.inl 0), none]) (st2 := [.inr (.inr (19, 0))]) (w2 := x19.2.2.2) 1 (fun F h => h) (by decide) ?_
        refine pm_go (i2 := 81) (ls2 := [some (.inr (.inr (19, 0))), some (.inl v1), some (.inl v2), some (.inl v3), some (.inl v4), some (.inl v5), some (.inl x19.1), some (.inl x19.2.1), some (.inl 0), none]) (st2 := []) (w2 := (pm_setI x19.2.2.2 19 0 22 (x19.2.2.2.1 19 0 22))) 3 (fun F h => h) ?_
        generalize (pm_setI x19.2.2.2 19 0 22 (x19.2.2.2.1 19 0 22)) = w22 at hf ⊢
        replace hf := pm_wlet_un hf
        refine pm_go (i2 := 82) (ls2 := [some (.inr (.inr (19, 0))), some (.inl v1), some (.inl v2), some (.inl v3), some (.inl v4), some (.inl v5), some (.inl x19.1), some (.inl x19.2.1), some (.inl 0), none]) (st2 := [.inl 0]) (w2 := w22) 1 (fun F h => h) ?_
        refine pm_ift (P := (0 : Int32) = 0) (i2 := 89) (i3 := 83) (ls2 := [some (.inr (.inr (19, 0))), some (.inl v1), some (.inl v2), some (.inl v3), some (.inl v4), some (.inl v5), some (.inl x19.1), some (.inl x19.2.1), some (.inl 0), none]) (st2 := []) (w2 := w22) 1 (fun F h => h) (by decide) ?_
        refine pm_go (i2 := 10) (ls2 := [some (.inr (.inr (19, 0))), some (.inl v1), some (.inl v2), some (.inl v3), some (.inl v4), some (.inl (v5 + 1)), some (.inl x19.1), some (.inl x19.2.1), some (.inl 0), none]) (st2 := []) (w2 := w22) 4 (fun F h => h) ?_
        refine pm_wk (ls := [some (.inr (.inr (19, 0))), some (.inl v1), some (.inl v2), some (.inl v3), some (.inl v4), some (.inl (v5 + 1)), none, none, none, none]) ⟨.inr rfl, .inr rfl, .inr rfl, .inr rfl, .inr rfl, .inr rfl, .inl rfl, .inl rfl, .inl rfl, .inl rfl, trivial⟩ ?_
        exact ih w22 v1 v2 v3 v4 (v5 + 1) _ hf hk
      · rw [if_neg hc21] at hf
        refine pm_go (i2 := 64) (ls2 := [some (.inr (.inr (19, 0))), some (.inl v1), some (.inl v2), some (.inl v3), some (.inl v4), some (.inl v5), some (.inl x19.1), some (.inl x19.2.1), some (.inl x19.2.2.1), none]) (st2 := [.inl (x19.2.2.2.1 23 0 17)]) (w2 := x19.2.2.2) 4 (fun F h => ⟨(pm_inb_in (by decide)), h⟩) ?_
        obtain ⟨r23, hr24, hf⟩ := Option.bind_eq_some_iff.mp hf
        refine pm_ca (y := 90) (as := [.inl (x19.2.2.2.1 23 0 17)]) (r := some (.inl r23)) (w2 := x19.2.2.2) (w1 := x19.2.2.2) (t := []) (i2 := 65) (ls2 := [some (.inr (.inr (19, 0))), some (.inl v1), some (.inl v2), some (.inl v3), some (.inl v4), some (.inl v5), some (.inl x19.1), some (.inl x19.2.1), some (.inl x19.2.2.1), none]) 1 (a_X8_ones F x19.2.2.2 (x19.2.2.2.1 23 0 17) r23 d (by omega) hr24) (fun F h => h) ?_
        show pm_Gx (RT d) co_X8_mostBy 65 [some (.inr (.inr (19, 0))), some (.inl v1), some (.inl v2), some (.inl v3), some (.inl v4), some (.inl v5), some (.inl x19.1), some (.inl x19.2.1), some (.inl x19.2.2.1), none] [.inl r23] x19.2.2.2 Q
        refine pm_go (i2 := 66) (ls2 := [some (.inr (.inr (19, 0))), some (.inl v1), some (.inl v2), some (.inl v3), some (.inl v4), some (.inl v5), some (.inl x19.1), some (.inl x19.2.1), some (.inl x19.2.2.1), none]) (st2 := [.inl v3, .inl r23]) (w2 := x19.2.2.2) 1 (fun F h => h) ?_
        have key : pm_Gx (RT d) co_X8_mostBy 70 [some (.inr (.inr (19, 0))), some (.inl v1), some (.inl v2), some (.inl v3), some (.inl v4), some (.inl v5), some (.inl x19.1), some (.inl x19.2.1), some (.inl x19.2.2.1), none] [.inl (if r23 ≤ v3 then 0 else 1 : Int32)] x19.2.2.2 Q := by
          refine pm_go (i2 := 73) (ls2 := [some (.inr (.inr (19, 0))), some (.inl v1), some (.inl v2), some (.inl v3), some (.inl v4), some (.inl v5), some (.inl x19.1), some (.inl x19.2.1), some (.inl (if r23 ≤ v3 then 0 else 1 : Int32)), none]) (st2 := [.inl (if r23 ≤ v3 then 0 else 1 : Int32), .inr (.inr (19, 0))]) (w2 := x19.2.2.2) 3 (fun F h => h) ?_
          refine pm_if (P := (if r23 ≤ v3 then 0 else 1 : Int32) = 0) (i2 := 78) (i3 := 74) (ls2 := [some (.inr (.inr (19, 0))), some (.inl v1), some (.inl v2), some (.inl v3), some (.inl v4), some (.inl v5), some (.inl x19.1), some (.inl x19.2.1), some (.inl (if r23 ≤ v3 then 0 else 1 : Int32)), none]) (st2 := [.inr (.inr (19, 0))]) (w2 := x19.2.2.2) 1 (fun F h => h) (fun hc25 => ?_) (fun hc25 => ?_)
          · rw [if_pos hc25] at hf
            refine pm_go (i2 := 81) (ls2 := [some (.inr (.inr (19, 0))), some (.inl v1), some (.inl v2), some (.inl v3), some (.inl v4), some (.inl v5), some (.inl x19.1), some (.inl x19.2.1), some (.inl (if r23 ≤ v3 then 0 else 1 : Int32)), none]) (st2 := []) (w2 := (pm_setI x19.2.2.2 19 0 22 (x19.2.2.2.1 19 0 22))) 3 (fun F h => h) ?_
            generalize (pm_setI x19.2.2.2 19 0 22 (x19.2.2.2.1 19 0 22)) = w26 at hf ⊢
            replace hf := pm_wlet_un hf
            refine pm_go (i2 := 82) (ls2 := [some (.inr (.inr (19, 0))), some (.inl v1), some (.inl v2), some (.inl v3), some (.inl v4), some (.inl v5), some (.inl x19.1), some (.inl x19.2.1), some (.inl (if r23 ≤ v3 then 0 else 1 : Int32)), none]) (st2 := [.inl (if r23 ≤ v3 then 0 else 1 : Int32)]) (w2 := w26) 1 (fun F h => h) ?_
            refine pm_if (P := (if r23 ≤ v3 then 0 else 1 : Int32) = 0) (i2 := 89) (i3 := 83) (ls2 := [some (.inr (.inr (19, 0))), some (.inl v1), some (.inl v2), some (.inl v3), some (.inl v4), some (.inl v5), some (.inl x19.1), some (.inl x19.2.1), some (.inl (if r23 ≤ v3 then 0 else 1 : Int32)), none]) (st2 := []) (w2 := w26) 1 (fun F h => h) (fun hc27 => ?_) (fun hc27 => ?_)
            · rw [if_pos hc27] at hf
              refine pm_go (i2 := 10) (ls2 := [some (.inr (.inr (19, 0))), some (.inl v1), some (.inl v2), some (.inl v3), some (.inl v4), some (.inl (v5 + 1)), some (.inl x19.1), some (.inl x19.2.1), some (.inl (if r23 ≤ v3 then 0 else 1 : Int32)), none]) (st2 := []) (w2 := w26) 4 (fun F h => h) ?_
              refine pm_wk (ls := [some (.inr (.inr (19, 0))), some (.inl v1), some (.inl v2), some (.inl v3), some (.inl v4), some (.inl (v5 + 1)), none, none, none, none]) ⟨.inr rfl, .inr rfl, .inr rfl, .inr rfl, .inr rfl, .inr rfl, .inl rfl, .inl rfl, .inl rfl, .inl rfl, trivial⟩ ?_
              exact ih w26 v1 v2 v3 v4 (v5 + 1) _ hf hk
            · rw [if_neg hc27] at hf
              refine pm_go (i2 := 87) (ls2 := [some (.inr (.inr (19, 0))), some (.inl v1), some (.inl v2), some (.inl v3), some (.inl v4), some (.inl v5), some (.inl x19.1), some (.inl x19.2.1), some (.inl (if r23 ≤ v3 then 0 else 1 : Int32)), none]) (st2 := [.inl (w26.1 23 0 17)]) (w2 := w26) 4 (fun F h => ⟨(pm_inb_in (by decide)), h⟩) ?_
              obtain ⟨r28, hr29, hf⟩ := Option.bind_eq_some_iff.mp hf
              refine pm_ca (y := 90) (as := [.inl (w26.1 23 0 17)]) (r := some (.inl r28)) (w2 := w26) (w1 := w26) (t := []) (i2 := 88) (ls2 := [some (.inr (.inr (19, 0))), some (.inl v1), some (.inl v2), some (.inl v3), some (.inl v4), some (.inl v5), some (.inl x19.1), some (.inl x19.2.1), some (.inl (if r23 ≤ v3 then 0 else 1 : Int32)), none]) 1 (a_X8_ones F w26 (w26.1 23 0 17) r28 d (by omega) hr29) (fun F h => h) ?_
              show pm_Gx (RT d) co_X8_mostBy 88 [some (.inr (.inr (19, 0))), some (.inl v1), some (.inl v2), some (.inl v3), some (.inl v4), some (.inl v5), some (.inl x19.1), some (.inl x19.2.1), some (.inl (if r23 ≤ v3 then 0 else 1 : Int32)), none] [.inl r28] w26 Q
              refine pm_go (i2 := 10) (ls2 := [some (.inr (.inr (19, 0))), some (.inl v1), some (.inl v2), some (.inl r28), some (.inl v4), some (.inl (v5 + 1)), some (.inl x19.1), some (.inl x19.2.1), some (.inl (if r23 ≤ v3 then 0 else 1 : Int32)), none]) (st2 := []) (w2 := w26) 4 (fun F h => h) ?_
              refine pm_wk (ls := [some (.inr (.inr (19, 0))), some (.inl v1), some (.inl v2), some (.inl r28), some (.inl v4), some (.inl (v5 + 1)), none, none, none, none]) ⟨.inr rfl, .inr rfl, .inr rfl, .inr rfl, .inr rfl, .inr rfl, .inl rfl, .inl rfl, .inl rfl, .inl rfl, trivial⟩ ?_
              exact ih w26 v1 v2 r28 v4 (v5 + 1) _ hf hk
          · rw [if_neg hc25] at hf
            refine pm_go (i2 := 76) (ls2 := [some (.inr (.inr (19, 0))), some (.inl v1), some (.inl v2), some (.inl v3), some (.inl v4), some (.inl v5), some (.inl x19.1), some (.inl x19.2.1), some (.inl (if r23 ≤ v3 then 0 else 1 : Int32)), none]) (st2 := [.inl v4, .inl v5, .inr (.inr (19, 0))]) (w2 := x19.2.2.2) 2 (fun F h => h) ?_
            obtain ⟨r30, hr31, hf⟩ := Option.bind_eq_some_iff.mp hf
            refine pm_ca (y := 119) (as := [.inl v5, .inl v4]) (r := some (.inl r30)) (w2 := x19.2.2.2) (w1 := x19.2.2.2) (t := [.inr (.inr (19, 0))]) (i2 := 77) (ls2 := [some (.inr (.inr (19, 0))), some (.inl v1), some (.inl v2), some (.inl v3), some (.inl v4), some (.inl v5), some (.inl x19.1), some (.inl x19.2.1), some (.inl (if r23 ≤ v3 then 0 else 1 : Int32)), none]) 1 (a_X8_told F x19.2.2.2 v5 v4 r30 d (by omega) hr31) (fun F h => h) ?_
            show pm_Gx (RT d) co_X8_mostBy 77 [some (.inr (.inr (19, 0))), some (.inl v1), some (.inl v2), some (.inl v3), some (.inl v4), some (.inl v5), some (.inl x19.1), some (.inl x19.2.1), some (.inl (if r23 ≤ v3 then 0 else 1 : Int32)), none] [.inl r30, .inr (.inr (19, 0))] x19.2.2.2 Q
            refine pm_go (i2 := 81) (ls2 := [some (.inr (.inr (19, 0))), some (.inl v1), some (.inl v2), some (.inl v3), some (.inl v4), some (.inl v5), some (.inl x19.1), some (.inl x19.2.1), some (.inl (if r23 ≤ v3 then 0 else 1 : Int32)), none]) (st2 := []) (w2 := (pm_setI x19.2.2.2 19 0 22 r30)) 2 (fun F h => h) ?_
            generalize (pm_setI x19.2.2.2 19 0 22 r30) = w32 at hf ⊢
            replace hf := pm_wlet_un hf
            refine pm_go (i2 := 82) (ls2 := [some (.inr (.inr (19, 0))), some (.inl v1), some (.inl v2), some (.inl v3), some (.inl v4), some (.inl v5), some (.inl x19.1), some (.inl x19.2.1), some (.inl (if r23 ≤ v3 then 0 else 1 : Int32)), none]) (st2 := [.inl (if r23 ≤ v3 then 0 else 1 : Int32)]) (w2 := w32) 1 (fun F h => h) ?_
            refine pm_if (P := (if r23 ≤ v3 then 0 else 1 : Int32) = 0) (i2 := 89) (i3 := 83) (ls2 := [some (.inr (.inr (19, 0))), some (.inl v1), some (.inl v2), some (.inl v3), some (.inl v4), some (.inl v5), some (.inl x19.1), some (.inl x19.2.1), some (.inl (if r23 ≤ v3 then 0 else 1 : Int32)), none]) (st2 := []) (w2 := w32) 1 (fun F h => h) (fun hc33 => ?_) (fun hc33 => ?_)
            · rw [if_pos hc33] at hf
              refine pm_go (i2 := 10) (ls2 := [some (.inr (.inr (19, 0))), some (.inl v1), some (.inl v2), some (.inl v3), some (.inl v4), some (.inl (v5 + 1)), some (.inl x19.1), some (.inl x19.2.1), some (.inl (if r23 ≤ v3 then 0 else 1 : Int32)), none]) (st2 := []) (w2 := w32) 4 (fun F h => h) ?_
              refine pm_wk (ls := [some (.inr (.inr (19, 0))), some (.inl v1), some (.inl v2), some (.inl v3), some (.inl v4), some (.inl (v5 + 1)), none, none, none, none]) ⟨.inr rfl, .inr rfl, .inr rfl, .inr rfl, .inr rfl, .inr rfl, .inl rfl, .inl rfl, .inl rfl, .inl rfl, trivial⟩ ?_
              exact ih w32 v1 v2 v3 v4 (v5 + 1) _ hf hk
            · rw [if_neg hc33] at hf
              refine pm_go (i2 := 87) (ls2 := [some (.inr (.inr (19, 0))), some (.inl v1), some (.inl v2), some (.inl v3), some (.inl v4), some (.inl v5), some (.inl x19.1), some (.inl x19.2.1), some (.inl (if r23 ≤ v3 then 0 else 1 : Int32)), none]) (st2 := [.inl (w32.1 23 0 17)]) (w2 := w32) 4 (fun F h => ⟨(pm_inb_in (by decide)), h⟩) ?_
              obtain ⟨r34, hr35, hf⟩ := Option.bind_eq_some_iff.mp hf
              refine pm_ca (y := 90) (as := [.inl (w32.1 23 0 17)]) (r := some (.inl r34)) (w2 := w32) (w1 := w32) (t := []) (i2 := 88) (ls2 := [some (.inr (.inr (19, 0))), some (.inl v1), some (.inl v2), some (.inl v3), some (.inl v4), some (.inl v5), some (.inl x19.1), some (.inl x19.2.1), some (.inl (if r23 ≤ v3 then 0 else 1 : Int32)), none]) 1 (a_X8_ones F w32 (w32.1 23 0 17) r34 d (by omega) hr35) (fun F h => h) ?_
              show pm_Gx (RT d) co_X8_mostBy 88 [some (.inr (.inr (19, 0))), some (.inl v1), some (.inl v2), some (.inl v3), some (.inl v4), some (.inl v5), some (.inl x19.1), some (.inl x19.2.1), some (.inl (if r23 ≤ v3 then 0 else 1 : Int32)), none] [.inl r34] w32 Q
              refine pm_go (i2 := 10) (ls2 := [some (.inr (.inr (19, 0))), some (.inl v1), some (.inl v2), some (.inl r34), some (.inl v4), some (.inl (v5 + 1)), some (.inl x19.1), some (.inl x19.2.1), some (.inl (if r23 ≤ v3 then 0 else 1 : Int32)), none]) (st2 := []) (w2 := w32) 4 (fun F h => h) ?_
              refine pm_wk (ls := [some (.inr (.inr (19, 0))), some (.inl v1), some (.inl v2), some (.inl r34), some (.inl v4), some (.inl (v5 + 1)), none, none, none, none]) ⟨.inr rfl, .inr rfl, .inr rfl, .inr rfl, .inr rfl, .inr rfl, .inl rfl, .inl rfl, .inl rfl, .inl rfl, trivial⟩ ?_
              exact ih w32 v1 v2 r34 v4 (v5 + 1) _ hf hk
        clear hf
        refine pm_if (P := r23 ≤ v3) (i2 := 69) (i3 := 67) (ls2 := [some (.inr (.inr (19, 0))), some (.inl v1), some (.inl v2), some (.inl v3), some (.inl v4), some (.inl v5), some (.inl x19.1), some (.inl x19.2.1), some (.inl x19.2.2.1), none]) (st2 := []) (w2 := x19.2.2.2) 1 (fun F h => h) (fun hc36 => ?_) (fun hc36 => ?_)
        · try simp only [if_pos hc36] at key
          refine pm_go (i2 := 70) (ls2 := [some (.inr (.inr (19, 0))), some (.inl v1), some (.inl v2), some (.inl v3), some (.inl v4), some (.inl v5), some (.inl x19.1), some (.inl x19.2.1), some (.inl x19.2.2.1), none]) (st2 := [.inl 0]) (w2 := x19.2.2.2) 1 (fun F h => h) ?_
          exact key
        · try simp only [if_neg hc36] at key
          refine pm_go (i2 := 70) (ls2 := [some (.inr (.inr (19, 0))), some (.inl v1), some (.inl v2), some (.inl v3), some (.inl v4), some (.inl v5), some (.inl x19.1), some (.inl x19.2.1), some (.inl x19.2.2.1), none]) (st2 := [.inl 1]) (w2 := x19.2.2.2) 2 (fun F h => h) ?_
          exact key
set_option maxRecDepth 20000 in
set_option maxHeartbeats 4000000 in
theorem a_X8_mostBy_L4 (F : Nat) (d : Nat) (hd : 3 ≤ d) (Q : pm_Q) : ∀ (n : Nat) (w : pm_W) (v1 : Int32) (v2 : Int32) (v3 : Int32) (v4 : Int32) (x : Int32 × Int32 × pm_W), f_X8_mostBy_L4 F n w v1 v2 v3 v4 = some x → pm_Gx (RT d) co_X8_mostBy 95 [some (.inr (.inr (19, 0))), some (.inl v1), some (.inl v2), some (.inl x.1), some (.inl x.2.1), none, none, none, none, none] [] x.2.2 Q → pm_Gx (RT d) co_X8_mostBy 4 [some (.inr (.inr (19, 0))), some (.inl v1), some (.inl v2), some (.inl v3), some (.inl v4), none, none, none, none, none] [] w Q := by
  intro n
  induction n with
  | zero =>
    intro w v1 v2 v3 v4 x hf
    cases hf
  | succ n ih =>
    intro w v1 v2 v3 v4 x hf hk
    rw [f_X8_mostBy_L4] at hf
    refine pm_go (i2 := 6) (ls2 := [some (.inr (.inr (19, 0))), some (.inl v1), some (.inl v2), some (.inl v3), some (.inl v4), none, none, none, none, none]) (st2 := [.inl v1, .inl v4]) (w2 := w) 2 (fun F h => h) ?_
    obtain ⟨r1, hr2, hf⟩ := Option.bind_eq_some_iff.mp hf
    refine pm_ca (y := 90) (as := [.inl v1]) (r := some (.inl r1)) (w2 := w) (w1 := w) (t := [.inl v4]) (i2 := 7) (ls2 := [some (.inr (.inr (19, 0))), some (.inl v1), some (.inl v2), some (.inl v3), some (.inl v4), none, none, none, none, none]) 1 (a_X8_ones F w v1 r1 d (by omega) hr2) (fun F h => h) ?_
    show pm_Gx (RT d) co_X8_mostBy 7 [some (.inr (.inr (19, 0))), some (.inl v1), some (.inl v2), some (.inl v3), some (.inl v4), none, none, none, none, none] [.inl r1, .inl v4] w Q
    refine pm_if (P := r1 < v4) (i2 := 95) (i3 := 8) (ls2 := [some (.inr (.inr (19, 0))), some (.inl v1), some (.inl v2), some (.inl v3), some (.inl v4), none, none, none, none, none]) (st2 := []) (w2 := w) 1 (fun F h => h) (fun hc3 => ?_) (fun hc3 => ?_)
    · rw [if_pos hc3] at hf
      obtain rfl := Option.some.inj hf
      exact hk
    · rw [if_neg hc3] at hf
      refine pm_go (i2 := 10) (ls2 := [some (.inr (.inr (19, 0))), some (.inl v1), some (.inl v2), some (.inl v3), some (.inl v4), some (.inl 0), none, none, none, none]) (st2 := []) (w2 := w) 2 (fun F h => h) ?_
      obtain ⟨x37, hx38, hf⟩ := Option.bind_eq_some_iff.mp hf
      refine a_X8_mostBy_L10 F d hd Q F w v1 v2 v3 v4 0 x37 hx38 ?_
      refine pm_go (i2 := 4) (ls2 := [some (.inr (.inr (19, 0))), some (.inl v1), some (.inl v2), some (.inl x37.1), some (.inl (v4 + 1)), some (.inl x37.2.1), none, none, none, none]) (st2 := []) (w2 := x37.2.2) 2 (fun F h => h) ?_
      refine pm_wk (ls := [some (.inr (.inr (19, 0))), some (.inl v1), some (.inl v2), some (.inl x37.1), some (.inl (v4 + 1)), none, none, none, none, none]) ⟨.inr rfl, .inr rfl, .inr rfl, .inr rfl, .inr rfl, .inl rfl, .inl rfl, .inl rfl, .inl rfl, .inl rfl, trivial⟩ ?_
      exact ih x37.2.2 v1 v2 x37.1 (v4 + 1) _ hf hk
set_option maxRecDepth 20000 in
set_option maxHeartbeats 4000000 in
theorem b_X8_mostBy (F : Nat) (d : Nat) (hd : 3 ≤ d) (Q : pm_Q) (w : pm_W) (a1 : Int32) (a2 : Int32) (x : (Int32 × pm_W)) (hf : f_X8_mostBy F w a1 a2 = some x) (hq : Q (some (.inl x.1)) x.2) : pm_Gx (RT d) co_X8_mostBy 0 [some (.inr (.inr (19, 0))), some (.inl a1), some (.inl a2), none, none, none, none, none, none, none] [] w Q := by
  unfold f_X8_mostBy at hf
  refine pm_go (i2 := 4) (ls2 := [some (.inr (.inr (19, 0))), some (.inl a1), some (.inl a2), some (.inl (-9)), some (.inl 0), none, none, none, none, none]) (st2 := []) (w2 := w) 4 (fun F h => h) ?_
  obtain ⟨x39, hx40, hf⟩ := Option.bind_eq_some_iff.mp hf
  refine a_X8_mostBy_L4 F d hd Q F w a1 a2 (-9) 0 x39 hx40 ?_
  refine pm_go (i2 := 96) (ls2 := [some (.inr (.inr (19, 0))), some (.inl a1), some (.inl a2), some (.inl x39.1), some (.inl x39.2.1), none, none, none, none, none]) (st2 := [.inl x39.1]) (w2 := x39.2.2) 1 (fun F h => h) ?_
  obtain rfl := Option.some.inj hf
  exact pm_re (r := some (.inl x39.1)) (w2 := x39.2.2) 1 (fun F h => h) hq
set_option maxRecDepth 20000 in
set_option maxHeartbeats 4000000 in
theorem a_X8_mostBy (F : Nat) (w : pm_W) (a1 : Int32) (a2 : Int32) (x : (Int32 × pm_W)) (d : Nat) (hd : 4 ≤ d) (hf : f_X8_mostBy F w a1 a2 = some x) : RT d 120 [.inr (.inr (19, 0)), .inl a1, .inl a2] w (some (.inl x.1)) x.2 := by
  obtain ⟨d, rfl, hd2⟩ := pm_dep hd
  exact pm_start (co := co_X8_mostBy) (nL := 10) (by decide) rfl rfl (Nat.le_of_ble_eq_true rfl) (b_X8_mostBy F d hd2 _ w a1 a2 x hf ⟨rfl, rfl⟩)
def f_X8_passes (F : Nat) (w : pm_W) (a1 : Int32) : Option ((Int32 × pm_W)) := ((f_X8_mostBy F w ((1 <<< ((w.1 19 0 0) &&& 31)) - 1) (w.1 23 0 8)).bind fun r1 => some ((if a1 = 0 then r1.1 else r1.2.1 19 0 22 : Int32), r1.2))
set_option maxRecDepth 20000 in
set_option maxHeartbeats 4000000 in
theorem b_X8_passes (F : Nat) (d : Nat) (hd : 4 ≤ d) (Q : pm_Q) (w : pm_W) (a1 : Int32) (x : (Int32 × pm_W)) (hf : f_X8_passes F w a1 = some x) (hq : Q (some (.inl x.1)) x.2) : pm_Gx (RT d) co_X8_passes 0 [some (.inr (.inr (19, 0))), some (.inl a1), none] [] w Q := by
  unfold f_X8_passes at hf
  refine pm_go (i2 := 11) (ls2 := [some (.inr (.inr (19, 0))), some (.inl a1), none]) (st2 := [.inl (w.1 23 0 8), .inl ((1 <<< ((w.1 19 0 0) &&& 31)) - 1), .inr (.inr (19, 0))]) (w2 := w) 11 (fun F h => ⟨(pm_inb_in (by decide)), h⟩) ?_
  obtain ⟨r1, hr2, hf⟩ := Option.bind_eq_some_iff.mp hf
  refine pm_ca (y := 120) (as := [.inr (.inr (19, 0)), .inl ((1 <<< ((w.1 19 0 0) &&& 31)) - 1), .inl (w.1 23 0 8)]) (r := some (.inl r1.1)) (w2 := w) (w1 := r1.2) (t := []) (i2 := 12) (ls2 := [some (.inr (.inr (19, 0))), some (.inl a1), none]) 1 (a_X8_mostBy F w ((1 <<< ((w.1 19 0 0) &&& 31)) - 1) (w.1 23 0 8) r1 d (by omega) hr2) (fun F h => h) ?_
  show pm_Gx (RT d) co_X8_passes 12 [some (.inr (.inr (19, 0))), some (.inl a1), none] [.inl r1.1] r1.2 Q
  refine pm_go (i2 := 14) (ls2 := [some (.inr (.inr (19, 0))), some (.inl a1), some (.inl r1.1)]) (st2 := [.inl a1]) (w2 := r1.2) 2 (fun F h => h) ?_
  have key : pm_Gx (RT d) co_X8_passes 19 [some (.inr (.inr (19, 0))), some (.inl a1), some (.inl r1.1)] [.inl (if a1 = 0 then r1.1 else r1.2.1 19 0 22 : Int32)] r1.2 Q := by
    obtain rfl := Option.some.inj hf
    exact pm_re (r := some (.inl (if a1 = 0 then r1.1 else r1.2.1 19 0 22 : Int32))) (w2 := r1.2) 1 (fun F h => h) hq
  clear hf
  refine pm_if (P := a1 = 0) (i2 := 18) (i3 := 15) (ls2 := [some (.inr (.inr (19, 0))), some (.inl a1), some (.inl r1.1)]) (st2 := []) (w2 := r1.2) 1 (fun F h => h) (fun hc3 => ?_) (fun hc3 => ?_)
  · try simp only [if_pos hc3] at key
    refine pm_go (i2 := 19) (ls2 := [some (.inr (.inr (19, 0))), some (.inl a1), some (.inl r1.1)]) (st2 := [.inl r1.1]) (w2 := r1.2) 1 (fun F h => h) ?_
    exact key
  · try simp only [if_neg hc3] at key
    refine pm_go (i2 := 19) (ls2 := [some (.inr (.inr (19, 0))), some (.inl a1), some (.inl r1.1)]) (st2 := [.inl (r1.2.1 19 0 22)]) (w2 := r1.2) 3 (fun F h => h) ?_
    exact key
set_option maxRecDepth 20000 in
set_option maxHeartbeats 4000000 in
theorem a_X8_passes (F : Nat) (w : pm_W) (a1 : Int32) (x : (Int32 × pm_W)) (d : Nat) (hd : 5 ≤ d) (hf : f_X8_passes F w a1 = some x) : RT d 121 [.inr (.inr (19, 0)), .inl a1] w (some (.inl x.1)) x.2 := by
  obtain ⟨d, rfl, hd2⟩ := pm_dep hd
  exact pm_start (co := co_X8_passes) (nL := 3) (by decide) rfl rfl (Nat.le_of_ble_eq_true rfl) (b_X8_passes F d hd2 _ w a1 x hf ⟨rfl, rfl⟩)
def f_X8_sayRow_L6 (F : Nat) : Nat → pm_W → Int32 → Int32 → Int32 → Int32 → Option (Int32 × Int32 × pm_W)
  | 0, _, _, _, _, _ => none
  | n + 1, w, v1, v2, v3, v4 => (if v2 ≤ v4 then some (v3, v4, w) else (if v3 = 0 then some (v3, v4, w) else ((f_X8_figureOf F w v1 v2 v4).bind fun r5 => ((f_X8_isGuest F w r5).bind fun r7 => (if r7 = 0 then f_X8_sayRow_L6 F n w v1 v2 0 (v4 + 1) else ((f_X8_canSay F w 1 r5).bind fun r10 => (if (if r10 = 0 then 0 else 1 : Int32) = 0 then f_X8_sayRow_L6 F n w v1 v2 (if r10 = 0 then 0 else 1 : Int32) (v4 + 1) else ((f_X8_sayOn F w 1 r5).bind fun r13 => f_X8_sayRow_L6 F n r13 v1 v2 (if r10 = 0 then 0 else 1 : Int32) (v4 + 1)))))))))
def f_X8_sayRow (F : Nat) (w : pm_W) (a1 : Int32) (a2 : Int32) : Option ((Int32 × pm_W)) := ((f_X8_layTrial F w).bind fun r1 => ((f_X8_sayRow_L6 F F r1 a1 a2 1 0).bind fun x16 => (if pm_isb x16.1 = true then some (x16.1, x16.2.2) else none)))
set_option maxRecDepth 20000 in
set_option maxHeartbeats 4000000 in
theorem a_X8_sayRow_L6 (F : Nat) (d : Nat) (hd : 2 ≤ d) (Q : pm_Q) : ∀ (n : Nat) (w : pm_W) (v1 : Int32) (v2 : Int32) (v3 : Int32) (v4 : Int32) (x : Int32 × Int32 × pm_W), f_X8_sayRow_L6 F n w v1 v2 v3 v4 = some x → pm_Gx (RT d) co_X8_sayRow 37 [some (.inr (.inr (19, 0))), some (.inl v1), some (.inl v2), some (.inl x.1), some (.inl x.2.1), none] [] x.2.2 Q → pm_Gx (RT d) co_X8_sayRow 6 [some (.inr (.inr (19, 0))), some (.inl v1), some (.inl v2), some (.inl v3), some (.inl v4), none] [] w Q := by
  intro n
  induction n with
  | zero =>
    intro w v1 v2 v3 v4 x hf
    cases hf
  | succ n ih =>
    intro w v1 v2 v3 v4 x hf hk
    rw [f_X8_sayRow_L6] at hf
    refine pm_go (i2 := 8) (ls2 := [some (.inr (.inr (19, 0))), some (.inl v1), some (.inl v2), some (.inl v3), some (.inl v4), none]) (st2 := [.inl v2, .inl v4]) (w2 := w) 2 (fun F h => h) ?_
    refine pm_if (P := v2 ≤ v4) (i2 := 37) (i3 := 9) (ls2 := [some (.inr (.inr (19, 0))), some (.inl v1), some (.inl v2), some (.inl v3), some (.inl v4), none]) (st2 := []) (w2 := w) 1 (fun F h => h) (fun hc3 => ?_) (fun hc3 => ?_)
    · rw [if_pos hc3] at hf
      obtain rfl := Option.some.inj hf
      exact hk
    · rw [if_neg hc3] at hf
      refine pm_go (i2 := 10) (ls2 := [some (.inr (.inr (19, 0))), some (.inl v1), some (.inl v2), some (.inl v3), some (.inl v4), none]) (st2 := [.inl v3]) (w2 := w) 1 (fun F h => h) ?_
      refine pm_if (P := v3 = 0) (i2 := 37) (i3 := 11) (ls2 := [some (.inr (.inr (19, 0))), some (.inl v1), some (.inl v2), some (.inl v3), some (.inl v4), none]) (st2 := []) (w2 := w) 1 (fun F h => h) (fun hc4 => ?_) (fun hc4 => ?_)
      · rw [if_pos hc4] at hf
        obtain rfl := Option.some.inj hf
        exact hk
      · rw [if_neg hc4] at hf
        refine pm_go (i2 := 14) (ls2 := [some (.inr (.inr (19, 0))), some (.inl v1), some (.inl v2), some (.inl v3), some (.inl v4), none]) (st2 := [.inl v4, .inl v2, .inl v1]) (w2 := w) 3 (fun F h => h) ?_
        obtain ⟨r5, hr6, hf⟩ := Option.bind_eq_some_iff.mp hf
        refine pm_ca (y := 118) (as := [.inl v1, .inl v2, .inl v4]) (r := some (.inl r5)) (w2 := w) (w1 := w) (t := []) (i2 := 15) (ls2 := [some (.inr (.inr (19, 0))), some (.inl v1), some (.inl v2), some (.inl v3), some (.inl v4), none]) 1 (a_X8_figureOf F w v1 v2 v4 r5 d (by omega) hr6) (fun F h => h) ?_
        show pm_Gx (RT d) co_X8_sayRow 15 [some (.inr (.inr (19, 0))), some (.inl v1), some (.inl v2), some (.inl v3), some (.inl v4), none] [.inl r5] w Q
        refine pm_go (i2 := 18) (ls2 := [some (.inr (.inr (19, 0))), some (.inl v1), some (.inl v2), some (.inl v3), some (.inl v4), some (.inl r5)]) (st2 := [.inl r5, .inr (.inr (19, 0))]) (w2 := w) 3 (fun F h => h) ?_
        obtain ⟨r7, hr8, hf⟩ := Option.bind_eq_some_iff.mp hf
        refine pm_ca (y := 101) (as := [.inr (.inr (19, 0)), .inl r5]) (r := some (.inl r7)) (w2 := w) (w1 := w) (t := []) (i2 := 19) (ls2 := [some (.inr (.inr (19, 0))), some (.inl v1), some (.inl v2), some (.inl v3), some (.inl v4), some (.inl r5)]) 1 (a_X8_isGuest F w r5 r7 d (by omega) hr8) (fun F h => h) ?_
        show pm_Gx (RT d) co_X8_sayRow 19 [some (.inr (.inr (19, 0))), some (.inl v1), some (.inl v2), some (.inl v3), some (.inl v4), some (.inl r5)] [.inl r7] w Q
        refine pm_if (P := r7 = 0) (i2 := 27) (i3 := 20) (ls2 := [some (.inr (.inr (19, 0))), some (.inl v1), some (.inl v2), some (.inl v3), some (.inl v4), some (.inl r5)]) (st2 := []) (w2 := w) 1 (fun F h => h) (fun hc9 => ?_) (fun hc9 => ?_)
        · rw [if_pos hc9] at hf
          refine pm_go (i2 := 30) (ls2 := [some (.inr (.inr (19, 0))), some (.inl v1), some (.inl v2), some (.inl 0), some (.inl v4), some (.inl r5)]) (st2 := [.inl 0]) (w2 := w) 3 (fun F h => h) ?_
          refine pm_ift (P := (0 : Int32) = 0) (i2 := 35) (i3 := 31) (ls2 := [some (.inr (.inr (19, 0))), some (.inl v1), some (.inl v2), some (.inl 0), some (.inl v4), some (.inl r5)]) (st2 := []) (w2 := w) 1 (fun F h => h) (by decide) ?_
          refine pm_go (i2 := 6) (ls2 := [some (.inr (.inr (19, 0))), some (.inl v1), some (.inl v2), some (.inl 0), some (.inl (v4 + 1)), some (.inl r5)]) (st2 := []) (w2 := w) 2 (fun F h => h) ?_
          refine pm_wk (ls := [some (.inr (.inr (19, 0))), some (.inl v1), some (.inl v2), some (.inl 0), some (.inl (v4 + 1)), none]) ⟨.inr rfl, .inr rfl, .inr rfl, .inr rfl, .inr rfl, .inl rfl, trivial⟩ ?_
          exact ih w v1 v2 0 (v4 + 1) _ hf hk
        · rw [if_neg hc9] at hf
          refine pm_go (i2 := 23) (ls2 := [some (.inr (.inr (19, 0))), some (.inl v1), some (.inl v2), some (.inl v3), some (.inl v4), some (.inl r5)]) (st2 := [.inl r5, .inl 1, .inr (.inr (19, 0))]) (w2 := w) 3 (fun F h => h) ?_
          obtain ⟨r10, hr11, hf⟩ := Option.bind_eq_some_iff.mp hf
          refine pm_ca (y := 107) (as := [.inr (.inr (19, 0)), .inl 1, .inl r5]) (r := some (.inl r10)) (w2 := w) (w1 := w) (t := []) (i2 := 24) (ls2 := [some (.inr (.inr (19, 0))), some (.inl v1), some (.inl v2), some (.inl v3), some (.inl v4), some (.inl r5)]) 1 (a_X8_canSay F w 1 r5 r10 d (by omega) hr11) (fun F h => h) ?_
          show pm_Gx (RT d) co_X8_sayRow 24 [some (.inr (.inr (19, 0))), some (.inl v1), some (.inl v2), some (.inl v3), some (.inl v4), some (.inl r5)] [.inl r10] w Q
          have key : pm_Gx (RT d) co_X8_sayRow 28 [some (.inr (.inr (19, 0))), some (.inl v1), some (.inl v2), some (.inl v3), some (.inl v4), some (.inl r5)] [.inl (if r10 = 0 then 0 else 1 : Int32)] w Q := by
            refine pm_go (i2 := 30) (ls2 := [some (.inr (.inr (19, 0))), some (.inl v1), some (.inl v2), some (.inl (if r10 = 0 then 0 else 1 : Int32)), some (.inl v4), some (.inl r5)]) (st2 := [.inl (if r10 = 0 then 0 else 1 : Int32)]) (w2 := w) 2 (fun F h => h) ?_
            refine pm_if (P := (if r10 = 0 then 0 else 1 : Int32) = 0) (i2 := 35) (i3 := 31) (ls2 := [some (.inr (.inr (19, 0))), some (.inl v1), some (.inl v2), some (.inl (if r10 = 0 then 0 else 1 : Int32)), some (.inl v4), some (.inl r5)]) (st2 := []) (w2 := w) 1 (fun F h => h) (fun hc12 => ?_) (fun hc12 => ?_)
            · rw [if_pos hc12] at hf
              refine pm_go (i2 := 6) (ls2 := [some (.inr (.inr (19, 0))), some (.inl v1), some (.inl v2), some (.inl (if r10 = 0 then 0 else 1 : Int32)), some (.inl (v4 + 1)), some (.inl r5)]) (st2 := []) (w2 := w) 2 (fun F h => h) ?_
              refine pm_wk (ls := [some (.inr (.inr (19, 0))), some (.inl v1), some (.inl v2), some (.inl (if r10 = 0 then 0 else 1 : Int32)), some (.inl (v4 + 1)), none]) ⟨.inr rfl, .inr rfl, .inr rfl, .inr rfl, .inr rfl, .inl rfl, trivial⟩ ?_
              exact ih w v1 v2 (if r10 = 0 then 0 else 1 : Int32) (v4 + 1) _ hf hk
            · rw [if_neg hc12] at hf
              refine pm_go (i2 := 34) (ls2 := [some (.inr (.inr (19, 0))), some (.inl v1), some (.inl v2), some (.inl (if r10 = 0 then 0 else 1 : Int32)), some (.inl v4), some (.inl r5)]) (st2 := [.inl r5, .inl 1, .inr (.inr (19, 0))]) (w2 := w) 3 (fun F h => h) ?_
              obtain ⟨r13, hr14, hf⟩ := Option.bind_eq_some_iff.mp hf
              refine pm_ca (y := 108) (as := [.inr (.inr (19, 0)), .inl 1, .inl r5]) (r := none) (w2 := w) (w1 := r13) (t := []) (i2 := 35) (ls2 := [some (.inr (.inr (19, 0))), some (.inl v1), some (.inl v2), some (.inl (if r10 = 0 then 0 else 1 : Int32)), some (.inl v4), some (.inl r5)]) 1 (a_X8_sayOn F w 1 r5 r13 d (by omega) hr14) (fun F h => h) ?_
              show pm_Gx (RT d) co_X8_sayRow 35 [some (.inr (.inr (19, 0))), some (.inl v1), some (.inl v2), some (.inl (if r10 = 0 then 0 else 1 : Int32)), some (.inl v4), some (.inl r5)] [] r13 Q
              refine pm_go (i2 := 6) (ls2 := [some (.inr (.inr (19, 0))), some (.inl v1), some (.inl v2), some (.inl (if r10 = 0 then 0 else 1 : Int32)), some (.inl (v4 + 1)), some (.inl r5)]) (st2 := []) (w2 := r13) 2 (fun F h => h) ?_
              refine pm_wk (ls := [some (.inr (.inr (19, 0))), some (.inl v1), some (.inl v2), some (.inl (if r10 = 0 then 0 else 1 : Int32)), some (.inl (v4 + 1)), none]) ⟨.inr rfl, .inr rfl, .inr rfl, .inr rfl, .inr rfl, .inl rfl, trivial⟩ ?_
              exact ih r13 v1 v2 (if r10 = 0 then 0 else 1 : Int32) (v4 + 1) _ hf hk
          clear hf
          refine pm_if (P := r10 = 0) (i2 := 27) (i3 := 25) (ls2 := [some (.inr (.inr (19, 0))), some (.inl v1), some (.inl v2), some (.inl v3), some (.inl v4), some (.inl r5)]) (st2 := []) (w2 := w) 1 (fun F h => h) (fun hc15 => ?_) (fun hc15 => ?_)
          · try simp only [if_pos hc15] at key
            refine pm_go (i2 := 28) (ls2 := [some (.inr (.inr (19, 0))), some (.inl v1), some (.inl v2), some (.inl v3), some (.inl v4), some (.inl r5)]) (st2 := [.inl 0]) (w2 := w) 1 (fun F h => h) ?_
            exact key
          · try simp only [if_neg hc15] at key
            refine pm_go (i2 := 28) (ls2 := [some (.inr (.inr (19, 0))), some (.inl v1), some (.inl v2), some (.inl v3), some (.inl v4), some (.inl r5)]) (st2 := [.inl 1]) (w2 := w) 2 (fun F h => h) ?_
            exact key
set_option maxRecDepth 20000 in
set_option maxHeartbeats 4000000 in
theorem b_X8_sayRow (F : Nat) (d : Nat) (hd : 2 ≤ d) (Q : pm_Q) (w : pm_W) (a1 : Int32) (a2 : Int32) (x : (Int32 × pm_W)) (hf : f_X8_sayRow F w a1 a2 = some x) (hq : Q (some (.inl x.1)) x.2) : pm_Gx (RT d) co_X8_sayRow 0 [some (.inr (.inr (19, 0))), some (.inl a1), some (.inl a2), none, none, none] [] w Q := by
  unfold f_X8_sayRow at hf
  refine pm_go (i2 := 1) (ls2 := [some (.inr (.inr (19, 0))), some (.inl a1), some (.inl a2), none, none, none]) (st2 := [.inr (.inr (19, 0))]) (w2 := w) 1 (fun F h => h) ?_
  obtain ⟨r1, hr2, hf⟩ := Option.bind_eq_some_iff.mp hf
  refine pm_ca (y := 116) (as := [.inr (.inr (19, 0))]) (r := none) (w2 := w) (w1 := r1) (t := []) (i2 := 2) (ls2 := [some (.inr (.inr (19, 0))), some (.inl a1), some (.inl a2), none, none, none]) 1 (a_X8_layTrial F w r1 d (by omega) hr2) (fun F h => h) ?_
  show pm_Gx (RT d) co_X8_sayRow 2 [some (.inr (.inr (19, 0))), some (.inl a1), some (.inl a2), none, none, none] [] r1 Q
  refine pm_go (i2 := 6) (ls2 := [some (.inr (.inr (19, 0))), some (.inl a1), some (.inl a2), some (.inl 1), some (.inl 0), none]) (st2 := []) (w2 := r1) 4 (fun F h => h) ?_
  obtain ⟨x16, hx17, hf⟩ := Option.bind_eq_some_iff.mp hf
  refine a_X8_sayRow_L6 F d hd Q F r1 a1 a2 1 0 x16 hx17 ?_
  refine pm_go (i2 := 38) (ls2 := [some (.inr (.inr (19, 0))), some (.inl a1), some (.inl a2), some (.inl x16.1), some (.inl x16.2.1), none]) (st2 := [.inl x16.1]) (w2 := x16.2.2) 1 (fun F h => h) ?_
  obtain ⟨hz18, hf⟩ := pm_itn hf
  obtain rfl := Option.some.inj hf
  exact pm_re (r := some (.inl x16.1)) (w2 := x16.2.2) 1 (fun F h => ⟨pm_isb_nar hz18, h⟩) hq
set_option maxRecDepth 20000 in
set_option maxHeartbeats 4000000 in
theorem a_X8_sayRow (F : Nat) (w : pm_W) (a1 : Int32) (a2 : Int32) (x : (Int32 × pm_W)) (d : Nat) (hd : 3 ≤ d) (hf : f_X8_sayRow F w a1 a2 = some x) : RT d 122 [.inr (.inr (19, 0)), .inl a1, .inl a2] w (some (.inl x.1)) x.2 := by
  obtain ⟨d, rfl, hd2⟩ := pm_dep hd
  exact pm_start (co := co_X8_sayRow) (nL := 6) (by decide) rfl rfl (Nat.le_of_ble_eq_true rfl) (b_X8_sayRow F d hd2 _ w a1 a2 x hf ⟨rfl, rfl⟩)
def f_X8_fewest_L7 (F : Nat) : Nat → pm_W → Int32 → Int32 → Int32 → Int32 → Option ((Int32 × pm_W) ⊕ (Int32 × pm_W))
  | 0, _, _, _, _, _ => none
  | n + 1, w, v1, v2, v3, v4 => ((f_X8_power F w 6 v3).bind fun r2 => (if r2 ≤ v4 then some (.inl (v4, w)) else ((f_X8_sayRow F w v4 v3).bind fun r5 => (if r5.1 = 0 then f_X8_fewest_L7 F n r5.2 v1 v2 v3 (v4 + 1) else (if v1 = (-9) then ((f_X8_hears F r5.2 1).bind fun r9 => ((f_X8_ones F r5.2 r9).bind fun r11 => (if (if r11 = (r5.2.1 19 0 0) then 1 else 0 : Int32) = 0 then f_X8_fewest_L7 F n r5.2 v1 v2 v3 (v4 + 1) else (if v2 = 0 then some (.inr (v3, r5.2)) else ((f_X8_told F r5.2 v4 v3).bind fun r15 => some (.inr (r15, r5.2))))))) else (if (if (r5.2.1 23 0 14) = v1 then 1 else 0 : Int32) = 0 then f_X8_fewest_L7 F n r5.2 v1 v2 v3 (v4 + 1) else (if v2 = 0 then some (.inr (v3, r5.2)) else ((f_X8_told F r5.2 v4 v3).bind fun r20 => some (.inr (r20, r5.2))))))))))
def f_X8_fewest_L2 (F : Nat) : Nat → pm_W → Int32 → Int32 → Int32 → Option ((Int32 × pm_W) ⊕ (Int32 × pm_W))
  | 0, _, _, _, _ => none
  | n + 1, w, v1, v2, v3 => (if 5 ≤ v3 then some (.inl (v3, w)) else ((f_X8_fewest_L7 F F w v1 v2 v3 0).bind fun x23 => Sum.elim (fun ex23 => f_X8_fewest_L2 F n ex23.2 v1 v2 (v3 + 1)) (fun rx23 => some (.inr rx23)) x23))
def f_X8_fewest (F : Nat) (w : pm_W) (a1 : Int32) (a2 : Int32) : Option ((Int32 × pm_W)) := ((f_X8_fewest_L2 F F w a1 a2 0).bind fun x25 => Sum.elim (fun ex25 => some ((-9), ex25.2)) (fun rx25 => some rx25) x25)
set_option maxRecDepth 20000 in
set_option maxHeartbeats 4000000 in
theorem a_X8_fewest_L7 (F : Nat) (d : Nat) (hd : 3 ≤ d) (Q : pm_Q) : ∀ (n : Nat) (w : pm_W) (v1 : Int32) (v2 : Int32) (v3 : Int32) (v4 : Int32) (x : (Int32 × pm_W) ⊕ (Int32 × pm_W)), f_X8_fewest_L7 F n w v1 v2 v3 v4 = some x → (∀ e, x = .inl e → pm_Gx (RT d) co_X8_fewest 53 [some (.inr (.inr (19, 0))), some (.inl v1), some (.inl v2), some (.inl v3), some (.inl e.1), none] [] e.2 Q) → (∀ r, x = .inr r → Q (some (.inl r.1)) r.2) → pm_Gx (RT d) co_X8_fewest 7 [some (.inr (.inr (19, 0))), some (.inl v1), some (.inl v2), some (.inl v3), some (.inl v4), none] [] w Q := by
  intro n
  induction n with
  | zero =>
    intro w v1 v2 v3 v4 x hf
    cases hf
  | succ n ih =>
    intro w v1 v2 v3 v4 x hf hk hq
    rw [f_X8_fewest_L7] at hf
    refine pm_go (i2 := 10) (ls2 := [some (.inr (.inr (19, 0))), some (.inl v1), some (.inl v2), some (.inl v3), some (.inl v4), none]) (st2 := [.inl v3, .inl 6, .inl v4]) (w2 := w) 3 (fun F h => h) ?_
    obtain ⟨r2, hr3, hf⟩ := Option.bind_eq_some_iff.mp hf
    refine pm_ca (y := 117) (as := [.inl 6, .inl v3]) (r := some (.inl r2)) (w2 := w) (w1 := w) (t := [.inl v4]) (i2 := 11) (ls2 := [some (.inr (.inr (19, 0))), some (.inl v1), some (.inl v2), some (.inl v3), some (.inl v4), none]) 1 (a_X8_power F w 6 v3 r2 d (by omega) hr3) (fun F h => h) ?_
    show pm_Gx (RT d) co_X8_fewest 11 [some (.inr (.inr (19, 0))), some (.inl v1), some (.inl v2), some (.inl v3), some (.inl v4), none] [.inl r2, .inl v4] w Q
    refine pm_if (P := r2 ≤ v4) (i2 := 53) (i3 := 12) (ls2 := [some (.inr (.inr (19, 0))), some (.inl v1), some (.inl v2), some (.inl v3), some (.inl v4), none]) (st2 := []) (w2 := w) 1 (fun F h => h) (fun hc4 => ?_) (fun hc4 => ?_)
    · rw [if_pos hc4] at hf
      obtain rfl := Option.some.inj hf
      exact hk _ rfl
    · rw [if_neg hc4] at hf
      refine pm_go (i2 := 15) (ls2 := [some (.inr (.inr (19, 0))), some (.inl v1), some (.inl v2), some (.inl v3), some (.inl v4), none]) (st2 := [.inl v3, .inl v4, .inr (.inr (19, 0))]) (w2 := w) 3 (fun F h => h) ?_
      obtain ⟨r5, hr6, hf⟩ := Option.bind_eq_some_iff.mp hf
      refine pm_ca (y := 122) (as := [.inr (.inr (19, 0)), .inl v4, .inl v3]) (r := some (.inl r5.1)) (w2 := w) (w1 := r5.2) (t := []) (i2 := 16) (ls2 := [some (.inr (.inr (19, 0))), some (.inl v1), some (.inl v2), some (.inl v3), some (.inl v4), none]) 1 (a_X8_sayRow F w v4 v3 r5 d (by omega) hr6) (fun F h => h) ?_
      show pm_Gx (RT d) co_X8_fewest 16 [some (.inr (.inr (19, 0))), some (.inl v1), some (.inl v2), some (.inl v3), some (.inl v4), none] [.inl r5.1] r5.2 Q
      refine pm_if (P := r5.1 = 0) (i2 := 51) (i3 := 17) (ls2 := [some (.inr (.inr (19, 0))), some (.inl v1), some (.inl v2), some (.inl v3), some (.inl v4), none]) (st2 := []) (w2 := r5.2) 1 (fun F h => h) (fun hc7 => ?_) (fun hc7 => ?_)
      · rw [if_pos hc7] at hf
        refine pm_go (i2 := 7) (ls2 := [some (.inr (.inr (19, 0))), some (.inl v1), some (.inl v2), some (.inl v3), some (.inl (v4 + 1)), none]) (st2 := []) (w2 := r5.2) 2 (fun F h => h) ?_
        exact ih r5.2 v1 v2 v3 (v4 + 1) _ hf hk hq
      · rw [if_neg hc7] at hf
        refine pm_go (i2 := 19) (ls2 := [some (.inr (.inr (19, 0))), some (.inl v1), some (.inl v2), some (.inl v3), some (.inl v4), none]) (st2 := [.inl (-9), .inl v1]) (w2 := r5.2) 2 (fun F h => h) ?_
        refine pm_if (P := v1 = (-9)) (i2 := 20) (i3 := 31) (ls2 := [some (.inr (.inr (19, 0))), some (.inl v1), some (.inl v2), some (.inl v3), some (.inl v4), none]) (st2 := []) (w2 := r5.2) 1 (fun F h => h) (fun hc8 => ?_) (fun hc8 => ?_)
        · rw [if_pos hc8] at hf
          refine pm_go (i2 := 22) (ls2 := [some (.inr (.inr (19, 0))), some (.inl v1), some (.inl v2), some (.inl v3), some (.inl v4), none]) (st2 := [.inl 1, .inr (.inr (19, 0))]) (w2 := r5.2) 2 (fun F h => h) ?_
          obtain ⟨r9, hr10, hf⟩ := Option.bind_eq_some_iff.mp hf
          refine pm_ca (y := 103) (as := [.inr (.inr (19, 0)), .inl 1]) (r := some (.inl r9)) (w2 := r5.2) (w1 := r5.2) (t := []) (i2 := 23) (ls2 := [some (.inr (.inr (19, 0))), some (.inl v1), some (.inl v2), some (.inl v3), some (.inl v4), none]) 1 (a_X8_hears F r5.2 1 r9 d (by omega) hr10) (fun F h => h) ?_
          show pm_Gx (RT d) co_X8_fewest 23 [some (.inr (.inr (19, 0))), some (.inl v1), some (.inl v2), some (.inl v3), some (.inl v4), none] [.inl r9] r5.2 Q
          obtain ⟨r11, hr12, hf⟩ := Option.bind_eq_some_iff.mp hf
          refine pm_ca (y := 90) (as := [.inl r9]) (r := some (.inl r11)) (w2 := r5.2) (w1 := r5.2) (t := []) (i2 := 24) (ls2 := [some (.inr (.inr (19, 0))), some (.inl v1), some (.inl v2), some (.inl v3), some (.inl v4), none]) 1 (a_X8_ones F r5.2 r9 r11 d (by omega) hr12) (fun F h => h) ?_
          show pm_Gx (RT d) co_X8_fewest 24 [some (.inr (.inr (19, 0))), some (.inl v1), some (.inl v2), some (.inl v3), some (.inl v4), none] [.inl r11] r5.2 Q
          refine pm_go (i2 := 26) (ls2 := [some (.inr (.inr (19, 0))), some (.inl v1), some (.inl v2), some (.inl v3), some (.inl v4), none]) (st2 := [.inl (r5.2.1 19 0 0), .inl r11]) (w2 := r5.2) 2 (fun F h => h) ?_
          have key : pm_Gx (RT d) co_X8_fewest 40 [some (.inr (.inr (19, 0))), some (.inl v1), some (.inl v2), some (.inl v3), some (.inl v4), none] [.inl (if r11 = (r5.2.1 19 0 0) then 1 else 0 : Int32)] r5.2 Q := by
            refine pm_go (i2 := 42) (ls2 := [some (.inr (.inr (19, 0))), some (.inl v1), some (.inl v2), some (.inl v3), some (.inl v4), some (.inl (if r11 = (r5.2.1 19 0 0) then 1 else 0 : Int32))]) (st2 := [.inl (if r11 = (r5.2.1 19 0 0) then 1 else 0 : Int32)]) (w2 := r5.2) 2 (fun F h => h) ?_
            refine pm_if (P := (if r11 = (r5.2.1 19 0 0) then 1 else 0 : Int32) = 0) (i2 := 51) (i3 := 43) (ls2 := [some (.inr (.inr (19, 0))), some (.inl v1), some (.inl v2), some (.inl v3), some (.inl v4), some (.inl (if r11 = (r5.2.1 19 0 0) then 1 else 0 : Int32))]) (st2 := []) (w2 := r5.2) 1 (fun F h => h) (fun hc13 => ?_) (fun hc13 => ?_)
            · rw [if_pos hc13] at hf
              refine pm_go (i2 := 7) (ls2 := [some (.inr (.inr (19, 0))), some (.inl v1), some (.inl v2), some (.inl v3), some (.inl (v4 + 1)), some (.inl (if r11 = (r5.2.1 19 0 0) then 1 else 0 : Int32))]) (st2 := []) (w2 := r5.2) 2 (fun F h => h) ?_
              refine pm_wk (ls := [some (.inr (.inr (19, 0))), some (.inl v1), some (.inl v2), some (.inl v3), some (.inl (v4 + 1)), none]) ⟨.inr rfl, .inr rfl, .inr rfl, .inr rfl, .inr rfl, .inl rfl, trivial⟩ ?_
              exact ih r5.2 v1 v2 v3 (v4 + 1) _ hf hk hq
            · rw [if_neg hc13] at hf
              refine pm_go (i2 := 44) (ls2 := [some (.inr (.inr (19, 0))), some (.inl v1), some (.inl v2), some (.inl v3), some (.inl v4), some (.inl (if r11 = (r5.2.1 19 0 0) then 1 else 0 : Int32))]) (st2 := [.inl v2]) (w2 := r5.2) 1 (fun F h => h) ?_
              refine pm_if (P := v2 = 0) (i2 := 49) (i3 := 45) (ls2 := [some (.inr (.inr (19, 0))), some (.inl v1), some (.inl v2), some (.inl v3), some (.inl v4), some (.inl (if r11 = (r5.2.1 19 0 0) then 1 else 0 : Int32))]) (st2 := []) (w2 := r5.2) 1 (fun F h => h) (fun hc14 => ?_) (fun hc14 => ?_)
              · rw [if_pos hc14] at hf
                refine pm_go (i2 := 50) (ls2 := [some (.inr (.inr (19, 0))), some (.inl v1), some (.inl v2), some (.inl v3), some (.inl v4), some (.inl (if r11 = (r5.2.1 19 0 0) then 1 else 0 : Int32))]) (st2 := [.inl v3]) (w2 := r5.2) 1 (fun F h => h) ?_
                obtain rfl := Option.some.inj hf
                exact pm_re (r := some (.inl v3)) (w2 := r5.2) 1 (fun F h => h) (hq _ rfl)
              · rw [if_neg hc14] at hf
                refine pm_go (i2 := 47) (ls2 := [some (.inr (.inr (19, 0))), some (.inl v1), some (.inl v2), some (.inl v3), some (.inl v4), some (.inl (if r11 = (r5.2.1 19 0 0) then 1 else 0 : Int32))]) (st2 := [.inl v3, .inl v4]) (w2 := r5.2) 2 (fun F h => h) ?_
                obtain ⟨r15, hr16, hf⟩ := Option.bind_eq_some_iff.mp hf
                refine pm_ca (y := 119) (as := [.inl v4, .inl v3]) (r := some (.inl r15)) (w2 := r5.2) (w1 := r5.2) (t := []) (i2 := 48) (ls2 := [some (.inr (.inr (19, 0))), some (.inl v1), some (.inl v2), some (.inl v3), some (.inl v4), some (.inl (if r11 = (r5.2.1 19 0 0) then 1 else 0 : Int32))]) 1 (a_X8_told F r5.2 v4 v3 r15 d (by omega) hr16) (fun F h => h) ?_
                show pm_Gx (RT d) co_X8_fewest 48 [some (.inr (.inr (19, 0))), some (.inl v1), some (.inl v2), some (.inl v3), some (.inl v4), some (.inl (if r11 = (r5.2.1 19 0 0) then 1 else 0 : Int32))] [.inl r15] r5.2 Q
                refine pm_go (i2 := 50) (ls2 := [some (.inr (.inr (19, 0))), some (.inl v1), some (.inl v2), some (.inl v3), some (.inl v4), some (.inl (if r11 = (r5.2.1 19 0 0) then 1 else 0 : Int32))]) (st2 := [.inl r15]) (w2 := r5.2) 1 (fun F h => h) ?_
                obtain rfl := Option.some.inj hf
                exact pm_re (r := some (.inl r15)) (w2 := r5.2) 1 (fun F h => h) (hq _ rfl)
          clear hf
          refine pm_if (P := r11 = (r5.2.1 19 0 0)) (i2 := 27) (i3 := 29) (ls2 := [some (.inr (.inr (19, 0))), some (.inl v1), some (.inl v2), some (.inl v3), some (.inl v4), none]) (st2 := []) (w2 := r5.2) 1 (fun F h => h) (fun hc17 => ?_) (fun hc17 => ?_)
          · try simp only [if_pos hc17] at key
            refine pm_go (i2 := 40) (ls2 := [some (.inr (.inr (19, 0))), some (.inl v1), some (.inl v2), some (.inl v3), some (.inl v4), none]) (st2 := [.inl 1]) (w2 := r5.2) 2 (fun F h => h) ?_
            exact key
          · try simp only [if_neg hc17] at key
            refine pm_go (i2 := 40) (ls2 := [some (.inr (.inr (19, 0))), some (.inl v1), some (.inl v2), some (.inl v3), some (.inl v4), none]) (st2 := [.inl 0]) (w2 := r5.2) 2 (fun F h => h) ?_
            exact key
        · rw [if_neg hc8] at hf
          refine pm_go (i2 := 36) (ls2 := [some (.inr (.inr (19, 0))), some (.inl v1), some (.inl v2), some (.inl v3), some (.inl v4), none]) (st2 := [.inl v1, .inl (r5.2.1 23 0 14)]) (w2 := r5.2) 5 (fun F h => ⟨(pm_inb_in (by decide)), h⟩) ?_
          have key : pm_Gx (RT d) co_X8_fewest 40 [some (.inr (.inr (19, 0))), some (.inl v1), some (.inl v2), some (.inl v3), some (.inl v4), none] [.inl (if (r5.2.1 23 0 14) = v1 then 1 else 0 : Int32)] r5.2 Q := by
            refine pm_go (i2 := 42) (ls2 := [some (.inr (.inr (19, 0))), some (.inl v1), some (.inl v2), some (.inl v3), some (.inl v4), some (.inl (if (r5.2.1 23 0 14) = v1 then 1 else 0 : Int32))]) (st2 := [.inl (if (r5.2.1 23 0 14) = v1 then 1 else 0 : Int32)]) (w2 := r5.2) 2 (fun F h => h) ?_
            refine pm_if (P := (if (r5.2.1 23 0 14) = v1 then 1 else 0 : Int32) = 0) (i2 := 51) (i3 := 43) (ls2 := [some (.inr (.inr (19, 0))), some (.inl v1), some (.inl v2), some (.inl v3), some (.inl v4), some (.inl (if (r5.2.1 23 0 14) = v1 then 1 else 0 : Int32))]) (st2 := []) (w2 := r5.2) 1 (fun F h => h) (fun hc18 => ?_) (fun hc18 => ?_)
            · rw [if_pos hc18] at hf
              refine pm_go (i2 := 7) (ls2 := [some (.inr (.inr (19, 0))), some (.inl v1), some (.inl v2), some (.inl v3), some (.inl (v4 + 1)), some (.inl (if (r5.2.1 23 0 14) = v1 then 1 else 0 : Int32))]) (st2 := []) (w2 := r5.2) 2 (fun F h => h) ?_
              refine pm_wk (ls := [some (.inr (.inr (19, 0))), some (.inl v1), some (.inl v2), some (.inl v3), some (.inl (v4 + 1)), none]) ⟨.inr rfl, .inr rfl, .inr rfl, .inr rfl, .inr rfl, .inl rfl, trivial⟩ ?_
              exact ih r5.2 v1 v2 v3 (v4 + 1) _ hf hk hq
            · rw [if_neg hc18] at hf
              refine pm_go (i2 := 44) (ls2 := [some (.inr (.inr (19, 0))), some (.inl v1), some (.inl v2), some (.inl v3), some (.inl v4), some (.inl (if (r5.2.1 23 0 14) = v1 then 1 else 0 : Int32))]) (st2 := [.inl v2]) (w2 := r5.2) 1 (fun F h => h) ?_
              refine pm_if (P := v2 = 0) (i2 := 49) (i3 := 45) (ls2 := [some (.inr (.inr (19, 0))), some (.inl v1), some (.inl v2), some (.inl v3), some (.inl v4), some (.inl (if (r5.2.1 23 0 14) = v1 then 1 else 0 : Int32))]) (st2 := []) (w2 := r5.2) 1 (fun F h => h) (fun hc19 => ?_) (fun hc19 => ?_)
              · rw [if_pos hc19] at hf
                refine pm_go (i2 := 50) (ls2 := [some (.inr (.inr (19, 0))), some (.inl v1), some (.inl v2), some (.inl v3), some (.inl v4), some (.inl (if (r5.2.1 23 0 14) = v1 then 1 else 0 : Int32))]) (st2 := [.inl v3]) (w2 := r5.2) 1 (fun F h => h) ?_
                obtain rfl := Option.some.inj hf
                exact pm_re (r := some (.inl v3)) (w2 := r5.2) 1 (fun F h => h) (hq _ rfl)
              · rw [if_neg hc19] at hf
                refine pm_go (i2 := 47) (ls2 := [some (.inr (.inr (19, 0))), some (.inl v1), some (.inl v2), some (.inl v3), some (.inl v4), some (.inl (if (r5.2.1 23 0 14) = v1 then 1 else 0 : Int32))]) (st2 := [.inl v3, .inl v4]) (w2 := r5.2) 2 (fun F h => h) ?_
                obtain ⟨r20, hr21, hf⟩ := Option.bind_eq_some_iff.mp hf
                refine pm_ca (y := 119) (as := [.inl v4, .inl v3]) (r := some (.inl r20)) (w2 := r5.2) (w1 := r5.2) (t := []) (i2 := 48) (ls2 := [some (.inr (.inr (19, 0))), some (.inl v1), some (.inl v2), some (.inl v3), some (.inl v4), some (.inl (if (r5.2.1 23 0 14) = v1 then 1 else 0 : Int32))]) 1 (a_X8_told F r5.2 v4 v3 r20 d (by omega) hr21) (fun F h => h) ?_
                show pm_Gx (RT d) co_X8_fewest 48 [some (.inr (.inr (19, 0))), some (.inl v1), some (.inl v2), some (.inl v3), some (.inl v4), some (.inl (if (r5.2.1 23 0 14) = v1 then 1 else 0 : Int32))] [.inl r20] r5.2 Q
                refine pm_go (i2 := 50) (ls2 := [some (.inr (.inr (19, 0))), some (.inl v1), some (.inl v2), some (.inl v3), some (.inl v4), some (.inl (if (r5.2.1 23 0 14) = v1 then 1 else 0 : Int32))]) (st2 := [.inl r20]) (w2 := r5.2) 1 (fun F h => h) ?_
                obtain rfl := Option.some.inj hf
                exact pm_re (r := some (.inl r20)) (w2 := r5.2) 1 (fun F h => h) (hq _ rfl)
          clear hf
          refine pm_if (P := (r5.2.1 23 0 14) = v1) (i2 := 37) (i3 := 39) (ls2 := [some (.inr (.inr (19, 0))), some (.inl v1), some (.inl v2), some (.inl v3), some (.inl v4), none]) (st2 := []) (w2 := r5.2) 1 (fun F h => h) (fun hc22 => ?_) (fun hc22 => ?_)
          · try simp only [if_pos hc22] at key
            refine pm_go (i2 := 40) (ls2 := [some (.inr (.inr (19, 0))), some (.inl v1), some (.inl v2), some (.inl v3), some (.inl v4), none]) (st2 := [.inl 1]) (w2 := r5.2) 2 (fun F h => h) ?_
            exact key
          · try simp only [if_neg hc22] at key
            refine pm_go (i2 := 40) (ls2 := [some (.inr (.inr (19, 0))), some (.inl v1), some (.inl v2), some (.inl v3), some (.inl v4), none]) (st2 := [.inl 0]) (w2 := r5.2) 1 (fun F h => h) ?_
            exact key
set_option maxRecDepth 20000 in
set_option maxHeartbeats 4000000 in
theorem a_X8_fewest_L2 (F : Nat) (d : Nat) (hd : 3 ≤ d) (Q : pm_Q) : ∀ (n : Nat) (w : pm_W) (v1 : Int32) (v2 : Int32) (v3 : Int32) (x : (Int32 × pm_W) ⊕ (Int32 × pm_W)), f_X8_fewest_L2 F n w v1 v2 v3 = some x → (∀ e, x = .inl e → pm_Gx (RT d) co_X8_fewest 55 [some (.inr (.inr (19, 0))), some (.inl v1), some (.inl v2), some (.inl e.1), none, none] [] e.2 Q) → (∀ r, x = .inr r → Q (some (.inl r.1)) r.2) → pm_Gx (RT d) co_X8_fewest 2 [some (.inr (.inr (19, 0))), some (.inl v1), some (.inl v2), some (.inl v3), none, none] [] w Q := by
  intro n
  induction n with
  | zero =>
    intro w v1 v2 v3 x hf
    cases hf
  | succ n ih =>
    intro w v1 v2 v3 x hf hk hq
    rw [f_X8_fewest_L2] at hf
    refine pm_go (i2 := 4) (ls2 := [some (.inr (.inr (19, 0))), some (.inl v1), some (.inl v2), some (.inl v3), none, none]) (st2 := [.inl 5, .inl v3]) (w2 := w) 2 (fun F h => h) ?_
    refine pm_if (P := 5 ≤ v3) (i2 := 55) (i3 := 5) (ls2 := [some (.inr (.inr (19, 0))), some (.inl v1), some (.inl v2), some (.inl v3), none, none]) (st2 := []) (w2 := w) 1 (fun F h => h) (fun hc1 => ?_) (fun hc1 => ?_)
    · rw [if_pos hc1] at hf
      obtain rfl := Option.some.inj hf
      exact hk _ rfl
    · rw [if_neg hc1] at hf
      refine pm_go (i2 := 7) (ls2 := [some (.inr (.inr (19, 0))), some (.inl v1), some (.inl v2), some (.inl v3), some (.inl 0), none]) (st2 := []) (w2 := w) 2 (fun F h => h) ?_
      obtain ⟨x23, hx24, hf⟩ := Option.bind_eq_some_iff.mp hf
      refine a_X8_fewest_L7 F d hd Q F w v1 v2 v3 0 x23 hx24 (fun ex23 hx23 => ?_) (fun rx23 hx23 => ?_)
      · subst hx23
        change _ = _ at hf
        refine pm_go (i2 := 2) (ls2 := [some (.inr (.inr (19, 0))), some (.inl v1), some (.inl v2), some (.inl (v3 + 1)), some (.inl ex23.1), none]) (st2 := []) (w2 := ex23.2) 2 (fun F h => h) ?_
        refine pm_wk (ls := [some (.inr (.inr (19, 0))), some (.inl v1), some (.inl v2), some (.inl (v3 + 1)), none, none]) ⟨.inr rfl, .inr rfl, .inr rfl, .inr rfl, .inl rfl, .inl rfl, trivial⟩ ?_
        exact ih ex23.2 v1 v2 (v3 + 1) _ hf hk hq
      · subst hx23
        obtain rfl := Option.some.inj (show some (Sum.inr rx23) = some x from hf)
        exact hq _ rfl
set_option maxRecDepth 20000 in
set_option maxHeartbeats 4000000 in
theorem b_X8_fewest (F : Nat) (d : Nat) (hd : 3 ≤ d) (Q : pm_Q) (w : pm_W) (a1 : Int32) (a2 : Int32) (x : (Int32 × pm_W)) (hf : f_X8_fewest F w a1 a2 = some x) (hq : Q (some (.inl x.1)) x.2) : pm_Gx (RT d) co_X8_fewest 0 [some (.inr (.inr (19, 0))), some (.inl a1), some (.inl a2), none, none, none] [] w Q := by
  unfold f_X8_fewest at hf
  refine pm_go (i2 := 2) (ls2 := [some (.inr (.inr (19, 0))), some (.inl a1), some (.inl a2), some (.inl 0), none, none]) (st2 := []) (w2 := w) 2 (fun F h => h) ?_
  obtain ⟨x25, hx26, hf⟩ := Option.bind_eq_some_iff.mp hf
  refine a_X8_fewest_L2 F d hd Q F w a1 a2 0 x25 hx26 (fun ex25 hx25 => ?_) (fun rx25 hx25 => ?_)
  · subst hx25
    change _ = _ at hf
    refine pm_go (i2 := 56) (ls2 := [some (.inr (.inr (19, 0))), some (.inl a1), some (.inl a2), some (.inl ex25.1), none, none]) (st2 := [.inl (-9)]) (w2 := ex25.2) 1 (fun F h => h) ?_
    obtain rfl := Option.some.inj hf
    exact pm_re (r := some (.inl (-9))) (w2 := ex25.2) 1 (fun F h => h) hq
  · subst hx25
    obtain rfl := Option.some.inj (show some rx25 = some x from hf)
    exact hq
set_option maxRecDepth 20000 in
set_option maxHeartbeats 4000000 in
theorem a_X8_fewest (F : Nat) (w : pm_W) (a1 : Int32) (a2 : Int32) (x : (Int32 × pm_W)) (d : Nat) (hd : 4 ≤ d) (hf : f_X8_fewest F w a1 a2 = some x) : RT d 123 [.inr (.inr (19, 0)), .inl a1, .inl a2] w (some (.inl x.1)) x.2 := by
  obtain ⟨d, rfl, hd2⟩ := pm_dep hd
  exact pm_start (co := co_X8_fewest) (nL := 6) (by decide) rfl rfl (Nat.le_of_ble_eq_true rfl) (b_X8_fewest F d hd2 _ w a1 a2 x hf ⟨rfl, rfl⟩)
def f_X8_longBy (F : Nat) (w : pm_W) (a1 : Int32) (a2 : Int32) : Option ((Int32 × pm_W)) := ((f_X8_in F w a1.toInt64 1 60).bind fun r1 => (if r1 = 0 then some ((-2), w) else ((f_X8_fewest F w a1 a2).bind fun r4 => some (r4.1, r4.2))))
set_option maxRecDepth 20000 in
set_option maxHeartbeats 4000000 in
theorem b_X8_longBy (F : Nat) (d : Nat) (hd : 4 ≤ d) (Q : pm_Q) (w : pm_W) (a1 : Int32) (a2 : Int32) (x : (Int32 × pm_W)) (hf : f_X8_longBy F w a1 a2 = some x) (hq : Q (some (.inl x.1)) x.2) : pm_Gx (RT d) co_X8_longBy 0 [some (.inr (.inr (19, 0))), some (.inl a1), some (.inl a2)] [] w Q := by
  unfold f_X8_longBy at hf
  refine pm_go (i2 := 4) (ls2 := [some (.inr (.inr (19, 0))), some (.inl a1), some (.inl a2)]) (st2 := [.inr (.inl 60), .inr (.inl 1), .inr (.inl a1.toInt64)]) (w2 := w) 4 (fun F h => h) ?_
  obtain ⟨r1, hr2, hf⟩ := Option.bind_eq_some_iff.mp hf
  refine pm_ca (y := 88) (as := [.inr (.inl a1.toInt64), .inr (.inl 1), .inr (.inl 60)]) (r := some (.inl r1)) (w2 := w) (w1 := w) (t := []) (i2 := 5) (ls2 := [some (.inr (.inr (19, 0))), some (.inl a1), some (.inl a2)]) 1 (a_X8_in F w a1.toInt64 1 60 r1 d (by omega) hr2) (fun F h => h) ?_
  show pm_Gx (RT d) co_X8_longBy 5 [some (.inr (.inr (19, 0))), some (.inl a1), some (.inl a2)] [.inl r1] w Q
  refine pm_if (P := r1 = 0) (i2 := 11) (i3 := 6) (ls2 := [some (.inr (.inr (19, 0))), some (.inl a1), some (.inl a2)]) (st2 := []) (w2 := w) 1 (fun F h => h) (fun hc3 => ?_) (fun hc3 => ?_)
  · rw [if_pos hc3] at hf
    refine pm_go (i2 := 12) (ls2 := [some (.inr (.inr (19, 0))), some (.inl a1), some (.inl a2)]) (st2 := [.inl (-2)]) (w2 := w) 1 (fun F h => h) ?_
    obtain rfl := Option.some.inj hf
    exact pm_re (r := some (.inl (-2))) (w2 := w) 1 (fun F h => h) hq
  · rw [if_neg hc3] at hf
    refine pm_go (i2 := 9) (ls2 := [some (.inr (.inr (19, 0))), some (.inl a1), some (.inl a2)]) (st2 := [.inl a2, .inl a1, .inr (.inr (19, 0))]) (w2 := w) 3 (fun F h => h) ?_
    obtain ⟨r4, hr5, hf⟩ := Option.bind_eq_some_iff.mp hf
    refine pm_ca (y := 123) (as := [.inr (.inr (19, 0)), .inl a1, .inl a2]) (r := some (.inl r4.1)) (w2 := w) (w1 := r4.2) (t := []) (i2 := 10) (ls2 := [some (.inr (.inr (19, 0))), some (.inl a1), some (.inl a2)]) 1 (a_X8_fewest F w a1 a2 r4 d (by omega) hr5) (fun F h => h) ?_
    show pm_Gx (RT d) co_X8_longBy 10 [some (.inr (.inr (19, 0))), some (.inl a1), some (.inl a2)] [.inl r4.1] r4.2 Q
    refine pm_go (i2 := 12) (ls2 := [some (.inr (.inr (19, 0))), some (.inl a1), some (.inl a2)]) (st2 := [.inl r4.1]) (w2 := r4.2) 1 (fun F h => h) ?_
    obtain rfl := Option.some.inj hf
    exact pm_re (r := some (.inl r4.1)) (w2 := r4.2) 1 (fun F h => h) hq
set_option maxRecDepth 20000 in
set_option maxHeartbeats 4000000 in
theorem a_X8_longBy (F : Nat) (w : pm_W) (a1 : Int32) (a2 : Int32) (x : (Int32 × pm_W)) (d : Nat) (hd : 5 ≤ d) (hf : f_X8_longBy F w a1 a2 = some x) : RT d 124 [.inr (.inr (19, 0)), .inl a1, .inl a2] w (some (.inl x.1)) x.2 := by
  obtain ⟨d, rfl, hd2⟩ := pm_dep hd
  exact pm_start (co := co_X8_longBy) (nL := 3) (by decide) rfl rfl (Nat.le_of_ble_eq_true rfl) (b_X8_longBy F d hd2 _ w a1 a2 x hf ⟨rfl, rfl⟩)
def f_X8_together (F : Nat) (w : pm_W) (a1 : Int32) : Option ((Int32 × pm_W)) := ((f_X8_fewest F w (-9) a1).bind fun r1 => some (r1.1, r1.2))
set_option maxRecDepth 20000 in
set_option maxHeartbeats 4000000 in
theorem b_X8_together (F : Nat) (d : Nat) (hd : 4 ≤ d) (Q : pm_Q) (w : pm_W) (a1 : Int32) (x : (Int32 × pm_W)) (hf : f_X8_together F w a1 = some x) (hq : Q (some (.inl x.1)) x.2) : pm_Gx (RT d) co_X8_together 0 [some (.inr (.inr (19, 0))), some (.inl a1)] [] w Q := by
  unfold f_X8_together at hf
  refine pm_go (i2 := 3) (ls2 := [some (.inr (.inr (19, 0))), some (.inl a1)]) (st2 := [.inl a1, .inl (-9), .inr (.inr (19, 0))]) (w2 := w) 3 (fun F h => h) ?_
  obtain ⟨r1, hr2, hf⟩ := Option.bind_eq_some_iff.mp hf
  refine pm_ca (y := 123) (as := [.inr (.inr (19, 0)), .inl (-9), .inl a1]) (r := some (.inl r1.1)) (w2 := w) (w1 := r1.2) (t := []) (i2 := 4) (ls2 := [some (.inr (.inr (19, 0))), some (.inl a1)]) 1 (a_X8_fewest F w (-9) a1 r1 d (by omega) hr2) (fun F h => h) ?_
  show pm_Gx (RT d) co_X8_together 4 [some (.inr (.inr (19, 0))), some (.inl a1)] [.inl r1.1] r1.2 Q
  obtain rfl := Option.some.inj hf
  exact pm_re (r := some (.inl r1.1)) (w2 := r1.2) 1 (fun F h => h) hq
set_option maxRecDepth 20000 in
set_option maxHeartbeats 4000000 in
theorem a_X8_together (F : Nat) (w : pm_W) (a1 : Int32) (x : (Int32 × pm_W)) (d : Nat) (hd : 5 ≤ d) (hf : f_X8_together F w a1 = some x) : RT d 125 [.inr (.inr (19, 0)), .inl a1] w (some (.inl x.1)) x.2 := by
  obtain ⟨d, rfl, hd2⟩ := pm_dep hd
  exact pm_start (co := co_X8_together) (nL := 2) (by decide) rfl rfl (Nat.le_of_ble_eq_true rfl) (b_X8_together F d hd2 _ w a1 x hf ⟨rfl, rfl⟩)
def f_X8_farthest_L4 (F : Nat) (w : pm_W) : Nat → Int32 → Int32 → Int32 → Option (Int32 × Int32)
  | 0, _, _, _ => none
  | n + 1, v1, v2, v3 => (if (w.1 19 0 0) ≤ v3 then some (v2, v3) else (if v2 = (-9) then f_X8_farthest_L4 F w n v1 v3 (v3 + 1) else (if pm_inb ((9 * v1) + v3) 18 = true then (if pm_inb ((9 * v1) + v2) 18 = true then f_X8_farthest_L4 F w n v1 (if (w.1 23 0 (((9 * v1) + v3).toNatClampNeg)) ≤ (w.1 23 0 (((9 * v1) + v2).toNatClampNeg)) then v2 else v3 : Int32) (v3 + 1) else none) else none)))
def f_X8_farthest (F : Nat) (w : pm_W) (a1 : Int32) : Option (Int32) := ((f_X8_farthest_L4 F w F a1 (-9) 0).bind fun x6 => some x6.1)
set_option maxRecDepth 20000 in
set_option maxHeartbeats 4000000 in
theorem a_X8_farthest_L4 (F : Nat) (d : Nat) (hd : 0 ≤ d) (Q : pm_Q) (w : pm_W) : ∀ (n : Nat) (v1 : Int32) (v2 : Int32) (v3 : Int32) (x : Int32 × Int32), f_X8_farthest_L4 F w n v1 v2 v3 = some x → pm_Gx (RT d) co_X8_farthest 34 [some (.inr (.inr (19, 0))), some (.inl v1), some (.inl x.1), some (.inl x.2)] [] w Q → pm_Gx (RT d) co_X8_farthest 4 [some (.inr (.inr (19, 0))), some (.inl v1), some (.inl v2), some (.inl v3)] [] w Q := by
  intro n
  induction n with
  | zero =>
    intro v1 v2 v3 x hf
    cases hf
  | succ n ih =>
    intro v1 v2 v3 x hf hk
    rw [f_X8_farthest_L4] at hf
    refine pm_go (i2 := 7) (ls2 := [some (.inr (.inr (19, 0))), some (.inl v1), some (.inl v2), some (.inl v3)]) (st2 := [.inl (w.1 19 0 0), .inl v3]) (w2 := w) 3 (fun F h => h) ?_
    refine pm_if (P := (w.1 19 0 0) ≤ v3) (i2 := 34) (i3 := 8) (ls2 := [some (.inr (.inr (19, 0))), some (.inl v1), some (.inl v2), some (.inl v3)]) (st2 := []) (w2 := w) 1 (fun F h => h) (fun hc1 => ?_) (fun hc1 => ?_)
    · rw [if_pos hc1] at hf
      obtain rfl := Option.some.inj hf
      exact hk
    · rw [if_neg hc1] at hf
      refine pm_go (i2 := 10) (ls2 := [some (.inr (.inr (19, 0))), some (.inl v1), some (.inl v2), some (.inl v3)]) (st2 := [.inl (-9), .inl v2]) (w2 := w) 2 (fun F h => h) ?_
      refine pm_if (P := v2 = (-9)) (i2 := 28) (i3 := 11) (ls2 := [some (.inr (.inr (19, 0))), some (.inl v1), some (.inl v2), some (.inl v3)]) (st2 := []) (w2 := w) 1 (fun F h => h) (fun hc2 => ?_) (fun hc2 => ?_)
      · rw [if_pos hc2] at hf
        refine pm_go (i2 := 4) (ls2 := [some (.inr (.inr (19, 0))), some (.inl v1), some (.inl v3), some (.inl (v3 + 1))]) (st2 := []) (w2 := w) 5 (fun F h => h) ?_
        exact ih v1 v3 (v3 + 1) _ hf hk
      · rw [if_neg hc2] at hf
        obtain ⟨hs3, hf⟩ := pm_itn hf
        obtain ⟨hs4, hf⟩ := pm_itn hf
        refine pm_go (i2 := 27) (ls2 := [some (.inr (.inr (19, 0))), some (.inl v1), some (.inl v2), some (.inl v3)]) (st2 := [.inl (w.1 23 0 (((9 * v1) + v2).toNatClampNeg)), .inl (w.1 23 0 (((9 * v1) + v3).toNatClampNeg))]) (w2 := w) 16 (fun F h => ⟨(pm_inb_in hs3), (pm_inb_in hs4), h⟩) ?_
        have key : pm_Gx (RT d) co_X8_farthest 31 [some (.inr (.inr (19, 0))), some (.inl v1), some (.inl v2), some (.inl v3)] [.inl (if (w.1 23 0 (((9 * v1) + v3).toNatClampNeg)) ≤ (w.1 23 0 (((9 * v1) + v2).toNatClampNeg)) then v2 else v3 : Int32)] w Q := by
          refine pm_go (i2 := 4) (ls2 := [some (.inr (.inr (19, 0))), some (.inl v1), some (.inl (if (w.1 23 0 (((9 * v1) + v3).toNatClampNeg)) ≤ (w.1 23 0 (((9 * v1) + v2).toNatClampNeg)) then v2 else v3 : Int32)), some (.inl (v3 + 1))]) (st2 := []) (w2 := w) 3 (fun F h => h) ?_
          exact ih v1 (if (w.1 23 0 (((9 * v1) + v3).toNatClampNeg)) ≤ (w.1 23 0 (((9 * v1) + v2).toNatClampNeg)) then v2 else v3 : Int32) (v3 + 1) _ hf hk
        clear hf
        refine pm_if (P := (w.1 23 0 (((9 * v1) + v3).toNatClampNeg)) ≤ (w.1 23 0 (((9 * v1) + v2).toNatClampNeg))) (i2 := 30) (i3 := 28) (ls2 := [some (.inr (.inr (19, 0))), some (.inl v1), some (.inl v2), some (.inl v3)]) (st2 := []) (w2 := w) 1 (fun F h => h) (fun hc5 => ?_) (fun hc5 => ?_)
        · try simp only [if_pos hc5] at key
          refine pm_go (i2 := 31) (ls2 := [some (.inr (.inr (19, 0))), some (.inl v1), some (.inl v2), some (.inl v3)]) (st2 := [.inl v2]) (w2 := w) 1 (fun F h => h) ?_
          exact key
        · try simp only [if_neg hc5] at key
          refine pm_go (i2 := 31) (ls2 := [some (.inr (.inr (19, 0))), some (.inl v1), some (.inl v2), some (.inl v3)]) (st2 := [.inl v3]) (w2 := w) 2 (fun F h => h) ?_
          exact key
set_option maxRecDepth 20000 in
set_option maxHeartbeats 4000000 in
theorem b_X8_farthest (F : Nat) (d : Nat) (hd : 0 ≤ d) (Q : pm_Q) (w : pm_W) (a1 : Int32) (x : Int32) (hf : f_X8_farthest F w a1 = some x) (hq : Q (some (.inl x)) w) : pm_Gx (RT d) co_X8_farthest 0 [some (.inr (.inr (19, 0))), some (.inl a1), none, none] [] w Q := by
  unfold f_X8_farthest at hf
  refine pm_go (i2 := 4) (ls2 := [some (.inr (.inr (19, 0))), some (.inl a1), some (.inl (-9)), some (.inl 0)]) (st2 := []) (w2 := w) 4 (fun F h => h) ?_
  obtain ⟨x6, hx7, hf⟩ := Option.bind_eq_some_iff.mp hf
  refine a_X8_farthest_L4 F d hd Q w F a1 (-9) 0 x6 hx7 ?_
  refine pm_go (i2 := 35) (ls2 := [some (.inr (.inr (19, 0))), some (.inl a1), some (.inl x6.1), some (.inl x6.2)]) (st2 := [.inl x6.1]) (w2 := w) 1 (fun F h => h) ?_
  obtain rfl := Option.some.inj hf
  exact pm_re (r := some (.inl x6.1)) (w2 := w) 1 (fun F h => h) hq
set_option maxRecDepth 20000 in
set_option maxHeartbeats 4000000 in
theorem a_X8_farthest (F : Nat) (w : pm_W) (a1 : Int32) (x : Int32) (d : Nat) (hd : 1 ≤ d) (hf : f_X8_farthest F w a1 = some x) : RT d 126 [.inr (.inr (19, 0)), .inl a1] w (some (.inl x)) w := by
  obtain ⟨d, rfl, hd2⟩ := pm_dep hd
  exact pm_start (co := co_X8_farthest) (nL := 4) (by decide) rfl rfl (Nat.le_of_ble_eq_true rfl) (b_X8_farthest F d hd2 _ w a1 x hf ⟨rfl, rfl⟩)
def f_X8_tryThing (F : Nat) (w : pm_W) (a1 : Int32) : Option ((Int32 × pm_W)) := ((f_X8_farthest F w 1).bind fun r1 => (if 5 ≤ a1 then (if (if a1 = 5 then (if r1 = (-9) then 0 else 1 : Int32) else (if a1 = 6 then 1 else 0 : Int32) : Int32) = 0 then (if (if a1 = 5 then (if r1 = (-9) then 0 else 1 : Int32) else (if a1 = 6 then 1 else 0 : Int32) : Int32) = 0 then (if (if a1 = 5 then (if r1 = (-9) then 0 else 1 : Int32) else (if a1 = 6 then 1 else 0 : Int32) : Int32) = 0 then (if pm_isb (if a1 = 5 then (if r1 = (-9) then 0 else 1 : Int32) else (if a1 = 6 then 1 else 0 : Int32) : Int32) = true then some ((if a1 = 5 then (if r1 = (-9) then 0 else 1 : Int32) else (if a1 = 6 then 1 else 0 : Int32) : Int32), w) else none) else ((f_X8_fetchOn F w 1).bind fun r8 => (if pm_isb (if a1 = 5 then (if r1 = (-9) then 0 else 1 : Int32) else (if a1 = 6 then 1 else 0 : Int32) : Int32) = true then some ((if a1 = 5 then (if r1 = (-9) then 0 else 1 : Int32) else (if a1 = 6 then 1 else 0 : Int32) : Int32), r8) else none))) else (if a1 = 5 then ((f_X8_passOn F w 1 r1).bind fun r12 => (if pm_isb (if a1 = 5 then (if r1 = (-9) then 0 else 1 : Int32) else (if a1 = 6 then 1 else 0 : Int32) : Int32) = true then some ((if a1 = 5 then (if r1 = (-9) then 0 else 1 : Int32) else (if a1 = 6 then 1 else 0 : Int32) : Int32), r12) else none)) else (if (if a1 = 5 then (if r1 = (-9) then 0 else 1 : Int32) else (if a1 = 6 then 1 else 0 : Int32) : Int32) = 0 then (if pm_isb (if a1 = 5 then (if r1 = (-9) then 0 else 1 : Int32) else (if a1 = 6 then 1 else 0 : Int32) : Int32) = true then some ((if a1 = 5 then (if r1 = (-9) then 0 else 1 : Int32) else (if a1 = 6 then 1 else 0 : Int32) : Int32), w) else none) else ((f_X8_fetchOn F w 1).bind fun r17 => (if pm_isb (if a1 = 5 then (if r1 = (-9) then 0 else 1 : Int32) else (if a1 = 6 then 1 else 0 : Int32) : Int32) = true then some ((if a1 = 5 then (if r1 = (-9) then 0 else 1 : Int32) else (if a1 = 6 then 1 else 0 : Int32) : Int32), r17) else none))))) else (if 5 ≤ a1 then (if (if a1 = 5 then (if r1 = (-9) then 0 else 1 : Int32) else (if a1 = 6 then 1 else 0 : Int32) : Int32) = 0 then (if (if a1 = 5 then (if r1 = (-9) then 0 else 1 : Int32) else (if a1 = 6 then 1 else 0 : Int32) : Int32) = 0 then (if pm_isb (if a1 = 5 then (if r1 = (-9) then 0 else 1 : Int32) else (if a1 = 6 then 1 else 0 : Int32) : Int32) = true then some ((if a1 = 5 then (if r1 = (-9) then 0 else 1 : Int32) else (if a1 = 6 then 1 else 0 : Int32) : Int32), w) else none) else ((f_X8_fetchOn F w 1).bind fun r24 => (if pm_isb (if a1 = 5 then (if r1 = (-9) then 0 else 1 : Int32) else (if a1 = 6 then 1 else 0 : Int32) : Int32) = true then some ((if a1 = 5 then (if r1 = (-9) then 0 else 1 : Int32) else (if a1 = 6 then 1 else 0 : Int32) : Int32), r24) else none))) else (if a1 = 5 then ((f_X8_passOn F w 1 r1).bind fun r28 => (if pm_isb (if a1 = 5 then (if r1 = (-9) then 0 else 1 : Int32) else (if a1 = 6 then 1 else 0 : Int32) : Int32) = true then some ((if a1 = 5 then (if r1 = (-9) then 0 else 1 : Int32) else (if a1 = 6 then 1 else 0 : Int32) : Int32), r28) else none)) else (if (if a1 = 5 then (if r1 = (-9) then 0 else 1 : Int32) else (if a1 = 6 then 1 else 0 : Int32) : Int32) = 0 then (if pm_isb (if a1 = 5 then (if r1 = (-9) then 0 else 1 : Int32) else (if a1 = 6 then 1 else 0 : Int32) : Int32) = true then some ((if a1 = 5 then (if r1 = (-9) then 0 else 1 : Int32) else (if a1 = 6 then 1 else 0 : Int32) : Int32), w) else none) else ((f_X8_fetchOn F w 1).bind fun r33 => (if pm_isb (if a1 = 5 then (if r1 = (-9) then 0 else 1 : Int32) else (if a1 = 6 then 1 else 0 : Int32) : Int32) = true then some ((if a1 = 5 then (if r1 = (-9) then 0 else 1 : Int32) else (if a1 = 6 then 1 else 0 : Int32) : Int32), r33) else none))))) else ((f_X8_sayOn F w 1 a1).bind fun r36 => (if pm_isb (if a1 = 5 then (if r1 = (-9) then 0 else 1 : Int32) else (if a1 = 6 then 1 else 0 : Int32) : Int32) = true then some ((if a1 = 5 then (if r1 = (-9) then 0 else 1 : Int32) else (if a1 = 6 then 1 else 0 : Int32) : Int32), r36) else none)))) else ((f_X8_isGuest F w a1).bind fun r42 => (if r42 = 0 then some (0, w) else ((f_X8_canSay F w 1 a1).bind fun r45 => (if (if r45 = 0 then 0 else 1 : Int32) = 0 then (if (if r45 = 0 then 0 else 1 : Int32) = 0 then (if (if r45 = 0 then 0 else 1 : Int32) = 0 then (if pm_isb (if r45 = 0 then 0 else 1 : Int32) = true then some ((if r45 = 0 then 0 else 1 : Int32), w) else none) else ((f_X8_fetchOn F w 1).bind fun r51 => (if pm_isb (if r45 = 0 then 0 else 1 : Int32) = true then some ((if r45 = 0 then 0 else 1 : Int32), r51) else none))) else (if a1 = 5 then ((f_X8_passOn F w 1 r1).bind fun r55 => (if pm_isb (if r45 = 0 then 0 else 1 : Int32) = true then some ((if r45 = 0 then 0 else 1 : Int32), r55) else none)) else (if (if r45 = 0 then 0 else 1 : Int32) = 0 then (if pm_isb (if r45 = 0 then 0 else 1 : Int32) = true then some ((if r45 = 0 then 0 else 1 : Int32), w) else none) else ((f_X8_fetchOn F w 1).bind fun r60 => (if pm_isb (if r45 = 0 then 0 else 1 : Int32) = true then some ((if r45 = 0 then 0 else 1 : Int32), r60) else none))))) else (if 5 ≤ a1 then (if (if r45 = 0 then 0 else 1 : Int32) = 0 then (if (if r45 = 0 then 0 else 1 : Int32) = 0 then (if pm_isb (if r45 = 0 then 0 else 1 : Int32) = true then some ((if r45 = 0 then 0 else 1 : Int32), w) else none) else ((f_X8_fetchOn F w 1).bind fun r67 => (if pm_isb (if r45 = 0 then 0 else 1 : Int32) = true then some ((if r45 = 0 then 0 else 1 : Int32), r67) else none))) else (if a1 = 5 then ((f_X8_passOn F w 1 r1).bind fun r71 => (if pm_isb (if r45 = 0 then 0 else 1 : Int32) = true then some ((if r45 = 0 then 0 else 1 : Int32), r71) else none)) else (if (if r45 = 0 then 0 else 1 : Int32) = 0 then (if pm_isb (if r45 = 0 then 0 else 1 : Int32) = true then some ((if r45 = 0 then 0 else 1 : Int32), w) else none) else ((f_X8_fetchOn F w 1).bind fun r76 => (if pm_isb (if r45 = 0 then 0 else 1 : Int32) = true then some ((if r45 = 0 then 0 else 1 : Int32), r76) else none))))) else ((f_X8_sayOn F w 1 a1).bind fun r79 => (if pm_isb (if r45 = 0 then 0 else 1 : Int32) = true then some ((if r45 = 0 then 0 else 1 : Int32), r79) else none)))))))))
set_option maxRecDepth 20000 in
set_option maxHeartbeats 4000000 in
theorem b_X8_tryThing (F : Nat) (d : Nat) (hd : 2 ≤ d) (Q : pm_Q) (w : pm_W) (a1 : Int32) (x : (Int32 × pm_W)) (hf : f_X8_tryThing F w a1 = some x) (hq : Q (some (.inl x.1)) x.2) : pm_Gx (RT d) co_X8_tryThing 0 [some (.inr (.inr (19, 0))), some (.inl a1), none, none] [] w Q := by
  unfold f_X8_tryThing at hf
  refine pm_go (i2 := 2) (ls2 := [some (.inr (.inr (19, 0))), some (.inl a1), none, none]) (st2 := [.inl 1, .inr (.inr (19, 0))]) (w2 := w) 2 (fun F h => h) ?_
  obtain ⟨r1, hr2, hf⟩ := Option.bind_eq_some_iff.mp hf
  refine pm_ca (y := 126) (as := [.inr (.inr (19, 0)), .inl 1]) (r := some (.inl r1)) (w2 := w) (w1 := w) (t := []) (i2 := 3) (ls2 := [some (.inr (.inr (19, 0))), some (.inl a1), none, none]) 1 (a_X8_farthest F w 1 r1 d (by omega) hr2) (fun F h => h) ?_
  show pm_Gx (RT d) co_X8_tryThing 3 [some (.inr (.inr (19, 0))), some (.inl a1), none, none] [.inl r1] w Q
  refine pm_go (i2 := 6) (ls2 := [some (.inr (.inr (19, 0))), some (.inl a1), some (.inl r1), none]) (st2 := [.inl 5, .inl a1]) (w2 := w) 3 (fun F h => h) ?_
  refine pm_if (P := 5 ≤ a1) (i2 := 20) (i3 := 7) (ls2 := [some (.inr (.inr (19, 0))), some (.inl a1), some (.inl r1), none]) (st2 := []) (w2 := w) 1 (fun F h => h) (fun hc3 => ?_) (fun hc3 => ?_)
  · rw [if_pos hc3] at hf
    refine pm_go (i2 := 22) (ls2 := [some (.inr (.inr (19, 0))), some (.inl a1), some (.inl r1), none]) (st2 := [.inl 5, .inl a1]) (w2 := w) 2 (fun F h => h) ?_
    have key : pm_Gx (RT d) co_X8_tryThing 36 [some (.inr (.inr (19, 0))), some (.inl a1), some (.inl r1), none] [.inl (if a1 = 5 then (if r1 = (-9) then 0 else 1 : Int32) else (if a1 = 6 then 1 else 0 : Int32) : Int32)] w Q := by
      refine pm_go (i2 := 38) (ls2 := [some (.inr (.inr (19, 0))), some (.inl a1), some (.inl r1), some (.inl (if a1 = 5 then (if r1 = (-9) then 0 else 1 : Int32) else (if a1 = 6 then 1 else 0 : Int32) : Int32))]) (st2 := [.inl (if a1 = 5 then (if r1 = (-9) then 0 else 1 : Int32) else (if a1 = 6 then 1 else 0 : Int32) : Int32)]) (w2 := w) 2 (fun F h => h) ?_
      refine pm_if (P := (if a1 = 5 then (if r1 = (-9) then 0 else 1 : Int32) else (if a1 = 6 then 1 else 0 : Int32) : Int32) = 0) (i2 := 47) (i3 := 39) (ls2 := [some (.inr (.inr (19, 0))), some (.inl a1), some (.inl r1), some (.inl (if a1 = 5 then (if r1 = (-9) then 0 else 1 : Int32) else (if a1 = 6 then 1 else 0 : Int32) : Int32))]) (st2 := []) (w2 := w) 1 (fun F h => h) (fun hc4 => ?_) (fun hc4 => ?_)
      · rw [if_pos hc4] at hf
        refine pm_go (i2 := 48) (ls2 := [some (.inr (.inr (19, 0))), some (.inl a1), some (.inl r1), some (.inl (if a1 = 5 then (if r1 = (-9) then 0 else 1 : Int32) else (if a1 = 6 then 1 else 0 : Int32) : Int32))]) (st2 := [.inl (if a1 = 5 then (if r1 = (-9) then 0 else 1 : Int32) else (if a1 = 6 then 1 else 0 : Int32) : Int32)]) (w2 := w) 1 (fun F h => h) ?_
        refine pm_if (P := (if a1 = 5 then (if r1 = (-9) then 0 else 1 : Int32) else (if a1 = 6 then 1 else 0 : Int32) : Int32) = 0) (i2 := 57) (i3 := 49) (ls2 := [some (.inr (.inr (19, 0))), some (.inl a1), some (.inl r1), some (.inl (if a1 = 5 then (if r1 = (-9) then 0 else 1 : Int32) else (if a1 = 6 then 1 else 0 : Int32) : Int32))]) (st2 := []) (w2 := w) 1 (fun F h => h) (fun hc5 => ?_) (fun hc5 => ?_)
        · rw [if_pos hc5] at hf
          refine pm_go (i2 := 58) (ls2 := [some (.inr (.inr (19, 0))), some (.inl a1), some (.inl r1), some (.inl (if a1 = 5 then (if r1 = (-9) then 0 else 1 : Int32) else (if a1 = 6 then 1 else 0 : Int32) : Int32))]) (st2 := [.inl (if a1 = 5 then (if r1 = (-9) then 0 else 1 : Int32) else (if a1 = 6 then 1 else 0 : Int32) : Int32)]) (w2 := w) 1 (fun F h => h) ?_
          refine pm_if (P := (if a1 = 5 then (if r1 = (-9) then 0 else 1 : Int32) else (if a1 = 6 then 1 else 0 : Int32) : Int32) = 0) (i2 := 62) (i3 := 59) (ls2 := [some (.inr (.inr (19, 0))), some (.inl a1), some (.inl r1), some (.inl (if a1 = 5 then (if r1 = (-9) then 0 else 1 : Int32) else (if a1 = 6 then 1 else 0 : Int32) : Int32))]) (st2 := []) (w2 := w) 1 (fun F h => h) (fun hc6 => ?_) (fun hc6 => ?_)
          · rw [if_pos hc6] at hf
            refine pm_go (i2 := 63) (ls2 := [some (.inr (.inr (19, 0))), some (.inl a1), some (.inl r1), some (.inl (if a1 = 5 then (if r1 = (-9) then 0 else 1 : Int32) else (if a1 = 6 then 1 else 0 : Int32) : Int32))]) (st2 := [.inl (if a1 = 5 then (if r1 = (-9) then 0 else 1 : Int32) else (if a1 = 6 then 1 else 0 : Int32) : Int32)]) (w2 := w) 1 (fun F h => h) ?_
            obtain ⟨hz7, hf⟩ := pm_itn hf
            obtain rfl := Option.some.inj hf
            exact pm_re (r := some (.inl (if a1 = 5 then (if r1 = (-9) then 0 else 1 : Int32) else (if a1 = 6 then 1 else 0 : Int32) : Int32))) (w2 := w) 1 (fun F h => ⟨pm_isb_nar hz7, h⟩) hq
          · rw [if_neg hc6] at hf
            refine pm_go (i2 := 61) (ls2 := [some (.inr (.inr (19, 0))), some (.inl a1), some (.inl r1), some (.inl (if a1 = 5 then (if r1 = (-9) then 0 else 1 : Int32) else (if a1 = 6 then 1 else 0 : Int32) : Int32))]) (st2 := [.inl 1, .inr (.inr (19, 0))]) (w2 := w) 2 (fun F h => h) ?_
            obtain ⟨r8, hr9, hf⟩ := Option.bind_eq_some_iff.mp hf
            refine pm_ca (y := 110) (as := [.inr (.inr (19, 0)), .inl 1]) (r := none) (w2 := w) (w1 := r8) (t := []) (i2 := 62) (ls2 := [some (.inr (.inr (19, 0))), some (.inl a1), some (.inl r1), some (.inl (if a1 = 5 then (if r1 = (-9) then 0 else 1 : Int32) else (if a1 = 6 then 1 else 0 : Int32) : Int32))]) 1 (a_X8_fetchOn F w 1 r8 d (by omega) hr9) (fun F h => h) ?_
            show pm_Gx (RT d) co_X8_tryThing 62 [some (.inr (.inr (19, 0))), some (.inl a1), some (.inl r1), some (.inl (if a1 = 5 then (if r1 = (-9) then 0 else 1 : Int32) else (if a1 = 6 then 1 else 0 : Int32) : Int32))] [] r8 Q
            refine pm_go (i2 := 63) (ls2 := [some (.inr (.inr (19, 0))), some (.inl a1), some (.inl r1), some (.inl (if a1 = 5 then (if r1 = (-9) then 0 else 1 : Int32) else (if a1 = 6 then 1 else 0 : Int32) : Int32))]) (st2 := [.inl (if a1 = 5 then (if r1 = (-9) then 0 else 1 : Int32) else (if a1 = 6 then 1 else 0 : Int32) : Int32)]) (w2 := r8) 1 (fun F h => h) ?_
            obtain ⟨hz10, hf⟩ := pm_itn hf
            obtain rfl := Option.some.inj hf
            exact pm_re (r := some (.inl (if a1 = 5 then (if r1 = (-9) then 0 else 1 : Int32) else (if a1 = 6 then 1 else 0 : Int32) : Int32))) (w2 := r8) 1 (fun F h => ⟨pm_isb_nar hz10, h⟩) hq
        · rw [if_neg hc5] at hf
          refine pm_go (i2 := 51) (ls2 := [some (.inr (.inr (19, 0))), some (.inl a1), some (.inl r1), some (.inl (if a1 = 5 then (if r1 = (-9) then 0 else 1 : Int32) else (if a1 = 6 then 1 else 0 : Int32) : Int32))]) (st2 := [.inl 5, .inl a1]) (w2 := w) 2 (fun F h => h) ?_
          refine pm_if (P := a1 = 5) (i2 := 52) (i3 := 57) (ls2 := [some (.inr (.inr (19, 0))), some (.inl a1), some (.inl r1), some (.inl (if a1 = 5 then (if r1 = (-9) then 0 else 1 : Int32) else (if a1 = 6 then 1 else 0 : Int32) : Int32))]) (st2 := []) (w2 := w) 1 (fun F h => h) (fun hc11 => ?_) (fun hc11 => ?_)
          · rw [if_pos hc11] at hf
            refine pm_go (i2 := 55) (ls2 := [some (.inr (.inr (19, 0))), some (.inl a1), some (.inl r1), some (.inl (if a1 = 5 then (if r1 = (-9) then 0 else 1 : Int32) else (if a1 = 6 then 1 else 0 : Int32) : Int32))]) (st2 := [.inl r1, .inl 1, .inr (.inr (19, 0))]) (w2 := w) 3 (fun F h => h) ?_
            obtain ⟨r12, hr13, hf⟩ := Option.bind_eq_some_iff.mp hf
            refine pm_ca (y := 109) (as := [.inr (.inr (19, 0)), .inl 1, .inl r1]) (r := none) (w2 := w) (w1 := r12) (t := []) (i2 := 56) (ls2 := [some (.inr (.inr (19, 0))), some (.inl a1), some (.inl r1), some (.inl (if a1 = 5 then (if r1 = (-9) then 0 else 1 : Int32) else (if a1 = 6 then 1 else 0 : Int32) : Int32))]) 1 (a_X8_passOn F w 1 r1 r12 d (by omega) hr13) (fun F h => h) ?_
            show pm_Gx (RT d) co_X8_tryThing 56 [some (.inr (.inr (19, 0))), some (.inl a1), some (.inl r1), some (.inl (if a1 = 5 then (if r1 = (-9) then 0 else 1 : Int32) else (if a1 = 6 then 1 else 0 : Int32) : Int32))] [] r12 Q
            refine pm_go (i2 := 63) (ls2 := [some (.inr (.inr (19, 0))), some (.inl a1), some (.inl r1), some (.inl (if a1 = 5 then (if r1 = (-9) then 0 else 1 : Int32) else (if a1 = 6 then 1 else 0 : Int32) : Int32))]) (st2 := [.inl (if a1 = 5 then (if r1 = (-9) then 0 else 1 : Int32) else (if a1 = 6 then 1 else 0 : Int32) : Int32)]) (w2 := r12) 2 (fun F h => h) ?_
            obtain ⟨hz14, hf⟩ := pm_itn hf
            obtain rfl := Option.some.inj hf
            exact pm_re (r := some (.inl (if a1 = 5 then (if r1 = (-9) then 0 else 1 : Int32) else (if a1 = 6 then 1 else 0 : Int32) : Int32))) (w2 := r12) 1 (fun F h => ⟨pm_isb_nar hz14, h⟩) hq
          · rw [if_neg hc11] at hf
            refine pm_go (i2 := 58) (ls2 := [some (.inr (.inr (19, 0))), some (.inl a1), some (.inl r1), some (.inl (if a1 = 5 then (if r1 = (-9) then 0 else 1 : Int32) else (if a1 = 6 then 1 else 0 : Int32) : Int32))]) (st2 := [.inl (if a1 = 5 then (if r1 = (-9) then 0 else 1 : Int32) else (if a1 = 6 then 1 else 0 : Int32) : Int32)]) (w2 := w) 1 (fun F h => h) ?_
            refine pm_if (P := (if a1 = 5 then (if r1 = (-9) then 0 else 1 : Int32) else (if a1 = 6 then 1 else 0 : Int32) : Int32) = 0) (i2 := 62) (i3 := 59) (ls2 := [some (.inr (.inr (19, 0))), some (.inl a1), some (.inl r1), some (.inl (if a1 = 5 then (if r1 = (-9) then 0 else 1 : Int32) else (if a1 = 6 then 1 else 0 : Int32) : Int32))]) (st2 := []) (w2 := w) 1 (fun F h => h) (fun hc15 => ?_) (fun hc15 => ?_)
            · rw [if_pos hc15] at hf
              refine pm_go (i2 := 63) (ls2 := [some (.inr (.inr (19, 0))), some (.inl a1), some (.inl r1), some (.inl (if a1 = 5 then (if r1 = (-9) then 0 else 1 : Int32) else (if a1 = 6 then 1 else 0 : Int32) : Int32))]) (st2 := [.inl (if a1 = 5 then (if r1 = (-9) then 0 else 1 : Int32) else (if a1 = 6 then 1 else 0 : Int32) : Int32)]) (w2 := w) 1 (fun F h => h) ?_
              obtain ⟨hz16, hf⟩ := pm_itn hf
              obtain rfl := Option.some.inj hf
              exact pm_re (r := some (.inl (if a1 = 5 then (if r1 = (-9) then 0 else 1 : Int32) else (if a1 = 6 then 1 else 0 : Int32) : Int32))) (w2 := w) 1 (fun F h => ⟨pm_isb_nar hz16, h⟩) hq
            · rw [if_neg hc15] at hf
              refine pm_go (i2 := 61) (ls2 := [some (.inr (.inr (19, 0))), some (.inl a1), some (.inl r1), some (.inl (if a1 = 5 then (if r1 = (-9) then 0 else 1 : Int32) else (if a1 = 6 then 1 else 0 : Int32) : Int32))]) (st2 := [.inl 1, .inr (.inr (19, 0))]) (w2 := w) 2 (fun F h => h) ?_
              obtain ⟨r17, hr18, hf⟩ := Option.bind_eq_some_iff.mp hf
              refine pm_ca (y := 110) (as := [.inr (.inr (19, 0)), .inl 1]) (r := none) (w2 := w) (w1 := r17) (t := []) (i2 := 62) (ls2 := [some (.inr (.inr (19, 0))), some (.inl a1), some (.inl r1), some (.inl (if a1 = 5 then (if r1 = (-9) then 0 else 1 : Int32) else (if a1 = 6 then 1 else 0 : Int32) : Int32))]) 1 (a_X8_fetchOn F w 1 r17 d (by omega) hr18) (fun F h => h) ?_
              show pm_Gx (RT d) co_X8_tryThing 62 [some (.inr (.inr (19, 0))), some (.inl a1), some (.inl r1), some (.inl (if a1 = 5 then (if r1 = (-9) then 0 else 1 : Int32) else (if a1 = 6 then 1 else 0 : Int32) : Int32))] [] r17 Q
              refine pm_go (i2 := 63) (ls2 := [some (.inr (.inr (19, 0))), some (.inl a1), some (.inl r1), some (.inl (if a1 = 5 then (if r1 = (-9) then 0 else 1 : Int32) else (if a1 = 6 then 1 else 0 : Int32) : Int32))]) (st2 := [.inl (if a1 = 5 then (if r1 = (-9) then 0 else 1 : Int32) else (if a1 = 6 then 1 else 0 : Int32) : Int32)]) (w2 := r17) 1 (fun F h => h) ?_
              obtain ⟨hz19, hf⟩ := pm_itn hf
              obtain rfl := Option.some.inj hf
              exact pm_re (r := some (.inl (if a1 = 5 then (if r1 = (-9) then 0 else 1 : Int32) else (if a1 = 6 then 1 else 0 : Int32) : Int32))) (w2 := r17) 1 (fun F h => ⟨pm_isb_nar hz19, h⟩) hq
      · rw [if_neg hc4] at hf
        refine pm_go (i2 := 41) (ls2 := [some (.inr (.inr (19, 0))), some (.inl a1), some (.inl r1), some (.inl (if a1 = 5 then (if r1 = (-9) then 0 else 1 : Int32) else (if a1 = 6 then 1 else 0 : Int32) : Int32))]) (st2 := [.inl 5, .inl a1]) (w2 := w) 2 (fun F h => h) ?_
        refine pm_if (P := 5 ≤ a1) (i2 := 47) (i3 := 42) (ls2 := [some (.inr (.inr (19, 0))), some (.inl a1), some (.inl r1), some (.inl (if a1 = 5 then (if r1 = (-9) then 0 else 1 : Int32) else (if a1 = 6 then 1 else 0 : Int32) : Int32))]) (st2 := []) (w2 := w) 1 (fun F h => h) (fun hc20 => ?_) (fun hc20 => ?_)
        · rw [if_pos hc20] at hf
          refine pm_go (i2 := 48) (ls2 := [some (.inr (.inr (19, 0))), some (.inl a1), some (.inl r1), some (.inl (if a1 = 5 then (if r1 = (-9) then 0 else 1 : Int32) else (if a1 = 6 then 1 else 0 : Int32) : Int32))]) (st2 := [.inl (if a1 = 5 then (if r1 = (-9) then 0 else 1 : Int32) else (if a1 = 6 then 1 else 0 : Int32) : Int32)]) (w2 := w) 1 (fun F h => h) ?_
          refine pm_if (P := (if a1 = 5 then (if r1 = (-9) then 0 else 1 : Int32) else (if a1 = 6 then 1 else 0 : Int32) : Int32) = 0) (i2 := 57) (i3 := 49) (ls2 := [some (.inr (.inr (19, 0))), some (.inl a1), some (.inl r1), some (.inl (if a1 = 5 then (if r1 = (-9) then 0 else 1 : Int32) else (if a1 = 6 then 1 else 0 : Int32) : Int32))]) (st2 := []) (w2 := w) 1 (fun F h => h) (fun hc21 => ?_) (fun hc21 => ?_)
          · rw [if_pos hc21] at hf
            refine pm_go (i2 := 58) (ls2 := [some (.inr (.inr (19, 0))), some (.inl a1), some (.inl r1), some (.inl (if a1 = 5 then (if r1 = (-9) then 0 else 1 : Int32) else (if a1 = 6 then 1 else 0 : Int32) : Int32))]) (st2 := [.inl (if a1 = 5 then (if r1 = (-9) then 0 else 1 : Int32) else (if a1 = 6 then 1 else 0 : Int32) : Int32)]) (w2 := w) 1 (fun F h => h) ?_
            refine pm_if (P := (if a1 = 5 then (if r1 = (-9) then 0 else 1 : Int32) else (if a1 = 6 then 1 else 0 : Int32) : Int32) = 0) (i2 := 62) (i3 := 59) (ls2 := [some (.inr (.inr (19, 0))), some (.inl a1), some (.inl r1), some (.inl (if a1 = 5 then (if r1 = (-9) then 0 else 1 : Int32) else (if a1 = 6 then 1 else 0 : Int32) : Int32))]) (st2 := []) (w2 := w) 1 (fun F h => h) (fun hc22 => ?_) (fun hc22 => ?_)
            · rw [if_pos hc22] at hf
              refine pm_go (i2 := 63) (ls2 := [some (.inr (.inr (19, 0))), some (.inl a1), some (.inl r1), some (.inl (if a1 = 5 then (if r1 = (-9) then 0 else 1 : Int32) else (if a1 = 6 then 1 else 0 : Int32) : Int32))]) (st2 := [.inl (if a1 = 5 then (if r1 = (-9) then 0 else 1 : Int32) else (if a1 = 6 then 1 else 0 : Int32) : Int32)]) (w2 := w) 1 (fun F h => h) ?_
              obtain ⟨hz23, hf⟩ := pm_itn hf
              obtain rfl := Option.some.inj hf
              exact pm_re (r := some (.inl (if a1 = 5 then (if r1 = (-9) then 0 else 1 : Int32) else (if a1 = 6 then 1 else 0 : Int32) : Int32))) (w2 := w) 1 (fun F h => ⟨pm_isb_nar hz23, h⟩) hq
            · rw [if_neg hc22] at hf
              refine pm_go (i2 := 61) (ls2 := [some (.inr (.inr (19, 0))), some (.inl a1), some (.inl r1), some (.inl (if a1 = 5 then (if r1 = (-9) then 0 else 1 : Int32) else (if a1 = 6 then 1 else 0 : Int32) : Int32))]) (st2 := [.inl 1, .inr (.inr (19, 0))]) (w2 := w) 2 (fun F h => h) ?_
              obtain ⟨r24, hr25, hf⟩ := Option.bind_eq_some_iff.mp hf
              refine pm_ca (y := 110) (as := [.inr (.inr (19, 0)), .inl 1]) (r := none) (w2 := w) (w1 := r24) (t := []) (i2 := 62) (ls2 := [some (.inr (.inr (19, 0))), some (.inl a1), some (.inl r1), some (.inl (if a1 = 5 then (if r1 = (-9) then 0 else 1 : Int32) else (if a1 = 6 then 1 else 0 : Int32) : Int32))]) 1 (a_X8_fetchOn F w 1 r24 d (by omega) hr25) (fun F h => h) ?_
              show pm_Gx (RT d) co_X8_tryThing 62 [some (.inr (.inr (19, 0))), some (.inl a1), some (.inl r1), some (.inl (if a1 = 5 then (if r1 = (-9) then 0 else 1 : Int32) else (if a1 = 6 then 1 else 0 : Int32) : Int32))] [] r24 Q
              refine pm_go (i2 := 63) (ls2 := [some (.inr (.inr (19, 0))), some (.inl a1), some (.inl r1), some (.inl (if a1 = 5 then (if r1 = (-9) then 0 else 1 : Int32) else (if a1 = 6 then 1 else 0 : Int32) : Int32))]) (st2 := [.inl (if a1 = 5 then (if r1 = (-9) then 0 else 1 : Int32) else (if a1 = 6 then 1 else 0 : Int32) : Int32)]) (w2 := r24) 1 (fun F h => h) ?_
              obtain ⟨hz26, hf⟩ := pm_itn hf
              obtain rfl := Option.some.inj hf
              exact pm_re (r := some (.inl (if a1 = 5 then (if r1 = (-9) then 0 else 1 : Int32) else (if a1 = 6 then 1 else 0 : Int32) : Int32))) (w2 := r24) 1 (fun F h => ⟨pm_isb_nar hz26, h⟩) hq
          · rw [if_neg hc21] at hf
            refine pm_go (i2 := 51) (ls2 := [some (.inr (.inr (19, 0))), some (.inl a1), some (.inl r1), some (.inl (if a1 = 5 then (if r1 = (-9) then 0 else 1 : Int32) else (if a1 = 6 then 1 else 0 : Int32) : Int32))]) (st2 := [.inl 5, .inl a1]) (w2 := w) 2 (fun F h => h) ?_
            refine pm_if (P := a1 = 5) (i2 := 52) (i3 := 57) (ls2 := [some (.inr (.inr (19, 0))), some (.inl a1), some (.inl r1), some (.inl (if a1 = 5 then (if r1 = (-9) then 0 else 1 : Int32) else (if a1 = 6 then 1 else 0 : Int32) : Int32))]) (st2 := []) (w2 := w) 1 (fun F h => h) (fun hc27 => ?_) (fun hc27 => ?_)
            · rw [if_pos hc27] at hf
              refine pm_go (i2 := 55) (ls2 := [some (.inr (.inr (19, 0))), some (.inl a1), some (.inl r1), some (.inl (if a1 = 5 then (if r1 = (-9) then 0 else 1 : Int32) else (if a1 = 6 then 1 else 0 : Int32) : Int32))]) (st2 := [.inl r1, .inl 1, .inr (.inr (19, 0))]) (w2 := w) 3 (fun F h => h) ?_
              obtain ⟨r28, hr29, hf⟩ := Option.bind_eq_some_iff.mp hf
              refine pm_ca (y := 109) (as := [.inr (.inr (19, 0)), .inl 1, .inl r1]) (r := none) (w2 := w) (w1 := r28) (t := []) (i2 := 56) (ls2 := [some (.inr (.inr (19, 0))), some (.inl a1), some (.inl r1), some (.inl (if a1 = 5 then (if r1 = (-9) then 0 else 1 : Int32) else (if a1 = 6 then 1 else 0 : Int32) : Int32))]) 1 (a_X8_passOn F w 1 r1 r28 d (by omega) hr29) (fun F h => h) ?_
              show pm_Gx (RT d) co_X8_tryThing 56 [some (.inr (.inr (19, 0))), some (.inl a1), some (.inl r1), some (.inl (if a1 = 5 then (if r1 = (-9) then 0 else 1 : Int32) else (if a1 = 6 then 1 else 0 : Int32) : Int32))] [] r28 Q
              refine pm_go (i2 := 63) (ls2 := [some (.inr (.inr (19, 0))), some (.inl a1), some (.inl r1), some (.inl (if a1 = 5 then (if r1 = (-9) then 0 else 1 : Int32) else (if a1 = 6 then 1 else 0 : Int32) : Int32))]) (st2 := [.inl (if a1 = 5 then (if r1 = (-9) then 0 else 1 : Int32) else (if a1 = 6 then 1 else 0 : Int32) : Int32)]) (w2 := r28) 2 (fun F h => h) ?_
              obtain ⟨hz30, hf⟩ := pm_itn hf
              obtain rfl := Option.some.inj hf
              exact pm_re (r := some (.inl (if a1 = 5 then (if r1 = (-9) then 0 else 1 : Int32) else (if a1 = 6 then 1 else 0 : Int32) : Int32))) (w2 := r28) 1 (fun F h => ⟨pm_isb_nar hz30, h⟩) hq
            · rw [if_neg hc27] at hf
              refine pm_go (i2 := 58) (ls2 := [some (.inr (.inr (19, 0))), some (.inl a1), some (.inl r1), some (.inl (if a1 = 5 then (if r1 = (-9) then 0 else 1 : Int32) else (if a1 = 6 then 1 else 0 : Int32) : Int32))]) (st2 := [.inl (if a1 = 5 then (if r1 = (-9) then 0 else 1 : Int32) else (if a1 = 6 then 1 else 0 : Int32) : Int32)]) (w2 := w) 1 (fun F h => h) ?_
              refine pm_if (P := (if a1 = 5 then (if r1 = (-9) then 0 else 1 : Int32) else (if a1 = 6 then 1 else 0 : Int32) : Int32) = 0) (i2 := 62) (i3 := 59) (ls2 := [some (.inr (.inr (19, 0))), some (.inl a1), some (.inl r1), some (.inl (if a1 = 5 then (if r1 = (-9) then 0 else 1 : Int32) else (if a1 = 6 then 1 else 0 : Int32) : Int32))]) (st2 := []) (w2 := w) 1 (fun F h => h) (fun hc31 => ?_) (fun hc31 => ?_)
              · rw [if_pos hc31] at hf
                refine pm_go (i2 := 63) (ls2 := [some (.inr (.inr (19, 0))), some (.inl a1), some (.inl r1), some (.inl (if a1 = 5 then (if r1 = (-9) then 0 else 1 : Int32) else (if a1 = 6 then 1 else 0 : Int32) : Int32))]) (st2 := [.inl (if a1 = 5 then (if r1 = (-9) then 0 else 1 : Int32) else (if a1 = 6 then 1 else 0 : Int32) : Int32)]) (w2 := w) 1 (fun F h => h) ?_
                obtain ⟨hz32, hf⟩ := pm_itn hf
                obtain rfl := Option.some.inj hf
                exact pm_re (r := some (.inl (if a1 = 5 then (if r1 = (-9) then 0 else 1 : Int32) else (if a1 = 6 then 1 else 0 : Int32) : Int32))) (w2 := w) 1 (fun F h => ⟨pm_isb_nar hz32, h⟩) hq
              · rw [if_neg hc31] at hf
                refine pm_go (i2 := 61) (ls2 := [some (.inr (.inr (19, 0))), some (.inl a1), some (.inl r1), some (.inl (if a1 = 5 then (if r1 = (-9) then 0 else 1 : Int32) else (if a1 = 6 then 1 else 0 : Int32) : Int32))]) (st2 := [.inl 1, .inr (.inr (19, 0))]) (w2 := w) 2 (fun F h => h) ?_
                obtain ⟨r33, hr34, hf⟩ := Option.bind_eq_some_iff.mp hf
                refine pm_ca (y := 110) (as := [.inr (.inr (19, 0)), .inl 1]) (r := none) (w2 := w) (w1 := r33) (t := []) (i2 := 62) (ls2 := [some (.inr (.inr (19, 0))), some (.inl a1), some (.inl r1), some (.inl (if a1 = 5 then (if r1 = (-9) then 0 else 1 : Int32) else (if a1 = 6 then 1 else 0 : Int32) : Int32))]) 1 (a_X8_fetchOn F w 1 r33 d (by omega) hr34) (fun F h => h) ?_
                show pm_Gx (RT d) co_X8_tryThing 62 [some (.inr (.inr (19, 0))), some (.inl a1), some (.inl r1), some (.inl (if a1 = 5 then (if r1 = (-9) then 0 else 1 : Int32) else (if a1 = 6 then 1 else 0 : Int32) : Int32))] [] r33 Q
                refine pm_go (i2 := 63) (ls2 := [some (.inr (.inr (19, 0))), some (.inl a1), some (.inl r1), some (.inl (if a1 = 5 then (if r1 = (-9) then 0 else 1 : Int32) else (if a1 = 6 then 1 else 0 : Int32) : Int32))]) (st2 := [.inl (if a1 = 5 then (if r1 = (-9) then 0 else 1 : Int32) else (if a1 = 6 then 1 else 0 : Int32) : Int32)]) (w2 := r33) 1 (fun F h => h) ?_
                obtain ⟨hz35, hf⟩ := pm_itn hf
                obtain rfl := Option.some.inj hf
                exact pm_re (r := some (.inl (if a1 = 5 then (if r1 = (-9) then 0 else 1 : Int32) else (if a1 = 6 then 1 else 0 : Int32) : Int32))) (w2 := r33) 1 (fun F h => ⟨pm_isb_nar hz35, h⟩) hq
        · rw [if_neg hc20] at hf
          refine pm_go (i2 := 45) (ls2 := [some (.inr (.inr (19, 0))), some (.inl a1), some (.inl r1), some (.inl (if a1 = 5 then (if r1 = (-9) then 0 else 1 : Int32) else (if a1 = 6 then 1 else 0 : Int32) : Int32))]) (st2 := [.inl a1, .inl 1, .inr (.inr (19, 0))]) (w2 := w) 3 (fun F h => h) ?_
          obtain ⟨r36, hr37, hf⟩ := Option.bind_eq_some_iff.mp hf
          refine pm_ca (y := 108) (as := [.inr (.inr (19, 0)), .inl 1, .inl a1]) (r := none) (w2 := w) (w1 := r36) (t := []) (i2 := 46) (ls2 := [some (.inr (.inr (19, 0))), some (.inl a1), some (.inl r1), some (.inl (if a1 = 5 then (if r1 = (-9) then 0 else 1 : Int32) else (if a1 = 6 then 1 else 0 : Int32) : Int32))]) 1 (a_X8_sayOn F w 1 a1 r36 d (by omega) hr37) (fun F h => h) ?_
          show pm_Gx (RT d) co_X8_tryThing 46 [some (.inr (.inr (19, 0))), some (.inl a1), some (.inl r1), some (.inl (if a1 = 5 then (if r1 = (-9) then 0 else 1 : Int32) else (if a1 = 6 then 1 else 0 : Int32) : Int32))] [] r36 Q
          refine pm_go (i2 := 63) (ls2 := [some (.inr (.inr (19, 0))), some (.inl a1), some (.inl r1), some (.inl (if a1 = 5 then (if r1 = (-9) then 0 else 1 : Int32) else (if a1 = 6 then 1 else 0 : Int32) : Int32))]) (st2 := [.inl (if a1 = 5 then (if r1 = (-9) then 0 else 1 : Int32) else (if a1 = 6 then 1 else 0 : Int32) : Int32)]) (w2 := r36) 2 (fun F h => h) ?_
          obtain ⟨hz38, hf⟩ := pm_itn hf
          obtain rfl := Option.some.inj hf
          exact pm_re (r := some (.inl (if a1 = 5 then (if r1 = (-9) then 0 else 1 : Int32) else (if a1 = 6 then 1 else 0 : Int32) : Int32))) (w2 := r36) 1 (fun F h => ⟨pm_isb_nar hz38, h⟩) hq
    clear hf
    refine pm_if (P := a1 = 5) (i2 := 23) (i3 := 30) (ls2 := [some (.inr (.inr (19, 0))), some (.inl a1), some (.inl r1), none]) (st2 := []) (w2 := w) 1 (fun F h => h) (fun hc39 => ?_) (fun hc39 => ?_)
    · try simp only [if_pos hc39] at key
      refine pm_go (i2 := 25) (ls2 := [some (.inr (.inr (19, 0))), some (.inl a1), some (.inl r1), none]) (st2 := [.inl (-9), .inl r1]) (w2 := w) 2 (fun F h => h) ?_
      refine pm_if (P := r1 = (-9)) (i2 := 28) (i3 := 26) (ls2 := [some (.inr (.inr (19, 0))), some (.inl a1), some (.inl r1), none]) (st2 := []) (w2 := w) 1 (fun F h => h) (fun hc40 => ?_) (fun hc40 => ?_)
      · try simp only [if_pos hc40] at key
        refine pm_go (i2 := 36) (ls2 := [some (.inr (.inr (19, 0))), some (.inl a1), some (.inl r1), none]) (st2 := [.inl 0]) (w2 := w) 2 (fun F h => h) ?_
        exact key
      · try simp only [if_neg hc40] at key
        refine pm_go (i2 := 36) (ls2 := [some (.inr (.inr (19, 0))), some (.inl a1), some (.inl r1), none]) (st2 := [.inl 1]) (w2 := w) 2 (fun F h => h) ?_
        exact key
    · try simp only [if_neg hc39] at key
      refine pm_go (i2 := 32) (ls2 := [some (.inr (.inr (19, 0))), some (.inl a1), some (.inl r1), none]) (st2 := [.inl 6, .inl a1]) (w2 := w) 2 (fun F h => h) ?_
      refine pm_if (P := a1 = 6) (i2 := 33) (i3 := 35) (ls2 := [some (.inr (.inr (19, 0))), some (.inl a1), some (.inl r1), none]) (st2 := []) (w2 := w) 1 (fun F h => h) (fun hc41 => ?_) (fun hc41 => ?_)
      · try simp only [if_pos hc41] at key
        refine pm_go (i2 := 36) (ls2 := [some (.inr (.inr (19, 0))), some (.inl a1), some (.inl r1), none]) (st2 := [.inl 1]) (w2 := w) 2 (fun F h => h) ?_
        exact key
      · try simp only [if_neg hc41] at key
        refine pm_go (i2 := 36) (ls2 := [some (.inr (.inr (19, 0))), some (.inl a1), some (.inl r1), none]) (st2 := [.inl 0]) (w2 := w) 1 (fun F h => h) ?_
        exact key
  · rw [if_neg hc3] at hf
    refine pm_go (i2 := 9) (ls2 := [some (.inr (.inr (19, 0))), some (.inl a1), some (.inl r1), none]) (st2 := [.inl a1, .inr (.inr (19, 0))]) (w2 := w) 2 (fun F h => h) ?_
    obtain ⟨r42, hr43, hf⟩ := Option.bind_eq_some_iff.mp hf
    refine pm_ca (y := 101) (as := [.inr (.inr (19, 0)), .inl a1]) (r := some (.inl r42)) (w2 := w) (w1 := w) (t := []) (i2 := 10) (ls2 := [some (.inr (.inr (19, 0))), some (.inl a1), some (.inl r1), none]) 1 (a_X8_isGuest F w a1 r42 d (by omega) hr43) (fun F h => h) ?_
    show pm_Gx (RT d) co_X8_tryThing 10 [some (.inr (.inr (19, 0))), some (.inl a1), some (.inl r1), none] [.inl r42] w Q
    refine pm_if (P := r42 = 0) (i2 := 18) (i3 := 11) (ls2 := [some (.inr (.inr (19, 0))), some (.inl a1), some (.inl r1), none]) (st2 := []) (w2 := w) 1 (fun F h => h) (fun hc44 => ?_) (fun hc44 => ?_)
    · rw [if_pos hc44] at hf
      refine pm_go (i2 := 38) (ls2 := [some (.inr (.inr (19, 0))), some (.inl a1), some (.inl r1), some (.inl 0)]) (st2 := [.inl 0]) (w2 := w) 4 (fun F h => h) ?_
      refine pm_ift (P := (0 : Int32) = 0) (i2 := 47) (i3 := 39) (ls2 := [some (.inr (.inr (19, 0))), some (.inl a1), some (.inl r1), some (.inl 0)]) (st2 := []) (w2 := w) 1 (fun F h => h) (by decide) ?_
      refine pm_go (i2 := 48) (ls2 := [some (.inr (.inr (19, 0))), some (.inl a1), some (.inl r1), some (.inl 0)]) (st2 := [.inl 0]) (w2 := w) 1 (fun F h => h) ?_
      refine pm_ift (P := (0 : Int32) = 0) (i2 := 57) (i3 := 49) (ls2 := [some (.inr (.inr (19, 0))), some (.inl a1), some (.inl r1), some (.inl 0)]) (st2 := []) (w2 := w) 1 (fun F h => h) (by decide) ?_
      refine pm_go (i2 := 58) (ls2 := [some (.inr (.inr (19, 0))), some (.inl a1), some (.inl r1), some (.inl 0)]) (st2 := [.inl 0]) (w2 := w) 1 (fun F h => h) ?_
      refine pm_ift (P := (0 : Int32) = 0) (i2 := 62) (i3 := 59) (ls2 := [some (.inr (.inr (19, 0))), some (.inl a1), some (.inl r1), some (.inl 0)]) (st2 := []) (w2 := w) 1 (fun F h => h) (by decide) ?_
      refine pm_go (i2 := 63) (ls2 := [some (.inr (.inr (19, 0))), some (.inl a1), some (.inl r1), some (.inl 0)]) (st2 := [.inl 0]) (w2 := w) 1 (fun F h => h) ?_
      obtain rfl := Option.some.inj hf
      exact pm_re (r := some (.inl 0)) (w2 := w) 1 (fun F h => ⟨rfl, h⟩) hq
    · rw [if_neg hc44] at hf
      refine pm_go (i2 := 14) (ls2 := [some (.inr (.inr (19, 0))), some (.inl a1), some (.inl r1), none]) (st2 := [.inl a1, .inl 1, .inr (.inr (19, 0))]) (w2 := w) 3 (fun F h => h) ?_
      obtain ⟨r45, hr46, hf⟩ := Option.bind_eq_some_iff.mp hf
      refine pm_ca (y := 107) (as := [.inr (.inr (19, 0)), .inl 1, .inl a1]) (r := some (.inl r45)) (w2 := w) (w1 := w) (t := []) (i2 := 15) (ls2 := [some (.inr (.inr (19, 0))), some (.inl a1), some (.inl r1), none]) 1 (a_X8_canSay F w 1 a1 r45 d (by omega) hr46) (fun F h => h) ?_
      show pm_Gx (RT d) co_X8_tryThing 15 [some (.inr (.inr (19, 0))), some (.inl a1), some (.inl r1), none] [.inl r45] w Q
      have key : pm_Gx (RT d) co_X8_tryThing 36 [some (.inr (.inr (19, 0))), some (.inl a1), some (.inl r1), none] [.inl (if r45 = 0 then 0 else 1 : Int32)] w Q := by
        refine pm_go (i2 := 38) (ls2 := [some (.inr (.inr (19, 0))), some (.inl a1), some (.inl r1), some (.inl (if r45 = 0 then 0 else 1 : Int32))]) (st2 := [.inl (if r45 = 0 then 0 else 1 : Int32)]) (w2 := w) 2 (fun F h => h) ?_
        refine pm_if (P := (if r45 = 0 then 0 else 1 : Int32) = 0) (i2 := 47) (i3 := 39) (ls2 := [some (.inr (.inr (19, 0))), some (.inl a1), some (.inl r1), some (.inl (if r45 = 0 then 0 else 1 : Int32))]) (st2 := []) (w2 := w) 1 (fun F h => h) (fun hc47 => ?_) (fun hc47 => ?_)
        · rw [if_pos hc47] at hf
          refine pm_go (i2 := 48) (ls2 := [some (.inr (.inr (19, 0))), some (.inl a1), some (.inl r1), some (.inl (if r45 = 0 then 0 else 1 : Int32))]) (st2 := [.inl (if r45 = 0 then 0 else 1 : Int32)]) (w2 := w) 1 (fun F h => h) ?_
          refine pm_if (P := (if r45 = 0 then 0 else 1 : Int32) = 0) (i2 := 57) (i3 := 49) (ls2 := [some (.inr (.inr (19, 0))), some (.inl a1), some (.inl r1), some (.inl (if r45 = 0 then 0 else 1 : Int32))]) (st2 := []) (w2 := w) 1 (fun F h => h) (fun hc48 => ?_) (fun hc48 => ?_)
          · rw [if_pos hc48] at hf
            refine pm_go (i2 := 58) (ls2 := [some (.inr (.inr (19, 0))), some (.inl a1), some (.inl r1), some (.inl (if r45 = 0 then 0 else 1 : Int32))]) (st2 := [.inl (if r45 = 0 then 0 else 1 : Int32)]) (w2 := w) 1 (fun F h => h) ?_
            refine pm_if (P := (if r45 = 0 then 0 else 1 : Int32) = 0) (i2 := 62) (i3 := 59) (ls2 := [some (.inr (.inr (19, 0))), some (.inl a1), some (.inl r1), some (.inl (if r45 = 0 then 0 else 1 : Int32))]) (st2 := []) (w2 := w) 1 (fun F h => h) (fun hc49 => ?_) (fun hc49 => ?_)
            · rw [if_pos hc49] at hf
              refine pm_go (i2 := 63) (ls2 := [some (.inr (.inr (19, 0))), some (.inl a1), some (.inl r1), some (.inl (if r45 = 0 then 0 else 1 : Int32))]) (st2 := [.inl (if r45 = 0 then 0 else 1 : Int32)]) (w2 := w) 1 (fun F h => h) ?_
              obtain ⟨hz50, hf⟩ := pm_itn hf
              obtain rfl := Option.some.inj hf
              exact pm_re (r := some (.inl (if r45 = 0 then 0 else 1 : Int32))) (w2 := w) 1 (fun F h => ⟨pm_isb_nar hz50, h⟩) hq
            · rw [if_neg hc49] at hf
              refine pm_go (i2 := 61) (ls2 := [some (.inr (.inr (19, 0))), some (.inl a1), some (.inl r1), some (.inl (if r45 = 0 then 0 else 1 : Int32))]) (st2 := [.inl 1, .inr (.inr (19, 0))]) (w2 := w) 2 (fun F h => h) ?_
              obtain ⟨r51, hr52, hf⟩ := Option.bind_eq_some_iff.mp hf
              refine pm_ca (y := 110) (as := [.inr (.inr (19, 0)), .inl 1]) (r := none) (w2 := w) (w1 := r51) (t := []) (i2 := 62) (ls2 := [some (.inr (.inr (19, 0))), some (.inl a1), some (.inl r1), some (.inl (if r45 = 0 then 0 else 1 : Int32))]) 1 (a_X8_fetchOn F w 1 r51 d (by omega) hr52) (fun F h => h) ?_
              show pm_Gx (RT d) co_X8_tryThing 62 [some (.inr (.inr (19, 0))), some (.inl a1), some (.inl r1), some (.inl (if r45 = 0 then 0 else 1 : Int32))] [] r51 Q
              refine pm_go (i2 := 63) (ls2 := [some (.inr (.inr (19, 0))), some (.inl a1), some (.inl r1), some (.inl (if r45 = 0 then 0 else 1 : Int32))]) (st2 := [.inl (if r45 = 0 then 0 else 1 : Int32)]) (w2 := r51) 1 (fun F h => h) ?_
              obtain ⟨hz53, hf⟩ := pm_itn hf
              obtain rfl := Option.some.inj hf
              exact pm_re (r := some (.inl (if r45 = 0 then 0 else 1 : Int32))) (w2 := r51) 1 (fun F h => ⟨pm_isb_nar hz53, h⟩) hq
          · rw [if_neg hc48] at hf
            refine pm_go (i2 := 51) (ls2 := [some (.inr (.inr (19, 0))), some (.inl a1), some (.inl r1), some (.inl (if r45 = 0 then 0 else 1 : Int32))]) (st2 := [.inl 5, .inl a1]) (w2 := w) 2 (fun F h => h) ?_
            refine pm_if (P := a1 = 5) (i2 := 52) (i3 := 57) (ls2 := [some (.inr (.inr (19, 0))), some (.inl a1), some (.inl r1), some (.inl (if r45 = 0 then 0 else 1 : Int32))]) (st2 := []) (w2 := w) 1 (fun F h => h) (fun hc54 => ?_) (fun hc54 => ?_)
            · rw [if_pos hc54] at hf
              refine pm_go (i2 := 55) (ls2 := [some (.inr (.inr (19, 0))), some (.inl a1), some (.inl r1), some (.inl (if r45 = 0 then 0 else 1 : Int32))]) (st2 := [.inl r1, .inl 1, .inr (.inr (19, 0))]) (w2 := w) 3 (fun F h => h) ?_
              obtain ⟨r55, hr56, hf⟩ := Option.bind_eq_some_iff.mp hf
              refine pm_ca (y := 109) (as := [.inr (.inr (19, 0)), .inl 1, .inl r1]) (r := none) (w2 := w) (w1 := r55) (t := []) (i2 := 56) (ls2 := [some (.inr (.inr (19, 0))), some (.inl a1), some (.inl r1), some (.inl (if r45 = 0 then 0 else 1 : Int32))]) 1 (a_X8_passOn F w 1 r1 r55 d (by omega) hr56) (fun F h => h) ?_
              show pm_Gx (RT d) co_X8_tryThing 56 [some (.inr (.inr (19, 0))), some (.inl a1), some (.inl r1), some (.inl (if r45 = 0 then 0 else 1 : Int32))] [] r55 Q
              refine pm_go (i2 := 63) (ls2 := [some (.inr (.inr (19, 0))), some (.inl a1), some (.inl r1), some (.inl (if r45 = 0 then 0 else 1 : Int32))]) (st2 := [.inl (if r45 = 0 then 0 else 1 : Int32)]) (w2 := r55) 2 (fun F h => h) ?_
              obtain ⟨hz57, hf⟩ := pm_itn hf
              obtain rfl := Option.some.inj hf
              exact pm_re (r := some (.inl (if r45 = 0 then 0 else 1 : Int32))) (w2 := r55) 1 (fun F h => ⟨pm_isb_nar hz57, h⟩) hq
            · rw [if_neg hc54] at hf
              refine pm_go (i2 := 58) (ls2 := [some (.inr (.inr (19, 0))), some (.inl a1), some (.inl r1), some (.inl (if r45 = 0 then 0 else 1 : Int32))]) (st2 := [.inl (if r45 = 0 then 0 else 1 : Int32)]) (w2 := w) 1 (fun F h => h) ?_
              refine pm_if (P := (if r45 = 0 then 0 else 1 : Int32) = 0) (i2 := 62) (i3 := 59) (ls2 := [some (.inr (.inr (19, 0))), some (.inl a1), some (.inl r1), some (.inl (if r45 = 0 then 0 else 1 : Int32))]) (st2 := []) (w2 := w) 1 (fun F h => h) (fun hc58 => ?_) (fun hc58 => ?_)
              · rw [if_pos hc58] at hf
                refine pm_go (i2 := 63) (ls2 := [some (.inr (.inr (19, 0))), some (.inl a1), some (.inl r1), some (.inl (if r45 = 0 then 0 else 1 : Int32))]) (st2 := [.inl (if r45 = 0 then 0 else 1 : Int32)]) (w2 := w) 1 (fun F h => h) ?_
                obtain ⟨hz59, hf⟩ := pm_itn hf
                obtain rfl := Option.some.inj hf
                exact pm_re (r := some (.inl (if r45 = 0 then 0 else 1 : Int32))) (w2 := w) 1 (fun F h => ⟨pm_isb_nar hz59, h⟩) hq
              · rw [if_neg hc58] at hf
                refine pm_go (i2 := 61) (ls2 := [some (.inr (.inr (19, 0))), some (.inl a1), some (.inl r1), some (.inl (if r45 = 0 then 0 else 1 : Int32))]) (st2 := [.inl 1, .inr (.inr (19, 0))]) (w2 := w) 2 (fun F h => h) ?_
                obtain ⟨r60, hr61, hf⟩ := Option.bind_eq_some_iff.mp hf
                refine pm_ca (y := 110) (as := [.inr (.inr (19, 0)), .inl 1]) (r := none) (w2 := w) (w1 := r60) (t := []) (i2 := 62) (ls2 := [some (.inr (.inr (19, 0))), some (.inl a1), some (.inl r1), some (.inl (if r45 = 0 then 0 else 1 : Int32))]) 1 (a_X8_fetchOn F w 1 r60 d (by omega) hr61) (fun F h => h) ?_
                show pm_Gx (RT d) co_X8_tryThing 62 [some (.inr (.inr (19, 0))), some (.inl a1), some (.inl r1), some (.inl (if r45 = 0 then 0 else 1 : Int32))] [] r60 Q
                refine pm_go (i2 := 63) (ls2 := [some (.inr (.inr (19, 0))), some (.inl a1), some (.inl r1), some (.inl (if r45 = 0 then 0 else 1 : Int32))]) (st2 := [.inl (if r45 = 0 then 0 else 1 : Int32)]) (w2 := r60) 1 (fun F h => h) ?_
                obtain ⟨hz62, hf⟩ := pm_itn hf
                obtain rfl := Option.some.inj hf
                exact pm_re (r := some (.inl (if r45 = 0 then 0 else 1 : Int32))) (w2 := r60) 1 (fun F h => ⟨pm_isb_nar hz62, h⟩) hq
        · rw [if_neg hc47] at hf
          refine pm_go (i2 := 41) (ls2 := [some (.inr (.inr (19, 0))), some (.inl a1), some (.inl r1), some (.inl (if r45 = 0 then 0 else 1 : Int32))]) (st2 := [.inl 5, .inl a1]) (w2 := w) 2 (fun F h => h) ?_
          refine pm_if (P := 5 ≤ a1) (i2 := 47) (i3 := 42) (ls2 := [some (.inr (.inr (19, 0))), some (.inl a1), some (.inl r1), some (.inl (if r45 = 0 then 0 else 1 : Int32))]) (st2 := []) (w2 := w) 1 (fun F h => h) (fun hc63 => ?_) (fun hc63 => ?_)
          · rw [if_pos hc63] at hf
            refine pm_go (i2 := 48) (ls2 := [some (.inr (.inr (19, 0))), some (.inl a1), some (.inl r1), some (.inl (if r45 = 0 then 0 else 1 : Int32))]) (st2 := [.inl (if r45 = 0 then 0 else 1 : Int32)]) (w2 := w) 1 (fun F h => h) ?_
            refine pm_if (P := (if r45 = 0 then 0 else 1 : Int32) = 0) (i2 := 57) (i3 := 49) (ls2 := [some (.inr (.inr (19, 0))), some (.inl a1), some (.inl r1), some (.inl (if r45 = 0 then 0 else 1 : Int32))]) (st2 := []) (w2 := w) 1 (fun F h => h) (fun hc64 => ?_) (fun hc64 => ?_)
            · rw [if_pos hc64] at hf
              refine pm_go (i2 := 58) (ls2 := [some (.inr (.inr (19, 0))), some (.inl a1), some (.inl r1), some (.inl (if r45 = 0 then 0 else 1 : Int32))]) (st2 := [.inl (if r45 = 0 then 0 else 1 : Int32)]) (w2 := w) 1 (fun F h => h) ?_
              refine pm_if (P := (if r45 = 0 then 0 else 1 : Int32) = 0) (i2 := 62) (i3 := 59) (ls2 := [some (.inr (.inr (19, 0))), some (.inl a1), some (.inl r1), some (.inl (if r45 = 0 then 0 else 1 : Int32))]) (st2 := []) (w2 := w) 1 (fun F h => h) (fun hc65 => ?_) (fun hc65 => ?_)
              · rw [if_pos hc65] at hf
                refine pm_go (i2 := 63) (ls2 := [some (.inr (.inr (19, 0))), some (.inl a1), some (.inl r1), some (.inl (if r45 = 0 then 0 else 1 : Int32))]) (st2 := [.inl (if r45 = 0 then 0 else 1 : Int32)]) (w2 := w) 1 (fun F h => h) ?_
                obtain ⟨hz66, hf⟩ := pm_itn hf
                obtain rfl := Option.some.inj hf
                exact pm_re (r := some (.inl (if r45 = 0 then 0 else 1 : Int32))) (w2 := w) 1 (fun F h => ⟨pm_isb_nar hz66, h⟩) hq
              · rw [if_neg hc65] at hf
                refine pm_go (i2 := 61) (ls2 := [some (.inr (.inr (19, 0))), some (.inl a1), some (.inl r1), some (.inl (if r45 = 0 then 0 else 1 : Int32))]) (st2 := [.inl 1, .inr (.inr (19, 0))]) (w2 := w) 2 (fun F h => h) ?_
                obtain ⟨r67, hr68, hf⟩ := Option.bind_eq_some_iff.mp hf
                refine pm_ca (y := 110) (as := [.inr (.inr (19, 0)), .inl 1]) (r := none) (w2 := w) (w1 := r67) (t := []) (i2 := 62) (ls2 := [some (.inr (.inr (19, 0))), some (.inl a1), some (.inl r1), some (.inl (if r45 = 0 then 0 else 1 : Int32))]) 1 (a_X8_fetchOn F w 1 r67 d (by omega) hr68) (fun F h => h) ?_
                show pm_Gx (RT d) co_X8_tryThing 62 [some (.inr (.inr (19, 0))), some (.inl a1), some (.inl r1), some (.inl (if r45 = 0 then 0 else 1 : Int32))] [] r67 Q
                refine pm_go (i2 := 63) (ls2 := [some (.inr (.inr (19, 0))), some (.inl a1), some (.inl r1), some (.inl (if r45 = 0 then 0 else 1 : Int32))]) (st2 := [.inl (if r45 = 0 then 0 else 1 : Int32)]) (w2 := r67) 1 (fun F h => h) ?_
                obtain ⟨hz69, hf⟩ := pm_itn hf
                obtain rfl := Option.some.inj hf
                exact pm_re (r := some (.inl (if r45 = 0 then 0 else 1 : Int32))) (w2 := r67) 1 (fun F h => ⟨pm_isb_nar hz69, h⟩) hq
            · rw [if_neg hc64] at hf
              refine pm_go (i2 := 51) (ls2 := [some (.inr (.inr (19, 0))), some (.inl a1), some (.inl r1), some (.inl (if r45 = 0 then 0 else 1 : Int32))]) (st2 := [.inl 5, .inl a1]) (w2 := w) 2 (fun F h => h) ?_
              refine pm_if (P := a1 = 5) (i2 := 52) (i3 := 57) (ls2 := [some (.inr (.inr (19, 0))), some (.inl a1), some (.inl r1), some (.inl (if r45 = 0 then 0 else 1 : Int32))]) (st2 := []) (w2 := w) 1 (fun F h => h) (fun hc70 => ?_) (fun hc70 => ?_)
              · rw [if_pos hc70] at hf
                refine pm_go (i2 := 55) (ls2 := [some (.inr (.inr (19, 0))), some (.inl a1), some (.inl r1), some (.inl (if r45 = 0 then 0 else 1 : Int32))]) (st2 := [.inl r1, .inl 1, .inr (.inr (19, 0))]) (w2 := w) 3 (fun F h => h) ?_
                obtain ⟨r71, hr72, hf⟩ := Option.bind_eq_some_iff.mp hf
                refine pm_ca (y := 109) (as := [.inr (.inr (19, 0)), .inl 1, .inl r1]) (r := none) (w2 := w) (w1 := r71) (t := []) (i2 := 56) (ls2 := [some (.inr (.inr (19, 0))), some (.inl a1), some (.inl r1), some (.inl (if r45 = 0 then 0 else 1 : Int32))]) 1 (a_X8_passOn F w 1 r1 r71 d (by omega) hr72) (fun F h => h) ?_
                show pm_Gx (RT d) co_X8_tryThing 56 [some (.inr (.inr (19, 0))), some (.inl a1), some (.inl r1), some (.inl (if r45 = 0 then 0 else 1 : Int32))] [] r71 Q
                refine pm_go (i2 := 63) (ls2 := [some (.inr (.inr (19, 0))), some (.inl a1), some (.inl r1), some (.inl (if r45 = 0 then 0 else 1 : Int32))]) (st2 := [.inl (if r45 = 0 then 0 else 1 : Int32)]) (w2 := r71) 2 (fun F h => h) ?_
                obtain ⟨hz73, hf⟩ := pm_itn hf
                obtain rfl := Option.some.inj hf
                exact pm_re (r := some (.inl (if r45 = 0 then 0 else 1 : Int32))) (w2 := r71) 1 (fun F h => ⟨pm_isb_nar hz73, h⟩) hq
              · rw [if_neg hc70] at hf
                refine pm_go (i2 := 58) (ls2 := [some (.inr (.inr (19, 0))), some (.inl a1), some (.inl r1), some (.inl (if r45 = 0 then 0 else 1 : Int32))]) (st2 := [.inl (if r45 = 0 then 0 else 1 : Int32)]) (w2 := w) 1 (fun F h => h) ?_
                refine pm_if (P := (if r45 = 0 then 0 else 1 : Int32) = 0) (i2 := 62) (i3 := 59) (ls2 := [some (.inr (.inr (19, 0))), some (.inl a1), some (.inl r1), some (.inl (if r45 = 0 then 0 else 1 : Int32))]) (st2 := []) (w2 := w) 1 (fun F h => h) (fun hc74 => ?_) (fun hc74 => ?_)
                · rw [if_pos hc74] at hf
                  refine pm_go (i2 := 63) (ls2 := [some (.inr (.inr (19, 0))), some (.inl a1), some (.inl r1), some (.inl (if r45 = 0 then 0 else 1 : Int32))]) (st2 := [.inl (if r45 = 0 then 0 else 1 : Int32)]) (w2 := w) 1 (fun F h => h) ?_
                  obtain ⟨hz75, hf⟩ := pm_itn hf
                  obtain rfl := Option.some.inj hf
                  exact pm_re (r := some (.inl (if r45 = 0 then 0 else 1 : Int32))) (w2 := w) 1 (fun F h => ⟨pm_isb_nar hz75, h⟩) hq
                · rw [if_neg hc74] at hf
                  refine pm_go (i2 := 61) (ls2 := [some (.inr (.inr (19, 0))), some (.inl a1), some (.inl r1), some (.inl (if r45 = 0 then 0 else 1 : Int32))]) (st2 := [.inl 1, .inr (.inr (19, 0))]) (w2 := w) 2 (fun F h => h) ?_
                  obtain ⟨r76, hr77, hf⟩ := Option.bind_eq_some_iff.mp hf
                  refine pm_ca (y := 110) (as := [.inr (.inr (19, 0)), .inl 1]) (r := none) (w2 := w) (w1 := r76) (t := []) (i2 := 62) (ls2 := [some (.inr (.inr (19, 0))), some (.inl a1), some (.inl r1), some (.inl (if r45 = 0 then 0 else 1 : Int32))]) 1 (a_X8_fetchOn F w 1 r76 d (by omega) hr77) (fun F h => h) ?_
                  show pm_Gx (RT d) co_X8_tryThing 62 [some (.inr (.inr (19, 0))), some (.inl a1), some (.inl r1), some (.inl (if r45 = 0 then 0 else 1 : Int32))] [] r76 Q
                  refine pm_go (i2 := 63) (ls2 := [some (.inr (.inr (19, 0))), some (.inl a1), some (.inl r1), some (.inl (if r45 = 0 then 0 else 1 : Int32))]) (st2 := [.inl (if r45 = 0 then 0 else 1 : Int32)]) (w2 := r76) 1 (fun F h => h) ?_
                  obtain ⟨hz78, hf⟩ := pm_itn hf
                  obtain rfl := Option.some.inj hf
                  exact pm_re (r := some (.inl (if r45 = 0 then 0 else 1 : Int32))) (w2 := r76) 1 (fun F h => ⟨pm_isb_nar hz78, h⟩) hq
          · rw [if_neg hc63] at hf
            refine pm_go (i2 := 45) (ls2 := [some (.inr (.inr (19, 0))), some (.inl a1), some (.inl r1), some (.inl (if r45 = 0 then 0 else 1 : Int32))]) (st2 := [.inl a1, .inl 1, .inr (.inr (19, 0))]) (w2 := w) 3 (fun F h => h) ?_
            obtain ⟨r79, hr80, hf⟩ := Option.bind_eq_some_iff.mp hf
            refine pm_ca (y := 108) (as := [.inr (.inr (19, 0)), .inl 1, .inl a1]) (r := none) (w2 := w) (w1 := r79) (t := []) (i2 := 46) (ls2 := [some (.inr (.inr (19, 0))), some (.inl a1), some (.inl r1), some (.inl (if r45 = 0 then 0 else 1 : Int32))]) 1 (a_X8_sayOn F w 1 a1 r79 d (by omega) hr80) (fun F h => h) ?_
            show pm_Gx (RT d) co_X8_tryThing 46 [some (.inr (.inr (19, 0))), some (.inl a1), some (.inl r1), some (.inl (if r45 = 0 then 0 else 1 : Int32))] [] r79 Q
            refine pm_go (i2 := 63) (ls2 := [some (.inr (.inr (19, 0))), some (.inl a1), some (.inl r1), some (.inl (if r45 = 0 then 0 else 1 : Int32))]) (st2 := [.inl (if r45 = 0 then 0 else 1 : Int32)]) (w2 := r79) 2 (fun F h => h) ?_
            obtain ⟨hz81, hf⟩ := pm_itn hf
            obtain rfl := Option.some.inj hf
            exact pm_re (r := some (.inl (if r45 = 0 then 0 else 1 : Int32))) (w2 := r79) 1 (fun F h => ⟨pm_isb_nar hz81, h⟩) hq
      clear hf
      refine pm_if (P := r45 = 0) (i2 := 18) (i3 := 16) (ls2 := [some (.inr (.inr (19, 0))), some (.inl a1), some (.inl r1), none]) (st2 := []) (w2 := w) 1 (fun F h => h) (fun hc82 => ?_) (fun hc82 => ?_)
      · try simp only [if_pos hc82] at key
        refine pm_go (i2 := 36) (ls2 := [some (.inr (.inr (19, 0))), some (.inl a1), some (.inl r1), none]) (st2 := [.inl 0]) (w2 := w) 2 (fun F h => h) ?_
        exact key
      · try simp only [if_neg hc82] at key
        refine pm_go (i2 := 36) (ls2 := [some (.inr (.inr (19, 0))), some (.inl a1), some (.inl r1), none]) (st2 := [.inl 1]) (w2 := w) 2 (fun F h => h) ?_
        exact key
set_option maxRecDepth 20000 in
set_option maxHeartbeats 4000000 in
theorem a_X8_tryThing (F : Nat) (w : pm_W) (a1 : Int32) (x : (Int32 × pm_W)) (d : Nat) (hd : 3 ≤ d) (hf : f_X8_tryThing F w a1 = some x) : RT d 127 [.inr (.inr (19, 0)), .inl a1] w (some (.inl x.1)) x.2 := by
  obtain ⟨d, rfl, hd2⟩ := pm_dep hd
  exact pm_start (co := co_X8_tryThing) (nL := 4) (by decide) rfl rfl (Nat.le_of_ble_eq_true rfl) (b_X8_tryThing F d hd2 _ w a1 x hf ⟨rfl, rfl⟩)
