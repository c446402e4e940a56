def f_X8_judge_L23 (F : Nat) : Nat → pm_W → Int32 → Int32 → Int32 → Option ((Int32 × pm_W) ⊕ (Int32 × pm_W))
  | 0, _, _, _, _ => none
  | n + 1, w, v1, v2, v3 => (if v1 ≤ v3 then some (.inl (v3, w)) else ((f_X8_power F w 10 ((v1 - 1) - v3)).bind fun r12 => (if pm_nz r12 = true then ((f_X8_tryThing F w ((v2 / r12) - (v2 / r12) / 10 * 10)).bind fun r15 => (if r15.1 = 0 then some (.inr (v3, r15.2)) else (if (r15.2.1 23 0 16) = 0 then some (.inr (v3, r15.2)) else f_X8_judge_L23 F n r15.2 v1 v2 (v3 + 1)))) else none)))
def f_X8_judge (F : Nat) (w : pm_W) (a1 : Int32) (a2 : Int32) : Option ((Int32 × pm_W)) := ((f_X8_in F w a1.toInt64 1 6).bind fun r1 => (if r1 = 0 then some ((-2), w) else ((f_X8_power F w 10 a1).bind fun r4 => ((f_X8_in F w a2.toInt64 0 ((r4 - 1).toInt64)).bind fun r6 => (if r6 = 0 then some ((-2), w) else ((f_X8_layTrial F w).bind fun r9 => ((f_X8_judge_L23 F F r9 a1 a2 0).bind fun x19 => Sum.elim (fun ex19 => some ((-9), ex19.2)) (fun rx19 => some rx19) x19)))))))
set_option maxRecDepth 20000 in
set_option maxHeartbeats 4000000 in
theorem a_X8_judge_L23 (F : Nat) (d : Nat) (hd : 3 ≤ d) (Q : pm_Q) : ∀ (n : Nat) (w : pm_W) (v1 : Int32) (v2 : Int32) (v3 : Int32) (x : (Int32 × pm_W) ⊕ (Int32 × pm_W)), f_X8_judge_L23 F n w v1 v2 v3 = some x → (∀ e, x = .inl e → pm_Gx (RT d) co_X8_judge 49 [some (.inr (.inr (19, 0))), some (.inl v1), some (.inl v2), some (.inl e.1)] [] e.2 Q) → (∀ r, x = .inr r → Q (some (.inl r.1)) r.2) → pm_Gx (RT d) co_X8_judge 23 [some (.inr (.inr (19, 0))), some (.inl v1), some (.inl v2), some (.inl v3)] [] w Q := by
  intro n
  induction n with
  | zero =>
    intro w v1 v2 v3 x hf
    cases hf
  | succ n ih =>
    intro w v1 v2 v3 x hf hk hq
    rw [f_X8_judge_L23] at hf
    refine pm_go (i2 := 25) (ls2 := [some (.inr (.inr (19, 0))), some (.inl v1), some (.inl v2), some (.inl v3)]) (st2 := [.inl v1, .inl v3]) (w2 := w) 2 (fun F h => h) ?_
    refine pm_if (P := v1 ≤ v3) (i2 := 49) (i3 := 26) (ls2 := [some (.inr (.inr (19, 0))), some (.inl v1), some (.inl v2), some (.inl v3)]) (st2 := []) (w2 := w) 1 (fun F h => h) (fun hc11 => ?_) (fun hc11 => ?_)
    · rw [if_pos hc11] at hf
      obtain rfl := Option.some.inj hf
      exact hk _ rfl
    · rw [if_neg hc11] at hf
      refine pm_go (i2 := 34) (ls2 := [some (.inr (.inr (19, 0))), some (.inl v1), some (.inl v2), some (.inl v3)]) (st2 := [.inl ((v1 - 1) - v3), .inl 10, .inl v2, .inr (.inr (19, 0))]) (w2 := w) 8 (fun F h => h) ?_
      obtain ⟨r12, hr13, hf⟩ := Option.bind_eq_some_iff.mp hf
      refine pm_ca (y := 117) (as := [.inl 10, .inl ((v1 - 1) - v3)]) (r := some (.inl r12)) (w2 := w) (w1 := w) (t := [.inl v2, .inr (.inr (19, 0))]) (i2 := 35) (ls2 := [some (.inr (.inr (19, 0))), some (.inl v1), some (.inl v2), some (.inl v3)]) 1 (a_X8_power F w 10 ((v1 - 1) - v3) r12 d (by omega) hr13) (fun F h => h) ?_
      show pm_Gx (RT d) co_X8_judge 35 [some (.inr (.inr (19, 0))), some (.inl v1), some (.inl v2), some (.inl v3)] [.inl r12, .inl v2, .inr (.inr (19, 0))] w Q
      obtain ⟨hs14, hf⟩ := pm_itn hf
      refine pm_go (i2 := 38) (ls2 := [some (.inr (.inr (19, 0))), some (.inl v1), some (.inl v2), some (.inl v3)]) (st2 := [.inl ((v2 / r12) - (v2 / r12) / 10 * 10), .inr (.inr (19, 0))]) (w2 := w) 3 (fun F h => ⟨(pm_nz_ne hs14), (by decide), h⟩) ?_
      obtain ⟨r15, hr16, hf⟩ := Option.bind_eq_some_iff.mp hf
      refine pm_ca (y := 127) (as := [.inr (.inr (19, 0)), .inl ((v2 / r12) - (v2 / r12) / 10 * 10)]) (r := some (.inl r15.1)) (w2 := w) (w1 := r15.2) (t := []) (i2 := 39) (ls2 := [some (.inr (.inr (19, 0))), some (.inl v1), some (.inl v2), some (.inl v3)]) 1 (a_X8_tryThing F w ((v2 / r12) - (v2 / r12) / 10 * 10) r15 d (by omega) hr16) (fun F h => h) ?_
      show pm_Gx (RT d) co_X8_judge 39 [some (.inr (.inr (19, 0))), some (.inl v1), some (.inl v2), some (.inl v3)] [.inl r15.1] r15.2 Q
      refine pm_if (P := r15.1 = 0) (i2 := 45) (i3 := 40) (ls2 := [some (.inr (.inr (19, 0))), some (.inl v1), some (.inl v2), some (.inl v3)]) (st2 := []) (w2 := r15.2) 1 (fun F h => h) (fun hc17 => ?_) (fun hc17 => ?_)
      · rw [if_pos hc17] at hf
        refine pm_go (i2 := 46) (ls2 := [some (.inr (.inr (19, 0))), some (.inl v1), some (.inl v2), some (.inl v3)]) (st2 := [.inl v3]) (w2 := r15.2) 1 (fun F h => h) ?_
        obtain rfl := Option.some.inj hf
        exact pm_re (r := some (.inl v3)) (w2 := r15.2) 1 (fun F h => h) (hq _ rfl)
      · rw [if_neg hc17] at hf
        refine pm_go (i2 := 44) (ls2 := [some (.inr (.inr (19, 0))), some (.inl v1), some (.inl v2), some (.inl v3)]) (st2 := [.inl (r15.2.1 23 0 16)]) (w2 := r15.2) 4 (fun F h => ⟨(pm_inb_in (by decide)), h⟩) ?_
        refine pm_if (P := (r15.2.1 23 0 16) = 0) (i2 := 45) (i3 := 47) (ls2 := [some (.inr (.inr (19, 0))), some (.inl v1), some (.inl v2), some (.inl v3)]) (st2 := []) (w2 := r15.2) 1 (fun F h => h) (fun hc18 => ?_) (fun hc18 => ?_)
        · rw [if_pos hc18] at hf
          refine pm_go (i2 := 46) (ls2 := [some (.inr (.inr (19, 0))), some (.inl v1), some (.inl v2), some (.inl v3)]) (st2 := [.inl v3]) (w2 := r15.2) 1 (fun F h => h) ?_
          obtain rfl := Option.some.inj hf
          exact pm_re (r := some (.inl v3)) (w2 := r15.2) 1 (fun F h => h) (hq _ rfl)
        · rw [if_neg hc18] at hf
          refine pm_go (i2 := 23) (ls2 := [some (.inr (.inr (19, 0))), some (.inl v1), some (.inl v2), some (.inl (v3 + 1))]) (st2 := []) (w2 := r15.2) 2 (fun F h => h) ?_
          exact ih r15.2 v1 v2 (v3 + 1) _ hf hk hq
set_option maxRecDepth 20000 in
set_option maxHeartbeats 4000000 in
theorem b_X8_judge (F : Nat) (d : Nat) (hd : 3 ≤ d) (Q : pm_Q) (w : pm_W) (a1 : Int32) (a2 : Int32) (x : (Int32 × pm_W)) (hf : f_X8_judge F w a1 a2 = some x) (hq : Q (some (.inl x.1)) x.2) : pm_Gx (RT d) co_X8_judge 0 [some (.inr (.inr (19, 0))), some (.inl a1), some (.inl a2), none] [] w Q := by
  unfold f_X8_judge at hf
  refine pm_go (i2 := 4) (ls2 := [some (.inr (.inr (19, 0))), some (.inl a1), some (.inl a2), none]) (st2 := [.inr (.inl 6), .inr (.inl 1), .inr (.inl a1.toInt64)]) (w2 := w) 4 (fun F h => h) ?_
  obtain ⟨r1, hr2, hf⟩ := Option.bind_eq_some_iff.mp hf
  refine pm_ca (y := 88) (as := [.inr (.inl a1.toInt64), .inr (.inl 1), .inr (.inl 6)]) (r := some (.inl r1)) (w2 := w) (w1 := w) (t := []) (i2 := 5) (ls2 := [some (.inr (.inr (19, 0))), some (.inl a1), some (.inl a2), none]) 1 (a_X8_in F w a1.toInt64 1 6 r1 d (by omega) hr2) (fun F h => h) ?_
  show pm_Gx (RT d) co_X8_judge 5 [some (.inr (.inr (19, 0))), some (.inl a1), some (.inl a2), none] [.inl r1] w Q
  refine pm_if (P := r1 = 0) (i2 := 17) (i3 := 6) (ls2 := [some (.inr (.inr (19, 0))), some (.inl a1), some (.inl a2), none]) (st2 := []) (w2 := w) 1 (fun F h => h) (fun hc3 => ?_) (fun hc3 => ?_)
  · rw [if_pos hc3] at hf
    refine pm_go (i2 := 18) (ls2 := [some (.inr (.inr (19, 0))), some (.inl a1), some (.inl a2), none]) (st2 := [.inl (-2)]) (w2 := w) 1 (fun F h => h) ?_
    obtain rfl := Option.some.inj hf
    exact pm_re (r := some (.inl (-2))) (w2 := w) 1 (fun F h => h) hq
  · rw [if_neg hc3] at hf
    refine pm_go (i2 := 11) (ls2 := [some (.inr (.inr (19, 0))), some (.inl a1), some (.inl a2), none]) (st2 := [.inl a1, .inl 10, .inr (.inl 0), .inr (.inl a2.toInt64)]) (w2 := w) 5 (fun F h => h) ?_
    obtain ⟨r4, hr5, hf⟩ := Option.bind_eq_some_iff.mp hf
    refine pm_ca (y := 117) (as := [.inl 10, .inl a1]) (r := some (.inl r4)) (w2 := w) (w1 := w) (t := [.inr (.inl 0), .inr (.inl a2.toInt64)]) (i2 := 12) (ls2 := [some (.inr (.inr (19, 0))), some (.inl a1), some (.inl a2), none]) 1 (a_X8_power F w 10 a1 r4 d (by omega) hr5) (fun F h => h) ?_
    show pm_Gx (RT d) co_X8_judge 12 [some (.inr (.inr (19, 0))), some (.inl a1), some (.inl a2), none] [.inl r4, .inr (.inl 0), .inr (.inl a2.toInt64)] w Q
    refine pm_go (i2 := 15) (ls2 := [some (.inr (.inr (19, 0))), some (.inl a1), some (.inl a2), none]) (st2 := [.inr (.inl ((r4 - 1).toInt64)), .inr (.inl 0), .inr (.inl a2.toInt64)]) (w2 := w) 3 (fun F h => h) ?_
    obtain ⟨r6, hr7, hf⟩ := Option.bind_eq_some_iff.mp hf
    refine pm_ca (y := 88) (as := [.inr (.inl a2.toInt64), .inr (.inl 0), .inr (.inl ((r4 - 1).toInt64))]) (r := some (.inl r6)) (w2 := w) (w1 := w) (t := []) (i2 := 16) (ls2 := [some (.inr (.inr (19, 0))), some (.inl a1), some (.inl a2), none]) 1 (a_X8_in F w a2.toInt64 0 ((r4 - 1).toInt64) r6 d (by omega) hr7) (fun F h => h) ?_
    show pm_Gx (RT d) co_X8_judge 16 [some (.inr (.inr (19, 0))), some (.inl a1), some (.inl a2), none] [.inl r6] w Q
    refine pm_if (P := r6 = 0) (i2 := 17) (i3 := 19) (ls2 := [some (.inr (.inr (19, 0))), some (.inl a1), some (.inl a2), none]) (st2 := []) (w2 := w) 1 (fun F h => h) (fun hc8 => ?_) (fun hc8 => ?_)
    · rw [if_pos hc8] at hf
      refine pm_go (i2 := 18) (ls2 := [some (.inr (.inr (19, 0))), some (.inl a1), some (.inl a2), none]) (st2 := [.inl (-2)]) (w2 := w) 1 (fun F h => h) ?_
      obtain rfl := Option.some.inj hf
      exact pm_re (r := some (.inl (-2))) (w2 := w) 1 (fun F h => h) hq
    · rw [if_neg hc8] at hf
      refine pm_go (i2 := 20) (ls2 := [some (.inr (.inr (19, 0))), some (.inl a1), some (.inl a2), none]) (st2 := [.inr (.inr (19, 0))]) (w2 := w) 1 (fun F h => h) ?_
      obtain ⟨r9, hr10, hf⟩ := Option.bind_eq_some_iff.mp hf
      refine pm_ca (y := 116) (as := [.inr (.inr (19, 0))]) (r := none) (w2 := w) (w1 := r9) (t := []) (i2 := 21) (ls2 := [some (.inr (.inr (19, 0))), some (.inl a1), some (.inl a2), none]) 1 (a_X8_layTrial F w r9 d (by omega) hr10) (fun F h => h) ?_
      show pm_Gx (RT d) co_X8_judge 21 [some (.inr (.inr (19, 0))), some (.inl a1), some (.inl a2), none] [] r9 Q
      refine pm_go (i2 := 23) (ls2 := [some (.inr (.inr (19, 0))), some (.inl a1), some (.inl a2), some (.inl 0)]) (st2 := []) (w2 := r9) 2 (fun F h => h) ?_
      obtain ⟨x19, hx20, hf⟩ := Option.bind_eq_some_iff.mp hf
      refine a_X8_judge_L23 F d hd Q F r9 a1 a2 0 x19 hx20 (fun ex19 hx19 => ?_) (fun rx19 hx19 => ?_)
      · subst hx19
        change _ = _ at hf
        refine pm_go (i2 := 50) (ls2 := [some (.inr (.inr (19, 0))), some (.inl a1), some (.inl a2), some (.inl ex19.1)]) (st2 := [.inl (-9)]) (w2 := ex19.2) 1 (fun F h => h) ?_
        obtain rfl := Option.some.inj hf
        exact pm_re (r := some (.inl (-9))) (w2 := ex19.2) 1 (fun F h => h) hq
      · subst hx19
        obtain rfl := Option.some.inj (show some rx19 = some x from hf)
        exact hq
set_option maxRecDepth 20000 in
set_option maxHeartbeats 4000000 in
theorem a_X8_judge (F : Nat) (w : pm_W) (a1 : Int32) (a2 : Int32) (x : (Int32 × pm_W)) (d : Nat) (hd : 4 ≤ d) (hf : f_X8_judge F w a1 a2 = some x) : RT d 128 [.inr (.inr (19, 0)), .inl a1, .inl a2] w (some (.inl x.1)) x.2 := by
  obtain ⟨d, rfl, hd2⟩ := pm_dep hd
  exact pm_start (co := co_X8_judge) (nL := 4) (by decide) rfl rfl (Nat.le_of_ble_eq_true rfl) (b_X8_judge F d hd2 _ w a1 a2 x hf ⟨rfl, rfl⟩)
def f_X8_factorial_L4 (F : Nat) (w : pm_W) : Nat → Int32 → Int32 → Int32 → Option (Int32 × Int32)
  | 0, _, _, _ => none
  | n + 1, v0, v1, v2 => (if v0 < v2 then some (v1, v2) else f_X8_factorial_L4 F w n v0 (v1 * v2) (v2 + 1))
def f_X8_factorial (F : Nat) (w : pm_W) (a0 : Int32) : Option (Int32) := ((f_X8_factorial_L4 F w F a0 1 2).bind fun x2 => some x2.1)
set_option maxRecDepth 20000 in
set_option maxHeartbeats 4000000 in
theorem a_X8_factorial_L4 (F : Nat) (d : Nat) (hd : 0 ≤ d) (Q : pm_Q) (w : pm_W) : ∀ (n : Nat) (v0 : Int32) (v1 : Int32) (v2 : Int32) (x : Int32 × Int32), f_X8_factorial_L4 F w n v0 v1 v2 = some x → pm_Gx (RT d) co_X8_factorial 13 [some (.inl v0), some (.inl x.1), some (.inl x.2)] [] w Q → pm_Gx (RT d) co_X8_factorial 4 [some (.inl v0), some (.inl v1), some (.inl v2)] [] w Q := by
  intro n
  induction n with
  | zero =>
    intro v0 v1 v2 x hf
    cases hf
  | succ n ih =>
    intro v0 v1 v2 x hf hk
    rw [f_X8_factorial_L4] at hf
    refine pm_go (i2 := 6) (ls2 := [some (.inl v0), some (.inl v1), some (.inl v2)]) (st2 := [.inl v0, .inl v2]) (w2 := w) 2 (fun F h => h) ?_
    refine pm_if (P := v0 < v2) (i2 := 13) (i3 := 7) (ls2 := [some (.inl v0), some (.inl v1), some (.inl v2)]) (st2 := []) (w2 := w) 1 (fun F h => h) (fun hc1 => ?_) (fun hc1 => ?_)
    · rw [if_pos hc1] at hf
      obtain rfl := Option.some.inj hf
      exact hk
    · rw [if_neg hc1] at hf
      refine pm_go (i2 := 4) (ls2 := [some (.inl v0), some (.inl (v1 * v2)), some (.inl (v2 + 1))]) (st2 := []) (w2 := w) 6 (fun F h => h) ?_
      exact ih v0 (v1 * v2) (v2 + 1) _ hf hk
set_option maxRecDepth 20000 in
set_option maxHeartbeats 4000000 in
theorem b_X8_factorial (F : Nat) (d : Nat) (hd : 0 ≤ d) (Q : pm_Q) (w : pm_W) (a0 : Int32) (x : Int32) (hf : f_X8_factorial F w a0 = some x) (hq : Q (some (.inl x)) w) : pm_Gx (RT d) co_X8_factorial 0 [some (.inl a0), none, none] [] w Q := by
  unfold f_X8_factorial at hf
  refine pm_go (i2 := 4) (ls2 := [some (.inl a0), some (.inl 1), some (.inl 2)]) (st2 := []) (w2 := w) 4 (fun F h => h) ?_
  obtain ⟨x2, hx3, hf⟩ := Option.bind_eq_some_iff.mp hf
  refine a_X8_factorial_L4 F d hd Q w F a0 1 2 x2 hx3 ?_
  refine pm_go (i2 := 14) (ls2 := [some (.inl a0), some (.inl x2.1), some (.inl x2.2)]) (st2 := [.inl x2.1]) (w2 := w) 1 (fun F h => h) ?_
  obtain rfl := Option.some.inj hf
  exact pm_re (r := some (.inl x2.1)) (w2 := w) 1 (fun F h => h) hq
set_option maxRecDepth 20000 in
set_option maxHeartbeats 4000000 in
theorem a_X8_factorial (F : Nat) (w : pm_W) (a0 : Int32) (x : Int32) (d : Nat) (hd : 1 ≤ d) (hf : f_X8_factorial F w a0 = some x) : RT d 129 [.inl a0] w (some (.inl x)) w := by
  obtain ⟨d, rfl, hd2⟩ := pm_dep hd
  exact pm_start (co := co_X8_factorial) (nL := 3) (by decide) rfl rfl (Nat.le_of_ble_eq_true rfl) (b_X8_factorial F d hd2 _ w a0 x hf ⟨rfl, rfl⟩)
def f_X8_common_L9 (F : Nat) (w : pm_W) : Nat → Int32 → Int32 → Int32 → Int32 → Option (Int32 × Int32)
  | 0, _, _, _, _ => none
  | n + 1, v0, v1, v2, v3 => (if v3 = 0 then some (v2, v3) else (if pm_nz v3 = true then f_X8_common_L9 F w n v0 v1 v3 (v2 - v2 / v3 * v3) else none))
def f_X8_common (F : Nat) (w : pm_W) (a0 : Int32) (a1 : Int32) : Option (Int32) := ((f_X8_common_L9 F w F a0 a1 (if 0 ≤ a0 then a0 else -a0 : Int32) a1).bind fun x3 => some x3.1)
set_option maxRecDepth 20000 in
set_option maxHeartbeats 4000000 in
theorem a_X8_common_L9 (F : Nat) (d : Nat) (hd : 0 ≤ d) (Q : pm_Q) (w : pm_W) : ∀ (n : Nat) (v0 : Int32) (v1 : Int32) (v2 : Int32) (v3 : Int32) (x : Int32 × Int32), f_X8_common_L9 F w n v0 v1 v2 v3 = some x → pm_Gx (RT d) co_X8_common 20 [some (.inl v0), some (.inl v1), some (.inl x.1), some (.inl x.2), none] [] w Q → pm_Gx (RT d) co_X8_common 9 [some (.inl v0), some (.inl v1), some (.inl v2), some (.inl v3), none] [] w Q := by
  intro n
  induction n with
  | zero =>
    intro v0 v1 v2 v3 x hf
    cases hf
  | succ n ih =>
    intro v0 v1 v2 v3 x hf hk
    rw [f_X8_common_L9] at hf
    refine pm_go (i2 := 10) (ls2 := [some (.inl v0), some (.inl v1), some (.inl v2), some (.inl v3), none]) (st2 := [.inl v3]) (w2 := w) 1 (fun F h => h) ?_
    refine pm_if (P := v3 = 0) (i2 := 20) (i3 := 11) (ls2 := [some (.inl v0), some (.inl v1), some (.inl v2), some (.inl v3), none]) (st2 := []) (w2 := w) 1 (fun F h => h) (fun hc1 => ?_) (fun hc1 => ?_)
    · rw [if_pos hc1] at hf
      obtain rfl := Option.some.inj hf
      exact hk
    · rw [if_neg hc1] at hf
      obtain ⟨hs2, hf⟩ := pm_itn hf
      refine pm_go (i2 := 9) (ls2 := [some (.inl v0), some (.inl v1), some (.inl v3), some (.inl (v2 - v2 / v3 * v3)), some (.inl (v2 - v2 / v3 * v3))]) (st2 := []) (w2 := w) 9 (fun F h => ⟨(pm_nz_ne hs2), h⟩) ?_
      refine pm_wk (ls := [some (.inl v0), some (.inl v1), some (.inl v3), some (.inl (v2 - v2 / v3 * v3)), none]) ⟨.inr rfl, .inr rfl, .inr rfl, .inr rfl, .inl rfl, trivial⟩ ?_
      exact ih v0 v1 v3 (v2 - v2 / v3 * v3) _ hf hk
set_option maxRecDepth 20000 in
set_option maxHeartbeats 4000000 in
theorem b_X8_common (F : Nat) (d : Nat) (hd : 0 ≤ d) (Q : pm_Q) (w : pm_W) (a0 : Int32) (a1 : Int32) (x : Int32) (hf : f_X8_common F w a0 a1 = some x) (hq : Q (some (.inl x)) w) : pm_Gx (RT d) co_X8_common 0 [some (.inl a0), some (.inl a1), none, none, none] [] w Q := by
  unfold f_X8_common at hf
  refine pm_go (i2 := 1) (ls2 := [some (.inl a0), some (.inl a1), none, none, none]) (st2 := [.inl a0]) (w2 := w) 1 (fun F h => h) ?_
  have key : pm_Gx (RT d) co_X8_common 6 [some (.inl a0), some (.inl a1), none, none, none] [.inl (if 0 ≤ a0 then a0 else -a0 : Int32)] w Q := by
    refine pm_go (i2 := 9) (ls2 := [some (.inl a0), some (.inl a1), some (.inl (if 0 ≤ a0 then a0 else -a0 : Int32)), some (.inl a1), none]) (st2 := []) (w2 := w) 3 (fun F h => h) ?_
    obtain ⟨x3, hx4, hf⟩ := Option.bind_eq_some_iff.mp hf
    refine a_X8_common_L9 F d hd Q w F a0 a1 (if 0 ≤ a0 then a0 else -a0 : Int32) a1 x3 hx4 ?_
    refine pm_go (i2 := 21) (ls2 := [some (.inl a0), some (.inl a1), some (.inl x3.1), some (.inl x3.2), none]) (st2 := [.inl x3.1]) (w2 := w) 1 (fun F h => h) ?_
    obtain rfl := Option.some.inj hf
    exact pm_re (r := some (.inl x3.1)) (w2 := w) 1 (fun F h => h) hq
  clear hf
  refine pm_if (P := 0 ≤ a0) (i2 := 5) (i3 := 2) (ls2 := [some (.inl a0), some (.inl a1), none, none, none]) (st2 := []) (w2 := w) 1 (fun F h => h) (fun hc5 => ?_) (fun hc5 => ?_)
  · try simp only [if_pos hc5] at key
    refine pm_go (i2 := 6) (ls2 := [some (.inl a0), some (.inl a1), none, none, none]) (st2 := [.inl a0]) (w2 := w) 1 (fun F h => h) ?_
    exact key
  · try simp only [if_neg hc5] at key
    refine pm_go (i2 := 6) (ls2 := [some (.inl a0), some (.inl a1), none, none, none]) (st2 := [.inl (-a0)]) (w2 := w) 3 (fun F h => h) ?_
    exact key
set_option maxRecDepth 20000 in
set_option maxHeartbeats 4000000 in
theorem a_X8_common (F : Nat) (w : pm_W) (a0 : Int32) (a1 : Int32) (x : Int32) (d : Nat) (hd : 1 ≤ d) (hf : f_X8_common F w a0 a1 = some x) : RT d 130 [.inl a0, .inl a1] w (some (.inl x)) w := by
  obtain ⟨d, rfl, hd2⟩ := pm_dep hd
  exact pm_start (co := co_X8_common) (nL := 5) (by decide) rfl rfl (Nat.le_of_ble_eq_true rfl) (b_X8_common F d hd2 _ w a0 a1 x hf ⟨rfl, rfl⟩)
def f_X8_share_L8 (F : Nat) : Nat → pm_W → Int32 → Int32 → Int32 → Option (Int32 × pm_W)
  | 0, _, _, _, _ => none
  | n + 1, w, v1, v2, v3 => (if (1 <<< ((w.1 19 0 0) &&& 31)) ≤ v3 then some (v3, w) else ((f_X8_mostBy F w v3 0).bind fun r5 => (if pm_inb v3 32 = true then (pm_wlet (pm_setI r5.2 30 0 v3.toNatClampNeg r5.1) fun w8 => f_X8_share_L8 F n w8 v1 v2 (v3 + 1)) else none)))
def f_X8_share_L28 (F : Nat) (w : pm_W) : Nat → Int32 → Int32 → Int32 → Int32 → Option (Int32 × Int32)
  | 0, _, _, _, _ => none
  | n + 1, v1, v2, v3, v4 => (if (1 <<< ((w.1 19 0 0) &&& 31)) ≤ v4 then some (v3, v4) else ((f_X8_has F w v4 v1).bind fun r12 => (if r12 = 0 then ((f_X8_ones F w v4).bind fun r15 => ((f_X8_factorial F w r15).bind fun r17 => ((f_X8_ones F w v4).bind fun r19 => ((f_X8_factorial F w (((w.1 19 0 0) - 1) - r19)).bind fun r21 => (if pm_inb (v4 ||| (1 <<< (v1 &&& 31))) 32 = true then (if pm_inb v4 32 = true then f_X8_share_L28 F w n v1 v2 (v3 + ((r17 * r21) * ((w.1 30 0 ((v4 ||| (1 <<< (v1 &&& 31))).toNatClampNeg)) - (w.1 30 0 v4.toNatClampNeg)))) (v4 + 1) else none) else none))))) else f_X8_share_L28 F w n v1 v2 v3 (v4 + 1))))
def f_X8_share (F : Nat) (w : pm_W) (a1 : Int32) (a2 : Int32) : Option ((Int32 × pm_W)) := ((f_X8_isGuest F w a1).bind fun r1 => (if r1 = 0 then some ((-1), w) else ((f_X8_share_L8 F F w a1 a2 0).bind fun x9 => ((f_X8_share_L28 F x9.2 F a1 a2 0 0).bind fun x25 => ((f_X8_factorial F x9.2 (x9.2.1 19 0 0)).bind fun r27 => ((f_X8_common F x9.2 x25.1 r27).bind fun r29 => (if a2 = 0 then ((f_X8_factorial F x9.2 (x9.2.1 19 0 0)).bind fun r32 => (if pm_nz r29 = true then some (r32 / r29, x9.2) else none)) else (if pm_nz r29 = true then some (x25.1 / r29, x9.2) else none))))))))
set_option maxRecDepth 20000 in
set_option maxHeartbeats 4000000 in
theorem a_X8_share_L8 (F : Nat) (d : Nat) (hd : 4 ≤ d) (Q : pm_Q) : ∀ (n : Nat) (w : pm_W) (v1 : Int32) (v2 : Int32) (v3 : Int32) (x : Int32 × pm_W), f_X8_share_L8 F n w v1 v2 v3 = some x → pm_Gx (RT d) co_X8_share 24 [some (.inr (.inr (19, 0))), some (.inl v1), some (.inl v2), some (.inl x.1), none, none] [] x.2 Q → pm_Gx (RT d) co_X8_share 8 [some (.inr (.inr (19, 0))), some (.inl v1), some (.inl v2), some (.inl v3), none, none] [] w Q := by
  intro n
  induction n with
  | zero =>
    intro w v1 v2 v3 x hf
    cases hf
  | succ n ih =>
    intro w v1 v2 v3 x hf hk
    rw [f_X8_share_L8] at hf
    refine pm_go (i2 := 13) (ls2 := [some (.inr (.inr (19, 0))), some (.inl v1), some (.inl v2), some (.inl v3), none, none]) (st2 := [.inl (1 <<< ((w.1 19 0 0) &&& 31)), .inl v3]) (w2 := w) 5 (fun F h => h) ?_
    refine pm_if (P := (1 <<< ((w.1 19 0 0) &&& 31)) ≤ v3) (i2 := 24) (i3 := 14) (ls2 := [some (.inr (.inr (19, 0))), some (.inl v1), some (.inl v2), some (.inl v3), none, none]) (st2 := []) (w2 := w) 1 (fun F h => h) (fun hc4 => ?_) (fun hc4 => ?_)
    · rw [if_pos hc4] at hf
      obtain rfl := Option.some.inj hf
      exact hk
    · rw [if_neg hc4] at hf
      refine pm_go (i2 := 20) (ls2 := [some (.inr (.inr (19, 0))), some (.inl v1), some (.inl v2), some (.inl v3), none, none]) (st2 := [.inl 0, .inl v3, .inr (.inr (19, 0)), .inl v3, .inr (.inr (30, 0))]) (w2 := w) 6 (fun F h => h) ?_
      obtain ⟨r5, hr6, hf⟩ := Option.bind_eq_some_iff.mp hf
      refine pm_ca (y := 120) (as := [.inr (.inr (19, 0)), .inl v3, .inl 0]) (r := some (.inl r5.1)) (w2 := w) (w1 := r5.2) (t := [.inl v3, .inr (.inr (30, 0))]) (i2 := 21) (ls2 := [some (.inr (.inr (19, 0))), some (.inl v1), some (.inl v2), some (.inl v3), none, none]) 1 (a_X8_mostBy F w v3 0 r5 d (by omega) hr6) (fun F h => h) ?_
      show pm_Gx (RT d) co_X8_share 21 [some (.inr (.inr (19, 0))), some (.inl v1), some (.inl v2), some (.inl v3), none, none] [.inl r5.1, .inl v3, .inr (.inr (30, 0))] r5.2 Q
      obtain ⟨hs7, hf⟩ := pm_itn hf
      refine pm_go (i2 := 22) (ls2 := [some (.inr (.inr (19, 0))), some (.inl v1), some (.inl v2), some (.inl v3), none, none]) (st2 := []) (w2 := (pm_setI r5.2 30 0 v3.toNatClampNeg r5.1)) 1 (fun F h => ⟨(pm_inb_in hs7), h⟩) ?_
      generalize (pm_setI r5.2 30 0 v3.toNatClampNeg r5.1) = w8 at hf ⊢
      replace hf := pm_wlet_un hf
      refine pm_go (i2 := 8) (ls2 := [some (.inr (.inr (19, 0))), some (.inl v1), some (.inl v2), some (.inl (v3 + 1)), none, none]) (st2 := []) (w2 := w8) 2 (fun F h => h) ?_
      exact ih w8 v1 v2 (v3 + 1) _ hf hk
set_option maxRecDepth 20000 in
set_option maxHeartbeats 4000000 in
theorem a_X8_share_L28 (F : Nat) (d : Nat) (hd : 4 ≤ d) (Q : pm_Q) (w : pm_W) : ∀ (n : Nat) (v1 : Int32) (v2 : Int32) (v3 : Int32) (v4 : Int32) (x : Int32 × Int32), f_X8_share_L28 F w n v1 v2 v3 v4 = some x → pm_Gx (RT d) co_X8_share 71 [some (.inr (.inr (19, 0))), some (.inl v1), some (.inl v2), some (.inl x.1), some (.inl x.2), none] [] w Q → pm_Gx (RT d) co_X8_share 28 [some (.inr (.inr (19, 0))), some (.inl v1), some (.inl v2), some (.inl v3), some (.inl v4), none] [] w Q := by
  intro n
  induction n with
  | zero =>
    intro v1 v2 v3 v4 x hf
    cases hf
  | succ n ih =>
    intro v1 v2 v3 v4 x hf hk
    rw [f_X8_share_L28] at hf
    refine pm_go (i2 := 33) (ls2 := [some (.inr (.inr (19, 0))), some (.inl v1), some (.inl v2), some (.inl v3), some (.inl v4), none]) (st2 := [.inl (1 <<< ((w.1 19 0 0) &&& 31)), .inl v4]) (w2 := w) 5 (fun F h => h) ?_
    refine pm_if (P := (1 <<< ((w.1 19 0 0) &&& 31)) ≤ v4) (i2 := 71) (i3 := 34) (ls2 := [some (.inr (.inr (19, 0))), some (.inl v1), some (.inl v2), some (.inl v3), some (.inl v4), none]) (st2 := []) (w2 := w) 1 (fun F h => h) (fun hc11 => ?_) (fun hc11 => ?_)
    · rw [if_pos hc11] at hf
      obtain rfl := Option.some.inj hf
      exact hk
    · rw [if_neg hc11] at hf
      refine pm_go (i2 := 36) (ls2 := [some (.inr (.inr (19, 0))), some (.inl v1), some (.inl v2), some (.inl v3), some (.inl v4), none]) (st2 := [.inl v1, .inl v4]) (w2 := w) 2 (fun F h => h) ?_
      obtain ⟨r12, hr13, hf⟩ := Option.bind_eq_some_iff.mp hf
      refine pm_ca (y := 89) (as := [.inl v4, .inl v1]) (r := some (.inl r12)) (w2 := w) (w1 := w) (t := []) (i2 := 37) (ls2 := [some (.inr (.inr (19, 0))), some (.inl v1), some (.inl v2), some (.inl v3), some (.inl v4), none]) 1 (a_X8_has F w v4 v1 r12 d (by omega) hr13) (fun F h => h) ?_
      show pm_Gx (RT d) co_X8_share 37 [some (.inr (.inr (19, 0))), some (.inl v1), some (.inl v2), some (.inl v3), some (.inl v4), none] [.inl r12] w Q
      refine pm_if (P := r12 = 0) (i2 := 38) (i3 := 69) (ls2 := [some (.inr (.inr (19, 0))), some (.inl v1), some (.inl v2), some (.inl v3), some (.inl v4), none]) (st2 := []) (w2 := w) 1 (fun F h => h) (fun hc14 => ?_) (fun hc14 => ?_)
      · rw [if_pos hc14] at hf
        refine pm_go (i2 := 39) (ls2 := [some (.inr (.inr (19, 0))), some (.inl v1), some (.inl v2), some (.inl v3), some (.inl v4), none]) (st2 := [.inl v4]) (w2 := w) 1 (fun F h => h) ?_
        obtain ⟨r15, hr16, hf⟩ := Option.bind_eq_some_iff.mp hf
        refine pm_ca (y := 90) (as := [.inl v4]) (r := some (.inl r15)) (w2 := w) (w1 := w) (t := []) (i2 := 40) (ls2 := [some (.inr (.inr (19, 0))), some (.inl v1), some (.inl v2), some (.inl v3), some (.inl v4), none]) 1 (a_X8_ones F w v4 r15 d (by omega) hr16) (fun F h => h) ?_
        show pm_Gx (RT d) co_X8_share 40 [some (.inr (.inr (19, 0))), some (.inl v1), some (.inl v2), some (.inl v3), some (.inl v4), none] [.inl r15] w Q
        obtain ⟨r17, hr18, hf⟩ := Option.bind_eq_some_iff.mp hf
        refine pm_ca (y := 129) (as := [.inl r15]) (r := some (.inl r17)) (w2 := w) (w1 := w) (t := []) (i2 := 41) (ls2 := [some (.inr (.inr (19, 0))), some (.inl v1), some (.inl v2), some (.inl v3), some (.inl v4), none]) 1 (a_X8_factorial F w r15 r17 d (by omega) hr18) (fun F h => h) ?_
        show pm_Gx (RT d) co_X8_share 41 [some (.inr (.inr (19, 0))), some (.inl v1), some (.inl v2), some (.inl v3), some (.inl v4), none] [.inl r17] w Q
        refine pm_go (i2 := 46) (ls2 := [some (.inr (.inr (19, 0))), some (.inl v1), some (.inl v2), some (.inl v3), some (.inl v4), none]) (st2 := [.inl v4, .inl ((w.1 19 0 0) - 1), .inl r17]) (w2 := w) 5 (fun F h => h) ?_
        obtain ⟨r19, hr20, hf⟩ := Option.bind_eq_some_iff.mp hf
        refine pm_ca (y := 90) (as := [.inl v4]) (r := some (.inl r19)) (w2 := w) (w1 := w) (t := [.inl ((w.1 19 0 0) - 1), .inl r17]) (i2 := 47) (ls2 := [some (.inr (.inr (19, 0))), some (.inl v1), some (.inl v2), some (.inl v3), some (.inl v4), none]) 1 (a_X8_ones F w v4 r19 d (by omega) hr20) (fun F h => h) ?_
        show pm_Gx (RT d) co_X8_share 47 [some (.inr (.inr (19, 0))), some (.inl v1), some (.inl v2), some (.inl v3), some (.inl v4), none] [.inl r19, .inl ((w.1 19 0 0) - 1), .inl r17] w Q
        refine pm_go (i2 := 48) (ls2 := [some (.inr (.inr (19, 0))), some (.inl v1), some (.inl v2), some (.inl v3), some (.inl v4), none]) (st2 := [.inl (((w.1 19 0 0) - 1) - r19), .inl r17]) (w2 := w) 1 (fun F h => h) ?_
        obtain ⟨r21, hr22, hf⟩ := Option.bind_eq_some_iff.mp hf
        refine pm_ca (y := 129) (as := [.inl (((w.1 19 0 0) - 1) - r19)]) (r := some (.inl r21)) (w2 := w) (w1 := w) (t := [.inl r17]) (i2 := 49) (ls2 := [some (.inr (.inr (19, 0))), some (.inl v1), some (.inl v2), some (.inl v3), some (.inl v4), none]) 1 (a_X8_factorial F w (((w.1 19 0 0) - 1) - r19) r21 d (by omega) hr22) (fun F h => h) ?_
        show pm_Gx (RT d) co_X8_share 49 [some (.inr (.inr (19, 0))), some (.inl v1), some (.inl v2), some (.inl v3), some (.inl v4), none] [.inl r21, .inl r17] w Q
        obtain ⟨hs23, hf⟩ := pm_itn hf
        obtain ⟨hs24, hf⟩ := pm_itn hf
        refine pm_go (i2 := 28) (ls2 := [some (.inr (.inr (19, 0))), some (.inl v1), some (.inl v2), some (.inl (v3 + ((r17 * r21) * ((w.1 30 0 ((v4 ||| (1 <<< (v1 &&& 31))).toNatClampNeg)) - (w.1 30 0 v4.toNatClampNeg))))), some (.inl (v4 + 1)), some (.inl (r17 * r21))]) (st2 := []) (w2 := w) 22 (fun F h => ⟨(pm_inb_in hs23), (pm_inb_in hs24), h⟩) ?_
        refine pm_wk (ls := [some (.inr (.inr (19, 0))), some (.inl v1), some (.inl v2), some (.inl (v3 + ((r17 * r21) * ((w.1 30 0 ((v4 ||| (1 <<< (v1 &&& 31))).toNatClampNeg)) - (w.1 30 0 v4.toNatClampNeg))))), some (.inl (v4 + 1)), none]) ⟨.inr rfl, .inr rfl, .inr rfl, .inr rfl, .inr rfl, .inl rfl, trivial⟩ ?_
        exact ih v1 v2 (v3 + ((r17 * r21) * ((w.1 30 0 ((v4 ||| (1 <<< (v1 &&& 31))).toNatClampNeg)) - (w.1 30 0 v4.toNatClampNeg)))) (v4 + 1) _ hf hk
      · rw [if_neg hc14] at hf
        refine pm_go (i2 := 28) (ls2 := [some (.inr (.inr (19, 0))), some (.inl v1), some (.inl v2), some (.inl v3), some (.inl (v4 + 1)), none]) (st2 := []) (w2 := w) 2 (fun F h => h) ?_
        exact ih v1 v2 v3 (v4 + 1) _ hf hk
set_option maxRecDepth 20000 in
set_option maxHeartbeats 4000000 in
theorem b_X8_share (F : Nat) (d : Nat) (hd : 4 ≤ d) (Q : pm_Q) (w : pm_W) (a1 : Int32) (a2 : Int32) (x : (Int32 × pm_W)) (hf : f_X8_share F w a1 a2 = some x) (hq : Q (some (.inl x.1)) x.2) : pm_Gx (RT d) co_X8_share 0 [some (.inr (.inr (19, 0))), some (.inl a1), some (.inl a2), none, none, none] [] w Q := by
  unfold f_X8_share at hf
  refine pm_go (i2 := 2) (ls2 := [some (.inr (.inr (19, 0))), some (.inl a1), some (.inl a2), none, none, none]) (st2 := [.inl a1, .inr (.inr (19, 0))]) (w2 := w) 2 (fun F h => h) ?_
  obtain ⟨r1, hr2, hf⟩ := Option.bind_eq_some_iff.mp hf
  refine pm_ca (y := 101) (as := [.inr (.inr (19, 0)), .inl a1]) (r := some (.inl r1)) (w2 := w) (w1 := w) (t := []) (i2 := 3) (ls2 := [some (.inr (.inr (19, 0))), some (.inl a1), some (.inl a2), none, none, none]) 1 (a_X8_isGuest F w a1 r1 d (by omega) hr2) (fun F h => h) ?_
  show pm_Gx (RT d) co_X8_share 3 [some (.inr (.inr (19, 0))), some (.inl a1), some (.inl a2), none, none, none] [.inl r1] w Q
  refine pm_if (P := r1 = 0) (i2 := 4) (i3 := 6) (ls2 := [some (.inr (.inr (19, 0))), some (.inl a1), some (.inl a2), none, none, none]) (st2 := []) (w2 := w) 1 (fun F h => h) (fun hc3 => ?_) (fun hc3 => ?_)
  · rw [if_pos hc3] at hf
    refine pm_go (i2 := 5) (ls2 := [some (.inr (.inr (19, 0))), some (.inl a1), some (.inl a2), none, none, none]) (st2 := [.inl (-1)]) (w2 := w) 1 (fun F h => h) ?_
    obtain rfl := Option.some.inj hf
    exact pm_re (r := some (.inl (-1))) (w2 := w) 1 (fun F h => h) hq
  · rw [if_neg hc3] at hf
    refine pm_go (i2 := 8) (ls2 := [some (.inr (.inr (19, 0))), some (.inl a1), some (.inl a2), some (.inl 0), none, none]) (st2 := []) (w2 := w) 2 (fun F h => h) ?_
    obtain ⟨x9, hx10, hf⟩ := Option.bind_eq_some_iff.mp hf
    refine a_X8_share_L8 F d hd Q F w a1 a2 0 x9 hx10 ?_
    refine pm_go (i2 := 28) (ls2 := [some (.inr (.inr (19, 0))), some (.inl a1), some (.inl a2), some (.inl 0), some (.inl 0), none]) (st2 := []) (w2 := x9.2) 4 (fun F h => h) ?_
    obtain ⟨x25, hx26, hf⟩ := Option.bind_eq_some_iff.mp hf
    refine a_X8_share_L28 F d hd Q x9.2 F a1 a2 0 0 x25 hx26 ?_
    refine pm_go (i2 := 74) (ls2 := [some (.inr (.inr (19, 0))), some (.inl a1), some (.inl a2), some (.inl x25.1), some (.inl x25.2), none]) (st2 := [.inl (x9.2.1 19 0 0), .inl x25.1]) (w2 := x9.2) 3 (fun F h => h) ?_
    obtain ⟨r27, hr28, hf⟩ := Option.bind_eq_some_iff.mp hf
    refine pm_ca (y := 129) (as := [.inl (x9.2.1 19 0 0)]) (r := some (.inl r27)) (w2 := x9.2) (w1 := x9.2) (t := [.inl x25.1]) (i2 := 75) (ls2 := [some (.inr (.inr (19, 0))), some (.inl a1), some (.inl a2), some (.inl x25.1), some (.inl x25.2), none]) 1 (a_X8_factorial F x9.2 (x9.2.1 19 0 0) r27 d (by omega) hr28) (fun F h => h) ?_
    show pm_Gx (RT d) co_X8_share 75 [some (.inr (.inr (19, 0))), some (.inl a1), some (.inl a2), some (.inl x25.1), some (.inl x25.2), none] [.inl r27, .inl x25.1] x9.2 Q
    obtain ⟨r29, hr30, hf⟩ := Option.bind_eq_some_iff.mp hf
    refine pm_ca (y := 130) (as := [.inl x25.1, .inl r27]) (r := some (.inl r29)) (w2 := x9.2) (w1 := x9.2) (t := []) (i2 := 76) (ls2 := [some (.inr (.inr (19, 0))), some (.inl a1), some (.inl a2), some (.inl x25.1), some (.inl x25.2), none]) 1 (a_X8_common F x9.2 x25.1 r27 r29 d (by omega) hr30) (fun F h => h) ?_
    show pm_Gx (RT d) co_X8_share 76 [some (.inr (.inr (19, 0))), some (.inl a1), some (.inl a2), some (.inl x25.1), some (.inl x25.2), none] [.inl r29] x9.2 Q
    refine pm_go (i2 := 78) (ls2 := [some (.inr (.inr (19, 0))), some (.inl a1), some (.inl a2), some (.inl x25.1), some (.inl r29), none]) (st2 := [.inl a2]) (w2 := x9.2) 2 (fun F h => h) ?_
    refine pm_if (P := a2 = 0) (i2 := 83) (i3 := 79) (ls2 := [some (.inr (.inr (19, 0))), some (.inl a1), some (.inl a2), some (.inl x25.1), some (.inl r29), none]) (st2 := []) (w2 := x9.2) 1 (fun F h => h) (fun hc31 => ?_) (fun hc31 => ?_)
    · rw [if_pos hc31] at hf
      refine pm_go (i2 := 85) (ls2 := [some (.inr (.inr (19, 0))), some (.inl a1), some (.inl a2), some (.inl x25.1), some (.inl r29), none]) (st2 := [.inl (x9.2.1 19 0 0)]) (w2 := x9.2) 2 (fun F h => h) ?_
      obtain ⟨r32, hr33, hf⟩ := Option.bind_eq_some_iff.mp hf
      refine pm_ca (y := 129) (as := [.inl (x9.2.1 19 0 0)]) (r := some (.inl r32)) (w2 := x9.2) (w1 := x9.2) (t := []) (i2 := 86) (ls2 := [some (.inr (.inr (19, 0))), some (.inl a1), some (.inl a2), some (.inl x25.1), some (.inl r29), none]) 1 (a_X8_factorial F x9.2 (x9.2.1 19 0 0) r32 d (by omega) hr33) (fun F h => h) ?_
      show pm_Gx (RT d) co_X8_share 86 [some (.inr (.inr (19, 0))), some (.inl a1), some (.inl a2), some (.inl x25.1), some (.inl r29), none] [.inl r32] x9.2 Q
      obtain ⟨hs34, hf⟩ := pm_itn hf
      refine pm_go (i2 := 88) (ls2 := [some (.inr (.inr (19, 0))), some (.inl a1), some (.inl a2), some (.inl x25.1), some (.inl r29), none]) (st2 := [.inl (r32 / r29)]) (w2 := x9.2) 2 (fun F h => ⟨(pm_nz_ne hs34), h⟩) ?_
      obtain rfl := Option.some.inj hf
      exact pm_re (r := some (.inl (r32 / r29))) (w2 := x9.2) 1 (fun F h => h) hq
    · rw [if_neg hc31] at hf
      obtain ⟨hs35, hf⟩ := pm_itn hf
      refine pm_go (i2 := 88) (ls2 := [some (.inr (.inr (19, 0))), some (.inl a1), some (.inl a2), some (.inl x25.1), some (.inl r29), none]) (st2 := [.inl (x25.1 / r29)]) (w2 := x9.2) 4 (fun F h => ⟨(pm_nz_ne hs35), h⟩) ?_
      obtain rfl := Option.some.inj hf
      exact pm_re (r := some (.inl (x25.1 / r29))) (w2 := x9.2) 1 (fun F h => h) hq
set_option maxRecDepth 20000 in
set_option maxHeartbeats 4000000 in
theorem a_X8_share (F : Nat) (w : pm_W) (a1 : Int32) (a2 : Int32) (x : (Int32 × pm_W)) (d : Nat) (hd : 5 ≤ d) (hf : f_X8_share F w a1 a2 = some x) : RT d 131 [.inr (.inr (19, 0)), .inl a1, .inl a2] w (some (.inl x.1)) x.2 := by
  obtain ⟨d, rfl, hd2⟩ := pm_dep hd
  exact pm_start (co := co_X8_share) (nL := 6) (by decide) rfl rfl (Nat.le_of_ble_eq_true rfl) (b_X8_share F d hd2 _ w a1 a2 x hf ⟨rfl, rfl⟩)
def f_X8_isWord_L23 (F : Nat) (w : pm_W) : Nat → Int32 → Int32 → Int32 → Int32 → Option (Int32 × Int32)
  | 0, _, _, _, _ => none
  | n + 1, v0, v1, v2, v3 => (if v0 ≤ v3 then some (v2, v3) else (if v2 = 0 then some (v2, v3) else ((f_X8_power F w 10 v3).bind fun r6 => (if pm_nz r6 = true then f_X8_isWord_L23 F w n v0 v1 (if 4 ≤ ((v1 / r6) - (v1 / r6) / 10 * 10) then 0 else 1 : Int32) (v3 + 1) else none))))
def f_X8_isWord (F : Nat) (w : pm_W) (a0 : Int32) (a1 : Int32) : Option (Int32) := ((f_X8_in F w a0.toInt64 1 6).bind fun r1 => (if r1 = 0 then ((f_X8_isWord_L23 F w F a0 a1 0 0).bind fun x10 => (if pm_isb x10.1 = true then some x10.1 else none)) else ((f_X8_power F w 10 a0).bind fun r13 => ((f_X8_in F w a1.toInt64 0 ((r13 - 1).toInt64)).bind fun r15 => ((f_X8_isWord_L23 F w F a0 a1 (if r15 = 0 then 0 else 1 : Int32) 0).bind fun x17 => (if pm_isb x17.1 = true then some x17.1 else none))))))
set_option maxRecDepth 20000 in
set_option maxHeartbeats 4000000 in
theorem a_X8_isWord_L23 (F : Nat) (d : Nat) (hd : 1 ≤ d) (Q : pm_Q) (w : pm_W) : ∀ (n : Nat) (v0 : Int32) (v1 : Int32) (v2 : Int32) (v3 : Int32) (x : Int32 × Int32), f_X8_isWord_L23 F w n v0 v1 v2 v3 = some x → pm_Gx (RT d) co_X8_isWord 43 [some (.inl v0), some (.inl v1), some (.inl x.1), some (.inl x.2)] [] w Q → pm_Gx (RT d) co_X8_isWord 23 [some (.inl v0), some (.inl v1), some (.inl v2), some (.inl v3)] [] w Q := by
  intro n
  induction n with
  | zero =>
    intro v0 v1 v2 v3 x hf
    cases hf
  | succ n ih =>
    intro v0 v1 v2 v3 x hf hk
    rw [f_X8_isWord_L23] at hf
    refine pm_go (i2 := 25) (ls2 := [some (.inl v0), some (.inl v1), some (.inl v2), some (.inl v3)]) (st2 := [.inl v0, .inl v3]) (w2 := w) 2 (fun F h => h) ?_
    refine pm_if (P := v0 ≤ v3) (i2 := 43) (i3 := 26) (ls2 := [some (.inl v0), some (.inl v1), some (.inl v2), some (.inl v3)]) (st2 := []) (w2 := w) 1 (fun F h => h) (fun hc4 => ?_) (fun hc4 => ?_)
    · rw [if_pos hc4] at hf
      obtain rfl := Option.some.inj hf
      exact hk
    · rw [if_neg hc4] at hf
      refine pm_go (i2 := 27) (ls2 := [some (.inl v0), some (.inl v1), some (.inl v2), some (.inl v3)]) (st2 := [.inl v2]) (w2 := w) 1 (fun F h => h) ?_
      refine pm_if (P := v2 = 0) (i2 := 43) (i3 := 28) (ls2 := [some (.inl v0), some (.inl v1), some (.inl v2), some (.inl v3)]) (st2 := []) (w2 := w) 1 (fun F h => h) (fun hc5 => ?_) (fun hc5 => ?_)
      · rw [if_pos hc5] at hf
        obtain rfl := Option.some.inj hf
        exact hk
      · rw [if_neg hc5] at hf
        refine pm_go (i2 := 31) (ls2 := [some (.inl v0), some (.inl v1), some (.inl v2), some (.inl v3)]) (st2 := [.inl v3, .inl 10, .inl v1]) (w2 := w) 3 (fun F h => h) ?_
        obtain ⟨r6, hr7, hf⟩ := Option.bind_eq_some_iff.mp hf
        refine pm_ca (y := 117) (as := [.inl 10, .inl v3]) (r := some (.inl r6)) (w2 := w) (w1 := w) (t := [.inl v1]) (i2 := 32) (ls2 := [some (.inl v0), some (.inl v1), some (.inl v2), some (.inl v3)]) 1 (a_X8_power F w 10 v3 r6 d (by omega) hr7) (fun F h => h) ?_
        show pm_Gx (RT d) co_X8_isWord 32 [some (.inl v0), some (.inl v1), some (.inl v2), some (.inl v3)] [.inl r6, .inl v1] w Q
        obtain ⟨hs8, hf⟩ := pm_itn hf
        refine pm_go (i2 := 36) (ls2 := [some (.inl v0), some (.inl v1), some (.inl v2), some (.inl v3)]) (st2 := [.inl 4, .inl ((v1 / r6) - (v1 / r6) / 10 * 10)]) (w2 := w) 4 (fun F h => ⟨(pm_nz_ne hs8), (by decide), h⟩) ?_
        have key : pm_Gx (RT d) co_X8_isWord 40 [some (.inl v0), some (.inl v1), some (.inl v2), some (.inl v3)] [.inl (if 4 ≤ ((v1 / r6) - (v1 / r6) / 10 * 10) then 0 else 1 : Int32)] w Q := by
          refine pm_go (i2 := 23) (ls2 := [some (.inl v0), some (.inl v1), some (.inl (if 4 ≤ ((v1 / r6) - (v1 / r6) / 10 * 10) then 0 else 1 : Int32)), some (.inl (v3 + 1))]) (st2 := []) (w2 := w) 3 (fun F h => h) ?_
          exact ih v0 v1 (if 4 ≤ ((v1 / r6) - (v1 / r6) / 10 * 10) then 0 else 1 : Int32) (v3 + 1) _ hf hk
        clear hf
        refine pm_if (P := 4 ≤ ((v1 / r6) - (v1 / r6) / 10 * 10)) (i2 := 39) (i3 := 37) (ls2 := [some (.inl v0), some (.inl v1), some (.inl v2), some (.inl v3)]) (st2 := []) (w2 := w) 1 (fun F h => h) (fun hc9 => ?_) (fun hc9 => ?_)
        · try simp only [if_pos hc9] at key
          refine pm_go (i2 := 40) (ls2 := [some (.inl v0), some (.inl v1), some (.inl v2), some (.inl v3)]) (st2 := [.inl 0]) (w2 := w) 1 (fun F h => h) ?_
          exact key
        · try simp only [if_neg hc9] at key
          refine pm_go (i2 := 40) (ls2 := [some (.inl v0), some (.inl v1), some (.inl v2), some (.inl v3)]) (st2 := [.inl 1]) (w2 := w) 2 (fun F h => h) ?_
          exact key
set_option maxRecDepth 20000 in
set_option maxHeartbeats 4000000 in
theorem b_X8_isWord (F : Nat) (d : Nat) (hd : 1 ≤ d) (Q : pm_Q) (w : pm_W) (a0 : Int32) (a1 : Int32) (x : Int32) (hf : f_X8_isWord F w a0 a1 = some x) (hq : Q (some (.inl x)) w) : pm_Gx (RT d) co_X8_isWord 0 [some (.inl a0), some (.inl a1), none, none] [] w Q := by
  unfold f_X8_isWord at hf
  refine pm_go (i2 := 4) (ls2 := [some (.inl a0), some (.inl a1), none, none]) (st2 := [.inr (.inl 6), .inr (.inl 1), .inr (.inl a0.toInt64)]) (w2 := w) 4 (fun F h => h) ?_
  obtain ⟨r1, hr2, hf⟩ := Option.bind_eq_some_iff.mp hf
  refine pm_ca (y := 88) (as := [.inr (.inl a0.toInt64), .inr (.inl 1), .inr (.inl 6)]) (r := some (.inl r1)) (w2 := w) (w1 := w) (t := []) (i2 := 5) (ls2 := [some (.inl a0), some (.inl a1), none, none]) 1 (a_X8_in F w a0.toInt64 1 6 r1 d (by omega) hr2) (fun F h => h) ?_
  show pm_Gx (RT d) co_X8_isWord 5 [some (.inl a0), some (.inl a1), none, none] [.inl r1] w Q
  refine pm_if (P := r1 = 0) (i2 := 19) (i3 := 6) (ls2 := [some (.inl a0), some (.inl a1), none, none]) (st2 := []) (w2 := w) 1 (fun F h => h) (fun hc3 => ?_) (fun hc3 => ?_)
  · rw [if_pos hc3] at hf
    refine pm_go (i2 := 23) (ls2 := [some (.inl a0), some (.inl a1), some (.inl 0), some (.inl 0)]) (st2 := []) (w2 := w) 4 (fun F h => h) ?_
    obtain ⟨x10, hx11, hf⟩ := Option.bind_eq_some_iff.mp hf
    refine a_X8_isWord_L23 F d hd Q w F a0 a1 0 0 x10 hx11 ?_
    refine pm_go (i2 := 44) (ls2 := [some (.inl a0), some (.inl a1), some (.inl x10.1), some (.inl x10.2)]) (st2 := [.inl x10.1]) (w2 := w) 1 (fun F h => h) ?_
    obtain ⟨hz12, hf⟩ := pm_itn hf
    obtain rfl := Option.some.inj hf
    exact pm_re (r := some (.inl x10.1)) (w2 := w) 1 (fun F h => ⟨pm_isb_nar hz12, h⟩) hq
  · rw [if_neg hc3] at hf
    refine pm_go (i2 := 11) (ls2 := [some (.inl a0), some (.inl a1), none, none]) (st2 := [.inl a0, .inl 10, .inr (.inl 0), .inr (.inl a1.toInt64)]) (w2 := w) 5 (fun F h => h) ?_
    obtain ⟨r13, hr14, hf⟩ := Option.bind_eq_some_iff.mp hf
    refine pm_ca (y := 117) (as := [.inl 10, .inl a0]) (r := some (.inl r13)) (w2 := w) (w1 := w) (t := [.inr (.inl 0), .inr (.inl a1.toInt64)]) (i2 := 12) (ls2 := [some (.inl a0), some (.inl a1), none, none]) 1 (a_X8_power F w 10 a0 r13 d (by omega) hr14) (fun F h => h) ?_
    show pm_Gx (RT d) co_X8_isWord 12 [some (.inl a0), some (.inl a1), none, none] [.inl r13, .inr (.inl 0), .inr (.inl a1.toInt64)] w Q
    refine pm_go (i2 := 15) (ls2 := [some (.inl a0), some (.inl a1), none, none]) (st2 := [.inr (.inl ((r13 - 1).toInt64)), .inr (.inl 0), .inr (.inl a1.toInt64)]) (w2 := w) 3 (fun F h => h) ?_
    obtain ⟨r15, hr16, hf⟩ := Option.bind_eq_some_iff.mp hf
    refine pm_ca (y := 88) (as := [.inr (.inl a1.toInt64), .inr (.inl 0), .inr (.inl ((r13 - 1).toInt64))]) (r := some (.inl r15)) (w2 := w) (w1 := w) (t := []) (i2 := 16) (ls2 := [some (.inl a0), some (.inl a1), none, none]) 1 (a_X8_in F w a1.toInt64 0 ((r13 - 1).toInt64) r15 d (by omega) hr16) (fun F h => h) ?_
    show pm_Gx (RT d) co_X8_isWord 16 [some (.inl a0), some (.inl a1), none, none] [.inl r15] w Q
    have key : pm_Gx (RT d) co_X8_isWord 20 [some (.inl a0), some (.inl a1), none, none] [.inl (if r15 = 0 then 0 else 1 : Int32)] w Q := by
      refine pm_go (i2 := 23) (ls2 := [some (.inl a0), some (.inl a1), some (.inl (if r15 = 0 then 0 else 1 : Int32)), some (.inl 0)]) (st2 := []) (w2 := w) 3 (fun F h => h) ?_
      obtain ⟨x17, hx18, hf⟩ := Option.bind_eq_some_iff.mp hf
      refine a_X8_isWord_L23 F d hd Q w F a0 a1 (if r15 = 0 then 0 else 1 : Int32) 0 x17 hx18 ?_
      refine pm_go (i2 := 44) (ls2 := [some (.inl a0), some (.inl a1), some (.inl x17.1), some (.inl x17.2)]) (st2 := [.inl x17.1]) (w2 := w) 1 (fun F h => h) ?_
      obtain ⟨hz19, hf⟩ := pm_itn hf
      obtain rfl := Option.some.inj hf
      exact pm_re (r := some (.inl x17.1)) (w2 := w) 1 (fun F h => ⟨pm_isb_nar hz19, h⟩) hq
    clear hf
    refine pm_if (P := r15 = 0) (i2 := 19) (i3 := 17) (ls2 := [some (.inl a0), some (.inl a1), none, none]) (st2 := []) (w2 := w) 1 (fun F h => h) (fun hc20 => ?_) (fun hc20 => ?_)
    · try simp only [if_pos hc20] at key
      refine pm_go (i2 := 20) (ls2 := [some (.inl a0), some (.inl a1), none, none]) (st2 := [.inl 0]) (w2 := w) 1 (fun F h => h) ?_
      exact key
    · try simp only [if_neg hc20] at key
      refine pm_go (i2 := 20) (ls2 := [some (.inl a0), some (.inl a1), none, none]) (st2 := [.inl 1]) (w2 := w) 2 (fun F h => h) ?_
      exact key
set_option maxRecDepth 20000 in
set_option maxHeartbeats 4000000 in
theorem a_X8_isWord (F : Nat) (w : pm_W) (a0 : Int32) (a1 : Int32) (x : Int32) (d : Nat) (hd : 2 ≤ d) (hf : f_X8_isWord F w a0 a1 = some x) : RT d 132 [.inl a0, .inl a1] w (some (.inl x)) w := by
  obtain ⟨d, rfl, hd2⟩ := pm_dep hd
  exact pm_start (co := co_X8_isWord) (nL := 4) (by decide) rfl rfl (Nat.le_of_ble_eq_true rfl) (b_X8_isWord F d hd2 _ w a0 a1 x hf ⟨rfl, rfl⟩)
def f_X8_ears_L4 (F : Nat) (w : pm_W) : Nat → Int32 → Int32 → Option (Int32 × Int32)
  | 0, _, _ => none
  | n + 1, v1, v2 => (if (w.1 19 0 0) ≤ v2 then some (v1, v2) else ((f_X8_hears F w 0).bind fun r2 => ((f_X8_has F w r2 v2).bind fun r4 => (if r4 = 0 then f_X8_ears_L4 F w n (v1 + 0) (v2 + 1) else (if pm_inb v2 5 = true then f_X8_ears_L4 F w n (v1 + (w.1 22 0 v2.toNatClampNeg)) (v2 + 1) else none)))))
def f_X8_ears (F : Nat) (w : pm_W) : Option (Int32) := ((f_X8_ears_L4 F w F 0 0).bind fun x8 => some (x8.1 - x8.1 / 4 * 4))
set_option maxRecDepth 20000 in
set_option maxHeartbeats 4000000 in
theorem a_X8_ears_L4 (F : Nat) (d : Nat) (hd : 3 ≤ d) (Q : pm_Q) (w : pm_W) : ∀ (n : Nat) (v1 : Int32) (v2 : Int32) (x : Int32 × Int32), f_X8_ears_L4 F w n v1 v2 = some x → pm_Gx (RT d) co_X8_ears 25 [some (.inr (.inr (19, 0))), some (.inl x.1), some (.inl x.2)] [] w Q → pm_Gx (RT d) co_X8_ears 4 [some (.inr (.inr (19, 0))), some (.inl v1), some (.inl v2)] [] w Q := by
  intro n
  induction n with
  | zero =>
    intro v1 v2 x hf
    cases hf
  | succ n ih =>
    intro v1 v2 x hf hk
    rw [f_X8_ears_L4] at hf
    refine pm_go (i2 := 7) (ls2 := [some (.inr (.inr (19, 0))), some (.inl v1), some (.inl v2)]) (st2 := [.inl (w.1 19 0 0), .inl v2]) (w2 := w) 3 (fun F h => h) ?_
    refine pm_if (P := (w.1 19 0 0) ≤ v2) (i2 := 25) (i3 := 8) (ls2 := [some (.inr (.inr (19, 0))), some (.inl v1), some (.inl v2)]) (st2 := []) (w2 := w) 1 (fun F h => h) (fun hc1 => ?_) (fun hc1 => ?_)
    · rw [if_pos hc1] at hf
      obtain rfl := Option.some.inj hf
      exact hk
    · rw [if_neg hc1] at hf
      refine pm_go (i2 := 11) (ls2 := [some (.inr (.inr (19, 0))), some (.inl v1), some (.inl v2)]) (st2 := [.inl 0, .inr (.inr (19, 0)), .inl v1]) (w2 := w) 3 (fun F h => h) ?_
      obtain ⟨r2, hr3, hf⟩ := Option.bind_eq_some_iff.mp hf
      refine pm_ca (y := 103) (as := [.inr (.inr (19, 0)), .inl 0]) (r := some (.inl r2)) (w2 := w) (w1 := w) (t := [.inl v1]) (i2 := 12) (ls2 := [some (.inr (.inr (19, 0))), some (.inl v1), some (.inl v2)]) 1 (a_X8_hears F w 0 r2 d (by omega) hr3) (fun F h => h) ?_
      show pm_Gx (RT d) co_X8_ears 12 [some (.inr (.inr (19, 0))), some (.inl v1), some (.inl v2)] [.inl r2, .inl v1] w Q
      refine pm_go (i2 := 13) (ls2 := [some (.inr (.inr (19, 0))), some (.inl v1), some (.inl v2)]) (st2 := [.inl v2, .inl r2, .inl v1]) (w2 := w) 1 (fun F h => h) ?_
      obtain ⟨r4, hr5, hf⟩ := Option.bind_eq_some_iff.mp hf
      refine pm_ca (y := 89) (as := [.inl r2, .inl v2]) (r := some (.inl r4)) (w2 := w) (w1 := w) (t := [.inl v1]) (i2 := 14) (ls2 := [some (.inr (.inr (19, 0))), some (.inl v1), some (.inl v2)]) 1 (a_X8_has F w r2 v2 r4 d (by omega) hr5) (fun F h => h) ?_
      show pm_Gx (RT d) co_X8_ears 14 [some (.inr (.inr (19, 0))), some (.inl v1), some (.inl v2)] [.inl r4, .inl v1] w Q
      refine pm_if (P := r4 = 0) (i2 := 20) (i3 := 15) (ls2 := [some (.inr (.inr (19, 0))), some (.inl v1), some (.inl v2)]) (st2 := [.inl v1]) (w2 := w) 1 (fun F h => h) (fun hc6 => ?_) (fun hc6 => ?_)
      · rw [if_pos hc6] at hf
        refine pm_go (i2 := 4) (ls2 := [some (.inr (.inr (19, 0))), some (.inl (v1 + 0)), some (.inl (v2 + 1))]) (st2 := []) (w2 := w) 5 (fun F h => h) ?_
        exact ih (v1 + 0) (v2 + 1) _ hf hk
      · rw [if_neg hc6] at hf
        obtain ⟨hs7, hf⟩ := pm_itn hf
        refine pm_go (i2 := 4) (ls2 := [some (.inr (.inr (19, 0))), some (.inl (v1 + (w.1 22 0 v2.toNatClampNeg))), some (.inl (v2 + 1))]) (st2 := []) (w2 := w) 9 (fun F h => ⟨(pm_inb_in hs7), h⟩) ?_
        exact ih (v1 + (w.1 22 0 v2.toNatClampNeg)) (v2 + 1) _ hf hk
set_option maxRecDepth 20000 in
set_option maxHeartbeats 4000000 in
theorem b_X8_ears (F : Nat) (d : Nat) (hd : 3 ≤ d) (Q : pm_Q) (w : pm_W) (x : Int32) (hf : f_X8_ears F w = some x) (hq : Q (some (.inl x)) w) : pm_Gx (RT d) co_X8_ears 0 [some (.inr (.inr (19, 0))), none, none] [] w Q := by
  unfold f_X8_ears at hf
  refine pm_go (i2 := 4) (ls2 := [some (.inr (.inr (19, 0))), some (.inl 0), some (.inl 0)]) (st2 := []) (w2 := w) 4 (fun F h => h) ?_
  obtain ⟨x8, hx9, hf⟩ := Option.bind_eq_some_iff.mp hf
  refine a_X8_ears_L4 F d hd Q w F 0 0 x8 hx9 ?_
  refine pm_go (i2 := 28) (ls2 := [some (.inr (.inr (19, 0))), some (.inl x8.1), some (.inl x8.2)]) (st2 := [.inl (x8.1 - x8.1 / 4 * 4)]) (w2 := w) 3 (fun F h => ⟨(by decide), h⟩) ?_
  obtain rfl := Option.some.inj hf
  exact pm_re (r := some (.inl (x8.1 - x8.1 / 4 * 4))) (w2 := w) 1 (fun F h => h) hq
set_option maxRecDepth 20000 in
set_option maxHeartbeats 4000000 in
theorem a_X8_ears (F : Nat) (w : pm_W) (x : Int32) (d : Nat) (hd : 4 ≤ d) (hf : f_X8_ears F w = some x) : RT d 133 [.inr (.inr (19, 0))] w (some (.inl x)) w := by
  obtain ⟨d, rfl, hd2⟩ := pm_dep hd
  exact pm_start (co := co_X8_ears) (nL := 3) (by decide) rfl rfl (Nat.le_of_ble_eq_true rfl) (b_X8_ears F d hd2 _ w x hf ⟨rfl, rfl⟩)
def f_X8_turned_L6 (F : Nat) (w : pm_W) : Nat → Int32 → Int32 → Int32 → Int32 → Int32 → Option (Int32 × Int32)
  | 0, _, _, _, _, _ => none
  | n + 1, v0, v1, v2, v3, v4 => (if v4 < 0 then some (v3, v4) else ((f_X8_power F w 10 v4).bind fun r2 => (if pm_nz r2 = true then f_X8_turned_L6 F w n v0 v1 v2 ((10 * v3) + ((((v1 / r2) - (v1 / r2) / 10 * 10) + v2) - (((v1 / r2) - (v1 / r2) / 10 * 10) + v2) / 4 * 4)) (v4 + (-1)) else none)))
def f_X8_turned (F : Nat) (w : pm_W) (a0 : Int32) (a1 : Int32) (a2 : Int32) : Option (Int32) := ((f_X8_turned_L6 F w F a0 a1 a2 0 (a0 - 1)).bind fun x5 => some x5.1)
set_option maxRecDepth 20000 in
set_option maxHeartbeats 4000000 in
theorem a_X8_turned_L6 (F : Nat) (d : Nat) (hd : 1 ≤ d) (Q : pm_Q) (w : pm_W) : ∀ (n : Nat) (v0 : Int32) (v1 : Int32) (v2 : Int32) (v3 : Int32) (v4 : Int32) (x : Int32 × Int32), f_X8_turned_L6 F w n v0 v1 v2 v3 v4 = some x → pm_Gx (RT d) co_X8_turned 26 [some (.inl v0), some (.inl v1), some (.inl v2), some (.inl x.1), some (.inl x.2)] [] w Q → pm_Gx (RT d) co_X8_turned 6 [some (.inl v0), some (.inl v1), some (.inl v2), some (.inl v3), some (.inl v4)] [] w Q := by
  intro n
  induction n with
  | zero =>
    intro v0 v1 v2 v3 v4 x hf
    cases hf
  | succ n ih =>
    intro v0 v1 v2 v3 v4 x hf hk
    rw [f_X8_turned_L6] at hf
    refine pm_go (i2 := 7) (ls2 := [some (.inl v0), some (.inl v1), some (.inl v2), some (.inl v3), some (.inl v4)]) (st2 := [.inl v4]) (w2 := w) 1 (fun F h => h) ?_
    refine pm_if (P := v4 < 0) (i2 := 26) (i3 := 8) (ls2 := [some (.inl v0), some (.inl v1), some (.inl v2), some (.inl v3), some (.inl v4)]) (st2 := []) (w2 := w) 1 (fun F h => h) (fun hc1 => ?_) (fun hc1 => ?_)
    · rw [if_pos hc1] at hf
      obtain rfl := Option.some.inj hf
      exact hk
    · rw [if_neg hc1] at hf
      refine pm_go (i2 := 14) (ls2 := [some (.inl v0), some (.inl v1), some (.inl v2), some (.inl v3), some (.inl v4)]) (st2 := [.inl v4, .inl 10, .inl v1, .inl (10 * v3)]) (w2 := w) 6 (fun F h => h) ?_
      obtain ⟨r2, hr3, hf⟩ := Option.bind_eq_some_iff.mp hf
      refine pm_ca (y := 117) (as := [.inl 10, .inl v4]) (r := some (.inl r2)) (w2 := w) (w1 := w) (t := [.inl v1, .inl (10 * v3)]) (i2 := 15) (ls2 := [some (.inl v0), some (.inl v1), some (.inl v2), some (.inl v3), some (.inl v4)]) 1 (a_X8_power F w 10 v4 r2 d (by omega) hr3) (fun F h => h) ?_
      show pm_Gx (RT d) co_X8_turned 15 [some (.inl v0), some (.inl v1), some (.inl v2), some (.inl v3), some (.inl v4)] [.inl r2, .inl v1, .inl (10 * v3)] w Q
      obtain ⟨hs4, hf⟩ := pm_itn hf
      refine pm_go (i2 := 6) (ls2 := [some (.inl v0), some (.inl v1), some (.inl v2), some (.inl ((10 * v3) + ((((v1 / r2) - (v1 / r2) / 10 * 10) + v2) - (((v1 / r2) - (v1 / r2) / 10 * 10) + v2) / 4 * 4))), some (.inl (v4 + (-1)))]) (st2 := []) (w2 := w) 11 (fun F h => ⟨(pm_nz_ne hs4), (by decide), (by decide), h⟩) ?_
      exact ih v0 v1 v2 ((10 * v3) + ((((v1 / r2) - (v1 / r2) / 10 * 10) + v2) - (((v1 / r2) - (v1 / r2) / 10 * 10) + v2) / 4 * 4)) (v4 + (-1)) _ hf hk
set_option maxRecDepth 20000 in
set_option maxHeartbeats 4000000 in
theorem b_X8_turned (F : Nat) (d : Nat) (hd : 1 ≤ d) (Q : pm_Q) (w : pm_W) (a0 : Int32) (a1 : Int32) (a2 : Int32) (x : Int32) (hf : f_X8_turned F w a0 a1 a2 = some x) (hq : Q (some (.inl x)) w) : pm_Gx (RT d) co_X8_turned 0 [some (.inl a0), some (.inl a1), some (.inl a2), none, none] [] w Q := by
  unfold f_X8_turned at hf
  refine pm_go (i2 := 6) (ls2 := [some (.inl a0), some (.inl a1), some (.inl a2), some (.inl 0), some (.inl (a0 - 1))]) (st2 := []) (w2 := w) 6 (fun F h => h) ?_
  obtain ⟨x5, hx6, hf⟩ := Option.bind_eq_some_iff.mp hf
  refine a_X8_turned_L6 F d hd Q w F a0 a1 a2 0 (a0 - 1) x5 hx6 ?_
  refine pm_go (i2 := 27) (ls2 := [some (.inl a0), some (.inl a1), some (.inl a2), some (.inl x5.1), some (.inl x5.2)]) (st2 := [.inl x5.1]) (w2 := w) 1 (fun F h => h) ?_
  obtain rfl := Option.some.inj hf
  exact pm_re (r := some (.inl x5.1)) (w2 := w) 1 (fun F h => h) hq
set_option maxRecDepth 20000 in
set_option maxHeartbeats 4000000 in
theorem a_X8_turned (F : Nat) (w : pm_W) (a0 : Int32) (a1 : Int32) (a2 : Int32) (x : Int32) (d : Nat) (hd : 2 ≤ d) (hf : f_X8_turned F w a0 a1 a2 = some x) : RT d 134 [.inl a0, .inl a1, .inl a2] w (some (.inl x)) w := by
  obtain ⟨d, rfl, hd2⟩ := pm_dep hd
  exact pm_start (co := co_X8_turned) (nL := 5) (by decide) rfl rfl (Nat.le_of_ble_eq_true rfl) (b_X8_turned F d hd2 _ w a0 a1 a2 x hf ⟨rfl, rfl⟩)
def f_X8_comes (F : Nat) (w : pm_W) (a1 : Int32) (a2 : Int32) : Option (Int32) := ((f_X8_isWord F w a1 a2).bind fun r1 => (if r1 = 0 then some (-2) else ((f_X8_ears F w).bind fun r4 => ((f_X8_turned F w a1 a2 r4).bind fun r6 => some r6))))
set_option maxRecDepth 20000 in
set_option maxHeartbeats 4000000 in
theorem b_X8_comes (F : Nat) (d : Nat) (hd : 4 ≤ d) (Q : pm_Q) (w : pm_W) (a1 : Int32) (a2 : Int32) (x : Int32) (hf : f_X8_comes F w a1 a2 = some x) (hq : Q (some (.inl x)) w) : pm_Gx (RT d) co_X8_comes 0 [some (.inr (.inr (19, 0))), some (.inl a1), some (.inl a2)] [] w Q := by
  unfold f_X8_comes at hf
  refine pm_go (i2 := 2) (ls2 := [some (.inr (.inr (19, 0))), some (.inl a1), some (.inl a2)]) (st2 := [.inl a2, .inl a1]) (w2 := w) 2 (fun F h => h) ?_
  obtain ⟨r1, hr2, hf⟩ := Option.bind_eq_some_iff.mp hf
  refine pm_ca (y := 132) (as := [.inl a1, .inl a2]) (r := some (.inl r1)) (w2 := w) (w1 := w) (t := []) (i2 := 3) (ls2 := [some (.inr (.inr (19, 0))), some (.inl a1), some (.inl a2)]) 1 (a_X8_isWord F w a1 a2 r1 d (by omega) hr2) (fun F h => h) ?_
  show pm_Gx (RT d) co_X8_comes 3 [some (.inr (.inr (19, 0))), some (.inl a1), some (.inl a2)] [.inl r1] w Q
  refine pm_if (P := r1 = 0) (i2 := 10) (i3 := 4) (ls2 := [some (.inr (.inr (19, 0))), some (.inl a1), some (.inl a2)]) (st2 := []) (w2 := w) 1 (fun F h => h) (fun hc3 => ?_) (fun hc3 => ?_)
  · rw [if_pos hc3] at hf
    refine pm_go (i2 := 11) (ls2 := [some (.inr (.inr (19, 0))), some (.inl a1), some (.inl a2)]) (st2 := [.inl (-2)]) (w2 := w) 1 (fun F h => h) ?_
    obtain rfl := Option.some.inj hf
    exact pm_re (r := some (.inl (-2))) (w2 := w) 1 (fun F h => h) hq
  · rw [if_neg hc3] at hf
    refine pm_go (i2 := 7) (ls2 := [some (.inr (.inr (19, 0))), some (.inl a1), some (.inl a2)]) (st2 := [.inr (.inr (19, 0)), .inl a2, .inl a1]) (w2 := w) 3 (fun F h => h) ?_
    obtain ⟨r4, hr5, hf⟩ := Option.bind_eq_some_iff.mp hf
    refine pm_ca (y := 133) (as := [.inr (.inr (19, 0))]) (r := some (.inl r4)) (w2 := w) (w1 := w) (t := [.inl a2, .inl a1]) (i2 := 8) (ls2 := [some (.inr (.inr (19, 0))), some (.inl a1), some (.inl a2)]) 1 (a_X8_ears F w r4 d (by omega) hr5) (fun F h => h) ?_
    show pm_Gx (RT d) co_X8_comes 8 [some (.inr (.inr (19, 0))), some (.inl a1), some (.inl a2)] [.inl r4, .inl a2, .inl a1] w Q
    obtain ⟨r6, hr7, hf⟩ := Option.bind_eq_some_iff.mp hf
    refine pm_ca (y := 134) (as := [.inl a1, .inl a2, .inl r4]) (r := some (.inl r6)) (w2 := w) (w1 := w) (t := []) (i2 := 9) (ls2 := [some (.inr (.inr (19, 0))), some (.inl a1), some (.inl a2)]) 1 (a_X8_turned F w a1 a2 r4 r6 d (by omega) hr7) (fun F h => h) ?_
    show pm_Gx (RT d) co_X8_comes 9 [some (.inr (.inr (19, 0))), some (.inl a1), some (.inl a2)] [.inl r6] w Q
    refine pm_go (i2 := 11) (ls2 := [some (.inr (.inr (19, 0))), some (.inl a1), some (.inl a2)]) (st2 := [.inl r6]) (w2 := w) 1 (fun F h => h) ?_
    obtain rfl := Option.some.inj hf
    exact pm_re (r := some (.inl r6)) (w2 := w) 1 (fun F h => h) hq
set_option maxRecDepth 20000 in
set_option maxHeartbeats 4000000 in
theorem a_X8_comes (F : Nat) (w : pm_W) (a1 : Int32) (a2 : Int32) (x : Int32) (d : Nat) (hd : 5 ≤ d) (hf : f_X8_comes F w a1 a2 = some x) : RT d 135 [.inr (.inr (19, 0)), .inl a1, .inl a2] w (some (.inl x)) w := by
  obtain ⟨d, rfl, hd2⟩ := pm_dep hd
  exact pm_start (co := co_X8_comes) (nL := 3) (by decide) rfl rfl (Nat.le_of_ble_eq_true rfl) (b_X8_comes F d hd2 _ w a1 a2 x hf ⟨rfl, rfl⟩)
def f_X8_spoken (F : Nat) (w : pm_W) (a1 : Int32) (a2 : Int32) : Option (Int32) := ((f_X8_isWord F w a1 a2).bind fun r1 => (if r1 = 0 then some (-2) else ((f_X8_ears F w).bind fun r4 => ((f_X8_turned F w a1 a2 (4 - r4)).bind fun r6 => some r6))))
set_option maxRecDepth 20000 in
set_option maxHeartbeats 4000000 in
theorem b_X8_spoken (F : Nat) (d : Nat) (hd : 4 ≤ d) (Q : pm_Q) (w : pm_W) (a1 : Int32) (a2 : Int32) (x : Int32) (hf : f_X8_spoken F w a1 a2 = some x) (hq : Q (some (.inl x)) w) : pm_Gx (RT d) co_X8_spoken 0 [some (.inr (.inr (19, 0))), some (.inl a1), some (.inl a2)] [] w Q := by
  unfold f_X8_spoken at hf
  refine pm_go (i2 := 2) (ls2 := [some (.inr (.inr (19, 0))), some (.inl a1), some (.inl a2)]) (st2 := [.inl a2, .inl a1]) (w2 := w) 2 (fun F h => h) ?_
  obtain ⟨r1, hr2, hf⟩ := Option.bind_eq_some_iff.mp hf
  refine pm_ca (y := 132) (as := [.inl a1, .inl a2]) (r := some (.inl r1)) (w2 := w) (w1 := w) (t := []) (i2 := 3) (ls2 := [some (.inr (.inr (19, 0))), some (.inl a1), some (.inl a2)]) 1 (a_X8_isWord F w a1 a2 r1 d (by omega) hr2) (fun F h => h) ?_
  show pm_Gx (RT d) co_X8_spoken 3 [some (.inr (.inr (19, 0))), some (.inl a1), some (.inl a2)] [.inl r1] w Q
  refine pm_if (P := r1 = 0) (i2 := 12) (i3 := 4) (ls2 := [some (.inr (.inr (19, 0))), some (.inl a1), some (.inl a2)]) (st2 := []) (w2 := w) 1 (fun F h => h) (fun hc3 => ?_) (fun hc3 => ?_)
  · rw [if_pos hc3] at hf
    refine pm_go (i2 := 13) (ls2 := [some (.inr (.inr (19, 0))), some (.inl a1), some (.inl a2)]) (st2 := [.inl (-2)]) (w2 := w) 1 (fun F h => h) ?_
    obtain rfl := Option.some.inj hf
    exact pm_re (r := some (.inl (-2))) (w2 := w) 1 (fun F h => h) hq
  · rw [if_neg hc3] at hf
    refine pm_go (i2 := 8) (ls2 := [some (.inr (.inr (19, 0))), some (.inl a1), some (.inl a2)]) (st2 := [.inr (.inr (19, 0)), .inl 4, .inl a2, .inl a1]) (w2 := w) 4 (fun F h => h) ?_
    obtain ⟨r4, hr5, hf⟩ := Option.bind_eq_some_iff.mp hf
    refine pm_ca (y := 133) (as := [.inr (.inr (19, 0))]) (r := some (.inl r4)) (w2 := w) (w1 := w) (t := [.inl 4, .inl a2, .inl a1]) (i2 := 9) (ls2 := [some (.inr (.inr (19, 0))), some (.inl a1), some (.inl a2)]) 1 (a_X8_ears F w r4 d (by omega) hr5) (fun F h => h) ?_
    show pm_Gx (RT d) co_X8_spoken 9 [some (.inr (.inr (19, 0))), some (.inl a1), some (.inl a2)] [.inl r4, .inl 4, .inl a2, .inl a1] w Q
    refine pm_go (i2 := 10) (ls2 := [some (.inr (.inr (19, 0))), some (.inl a1), some (.inl a2)]) (st2 := [.inl (4 - r4), .inl a2, .inl a1]) (w2 := w) 1 (fun F h => h) ?_
    obtain ⟨r6, hr7, hf⟩ := Option.bind_eq_some_iff.mp hf
    refine pm_ca (y := 134) (as := [.inl a1, .inl a2, .inl (4 - r4)]) (r := some (.inl r6)) (w2 := w) (w1 := w) (t := []) (i2 := 11) (ls2 := [some (.inr (.inr (19, 0))), some (.inl a1), some (.inl a2)]) 1 (a_X8_turned F w a1 a2 (4 - r4) r6 d (by omega) hr7) (fun F h => h) ?_
    show pm_Gx (RT d) co_X8_spoken 11 [some (.inr (.inr (19, 0))), some (.inl a1), some (.inl a2)] [.inl r6] w Q
    refine pm_go (i2 := 13) (ls2 := [some (.inr (.inr (19, 0))), some (.inl a1), some (.inl a2)]) (st2 := [.inl r6]) (w2 := w) 1 (fun F h => h) ?_
    obtain rfl := Option.some.inj hf
    exact pm_re (r := some (.inl r6)) (w2 := w) 1 (fun F h => h) hq
set_option maxRecDepth 20000 in
set_option maxHeartbeats 4000000 in
theorem a_X8_spoken (F : Nat) (w : pm_W) (a1 : Int32) (a2 : Int32) (x : Int32) (d : Nat) (hd : 5 ≤ d) (hf : f_X8_spoken F w a1 a2 = some x) : RT d 136 [.inr (.inr (19, 0)), .inl a1, .inl a2] w (some (.inl x)) w := by
  obtain ⟨d, rfl, hd2⟩ := pm_dep hd
  exact pm_start (co := co_X8_spoken) (nL := 3) (by decide) rfl rfl (Nat.le_of_ble_eq_true rfl) (b_X8_spoken F d hd2 _ w a1 a2 x hf ⟨rfl, rfl⟩)
def f_X8_dine (F : Nat) (w : pm_W) (a1 : Int32) (a2 : Int32) : Option ((Int32 × pm_W)) := ((f_X8_in F w a1.toInt64 0 9999).bind fun r1 => (if r1 = 0 then some ((-2), w) else ((f_X8_in F w a2.toInt64 (-40) 40).bind fun r4 => (if r4 = 0 then some ((-2), w) else (if (w.1 19 0 24) = 6 then some ((-4), w) else (if pm_inb (w.1 19 0 24) 6 = true then (pm_wlet (pm_setI w 31 0 ((w.1 19 0 24).toNatClampNeg) a1) fun w9 => (if pm_inb (w9.1 19 0 24) 6 = true then (pm_wlet (pm_setI w9 32 0 ((w9.1 19 0 24).toNatClampNeg) a2) fun w11 => (pm_wlet (pm_setI w11 19 0 24 ((w11.1 19 0 24) + 1)) fun w12 => some (w12.1 19 0 24, w12))) else none)) else none))))))
set_option maxRecDepth 20000 in
set_option maxHeartbeats 4000000 in
theorem b_X8_dine (F : Nat) (d : Nat) (hd : 1 ≤ d) (Q : pm_Q) (w : pm_W) (a1 : Int32) (a2 : Int32) (x : (Int32 × pm_W)) (hf : f_X8_dine F w a1 a2 = some x) (hq : Q (some (.inl x.1)) x.2) : pm_Gx (RT d) co_X8_dine 0 [some (.inr (.inr (19, 0))), some (.inl a1), some (.inl a2)] [] w Q := by
  unfold f_X8_dine at hf
  refine pm_go (i2 := 4) (ls2 := [some (.inr (.inr (19, 0))), some (.inl a1), some (.inl a2)]) (st2 := [.inr (.inl 9999), .inr (.inl 0), .inr (.inl a1.toInt64)]) (w2 := w) 4 (fun F h => h) ?_
  obtain ⟨r1, hr2, hf⟩ := Option.bind_eq_some_iff.mp hf
  refine pm_ca (y := 88) (as := [.inr (.inl a1.toInt64), .inr (.inl 0), .inr (.inl 9999)]) (r := some (.inl r1)) (w2 := w) (w1 := w) (t := []) (i2 := 5) (ls2 := [some (.inr (.inr (19, 0))), some (.inl a1), some (.inl a2)]) 1 (a_X8_in F w a1.toInt64 0 9999 r1 d (by omega) hr2) (fun F h => h) ?_
  show pm_Gx (RT d) co_X8_dine 5 [some (.inr (.inr (19, 0))), some (.inl a1), some (.inl a2)] [.inl r1] w Q
  refine pm_if (P := r1 = 0) (i2 := 12) (i3 := 6) (ls2 := [some (.inr (.inr (19, 0))), some (.inl a1), some (.inl a2)]) (st2 := []) (w2 := w) 1 (fun F h => h) (fun hc3 => ?_) (fun hc3 => ?_)
  · rw [if_pos hc3] at hf
    refine pm_go (i2 := 13) (ls2 := [some (.inr (.inr (19, 0))), some (.inl a1), some (.inl a2)]) (st2 := [.inl (-2)]) (w2 := w) 1 (fun F h => h) ?_
    obtain rfl := Option.some.inj hf
    exact pm_re (r := some (.inl (-2))) (w2 := w) 1 (fun F h => h) hq
  · rw [if_neg hc3] at hf
    refine pm_go (i2 := 10) (ls2 := [some (.inr (.inr (19, 0))), some (.inl a1), some (.inl a2)]) (st2 := [.inr (.inl 40), .inr (.inl (-40)), .inr (.inl a2.toInt64)]) (w2 := w) 4 (fun F h => h) ?_
    obtain ⟨r4, hr5, hf⟩ := Option.bind_eq_some_iff.mp hf
    refine pm_ca (y := 88) (as := [.inr (.inl a2.toInt64), .inr (.inl (-40)), .inr (.inl 40)]) (r := some (.inl r4)) (w2 := w) (w1 := w) (t := []) (i2 := 11) (ls2 := [some (.inr (.inr (19, 0))), some (.inl a1), some (.inl a2)]) 1 (a_X8_in F w a2.toInt64 (-40) 40 r4 d (by omega) hr5) (fun F h => h) ?_
    show pm_Gx (RT d) co_X8_dine 11 [some (.inr (.inr (19, 0))), some (.inl a1), some (.inl a2)] [.inl r4] w Q
    refine pm_if (P := r4 = 0) (i2 := 12) (i3 := 14) (ls2 := [some (.inr (.inr (19, 0))), some (.inl a1), some (.inl a2)]) (st2 := []) (w2 := w) 1 (fun F h => h) (fun hc6 => ?_) (fun hc6 => ?_)
    · rw [if_pos hc6] at hf
      refine pm_go (i2 := 13) (ls2 := [some (.inr (.inr (19, 0))), some (.inl a1), some (.inl a2)]) (st2 := [.inl (-2)]) (w2 := w) 1 (fun F h => h) ?_
      obtain rfl := Option.some.inj hf
      exact pm_re (r := some (.inl (-2))) (w2 := w) 1 (fun F h => h) hq
    · rw [if_neg hc6] at hf
      refine pm_go (i2 := 17) (ls2 := [some (.inr (.inr (19, 0))), some (.inl a1), some (.inl a2)]) (st2 := [.inl 6, .inl (w.1 19 0 24)]) (w2 := w) 3 (fun F h => h) ?_
      refine pm_if (P := (w.1 19 0 24) = 6) (i2 := 18) (i3 := 20) (ls2 := [some (.inr (.inr (19, 0))), some (.inl a1), some (.inl a2)]) (st2 := []) (w2 := w) 1 (fun F h => h) (fun hc7 => ?_) (fun hc7 => ?_)
      · rw [if_pos hc7] at hf
        refine pm_go (i2 := 19) (ls2 := [some (.inr (.inr (19, 0))), some (.inl a1), some (.inl a2)]) (st2 := [.inl (-4)]) (w2 := w) 1 (fun F h => h) ?_
        obtain rfl := Option.some.inj hf
        exact pm_re (r := some (.inl (-4))) (w2 := w) 1 (fun F h => h) hq
      · rw [if_neg hc7] at hf
        obtain ⟨hs8, hf⟩ := pm_itn hf
        refine pm_go (i2 := 26) (ls2 := [some (.inr (.inr (19, 0))), some (.inl a1), some (.inl a2)]) (st2 := []) (w2 := (pm_setI w 31 0 ((w.1 19 0 24).toNatClampNeg) a1)) 6 (fun F h => ⟨(pm_inb_in hs8), h⟩) ?_
        generalize (pm_setI w 31 0 ((w.1 19 0 24).toNatClampNeg) a1) = w9 at hf ⊢
        replace hf := pm_wlet_un hf
        obtain ⟨hs10, hf⟩ := pm_itn hf
        refine pm_go (i2 := 32) (ls2 := [some (.inr (.inr (19, 0))), some (.inl a1), some (.inl a2)]) (st2 := []) (w2 := (pm_setI w9 32 0 ((w9.1 19 0 24).toNatClampNeg) a2)) 6 (fun F h => ⟨(pm_inb_in hs10), h⟩) ?_
        generalize (pm_setI w9 32 0 ((w9.1 19 0 24).toNatClampNeg) a2) = w11 at hf ⊢
        replace hf := pm_wlet_un hf
        refine pm_go (i2 := 38) (ls2 := [some (.inr (.inr (19, 0))), some (.inl a1), some (.inl a2)]) (st2 := []) (w2 := (pm_setI w11 19 0 24 ((w11.1 19 0 24) + 1))) 6 (fun F h => h) ?_
        generalize (pm_setI w11 19 0 24 ((w11.1 19 0 24) + 1)) = w12 at hf ⊢
        replace hf := pm_wlet_un hf
        refine pm_go (i2 := 40) (ls2 := [some (.inr (.inr (19, 0))), some (.inl a1), some (.inl a2)]) (st2 := [.inl (w12.1 19 0 24)]) (w2 := w12) 2 (fun F h => h) ?_
        obtain rfl := Option.some.inj hf
        exact pm_re (r := some (.inl (w12.1 19 0 24))) (w2 := w12) 1 (fun F h => h) hq
set_option maxRecDepth 20000 in
set_option maxHeartbeats 4000000 in
theorem a_X8_dine (F : Nat) (w : pm_W) (a1 : Int32) (a2 : Int32) (x : (Int32 × pm_W)) (d : Nat) (hd : 2 ≤ d) (hf : f_X8_dine F w a1 a2 = some x) : RT d 137 [.inr (.inr (19, 0)), .inl a1, .inl a2] w (some (.inl x.1)) x.2 := by
  obtain ⟨d, rfl, hd2⟩ := pm_dep hd
  exact pm_start (co := co_X8_dine) (nL := 3) (by decide) rfl rfl (Nat.le_of_ble_eq_true rfl) (b_X8_dine F d hd2 _ w a1 a2 x hf ⟨rfl, rfl⟩)
def f_X8_clear (F : Nat) (w : pm_W) : Option ((Int32 × pm_W)) := (pm_wlet (pm_setI w 19 0 24 0) fun w1 => some (w.1 19 0 24, w1))
set_option maxRecDepth 20000 in
set_option maxHeartbeats 4000000 in
theorem b_X8_clear (F : Nat) (d : Nat) (hd : 0 ≤ d) (Q : pm_Q) (w : pm_W) (x : (Int32 × pm_W)) (hf : f_X8_clear F w = some x) (hq : Q (some (.inl x.1)) x.2) : pm_Gx (RT d) co_X8_clear 0 [some (.inr (.inr (19, 0))), none] [] w Q := by
  unfold f_X8_clear at hf
  refine pm_go (i2 := 6) (ls2 := [some (.inr (.inr (19, 0))), some (.inl (w.1 19 0 24))]) (st2 := []) (w2 := (pm_setI w 19 0 24 0)) 6 (fun F h => h) ?_
  generalize (pm_setI w 19 0 24 0) = w1 at hf ⊢
  replace hf := pm_wlet_un hf
  refine pm_go (i2 := 7) (ls2 := [some (.inr (.inr (19, 0))), some (.inl (w.1 19 0 24))]) (st2 := [.inl (w.1 19 0 24)]) (w2 := w1) 1 (fun F h => h) ?_
  obtain rfl := Option.some.inj hf
  exact pm_re (r := some (.inl (w.1 19 0 24))) (w2 := w1) 1 (fun F h => h) hq
set_option maxRecDepth 20000 in
set_option maxHeartbeats 4000000 in
theorem a_X8_clear (F : Nat) (w : pm_W) (x : (Int32 × pm_W)) (d : Nat) (hd : 1 ≤ d) (hf : f_X8_clear F w = some x) : RT d 138 [.inr (.inr (19, 0))] w (some (.inl x.1)) x.2 := by
  obtain ⟨d, rfl, hd2⟩ := pm_dep hd
  exact pm_start (co := co_X8_clear) (nL := 2) (by decide) rfl rfl (Nat.le_of_ble_eq_true rfl) (b_X8_clear F d hd2 _ w x hf ⟨rfl, rfl⟩)
def f_X8_changeOf (F : Nat) (w : pm_W) (a0 : Int32) (a1 : Int32) : Option (Int32) := ((f_X8_power F w 4 (3 - a1)).bind fun r1 => (if pm_nz r1 = true then some (((a0 / r1) - (a0 / r1) / 4 * 4) - 1) else none))
set_option maxRecDepth 20000 in
set_option maxHeartbeats 4000000 in
theorem b_X8_changeOf (F : Nat) (d : Nat) (hd : 1 ≤ d) (Q : pm_Q) (w : pm_W) (a0 : Int32) (a1 : Int32) (x : Int32) (hf : f_X8_changeOf F w a0 a1 = some x) (hq : Q (some (.inl x)) w) : pm_Gx (RT d) co_X8_changeOf 0 [some (.inl a0), some (.inl a1)] [] w Q := by
  unfold f_X8_changeOf at hf
  refine pm_go (i2 := 5) (ls2 := [some (.inl a0), some (.inl a1)]) (st2 := [.inl (3 - a1), .inl 4, .inl a0]) (w2 := w) 5 (fun F h => h) ?_
  obtain ⟨r1, hr2, hf⟩ := Option.bind_eq_some_iff.mp hf
  refine pm_ca (y := 117) (as := [.inl 4, .inl (3 - a1)]) (r := some (.inl r1)) (w2 := w) (w1 := w) (t := [.inl a0]) (i2 := 6) (ls2 := [some (.inl a0), some (.inl a1)]) 1 (a_X8_power F w 4 (3 - a1) r1 d (by omega) hr2) (fun F h => h) ?_
  show pm_Gx (RT d) co_X8_changeOf 6 [some (.inl a0), some (.inl a1)] [.inl r1, .inl a0] w Q
  obtain ⟨hs3, hf⟩ := pm_itn hf
  refine pm_go (i2 := 11) (ls2 := [some (.inl a0), some (.inl a1)]) (st2 := [.inl (((a0 / r1) - (a0 / r1) / 4 * 4) - 1)]) (w2 := w) 5 (fun F h => ⟨(pm_nz_ne hs3), (by decide), h⟩) ?_
  obtain rfl := Option.some.inj hf
  exact pm_re (r := some (.inl (((a0 / r1) - (a0 / r1) / 4 * 4) - 1))) (w2 := w) 1 (fun F h => h) hq
set_option maxRecDepth 20000 in
set_option maxHeartbeats 4000000 in
theorem a_X8_changeOf (F : Nat) (w : pm_W) (a0 : Int32) (a1 : Int32) (x : Int32) (d : Nat) (hd : 2 ≤ d) (hf : f_X8_changeOf F w a0 a1 = some x) : RT d 139 [.inl a0, .inl a1] w (some (.inl x)) w := by
  obtain ⟨d, rfl, hd2⟩ := pm_dep hd
  exact pm_start (co := co_X8_changeOf) (nL := 2) (by decide) rfl rfl (Nat.le_of_ble_eq_true rfl) (b_X8_changeOf F d hd2 _ w a0 a1 x hf ⟨rfl, rfl⟩)
def f_X8_isLaw_L12 (F : Nat) (w : pm_W) : Nat → Int32 → Int32 → Int32 → Int32 → Int32 → Option (Int32 × Int32)
  | 0, _, _, _, _, _ => none
  | n + 1, v1, v2, v3, v4, v5 => (if 4 ≤ v5 then some (v4, v5) else (if pm_inb v3 6 = true then ((f_X8_power F w 10 (3 - v5)).bind fun r4 => (if pm_nz r4 = true then ((f_X8_changeOf F w v1 v5).bind fun r7 => f_X8_isLaw_L12 F w n v1 v2 v3 (v4 + ((((w.1 31 0 v3.toNatClampNeg) / r4) - ((w.1 31 0 v3.toNatClampNeg) / r4) / 10 * 10) * r7)) (v5 + 1)) else none)) else none))
def f_X8_isLaw_L4 (F : Nat) (w : pm_W) : Nat → Int32 → Int32 → Int32 → Option (Int32 × Int32)
  | 0, _, _, _ => none
  | n + 1, v1, v2, v3 => (if (w.1 19 0 24) ≤ v3 then some (v2, v3) else ((f_X8_isLaw_L12 F w F v1 v2 v3 0 0).bind fun x9 => (if v2 = 0 then f_X8_isLaw_L4 F w n v1 0 (v3 + 1) else (if pm_inb v3 6 = true then f_X8_isLaw_L4 F w n v1 (if x9.1 = (w.1 32 0 v3.toNatClampNeg) then 1 else 0 : Int32) (v3 + 1) else none))))
def f_X8_isLaw (F : Nat) (w : pm_W) (a1 : Int32) : Option (Int32) := ((f_X8_isLaw_L4 F w F a1 1 0).bind fun x14 => (if pm_isb x14.1 = true then some x14.1 else none))
set_option maxRecDepth 20000 in
set_option maxHeartbeats 4000000 in
theorem a_X8_isLaw_L12 (F : Nat) (d : Nat) (hd : 2 ≤ d) (Q : pm_Q) (w : pm_W) : ∀ (n : Nat) (v1 : Int32) (v2 : Int32) (v3 : Int32) (v4 : Int32) (v5 : Int32) (x : Int32 × Int32), f_X8_isLaw_L12 F w n v1 v2 v3 v4 v5 = some x → pm_Gx (RT d) co_X8_isLaw 36 [some (.inr (.inr (19, 0))), some (.inl v1), some (.inl v2), some (.inl v3), some (.inl x.1), some (.inl x.2)] [] w Q → pm_Gx (RT d) co_X8_isLaw 12 [some (.inr (.inr (19, 0))), some (.inl v1), some (.inl v2), some (.inl v3), some (.inl v4), some (.inl v5)] [] w Q := by
  intro n
  induction n with
  | zero =>
    intro v1 v2 v3 v4 v5 x hf
    cases hf
  | succ n ih =>
    intro v1 v2 v3 v4 v5 x hf hk
    rw [f_X8_isLaw_L12] at hf
    refine pm_go (i2 := 14) (ls2 := [some (.inr (.inr (19, 0))), some (.inl v1), some (.inl v2), some (.inl v3), some (.inl v4), some (.inl v5)]) (st2 := [.inl 4, .inl v5]) (w2 := w) 2 (fun F h => h) ?_
    refine pm_if (P := 4 ≤ v5) (i2 := 36) (i3 := 15) (ls2 := [some (.inr (.inr (19, 0))), some (.inl v1), some (.inl v2), some (.inl v3), some (.inl v4), some (.inl v5)]) (st2 := []) (w2 := w) 1 (fun F h => h) (fun hc2 => ?_) (fun hc2 => ?_)
    · rw [if_pos hc2] at hf
      obtain rfl := Option.some.inj hf
      exact hk
    · rw [if_neg hc2] at hf
      obtain ⟨hs3, hf⟩ := pm_itn hf
      refine pm_go (i2 := 24) (ls2 := [some (.inr (.inr (19, 0))), some (.inl v1), some (.inl v2), some (.inl v3), some (.inl v4), some (.inl v5)]) (st2 := [.inl (3 - v5), .inl 10, .inl (w.1 31 0 v3.toNatClampNeg), .inl v4]) (w2 := w) 9 (fun F h => ⟨(pm_inb_in hs3), h⟩) ?_
      obtain ⟨r4, hr5, hf⟩ := Option.bind_eq_some_iff.mp hf
      refine pm_ca (y := 117) (as := [.inl 10, .inl (3 - v5)]) (r := some (.inl r4)) (w2 := w) (w1 := w) (t := [.inl (w.1 31 0 v3.toNatClampNeg), .inl v4]) (i2 := 25) (ls2 := [some (.inr (.inr (19, 0))), some (.inl v1), some (.inl v2), some (.inl v3), some (.inl v4), some (.inl v5)]) 1 (a_X8_power F w 10 (3 - v5) r4 d (by omega) hr5) (fun F h => h) ?_
      show pm_Gx (RT d) co_X8_isLaw 25 [some (.inr (.inr (19, 0))), some (.inl v1), some (.inl v2), some (.inl v3), some (.inl v4), some (.inl v5)] [.inl r4, .inl (w.1 31 0 v3.toNatClampNeg), .inl v4] w Q
      obtain ⟨hs6, hf⟩ := pm_itn hf
      refine pm_go (i2 := 30) (ls2 := [some (.inr (.inr (19, 0))), some (.inl v1), some (.inl v2), some (.inl v3), some (.inl v4), some (.inl v5)]) (st2 := [.inl v5, .inl v1, .inl (((w.1 31 0 v3.toNatClampNeg) / r4) - ((w.1 31 0 v3.toNatClampNeg) / r4) / 10 * 10), .inl v4]) (w2 := w) 5 (fun F h => ⟨(pm_nz_ne hs6), (by decide), h⟩) ?_
      obtain ⟨r7, hr8, hf⟩ := Option.bind_eq_some_iff.mp hf
      refine pm_ca (y := 139) (as := [.inl v1, .inl v5]) (r := some (.inl r7)) (w2 := w) (w1 := w) (t := [.inl (((w.1 31 0 v3.toNatClampNeg) / r4) - ((w.1 31 0 v3.toNatClampNeg) / r4) / 10 * 10), .inl v4]) (i2 := 31) (ls2 := [some (.inr (.inr (19, 0))), some (.inl v1), some (.inl v2), some (.inl v3), some (.inl v4), some (.inl v5)]) 1 (a_X8_changeOf F w v1 v5 r7 d (by omega) hr8) (fun F h => h) ?_
      show pm_Gx (RT d) co_X8_isLaw 31 [some (.inr (.inr (19, 0))), some (.inl v1), some (.inl v2), some (.inl v3), some (.inl v4), some (.inl v5)] [.inl r7, .inl (((w.1 31 0 v3.toNatClampNeg) / r4) - ((w.1 31 0 v3.toNatClampNeg) / r4) / 10 * 10), .inl v4] w Q
      refine pm_go (i2 := 12) (ls2 := [some (.inr (.inr (19, 0))), some (.inl v1), some (.inl v2), some (.inl v3), some (.inl (v4 + ((((w.1 31 0 v3.toNatClampNeg) / r4) - ((w.1 31 0 v3.toNatClampNeg) / r4) / 10 * 10) * r7))), some (.inl (v5 + 1))]) (st2 := []) (w2 := w) 5 (fun F h => h) ?_
      exact ih v1 v2 v3 (v4 + ((((w.1 31 0 v3.toNatClampNeg) / r4) - ((w.1 31 0 v3.toNatClampNeg) / r4) / 10 * 10) * r7)) (v5 + 1) _ hf hk
set_option maxRecDepth 20000 in
set_option maxHeartbeats 4000000 in
theorem a_X8_isLaw_L4 (F : Nat) (d : Nat) (hd : 2 ≤ d) (Q : pm_Q) (w : pm_W) : ∀ (n : Nat) (v1 : Int32) (v2 : Int32) (v3 : Int32) (x : Int32 × Int32), f_X8_isLaw_L4 F w n v1 v2 v3 = some x → pm_Gx (RT d) co_X8_isLaw 50 [some (.inr (.inr (19, 0))), some (.inl v1), some (.inl x.1), some (.inl x.2), none, none] [] w Q → pm_Gx (RT d) co_X8_isLaw 4 [some (.inr (.inr (19, 0))), some (.inl v1), some (.inl v2), some (.inl v3), none, none] [] w Q := by
  intro n
  induction n with
  | zero =>
    intro v1 v2 v3 x hf
    cases hf
  | succ n ih =>
    intro v1 v2 v3 x hf hk
    rw [f_X8_isLaw_L4] at hf
    refine pm_go (i2 := 7) (ls2 := [some (.inr (.inr (19, 0))), some (.inl v1), some (.inl v2), some (.inl v3), none, none]) (st2 := [.inl (w.1 19 0 24), .inl v3]) (w2 := w) 3 (fun F h => h) ?_
    refine pm_if (P := (w.1 19 0 24) ≤ v3) (i2 := 50) (i3 := 8) (ls2 := [some (.inr (.inr (19, 0))), some (.inl v1), some (.inl v2), some (.inl v3), none, none]) (st2 := []) (w2 := w) 1 (fun F h => h) (fun hc1 => ?_) (fun hc1 => ?_)
    · rw [if_pos hc1] at hf
      obtain rfl := Option.some.inj hf
      exact hk
    · rw [if_neg hc1] at hf
      refine pm_go (i2 := 12) (ls2 := [some (.inr (.inr (19, 0))), some (.inl v1), some (.inl v2), some (.inl v3), some (.inl 0), some (.inl 0)]) (st2 := []) (w2 := w) 4 (fun F h => h) ?_
      obtain ⟨x9, hx10, hf⟩ := Option.bind_eq_some_iff.mp hf
      refine a_X8_isLaw_L12 F d hd Q w F v1 v2 v3 0 0 x9 hx10 ?_
      refine pm_go (i2 := 37) (ls2 := [some (.inr (.inr (19, 0))), some (.inl v1), some (.inl v2), some (.inl v3), some (.inl x9.1), some (.inl x9.2)]) (st2 := [.inl v2]) (w2 := w) 1 (fun F h => h) ?_
      refine pm_if (P := v2 = 0) (i2 := 46) (i3 := 38) (ls2 := [some (.inr (.inr (19, 0))), some (.inl v1), some (.inl v2), some (.inl v3), some (.inl x9.1), some (.inl x9.2)]) (st2 := []) (w2 := w) 1 (fun F h => h) (fun hc11 => ?_) (fun hc11 => ?_)
      · rw [if_pos hc11] at hf
        refine pm_go (i2 := 4) (ls2 := [some (.inr (.inr (19, 0))), some (.inl v1), some (.inl 0), some (.inl (v3 + 1)), some (.inl x9.1), some (.inl x9.2)]) (st2 := []) (w2 := w) 4 (fun F h => h) ?_
        refine pm_wk (ls := [some (.inr (.inr (19, 0))), some (.inl v1), some (.inl 0), some (.inl (v3 + 1)), none, none]) ⟨.inr rfl, .inr rfl, .inr rfl, .inr rfl, .inl rfl, .inl rfl, trivial⟩ ?_
        exact ih v1 0 (v3 + 1) _ hf hk
      · rw [if_neg hc11] at hf
        obtain ⟨hs12, hf⟩ := pm_itn hf
        refine pm_go (i2 := 43) (ls2 := [some (.inr (.inr (19, 0))), some (.inl v1), some (.inl v2), some (.inl v3), some (.inl x9.1), some (.inl x9.2)]) (st2 := [.inl (w.1 32 0 v3.toNatClampNeg), .inl x9.1]) (w2 := w) 5 (fun F h => ⟨(pm_inb_in hs12), h⟩) ?_
        have key : pm_Gx (RT d) co_X8_isLaw 47 [some (.inr (.inr (19, 0))), some (.inl v1), some (.inl v2), some (.inl v3), some (.inl x9.1), some (.inl x9.2)] [.inl (if x9.1 = (w.1 32 0 v3.toNatClampNeg) then 1 else 0 : Int32)] w Q := by
          refine pm_go (i2 := 4) (ls2 := [some (.inr (.inr (19, 0))), some (.inl v1), some (.inl (if x9.1 = (w.1 32 0 v3.toNatClampNeg) then 1 else 0 : Int32)), some (.inl (v3 + 1)), some (.inl x9.1), some (.inl x9.2)]) (st2 := []) (w2 := w) 3 (fun F h => h) ?_
          refine pm_wk (ls := [some (.inr (.inr (19, 0))), some (.inl v1), some (.inl (if x9.1 = (w.1 32 0 v3.toNatClampNeg) then 1 else 0 : Int32)), some (.inl (v3 + 1)), none, none]) ⟨.inr rfl, .inr rfl, .inr rfl, .inr rfl, .inl rfl, .inl rfl, trivial⟩ ?_
          exact ih v1 (if x9.1 = (w.1 32 0 v3.toNatClampNeg) then 1 else 0 : Int32) (v3 + 1) _ hf hk
        clear hf
        refine pm_if (P := x9.1 = (w.1 32 0 v3.toNatClampNeg)) (i2 := 44) (i3 := 46) (ls2 := [some (.inr (.inr (19, 0))), some (.inl v1), some (.inl v2), some (.inl v3), some (.inl x9.1), some (.inl x9.2)]) (st2 := []) (w2 := w) 1 (fun F h => h) (fun hc13 => ?_) (fun hc13 => ?_)
        · try simp only [if_pos hc13] at key
          refine pm_go (i2 := 47) (ls2 := [some (.inr (.inr (19, 0))), some (.inl v1), some (.inl v2), some (.inl v3), some (.inl x9.1), some (.inl x9.2)]) (st2 := [.inl 1]) (w2 := w) 2 (fun F h => h) ?_
          exact key
        · try simp only [if_neg hc13] at key
          refine pm_go (i2 := 47) (ls2 := [some (.inr (.inr (19, 0))), some (.inl v1), some (.inl v2), some (.inl v3), some (.inl x9.1), some (.inl x9.2)]) (st2 := [.inl 0]) (w2 := w) 1 (fun F h => h) ?_
          exact key
set_option maxRecDepth 20000 in
set_option maxHeartbeats 4000000 in
theorem b_X8_isLaw (F : Nat) (d : Nat) (hd : 2 ≤ d) (Q : pm_Q) (w : pm_W) (a1 : Int32) (x : Int32) (hf : f_X8_isLaw F w a1 = some x) (hq : Q (some (.inl x)) w) : pm_Gx (RT d) co_X8_isLaw 0 [some (.inr (.inr (19, 0))), some (.inl a1), none, none, none, none] [] w Q := by
  unfold f_X8_isLaw at hf
  refine pm_go (i2 := 4) (ls2 := [some (.inr (.inr (19, 0))), some (.inl a1), some (.inl 1), some (.inl 0), none, none]) (st2 := []) (w2 := w) 4 (fun F h => h) ?_
  obtain ⟨x14, hx15, hf⟩ := Option.bind_eq_some_iff.mp hf
  refine a_X8_isLaw_L4 F d hd Q w F a1 1 0 x14 hx15 ?_
  refine pm_go (i2 := 51) (ls2 := [some (.inr (.inr (19, 0))), some (.inl a1), some (.inl x14.1), some (.inl x14.2), none, none]) (st2 := [.inl x14.1]) (w2 := w) 1 (fun F h => h) ?_
  obtain ⟨hz16, hf⟩ := pm_itn hf
  obtain rfl := Option.some.inj hf
  exact pm_re (r := some (.inl x14.1)) (w2 := w) 1 (fun F h => ⟨pm_isb_nar hz16, h⟩) hq
set_option maxRecDepth 20000 in
set_option maxHeartbeats 4000000 in
theorem a_X8_isLaw (F : Nat) (w : pm_W) (a1 : Int32) (x : Int32) (d : Nat) (hd : 3 ≤ d) (hf : f_X8_isLaw F w a1 = some x) : RT d 140 [.inr (.inr (19, 0)), .inl a1] w (some (.inl x)) w := by
  obtain ⟨d, rfl, hd2⟩ := pm_dep hd
  exact pm_start (co := co_X8_isLaw) (nL := 6) (by decide) rfl rfl (Nat.le_of_ble_eq_true rfl) (b_X8_isLaw F d hd2 _ w a1 x hf ⟨rfl, rfl⟩)
def f_X8_laws_L31 (F : Nat) (w : pm_W) : Nat → Int32 → Int32 → Int32 → Int32 → Int32 → Int32 → Option (Int32 × Int32)
  | 0, _, _, _, _, _, _ => none
  | n + 1, v1, v2, v3, v4, v5, v6 => (if 4 ≤ v6 then some (v4, v6) else ((f_X8_changeOf F w v5 v6).bind fun r9 => ((f_X8_changeOf F w v3 v6).bind fun r11 => f_X8_laws_L31 F w n v1 v2 v3 (v4 &&& (if r9 = r11 then 15 else (1 <<< (v6 &&& 31)) ^^^ (-1) : Int32)) v5 (v6 + 1))))
def f_X8_laws_L16 (F : Nat) (w : pm_W) : Nat → Int32 → Int32 → Int32 → Int32 → Int32 → Option (Int32 × Int32 × Int32 × Int32)
  | 0, _, _, _, _, _ => none
  | n + 1, v1, v2, v3, v4, v5 => (if 256 ≤ v5 then some (v2, v3, v4, v5) else ((f_X8_isLaw F w v5).bind fun r5 => (if r5 = 0 then f_X8_laws_L16 F w n v1 v2 v3 v4 (v5 + 1) else ((f_X8_laws_L31 F w F v1 v2 (if v2 = 0 then v5 else v3 : Int32) v4 v5 0).bind fun x14 => f_X8_laws_L16 F w n v1 (v2 + 1) (if v2 = 0 then v5 else v3 : Int32) x14.1 (v5 + 1)))))
def f_X8_laws_L60 (F : Nat) (w : pm_W) : Nat → Int32 → Int32 → Int32 → Int32 → Int32 → Int32 → Option (Int32 × Int32)
  | 0, _, _, _, _, _, _ => none
  | n + 1, v1, v2, v3, v4, v5, v6 => (if 4 ≤ v6 then some (v5, v6) else ((f_X8_changeOf F w v3 v6).bind fun r20 => f_X8_laws_L60 F w n v1 v2 v3 v4 (((10 * v5) + r20) + 1) (v6 + 1)))
def f_X8_laws (F : Nat) (w : pm_W) (a1 : Int32) : Option (Int32) := ((f_X8_in F w a1.toInt64 0 2).bind fun r1 => (if r1 = 0 then some (-2) else ((f_X8_laws_L16 F w F a1 0 0 15 0).bind fun x17 => ((f_X8_laws_L60 F w F a1 x17.1 x17.2.1 x17.2.2.1 0 0).bind fun x22 => some (if a1 = 0 then x17.1 else (if x17.1 = 0 then (-9) else (if a1 = 1 then x22.1 else x17.2.2.1 : Int32) : Int32) : Int32)))))
set_option maxRecDepth 20000 in
set_option maxHeartbeats 4000000 in
theorem a_X8_laws_L31 (F : Nat) (d : Nat) (hd : 3 ≤ d) (Q : pm_Q) (w : pm_W) : ∀ (n : Nat) (v1 : Int32) (v2 : Int32) (v3 : Int32) (v4 : Int32) (v5 : Int32) (v6 : Int32) (x : Int32 × Int32), f_X8_laws_L31 F w n v1 v2 v3 v4 v5 v6 = some x → pm_Gx (RT d) co_X8_laws 53 [some (.inr (.inr (19, 0))), some (.inl v1), some (.inl v2), some (.inl v3), some (.inl x.1), some (.inl v5), some (.inl x.2)] [] w Q → pm_Gx (RT d) co_X8_laws 31 [some (.inr (.inr (19, 0))), some (.inl v1), some (.inl v2), some (.inl v3), some (.inl v4), some (.inl v5), some (.inl v6)] [] w Q := by
  intro n
  induction n with
  | zero =>
    intro v1 v2 v3 v4 v5 v6 x hf
    cases hf
  | succ n ih =>
    intro v1 v2 v3 v4 v5 v6 x hf hk
    rw [f_X8_laws_L31] at hf
    refine pm_go (i2 := 33) (ls2 := [some (.inr (.inr (19, 0))), some (.inl v1), some (.inl v2), some (.inl v3), some (.inl v4), some (.inl v5), some (.inl v6)]) (st2 := [.inl 4, .inl v6]) (w2 := w) 2 (fun F h => h) ?_
    refine pm_if (P := 4 ≤ v6) (i2 := 53) (i3 := 34) (ls2 := [some (.inr (.inr (19, 0))), some (.inl v1), some (.inl v2), some (.inl v3), some (.inl v4), some (.inl v5), some (.inl v6)]) (st2 := []) (w2 := w) 1 (fun F h => h) (fun hc8 => ?_) (fun hc8 => ?_)
    · rw [if_pos hc8] at hf
      obtain rfl := Option.some.inj hf
      exact hk
    · rw [if_neg hc8] at hf
      refine pm_go (i2 := 37) (ls2 := [some (.inr (.inr (19, 0))), some (.inl v1), some (.inl v2), some (.inl v3), some (.inl v4), some (.inl v5), some (.inl v6)]) (st2 := [.inl v6, .inl v5, .inl v4]) (w2 := w) 3 (fun F h => h) ?_
      obtain ⟨r9, hr10, hf⟩ := Option.bind_eq_some_iff.mp hf
      refine pm_ca (y := 139) (as := [.inl v5, .inl v6]) (r := some (.inl r9)) (w2 := w) (w1 := w) (t := [.inl v4]) (i2 := 38) (ls2 := [some (.inr (.inr (19, 0))), some (.inl v1), some (.inl v2), some (.inl v3), some (.inl v4), some (.inl v5), some (.inl v6)]) 1 (a_X8_changeOf F w v5 v6 r9 d (by omega) hr10) (fun F h => h) ?_
      show pm_Gx (RT d) co_X8_laws 38 [some (.inr (.inr (19, 0))), some (.inl v1), some (.inl v2), some (.inl v3), some (.inl v4), some (.inl v5), some (.inl v6)] [.inl r9, .inl v4] w Q
      refine pm_go (i2 := 40) (ls2 := [some (.inr (.inr (19, 0))), some (.inl v1), some (.inl v2), some (.inl v3), some (.inl v4), some (.inl v5), some (.inl v6)]) (st2 := [.inl v6, .inl v3, .inl r9, .inl v4]) (w2 := w) 2 (fun F h => h) ?_
      obtain ⟨r11, hr12, hf⟩ := Option.bind_eq_some_iff.mp hf
      refine pm_ca (y := 139) (as := [.inl v3, .inl v6]) (r := some (.inl r11)) (w2 := w) (w1 := w) (t := [.inl r9, .inl v4]) (i2 := 41) (ls2 := [some (.inr (.inr (19, 0))), some (.inl v1), some (.inl v2), some (.inl v3), some (.inl v4), some (.inl v5), some (.inl v6)]) 1 (a_X8_changeOf F w v3 v6 r11 d (by omega) hr12) (fun F h => h) ?_
      show pm_Gx (RT d) co_X8_laws 41 [some (.inr (.inr (19, 0))), some (.inl v1), some (.inl v2), some (.inl v3), some (.inl v4), some (.inl v5), some (.inl v6)] [.inl r11, .inl r9, .inl v4] w Q
      have key : pm_Gx (RT d) co_X8_laws 49 [some (.inr (.inr (19, 0))), some (.inl v1), some (.inl v2), some (.inl v3), some (.inl v4), some (.inl v5), some (.inl v6)] [.inl (if r9 = r11 then 15 else (1 <<< (v6 &&& 31)) ^^^ (-1) : Int32), .inl v4] w Q := by
        refine pm_go (i2 := 31) (ls2 := [some (.inr (.inr (19, 0))), some (.inl v1), some (.inl v2), some (.inl v3), some (.inl (v4 &&& (if r9 = r11 then 15 else (1 <<< (v6 &&& 31)) ^^^ (-1) : Int32))), some (.inl v5), some (.inl (v6 + 1))]) (st2 := []) (w2 := w) 4 (fun F h => h) ?_
        exact ih v1 v2 v3 (v4 &&& (if r9 = r11 then 15 else (1 <<< (v6 &&& 31)) ^^^ (-1) : Int32)) v5 (v6 + 1) _ hf hk
      clear hf
      refine pm_if (P := r9 = r11) (i2 := 42) (i3 := 44) (ls2 := [some (.inr (.inr (19, 0))), some (.inl v1), some (.inl v2), some (.inl v3), some (.inl v4), some (.inl v5), some (.inl v6)]) (st2 := [.inl v4]) (w2 := w) 1 (fun F h => h) (fun hc13 => ?_) (fun hc13 => ?_)
      · try simp only [if_pos hc13] at key
        refine pm_go (i2 := 49) (ls2 := [some (.inr (.inr (19, 0))), some (.inl v1), some (.inl v2), some (.inl v3), some (.inl v4), some (.inl v5), some (.inl v6)]) (st2 := [.inl 15, .inl v4]) (w2 := w) 2 (fun F h => h) ?_
        exact key
      · try simp only [if_neg hc13] at key
        refine pm_go (i2 := 49) (ls2 := [some (.inr (.inr (19, 0))), some (.inl v1), some (.inl v2), some (.inl v3), some (.inl v4), some (.inl v5), some (.inl v6)]) (st2 := [.inl ((1 <<< (v6 &&& 31)) ^^^ (-1)), .inl v4]) (w2 := w) 5 (fun F h => h) ?_
        exact key
set_option maxRecDepth 20000 in
set_option maxHeartbeats 4000000 in
theorem a_X8_laws_L16 (F : Nat) (d : Nat) (hd : 3 ≤ d) (Q : pm_Q) (w : pm_W) : ∀ (n : Nat) (v1 : Int32) (v2 : Int32) (v3 : Int32) (v4 : Int32) (v5 : Int32) (x : Int32 × Int32 × Int32 × Int32), f_X8_laws_L16 F w n v1 v2 v3 v4 v5 = some x → pm_Gx (RT d) co_X8_laws 56 [some (.inr (.inr (19, 0))), some (.inl v1), some (.inl x.1), some (.inl x.2.1), some (.inl x.2.2.1), some (.inl x.2.2.2), none] [] w Q → pm_Gx (RT d) co_X8_laws 16 [some (.inr (.inr (19, 0))), some (.inl v1), some (.inl v2), some (.inl v3), some (.inl v4), some (.inl v5), none] [] w Q := by
  intro n
  induction n with
  | zero =>
    intro v1 v2 v3 v4 v5 x hf
    cases hf
  | succ n ih =>
    intro v1 v2 v3 v4 v5 x hf hk
    rw [f_X8_laws_L16] at hf
    refine pm_go (i2 := 18) (ls2 := [some (.inr (.inr (19, 0))), some (.inl v1), some (.inl v2), some (.inl v3), some (.inl v4), some (.inl v5), none]) (st2 := [.inl 256, .inl v5]) (w2 := w) 2 (fun F h => h) ?_
    refine pm_if (P := 256 ≤ v5) (i2 := 56) (i3 := 19) (ls2 := [some (.inr (.inr (19, 0))), some (.inl v1), some (.inl v2), some (.inl v3), some (.inl v4), some (.inl v5), none]) (st2 := []) (w2 := w) 1 (fun F h => h) (fun hc4 => ?_) (fun hc4 => ?_)
    · rw [if_pos hc4] at hf
      obtain rfl := Option.some.inj hf
      exact hk
    · rw [if_neg hc4] at hf
      refine pm_go (i2 := 21) (ls2 := [some (.inr (.inr (19, 0))), some (.inl v1), some (.inl v2), some (.inl v3), some (.inl v4), some (.inl v5), none]) (st2 := [.inl v5, .inr (.inr (19, 0))]) (w2 := w) 2 (fun F h => h) ?_
      obtain ⟨r5, hr6, hf⟩ := Option.bind_eq_some_iff.mp hf
      refine pm_ca (y := 140) (as := [.inr (.inr (19, 0)), .inl v5]) (r := some (.inl r5)) (w2 := w) (w1 := w) (t := []) (i2 := 22) (ls2 := [some (.inr (.inr (19, 0))), some (.inl v1), some (.inl v2), some (.inl v3), some (.inl v4), some (.inl v5), none]) 1 (a_X8_isLaw F w v5 r5 d (by omega) hr6) (fun F h => h) ?_
      show pm_Gx (RT d) co_X8_laws 22 [some (.inr (.inr (19, 0))), some (.inl v1), some (.inl v2), some (.inl v3), some (.inl v4), some (.inl v5), none] [.inl r5] w Q
      refine pm_if (P := r5 = 0) (i2 := 54) (i3 := 23) (ls2 := [some (.inr (.inr (19, 0))), some (.inl v1), some (.inl v2), some (.inl v3), some (.inl v4), some (.inl v5), none]) (st2 := []) (w2 := w) 1 (fun F h => h) (fun hc7 => ?_) (fun hc7 => ?_)
      · rw [if_pos hc7] at hf
        refine pm_go (i2 := 16) (ls2 := [some (.inr (.inr (19, 0))), some (.inl v1), some (.inl v2), some (.inl v3), some (.inl v4), some (.inl (v5 + 1)), none]) (st2 := []) (w2 := w) 2 (fun F h => h) ?_
        exact ih v1 v2 v3 v4 (v5 + 1) _ hf hk
      · rw [if_neg hc7] at hf
        refine pm_go (i2 := 24) (ls2 := [some (.inr (.inr (19, 0))), some (.inl v1), some (.inl v2), some (.inl v3), some (.inl v4), some (.inl v5), none]) (st2 := [.inl v2]) (w2 := w) 1 (fun F h => h) ?_
        have key : pm_Gx (RT d) co_X8_laws 28 [some (.inr (.inr (19, 0))), some (.inl v1), some (.inl v2), some (.inl v3), some (.inl v4), some (.inl v5), none] [.inl (if v2 = 0 then v5 else v3 : Int32)] w Q := by
          refine pm_go (i2 := 31) (ls2 := [some (.inr (.inr (19, 0))), some (.inl v1), some (.inl v2), some (.inl (if v2 = 0 then v5 else v3 : Int32)), some (.inl v4), some (.inl v5), some (.inl 0)]) (st2 := []) (w2 := w) 3 (fun F h => h) ?_
          obtain ⟨x14, hx15, hf⟩ := Option.bind_eq_some_iff.mp hf
          refine a_X8_laws_L31 F d hd Q w F v1 v2 (if v2 = 0 then v5 else v3 : Int32) v4 v5 0 x14 hx15 ?_
          refine pm_go (i2 := 16) (ls2 := [some (.inr (.inr (19, 0))), some (.inl v1), some (.inl (v2 + 1)), some (.inl (if v2 = 0 then v5 else v3 : Int32)), some (.inl x14.1), some (.inl (v5 + 1)), some (.inl x14.2)]) (st2 := []) (w2 := w) 3 (fun F h => h) ?_
          refine pm_wk (ls := [some (.inr (.inr (19, 0))), some (.inl v1), some (.inl (v2 + 1)), some (.inl (if v2 = 0 then v5 else v3 : Int32)), some (.inl x14.1), some (.inl (v5 + 1)), none]) ⟨.inr rfl, .inr rfl, .inr rfl, .inr rfl, .inr rfl, .inr rfl, .inl rfl, trivial⟩ ?_
          exact ih v1 (v2 + 1) (if v2 = 0 then v5 else v3 : Int32) x14.1 (v5 + 1) _ hf hk
        clear hf
        refine pm_if (P := v2 = 0) (i2 := 25) (i3 := 27) (ls2 := [some (.inr (.inr (19, 0))), some (.inl v1), some (.inl v2), some (.inl v3), some (.inl v4), some (.inl v5), none]) (st2 := []) (w2 := w) 1 (fun F h => h) (fun hc16 => ?_) (fun hc16 => ?_)
        · try simp only [if_pos hc16] at key
          refine pm_go (i2 := 28) (ls2 := [some (.inr (.inr (19, 0))), some (.inl v1), some (.inl v2), some (.inl v3), some (.inl v4), some (.inl v5), none]) (st2 := [.inl v5]) (w2 := w) 2 (fun F h => h) ?_
          exact key
        · try simp only [if_neg hc16] at key
          refine pm_go (i2 := 28) (ls2 := [some (.inr (.inr (19, 0))), some (.inl v1), some (.inl v2), some (.inl v3), some (.inl v4), some (.inl v5), none]) (st2 := [.inl v3]) (w2 := w) 1 (fun F h => h) ?_
          exact key
set_option maxRecDepth 20000 in
set_option maxHeartbeats 4000000 in
theorem a_X8_laws_L60 (F : Nat) (d : Nat) (hd : 3 ≤ d) (Q : pm_Q) (w : pm_W) : ∀ (n : Nat) (v1 : Int32) (v2 : Int32) (v3 : Int32) (v4 : Int32) (v5 : Int32) (v6 : Int32) (x : Int32 × Int32), f_X8_laws_L60 F w n v1 v2 v3 v4 v5 v6 = some x → pm_Gx (RT d) co_X8_laws 75 [some (.inr (.inr (19, 0))), some (.inl v1), some (.inl v2), some (.inl v3), some (.inl v4), some (.inl x.1), some (.inl x.2)] [] w Q → pm_Gx (RT d) co_X8_laws 60 [some (.inr (.inr (19, 0))), some (.inl v1), some (.inl v2), some (.inl v3), some (.inl v4), some (.inl v5), some (.inl v6)] [] w Q := by
  intro n
  induction n with
  | zero =>
    intro v1 v2 v3 v4 v5 v6 x hf
    cases hf
  | succ n ih =>
    intro v1 v2 v3 v4 v5 v6 x hf hk
    rw [f_X8_laws_L60] at hf
    refine pm_go (i2 := 62) (ls2 := [some (.inr (.inr (19, 0))), some (.inl v1), some (.inl v2), some (.inl v3), some (.inl v4), some (.inl v5), some (.inl v6)]) (st2 := [.inl 4, .inl v6]) (w2 := w) 2 (fun F h => h) ?_
    refine pm_if (P := 4 ≤ v6) (i2 := 75) (i3 := 63) (ls2 := [some (.inr (.inr (19, 0))), some (.inl v1), some (.inl v2), some (.inl v3), some (.inl v4), some (.inl v5), some (.inl v6)]) (st2 := []) (w2 := w) 1 (fun F h => h) (fun hc19 => ?_) (fun hc19 => ?_)
    · rw [if_pos hc19] at hf
      obtain rfl := Option.some.inj hf
      exact hk
    · rw [if_neg hc19] at hf
      refine pm_go (i2 := 68) (ls2 := [some (.inr (.inr (19, 0))), some (.inl v1), some (.inl v2), some (.inl v3), some (.inl v4), some (.inl v5), some (.inl v6)]) (st2 := [.inl v6, .inl v3, .inl (10 * v5)]) (w2 := w) 5 (fun F h => h) ?_
      obtain ⟨r20, hr21, hf⟩ := Option.bind_eq_some_iff.mp hf
      refine pm_ca (y := 139) (as := [.inl v3, .inl v6]) (r := some (.inl r20)) (w2 := w) (w1 := w) (t := [.inl (10 * v5)]) (i2 := 69) (ls2 := [some (.inr (.inr (19, 0))), some (.inl v1), some (.inl v2), some (.inl v3), some (.inl v4), some (.inl v5), some (.inl v6)]) 1 (a_X8_changeOf F w v3 v6 r20 d (by omega) hr21) (fun F h => h) ?_
      show pm_Gx (RT d) co_X8_laws 69 [some (.inr (.inr (19, 0))), some (.inl v1), some (.inl v2), some (.inl v3), some (.inl v4), some (.inl v5), some (.inl v6)] [.inl r20, .inl (10 * v5)] w Q
      refine pm_go (i2 := 60) (ls2 := [some (.inr (.inr (19, 0))), some (.inl v1), some (.inl v2), some (.inl v3), some (.inl v4), some (.inl (((10 * v5) + r20) + 1)), some (.inl (v6 + 1))]) (st2 := []) (w2 := w) 6 (fun F h => h) ?_
      exact ih v1 v2 v3 v4 (((10 * v5) + r20) + 1) (v6 + 1) _ hf hk
set_option maxRecDepth 20000 in
set_option maxHeartbeats 4000000 in
theorem b_X8_laws (F : Nat) (d : Nat) (hd : 3 ≤ d) (Q : pm_Q) (w : pm_W) (a1 : Int32) (x : Int32) (hf : f_X8_laws F w a1 = some x) (hq : Q (some (.inl x)) w) : pm_Gx (RT d) co_X8_laws 0 [some (.inr (.inr (19, 0))), some (.inl a1), none, none, none, none, none] [] w Q := by
  unfold f_X8_laws at hf
  refine pm_go (i2 := 4) (ls2 := [some (.inr (.inr (19, 0))), some (.inl a1), none, none, none, none, none]) (st2 := [.inr (.inl 2), .inr (.inl 0), .inr (.inl a1.toInt64)]) (w2 := w) 4 (fun F h => h) ?_
  obtain ⟨r1, hr2, hf⟩ := Option.bind_eq_some_iff.mp hf
  refine pm_ca (y := 88) (as := [.inr (.inl a1.toInt64), .inr (.inl 0), .inr (.inl 2)]) (r := some (.inl r1)) (w2 := w) (w1 := w) (t := []) (i2 := 5) (ls2 := [some (.inr (.inr (19, 0))), some (.inl a1), none, none, none, none, none]) 1 (a_X8_in F w a1.toInt64 0 2 r1 d (by omega) hr2) (fun F h => h) ?_
  show pm_Gx (RT d) co_X8_laws 5 [some (.inr (.inr (19, 0))), some (.inl a1), none, none, none, none, none] [.inl r1] w Q
  refine pm_if (P := r1 = 0) (i2 := 6) (i3 := 8) (ls2 := [some (.inr (.inr (19, 0))), some (.inl a1), none, none, none, none, none]) (st2 := []) (w2 := w) 1 (fun F h => h) (fun hc3 => ?_) (fun hc3 => ?_)
  · rw [if_pos hc3] at hf
    refine pm_go (i2 := 7) (ls2 := [some (.inr (.inr (19, 0))), some (.inl a1), none, none, none, none, none]) (st2 := [.inl (-2)]) (w2 := w) 1 (fun F h => h) ?_
    obtain rfl := Option.some.inj hf
    exact pm_re (r := some (.inl (-2))) (w2 := w) 1 (fun F h => h) hq
  · rw [if_neg hc3] at hf
    refine pm_go (i2 := 16) (ls2 := [some (.inr (.inr (19, 0))), some (.inl a1), some (.inl 0), some (.inl 0), some (.inl 15), some (.inl 0), none]) (st2 := []) (w2 := w) 8 (fun F h => h) ?_
    obtain ⟨x17, hx18, hf⟩ := Option.bind_eq_some_iff.mp hf
    refine a_X8_laws_L16 F d hd Q w F a1 0 0 15 0 x17 hx18 ?_
    refine pm_go (i2 := 60) (ls2 := [some (.inr (.inr (19, 0))), some (.inl a1), some (.inl x17.1), some (.inl x17.2.1), some (.inl x17.2.2.1), some (.inl 0), some (.inl 0)]) (st2 := []) (w2 := w) 4 (fun F h => h) ?_
    obtain ⟨x22, hx23, hf⟩ := Option.bind_eq_some_iff.mp hf
    refine a_X8_laws_L60 F d hd Q w F a1 x17.1 x17.2.1 x17.2.2.1 0 0 x22 hx23 ?_
    refine pm_go (i2 := 76) (ls2 := [some (.inr (.inr (19, 0))), some (.inl a1), some (.inl x17.1), some (.inl x17.2.1), some (.inl x17.2.2.1), some (.inl x22.1), some (.inl x22.2)]) (st2 := [.inl a1]) (w2 := w) 1 (fun F h => h) ?_
    have key : pm_Gx (RT d) co_X8_laws 89 [some (.inr (.inr (19, 0))), some (.inl a1), some (.inl x17.1), some (.inl x17.2.1), some (.inl x17.2.2.1), some (.inl x22.1), some (.inl x22.2)] [.inl (if a1 = 0 then x17.1 else (if x17.1 = 0 then (-9) else (if a1 = 1 then x22.1 else x17.2.2.1 : Int32) : Int32) : Int32)] w Q := by
      obtain rfl := Option.some.inj hf
      exact pm_re (r := some (.inl (if a1 = 0 then x17.1 else (if x17.1 = 0 then (-9) else (if a1 = 1 then x22.1 else x17.2.2.1 : Int32) : Int32) : Int32))) (w2 := w) 1 (fun F h => h) hq
    clear hf
    refine pm_if (P := a1 = 0) (i2 := 77) (i3 := 79) (ls2 := [some (.inr (.inr (19, 0))), some (.inl a1), some (.inl x17.1), some (.inl x17.2.1), some (.inl x17.2.2.1), some (.inl x22.1), some (.inl x22.2)]) (st2 := []) (w2 := w) 1 (fun F h => h) (fun hc24 => ?_) (fun hc24 => ?_)
    · try simp only [if_pos hc24] at key
      refine pm_go (i2 := 89) (ls2 := [some (.inr (.inr (19, 0))), some (.inl a1), some (.inl x17.1), some (.inl x17.2.1), some (.inl x17.2.2.1), some (.inl x22.1), some (.inl x22.2)]) (st2 := [.inl x17.1]) (w2 := w) 2 (fun F h => h) ?_
      exact key
    · try simp only [if_neg hc24] at key
      refine pm_go (i2 := 80) (ls2 := [some (.inr (.inr (19, 0))), some (.inl a1), some (.inl x17.1), some (.inl x17.2.1), some (.inl x17.2.2.1), some (.inl x22.1), some (.inl x22.2)]) (st2 := [.inl x17.1]) (w2 := w) 1 (fun F h => h) ?_
      refine pm_if (P := x17.1 = 0) (i2 := 81) (i3 := 83) (ls2 := [some (.inr (.inr (19, 0))), some (.inl a1), some (.inl x17.1), some (.inl x17.2.1), some (.inl x17.2.2.1), some (.inl x22.1), some (.inl x22.2)]) (st2 := []) (w2 := w) 1 (fun F h => h) (fun hc25 => ?_) (fun hc25 => ?_)
      · try simp only [if_pos hc25] at key
        refine pm_go (i2 := 89) (ls2 := [some (.inr (.inr (19, 0))), some (.inl a1), some (.inl x17.1), some (.inl x17.2.1), some (.inl x17.2.2.1), some (.inl x22.1), some (.inl x22.2)]) (st2 := [.inl (-9)]) (w2 := w) 2 (fun F h => h) ?_
        exact key
      · try simp only [if_neg hc25] at key
        refine pm_go (i2 := 85) (ls2 := [some (.inr (.inr (19, 0))), some (.inl a1), some (.inl x17.1), some (.inl x17.2.1), some (.inl x17.2.2.1), some (.inl x22.1), some (.inl x22.2)]) (st2 := [.inl 1, .inl a1]) (w2 := w) 2 (fun F h => h) ?_
        refine pm_if (P := a1 = 1) (i2 := 86) (i3 := 88) (ls2 := [some (.inr (.inr (19, 0))), some (.inl a1), some (.inl x17.1), some (.inl x17.2.1), some (.inl x17.2.2.1), some (.inl x22.1), some (.inl x22.2)]) (st2 := []) (w2 := w) 1 (fun F h => h) (fun hc26 => ?_) (fun hc26 => ?_)
        · try simp only [if_pos hc26] at key
          refine pm_go (i2 := 89) (ls2 := [some (.inr (.inr (19, 0))), some (.inl a1), some (.inl x17.1), some (.inl x17.2.1), some (.inl x17.2.2.1), some (.inl x22.1), some (.inl x22.2)]) (st2 := [.inl x22.1]) (w2 := w) 2 (fun F h => h) ?_
          exact key
        · try simp only [if_neg hc26] at key
          refine pm_go (i2 := 89) (ls2 := [some (.inr (.inr (19, 0))), some (.inl a1), some (.inl x17.1), some (.inl x17.2.1), some (.inl x17.2.2.1), some (.inl x22.1), some (.inl x22.2)]) (st2 := [.inl x17.2.2.1]) (w2 := w) 1 (fun F h => h) ?_
          exact key
set_option maxRecDepth 20000 in
set_option maxHeartbeats 4000000 in
theorem a_X8_laws (F : Nat) (w : pm_W) (a1 : Int32) (x : Int32) (d : Nat) (hd : 4 ≤ d) (hf : f_X8_laws F w a1 = some x) : RT d 141 [.inr (.inr (19, 0)), .inl a1] w (some (.inl x)) w := by
  obtain ⟨d, rfl, hd2⟩ := pm_dep hd
  exact pm_start (co := co_X8_laws) (nL := 7) (by decide) rfl rfl (Nat.le_of_ble_eq_true rfl) (b_X8_laws F d hd2 _ w a1 x hf ⟨rfl, rfl⟩)
def f_X8_lengthBy_L4 (F : Nat) : Nat → pm_W → Int32 → Int32 → Int32 → Option ((Int32 × pm_W) ⊕ (Int32 × pm_W))
  | 0, _, _, _, _ => none
  | n + 1, w, v1, v2, v3 => (if v2 ≤ v3 then some (.inl (v3, w)) else ((f_X8_figureOf F w v1 v2 v3).bind fun r4 => (if (r4 - 1) < 0 then f_X8_lengthBy_L4 F n w v1 v2 (v3 + 1) else ((f_X8_isGuest F w (r4 - 1)).bind fun r7 => (if r7 = 0 then some (.inr (0, w)) else ((f_X8_canSay F w 1 (r4 - 1)).bind fun r10 => (if r10 = 0 then some (.inr (0, w)) else ((f_X8_sayOn F w 1 (r4 - 1)).bind fun r13 => f_X8_lengthBy_L4 F n r13 v1 v2 (v3 + 1)))))))))
def f_X8_lengthBy (F : Nat) (w : pm_W) (a1 : Int32) (a2 : Int32) : Option ((Int32 × pm_W)) := ((f_X8_layTrial F w).bind fun r1 => ((f_X8_lengthBy_L4 F F r1 a1 a2 0).bind fun x15 => Sum.elim (fun ex15 => some (ex15.2.1 23 0 14, ex15.2)) (fun rx15 => some rx15) x15))
set_option maxRecDepth 20000 in
set_option maxHeartbeats 4000000 in
theorem a_X8_lengthBy_L4 (F : Nat) (d : Nat) (hd : 2 ≤ d) (Q : pm_Q) : ∀ (n : Nat) (w : pm_W) (v1 : Int32) (v2 : Int32) (v3 : Int32) (x : (Int32 × pm_W) ⊕ (Int32 × pm_W)), f_X8_lengthBy_L4 F n w v1 v2 v3 = some x → (∀ e, x = .inl e → pm_Gx (RT d) co_X8_lengthBy 33 [some (.inr (.inr (19, 0))), some (.inl v1), some (.inl v2), some (.inl e.1), none] [] e.2 Q) → (∀ r, x = .inr r → Q (some (.inl r.1)) r.2) → pm_Gx (RT d) co_X8_lengthBy 4 [some (.inr (.inr (19, 0))), some (.inl v1), some (.inl v2), some (.inl v3), none] [] w Q := by
  intro n
  induction n with
  | zero =>
    intro w v1 v2 v3 x hf
    cases hf
  | succ n ih =>
    intro w v1 v2 v3 x hf hk hq
    rw [f_X8_lengthBy_L4] at hf
    refine pm_go (i2 := 6) (ls2 := [some (.inr (.inr (19, 0))), some (.inl v1), some (.inl v2), some (.inl v3), none]) (st2 := [.inl v2, .inl v3]) (w2 := w) 2 (fun F h => h) ?_
    refine pm_if (P := v2 ≤ v3) (i2 := 33) (i3 := 7) (ls2 := [some (.inr (.inr (19, 0))), some (.inl v1), some (.inl v2), some (.inl v3), none]) (st2 := []) (w2 := w) 1 (fun F h => h) (fun hc3 => ?_) (fun hc3 => ?_)
    · rw [if_pos hc3] at hf
      obtain rfl := Option.some.inj hf
      exact hk _ rfl
    · rw [if_neg hc3] at hf
      refine pm_go (i2 := 10) (ls2 := [some (.inr (.inr (19, 0))), some (.inl v1), some (.inl v2), some (.inl v3), none]) (st2 := [.inl v3, .inl v2, .inl v1]) (w2 := w) 3 (fun F h => h) ?_
      obtain ⟨r4, hr5, hf⟩ := Option.bind_eq_some_iff.mp hf
      refine pm_ca (y := 118) (as := [.inl v1, .inl v2, .inl v3]) (r := some (.inl r4)) (w2 := w) (w1 := w) (t := []) (i2 := 11) (ls2 := [some (.inr (.inr (19, 0))), some (.inl v1), some (.inl v2), some (.inl v3), none]) 1 (a_X8_figureOf F w v1 v2 v3 r4 d (by omega) hr5) (fun F h => h) ?_
      show pm_Gx (RT d) co_X8_lengthBy 11 [some (.inr (.inr (19, 0))), some (.inl v1), some (.inl v2), some (.inl v3), none] [.inl r4] w Q
      refine pm_go (i2 := 15) (ls2 := [some (.inr (.inr (19, 0))), some (.inl v1), some (.inl v2), some (.inl v3), some (.inl (r4 - 1))]) (st2 := [.inl (r4 - 1)]) (w2 := w) 4 (fun F h => h) ?_
      refine pm_if (P := (r4 - 1) < 0) (i2 := 31) (i3 := 16) (ls2 := [some (.inr (.inr (19, 0))), some (.inl v1), some (.inl v2), some (.inl v3), some (.inl (r4 - 1))]) (st2 := []) (w2 := w) 1 (fun F h => h) (fun hc6 => ?_) (fun hc6 => ?_)
      · rw [if_pos hc6] at hf
        refine pm_go (i2 := 4) (ls2 := [some (.inr (.inr (19, 0))), some (.inl v1), some (.inl v2), some (.inl (v3 + 1)), some (.inl (r4 - 1))]) (st2 := []) (w2 := w) 2 (fun F h => h) ?_
        refine pm_wk (ls := [some (.inr (.inr (19, 0))), some (.inl v1), some (.inl v2), some (.inl (v3 + 1)), none]) ⟨.inr rfl, .inr rfl, .inr rfl, .inr rfl, .inl rfl, trivial⟩ ?_
        exact ih w v1 v2 (v3 + 1) _ hf hk hq
      · rw [if_neg hc6] at hf
        refine pm_go (i2 := 18) (ls2 := [some (.inr (.inr (19, 0))), some (.inl v1), some (.inl v2), some (.inl v3), some (.inl (r4 - 1))]) (st2 := [.inl (r4 - 1), .inr (.inr (19, 0))]) (w2 := w) 2 (fun F h => h) ?_
        obtain ⟨r7, hr8, hf⟩ := Option.bind_eq_some_iff.mp hf
        refine pm_ca (y := 101) (as := [.inr (.inr (19, 0)), .inl (r4 - 1)]) (r := some (.inl r7)) (w2 := w) (w1 := w) (t := []) (i2 := 19) (ls2 := [some (.inr (.inr (19, 0))), some (.inl v1), some (.inl v2), some (.inl v3), some (.inl (r4 - 1))]) 1 (a_X8_isGuest F w (r4 - 1) r7 d (by omega) hr8) (fun F h => h) ?_
        show pm_Gx (RT d) co_X8_lengthBy 19 [some (.inr (.inr (19, 0))), some (.inl v1), some (.inl v2), some (.inl v3), some (.inl (r4 - 1))] [.inl r7] w Q
        refine pm_if (P := r7 = 0) (i2 := 25) (i3 := 20) (ls2 := [some (.inr (.inr (19, 0))), some (.inl v1), some (.inl v2), some (.inl v3), some (.inl (r4 - 1))]) (st2 := []) (w2 := w) 1 (fun F h => h) (fun hc9 => ?_) (fun hc9 => ?_)
        · rw [if_pos hc9] at hf
          refine pm_go (i2 := 26) (ls2 := [some (.inr (.inr (19, 0))), some (.inl v1), some (.inl v2), some (.inl v3), some (.inl (r4 - 1))]) (st2 := [.inl 0]) (w2 := w) 1 (fun F h => h) ?_
          obtain rfl := Option.some.inj hf
          exact pm_re (r := some (.inl 0)) (w2 := w) 1 (fun F h => h) (hq _ rfl)
        · rw [if_neg hc9] at hf
          refine pm_go (i2 := 23) (ls2 := [some (.inr (.inr (19, 0))), some (.inl v1), some (.inl v2), some (.inl v3), some (.inl (r4 - 1))]) (st2 := [.inl (r4 - 1), .inl 1, .inr (.inr (19, 0))]) (w2 := w) 3 (fun F h => h) ?_
          obtain ⟨r10, hr11, hf⟩ := Option.bind_eq_some_iff.mp hf
          refine pm_ca (y := 107) (as := [.inr (.inr (19, 0)), .inl 1, .inl (r4 - 1)]) (r := some (.inl r10)) (w2 := w) (w1 := w) (t := []) (i2 := 24) (ls2 := [some (.inr (.inr (19, 0))), some (.inl v1), some (.inl v2), some (.inl v3), some (.inl (r4 - 1))]) 1 (a_X8_canSay F w 1 (r4 - 1) r10 d (by omega) hr11) (fun F h => h) ?_
          show pm_Gx (RT d) co_X8_lengthBy 24 [some (.inr (.inr (19, 0))), some (.inl v1), some (.inl v2), some (.inl v3), some (.inl (r4 - 1))] [.inl r10] w Q
          refine pm_if (P := r10 = 0) (i2 := 25) (i3 := 27) (ls2 := [some (.inr (.inr (19, 0))), some (.inl v1), some (.inl v2), some (.inl v3), some (.inl (r4 - 1))]) (st2 := []) (w2 := w) 1 (fun F h => h) (fun hc12 => ?_) (fun hc12 => ?_)
          · rw [if_pos hc12] at hf
            refine pm_go (i2 := 26) (ls2 := [some (.inr (.inr (19, 0))), some (.inl v1), some (.inl v2), some (.inl v3), some (.inl (r4 - 1))]) (st2 := [.inl 0]) (w2 := w) 1 (fun F h => h) ?_
            obtain rfl := Option.some.inj hf
            exact pm_re (r := some (.inl 0)) (w2 := w) 1 (fun F h => h) (hq _ rfl)
          · rw [if_neg hc12] at hf
            refine pm_go (i2 := 30) (ls2 := [some (.inr (.inr (19, 0))), some (.inl v1), some (.inl v2), some (.inl v3), some (.inl (r4 - 1))]) (st2 := [.inl (r4 - 1), .inl 1, .inr (.inr (19, 0))]) (w2 := w) 3 (fun F h => h) ?_
            obtain ⟨r13, hr14, hf⟩ := Option.bind_eq_some_iff.mp hf
            refine pm_ca (y := 108) (as := [.inr (.inr (19, 0)), .inl 1, .inl (r4 - 1)]) (r := none) (w2 := w) (w1 := r13) (t := []) (i2 := 31) (ls2 := [some (.inr (.inr (19, 0))), some (.inl v1), some (.inl v2), some (.inl v3), some (.inl (r4 - 1))]) 1 (a_X8_sayOn F w 1 (r4 - 1) r13 d (by omega) hr14) (fun F h => h) ?_
            show pm_Gx (RT d) co_X8_lengthBy 31 [some (.inr (.inr (19, 0))), some (.inl v1), some (.inl v2), some (.inl v3), some (.inl (r4 - 1))] [] r13 Q
            refine pm_go (i2 := 4) (ls2 := [some (.inr (.inr (19, 0))), some (.inl v1), some (.inl v2), some (.inl (v3 + 1)), some (.inl (r4 - 1))]) (st2 := []) (w2 := r13) 2 (fun F h => h) ?_
            refine pm_wk (ls := [some (.inr (.inr (19, 0))), some (.inl v1), some (.inl v2), some (.inl (v3 + 1)), none]) ⟨.inr rfl, .inr rfl, .inr rfl, .inr rfl, .inl rfl, trivial⟩ ?_
            exact ih r13 v1 v2 (v3 + 1) _ hf hk hq
set_option maxRecDepth 20000 in
set_option maxHeartbeats 4000000 in
theorem b_X8_lengthBy (F : Nat) (d : Nat) (hd : 2 ≤ d) (Q : pm_Q) (w : pm_W) (a1 : Int32) (a2 : Int32) (x : (Int32 × pm_W)) (hf : f_X8_lengthBy F w a1 a2 = some x) (hq : Q (some (.inl x.1)) x.2) : pm_Gx (RT d) co_X8_lengthBy 0 [some (.inr (.inr (19, 0))), some (.inl a1), some (.inl a2), none, none] [] w Q := by
  unfold f_X8_lengthBy at hf
  refine pm_go (i2 := 1) (ls2 := [some (.inr (.inr (19, 0))), some (.inl a1), some (.inl a2), none, none]) (st2 := [.inr (.inr (19, 0))]) (w2 := w) 1 (fun F h => h) ?_
  obtain ⟨r1, hr2, hf⟩ := Option.bind_eq_some_iff.mp hf
  refine pm_ca (y := 116) (as := [.inr (.inr (19, 0))]) (r := none) (w2 := w) (w1 := r1) (t := []) (i2 := 2) (ls2 := [some (.inr (.inr (19, 0))), some (.inl a1), some (.inl a2), none, none]) 1 (a_X8_layTrial F w r1 d (by omega) hr2) (fun F h => h) ?_
  show pm_Gx (RT d) co_X8_lengthBy 2 [some (.inr (.inr (19, 0))), some (.inl a1), some (.inl a2), none, none] [] r1 Q
  refine pm_go (i2 := 4) (ls2 := [some (.inr (.inr (19, 0))), some (.inl a1), some (.inl a2), some (.inl 0), none]) (st2 := []) (w2 := r1) 2 (fun F h => h) ?_
  obtain ⟨x15, hx16, hf⟩ := Option.bind_eq_some_iff.mp hf
  refine a_X8_lengthBy_L4 F d hd Q F r1 a1 a2 0 x15 hx16 (fun ex15 hx15 => ?_) (fun rx15 hx15 => ?_)
  · subst hx15
    change _ = _ at hf
    refine pm_go (i2 := 37) (ls2 := [some (.inr (.inr (19, 0))), some (.inl a1), some (.inl a2), some (.inl ex15.1), none]) (st2 := [.inl (ex15.2.1 23 0 14)]) (w2 := ex15.2) 4 (fun F h => ⟨(pm_inb_in (by decide)), h⟩) ?_
    obtain rfl := Option.some.inj hf
    exact pm_re (r := some (.inl (ex15.2.1 23 0 14))) (w2 := ex15.2) 1 (fun F h => h) hq
  · subst hx15
    obtain rfl := Option.some.inj (show some rx15 = some x from hf)
    exact hq
set_option maxRecDepth 20000 in
set_option maxHeartbeats 4000000 in
theorem a_X8_lengthBy (F : Nat) (w : pm_W) (a1 : Int32) (a2 : Int32) (x : (Int32 × pm_W)) (d : Nat) (hd : 3 ≤ d) (hf : f_X8_lengthBy F w a1 a2 = some x) : RT d 142 [.inr (.inr (19, 0)), .inl a1, .inl a2] w (some (.inl x.1)) x.2 := by
  obtain ⟨d, rfl, hd2⟩ := pm_dep hd
  exact pm_start (co := co_X8_lengthBy) (nL := 5) (by decide) rfl rfl (Nat.le_of_ble_eq_true rfl) (b_X8_lengthBy F d hd2 _ w a1 a2 x hf ⟨rfl, rfl⟩)
def f_X8_choice_L4 (F : Nat) (w : pm_W) : Nat → Int32 → Int32 → Int32 → Int32 → Option (Int32 × Int32)
  | 0, _, _, _, _ => none
  | n + 1, v1, v2, v3, v4 => (if 6 ≤ v4 then some (v3, v4) else (if pm_inb (v1 + v4) 1296 = true then (if (w.1 33 0 ((v1 + v4).toNatClampNeg)) ≤ 0 then f_X8_choice_L4 F w n v1 v2 v3 (v4 + 1) else (if v3 = (-9) then f_X8_choice_L4 F w n v1 v2 v4 (v4 + 1) else (if v2 = 0 then (if pm_inb (v1 + v3) 1296 = true then f_X8_choice_L4 F w n v1 v2 (if (if (w.1 33 0 ((v1 + v3).toNatClampNeg)) ≤ (w.1 33 0 ((v1 + v4).toNatClampNeg)) then 0 else 1 : Int32) = 0 then v3 else v4 : Int32) (v4 + 1) else none) else (if pm_inb (v1 + v3) 1296 = true then f_X8_choice_L4 F w n v1 v2 (if (if (w.1 33 0 ((v1 + v4).toNatClampNeg)) ≤ (w.1 33 0 ((v1 + v3).toNatClampNeg)) then 0 else 1 : Int32) = 0 then v3 else v4 : Int32) (v4 + 1) else none)))) else none))
def f_X8_choice (F : Nat) (w : pm_W) (a1 : Int32) (a2 : Int32) : Option (Int32) := ((f_X8_choice_L4 F w F a1 a2 (-9) 0).bind fun x12 => some x12.1)
set_option maxRecDepth 20000 in
set_option maxHeartbeats 4000000 in
theorem a_X8_choice_L4 (F : Nat) (d : Nat) (hd : 0 ≤ d) (Q : pm_Q) (w : pm_W) : ∀ (n : Nat) (v1 : Int32) (v2 : Int32) (v3 : Int32) (v4 : Int32) (x : Int32 × Int32), f_X8_choice_L4 F w n v1 v2 v3 v4 = some x → pm_Gx (RT d) co_X8_choice 50 [some (.inr (.inr (19, 0))), some (.inl v1), some (.inl v2), some (.inl x.1), some (.inl x.2), none, none] [] w Q → pm_Gx (RT d) co_X8_choice 4 [some (.inr (.inr (19, 0))), some (.inl v1), some (.inl v2), some (.inl v3), some (.inl v4), none, none] [] w Q := by
  intro n
  induction n with
  | zero =>
    intro v1 v2 v3 v4 x hf
    cases hf
  | succ n ih =>
    intro v1 v2 v3 v4 x hf hk
    rw [f_X8_choice_L4] at hf
    refine pm_go (i2 := 6) (ls2 := [some (.inr (.inr (19, 0))), some (.inl v1), some (.inl v2), some (.inl v3), some (.inl v4), none, none]) (st2 := [.inl 6, .inl v4]) (w2 := w) 2 (fun F h => h) ?_
    refine pm_if (P := 6 ≤ v4) (i2 := 50) (i3 := 7) (ls2 := [some (.inr (.inr (19, 0))), some (.inl v1), some (.inl v2), some (.inl v3), some (.inl v4), none, none]) (st2 := []) (w2 := w) 1 (fun F h => h) (fun hc1 => ?_) (fun hc1 => ?_)
    · rw [if_pos hc1] at hf
      obtain rfl := Option.some.inj hf
      exact hk
    · rw [if_neg hc1] at hf
      obtain ⟨hs2, hf⟩ := pm_itn hf
      refine pm_go (i2 := 15) (ls2 := [some (.inr (.inr (19, 0))), some (.inl v1), some (.inl v2), some (.inl v3), some (.inl v4), some (.inl (w.1 33 0 ((v1 + v4).toNatClampNeg))), none]) (st2 := [.inl (w.1 33 0 ((v1 + v4).toNatClampNeg))]) (w2 := w) 8 (fun F h => ⟨(pm_inb_in hs2), h⟩) ?_
      refine pm_if (P := (w.1 33 0 ((v1 + v4).toNatClampNeg)) ≤ 0) (i2 := 40) (i3 := 16) (ls2 := [some (.inr (.inr (19, 0))), some (.inl v1), some (.inl v2), some (.inl v3), some (.inl v4), some (.inl (w.1 33 0 ((v1 + v4).toNatClampNeg))), none]) (st2 := []) (w2 := w) 1 (fun F h => h) (fun hc3 => ?_) (fun hc3 => ?_)
      · rw [if_pos hc3] at hf
        refine pm_go (i2 := 43) (ls2 := [some (.inr (.inr (19, 0))), some (.inl v1), some (.inl v2), some (.inl v3), some (.inl v4), some (.inl (w.1 33 0 ((v1 + v4).toNatClampNeg))), some (.inl 0)]) (st2 := [.inl 0]) (w2 := w) 3 (fun F h => h) ?_
        refine pm_ift (P := (0 : Int32) = 0) (i2 := 46) (i3 := 44) (ls2 := [some (.inr (.inr (19, 0))), some (.inl v1), some (.inl v2), some (.inl v3), some (.inl v4), some (.inl (w.1 33 0 ((v1 + v4).toNatClampNeg))), some (.inl 0)]) (st2 := []) (w2 := w) 1 (fun F h => h) (by decide) ?_
        refine pm_go (i2 := 4) (ls2 := [some (.inr (.inr (19, 0))), some (.inl v1), some (.inl v2), some (.inl v3), some (.inl (v4 + 1)), some (.inl (w.1 33 0 ((v1 + v4).toNatClampNeg))), some (.inl 0)]) (st2 := []) (w2 := w) 4 (fun F h => h) ?_
        refine pm_wk (ls := [some (.inr (.inr (19, 0))), some (.inl v1), some (.inl v2), some (.inl v3), some (.inl (v4 + 1)), none, none]) ⟨.inr rfl, .inr rfl, .inr rfl, .inr rfl, .inr rfl, .inl rfl, .inl rfl, trivial⟩ ?_
        exact ih v1 v2 v3 (v4 + 1) _ hf hk
      · rw [if_neg hc3] at hf
        refine pm_go (i2 := 18) (ls2 := [some (.inr (.inr (19, 0))), some (.inl v1), some (.inl v2), some (.inl v3), some (.inl v4), some (.inl (w.1 33 0 ((v1 + v4).toNatClampNeg))), none]) (st2 := [.inl (-9), .inl v3]) (w2 := w) 2 (fun F h => h) ?_
        refine pm_if (P := v3 = (-9)) (i2 := 38) (i3 := 19) (ls2 := [some (.inr (.inr (19, 0))), some (.inl v1), some (.inl v2), some (.inl v3), some (.inl v4), some (.inl (w.1 33 0 ((v1 + v4).toNatClampNeg))), none]) (st2 := []) (w2 := w) 1 (fun F h => h) (fun hc4 => ?_) (fun hc4 => ?_)
        · rw [if_pos hc4] at hf
          refine pm_go (i2 := 43) (ls2 := [some (.inr (.inr (19, 0))), some (.inl v1), some (.inl v2), some (.inl v3), some (.inl v4), some (.inl (w.1 33 0 ((v1 + v4).toNatClampNeg))), some (.inl 1)]) (st2 := [.inl 1]) (w2 := w) 4 (fun F h => h) ?_
          refine pm_iff (P := (1 : Int32) = 0) (i2 := 46) (i3 := 44) (ls2 := [some (.inr (.inr (19, 0))), some (.inl v1), some (.inl v2), some (.inl v3), some (.inl v4), some (.inl (w.1 33 0 ((v1 + v4).toNatClampNeg))), some (.inl 1)]) (st2 := []) (w2 := w) 1 (fun F h => h) (by decide) ?_
          refine pm_go (i2 := 4) (ls2 := [some (.inr (.inr (19, 0))), some (.inl v1), some (.inl v2), some (.inl v4), some (.inl (v4 + 1)), some (.inl (w.1 33 0 ((v1 + v4).toNatClampNeg))), some (.inl 1)]) (st2 := []) (w2 := w) 5 (fun F h => h) ?_
          refine pm_wk (ls := [some (.inr (.inr (19, 0))), some (.inl v1), some (.inl v2), some (.inl v4), some (.inl (v4 + 1)), none, none]) ⟨.inr rfl, .inr rfl, .inr rfl, .inr rfl, .inr rfl, .inl rfl, .inl rfl, trivial⟩ ?_
          exact ih v1 v2 v4 (v4 + 1) _ hf hk
        · rw [if_neg hc4] at hf
          refine pm_go (i2 := 20) (ls2 := [some (.inr (.inr (19, 0))), some (.inl v1), some (.inl v2), some (.inl v3), some (.inl v4), some (.inl (w.1 33 0 ((v1 + v4).toNatClampNeg))), none]) (st2 := [.inl v2]) (w2 := w) 1 (fun F h => h) ?_
          refine pm_if (P := v2 = 0) (i2 := 30) (i3 := 21) (ls2 := [some (.inr (.inr (19, 0))), some (.inl v1), some (.inl v2), some (.inl v3), some (.inl v4), some (.inl (w.1 33 0 ((v1 + v4).toNatClampNeg))), none]) (st2 := []) (w2 := w) 1 (fun F h => h) (fun hc5 => ?_) (fun hc5 => ?_)
          · rw [if_pos hc5] at hf
            obtain ⟨hs6, hf⟩ := pm_itn hf
            refine pm_go (i2 := 37) (ls2 := [some (.inr (.inr (19, 0))), some (.inl v1), some (.inl v2), some (.inl v3), some (.inl v4), some (.inl (w.1 33 0 ((v1 + v4).toNatClampNeg))), none]) (st2 := [.inl (w.1 33 0 ((v1 + v3).toNatClampNeg)), .inl (w.1 33 0 ((v1 + v4).toNatClampNeg))]) (w2 := w) 7 (fun F h => ⟨(pm_inb_in hs6), h⟩) ?_
            have key : pm_Gx (RT d) co_X8_choice 41 [some (.inr (.inr (19, 0))), some (.inl v1), some (.inl v2), some (.inl v3), some (.inl v4), some (.inl (w.1 33 0 ((v1 + v4).toNatClampNeg))), none] [.inl (if (w.1 33 0 ((v1 + v3).toNatClampNeg)) ≤ (w.1 33 0 ((v1 + v4).toNatClampNeg)) then 0 else 1 : Int32)] w Q := by
              refine pm_go (i2 := 43) (ls2 := [some (.inr (.inr (19, 0))), some (.inl v1), some (.inl v2), some (.inl v3), some (.inl v4), some (.inl (w.1 33 0 ((v1 + v4).toNatClampNeg))), some (.inl (if (w.1 33 0 ((v1 + v3).toNatClampNeg)) ≤ (w.1 33 0 ((v1 + v4).toNatClampNeg)) then 0 else 1 : Int32))]) (st2 := [.inl (if (w.1 33 0 ((v1 + v3).toNatClampNeg)) ≤ (w.1 33 0 ((v1 + v4).toNatClampNeg)) then 0 else 1 : Int32)]) (w2 := w) 2 (fun F h => h) ?_
              have key : pm_Gx (RT d) co_X8_choice 47 [some (.inr (.inr (19, 0))), some (.inl v1), some (.inl v2), some (.inl v3), some (.inl v4), some (.inl (w.1 33 0 ((v1 + v4).toNatClampNeg))), some (.inl (if (w.1 33 0 ((v1 + v3).toNatClampNeg)) ≤ (w.1 33 0 ((v1 + v4).toNatClampNeg)) then 0 else 1 : Int32))] [.inl (if (if (w.1 33 0 ((v1 + v3).toNatClampNeg)) ≤ (w.1 33 0 ((v1 + v4).toNatClampNeg)) then 0 else 1 : Int32) = 0 then v3 else v4 : Int32)] w Q := by
                refine pm_go (i2 := 4) (ls2 := [some (.inr (.inr (19, 0))), some (.inl v1), some (.inl v2), some (.inl (if (if (w.1 33 0 ((v1 + v3).toNatClampNeg)) ≤ (w.1 33 0 ((v1 + v4).toNatClampNeg)) then 0 else 1 : Int32) = 0 then v3 else v4 : Int32)), some (.inl (v4 + 1)), some (.inl (w.1 33 0 ((v1 + v4).toNatClampNeg))), some (.inl (if (w.1 33 0 ((v1 + v3).toNatClampNeg)) ≤ (w.1 33 0 ((v1 + v4).toNatClampNeg)) then 0 else 1 : Int32))]) (st2 := []) (w2 := w) 3 (fun F h => h) ?_
                refine pm_wk (ls := [some (.inr (.inr (19, 0))), some (.inl v1), some (.inl v2), some (.inl (if (if (w.1 33 0 ((v1 + v3).toNatClampNeg)) ≤ (w.1 33 0 ((v1 + v4).toNatClampNeg)) then 0 else 1 : Int32) = 0 then v3 else v4 : Int32)), some (.inl (v4 + 1)), none, none]) ⟨.inr rfl, .inr rfl, .inr rfl, .inr rfl, .inr rfl, .inl rfl, .inl rfl, trivial⟩ ?_
                exact ih v1 v2 (if (if (w.1 33 0 ((v1 + v3).toNatClampNeg)) ≤ (w.1 33 0 ((v1 + v4).toNatClampNeg)) then 0 else 1 : Int32) = 0 then v3 else v4 : Int32) (v4 + 1) _ hf hk
              clear hf
              refine pm_if (P := (if (w.1 33 0 ((v1 + v3).toNatClampNeg)) ≤ (w.1 33 0 ((v1 + v4).toNatClampNeg)) then 0 else 1 : Int32) = 0) (i2 := 46) (i3 := 44) (ls2 := [some (.inr (.inr (19, 0))), some (.inl v1), some (.inl v2), some (.inl v3), some (.inl v4), some (.inl (w.1 33 0 ((v1 + v4).toNatClampNeg))), some (.inl (if (w.1 33 0 ((v1 + v3).toNatClampNeg)) ≤ (w.1 33 0 ((v1 + v4).toNatClampNeg)) then 0 else 1 : Int32))]) (st2 := []) (w2 := w) 1 (fun F h => h) (fun hc7 => ?_) (fun hc7 => ?_)
              · try simp only [if_pos hc7] at key
                refine pm_go (i2 := 47) (ls2 := [some (.inr (.inr (19, 0))), some (.inl v1), some (.inl v2), some (.inl v3), some (.inl v4), some (.inl (w.1 33 0 ((v1 + v4).toNatClampNeg))), some (.inl (if (w.1 33 0 ((v1 + v3).toNatClampNeg)) ≤ (w.1 33 0 ((v1 + v4).toNatClampNeg)) then 0 else 1 : Int32))]) (st2 := [.inl v3]) (w2 := w) 1 (fun F h => h) ?_
                exact key
              · try simp only [if_neg hc7] at key
                refine pm_go (i2 := 47) (ls2 := [some (.inr (.inr (19, 0))), some (.inl v1), some (.inl v2), some (.inl v3), some (.inl v4), some (.inl (w.1 33 0 ((v1 + v4).toNatClampNeg))), some (.inl (if (w.1 33 0 ((v1 + v3).toNatClampNeg)) ≤ (w.1 33 0 ((v1 + v4).toNatClampNeg)) then 0 else 1 : Int32))]) (st2 := [.inl v4]) (w2 := w) 2 (fun F h => h) ?_
                exact key
            clear hf
            refine pm_if (P := (w.1 33 0 ((v1 + v3).toNatClampNeg)) ≤ (w.1 33 0 ((v1 + v4).toNatClampNeg))) (i2 := 40) (i3 := 38) (ls2 := [some (.inr (.inr (19, 0))), some (.inl v1), some (.inl v2), some (.inl v3), some (.inl v4), some (.inl (w.1 33 0 ((v1 + v4).toNatClampNeg))), none]) (st2 := []) (w2 := w) 1 (fun F h => h) (fun hc8 => ?_) (fun hc8 => ?_)
            · try simp only [if_pos hc8] at key
              refine pm_go (i2 := 41) (ls2 := [some (.inr (.inr (19, 0))), some (.inl v1), some (.inl v2), some (.inl v3), some (.inl v4), some (.inl (w.1 33 0 ((v1 + v4).toNatClampNeg))), none]) (st2 := [.inl 0]) (w2 := w) 1 (fun F h => h) ?_
              exact key
            · try simp only [if_neg hc8] at key
              refine pm_go (i2 := 41) (ls2 := [some (.inr (.inr (19, 0))), some (.inl v1), some (.inl v2), some (.inl v3), some (.inl v4), some (.inl (w.1 33 0 ((v1 + v4).toNatClampNeg))), none]) (st2 := [.inl 1]) (w2 := w) 2 (fun F h => h) ?_
              exact key
          · rw [if_neg hc5] at hf
            obtain ⟨hs9, hf⟩ := pm_itn hf
            refine pm_go (i2 := 28) (ls2 := [some (.inr (.inr (19, 0))), some (.inl v1), some (.inl v2), some (.inl v3), some (.inl v4), some (.inl (w.1 33 0 ((v1 + v4).toNatClampNeg))), none]) (st2 := [.inl (w.1 33 0 ((v1 + v3).toNatClampNeg)), .inl (w.1 33 0 ((v1 + v4).toNatClampNeg))]) (w2 := w) 7 (fun F h => ⟨(pm_inb_in hs9), h⟩) ?_
            have key : pm_Gx (RT d) co_X8_choice 41 [some (.inr (.inr (19, 0))), some (.inl v1), some (.inl v2), some (.inl v3), some (.inl v4), some (.inl (w.1 33 0 ((v1 + v4).toNatClampNeg))), none] [.inl (if (w.1 33 0 ((v1 + v4).toNatClampNeg)) ≤ (w.1 33 0 ((v1 + v3).toNatClampNeg)) then 0 else 1 : Int32)] w Q := by
              refine pm_go (i2 := 43) (ls2 := [some (.inr (.inr (19, 0))), some (.inl v1), some (.inl v2), some (.inl v3), some (.inl v4), some (.inl (w.1 33 0 ((v1 + v4).toNatClampNeg))), some (.inl (if (w.1 33 0 ((v1 + v4).toNatClampNeg)) ≤ (w.1 33 0 ((v1 + v3).toNatClampNeg)) then 0 else 1 : Int32))]) (st2 := [.inl (if (w.1 33 0 ((v1 + v4).toNatClampNeg)) ≤ (w.1 33 0 ((v1 + v3).toNatClampNeg)) then 0 else 1 : Int32)]) (w2 := w) 2 (fun F h => h) ?_
              have key : pm_Gx (RT d) co_X8_choice 47 [some (.inr (.inr (19, 0))), some (.inl v1), some (.inl v2), some (.inl v3), some (.inl v4), some (.inl (w.1 33 0 ((v1 + v4).toNatClampNeg))), some (.inl (if (w.1 33 0 ((v1 + v4).toNatClampNeg)) ≤ (w.1 33 0 ((v1 + v3).toNatClampNeg)) then 0 else 1 : Int32))] [.inl (if (if (w.1 33 0 ((v1 + v4).toNatClampNeg)) ≤ (w.1 33 0 ((v1 + v3).toNatClampNeg)) then 0 else 1 : Int32) = 0 then v3 else v4 : Int32)] w Q := by
                refine pm_go (i2 := 4) (ls2 := [some (.inr (.inr (19, 0))), some (.inl v1), some (.inl v2), some (.inl (if (if (w.1 33 0 ((v1 + v4).toNatClampNeg)) ≤ (w.1 33 0 ((v1 + v3).toNatClampNeg)) then 0 else 1 : Int32) = 0 then v3 else v4 : Int32)), some (.inl (v4 + 1)), some (.inl (w.1 33 0 ((v1 + v4).toNatClampNeg))), some (.inl (if (w.1 33 0 ((v1 + v4).toNatClampNeg)) ≤ (w.1 33 0 ((v1 + v3).toNatClampNeg)) then 0 else 1 : Int32))]) (st2 := []) (w2 := w) 3 (fun F h => h) ?_
                refine pm_wk (ls := [some (.inr (.inr (19, 0))), some (.inl v1), some (.inl v2), some (.inl (if (if (w.1 33 0 ((v1 + v4).toNatClampNeg)) ≤ (w.1 33 0 ((v1 + v3).toNatClampNeg)) then 0 else 1 : Int32) = 0 then v3 else v4 : Int32)), some (.inl (v4 + 1)), none, none]) ⟨.inr rfl, .inr rfl, .inr rfl, .inr rfl, .inr rfl, .inl rfl, .inl rfl, trivial⟩ ?_
                exact ih v1 v2 (if (if (w.1 33 0 ((v1 + v4).toNatClampNeg)) ≤ (w.1 33 0 ((v1 + v3).toNatClampNeg)) then 0 else 1 : Int32) = 0 then v3 else v4 : Int32) (v4 + 1) _ hf hk
              clear hf
              refine pm_if (P := (if (w.1 33 0 ((v1 + v4).toNatClampNeg)) ≤ (w.1 33 0 ((v1 + v3).toNatClampNeg)) then 0 else 1 : Int32) = 0) (i2 := 46) (i3 := 44) (ls2 := [some (.inr (.inr (19, 0))), some (.inl v1), some (.inl v2), some (.inl v3), some (.inl v4), some (.inl (w.1 33 0 ((v1 + v4).toNatClampNeg))), some (.inl (if (w.1 33 0 ((v1 + v4).toNatClampNeg)) ≤ (w.1 33 0 ((v1 + v3).toNatClampNeg)) then 0 else 1 : Int32))]) (st2 := []) (w2 := w) 1 (fun F h => h) (fun hc10 => ?_) (fun hc10 => ?_)
              · try simp only [if_pos hc10] at key
                refine pm_go (i2 := 47) (ls2 := [some (.inr (.inr (19, 0))), some (.inl v1), some (.inl v2), some (.inl v3), some (.inl v4), some (.inl (w.1 33 0 ((v1 + v4).toNatClampNeg))), some (.inl (if (w.1 33 0 ((v1 + v4).toNatClampNeg)) ≤ (w.1 33 0 ((v1 + v3).toNatClampNeg)) then 0 else 1 : Int32))]) (st2 := [.inl v3]) (w2 := w) 1 (fun F h => h) ?_
                exact key
              · try simp only [if_neg hc10] at key
                refine pm_go (i2 := 47) (ls2 := [some (.inr (.inr (19, 0))), some (.inl v1), some (.inl v2), some (.inl v3), some (.inl v4), some (.inl (w.1 33 0 ((v1 + v4).toNatClampNeg))), some (.inl (if (w.1 33 0 ((v1 + v4).toNatClampNeg)) ≤ (w.1 33 0 ((v1 + v3).toNatClampNeg)) then 0 else 1 : Int32))]) (st2 := [.inl v4]) (w2 := w) 2 (fun F h => h) ?_
                exact key
            clear hf
            refine pm_if (P := (w.1 33 0 ((v1 + v4).toNatClampNeg)) ≤ (w.1 33 0 ((v1 + v3).toNatClampNeg))) (i2 := 40) (i3 := 29) (ls2 := [some (.inr (.inr (19, 0))), some (.inl v1), some (.inl v2), some (.inl v3), some (.inl v4), some (.inl (w.1 33 0 ((v1 + v4).toNatClampNeg))), none]) (st2 := []) (w2 := w) 1 (fun F h => h) (fun hc11 => ?_) (fun hc11 => ?_)
            · try simp only [if_pos hc11] at key
              refine pm_go (i2 := 41) (ls2 := [some (.inr (.inr (19, 0))), some (.inl v1), some (.inl v2), some (.inl v3), some (.inl v4), some (.inl (w.1 33 0 ((v1 + v4).toNatClampNeg))), none]) (st2 := [.inl 0]) (w2 := w) 1 (fun F h => h) ?_
              exact key
            · try simp only [if_neg hc11] at key
              refine pm_go (i2 := 41) (ls2 := [some (.inr (.inr (19, 0))), some (.inl v1), some (.inl v2), some (.inl v3), some (.inl v4), some (.inl (w.1 33 0 ((v1 + v4).toNatClampNeg))), none]) (st2 := [.inl 1]) (w2 := w) 3 (fun F h => h) ?_
              exact key
set_option maxRecDepth 20000 in
set_option maxHeartbeats 4000000 in
theorem b_X8_choice (F : Nat) (d : Nat) (hd : 0 ≤ d) (Q : pm_Q) (w : pm_W) (a1 : Int32) (a2 : Int32) (x : Int32) (hf : f_X8_choice F w a1 a2 = some x) (hq : Q (some (.inl x)) w) : pm_Gx (RT d) co_X8_choice 0 [some (.inr (.inr (19, 0))), some (.inl a1), some (.inl a2), none, none, none, none] [] w Q := by
  unfold f_X8_choice at hf
  refine pm_go (i2 := 4) (ls2 := [some (.inr (.inr (19, 0))), some (.inl a1), some (.inl a2), some (.inl (-9)), some (.inl 0), none, none]) (st2 := []) (w2 := w) 4 (fun F h => h) ?_
  obtain ⟨x12, hx13, hf⟩ := Option.bind_eq_some_iff.mp hf
  refine a_X8_choice_L4 F d hd Q w F a1 a2 (-9) 0 x12 hx13 ?_
  refine pm_go (i2 := 51) (ls2 := [some (.inr (.inr (19, 0))), some (.inl a1), some (.inl a2), some (.inl x12.1), some (.inl x12.2), none, none]) (st2 := [.inl x12.1]) (w2 := w) 1 (fun F h => h) ?_
  obtain rfl := Option.some.inj hf
  exact pm_re (r := some (.inl x12.1)) (w2 := w) 1 (fun F h => h) hq
set_option maxRecDepth 20000 in
set_option maxHeartbeats 4000000 in
theorem a_X8_choice (F : Nat) (w : pm_W) (a1 : Int32) (a2 : Int32) (x : Int32) (d : Nat) (hd : 1 ≤ d) (hf : f_X8_choice F w a1 a2 = some x) : RT d 143 [.inr (.inr (19, 0)), .inl a1, .inl a2] w (some (.inl x)) w := by
  obtain ⟨d, rfl, hd2⟩ := pm_dep hd
  exact pm_start (co := co_X8_choice) (nL := 7) (by decide) rfl rfl (Nat.le_of_ble_eq_true rfl) (b_X8_choice F d hd2 _ w a1 a2 x hf ⟨rfl, rfl⟩)
def f_X8_hosts_L10 (F : Nat) : Nat → pm_W → Int32 → Int32 → Int32 → Option (Int32 × pm_W)
  | 0, _, _, _, _ => none
  | n + 1, w, v1, v2, v3 => ((f_X8_power F w 6 v1).bind fun r4 => (if r4 ≤ v3 then some (v3, w) else ((f_X8_lengthBy F w v3 v1).bind fun r7 => (if pm_inb v3 1296 = true then (pm_wlet (pm_setI r7.2 33 0 v3.toNatClampNeg r7.1) fun w10 => f_X8_hosts_L10 F n w10 v1 v2 (v3 + 1)) else none))))
def f_X8_hosts_L35 (F : Nat) : Nat → pm_W → Int32 → Int32 → Int32 → Int32 → Int32 → Option (Int32 × Int32 × pm_W)
  | 0, _, _, _, _, _, _ => none
  | n + 1, w, v1, v2, v3, v4, v5 => ((f_X8_power F w 6 v4).bind fun r14 => (if r14 ≤ v5 then some (v3, v5, w) else ((f_X8_choice F w (6 * v5) (if (v4 - v4 / 2 * 2) = 0 then 1 else 0 : Int32)).bind fun r17 => (if r17 = (-9) then (if pm_inb v5 1296 = true then (pm_wlet (pm_setI w 33 0 v5.toNatClampNeg 0) fun w21 => f_X8_hosts_L35 F n w21 v1 v2 r17 v4 (v5 + 1)) else none) else (if pm_inb ((6 * v5) + r17) 1296 = true then (if pm_inb v5 1296 = true then (pm_wlet (pm_setI w 33 0 v5.toNatClampNeg (w.1 33 0 (((6 * v5) + r17).toNatClampNeg))) fun w24 => f_X8_hosts_L35 F n w24 v1 v2 r17 v4 (v5 + 1)) else none) else none)))))
def f_X8_hosts_L31 (F : Nat) : Nat → pm_W → Int32 → Int32 → Int32 → Int32 → Option (Int32 × Int32 × pm_W)
  | 0, _, _, _, _, _ => none
  | n + 1, w, v1, v2, v3, v4 => (if v4 < 0 then some (v3, v4, w) else ((f_X8_hosts_L35 F F w v1 v2 v3 v4 0).bind fun x26 => f_X8_hosts_L31 F n x26.2.2 v1 v2 x26.1 (v4 + (-1))))
def f_X8_hosts (F : Nat) (w : pm_W) (a1 : Int32) (a2 : Int32) : Option ((Int32 × pm_W)) := ((f_X8_in F w a1.toInt64 1 4).bind fun r1 => (if r1 = 0 then some ((-2), w) else ((f_X8_hosts_L10 F F w a1 a2 0).bind fun x11 => ((f_X8_hosts_L31 F F x11.2 a1 a2 0 (a1 - 1)).bind fun x28 => (if a2 = 0 then some (x28.2.2.1 33 0 0, x28.2.2) else some (x28.1, x28.2.2))))))
set_option maxRecDepth 20000 in
set_option maxHeartbeats 4000000 in
theorem a_X8_hosts_L10 (F : Nat) (d : Nat) (hd : 3 ≤ d) (Q : pm_Q) : ∀ (n : Nat) (w : pm_W) (v1 : Int32) (v2 : Int32) (v3 : Int32) (x : Int32 × pm_W), f_X8_hosts_L10 F n w v1 v2 v3 = some x → pm_Gx (RT d) co_X8_hosts 25 [some (.inr (.inr (19, 0))), some (.inl v1), some (.inl v2), some (.inl x.1), none, none, none] [] x.2 Q → pm_Gx (RT d) co_X8_hosts 10 [some (.inr (.inr (19, 0))), some (.inl v1), some (.inl v2), some (.inl v3), none, none, none] [] w Q := by
  intro n
  induction n with
  | zero =>
    intro w v1 v2 v3 x hf
    cases hf
  | succ n ih =>
    intro w v1 v2 v3 x hf hk
    rw [f_X8_hosts_L10] at hf
    refine pm_go (i2 := 13) (ls2 := [some (.inr (.inr (19, 0))), some (.inl v1), some (.inl v2), some (.inl v3), none, none, none]) (st2 := [.inl v1, .inl 6, .inl v3]) (w2 := w) 3 (fun F h => h) ?_
    obtain ⟨r4, hr5, hf⟩ := Option.bind_eq_some_iff.mp hf
    refine pm_ca (y := 117) (as := [.inl 6, .inl v1]) (r := some (.inl r4)) (w2 := w) (w1 := w) (t := [.inl v3]) (i2 := 14) (ls2 := [some (.inr (.inr (19, 0))), some (.inl v1), some (.inl v2), some (.inl v3), none, none, none]) 1 (a_X8_power F w 6 v1 r4 d (by omega) hr5) (fun F h => h) ?_
    show pm_Gx (RT d) co_X8_hosts 14 [some (.inr (.inr (19, 0))), some (.inl v1), some (.inl v2), some (.inl v3), none, none, none] [.inl r4, .inl v3] w Q
    refine pm_if (P := r4 ≤ v3) (i2 := 25) (i3 := 15) (ls2 := [some (.inr (.inr (19, 0))), some (.inl v1), some (.inl v2), some (.inl v3), none, none, none]) (st2 := []) (w2 := w) 1 (fun F h => h) (fun hc6 => ?_) (fun hc6 => ?_)
    · rw [if_pos hc6] at hf
      obtain rfl := Option.some.inj hf
      exact hk
    · rw [if_neg hc6] at hf
      refine pm_go (i2 := 21) (ls2 := [some (.inr (.inr (19, 0))), some (.inl v1), some (.inl v2), some (.inl v3), none, none, none]) (st2 := [.inl v1, .inl v3, .inr (.inr (19, 0)), .inl v3, .inr (.inr (33, 0))]) (w2 := w) 6 (fun F h => h) ?_
      obtain ⟨r7, hr8, hf⟩ := Option.bind_eq_some_iff.mp hf
      refine pm_ca (y := 142) (as := [.inr (.inr (19, 0)), .inl v3, .inl v1]) (r := some (.inl r7.1)) (w2 := w) (w1 := r7.2) (t := [.inl v3, .inr (.inr (33, 0))]) (i2 := 22) (ls2 := [some (.inr (.inr (19, 0))), some (.inl v1), some (.inl v2), some (.inl v3), none, none, none]) 1 (a_X8_lengthBy F w v3 v1 r7 d (by omega) hr8) (fun F h => h) ?_
      show pm_Gx (RT d) co_X8_hosts 22 [some (.inr (.inr (19, 0))), some (.inl v1), some (.inl v2), some (.inl v3), none, none, none] [.inl r7.1, .inl v3, .inr (.inr (33, 0))] r7.2 Q
      obtain ⟨hs9, hf⟩ := pm_itn hf
      refine pm_go (i2 := 23) (ls2 := [some (.inr (.inr (19, 0))), some (.inl v1), some (.inl v2), some (.inl v3), none, none, none]) (st2 := []) (w2 := (pm_setI r7.2 33 0 v3.toNatClampNeg r7.1)) 1 (fun F h => ⟨(pm_inb_in hs9), h⟩) ?_
      generalize (pm_setI r7.2 33 0 v3.toNatClampNeg r7.1) = w10 at hf ⊢
      replace hf := pm_wlet_un hf
      refine pm_go (i2 := 10) (ls2 := [some (.inr (.inr (19, 0))), some (.inl v1), some (.inl v2), some (.inl (v3 + 1)), none, none, none]) (st2 := []) (w2 := w10) 2 (fun F h => h) ?_
      exact ih w10 v1 v2 (v3 + 1) _ hf hk
set_option maxRecDepth 20000 in
set_option maxHeartbeats 4000000 in
theorem a_X8_hosts_L35 (F : Nat) (d : Nat) (hd : 3 ≤ d) (Q : pm_Q) : ∀ (n : Nat) (w : pm_W) (v1 : Int32) (v2 : Int32) (v3 : Int32) (v4 : Int32) (v5 : Int32) (x : Int32 × Int32 × pm_W), f_X8_hosts_L35 F n w v1 v2 v3 v4 v5 = some x → pm_Gx (RT d) co_X8_hosts 74 [some (.inr (.inr (19, 0))), some (.inl v1), some (.inl v2), some (.inl x.1), some (.inl v4), some (.inl x.2.1), none] [] x.2.2 Q → pm_Gx (RT d) co_X8_hosts 35 [some (.inr (.inr (19, 0))), some (.inl v1), some (.inl v2), some (.inl v3), some (.inl v4), some (.inl v5), none] [] w Q := by
  intro n
  induction n with
  | zero =>
    intro w v1 v2 v3 v4 v5 x hf
    cases hf
  | succ n ih =>
    intro w v1 v2 v3 v4 v5 x hf hk
    rw [f_X8_hosts_L35] at hf
    refine pm_go (i2 := 38) (ls2 := [some (.inr (.inr (19, 0))), some (.inl v1), some (.inl v2), some (.inl v3), some (.inl v4), some (.inl v5), none]) (st2 := [.inl v4, .inl 6, .inl v5]) (w2 := w) 3 (fun F h => h) ?_
    obtain ⟨r14, hr15, hf⟩ := Option.bind_eq_some_iff.mp hf
    refine pm_ca (y := 117) (as := [.inl 6, .inl v4]) (r := some (.inl r14)) (w2 := w) (w1 := w) (t := [.inl v5]) (i2 := 39) (ls2 := [some (.inr (.inr (19, 0))), some (.inl v1), some (.inl v2), some (.inl v3), some (.inl v4), some (.inl v5), none]) 1 (a_X8_power F w 6 v4 r14 d (by omega) hr15) (fun F h => h) ?_
    show pm_Gx (RT d) co_X8_hosts 39 [some (.inr (.inr (19, 0))), some (.inl v1), some (.inl v2), some (.inl v3), some (.inl v4), some (.inl v5), none] [.inl r14, .inl v5] w Q
    refine pm_if (P := r14 ≤ v5) (i2 := 74) (i3 := 40) (ls2 := [some (.inr (.inr (19, 0))), some (.inl v1), some (.inl v2), some (.inl v3), some (.inl v4), some (.inl v5), none]) (st2 := []) (w2 := w) 1 (fun F h => h) (fun hc16 => ?_) (fun hc16 => ?_)
    · rw [if_pos hc16] at hf
      obtain rfl := Option.some.inj hf
      exact hk
    · rw [if_neg hc16] at hf
      refine pm_go (i2 := 47) (ls2 := [some (.inr (.inr (19, 0))), some (.inl v1), some (.inl v2), some (.inl v3), some (.inl v4), some (.inl v5), none]) (st2 := [.inl (v4 - v4 / 2 * 2), .inl (6 * v5), .inr (.inr (19, 0))]) (w2 := w) 7 (fun F h => ⟨(by decide), h⟩) ?_
      have key : pm_Gx (RT d) co_X8_hosts 51 [some (.inr (.inr (19, 0))), some (.inl v1), some (.inl v2), some (.inl v3), some (.inl v4), some (.inl v5), none] [.inl (if (v4 - v4 / 2 * 2) = 0 then 1 else 0 : Int32), .inl (6 * v5), .inr (.inr (19, 0))] w Q := by
        obtain ⟨r17, hr18, hf⟩ := Option.bind_eq_some_iff.mp hf
        refine pm_ca (y := 143) (as := [.inr (.inr (19, 0)), .inl (6 * v5), .inl (if (v4 - v4 / 2 * 2) = 0 then 1 else 0 : Int32)]) (r := some (.inl r17)) (w2 := w) (w1 := w) (t := []) (i2 := 52) (ls2 := [some (.inr (.inr (19, 0))), some (.inl v1), some (.inl v2), some (.inl v3), some (.inl v4), some (.inl v5), none]) 1 (a_X8_choice F w (6 * v5) (if (v4 - v4 / 2 * 2) = 0 then 1 else 0 : Int32) r17 d (by omega) hr18) (fun F h => h) ?_
        show pm_Gx (RT d) co_X8_hosts 52 [some (.inr (.inr (19, 0))), some (.inl v1), some (.inl v2), some (.inl v3), some (.inl v4), some (.inl v5), none] [.inl r17] w Q
        refine pm_go (i2 := 60) (ls2 := [some (.inr (.inr (19, 0))), some (.inl v1), some (.inl v2), some (.inl r17), some (.inl v4), some (.inl v5), some (.inl r17)]) (st2 := [.inl (-9), .inl r17, .inl v5, .inr (.inr (33, 0))]) (w2 := w) 8 (fun F h => h) ?_
        refine pm_if (P := r17 = (-9)) (i2 := 61) (i3 := 63) (ls2 := [some (.inr (.inr (19, 0))), some (.inl v1), some (.inl v2), some (.inl r17), some (.inl v4), some (.inl v5), some (.inl r17)]) (st2 := [.inl v5, .inr (.inr (33, 0))]) (w2 := w) 1 (fun F h => h) (fun hc19 => ?_) (fun hc19 => ?_)
        · rw [if_pos hc19] at hf
          obtain ⟨hs20, hf⟩ := pm_itn hf
          refine pm_go (i2 := 72) (ls2 := [some (.inr (.inr (19, 0))), some (.inl v1), some (.inl v2), some (.inl r17), some (.inl v4), some (.inl v5), some (.inl r17)]) (st2 := []) (w2 := (pm_setI w 33 0 v5.toNatClampNeg 0)) 3 (fun F h => ⟨(pm_inb_in hs20), h⟩) ?_
          generalize (pm_setI w 33 0 v5.toNatClampNeg 0) = w21 at hf ⊢
          replace hf := pm_wlet_un hf
          refine pm_go (i2 := 35) (ls2 := [some (.inr (.inr (19, 0))), some (.inl v1), some (.inl v2), some (.inl r17), some (.inl v4), some (.inl (v5 + 1)), some (.inl r17)]) (st2 := []) (w2 := w21) 2 (fun F h => h) ?_
          refine pm_wk (ls := [some (.inr (.inr (19, 0))), some (.inl v1), some (.inl v2), some (.inl r17), some (.inl v4), some (.inl (v5 + 1)), none]) ⟨.inr rfl, .inr rfl, .inr rfl, .inr rfl, .inr rfl, .inr rfl, .inl rfl, trivial⟩ ?_
          exact ih w21 v1 v2 r17 v4 (v5 + 1) _ hf hk
        · rw [if_neg hc19] at hf
          obtain ⟨hs22, hf⟩ := pm_itn hf
          obtain ⟨hs23, hf⟩ := pm_itn hf
          refine pm_go (i2 := 72) (ls2 := [some (.inr (.inr (19, 0))), some (.inl v1), some (.inl v2), some (.inl r17), some (.inl v4), some (.inl v5), some (.inl r17)]) (st2 := []) (w2 := (pm_setI w 33 0 v5.toNatClampNeg (w.1 33 0 (((6 * v5) + r17).toNatClampNeg)))) 9 (fun F h => ⟨(pm_inb_in hs22), (pm_inb_in hs23), h⟩) ?_
          generalize (pm_setI w 33 0 v5.toNatClampNeg (w.1 33 0 (((6 * v5) + r17).toNatClampNeg))) = w24 at hf ⊢
          replace hf := pm_wlet_un hf
          refine pm_go (i2 := 35) (ls2 := [some (.inr (.inr (19, 0))), some (.inl v1), some (.inl v2), some (.inl r17), some (.inl v4), some (.inl (v5 + 1)), some (.inl r17)]) (st2 := []) (w2 := w24) 2 (fun F h => h) ?_
          refine pm_wk (ls := [some (.inr (.inr (19, 0))), some (.inl v1), some (.inl v2), some (.inl r17), some (.inl v4), some (.inl (v5 + 1)), none]) ⟨.inr rfl, .inr rfl, .inr rfl, .inr rfl, .inr rfl, .inr rfl, .inl rfl, trivial⟩ ?_
          exact ih w24 v1 v2 r17 v4 (v5 + 1) _ hf hk
      clear hf
      refine pm_if (P := (v4 - v4 / 2 * 2) = 0) (i2 := 48) (i3 := 50) (ls2 := [some (.inr (.inr (19, 0))), some (.inl v1), some (.inl v2), some (.inl v3), some (.inl v4), some (.inl v5), none]) (st2 := [.inl (6 * v5), .inr (.inr (19, 0))]) (w2 := w) 1 (fun F h => h) (fun hc25 => ?_) (fun hc25 => ?_)
      · try simp only [if_pos hc25] at key
        refine pm_go (i2 := 51) (ls2 := [some (.inr (.inr (19, 0))), some (.inl v1), some (.inl v2), some (.inl v3), some (.inl v4), some (.inl v5), none]) (st2 := [.inl 1, .inl (6 * v5), .inr (.inr (19, 0))]) (w2 := w) 2 (fun F h => h) ?_
        exact key
      · try simp only [if_neg hc25] at key
        refine pm_go (i2 := 51) (ls2 := [some (.inr (.inr (19, 0))), some (.inl v1), some (.inl v2), some (.inl v3), some (.inl v4), some (.inl v5), none]) (st2 := [.inl 0, .inl (6 * v5), .inr (.inr (19, 0))]) (w2 := w) 1 (fun F h => h) ?_
        exact key
set_option maxRecDepth 20000 in
set_option maxHeartbeats 4000000 in
theorem a_X8_hosts_L31 (F : Nat) (d : Nat) (hd : 3 ≤ d) (Q : pm_Q) : ∀ (n : Nat) (w : pm_W) (v1 : Int32) (v2 : Int32) (v3 : Int32) (v4 : Int32) (x : Int32 × Int32 × pm_W), f_X8_hosts_L31 F n w v1 v2 v3 v4 = some x → pm_Gx (RT d) co_X8_hosts 76 [some (.inr (.inr (19, 0))), some (.inl v1), some (.inl v2), some (.inl x.1), some (.inl x.2.1), none, none] [] x.2.2 Q → pm_Gx (RT d) co_X8_hosts 31 [some (.inr (.inr (19, 0))), some (.inl v1), some (.inl v2), some (.inl v3), some (.inl v4), none, none] [] w Q := by
  intro n
  induction n with
  | zero =>
    intro w v1 v2 v3 v4 x hf
    cases hf
  | succ n ih =>
    intro w v1 v2 v3 v4 x hf hk
    rw [f_X8_hosts_L31] at hf
    refine pm_go (i2 := 32) (ls2 := [some (.inr (.inr (19, 0))), some (.inl v1), some (.inl v2), some (.inl v3), some (.inl v4), none, none]) (st2 := [.inl v4]) (w2 := w) 1 (fun F h => h) ?_
    refine pm_if (P := v4 < 0) (i2 := 76) (i3 := 33) (ls2 := [some (.inr (.inr (19, 0))), some (.inl v1), some (.inl v2), some (.inl v3), some (.inl v4), none, none]) (st2 := []) (w2 := w) 1 (fun F h => h) (fun hc13 => ?_) (fun hc13 => ?_)
    · rw [if_pos hc13] at hf
      obtain rfl := Option.some.inj hf
      exact hk
    · rw [if_neg hc13] at hf
      refine pm_go (i2 := 35) (ls2 := [some (.inr (.inr (19, 0))), some (.inl v1), some (.inl v2), some (.inl v3), some (.inl v4), some (.inl 0), none]) (st2 := []) (w2 := w) 2 (fun F h => h) ?_
      obtain ⟨x26, hx27, hf⟩ := Option.bind_eq_some_iff.mp hf
      refine a_X8_hosts_L35 F d hd Q F w v1 v2 v3 v4 0 x26 hx27 ?_
      refine pm_go (i2 := 31) (ls2 := [some (.inr (.inr (19, 0))), some (.inl v1), some (.inl v2), some (.inl x26.1), some (.inl (v4 + (-1))), some (.inl x26.2.1), none]) (st2 := []) (w2 := x26.2.2) 2 (fun F h => h) ?_
      refine pm_wk (ls := [some (.inr (.inr (19, 0))), some (.inl v1), some (.inl v2), some (.inl x26.1), some (.inl (v4 + (-1))), none, none]) ⟨.inr rfl, .inr rfl, .inr rfl, .inr rfl, .inr rfl, .inl rfl, .inl rfl, trivial⟩ ?_
      exact ih x26.2.2 v1 v2 x26.1 (v4 + (-1)) _ hf hk
set_option maxRecDepth 20000 in
set_option maxHeartbeats 4000000 in
theorem b_X8_hosts (F : Nat) (d : Nat) (hd : 3 ≤ d) (Q : pm_Q) (w : pm_W) (a1 : Int32) (a2 : Int32) (x : (Int32 × pm_W)) (hf : f_X8_hosts F w a1 a2 = some x) (hq : Q (some (.inl x.1)) x.2) : pm_Gx (RT d) co_X8_hosts 0 [some (.inr (.inr (19, 0))), some (.inl a1), some (.inl a2), none, none, none, none] [] w Q := by
  unfold f_X8_hosts at hf
  refine pm_go (i2 := 4) (ls2 := [some (.inr (.inr (19, 0))), some (.inl a1), some (.inl a2), none, none, none, none]) (st2 := [.inr (.inl 4), .inr (.inl 1), .inr (.inl a1.toInt64)]) (w2 := w) 4 (fun F h => h) ?_
  obtain ⟨r1, hr2, hf⟩ := Option.bind_eq_some_iff.mp hf
  refine pm_ca (y := 88) (as := [.inr (.inl a1.toInt64), .inr (.inl 1), .inr (.inl 4)]) (r := some (.inl r1)) (w2 := w) (w1 := w) (t := []) (i2 := 5) (ls2 := [some (.inr (.inr (19, 0))), some (.inl a1), some (.inl a2), none, none, none, none]) 1 (a_X8_in F w a1.toInt64 1 4 r1 d (by omega) hr2) (fun F h => h) ?_
  show pm_Gx (RT d) co_X8_hosts 5 [some (.inr (.inr (19, 0))), some (.inl a1), some (.inl a2), none, none, none, none] [.inl r1] w Q
  refine pm_if (P := r1 = 0) (i2 := 6) (i3 := 8) (ls2 := [some (.inr (.inr (19, 0))), some (.inl a1), some (.inl a2), none, none, none, none]) (st2 := []) (w2 := w) 1 (fun F h => h) (fun hc3 => ?_) (fun hc3 => ?_)
  · rw [if_pos hc3] at hf
    refine pm_go (i2 := 7) (ls2 := [some (.inr (.inr (19, 0))), some (.inl a1), some (.inl a2), none, none, none, none]) (st2 := [.inl (-2)]) (w2 := w) 1 (fun F h => h) ?_
    obtain rfl := Option.some.inj hf
    exact pm_re (r := some (.inl (-2))) (w2 := w) 1 (fun F h => h) hq
  · rw [if_neg hc3] at hf
    refine pm_go (i2 := 10) (ls2 := [some (.inr (.inr (19, 0))), some (.inl a1), some (.inl a2), some (.inl 0), none, none, none]) (st2 := []) (w2 := w) 2 (fun F h => h) ?_
    obtain ⟨x11, hx12, hf⟩ := Option.bind_eq_some_iff.mp hf
    refine a_X8_hosts_L10 F d hd Q F w a1 a2 0 x11 hx12 ?_
    refine pm_go (i2 := 31) (ls2 := [some (.inr (.inr (19, 0))), some (.inl a1), some (.inl a2), some (.inl 0), some (.inl (a1 - 1)), none, none]) (st2 := []) (w2 := x11.2) 6 (fun F h => h) ?_
    obtain ⟨x28, hx29, hf⟩ := Option.bind_eq_some_iff.mp hf
    refine a_X8_hosts_L31 F d hd Q F x11.2 a1 a2 0 (a1 - 1) x28 hx29 ?_
    refine pm_go (i2 := 77) (ls2 := [some (.inr (.inr (19, 0))), some (.inl a1), some (.inl a2), some (.inl x28.1), some (.inl x28.2.1), none, none]) (st2 := [.inl a2]) (w2 := x28.2.2) 1 (fun F h => h) ?_
    refine pm_if (P := a2 = 0) (i2 := 80) (i3 := 78) (ls2 := [some (.inr (.inr (19, 0))), some (.inl a1), some (.inl a2), some (.inl x28.1), some (.inl x28.2.1), none, none]) (st2 := []) (w2 := x28.2.2) 1 (fun F h => h) (fun hc30 => ?_) (fun hc30 => ?_)
    · rw [if_pos hc30] at hf
      refine pm_go (i2 := 84) (ls2 := [some (.inr (.inr (19, 0))), some (.inl a1), some (.inl a2), some (.inl x28.1), some (.inl x28.2.1), none, none]) (st2 := [.inl (x28.2.2.1 33 0 0)]) (w2 := x28.2.2) 4 (fun F h => ⟨(pm_inb_in (by decide)), h⟩) ?_
      obtain rfl := Option.some.inj hf
      exact pm_re (r := some (.inl (x28.2.2.1 33 0 0))) (w2 := x28.2.2) 1 (fun F h => h) hq
    · rw [if_neg hc30] at hf
      refine pm_go (i2 := 84) (ls2 := [some (.inr (.inr (19, 0))), some (.inl a1), some (.inl a2), some (.inl x28.1), some (.inl x28.2.1), none, none]) (st2 := [.inl x28.1]) (w2 := x28.2.2) 2 (fun F h => h) ?_
      obtain rfl := Option.some.inj hf
      exact pm_re (r := some (.inl x28.1)) (w2 := x28.2.2) 1 (fun F h => h) hq
set_option maxRecDepth 20000 in
set_option maxHeartbeats 4000000 in
theorem a_X8_hosts (F : Nat) (w : pm_W) (a1 : Int32) (a2 : Int32) (x : (Int32 × pm_W)) (d : Nat) (hd : 4 ≤ d) (hf : f_X8_hosts F w a1 a2 = some x) : RT d 144 [.inr (.inr (19, 0)), .inl a1, .inl a2] w (some (.inl x.1)) x.2 := by
  obtain ⟨d, rfl, hd2⟩ := pm_dep hd
  exact pm_start (co := co_X8_hosts) (nL := 7) (by decide) rfl rfl (Nat.le_of_ble_eq_true rfl) (b_X8_hosts F d hd2 _ w a1 a2 x hf ⟨rfl, rfl⟩)
