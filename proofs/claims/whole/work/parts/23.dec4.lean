def f_X7_figuresOf_L2 (F : Nat) (w : pm_W) : Nat → Int32 → Int32 → Option (Int32)
  | 0, _, _ => none
  | n + 1, v0, v1 => (if 6 ≤ v1 then some v1 else (if pm_inb v1 7 = true then (if v0 < (pm_st 37 v1.toNatClampNeg) then some v1 else f_X7_figuresOf_L2 F w n v0 (v1 + 1)) else none))
def f_X7_figuresOf (F : Nat) (w : pm_W) (a0 : Int32) : Option (Int32) := ((f_X7_figuresOf_L2 F w F a0 0).bind fun x4 => some x4)
set_option maxRecDepth 20000 in
set_option maxHeartbeats 4000000 in
theorem a_X7_figuresOf_L2 (F : Nat) (d : Nat) (hd : 0 ≤ d) (Q : pm_Q) (w : pm_W) : ∀ (n : Nat) (v0 : Int32) (v1 : Int32) (x : Int32), f_X7_figuresOf_L2 F w n v0 v1 = some x → pm_Gx (RT d) co_X7_figuresOf 12 [some (.inl v0), some (.inl x)] [] w Q → pm_Gx (RT d) co_X7_figuresOf 2 [some (.inl v0), some (.inl v1)] [] w Q := by
  intro n
  induction n with
  | zero =>
    intro v0 v1 x hf
    cases hf
  | succ n ih =>
    intro v0 v1 x hf hk
    rw [f_X7_figuresOf_L2] at hf
    refine pm_go (i2 := 4) (ls2 := [some (.inl v0), some (.inl v1)]) (st2 := [.inl 6, .inl v1]) (w2 := w) 2 (fun F h => h) ?_
    refine pm_if (P := 6 ≤ v1) (i2 := 12) (i3 := 5) (ls2 := [some (.inl v0), some (.inl v1)]) (st2 := []) (w2 := w) 1 (fun F h => h) (fun hc1 => ?_) (fun hc1 => ?_)
    · rw [if_pos hc1] at hf
      obtain rfl := Option.some.inj hf
      exact hk
    · rw [if_neg hc1] at hf
      obtain ⟨hs2, hf⟩ := pm_itn hf
      refine pm_go (i2 := 9) (ls2 := [some (.inl v0), some (.inl v1)]) (st2 := [.inl (pm_st 37 v1.toNatClampNeg), .inl v0]) (w2 := w) 4 (fun F h => ⟨(pm_inb_in hs2), h⟩) ?_
      refine pm_if (P := v0 < (pm_st 37 v1.toNatClampNeg)) (i2 := 12) (i3 := 10) (ls2 := [some (.inl v0), some (.inl v1)]) (st2 := []) (w2 := w) 1 (fun F h => h) (fun hc3 => ?_) (fun hc3 => ?_)
      · rw [if_pos hc3] at hf
        obtain rfl := Option.some.inj hf
        exact hk
      · rw [if_neg hc3] at hf
        refine pm_go (i2 := 2) (ls2 := [some (.inl v0), some (.inl (v1 + 1))]) (st2 := []) (w2 := w) 2 (fun F h => h) ?_
        exact ih v0 (v1 + 1) _ hf hk
set_option maxRecDepth 20000 in
set_option maxHeartbeats 4000000 in
theorem b_X7_figuresOf (F : Nat) (d : Nat) (hd : 0 ≤ d) (Q : pm_Q) (w : pm_W) (a0 : Int32) (x : Int32) (hf : f_X7_figuresOf F w a0 = some x) (hq : Q (some (.inl x)) w) : pm_Gx (RT d) co_X7_figuresOf 0 [some (.inl a0), none] [] w Q := by
  unfold f_X7_figuresOf at hf
  refine pm_go (i2 := 2) (ls2 := [some (.inl a0), some (.inl 0)]) (st2 := []) (w2 := w) 2 (fun F h => h) ?_
  obtain ⟨x4, hx5, hf⟩ := Option.bind_eq_some_iff.mp hf
  refine a_X7_figuresOf_L2 F d hd Q w F a0 0 x4 hx5 ?_
  refine pm_go (i2 := 13) (ls2 := [some (.inl a0), some (.inl x4)]) (st2 := [.inl x4]) (w2 := w) 1 (fun F h => h) ?_
  obtain rfl := Option.some.inj hf
  exact pm_re (r := some (.inl x4)) (w2 := w) 1 (fun F h => h) hq
set_option maxRecDepth 20000 in
set_option maxHeartbeats 4000000 in
theorem a_X7_figuresOf (F : Nat) (w : pm_W) (a0 : Int32) (x : Int32) (d : Nat) (hd : 1 ≤ d) (hf : f_X7_figuresOf F w a0 = some x) : RT d 83 [.inl a0] w (some (.inl x)) w := by
  obtain ⟨d, rfl, hd2⟩ := pm_dep hd
  exact pm_start (co := co_X7_figuresOf) (nL := 2) (by decide) rfl rfl (Nat.le_of_ble_eq_true rfl) (b_X7_figuresOf F d hd2 _ w a0 x hf ⟨rfl, rfl⟩)
def f_X7_told (F : Nat) (w : pm_W) (a0 : Int32) (a1 : Int32) : Option (Int32) := (if a1 = 0 then (if a0 = (-9) then some a0 else ((f_X7_figuresOf F w a0).bind fun r3 => some r3)) else some a0)
set_option maxRecDepth 20000 in
set_option maxHeartbeats 4000000 in
theorem b_X7_told (F : Nat) (d : Nat) (hd : 1 ≤ d) (Q : pm_Q) (w : pm_W) (a0 : Int32) (a1 : Int32) (x : Int32) (hf : f_X7_told F w a0 a1 = some x) (hq : Q (some (.inl x)) w) : pm_Gx (RT d) co_X7_told 0 [some (.inl a0), some (.inl a1)] [] w Q := by
  unfold f_X7_told at hf
  refine pm_go (i2 := 1) (ls2 := [some (.inl a0), some (.inl a1)]) (st2 := [.inl a1]) (w2 := w) 1 (fun F h => h) ?_
  refine pm_if (P := a1 = 0) (i2 := 2) (i3 := 5) (ls2 := [some (.inl a0), some (.inl a1)]) (st2 := []) (w2 := w) 1 (fun F h => h) (fun hc1 => ?_) (fun hc1 => ?_)
  · rw [if_pos hc1] at hf
    refine pm_go (i2 := 4) (ls2 := [some (.inl a0), some (.inl a1)]) (st2 := [.inl (-9), .inl a0]) (w2 := w) 2 (fun F h => h) ?_
    refine pm_if (P := a0 = (-9)) (i2 := 5) (i3 := 7) (ls2 := [some (.inl a0), some (.inl a1)]) (st2 := []) (w2 := w) 1 (fun F h => h) (fun hc2 => ?_) (fun hc2 => ?_)
    · rw [if_pos hc2] at hf
      refine pm_go (i2 := 9) (ls2 := [some (.inl a0), some (.inl a1)]) (st2 := [.inl a0]) (w2 := w) 2 (fun F h => h) ?_
      obtain rfl := Option.some.inj hf
      exact pm_re (r := some (.inl a0)) (w2 := w) 1 (fun F h => h) hq
    · rw [if_neg hc2] at hf
      refine pm_go (i2 := 8) (ls2 := [some (.inl a0), some (.inl a1)]) (st2 := [.inl a0]) (w2 := w) 1 (fun F h => h) ?_
      obtain ⟨r3, hr4, hf⟩ := Option.bind_eq_some_iff.mp hf
      refine pm_ca (y := 83) (as := [.inl a0]) (r := some (.inl r3)) (w2 := w) (w1 := w) (t := []) (i2 := 9) (ls2 := [some (.inl a0), some (.inl a1)]) 1 (a_X7_figuresOf F w a0 r3 d (by omega) hr4) (fun F h => h) ?_
      show pm_Gx (RT d) co_X7_told 9 [some (.inl a0), some (.inl a1)] [.inl r3] w Q
      obtain rfl := Option.some.inj hf
      exact pm_re (r := some (.inl r3)) (w2 := w) 1 (fun F h => h) hq
  · rw [if_neg hc1] at hf
    refine pm_go (i2 := 9) (ls2 := [some (.inl a0), some (.inl a1)]) (st2 := [.inl a0]) (w2 := w) 2 (fun F h => h) ?_
    obtain rfl := Option.some.inj hf
    exact pm_re (r := some (.inl a0)) (w2 := w) 1 (fun F h => h) hq
set_option maxRecDepth 20000 in
set_option maxHeartbeats 4000000 in
theorem a_X7_told (F : Nat) (w : pm_W) (a0 : Int32) (a1 : Int32) (x : Int32) (d : Nat) (hd : 2 ≤ d) (hf : f_X7_told F w a0 a1 = some x) : RT d 82 [.inl a0, .inl a1] w (some (.inl x)) w := by
  obtain ⟨d, rfl, hd2⟩ := pm_dep hd
  exact pm_start (co := co_X7_told) (nL := 2) (by decide) rfl rfl (Nat.le_of_ble_eq_true rfl) (b_X7_told F d hd2 _ w a0 a1 x hf ⟨rfl, rfl⟩)
def f_X7_longBy (F : Nat) (w : pm_W) (a1 : Int32) (a2 : Int32) : Option ((Int32 × pm_W)) := (if a1 < 1 then some ((-2), w) else (if a1 ≤ 60 then ((f_X3_fewestSayings F w 0 a1).bind fun r3 => ((f_X7_told F r3.2 r3.1 a2).bind fun r5 => some (r5, r3.2))) else some ((-2), w)))
set_option maxRecDepth 20000 in
set_option maxHeartbeats 4000000 in
theorem b_X7_longBy (F : Nat) (d : Nat) (hd : 14 ≤ d) (Q : pm_Q) (w : pm_W) (a1 : Int32) (a2 : Int32) (x : (Int32 × pm_W)) (hf : f_X7_longBy F w a1 a2 = some x) (hq : Q (some (.inl x.1)) x.2) : pm_Gx (RT d) co_X7_longBy 0 [some (.inr (.inr (0, 0))), some (.inl a1), some (.inl a2)] [] w Q := by
  unfold f_X7_longBy at hf
  refine pm_go (i2 := 2) (ls2 := [some (.inr (.inr (0, 0))), some (.inl a1), some (.inl a2)]) (st2 := [.inl 1, .inl a1]) (w2 := w) 2 (fun F h => h) ?_
  refine pm_if (P := a1 < 1) (i2 := 6) (i3 := 3) (ls2 := [some (.inr (.inr (0, 0))), some (.inl a1), some (.inl a2)]) (st2 := []) (w2 := w) 1 (fun F h => h) (fun hc1 => ?_) (fun hc1 => ?_)
  · rw [if_pos hc1] at hf
    refine pm_go (i2 := 7) (ls2 := [some (.inr (.inr (0, 0))), some (.inl a1), some (.inl a2)]) (st2 := [.inl (-2)]) (w2 := w) 1 (fun F h => h) ?_
    obtain rfl := Option.some.inj hf
    exact pm_re (r := some (.inl (-2))) (w2 := w) 1 (fun F h => h) hq
  · rw [if_neg hc1] at hf
    refine pm_go (i2 := 5) (ls2 := [some (.inr (.inr (0, 0))), some (.inl a1), some (.inl a2)]) (st2 := [.inl 60, .inl a1]) (w2 := w) 2 (fun F h => h) ?_
    refine pm_if (P := a1 ≤ 60) (i2 := 8) (i3 := 6) (ls2 := [some (.inr (.inr (0, 0))), some (.inl a1), some (.inl a2)]) (st2 := []) (w2 := w) 1 (fun F h => h) (fun hc2 => ?_) (fun hc2 => ?_)
    · rw [if_pos hc2] at hf
      refine pm_go (i2 := 13) (ls2 := [some (.inr (.inr (0, 0))), some (.inl a1), some (.inl a2)]) (st2 := [.inl a1, .inr (.inr (7, 0)), .inr (.inr (16, 0))]) (w2 := w) 5 (fun F h => h) ?_
      obtain ⟨r3, hr4, hf⟩ := Option.bind_eq_some_iff.mp hf
      refine pm_ca (y := 20) (as := [.inr (.inr (16, 0)), .inr (.inr (7, 0)), .inl a1]) (r := some (.inl r3.1)) (w2 := w) (w1 := r3.2) (t := []) (i2 := 14) (ls2 := [some (.inr (.inr (0, 0))), some (.inl a1), some (.inl a2)]) 1 (a_X3_fewestSayings F w 0 a1 r3 d (by omega) hr4) (fun F h => h) ?_
      show pm_Gx (RT d) co_X7_longBy 14 [some (.inr (.inr (0, 0))), some (.inl a1), some (.inl a2)] [.inl r3.1] r3.2 Q
      refine pm_go (i2 := 15) (ls2 := [some (.inr (.inr (0, 0))), some (.inl a1), some (.inl a2)]) (st2 := [.inl a2, .inl r3.1]) (w2 := r3.2) 1 (fun F h => h) ?_
      obtain ⟨r5, hr6, hf⟩ := Option.bind_eq_some_iff.mp hf
      refine pm_ca (y := 82) (as := [.inl r3.1, .inl a2]) (r := some (.inl r5)) (w2 := r3.2) (w1 := r3.2) (t := []) (i2 := 16) (ls2 := [some (.inr (.inr (0, 0))), some (.inl a1), some (.inl a2)]) 1 (a_X7_told F r3.2 r3.1 a2 r5 d (by omega) hr6) (fun F h => h) ?_
      show pm_Gx (RT d) co_X7_longBy 16 [some (.inr (.inr (0, 0))), some (.inl a1), some (.inl a2)] [.inl r5] r3.2 Q
      obtain rfl := Option.some.inj hf
      exact pm_re (r := some (.inl r5)) (w2 := r3.2) 1 (fun F h => h) hq
    · rw [if_neg hc2] at hf
      refine pm_go (i2 := 7) (ls2 := [some (.inr (.inr (0, 0))), some (.inl a1), some (.inl a2)]) (st2 := [.inl (-2)]) (w2 := w) 1 (fun F h => h) ?_
      obtain rfl := Option.some.inj hf
      exact pm_re (r := some (.inl (-2))) (w2 := w) 1 (fun F h => h) hq
set_option maxRecDepth 20000 in
set_option maxHeartbeats 4000000 in
theorem a_X7_longBy (F : Nat) (w : pm_W) (a1 : Int32) (a2 : Int32) (x : (Int32 × pm_W)) (d : Nat) (hd : 15 ≤ d) (hf : f_X7_longBy F w a1 a2 = some x) : RT d 66 [.inr (.inr (0, 0)), .inl a1, .inl a2] w (some (.inl x.1)) x.2 := by
  obtain ⟨d, rfl, hd2⟩ := pm_dep hd
  exact pm_start (co := co_X7_longBy) (nL := 3) (by decide) rfl rfl (Nat.le_of_ble_eq_true rfl) (b_X7_longBy F d hd2 _ w a1 a2 x hf ⟨rfl, rfl⟩)
def f_X7_together (F : Nat) (w : pm_W) (a1 : Int32) : Option ((Int32 × pm_W)) := ((f_X3_fewestSayings F w 0 0).bind fun r1 => ((f_X7_told F r1.2 r1.1 a1).bind fun r3 => some (r3, r1.2)))
set_option maxRecDepth 20000 in
set_option maxHeartbeats 4000000 in
theorem b_X7_together (F : Nat) (d : Nat) (hd : 14 ≤ d) (Q : pm_Q) (w : pm_W) (a1 : Int32) (x : (Int32 × pm_W)) (hf : f_X7_together F w a1 = some x) (hq : Q (some (.inl x.1)) x.2) : pm_Gx (RT d) co_X7_together 0 [some (.inr (.inr (0, 0))), some (.inl a1)] [] w Q := by
  unfold f_X7_together at hf
  refine pm_go (i2 := 5) (ls2 := [some (.inr (.inr (0, 0))), some (.inl a1)]) (st2 := [.inl 0, .inr (.inr (7, 0)), .inr (.inr (16, 0))]) (w2 := w) 5 (fun F h => h) ?_
  obtain ⟨r1, hr2, hf⟩ := Option.bind_eq_some_iff.mp hf
  refine pm_ca (y := 20) (as := [.inr (.inr (16, 0)), .inr (.inr (7, 0)), .inl 0]) (r := some (.inl r1.1)) (w2 := w) (w1 := r1.2) (t := []) (i2 := 6) (ls2 := [some (.inr (.inr (0, 0))), some (.inl a1)]) 1 (a_X3_fewestSayings F w 0 0 r1 d (by omega) hr2) (fun F h => h) ?_
  show pm_Gx (RT d) co_X7_together 6 [some (.inr (.inr (0, 0))), some (.inl a1)] [.inl r1.1] r1.2 Q
  refine pm_go (i2 := 7) (ls2 := [some (.inr (.inr (0, 0))), some (.inl a1)]) (st2 := [.inl a1, .inl r1.1]) (w2 := r1.2) 1 (fun F h => h) ?_
  obtain ⟨r3, hr4, hf⟩ := Option.bind_eq_some_iff.mp hf
  refine pm_ca (y := 82) (as := [.inl r1.1, .inl a1]) (r := some (.inl r3)) (w2 := r1.2) (w1 := r1.2) (t := []) (i2 := 8) (ls2 := [some (.inr (.inr (0, 0))), some (.inl a1)]) 1 (a_X7_told F r1.2 r1.1 a1 r3 d (by omega) hr4) (fun F h => h) ?_
  show pm_Gx (RT d) co_X7_together 8 [some (.inr (.inr (0, 0))), some (.inl a1)] [.inl r3] r1.2 Q
  obtain rfl := Option.some.inj hf
  exact pm_re (r := some (.inl r3)) (w2 := r1.2) 1 (fun F h => h) hq
set_option maxRecDepth 20000 in
set_option maxHeartbeats 4000000 in
theorem a_X7_together (F : Nat) (w : pm_W) (a1 : Int32) (x : (Int32 × pm_W)) (d : Nat) (hd : 15 ≤ d) (hf : f_X7_together F w a1 = some x) : RT d 67 [.inr (.inr (0, 0)), .inl a1] w (some (.inl x.1)) x.2 := by
  obtain ⟨d, rfl, hd2⟩ := pm_dep hd
  exact pm_start (co := co_X7_together) (nL := 2) (by decide) rfl rfl (Nat.le_of_ble_eq_true rfl) (b_X7_together F d hd2 _ w a1 x hf ⟨rfl, rfl⟩)
def f_X7_isRow (F : Nat) (w : pm_W) (a0 : Int32) (a1 : Int32) : Option (Int32) := (if a0 < 1 then some 0 else (if 6 < a0 then some 0 else (if a1 < 0 then some 0 else (if pm_inb a0 7 = true then (if pm_isb (if (pm_st 37 a0.toNatClampNeg) ≤ a1 then 0 else 1 : Int32) = true then some (if (pm_st 37 a0.toNatClampNeg) ≤ a1 then 0 else 1 : Int32) else none) else none))))
set_option maxRecDepth 20000 in
set_option maxHeartbeats 4000000 in
theorem b_X7_isRow (F : Nat) (d : Nat) (hd : 0 ≤ d) (Q : pm_Q) (w : pm_W) (a0 : Int32) (a1 : Int32) (x : Int32) (hf : f_X7_isRow F w a0 a1 = some x) (hq : Q (some (.inl x)) w) : pm_Gx (RT d) co_X7_isRow 0 [some (.inl a0), some (.inl a1)] [] w Q := by
  unfold f_X7_isRow at hf
  refine pm_go (i2 := 2) (ls2 := [some (.inl a0), some (.inl a1)]) (st2 := [.inl 1, .inl a0]) (w2 := w) 2 (fun F h => h) ?_
  refine pm_if (P := a0 < 1) (i2 := 15) (i3 := 3) (ls2 := [some (.inl a0), some (.inl a1)]) (st2 := []) (w2 := w) 1 (fun F h => h) (fun hc1 => ?_) (fun hc1 => ?_)
  · rw [if_pos hc1] at hf
    refine pm_go (i2 := 16) (ls2 := [some (.inl a0), some (.inl a1)]) (st2 := [.inl 0]) (w2 := w) 1 (fun F h => h) ?_
    obtain rfl := Option.some.inj hf
    exact pm_re (r := some (.inl 0)) (w2 := w) 1 (fun F h => ⟨rfl, h⟩) hq
  · rw [if_neg hc1] at hf
    refine pm_go (i2 := 5) (ls2 := [some (.inl a0), some (.inl a1)]) (st2 := [.inl 6, .inl a0]) (w2 := w) 2 (fun F h => h) ?_
    refine pm_if (P := 6 < a0) (i2 := 15) (i3 := 6) (ls2 := [some (.inl a0), some (.inl a1)]) (st2 := []) (w2 := w) 1 (fun F h => h) (fun hc2 => ?_) (fun hc2 => ?_)
    · rw [if_pos hc2] at hf
      refine pm_go (i2 := 16) (ls2 := [some (.inl a0), some (.inl a1)]) (st2 := [.inl 0]) (w2 := w) 1 (fun F h => h) ?_
      obtain rfl := Option.some.inj hf
      exact pm_re (r := some (.inl 0)) (w2 := w) 1 (fun F h => ⟨rfl, h⟩) hq
    · rw [if_neg hc2] at hf
      refine pm_go (i2 := 7) (ls2 := [some (.inl a0), some (.inl a1)]) (st2 := [.inl a1]) (w2 := w) 1 (fun F h => h) ?_
      refine pm_if (P := a1 < 0) (i2 := 15) (i3 := 8) (ls2 := [some (.inl a0), some (.inl a1)]) (st2 := []) (w2 := w) 1 (fun F h => h) (fun hc3 => ?_) (fun hc3 => ?_)
      · rw [if_pos hc3] at hf
        refine pm_go (i2 := 16) (ls2 := [some (.inl a0), some (.inl a1)]) (st2 := [.inl 0]) (w2 := w) 1 (fun F h => h) ?_
        obtain rfl := Option.some.inj hf
        exact pm_re (r := some (.inl 0)) (w2 := w) 1 (fun F h => ⟨rfl, h⟩) hq
      · rw [if_neg hc3] at hf
        obtain ⟨hs4, hf⟩ := pm_itn hf
        refine pm_go (i2 := 12) (ls2 := [some (.inl a0), some (.inl a1)]) (st2 := [.inl (pm_st 37 a0.toNatClampNeg), .inl a1]) (w2 := w) 4 (fun F h => ⟨(pm_inb_in hs4), h⟩) ?_
        have key : pm_Gx (RT d) co_X7_isRow 16 [some (.inl a0), some (.inl a1)] [.inl (if (pm_st 37 a0.toNatClampNeg) ≤ a1 then 0 else 1 : Int32)] w Q := by
          obtain ⟨hz5, hf⟩ := pm_itn hf
          obtain rfl := Option.some.inj hf
          exact pm_re (r := some (.inl (if (pm_st 37 a0.toNatClampNeg) ≤ a1 then 0 else 1 : Int32))) (w2 := w) 1 (fun F h => ⟨pm_isb_nar hz5, h⟩) hq
        clear hf
        refine pm_if (P := (pm_st 37 a0.toNatClampNeg) ≤ a1) (i2 := 15) (i3 := 13) (ls2 := [some (.inl a0), some (.inl a1)]) (st2 := []) (w2 := w) 1 (fun F h => h) (fun hc6 => ?_) (fun hc6 => ?_)
        · try simp only [if_pos hc6] at key
          refine pm_go (i2 := 16) (ls2 := [some (.inl a0), some (.inl a1)]) (st2 := [.inl 0]) (w2 := w) 1 (fun F h => h) ?_
          exact key
        · try simp only [if_neg hc6] at key
          refine pm_go (i2 := 16) (ls2 := [some (.inl a0), some (.inl a1)]) (st2 := [.inl 1]) (w2 := w) 2 (fun F h => h) ?_
          exact key
set_option maxRecDepth 20000 in
set_option maxHeartbeats 4000000 in
theorem a_X7_isRow (F : Nat) (w : pm_W) (a0 : Int32) (a1 : Int32) (x : Int32) (d : Nat) (hd : 1 ≤ d) (hf : f_X7_isRow F w a0 a1 = some x) : RT d 84 [.inl a0, .inl a1] w (some (.inl x)) w := by
  obtain ⟨d, rfl, hd2⟩ := pm_dep hd
  exact pm_start (co := co_X7_isRow) (nL := 2) (by decide) rfl rfl (Nat.le_of_ble_eq_true rfl) (b_X7_isRow F d hd2 _ w a0 a1 x hf ⟨rfl, rfl⟩)
def f_X7_judge (F : Nat) (w : pm_W) (a1 : Int32) (a2 : Int32) : Option ((Int32 × pm_W)) := ((f_X7_isRow F w a1 a2).bind fun r1 => (if r1 = 0 then some ((-2), w) else ((f_X3_firstWrong F w 0 a1 a2).bind fun r4 => some (r4.1, r4.2))))
set_option maxRecDepth 20000 in
set_option maxHeartbeats 4000000 in
theorem b_X7_judge (F : Nat) (d : Nat) (hd : 5 ≤ d) (Q : pm_Q) (w : pm_W) (a1 : Int32) (a2 : Int32) (x : (Int32 × pm_W)) (hf : f_X7_judge F w a1 a2 = some x) (hq : Q (some (.inl x.1)) x.2) : pm_Gx (RT d) co_X7_judge 0 [some (.inr (.inr (0, 0))), some (.inl a1), some (.inl a2)] [] w Q := by
  unfold f_X7_judge at hf
  refine pm_go (i2 := 2) (ls2 := [some (.inr (.inr (0, 0))), some (.inl a1), some (.inl a2)]) (st2 := [.inl a2, .inl a1]) (w2 := w) 2 (fun F h => h) ?_
  obtain ⟨r1, hr2, hf⟩ := Option.bind_eq_some_iff.mp hf
  refine pm_ca (y := 84) (as := [.inl a1, .inl a2]) (r := some (.inl r1)) (w2 := w) (w1 := w) (t := []) (i2 := 3) (ls2 := [some (.inr (.inr (0, 0))), some (.inl a1), some (.inl a2)]) 1 (a_X7_isRow F w a1 a2 r1 d (by omega) hr2) (fun F h => h) ?_
  show pm_Gx (RT d) co_X7_judge 3 [some (.inr (.inr (0, 0))), some (.inl a1), some (.inl a2)] [.inl r1] w Q
  refine pm_if (P := r1 = 0) (i2 := 4) (i3 := 6) (ls2 := [some (.inr (.inr (0, 0))), some (.inl a1), some (.inl a2)]) (st2 := []) (w2 := w) 1 (fun F h => h) (fun hc3 => ?_) (fun hc3 => ?_)
  · rw [if_pos hc3] at hf
    refine pm_go (i2 := 5) (ls2 := [some (.inr (.inr (0, 0))), some (.inl a1), some (.inl a2)]) (st2 := [.inl (-2)]) (w2 := w) 1 (fun F h => h) ?_
    obtain rfl := Option.some.inj hf
    exact pm_re (r := some (.inl (-2))) (w2 := w) 1 (fun F h => h) hq
  · rw [if_neg hc3] at hf
    refine pm_go (i2 := 12) (ls2 := [some (.inr (.inr (0, 0))), some (.inl a1), some (.inl a2)]) (st2 := [.inl a2, .inl a1, .inr (.inr (7, 0)), .inr (.inr (16, 0))]) (w2 := w) 6 (fun F h => h) ?_
    obtain ⟨r4, hr5, hf⟩ := Option.bind_eq_some_iff.mp hf
    refine pm_ca (y := 23) (as := [.inr (.inr (16, 0)), .inr (.inr (7, 0)), .inl a1, .inl a2]) (r := some (.inl r4.1)) (w2 := w) (w1 := r4.2) (t := []) (i2 := 13) (ls2 := [some (.inr (.inr (0, 0))), some (.inl a1), some (.inl a2)]) 1 (a_X3_firstWrong F w 0 a1 a2 r4 d (by omega) hr5) (fun F h => h) ?_
    show pm_Gx (RT d) co_X7_judge 13 [some (.inr (.inr (0, 0))), some (.inl a1), some (.inl a2)] [.inl r4.1] r4.2 Q
    obtain rfl := Option.some.inj hf
    exact pm_re (r := some (.inl r4.1)) (w2 := r4.2) 1 (fun F h => h) hq
set_option maxRecDepth 20000 in
set_option maxHeartbeats 4000000 in
theorem a_X7_judge (F : Nat) (w : pm_W) (a1 : Int32) (a2 : Int32) (x : (Int32 × pm_W)) (d : Nat) (hd : 6 ≤ d) (hf : f_X7_judge F w a1 a2 = some x) : RT d 68 [.inr (.inr (0, 0)), .inl a1, .inl a2] w (some (.inl x.1)) x.2 := by
  obtain ⟨d, rfl, hd2⟩ := pm_dep hd
  exact pm_start (co := co_X7_judge) (nL := 3) (by decide) rfl rfl (Nat.le_of_ble_eq_true rfl) (b_X7_judge F d hd2 _ w a1 a2 x hf ⟨rfl, rfl⟩)
def f_X7_share (F : Nat) (w : pm_W) (a1 : Int32) (a2 : Int32) : Option ((Int32 × pm_W)) := ((f_X5_knows F w a1).bind fun r1 => (if r1 = 0 then some ((-1), w) else ((f_X1_shareOf F w 0 a1 a2).bind fun r4 => some (r4.1, r4.2))))
set_option maxRecDepth 20000 in
set_option maxHeartbeats 4000000 in
theorem b_X7_share (F : Nat) (d : Nat) (hd : 14 ≤ d) (Q : pm_Q) (w : pm_W) (a1 : Int32) (a2 : Int32) (x : (Int32 × pm_W)) (hf : f_X7_share F w a1 a2 = some x) (hq : Q (some (.inl x.1)) x.2) : pm_Gx (RT d) co_X7_share 0 [some (.inr (.inr (0, 0))), some (.inl a1), some (.inl a2)] [] w Q := by
  unfold f_X7_share at hf
  refine pm_go (i2 := 3) (ls2 := [some (.inr (.inr (0, 0))), some (.inl a1), some (.inl a2)]) (st2 := [.inl a1, .inr (.inr (3, 0))]) (w2 := w) 3 (fun F h => h) ?_
  obtain ⟨r1, hr2, hf⟩ := Option.bind_eq_some_iff.mp hf
  refine pm_ca (y := 30) (as := [.inr (.inr (3, 0)), .inl a1]) (r := some (.inl r1)) (w2 := w) (w1 := w) (t := []) (i2 := 4) (ls2 := [some (.inr (.inr (0, 0))), some (.inl a1), some (.inl a2)]) 1 (a_X5_knows F w a1 r1 d (by omega) hr2) (fun F h => h) ?_
  show pm_Gx (RT d) co_X7_share 4 [some (.inr (.inr (0, 0))), some (.inl a1), some (.inl a2)] [.inl r1] w Q
  refine pm_if (P := r1 = 0) (i2 := 5) (i3 := 7) (ls2 := [some (.inr (.inr (0, 0))), some (.inl a1), some (.inl a2)]) (st2 := []) (w2 := w) 1 (fun F h => h) (fun hc3 => ?_) (fun hc3 => ?_)
  · rw [if_pos hc3] at hf
    refine pm_go (i2 := 6) (ls2 := [some (.inr (.inr (0, 0))), some (.inl a1), some (.inl a2)]) (st2 := [.inl (-1)]) (w2 := w) 1 (fun F h => h) ?_
    obtain rfl := Option.some.inj hf
    exact pm_re (r := some (.inl (-1))) (w2 := w) 1 (fun F h => h) hq
  · rw [if_neg hc3] at hf
    refine pm_go (i2 := 13) (ls2 := [some (.inr (.inr (0, 0))), some (.inl a1), some (.inl a2)]) (st2 := [.inl a2, .inl a1, .inr (.inr (7, 0)), .inr (.inr (18, 0))]) (w2 := w) 6 (fun F h => h) ?_
    obtain ⟨r4, hr5, hf⟩ := Option.bind_eq_some_iff.mp hf
    refine pm_ca (y := 3) (as := [.inr (.inr (18, 0)), .inr (.inr (7, 0)), .inl a1, .inl a2]) (r := some (.inl r4.1)) (w2 := w) (w1 := r4.2) (t := []) (i2 := 14) (ls2 := [some (.inr (.inr (0, 0))), some (.inl a1), some (.inl a2)]) 1 (a_X1_shareOf F w 0 a1 a2 r4 d (by omega) hr5) (fun F h => h) ?_
    show pm_Gx (RT d) co_X7_share 14 [some (.inr (.inr (0, 0))), some (.inl a1), some (.inl a2)] [.inl r4.1] r4.2 Q
    obtain rfl := Option.some.inj hf
    exact pm_re (r := some (.inl r4.1)) (w2 := r4.2) 1 (fun F h => h) hq
set_option maxRecDepth 20000 in
set_option maxHeartbeats 4000000 in
theorem a_X7_share (F : Nat) (w : pm_W) (a1 : Int32) (a2 : Int32) (x : (Int32 × pm_W)) (d : Nat) (hd : 15 ≤ d) (hf : f_X7_share F w a1 a2 = some x) : RT d 69 [.inr (.inr (0, 0)), .inl a1, .inl a2] w (some (.inl x.1)) x.2 := by
  obtain ⟨d, rfl, hd2⟩ := pm_dep hd
  exact pm_start (co := co_X7_share) (nL := 3) (by decide) rfl rfl (Nat.le_of_ble_eq_true rfl) (b_X7_share F d hd2 _ w a1 a2 x hf ⟨rfl, rfl⟩)
def f_X7_isWord_L8 (F : Nat) (w : pm_W) : Nat → Int32 → Int32 → Int32 → Option ((Int32) ⊕ Int32)
  | 0, _, _, _ => none
  | n + 1, v0, v1, v2 => (if v0 ≤ v2 then some (.inl v2) else ((f_X7_figureAt F w v0 v1 v2).bind fun r5 => (if r5 ≤ 3 then f_X7_isWord_L8 F w n v0 v1 (v2 + 1) else some (.inr 0))))
def f_X7_isWord (F : Nat) (w : pm_W) (a0 : Int32) (a1 : Int32) : Option (Int32) := ((f_X7_isRow F w a0 a1).bind fun r1 => (if r1 = 0 then some 0 else ((f_X7_isWord_L8 F w F a0 a1 0).bind fun x8 => Sum.elim (fun ex8 => some 1) (fun rx8 => some rx8) x8)))
set_option maxRecDepth 20000 in
set_option maxHeartbeats 4000000 in
theorem a_X7_isWord_L8 (F : Nat) (d : Nat) (hd : 1 ≤ d) (Q : pm_Q) (w : pm_W) : ∀ (n : Nat) (v0 : Int32) (v1 : Int32) (v2 : Int32) (x : (Int32) ⊕ Int32), f_X7_isWord_L8 F w n v0 v1 v2 = some x → (∀ e, x = .inl e → pm_Gx (RT d) co_X7_isWord 21 [some (.inl v0), some (.inl v1), some (.inl e)] [] w Q) → (∀ r, x = .inr r → Q (some (.inl r)) w) → pm_Gx (RT d) co_X7_isWord 8 [some (.inl v0), some (.inl v1), some (.inl v2)] [] w Q := by
  intro n
  induction n with
  | zero =>
    intro v0 v1 v2 x hf
    cases hf
  | succ n ih =>
    intro v0 v1 v2 x hf hk hq
    rw [f_X7_isWord_L8] at hf
    refine pm_go (i2 := 10) (ls2 := [some (.inl v0), some (.inl v1), some (.inl v2)]) (st2 := [.inl v0, .inl v2]) (w2 := w) 2 (fun F h => h) ?_
    refine pm_if (P := v0 ≤ v2) (i2 := 21) (i3 := 11) (ls2 := [some (.inl v0), some (.inl v1), some (.inl v2)]) (st2 := []) (w2 := w) 1 (fun F h => h) (fun hc4 => ?_) (fun hc4 => ?_)
    · rw [if_pos hc4] at hf
      obtain rfl := Option.some.inj hf
      exact hk _ rfl
    · rw [if_neg hc4] at hf
      refine pm_go (i2 := 14) (ls2 := [some (.inl v0), some (.inl v1), some (.inl v2)]) (st2 := [.inl v2, .inl v1, .inl v0]) (w2 := w) 3 (fun F h => h) ?_
      obtain ⟨r5, hr6, hf⟩ := Option.bind_eq_some_iff.mp hf
      refine pm_ca (y := 85) (as := [.inl v0, .inl v1, .inl v2]) (r := some (.inl r5)) (w2 := w) (w1 := w) (t := []) (i2 := 15) (ls2 := [some (.inl v0), some (.inl v1), some (.inl v2)]) 1 (a_X7_figureAt F w v0 v1 v2 r5 d (by omega) hr6) (fun F h => h) ?_
      show pm_Gx (RT d) co_X7_isWord 15 [some (.inl v0), some (.inl v1), some (.inl v2)] [.inl r5] w Q
      refine pm_go (i2 := 16) (ls2 := [some (.inl v0), some (.inl v1), some (.inl v2)]) (st2 := [.inl 3, .inl r5]) (w2 := w) 1 (fun F h => h) ?_
      refine pm_if (P := r5 ≤ 3) (i2 := 19) (i3 := 17) (ls2 := [some (.inl v0), some (.inl v1), some (.inl v2)]) (st2 := []) (w2 := w) 1 (fun F h => h) (fun hc7 => ?_) (fun hc7 => ?_)
      · rw [if_pos hc7] at hf
        refine pm_go (i2 := 8) (ls2 := [some (.inl v0), some (.inl v1), some (.inl (v2 + 1))]) (st2 := []) (w2 := w) 2 (fun F h => h) ?_
        exact ih v0 v1 (v2 + 1) _ hf hk hq
      · rw [if_neg hc7] at hf
        refine pm_go (i2 := 18) (ls2 := [some (.inl v0), some (.inl v1), some (.inl v2)]) (st2 := [.inl 0]) (w2 := w) 1 (fun F h => h) ?_
        obtain rfl := Option.some.inj hf
        exact pm_re (r := some (.inl 0)) (w2 := w) 1 (fun F h => ⟨rfl, h⟩) (hq _ rfl)
set_option maxRecDepth 20000 in
set_option maxHeartbeats 4000000 in
theorem b_X7_isWord (F : Nat) (d : Nat) (hd : 1 ≤ d) (Q : pm_Q) (w : pm_W) (a0 : Int32) (a1 : Int32) (x : Int32) (hf : f_X7_isWord F w a0 a1 = some x) (hq : Q (some (.inl x)) w) : pm_Gx (RT d) co_X7_isWord 0 [some (.inl a0), some (.inl a1), none] [] w Q := by
  unfold f_X7_isWord at hf
  refine pm_go (i2 := 2) (ls2 := [some (.inl a0), some (.inl a1), none]) (st2 := [.inl a1, .inl a0]) (w2 := w) 2 (fun F h => h) ?_
  obtain ⟨r1, hr2, hf⟩ := Option.bind_eq_some_iff.mp hf
  refine pm_ca (y := 84) (as := [.inl a0, .inl a1]) (r := some (.inl r1)) (w2 := w) (w1 := w) (t := []) (i2 := 3) (ls2 := [some (.inl a0), some (.inl a1), none]) 1 (a_X7_isRow F w a0 a1 r1 d (by omega) hr2) (fun F h => h) ?_
  show pm_Gx (RT d) co_X7_isWord 3 [some (.inl a0), some (.inl a1), none] [.inl r1] w Q
  refine pm_if (P := r1 = 0) (i2 := 4) (i3 := 6) (ls2 := [some (.inl a0), some (.inl a1), none]) (st2 := []) (w2 := w) 1 (fun F h => h) (fun hc3 => ?_) (fun hc3 => ?_)
  · rw [if_pos hc3] at hf
    refine pm_go (i2 := 5) (ls2 := [some (.inl a0), some (.inl a1), none]) (st2 := [.inl 0]) (w2 := w) 1 (fun F h => h) ?_
    obtain rfl := Option.some.inj hf
    exact pm_re (r := some (.inl 0)) (w2 := w) 1 (fun F h => ⟨rfl, h⟩) hq
  · rw [if_neg hc3] at hf
    refine pm_go (i2 := 8) (ls2 := [some (.inl a0), some (.inl a1), some (.inl 0)]) (st2 := []) (w2 := w) 2 (fun F h => h) ?_
    obtain ⟨x8, hx9, hf⟩ := Option.bind_eq_some_iff.mp hf
    refine a_X7_isWord_L8 F d hd Q w F a0 a1 0 x8 hx9 (fun ex8 hx8 => ?_) (fun rx8 hx8 => ?_)
    · subst hx8
      change _ = _ at hf
      refine pm_go (i2 := 22) (ls2 := [some (.inl a0), some (.inl a1), some (.inl ex8)]) (st2 := [.inl 1]) (w2 := w) 1 (fun F h => h) ?_
      obtain rfl := Option.some.inj hf
      exact pm_re (r := some (.inl 1)) (w2 := w) 1 (fun F h => ⟨rfl, h⟩) hq
    · subst hx8
      obtain rfl := Option.some.inj (show some rx8 = some x from hf)
      exact hq
set_option maxRecDepth 20000 in
set_option maxHeartbeats 4000000 in
theorem a_X7_isWord (F : Nat) (w : pm_W) (a0 : Int32) (a1 : Int32) (x : Int32) (d : Nat) (hd : 2 ≤ d) (hf : f_X7_isWord F w a0 a1 = some x) : RT d 86 [.inl a0, .inl a1] w (some (.inl x)) w := by
  obtain ⟨d, rfl, hd2⟩ := pm_dep hd
  exact pm_start (co := co_X7_isWord) (nL := 3) (by decide) rfl rfl (Nat.le_of_ble_eq_true rfl) (b_X7_isWord F d hd2 _ w a0 a1 x hf ⟨rfl, rfl⟩)
def f_J9_floorMod (F : Nat) (w : pm_W) (a0 : Int32) (a1 : Int32) : Option (Int32) := (if pm_nz a1 = true then (if 0 ≤ (a0 ^^^ a1) then some (a0 - a0 / a1 * a1) else (if (a0 - a0 / a1 * a1) = 0 then some (a0 - a0 / a1 * a1) else some ((a0 - a0 / a1 * a1) + a1))) else none)
set_option maxRecDepth 20000 in
set_option maxHeartbeats 4000000 in
theorem b_J9_floorMod (F : Nat) (d : Nat) (hd : 0 ≤ d) (Q : pm_Q) (w : pm_W) (a0 : Int32) (a1 : Int32) (x : Int32) (hf : f_J9_floorMod F w a0 a1 = some x) (hq : Q (some (.inl x)) w) : pm_Gx (RT d) co_J9_floorMod_7cf53 0 [some (.inl a0), some (.inl a1), none] [] w Q := by
  unfold f_J9_floorMod at hf
  obtain ⟨hs1, hf⟩ := pm_itn hf
  refine pm_go (i2 := 7) (ls2 := [some (.inl a0), some (.inl a1), some (.inl (a0 - a0 / a1 * a1))]) (st2 := [.inl (a0 ^^^ a1)]) (w2 := w) 7 (fun F h => ⟨(pm_nz_ne hs1), h⟩) ?_
  refine pm_if (P := 0 ≤ (a0 ^^^ a1)) (i2 := 14) (i3 := 8) (ls2 := [some (.inl a0), some (.inl a1), some (.inl (a0 - a0 / a1 * a1))]) (st2 := []) (w2 := w) 1 (fun F h => h) (fun hc2 => ?_) (fun hc2 => ?_)
  · rw [if_pos hc2] at hf
    refine pm_go (i2 := 15) (ls2 := [some (.inl a0), some (.inl a1), some (.inl (a0 - a0 / a1 * a1))]) (st2 := [.inl (a0 - a0 / a1 * a1)]) (w2 := w) 1 (fun F h => h) ?_
    obtain rfl := Option.some.inj hf
    exact pm_re (r := some (.inl (a0 - a0 / a1 * a1))) (w2 := w) 1 (fun F h => h) hq
  · rw [if_neg hc2] at hf
    refine pm_go (i2 := 9) (ls2 := [some (.inl a0), some (.inl a1), some (.inl (a0 - a0 / a1 * a1))]) (st2 := [.inl (a0 - a0 / a1 * a1)]) (w2 := w) 1 (fun F h => h) ?_
    refine pm_if (P := (a0 - a0 / a1 * a1) = 0) (i2 := 14) (i3 := 10) (ls2 := [some (.inl a0), some (.inl a1), some (.inl (a0 - a0 / a1 * a1))]) (st2 := []) (w2 := w) 1 (fun F h => h) (fun hc3 => ?_) (fun hc3 => ?_)
    · rw [if_pos hc3] at hf
      refine pm_go (i2 := 15) (ls2 := [some (.inl a0), some (.inl a1), some (.inl (a0 - a0 / a1 * a1))]) (st2 := [.inl (a0 - a0 / a1 * a1)]) (w2 := w) 1 (fun F h => h) ?_
      obtain rfl := Option.some.inj hf
      exact pm_re (r := some (.inl (a0 - a0 / a1 * a1))) (w2 := w) 1 (fun F h => h) hq
    · rw [if_neg hc3] at hf
      refine pm_go (i2 := 13) (ls2 := [some (.inl a0), some (.inl a1), some (.inl (a0 - a0 / a1 * a1))]) (st2 := [.inl ((a0 - a0 / a1 * a1) + a1)]) (w2 := w) 3 (fun F h => h) ?_
      obtain rfl := Option.some.inj hf
      exact pm_re (r := some (.inl ((a0 - a0 / a1 * a1) + a1))) (w2 := w) 1 (fun F h => h) hq
set_option maxRecDepth 20000 in
set_option maxHeartbeats 4000000 in
theorem a_J9_floorMod (F : Nat) (w : pm_W) (a0 : Int32) (a1 : Int32) (x : Int32) (d : Nat) (hd : 1 ≤ d) (hf : f_J9_floorMod F w a0 a1 = some x) : RT d 152 [.inl a0, .inl a1] w (some (.inl x)) w := by
  obtain ⟨d, rfl, hd2⟩ := pm_dep hd
  exact pm_start (co := co_J9_floorMod_7cf53) (nL := 3) (by decide) rfl rfl (Nat.le_of_ble_eq_true rfl) (b_J9_floorMod F d hd2 _ w a0 a1 x hf ⟨rfl, rfl⟩)
def f_X7_turned_L4 (F : Nat) (w : pm_W) : Nat → Int32 → Int32 → Int32 → Int32 → Int32 → Option (Int32 × Int32)
  | 0, _, _, _, _, _ => none
  | n + 1, v0, v1, v2, v3, v4 => (if v0 ≤ v4 then some (v3, v4) else ((f_X7_figureAt F w v0 v1 v4).bind fun r2 => ((f_J9_floorMod F w (r2 + v2) 4).bind fun r4 => f_X7_turned_L4 F w n v0 v1 v2 ((v3 * 10) + r4) (v4 + 1))))
def f_X7_turned (F : Nat) (w : pm_W) (a0 : Int32) (a1 : Int32) (a2 : Int32) : Option (Int32) := ((f_X7_turned_L4 F w F a0 a1 a2 0 0).bind fun x6 => some x6.1)
set_option maxRecDepth 20000 in
set_option maxHeartbeats 4000000 in
theorem a_X7_turned_L4 (F : Nat) (d : Nat) (hd : 1 ≤ d) (Q : pm_Q) (w : pm_W) : ∀ (n : Nat) (v0 : Int32) (v1 : Int32) (v2 : Int32) (v3 : Int32) (v4 : Int32) (x : Int32 × Int32), f_X7_turned_L4 F w n v0 v1 v2 v3 v4 = some x → pm_Gx (RT d) co_X7_turned 22 [some (.inl v0), some (.inl v1), some (.inl v2), some (.inl x.1), some (.inl x.2)] [] w Q → pm_Gx (RT d) co_X7_turned 4 [some (.inl v0), some (.inl v1), some (.inl v2), some (.inl v3), some (.inl v4)] [] w Q := by
  intro n
  induction n with
  | zero =>
    intro v0 v1 v2 v3 v4 x hf
    cases hf
  | succ n ih =>
    intro v0 v1 v2 v3 v4 x hf hk
    rw [f_X7_turned_L4] at hf
    refine pm_go (i2 := 6) (ls2 := [some (.inl v0), some (.inl v1), some (.inl v2), some (.inl v3), some (.inl v4)]) (st2 := [.inl v0, .inl v4]) (w2 := w) 2 (fun F h => h) ?_
    refine pm_if (P := v0 ≤ v4) (i2 := 22) (i3 := 7) (ls2 := [some (.inl v0), some (.inl v1), some (.inl v2), some (.inl v3), some (.inl v4)]) (st2 := []) (w2 := w) 1 (fun F h => h) (fun hc1 => ?_) (fun hc1 => ?_)
    · rw [if_pos hc1] at hf
      obtain rfl := Option.some.inj hf
      exact hk
    · rw [if_neg hc1] at hf
      refine pm_go (i2 := 13) (ls2 := [some (.inl v0), some (.inl v1), some (.inl v2), some (.inl v3), some (.inl v4)]) (st2 := [.inl v4, .inl v1, .inl v0, .inl (v3 * 10)]) (w2 := w) 6 (fun F h => h) ?_
      obtain ⟨r2, hr3, hf⟩ := Option.bind_eq_some_iff.mp hf
      refine pm_ca (y := 85) (as := [.inl v0, .inl v1, .inl v4]) (r := some (.inl r2)) (w2 := w) (w1 := w) (t := [.inl (v3 * 10)]) (i2 := 14) (ls2 := [some (.inl v0), some (.inl v1), some (.inl v2), some (.inl v3), some (.inl v4)]) 1 (a_X7_figureAt F w v0 v1 v4 r2 d (by omega) hr3) (fun F h => h) ?_
      show pm_Gx (RT d) co_X7_turned 14 [some (.inl v0), some (.inl v1), some (.inl v2), some (.inl v3), some (.inl v4)] [.inl r2, .inl (v3 * 10)] w Q
      refine pm_go (i2 := 17) (ls2 := [some (.inl v0), some (.inl v1), some (.inl v2), some (.inl v3), some (.inl v4)]) (st2 := [.inl 4, .inl (r2 + v2), .inl (v3 * 10)]) (w2 := w) 3 (fun F h => h) ?_
      obtain ⟨r4, hr5, hf⟩ := Option.bind_eq_some_iff.mp hf
      refine pm_ca (y := 152) (as := [.inl (r2 + v2), .inl 4]) (r := some (.inl r4)) (w2 := w) (w1 := w) (t := [.inl (v3 * 10)]) (i2 := 18) (ls2 := [some (.inl v0), some (.inl v1), some (.inl v2), some (.inl v3), some (.inl v4)]) 1 (a_J9_floorMod F w (r2 + v2) 4 r4 d (by omega) hr5) (fun F h => h) ?_
      show pm_Gx (RT d) co_X7_turned 18 [some (.inl v0), some (.inl v1), some (.inl v2), some (.inl v3), some (.inl v4)] [.inl r4, .inl (v3 * 10)] w Q
      refine pm_go (i2 := 4) (ls2 := [some (.inl v0), some (.inl v1), some (.inl v2), some (.inl ((v3 * 10) + r4)), some (.inl (v4 + 1))]) (st2 := []) (w2 := w) 4 (fun F h => h) ?_
      exact ih v0 v1 v2 ((v3 * 10) + r4) (v4 + 1) _ hf hk
set_option maxRecDepth 20000 in
set_option maxHeartbeats 4000000 in
theorem b_X7_turned (F : Nat) (d : Nat) (hd : 1 ≤ d) (Q : pm_Q) (w : pm_W) (a0 : Int32) (a1 : Int32) (a2 : Int32) (x : Int32) (hf : f_X7_turned F w a0 a1 a2 = some x) (hq : Q (some (.inl x)) w) : pm_Gx (RT d) co_X7_turned 0 [some (.inl a0), some (.inl a1), some (.inl a2), none, none] [] w Q := by
  unfold f_X7_turned at hf
  refine pm_go (i2 := 4) (ls2 := [some (.inl a0), some (.inl a1), some (.inl a2), some (.inl 0), some (.inl 0)]) (st2 := []) (w2 := w) 4 (fun F h => h) ?_
  obtain ⟨x6, hx7, hf⟩ := Option.bind_eq_some_iff.mp hf
  refine a_X7_turned_L4 F d hd Q w F a0 a1 a2 0 0 x6 hx7 ?_
  refine pm_go (i2 := 23) (ls2 := [some (.inl a0), some (.inl a1), some (.inl a2), some (.inl x6.1), some (.inl x6.2)]) (st2 := [.inl x6.1]) (w2 := w) 1 (fun F h => h) ?_
  obtain rfl := Option.some.inj hf
  exact pm_re (r := some (.inl x6.1)) (w2 := w) 1 (fun F h => h) hq
set_option maxRecDepth 20000 in
set_option maxHeartbeats 4000000 in
theorem a_X7_turned (F : Nat) (w : pm_W) (a0 : Int32) (a1 : Int32) (a2 : Int32) (x : Int32) (d : Nat) (hd : 2 ≤ d) (hf : f_X7_turned F w a0 a1 a2 = some x) : RT d 87 [.inl a0, .inl a1, .inl a2] w (some (.inl x)) w := by
  obtain ⟨d, rfl, hd2⟩ := pm_dep hd
  exact pm_start (co := co_X7_turned) (nL := 5) (by decide) rfl rfl (Nat.le_of_ble_eq_true rfl) (b_X7_turned F d hd2 _ w a0 a1 a2 x hf ⟨rfl, rfl⟩)
def f_X7_comes (F : Nat) (w : pm_W) (a1 : Int32) (a2 : Int32) : Option (Int32) := ((f_X7_isWord F w a1 a2).bind fun r1 => (if r1 = 0 then some (-2) else ((f_X5_turnOfEars F w 0).bind fun r4 => ((f_X7_turned F w a1 a2 r4).bind fun r6 => some r6))))
set_option maxRecDepth 20000 in
set_option maxHeartbeats 4000000 in
theorem b_X7_comes (F : Nat) (d : Nat) (hd : 3 ≤ d) (Q : pm_Q) (w : pm_W) (a1 : Int32) (a2 : Int32) (x : Int32) (hf : f_X7_comes F w a1 a2 = some x) (hq : Q (some (.inl x)) w) : pm_Gx (RT d) co_X7_comes 0 [some (.inr (.inr (0, 0))), some (.inl a1), some (.inl a2)] [] w Q := by
  unfold f_X7_comes at hf
  refine pm_go (i2 := 2) (ls2 := [some (.inr (.inr (0, 0))), some (.inl a1), some (.inl a2)]) (st2 := [.inl a2, .inl a1]) (w2 := w) 2 (fun F h => h) ?_
  obtain ⟨r1, hr2, hf⟩ := Option.bind_eq_some_iff.mp hf
  refine pm_ca (y := 86) (as := [.inl a1, .inl a2]) (r := some (.inl r1)) (w2 := w) (w1 := w) (t := []) (i2 := 3) (ls2 := [some (.inr (.inr (0, 0))), some (.inl a1), some (.inl a2)]) 1 (a_X7_isWord F w a1 a2 r1 d (by omega) hr2) (fun F h => h) ?_
  show pm_Gx (RT d) co_X7_comes 3 [some (.inr (.inr (0, 0))), some (.inl a1), some (.inl a2)] [.inl r1] w Q
  refine pm_if (P := r1 = 0) (i2 := 13) (i3 := 4) (ls2 := [some (.inr (.inr (0, 0))), some (.inl a1), some (.inl a2)]) (st2 := []) (w2 := w) 1 (fun F h => h) (fun hc3 => ?_) (fun hc3 => ?_)
  · rw [if_pos hc3] at hf
    refine pm_go (i2 := 14) (ls2 := [some (.inr (.inr (0, 0))), some (.inl a1), some (.inl a2)]) (st2 := [.inl (-2)]) (w2 := w) 1 (fun F h => h) ?_
    obtain rfl := Option.some.inj hf
    exact pm_re (r := some (.inl (-2))) (w2 := w) 1 (fun F h => h) hq
  · rw [if_neg hc3] at hf
    refine pm_go (i2 := 10) (ls2 := [some (.inr (.inr (0, 0))), some (.inl a1), some (.inl a2)]) (st2 := [.inr (.inr (7, 0)), .inr (.inr (3, 0)), .inl a2, .inl a1]) (w2 := w) 6 (fun F h => h) ?_
    obtain ⟨r4, hr5, hf⟩ := Option.bind_eq_some_iff.mp hf
    refine pm_ca (y := 39) (as := [.inr (.inr (3, 0)), .inr (.inr (7, 0))]) (r := some (.inl r4)) (w2 := w) (w1 := w) (t := [.inl a2, .inl a1]) (i2 := 11) (ls2 := [some (.inr (.inr (0, 0))), some (.inl a1), some (.inl a2)]) 1 (a_X5_turnOfEars F w 0 r4 d (by omega) hr5) (fun F h => h) ?_
    show pm_Gx (RT d) co_X7_comes 11 [some (.inr (.inr (0, 0))), some (.inl a1), some (.inl a2)] [.inl r4, .inl a2, .inl a1] w Q
    obtain ⟨r6, hr7, hf⟩ := Option.bind_eq_some_iff.mp hf
    refine pm_ca (y := 87) (as := [.inl a1, .inl a2, .inl r4]) (r := some (.inl r6)) (w2 := w) (w1 := w) (t := []) (i2 := 12) (ls2 := [some (.inr (.inr (0, 0))), some (.inl a1), some (.inl a2)]) 1 (a_X7_turned F w a1 a2 r4 r6 d (by omega) hr7) (fun F h => h) ?_
    show pm_Gx (RT d) co_X7_comes 12 [some (.inr (.inr (0, 0))), some (.inl a1), some (.inl a2)] [.inl r6] w Q
    refine pm_go (i2 := 14) (ls2 := [some (.inr (.inr (0, 0))), some (.inl a1), some (.inl a2)]) (st2 := [.inl r6]) (w2 := w) 1 (fun F h => h) ?_
    obtain rfl := Option.some.inj hf
    exact pm_re (r := some (.inl r6)) (w2 := w) 1 (fun F h => h) hq
set_option maxRecDepth 20000 in
set_option maxHeartbeats 4000000 in
theorem a_X7_comes (F : Nat) (w : pm_W) (a1 : Int32) (a2 : Int32) (x : Int32) (d : Nat) (hd : 4 ≤ d) (hf : f_X7_comes F w a1 a2 = some x) : RT d 70 [.inr (.inr (0, 0)), .inl a1, .inl a2] w (some (.inl x)) w := by
  obtain ⟨d, rfl, hd2⟩ := pm_dep hd
  exact pm_start (co := co_X7_comes) (nL := 3) (by decide) rfl rfl (Nat.le_of_ble_eq_true rfl) (b_X7_comes F d hd2 _ w a1 a2 x hf ⟨rfl, rfl⟩)
def f_X7_spoken (F : Nat) (w : pm_W) (a1 : Int32) (a2 : Int32) : Option (Int32) := ((f_X7_isWord F w a1 a2).bind fun r1 => (if r1 = 0 then some (-2) else ((f_X5_turnOfEars F w 0).bind fun r4 => ((f_X7_turned F w a1 a2 (-r4)).bind fun r6 => some r6))))
set_option maxRecDepth 20000 in
set_option maxHeartbeats 4000000 in
theorem b_X7_spoken (F : Nat) (d : Nat) (hd : 3 ≤ d) (Q : pm_Q) (w : pm_W) (a1 : Int32) (a2 : Int32) (x : Int32) (hf : f_X7_spoken F w a1 a2 = some x) (hq : Q (some (.inl x)) w) : pm_Gx (RT d) co_X7_spoken 0 [some (.inr (.inr (0, 0))), some (.inl a1), some (.inl a2)] [] w Q := by
  unfold f_X7_spoken at hf
  refine pm_go (i2 := 2) (ls2 := [some (.inr (.inr (0, 0))), some (.inl a1), some (.inl a2)]) (st2 := [.inl a2, .inl a1]) (w2 := w) 2 (fun F h => h) ?_
  obtain ⟨r1, hr2, hf⟩ := Option.bind_eq_some_iff.mp hf
  refine pm_ca (y := 86) (as := [.inl a1, .inl a2]) (r := some (.inl r1)) (w2 := w) (w1 := w) (t := []) (i2 := 3) (ls2 := [some (.inr (.inr (0, 0))), some (.inl a1), some (.inl a2)]) 1 (a_X7_isWord F w a1 a2 r1 d (by omega) hr2) (fun F h => h) ?_
  show pm_Gx (RT d) co_X7_spoken 3 [some (.inr (.inr (0, 0))), some (.inl a1), some (.inl a2)] [.inl r1] w Q
  refine pm_if (P := r1 = 0) (i2 := 14) (i3 := 4) (ls2 := [some (.inr (.inr (0, 0))), some (.inl a1), some (.inl a2)]) (st2 := []) (w2 := w) 1 (fun F h => h) (fun hc3 => ?_) (fun hc3 => ?_)
  · rw [if_pos hc3] at hf
    refine pm_go (i2 := 15) (ls2 := [some (.inr (.inr (0, 0))), some (.inl a1), some (.inl a2)]) (st2 := [.inl (-2)]) (w2 := w) 1 (fun F h => h) ?_
    obtain rfl := Option.some.inj hf
    exact pm_re (r := some (.inl (-2))) (w2 := w) 1 (fun F h => h) hq
  · rw [if_neg hc3] at hf
    refine pm_go (i2 := 10) (ls2 := [some (.inr (.inr (0, 0))), some (.inl a1), some (.inl a2)]) (st2 := [.inr (.inr (7, 0)), .inr (.inr (3, 0)), .inl a2, .inl a1]) (w2 := w) 6 (fun F h => h) ?_
    obtain ⟨r4, hr5, hf⟩ := Option.bind_eq_some_iff.mp hf
    refine pm_ca (y := 39) (as := [.inr (.inr (3, 0)), .inr (.inr (7, 0))]) (r := some (.inl r4)) (w2 := w) (w1 := w) (t := [.inl a2, .inl a1]) (i2 := 11) (ls2 := [some (.inr (.inr (0, 0))), some (.inl a1), some (.inl a2)]) 1 (a_X5_turnOfEars F w 0 r4 d (by omega) hr5) (fun F h => h) ?_
    show pm_Gx (RT d) co_X7_spoken 11 [some (.inr (.inr (0, 0))), some (.inl a1), some (.inl a2)] [.inl r4, .inl a2, .inl a1] w Q
    refine pm_go (i2 := 12) (ls2 := [some (.inr (.inr (0, 0))), some (.inl a1), some (.inl a2)]) (st2 := [.inl (-r4), .inl a2, .inl a1]) (w2 := w) 1 (fun F h => h) ?_
    obtain ⟨r6, hr7, hf⟩ := Option.bind_eq_some_iff.mp hf
    refine pm_ca (y := 87) (as := [.inl a1, .inl a2, .inl (-r4)]) (r := some (.inl r6)) (w2 := w) (w1 := w) (t := []) (i2 := 13) (ls2 := [some (.inr (.inr (0, 0))), some (.inl a1), some (.inl a2)]) 1 (a_X7_turned F w a1 a2 (-r4) r6 d (by omega) hr7) (fun F h => h) ?_
    show pm_Gx (RT d) co_X7_spoken 13 [some (.inr (.inr (0, 0))), some (.inl a1), some (.inl a2)] [.inl r6] w Q
    refine pm_go (i2 := 15) (ls2 := [some (.inr (.inr (0, 0))), some (.inl a1), some (.inl a2)]) (st2 := [.inl r6]) (w2 := w) 1 (fun F h => h) ?_
    obtain rfl := Option.some.inj hf
    exact pm_re (r := some (.inl r6)) (w2 := w) 1 (fun F h => h) hq
set_option maxRecDepth 20000 in
set_option maxHeartbeats 4000000 in
theorem a_X7_spoken (F : Nat) (w : pm_W) (a1 : Int32) (a2 : Int32) (x : Int32) (d : Nat) (hd : 4 ≤ d) (hf : f_X7_spoken F w a1 a2 = some x) : RT d 71 [.inr (.inr (0, 0)), .inl a1, .inl a2] w (some (.inl x)) w := by
  obtain ⟨d, rfl, hd2⟩ := pm_dep hd
  exact pm_start (co := co_X7_spoken) (nL := 3) (by decide) rfl rfl (Nat.le_of_ble_eq_true rfl) (b_X7_spoken F d hd2 _ w a1 a2 x hf ⟨rfl, rfl⟩)
def f_X7_dine (F : Nat) (w : pm_W) (a1 : Int32) (a2 : Int32) : Option ((Int32 × pm_W)) := (if a1 < 0 then some ((-2), w) else (if (pm_st 37 4) ≤ a1 then some ((-2), w) else (if a2 < (-40) then some ((-2), w) else (if a2 ≤ 40 then ((f_X2_append F w a1 a2).bind fun r5 => some ((if r5.1 = 0 then (-4) else r5.2.1 13 0 2 : Int32), r5.2)) else some ((-2), w)))))
set_option maxRecDepth 20000 in
set_option maxHeartbeats 4000000 in
theorem b_X7_dine (F : Nat) (d : Nat) (hd : 1 ≤ d) (Q : pm_Q) (w : pm_W) (a1 : Int32) (a2 : Int32) (x : (Int32 × pm_W)) (hf : f_X7_dine F w a1 a2 = some x) (hq : Q (some (.inl x.1)) x.2) : pm_Gx (RT d) co_X7_dine 0 [some (.inr (.inr (0, 0))), some (.inl a1), some (.inl a2)] [] w Q := by
  unfold f_X7_dine at hf
  refine pm_go (i2 := 1) (ls2 := [some (.inr (.inr (0, 0))), some (.inl a1), some (.inl a2)]) (st2 := [.inl a1]) (w2 := w) 1 (fun F h => h) ?_
  refine pm_if (P := a1 < 0) (i2 := 13) (i3 := 2) (ls2 := [some (.inr (.inr (0, 0))), some (.inl a1), some (.inl a2)]) (st2 := []) (w2 := w) 1 (fun F h => h) (fun hc1 => ?_) (fun hc1 => ?_)
  · rw [if_pos hc1] at hf
    refine pm_go (i2 := 14) (ls2 := [some (.inr (.inr (0, 0))), some (.inl a1), some (.inl a2)]) (st2 := [.inl (-2)]) (w2 := w) 1 (fun F h => h) ?_
    obtain rfl := Option.some.inj hf
    exact pm_re (r := some (.inl (-2))) (w2 := w) 1 (fun F h => h) hq
  · rw [if_neg hc1] at hf
    refine pm_go (i2 := 6) (ls2 := [some (.inr (.inr (0, 0))), some (.inl a1), some (.inl a2)]) (st2 := [.inl (pm_st 37 4), .inl a1]) (w2 := w) 4 (fun F h => ⟨(pm_inb_in (by decide)), h⟩) ?_
    refine pm_if (P := (pm_st 37 4) ≤ a1) (i2 := 13) (i3 := 7) (ls2 := [some (.inr (.inr (0, 0))), some (.inl a1), some (.inl a2)]) (st2 := []) (w2 := w) 1 (fun F h => h) (fun hc2 => ?_) (fun hc2 => ?_)
    · rw [if_pos hc2] at hf
      refine pm_go (i2 := 14) (ls2 := [some (.inr (.inr (0, 0))), some (.inl a1), some (.inl a2)]) (st2 := [.inl (-2)]) (w2 := w) 1 (fun F h => h) ?_
      obtain rfl := Option.some.inj hf
      exact pm_re (r := some (.inl (-2))) (w2 := w) 1 (fun F h => h) hq
    · rw [if_neg hc2] at hf
      refine pm_go (i2 := 9) (ls2 := [some (.inr (.inr (0, 0))), some (.inl a1), some (.inl a2)]) (st2 := [.inl (-40), .inl a2]) (w2 := w) 2 (fun F h => h) ?_
      refine pm_if (P := a2 < (-40)) (i2 := 13) (i3 := 10) (ls2 := [some (.inr (.inr (0, 0))), some (.inl a1), some (.inl a2)]) (st2 := []) (w2 := w) 1 (fun F h => h) (fun hc3 => ?_) (fun hc3 => ?_)
      · rw [if_pos hc3] at hf
        refine pm_go (i2 := 14) (ls2 := [some (.inr (.inr (0, 0))), some (.inl a1), some (.inl a2)]) (st2 := [.inl (-2)]) (w2 := w) 1 (fun F h => h) ?_
        obtain rfl := Option.some.inj hf
        exact pm_re (r := some (.inl (-2))) (w2 := w) 1 (fun F h => h) hq
      · rw [if_neg hc3] at hf
        refine pm_go (i2 := 12) (ls2 := [some (.inr (.inr (0, 0))), some (.inl a1), some (.inl a2)]) (st2 := [.inl 40, .inl a2]) (w2 := w) 2 (fun F h => h) ?_
        refine pm_if (P := a2 ≤ 40) (i2 := 15) (i3 := 13) (ls2 := [some (.inr (.inr (0, 0))), some (.inl a1), some (.inl a2)]) (st2 := []) (w2 := w) 1 (fun F h => h) (fun hc4 => ?_) (fun hc4 => ?_)
        · rw [if_pos hc4] at hf
          refine pm_go (i2 := 19) (ls2 := [some (.inr (.inr (0, 0))), some (.inl a1), some (.inl a2)]) (st2 := [.inl a2, .inl a1, .inr (.inr (13, 0))]) (w2 := w) 4 (fun F h => h) ?_
          obtain ⟨r5, hr6, hf⟩ := Option.bind_eq_some_iff.mp hf
          refine pm_ca (y := 11) (as := [.inr (.inr (13, 0)), .inl a1, .inl a2]) (r := some (.inl r5.1)) (w2 := w) (w1 := r5.2) (t := []) (i2 := 20) (ls2 := [some (.inr (.inr (0, 0))), some (.inl a1), some (.inl a2)]) 1 (a_X2_append F w a1 a2 r5 d (by omega) hr6) (fun F h => h) ?_
          show pm_Gx (RT d) co_X7_dine 20 [some (.inr (.inr (0, 0))), some (.inl a1), some (.inl a2)] [.inl r5.1] r5.2 Q
          have key : pm_Gx (RT d) co_X7_dine 26 [some (.inr (.inr (0, 0))), some (.inl a1), some (.inl a2)] [.inl (if r5.1 = 0 then (-4) else r5.2.1 13 0 2 : Int32)] r5.2 Q := by
            obtain rfl := Option.some.inj hf
            exact pm_re (r := some (.inl (if r5.1 = 0 then (-4) else r5.2.1 13 0 2 : Int32))) (w2 := r5.2) 1 (fun F h => h) hq
          clear hf
          refine pm_if (P := r5.1 = 0) (i2 := 25) (i3 := 21) (ls2 := [some (.inr (.inr (0, 0))), some (.inl a1), some (.inl a2)]) (st2 := []) (w2 := r5.2) 1 (fun F h => h) (fun hc7 => ?_) (fun hc7 => ?_)
          · try simp only [if_pos hc7] at key
            refine pm_go (i2 := 26) (ls2 := [some (.inr (.inr (0, 0))), some (.inl a1), some (.inl a2)]) (st2 := [.inl (-4)]) (w2 := r5.2) 1 (fun F h => h) ?_
            exact key
          · try simp only [if_neg hc7] at key
            refine pm_go (i2 := 26) (ls2 := [some (.inr (.inr (0, 0))), some (.inl a1), some (.inl a2)]) (st2 := [.inl (r5.2.1 13 0 2)]) (w2 := r5.2) 4 (fun F h => h) ?_
            exact key
        · rw [if_neg hc4] at hf
          refine pm_go (i2 := 14) (ls2 := [some (.inr (.inr (0, 0))), some (.inl a1), some (.inl a2)]) (st2 := [.inl (-2)]) (w2 := w) 1 (fun F h => h) ?_
          obtain rfl := Option.some.inj hf
          exact pm_re (r := some (.inl (-2))) (w2 := w) 1 (fun F h => h) hq
set_option maxRecDepth 20000 in
set_option maxHeartbeats 4000000 in
theorem a_X7_dine (F : Nat) (w : pm_W) (a1 : Int32) (a2 : Int32) (x : (Int32 × pm_W)) (d : Nat) (hd : 2 ≤ d) (hf : f_X7_dine F w a1 a2 = some x) : RT d 72 [.inr (.inr (0, 0)), .inl a1, .inl a2] w (some (.inl x.1)) x.2 := by
  obtain ⟨d, rfl, hd2⟩ := pm_dep hd
  exact pm_start (co := co_X7_dine) (nL := 3) (by decide) rfl rfl (Nat.le_of_ble_eq_true rfl) (b_X7_dine F d hd2 _ w a1 a2 x hf ⟨rfl, rfl⟩)
def f_X7_clear (F : Nat) (w : pm_W) : Option ((Int32 × pm_W)) := (pm_wlet (pm_setI w 13 0 2 0) fun w1 => some (w.1 13 0 2, w1))
set_option maxRecDepth 20000 in
set_option maxHeartbeats 4000000 in
theorem b_X7_clear (F : Nat) (d : Nat) (hd : 0 ≤ d) (Q : pm_Q) (w : pm_W) (x : (Int32 × pm_W)) (hf : f_X7_clear F w = some x) (hq : Q (some (.inl x.1)) x.2) : pm_Gx (RT d) co_X7_clear 0 [some (.inr (.inr (0, 0))), none] [] w Q := by
  unfold f_X7_clear at hf
  refine pm_go (i2 := 8) (ls2 := [some (.inr (.inr (0, 0))), some (.inl (w.1 13 0 2))]) (st2 := []) (w2 := (pm_setI w 13 0 2 0)) 8 (fun F h => h) ?_
  generalize (pm_setI w 13 0 2 0) = w1 at hf ⊢
  replace hf := pm_wlet_un hf
  refine pm_go (i2 := 9) (ls2 := [some (.inr (.inr (0, 0))), some (.inl (w.1 13 0 2))]) (st2 := [.inl (w.1 13 0 2)]) (w2 := w1) 1 (fun F h => h) ?_
  obtain rfl := Option.some.inj hf
  exact pm_re (r := some (.inl (w.1 13 0 2))) (w2 := w1) 1 (fun F h => h) hq
set_option maxRecDepth 20000 in
set_option maxHeartbeats 4000000 in
theorem a_X7_clear (F : Nat) (w : pm_W) (x : (Int32 × pm_W)) (d : Nat) (hd : 1 ≤ d) (hf : f_X7_clear F w = some x) : RT d 73 [.inr (.inr (0, 0))] w (some (.inl x.1)) x.2 := by
  obtain ⟨d, rfl, hd2⟩ := pm_dep hd
  exact pm_start (co := co_X7_clear) (nL := 2) (by decide) rfl rfl (Nat.le_of_ble_eq_true rfl) (b_X7_clear F d hd2 _ w x hf ⟨rfl, rfl⟩)
def f_X7_laws (F : Nat) (w : pm_W) (a1 : Int32) : Option ((Int32 × pm_W)) := (if a1 < 0 then some ((-2), w) else (if a1 ≤ 2 then ((f_X2_findLaws F w).bind fun r3 => (if a1 = 0 then some (r3.1 13 0 3, r3) else some ((if a1 = 1 then r3.1 13 0 4 else r3.1 13 0 5 : Int32), r3))) else some ((-2), w)))
set_option maxRecDepth 20000 in
set_option maxHeartbeats 4000000 in
theorem b_X7_laws (F : Nat) (d : Nat) (hd : 3 ≤ d) (Q : pm_Q) (w : pm_W) (a1 : Int32) (x : (Int32 × pm_W)) (hf : f_X7_laws F w a1 = some x) (hq : Q (some (.inl x.1)) x.2) : pm_Gx (RT d) co_X7_laws 0 [some (.inr (.inr (0, 0))), some (.inl a1)] [] w Q := by
  unfold f_X7_laws at hf
  refine pm_go (i2 := 1) (ls2 := [some (.inr (.inr (0, 0))), some (.inl a1)]) (st2 := [.inl a1]) (w2 := w) 1 (fun F h => h) ?_
  refine pm_if (P := a1 < 0) (i2 := 5) (i3 := 2) (ls2 := [some (.inr (.inr (0, 0))), some (.inl a1)]) (st2 := []) (w2 := w) 1 (fun F h => h) (fun hc1 => ?_) (fun hc1 => ?_)
  · rw [if_pos hc1] at hf
    refine pm_go (i2 := 6) (ls2 := [some (.inr (.inr (0, 0))), some (.inl a1)]) (st2 := [.inl (-2)]) (w2 := w) 1 (fun F h => h) ?_
    obtain rfl := Option.some.inj hf
    exact pm_re (r := some (.inl (-2))) (w2 := w) 1 (fun F h => h) hq
  · rw [if_neg hc1] at hf
    refine pm_go (i2 := 4) (ls2 := [some (.inr (.inr (0, 0))), some (.inl a1)]) (st2 := [.inl 2, .inl a1]) (w2 := w) 2 (fun F h => h) ?_
    refine pm_if (P := a1 ≤ 2) (i2 := 7) (i3 := 5) (ls2 := [some (.inr (.inr (0, 0))), some (.inl a1)]) (st2 := []) (w2 := w) 1 (fun F h => h) (fun hc2 => ?_) (fun hc2 => ?_)
    · rw [if_pos hc2] at hf
      refine pm_go (i2 := 9) (ls2 := [some (.inr (.inr (0, 0))), some (.inl a1)]) (st2 := [.inr (.inr (13, 0))]) (w2 := w) 2 (fun F h => h) ?_
      obtain ⟨r3, hr4, hf⟩ := Option.bind_eq_some_iff.mp hf
      refine pm_ca (y := 12) (as := [.inr (.inr (13, 0))]) (r := none) (w2 := w) (w1 := r3) (t := []) (i2 := 10) (ls2 := [some (.inr (.inr (0, 0))), some (.inl a1)]) 1 (a_X2_findLaws F w r3 d (by omega) hr4) (fun F h => h) ?_
      show pm_Gx (RT d) co_X7_laws 10 [some (.inr (.inr (0, 0))), some (.inl a1)] [] r3 Q
      refine pm_go (i2 := 11) (ls2 := [some (.inr (.inr (0, 0))), some (.inl a1)]) (st2 := [.inl a1]) (w2 := r3) 1 (fun F h => h) ?_
      refine pm_if (P := a1 = 0) (i2 := 12) (i3 := 16) (ls2 := [some (.inr (.inr (0, 0))), some (.inl a1)]) (st2 := []) (w2 := r3) 1 (fun F h => h) (fun hc5 => ?_) (fun hc5 => ?_)
      · rw [if_pos hc5] at hf
        refine pm_go (i2 := 15) (ls2 := [some (.inr (.inr (0, 0))), some (.inl a1)]) (st2 := [.inl (r3.1 13 0 3)]) (w2 := r3) 3 (fun F h => h) ?_
        obtain rfl := Option.some.inj hf
        exact pm_re (r := some (.inl (r3.1 13 0 3))) (w2 := r3) 1 (fun F h => h) hq
      · rw [if_neg hc5] at hf
        refine pm_go (i2 := 18) (ls2 := [some (.inr (.inr (0, 0))), some (.inl a1)]) (st2 := [.inl 1, .inl a1]) (w2 := r3) 2 (fun F h => h) ?_
        have key : pm_Gx (RT d) co_X7_laws 26 [some (.inr (.inr (0, 0))), some (.inl a1)] [.inl (if a1 = 1 then r3.1 13 0 4 else r3.1 13 0 5 : Int32)] r3 Q := by
          obtain rfl := Option.some.inj hf
          exact pm_re (r := some (.inl (if a1 = 1 then r3.1 13 0 4 else r3.1 13 0 5 : Int32))) (w2 := r3) 1 (fun F h => h) hq
        clear hf
        refine pm_if (P := a1 = 1) (i2 := 19) (i3 := 23) (ls2 := [some (.inr (.inr (0, 0))), some (.inl a1)]) (st2 := []) (w2 := r3) 1 (fun F h => h) (fun hc6 => ?_) (fun hc6 => ?_)
        · try simp only [if_pos hc6] at key
          refine pm_go (i2 := 26) (ls2 := [some (.inr (.inr (0, 0))), some (.inl a1)]) (st2 := [.inl (r3.1 13 0 4)]) (w2 := r3) 4 (fun F h => h) ?_
          exact key
        · try simp only [if_neg hc6] at key
          refine pm_go (i2 := 26) (ls2 := [some (.inr (.inr (0, 0))), some (.inl a1)]) (st2 := [.inl (r3.1 13 0 5)]) (w2 := r3) 3 (fun F h => h) ?_
          exact key
    · rw [if_neg hc2] at hf
      refine pm_go (i2 := 6) (ls2 := [some (.inr (.inr (0, 0))), some (.inl a1)]) (st2 := [.inl (-2)]) (w2 := w) 1 (fun F h => h) ?_
      obtain rfl := Option.some.inj hf
      exact pm_re (r := some (.inl (-2))) (w2 := w) 1 (fun F h => h) hq
set_option maxRecDepth 20000 in
set_option maxHeartbeats 4000000 in
theorem a_X7_laws (F : Nat) (w : pm_W) (a1 : Int32) (x : (Int32 × pm_W)) (d : Nat) (hd : 4 ≤ d) (hf : f_X7_laws F w a1 = some x) : RT d 74 [.inr (.inr (0, 0)), .inl a1] w (some (.inl x.1)) x.2 := by
  obtain ⟨d, rfl, hd2⟩ := pm_dep hd
  exact pm_start (co := co_X7_laws) (nL := 2) (by decide) rfl rfl (Nat.le_of_ble_eq_true rfl) (b_X7_laws F d hd2 _ w a1 x hf ⟨rfl, rfl⟩)
def f_X7_hosts (F : Nat) (w : pm_W) (a1 : Int32) (a2 : Int32) : Option ((Int32 × pm_W)) := (if a1 < 1 then some ((-2), w) else (if a1 ≤ 4 then ((f_X3_lengthByTurns F w 0 a1).bind fun r3 => some ((if a2 = 0 then r3.1 else r3.2.1 16 0 4 : Int32), r3.2)) else some ((-2), w)))
set_option maxRecDepth 20000 in
set_option maxHeartbeats 4000000 in
theorem b_X7_hosts (F : Nat) (d : Nat) (hd : 13 ≤ d) (Q : pm_Q) (w : pm_W) (a1 : Int32) (a2 : Int32) (x : (Int32 × pm_W)) (hf : f_X7_hosts F w a1 a2 = some x) (hq : Q (some (.inl x.1)) x.2) : pm_Gx (RT d) co_X7_hosts 0 [some (.inr (.inr (0, 0))), some (.inl a1), some (.inl a2), none] [] w Q := by
  unfold f_X7_hosts at hf
  refine pm_go (i2 := 2) (ls2 := [some (.inr (.inr (0, 0))), some (.inl a1), some (.inl a2), none]) (st2 := [.inl 1, .inl a1]) (w2 := w) 2 (fun F h => h) ?_
  refine pm_if (P := a1 < 1) (i2 := 6) (i3 := 3) (ls2 := [some (.inr (.inr (0, 0))), some (.inl a1), some (.inl a2), none]) (st2 := []) (w2 := w) 1 (fun F h => h) (fun hc1 => ?_) (fun hc1 => ?_)
  · rw [if_pos hc1] at hf
    refine pm_go (i2 := 7) (ls2 := [some (.inr (.inr (0, 0))), some (.inl a1), some (.inl a2), none]) (st2 := [.inl (-2)]) (w2 := w) 1 (fun F h => h) ?_
    obtain rfl := Option.some.inj hf
    exact pm_re (r := some (.inl (-2))) (w2 := w) 1 (fun F h => h) hq
  · rw [if_neg hc1] at hf
    refine pm_go (i2 := 5) (ls2 := [some (.inr (.inr (0, 0))), some (.inl a1), some (.inl a2), none]) (st2 := [.inl 4, .inl a1]) (w2 := w) 2 (fun F h => h) ?_
    refine pm_if (P := a1 ≤ 4) (i2 := 8) (i3 := 6) (ls2 := [some (.inr (.inr (0, 0))), some (.inl a1), some (.inl a2), none]) (st2 := []) (w2 := w) 1 (fun F h => h) (fun hc2 => ?_) (fun hc2 => ?_)
    · rw [if_pos hc2] at hf
      refine pm_go (i2 := 13) (ls2 := [some (.inr (.inr (0, 0))), some (.inl a1), some (.inl a2), none]) (st2 := [.inl a1, .inr (.inr (7, 0)), .inr (.inr (16, 0))]) (w2 := w) 5 (fun F h => h) ?_
      obtain ⟨r3, hr4, hf⟩ := Option.bind_eq_some_iff.mp hf
      refine pm_ca (y := 25) (as := [.inr (.inr (16, 0)), .inr (.inr (7, 0)), .inl a1]) (r := some (.inl r3.1)) (w2 := w) (w1 := r3.2) (t := []) (i2 := 14) (ls2 := [some (.inr (.inr (0, 0))), some (.inl a1), some (.inl a2), none]) 1 (a_X3_lengthByTurns F w 0 a1 r3 d (by omega) hr4) (fun F h => h) ?_
      show pm_Gx (RT d) co_X7_hosts 14 [some (.inr (.inr (0, 0))), some (.inl a1), some (.inl a2), none] [.inl r3.1] r3.2 Q
      refine pm_go (i2 := 16) (ls2 := [some (.inr (.inr (0, 0))), some (.inl a1), some (.inl a2), some (.inl r3.1)]) (st2 := [.inl a2]) (w2 := r3.2) 2 (fun F h => h) ?_
      have key : pm_Gx (RT d) co_X7_hosts 22 [some (.inr (.inr (0, 0))), some (.inl a1), some (.inl a2), some (.inl r3.1)] [.inl (if a2 = 0 then r3.1 else r3.2.1 16 0 4 : Int32)] r3.2 Q := by
        obtain rfl := Option.some.inj hf
        exact pm_re (r := some (.inl (if a2 = 0 then r3.1 else r3.2.1 16 0 4 : Int32))) (w2 := r3.2) 1 (fun F h => h) hq
      clear hf
      refine pm_if (P := a2 = 0) (i2 := 21) (i3 := 17) (ls2 := [some (.inr (.inr (0, 0))), some (.inl a1), some (.inl a2), some (.inl r3.1)]) (st2 := []) (w2 := r3.2) 1 (fun F h => h) (fun hc5 => ?_) (fun hc5 => ?_)
      · try simp only [if_pos hc5] at key
        refine pm_go (i2 := 22) (ls2 := [some (.inr (.inr (0, 0))), some (.inl a1), some (.inl a2), some (.inl r3.1)]) (st2 := [.inl r3.1]) (w2 := r3.2) 1 (fun F h => h) ?_
        exact key
      · try simp only [if_neg hc5] at key
        refine pm_go (i2 := 22) (ls2 := [some (.inr (.inr (0, 0))), some (.inl a1), some (.inl a2), some (.inl r3.1)]) (st2 := [.inl (r3.2.1 16 0 4)]) (w2 := r3.2) 4 (fun F h => h) ?_
        exact key
    · rw [if_neg hc2] at hf
      refine pm_go (i2 := 7) (ls2 := [some (.inr (.inr (0, 0))), some (.inl a1), some (.inl a2), none]) (st2 := [.inl (-2)]) (w2 := w) 1 (fun F h => h) ?_
      obtain rfl := Option.some.inj hf
      exact pm_re (r := some (.inl (-2))) (w2 := w) 1 (fun F h => h) hq
set_option maxRecDepth 20000 in
set_option maxHeartbeats 4000000 in
theorem a_X7_hosts (F : Nat) (w : pm_W) (a1 : Int32) (a2 : Int32) (x : (Int32 × pm_W)) (d : Nat) (hd : 14 ≤ d) (hf : f_X7_hosts F w a1 a2 = some x) : RT d 75 [.inr (.inr (0, 0)), .inl a1, .inl a2] w (some (.inl x.1)) x.2 := by
  obtain ⟨d, rfl, hd2⟩ := pm_dep hd
  exact pm_start (co := co_X7_hosts) (nL := 4) (by decide) rfl rfl (Nat.le_of_ble_eq_true rfl) (b_X7_hosts F d hd2 _ w a1 a2 x hf ⟨rfl, rfl⟩)
def f_X7_come (F : Nat) (w : pm_W) (a1 : Int32) (a2 : Int32) (a3 : Int32) : Option ((Int32 × pm_W)) := (if a1 < 0 then some ((-2), w) else (if 10 < a1 then some ((-2), w) else (if a2 < 1 then some ((-2), w) else (if a2 ≤ 60 then ((f_X1_chanceOfLength F w 0 a1 a2 a3).bind fun r5 => some (r5.1, r5.2)) else some ((-2), w)))))
set_option maxRecDepth 20000 in
set_option maxHeartbeats 4000000 in
theorem b_X7_come (F : Nat) (d : Nat) (hd : 5 ≤ d) (Q : pm_Q) (w : pm_W) (a1 : Int32) (a2 : Int32) (a3 : Int32) (x : (Int32 × pm_W)) (hf : f_X7_come F w a1 a2 a3 = some x) (hq : Q (some (.inl x.1)) x.2) : pm_Gx (RT d) co_X7_come 0 [some (.inr (.inr (0, 0))), some (.inl a1), some (.inl a2), some (.inl a3)] [] w Q := by
  unfold f_X7_come at hf
  refine pm_go (i2 := 1) (ls2 := [some (.inr (.inr (0, 0))), some (.inl a1), some (.inl a2), some (.inl a3)]) (st2 := [.inl a1]) (w2 := w) 1 (fun F h => h) ?_
  refine pm_if (P := a1 < 0) (i2 := 11) (i3 := 2) (ls2 := [some (.inr (.inr (0, 0))), some (.inl a1), some (.inl a2), some (.inl a3)]) (st2 := []) (w2 := w) 1 (fun F h => h) (fun hc1 => ?_) (fun hc1 => ?_)
  · rw [if_pos hc1] at hf
    refine pm_go (i2 := 12) (ls2 := [some (.inr (.inr (0, 0))), some (.inl a1), some (.inl a2), some (.inl a3)]) (st2 := [.inl (-2)]) (w2 := w) 1 (fun F h => h) ?_
    obtain rfl := Option.some.inj hf
    exact pm_re (r := some (.inl (-2))) (w2 := w) 1 (fun F h => h) hq
  · rw [if_neg hc1] at hf
    refine pm_go (i2 := 4) (ls2 := [some (.inr (.inr (0, 0))), some (.inl a1), some (.inl a2), some (.inl a3)]) (st2 := [.inl 10, .inl a1]) (w2 := w) 2 (fun F h => h) ?_
    refine pm_if (P := 10 < a1) (i2 := 11) (i3 := 5) (ls2 := [some (.inr (.inr (0, 0))), some (.inl a1), some (.inl a2), some (.inl a3)]) (st2 := []) (w2 := w) 1 (fun F h => h) (fun hc2 => ?_) (fun hc2 => ?_)
    · rw [if_pos hc2] at hf
      refine pm_go (i2 := 12) (ls2 := [some (.inr (.inr (0, 0))), some (.inl a1), some (.inl a2), some (.inl a3)]) (st2 := [.inl (-2)]) (w2 := w) 1 (fun F h => h) ?_
      obtain rfl := Option.some.inj hf
      exact pm_re (r := some (.inl (-2))) (w2 := w) 1 (fun F h => h) hq
    · rw [if_neg hc2] at hf
      refine pm_go (i2 := 7) (ls2 := [some (.inr (.inr (0, 0))), some (.inl a1), some (.inl a2), some (.inl a3)]) (st2 := [.inl 1, .inl a2]) (w2 := w) 2 (fun F h => h) ?_
      refine pm_if (P := a2 < 1) (i2 := 11) (i3 := 8) (ls2 := [some (.inr (.inr (0, 0))), some (.inl a1), some (.inl a2), some (.inl a3)]) (st2 := []) (w2 := w) 1 (fun F h => h) (fun hc3 => ?_) (fun hc3 => ?_)
      · rw [if_pos hc3] at hf
        refine pm_go (i2 := 12) (ls2 := [some (.inr (.inr (0, 0))), some (.inl a1), some (.inl a2), some (.inl a3)]) (st2 := [.inl (-2)]) (w2 := w) 1 (fun F h => h) ?_
        obtain rfl := Option.some.inj hf
        exact pm_re (r := some (.inl (-2))) (w2 := w) 1 (fun F h => h) hq
      · rw [if_neg hc3] at hf
        refine pm_go (i2 := 10) (ls2 := [some (.inr (.inr (0, 0))), some (.inl a1), some (.inl a2), some (.inl a3)]) (st2 := [.inl 60, .inl a2]) (w2 := w) 2 (fun F h => h) ?_
        refine pm_if (P := a2 ≤ 60) (i2 := 13) (i3 := 11) (ls2 := [some (.inr (.inr (0, 0))), some (.inl a1), some (.inl a2), some (.inl a3)]) (st2 := []) (w2 := w) 1 (fun F h => h) (fun hc4 => ?_) (fun hc4 => ?_)
        · rw [if_pos hc4] at hf
          refine pm_go (i2 := 20) (ls2 := [some (.inr (.inr (0, 0))), some (.inl a1), some (.inl a2), some (.inl a3)]) (st2 := [.inl a3, .inl a2, .inl a1, .inr (.inr (7, 0)), .inr (.inr (18, 0))]) (w2 := w) 7 (fun F h => h) ?_
          obtain ⟨r5, hr6, hf⟩ := Option.bind_eq_some_iff.mp hf
          refine pm_ca (y := 6) (as := [.inr (.inr (18, 0)), .inr (.inr (7, 0)), .inl a1, .inl a2, .inl a3]) (r := some (.inl r5.1)) (w2 := w) (w1 := r5.2) (t := []) (i2 := 21) (ls2 := [some (.inr (.inr (0, 0))), some (.inl a1), some (.inl a2), some (.inl a3)]) 1 (a_X1_chanceOfLength F w 0 a1 a2 a3 r5 d (by omega) hr6) (fun F h => h) ?_
          show pm_Gx (RT d) co_X7_come 21 [some (.inr (.inr (0, 0))), some (.inl a1), some (.inl a2), some (.inl a3)] [.inl r5.1] r5.2 Q
          obtain rfl := Option.some.inj hf
          exact pm_re (r := some (.inl r5.1)) (w2 := r5.2) 1 (fun F h => h) hq
        · rw [if_neg hc4] at hf
          refine pm_go (i2 := 12) (ls2 := [some (.inr (.inr (0, 0))), some (.inl a1), some (.inl a2), some (.inl a3)]) (st2 := [.inl (-2)]) (w2 := w) 1 (fun F h => h) ?_
          obtain rfl := Option.some.inj hf
          exact pm_re (r := some (.inl (-2))) (w2 := w) 1 (fun F h => h) hq
set_option maxRecDepth 20000 in
set_option maxHeartbeats 4000000 in
theorem a_X7_come (F : Nat) (w : pm_W) (a1 : Int32) (a2 : Int32) (a3 : Int32) (x : (Int32 × pm_W)) (d : Nat) (hd : 6 ≤ d) (hf : f_X7_come F w a1 a2 a3 = some x) : RT d 76 [.inr (.inr (0, 0)), .inl a1, .inl a2, .inl a3] w (some (.inl x.1)) x.2 := by
  obtain ⟨d, rfl, hd2⟩ := pm_dep hd
  exact pm_start (co := co_X7_come) (nL := 4) (by decide) rfl rfl (Nat.le_of_ble_eq_true rfl) (b_X7_come F d hd2 _ w a1 a2 a3 x hf ⟨rfl, rfl⟩)
def f_X7_seed (F : Nat) (w : pm_W) (a1 : Int64) : Option ((Int64 × pm_W)) := (pm_wlet (pm_setJ w 0 a1) fun w1 => some (w.2.1 0, w1))
set_option maxRecDepth 20000 in
set_option maxHeartbeats 4000000 in
theorem b_X7_seed (F : Nat) (d : Nat) (hd : 0 ≤ d) (Q : pm_Q) (w : pm_W) (a1 : Int64) (x : (Int64 × pm_W)) (hf : f_X7_seed F w a1 = some x) (hq : Q (some (.inr (.inl x.1))) x.2) : pm_Gx (RT d) co_X7_seed 0 [some (.inr (.inr (0, 0))), some (.inr (.inl a1)), none, none, none] [] w Q := by
  unfold f_X7_seed at hf
  refine pm_go (i2 := 6) (ls2 := [some (.inr (.inr (0, 0))), some (.inr (.inl a1)), none, some (.inr (.inl (w.2.1 0))), none]) (st2 := []) (w2 := (pm_setJ w 0 a1)) 6 (fun F h => h) ?_
  generalize (pm_setJ w 0 a1) = w1 at hf ⊢
  replace hf := pm_wlet_un hf
  refine pm_go (i2 := 7) (ls2 := [some (.inr (.inr (0, 0))), some (.inr (.inl a1)), none, some (.inr (.inl (w.2.1 0))), none]) (st2 := [.inr (.inl (w.2.1 0))]) (w2 := w1) 1 (fun F h => h) ?_
  obtain rfl := Option.some.inj hf
  exact pm_re (r := some (.inr (.inl (w.2.1 0)))) (w2 := w1) 1 (fun F h => h) hq
set_option maxRecDepth 20000 in
set_option maxHeartbeats 4000000 in
theorem a_X7_seed (F : Nat) (w : pm_W) (a1 : Int64) (x : (Int64 × pm_W)) (d : Nat) (hd : 1 ≤ d) (hf : f_X7_seed F w a1 = some x) : RT d 77 [.inr (.inr (0, 0)), .inr (.inl a1)] w (some (.inr (.inl x.1))) x.2 := by
  obtain ⟨d, rfl, hd2⟩ := pm_dep hd
  exact pm_start (co := co_X7_seed) (nL := 5) (by decide) rfl rfl (Nat.le_of_ble_eq_true rfl) (b_X7_seed F d hd2 _ w a1 x hf ⟨rfl, rfl⟩)
def f_X7_dinner_L16 (F : Nat) : Nat → pm_W → Int32 → Nat → Int32 → Option (Int32 × pm_W)
  | 0, _, _, _, _ => none
  | n + 1, w, v1, v2, v3 => (if v1 ≤ v3 then some (v3, w) else (pm_wlet (pm_setJ w 0 (((w.2.1 0) * 6364136223846793005) + 1442695040888963407)) fun w6 => ((f_X5_speakIfCan F w6 v2 (((((w6.2.1 0).toUInt64 >>> ((33 : Int32).toInt64.toUInt64 &&& Int64.toUInt64 63)).toInt64) - (((w6.2.1 0).toUInt64 >>> ((33 : Int32).toInt64.toUInt64 &&& Int64.toUInt64 63)).toInt64) / 6 * 6).toInt32)).bind fun r7 => f_X7_dinner_L16 F n r7.2 v1 v2 (v3 + 1))))
def f_X7_dinner (F : Nat) (w : pm_W) (a1 : Int32) : Option ((Int32 × pm_W)) := (if a1 < 1 then some ((-2), w) else (if a1 ≤ 30 then ((f_X3_trialFrom F w 0).bind fun r3 => ((f_X7_dinner_L16 F F r3.2 a1 r3.1 0).bind fun x9 => some (x9.2.1 7 r3.1 1, x9.2))) else some ((-2), w)))
set_option maxRecDepth 20000 in
set_option maxHeartbeats 4000000 in
theorem a_X7_dinner_L16 (F : Nat) (d : Nat) (hd : 3 ≤ d) (Q : pm_Q) : ∀ (n : Nat) (w : pm_W) (v1 : Int32) (v2 : Nat) (v3 : Int32) (x : Int32 × pm_W), f_X7_dinner_L16 F n w v1 v2 v3 = some x → pm_Gx (RT d) co_X7_dinner 41 [some (.inr (.inr (0, 0))), some (.inl v1), some (.inr (.inr (7, v2))), some (.inl x.1)] [] x.2 Q → pm_Gx (RT d) co_X7_dinner 16 [some (.inr (.inr (0, 0))), some (.inl v1), some (.inr (.inr (7, v2))), some (.inl v3)] [] w Q := by
  intro n
  induction n with
  | zero =>
    intro w v1 v2 v3 x hf
    cases hf
  | succ n ih =>
    intro w v1 v2 v3 x hf hk
    rw [f_X7_dinner_L16] at hf
    refine pm_go (i2 := 18) (ls2 := [some (.inr (.inr (0, 0))), some (.inl v1), some (.inr (.inr (7, v2))), some (.inl v3)]) (st2 := [.inl v1, .inl v3]) (w2 := w) 2 (fun F h => h) ?_
    refine pm_if (P := v1 ≤ v3) (i2 := 41) (i3 := 19) (ls2 := [some (.inr (.inr (0, 0))), some (.inl v1), some (.inr (.inr (7, v2))), some (.inl v3)]) (st2 := []) (w2 := w) 1 (fun F h => h) (fun hc5 => ?_) (fun hc5 => ?_)
    · rw [if_pos hc5] at hf
      obtain rfl := Option.some.inj hf
      exact hk
    · rw [if_neg hc5] at hf
      refine pm_go (i2 := 27) (ls2 := [some (.inr (.inr (0, 0))), some (.inl v1), some (.inr (.inr (7, v2))), some (.inl v3)]) (st2 := []) (w2 := (pm_setJ w 0 (((w.2.1 0) * 6364136223846793005) + 1442695040888963407))) 8 (fun F h => h) ?_
      generalize (pm_setJ w 0 (((w.2.1 0) * 6364136223846793005) + 1442695040888963407)) = w6 at hf ⊢
      replace hf := pm_wlet_un hf
      refine pm_go (i2 := 37) (ls2 := [some (.inr (.inr (0, 0))), some (.inl v1), some (.inr (.inr (7, v2))), some (.inl v3)]) (st2 := [.inl (((((w6.2.1 0).toUInt64 >>> ((33 : Int32).toInt64.toUInt64 &&& Int64.toUInt64 63)).toInt64) - (((w6.2.1 0).toUInt64 >>> ((33 : Int32).toInt64.toUInt64 &&& Int64.toUInt64 63)).toInt64) / 6 * 6).toInt32), .inr (.inr (7, v2)), .inr (.inr (3, 0))]) (w2 := w6) 10 (fun F h => ⟨(by decide), h⟩) ?_
      obtain ⟨r7, hr8, hf⟩ := Option.bind_eq_some_iff.mp hf
      refine pm_ca (y := 34) (as := [.inr (.inr (3, 0)), .inr (.inr (7, v2)), .inl (((((w6.2.1 0).toUInt64 >>> ((33 : Int32).toInt64.toUInt64 &&& Int64.toUInt64 63)).toInt64) - (((w6.2.1 0).toUInt64 >>> ((33 : Int32).toInt64.toUInt64 &&& Int64.toUInt64 63)).toInt64) / 6 * 6).toInt32)]) (r := some (.inl r7.1)) (w2 := w6) (w1 := r7.2) (t := []) (i2 := 38) (ls2 := [some (.inr (.inr (0, 0))), some (.inl v1), some (.inr (.inr (7, v2))), some (.inl v3)]) 1 (a_X5_speakIfCan F w6 v2 (((((w6.2.1 0).toUInt64 >>> ((33 : Int32).toInt64.toUInt64 &&& Int64.toUInt64 63)).toInt64) - (((w6.2.1 0).toUInt64 >>> ((33 : Int32).toInt64.toUInt64 &&& Int64.toUInt64 63)).toInt64) / 6 * 6).toInt32) r7 d (by omega) hr8) (fun F h => h) ?_
      show pm_Gx (RT d) co_X7_dinner 38 [some (.inr (.inr (0, 0))), some (.inl v1), some (.inr (.inr (7, v2))), some (.inl v3)] [.inl r7.1] r7.2 Q
      refine pm_go (i2 := 16) (ls2 := [some (.inr (.inr (0, 0))), some (.inl v1), some (.inr (.inr (7, v2))), some (.inl (v3 + 1))]) (st2 := []) (w2 := r7.2) 3 (fun F h => h) ?_
      exact ih r7.2 v1 v2 (v3 + 1) _ hf hk
set_option maxRecDepth 20000 in
set_option maxHeartbeats 4000000 in
theorem b_X7_dinner (F : Nat) (d : Nat) (hd : 3 ≤ d) (Q : pm_Q) (w : pm_W) (a1 : Int32) (x : (Int32 × pm_W)) (hf : f_X7_dinner F w a1 = some x) (hq : Q (some (.inl x.1)) x.2) : pm_Gx (RT d) co_X7_dinner 0 [some (.inr (.inr (0, 0))), some (.inl a1), none, none] [] w Q := by
  unfold f_X7_dinner at hf
  refine pm_go (i2 := 2) (ls2 := [some (.inr (.inr (0, 0))), some (.inl a1), none, none]) (st2 := [.inl 1, .inl a1]) (w2 := w) 2 (fun F h => h) ?_
  refine pm_if (P := a1 < 1) (i2 := 6) (i3 := 3) (ls2 := [some (.inr (.inr (0, 0))), some (.inl a1), none, none]) (st2 := []) (w2 := w) 1 (fun F h => h) (fun hc1 => ?_) (fun hc1 => ?_)
  · rw [if_pos hc1] at hf
    refine pm_go (i2 := 7) (ls2 := [some (.inr (.inr (0, 0))), some (.inl a1), none, none]) (st2 := [.inl (-2)]) (w2 := w) 1 (fun F h => h) ?_
    obtain rfl := Option.some.inj hf
    exact pm_re (r := some (.inl (-2))) (w2 := w) 1 (fun F h => h) hq
  · rw [if_neg hc1] at hf
    refine pm_go (i2 := 5) (ls2 := [some (.inr (.inr (0, 0))), some (.inl a1), none, none]) (st2 := [.inl 30, .inl a1]) (w2 := w) 2 (fun F h => h) ?_
    refine pm_if (P := a1 ≤ 30) (i2 := 8) (i3 := 6) (ls2 := [some (.inr (.inr (0, 0))), some (.inl a1), none, none]) (st2 := []) (w2 := w) 1 (fun F h => h) (fun hc2 => ?_) (fun hc2 => ?_)
    · rw [if_pos hc2] at hf
      refine pm_go (i2 := 12) (ls2 := [some (.inr (.inr (0, 0))), some (.inl a1), none, none]) (st2 := [.inr (.inr (7, 0)), .inr (.inr (16, 0))]) (w2 := w) 4 (fun F h => h) ?_
      obtain ⟨r3, hr4, hf⟩ := Option.bind_eq_some_iff.mp hf
      refine pm_ca (y := 16) (as := [.inr (.inr (16, 0)), .inr (.inr (7, 0))]) (r := some (.inr (.inr (7, r3.1)))) (w2 := w) (w1 := r3.2) (t := []) (i2 := 13) (ls2 := [some (.inr (.inr (0, 0))), some (.inl a1), none, none]) 1 (a_X3_trialFrom F w 0 r3 d (by omega) hr4) (fun F h => h) ?_
      show pm_Gx (RT d) co_X7_dinner 13 [some (.inr (.inr (0, 0))), some (.inl a1), none, none] [.inr (.inr (7, r3.1))] r3.2 Q
      refine pm_go (i2 := 16) (ls2 := [some (.inr (.inr (0, 0))), some (.inl a1), some (.inr (.inr (7, r3.1))), some (.inl 0)]) (st2 := []) (w2 := r3.2) 3 (fun F h => h) ?_
      obtain ⟨x9, hx10, hf⟩ := Option.bind_eq_some_iff.mp hf
      refine a_X7_dinner_L16 F d hd Q F r3.2 a1 r3.1 0 x9 hx10 ?_
      refine pm_go (i2 := 43) (ls2 := [some (.inr (.inr (0, 0))), some (.inl a1), some (.inr (.inr (7, r3.1))), some (.inl x9.1)]) (st2 := [.inl (x9.2.1 7 r3.1 1)]) (w2 := x9.2) 2 (fun F h => h) ?_
      obtain rfl := Option.some.inj hf
      exact pm_re (r := some (.inl (x9.2.1 7 r3.1 1))) (w2 := x9.2) 1 (fun F h => h) hq
    · rw [if_neg hc2] at hf
      refine pm_go (i2 := 7) (ls2 := [some (.inr (.inr (0, 0))), some (.inl a1), none, none]) (st2 := [.inl (-2)]) (w2 := w) 1 (fun F h => h) ?_
      obtain rfl := Option.some.inj hf
      exact pm_re (r := some (.inl (-2))) (w2 := w) 1 (fun F h => h) hq
set_option maxRecDepth 20000 in
set_option maxHeartbeats 4000000 in
theorem a_X7_dinner (F : Nat) (w : pm_W) (a1 : Int32) (x : (Int32 × pm_W)) (d : Nat) (hd : 4 ≤ d) (hf : f_X7_dinner F w a1 = some x) : RT d 78 [.inr (.inr (0, 0)), .inl a1] w (some (.inl x.1)) x.2 := by
  obtain ⟨d, rfl, hd2⟩ := pm_dep hd
  exact pm_start (co := co_X7_dinner) (nL := 4) (by decide) rfl rfl (Nat.le_of_ble_eq_true rfl) (b_X7_dinner F d hd2 _ w a1 x hf ⟨rfl, rfl⟩)
def f_X7_keep (F : Nat) (w : pm_W) (a1 : Int32) : Option ((Int32 × pm_W)) := (if a1 < 0 then some ((-1), w) else (if a1 < 2 then (if pm_inb a1 2 = true then ((f_X4_become F w (15 + a1.toNatClampNeg) 0).bind fun r4 => (if pm_inb a1 2 = true then (pm_wlet (pm_setI r4 12 0 a1.toNatClampNeg (vp_nar .boolean 1)) fun w7 => some (w7.1 7 0 1, w7)) else none)) else none) else some ((-1), w)))
set_option maxRecDepth 20000 in
set_option maxHeartbeats 4000000 in
theorem b_X7_keep (F : Nat) (d : Nat) (hd : 1 ≤ d) (Q : pm_Q) (w : pm_W) (a1 : Int32) (x : (Int32 × pm_W)) (hf : f_X7_keep F w a1 = some x) (hq : Q (some (.inl x.1)) x.2) : pm_Gx (RT d) co_X7_keep 0 [some (.inr (.inr (0, 0))), some (.inl a1)] [] w Q := by
  unfold f_X7_keep at hf
  refine pm_go (i2 := 1) (ls2 := [some (.inr (.inr (0, 0))), some (.inl a1)]) (st2 := [.inl a1]) (w2 := w) 1 (fun F h => h) ?_
  refine pm_if (P := a1 < 0) (i2 := 5) (i3 := 2) (ls2 := [some (.inr (.inr (0, 0))), some (.inl a1)]) (st2 := []) (w2 := w) 1 (fun F h => h) (fun hc1 => ?_) (fun hc1 => ?_)
  · rw [if_pos hc1] at hf
    refine pm_go (i2 := 6) (ls2 := [some (.inr (.inr (0, 0))), some (.inl a1)]) (st2 := [.inl (-1)]) (w2 := w) 1 (fun F h => h) ?_
    obtain rfl := Option.some.inj hf
    exact pm_re (r := some (.inl (-1))) (w2 := w) 1 (fun F h => h) hq
  · rw [if_neg hc1] at hf
    refine pm_go (i2 := 4) (ls2 := [some (.inr (.inr (0, 0))), some (.inl a1)]) (st2 := [.inl 2, .inl a1]) (w2 := w) 2 (fun F h => h) ?_
    refine pm_if (P := a1 < 2) (i2 := 7) (i3 := 5) (ls2 := [some (.inr (.inr (0, 0))), some (.inl a1)]) (st2 := []) (w2 := w) 1 (fun F h => h) (fun hc2 => ?_) (fun hc2 => ?_)
    · rw [if_pos hc2] at hf
      obtain ⟨hs3, hf⟩ := pm_itn hf
      refine pm_go (i2 := 13) (ls2 := [some (.inr (.inr (0, 0))), some (.inl a1)]) (st2 := [.inr (.inr (7, 0)), .inr (.inr (7, (15 + a1.toNatClampNeg)))]) (w2 := w) 6 (fun F h => ⟨(pm_inb_in hs3), h⟩) ?_
      obtain ⟨r4, hr5, hf⟩ := Option.bind_eq_some_iff.mp hf
      refine pm_ca (y := 27) (as := [.inr (.inr (7, (15 + a1.toNatClampNeg))), .inr (.inr (7, 0))]) (r := none) (w2 := w) (w1 := r4) (t := []) (i2 := 14) (ls2 := [some (.inr (.inr (0, 0))), some (.inl a1)]) 1 (a_X4_become F w (15 + a1.toNatClampNeg) 0 r4 d (by omega) hr5) (fun F h => h) ?_
      show pm_Gx (RT d) co_X7_keep 14 [some (.inr (.inr (0, 0))), some (.inl a1)] [] r4 Q
      obtain ⟨hs6, hf⟩ := pm_itn hf
      refine pm_go (i2 := 19) (ls2 := [some (.inr (.inr (0, 0))), some (.inl a1)]) (st2 := []) (w2 := (pm_setI r4 12 0 a1.toNatClampNeg (vp_nar .boolean 1))) 5 (fun F h => ⟨(pm_inb_in hs6), h⟩) ?_
      generalize (pm_setI r4 12 0 a1.toNatClampNeg (vp_nar .boolean 1)) = w7 at hf ⊢
      replace hf := pm_wlet_un hf
      refine pm_go (i2 := 22) (ls2 := [some (.inr (.inr (0, 0))), some (.inl a1)]) (st2 := [.inl (w7.1 7 0 1)]) (w2 := w7) 3 (fun F h => h) ?_
      obtain rfl := Option.some.inj hf
      exact pm_re (r := some (.inl (w7.1 7 0 1))) (w2 := w7) 1 (fun F h => h) hq
    · rw [if_neg hc2] at hf
      refine pm_go (i2 := 6) (ls2 := [some (.inr (.inr (0, 0))), some (.inl a1)]) (st2 := [.inl (-1)]) (w2 := w) 1 (fun F h => h) ?_
      obtain rfl := Option.some.inj hf
      exact pm_re (r := some (.inl (-1))) (w2 := w) 1 (fun F h => h) hq
set_option maxRecDepth 20000 in
set_option maxHeartbeats 4000000 in
theorem a_X7_keep (F : Nat) (w : pm_W) (a1 : Int32) (x : (Int32 × pm_W)) (d : Nat) (hd : 2 ≤ d) (hf : f_X7_keep F w a1 = some x) : RT d 79 [.inr (.inr (0, 0)), .inl a1] w (some (.inl x.1)) x.2 := by
  obtain ⟨d, rfl, hd2⟩ := pm_dep hd
  exact pm_start (co := co_X7_keep) (nL := 2) (by decide) rfl rfl (Nat.le_of_ble_eq_true rfl) (b_X7_keep F d hd2 _ w a1 x hf ⟨rfl, rfl⟩)
def f_X7_again (F : Nat) (w : pm_W) (a1 : Int32) : Option ((Int32 × pm_W)) := (if a1 < 0 then some ((-1), w) else (if a1 < 2 then (if pm_inb a1 2 = true then (if (w.1 12 0 a1.toNatClampNeg) = 0 then some ((-3), w) else (if pm_inb a1 2 = true then ((f_X4_become F w 0 (15 + a1.toNatClampNeg)).bind fun r6 => (pm_wlet (pm_setI r6 9 0 1 0) fun w8 => some (w8.1 7 0 1, w8))) else none)) else none) else some ((-1), w)))
set_option maxRecDepth 20000 in
set_option maxHeartbeats 4000000 in
theorem b_X7_again (F : Nat) (d : Nat) (hd : 1 ≤ d) (Q : pm_Q) (w : pm_W) (a1 : Int32) (x : (Int32 × pm_W)) (hf : f_X7_again F w a1 = some x) (hq : Q (some (.inl x.1)) x.2) : pm_Gx (RT d) co_X7_again 0 [some (.inr (.inr (0, 0))), some (.inl a1)] [] w Q := by
  unfold f_X7_again at hf
  refine pm_go (i2 := 1) (ls2 := [some (.inr (.inr (0, 0))), some (.inl a1)]) (st2 := [.inl a1]) (w2 := w) 1 (fun F h => h) ?_
  refine pm_if (P := a1 < 0) (i2 := 5) (i3 := 2) (ls2 := [some (.inr (.inr (0, 0))), some (.inl a1)]) (st2 := []) (w2 := w) 1 (fun F h => h) (fun hc1 => ?_) (fun hc1 => ?_)
  · rw [if_pos hc1] at hf
    refine pm_go (i2 := 6) (ls2 := [some (.inr (.inr (0, 0))), some (.inl a1)]) (st2 := [.inl (-1)]) (w2 := w) 1 (fun F h => h) ?_
    obtain rfl := Option.some.inj hf
    exact pm_re (r := some (.inl (-1))) (w2 := w) 1 (fun F h => h) hq
  · rw [if_neg hc1] at hf
    refine pm_go (i2 := 4) (ls2 := [some (.inr (.inr (0, 0))), some (.inl a1)]) (st2 := [.inl 2, .inl a1]) (w2 := w) 2 (fun F h => h) ?_
    refine pm_if (P := a1 < 2) (i2 := 7) (i3 := 5) (ls2 := [some (.inr (.inr (0, 0))), some (.inl a1)]) (st2 := []) (w2 := w) 1 (fun F h => h) (fun hc2 => ?_) (fun hc2 => ?_)
    · rw [if_pos hc2] at hf
      obtain ⟨hs3, hf⟩ := pm_itn hf
      refine pm_go (i2 := 11) (ls2 := [some (.inr (.inr (0, 0))), some (.inl a1)]) (st2 := [.inl (w.1 12 0 a1.toNatClampNeg)]) (w2 := w) 4 (fun F h => ⟨(pm_inb_in hs3), h⟩) ?_
      refine pm_if (P := (w.1 12 0 a1.toNatClampNeg) = 0) (i2 := 12) (i3 := 14) (ls2 := [some (.inr (.inr (0, 0))), some (.inl a1)]) (st2 := []) (w2 := w) 1 (fun F h => h) (fun hc4 => ?_) (fun hc4 => ?_)
      · rw [if_pos hc4] at hf
        refine pm_go (i2 := 13) (ls2 := [some (.inr (.inr (0, 0))), some (.inl a1)]) (st2 := [.inl (-3)]) (w2 := w) 1 (fun F h => h) ?_
        obtain rfl := Option.some.inj hf
        exact pm_re (r := some (.inl (-3))) (w2 := w) 1 (fun F h => h) hq
      · rw [if_neg hc4] at hf
        obtain ⟨hs5, hf⟩ := pm_itn hf
        refine pm_go (i2 := 20) (ls2 := [some (.inr (.inr (0, 0))), some (.inl a1)]) (st2 := [.inr (.inr (7, (15 + a1.toNatClampNeg))), .inr (.inr (7, 0))]) (w2 := w) 6 (fun F h => ⟨(pm_inb_in hs5), h⟩) ?_
        obtain ⟨r6, hr7, hf⟩ := Option.bind_eq_some_iff.mp hf
        refine pm_ca (y := 27) (as := [.inr (.inr (7, 0)), .inr (.inr (7, (15 + a1.toNatClampNeg)))]) (r := none) (w2 := w) (w1 := r6) (t := []) (i2 := 21) (ls2 := [some (.inr (.inr (0, 0))), some (.inl a1)]) 1 (a_X4_become F w 0 (15 + a1.toNatClampNeg) r6 d (by omega) hr7) (fun F h => h) ?_
        show pm_Gx (RT d) co_X7_again 21 [some (.inr (.inr (0, 0))), some (.inl a1)] [] r6 Q
        refine pm_go (i2 := 25) (ls2 := [some (.inr (.inr (0, 0))), some (.inl a1)]) (st2 := []) (w2 := (pm_setI r6 9 0 1 0)) 4 (fun F h => h) ?_
        generalize (pm_setI r6 9 0 1 0) = w8 at hf ⊢
        replace hf := pm_wlet_un hf
        refine pm_go (i2 := 28) (ls2 := [some (.inr (.inr (0, 0))), some (.inl a1)]) (st2 := [.inl (w8.1 7 0 1)]) (w2 := w8) 3 (fun F h => h) ?_
        obtain rfl := Option.some.inj hf
        exact pm_re (r := some (.inl (w8.1 7 0 1))) (w2 := w8) 1 (fun F h => h) hq
    · rw [if_neg hc2] at hf
      refine pm_go (i2 := 6) (ls2 := [some (.inr (.inr (0, 0))), some (.inl a1)]) (st2 := [.inl (-1)]) (w2 := w) 1 (fun F h => h) ?_
      obtain rfl := Option.some.inj hf
      exact pm_re (r := some (.inl (-1))) (w2 := w) 1 (fun F h => h) hq
set_option maxRecDepth 20000 in
set_option maxHeartbeats 4000000 in
theorem a_X7_again (F : Nat) (w : pm_W) (a1 : Int32) (x : (Int32 × pm_W)) (d : Nat) (hd : 2 ≤ d) (hf : f_X7_again F w a1 = some x) : RT d 80 [.inr (.inr (0, 0)), .inl a1] w (some (.inl x.1)) x.2 := by
  obtain ⟨d, rfl, hd2⟩ := pm_dep hd
  exact pm_start (co := co_X7_again) (nL := 2) (by decide) rfl rfl (Nat.le_of_ble_eq_true rfl) (b_X7_again F d hd2 _ w a1 x hf ⟨rfl, rfl⟩)
def f_X7_count (F : Nat) (w : pm_W) (a1 : Int32) : Option (Int32) := (if a1 = 0 then some (w.1 1 0 1) else (if a1 = 1 then some (w.1 3 0 3) else (if a1 = 2 then some (w.1 7 0 1) else (if a1 = 3 then some (w.1 3 0 5) else (if a1 = 4 then some (w.1 7 0 2) else (if a1 = 5 then some (w.1 7 0 3) else (if a1 = 6 then some (w.1 7 0 4) else (if a1 = 7 then ((f_X5_hearers F w 0).bind fun r9 => some r9) else (if a1 = 8 then some (w.1 9 0 1) else (if a1 = 9 then some (w.1 13 0 2) else (if a1 = 10 then some (w.1 3 0 4) else some (-2))))))))))))
set_option maxRecDepth 20000 in
set_option maxHeartbeats 4000000 in
theorem b_X7_count (F : Nat) (d : Nat) (hd : 2 ≤ d) (Q : pm_Q) (w : pm_W) (a1 : Int32) (x : Int32) (hf : f_X7_count F w a1 = some x) (hq : Q (some (.inl x)) w) : pm_Gx (RT d) co_X7_count 0 [some (.inr (.inr (0, 0))), some (.inl a1)] [] w Q := by
  unfold f_X7_count at hf
  refine pm_go (i2 := 1) (ls2 := [some (.inr (.inr (0, 0))), some (.inl a1)]) (st2 := [.inl a1]) (w2 := w) 1 (fun F h => h) ?_
  refine pm_swx (x := a1) (d := 48) (cs := [(0, 2), (1, 6), (2, 10), (3, 14), (4, 18), (5, 22), (6, 26), (7, 30), (8, 36), (9, 40), (10, 44)]) (ls2 := [some (.inr (.inr (0, 0))), some (.inl a1)]) (st2 := []) (w2 := w) 1 (fun F h => h) ?_
  refine pm_swc (fun hw1 => ?_) (fun hw1 => ?_)
  · rw [if_pos hw1] at hf
    refine pm_go (i2 := 5) (ls2 := [some (.inr (.inr (0, 0))), some (.inl a1)]) (st2 := [.inl (w.1 1 0 1)]) (w2 := w) 3 (fun F h => h) ?_
    obtain rfl := Option.some.inj hf
    exact pm_re (r := some (.inl (w.1 1 0 1))) (w2 := w) 1 (fun F h => h) hq
  rw [if_neg hw1] at hf
  refine pm_swc (fun hw2 => ?_) (fun hw2 => ?_)
  · rw [if_pos hw2] at hf
    refine pm_go (i2 := 9) (ls2 := [some (.inr (.inr (0, 0))), some (.inl a1)]) (st2 := [.inl (w.1 3 0 3)]) (w2 := w) 3 (fun F h => h) ?_
    obtain rfl := Option.some.inj hf
    exact pm_re (r := some (.inl (w.1 3 0 3))) (w2 := w) 1 (fun F h => h) hq
  rw [if_neg hw2] at hf
  refine pm_swc (fun hw3 => ?_) (fun hw3 => ?_)
  · rw [if_pos hw3] at hf
    refine pm_go (i2 := 13) (ls2 := [some (.inr (.inr (0, 0))), some (.inl a1)]) (st2 := [.inl (w.1 7 0 1)]) (w2 := w) 3 (fun F h => h) ?_
    obtain rfl := Option.some.inj hf
    exact pm_re (r := some (.inl (w.1 7 0 1))) (w2 := w) 1 (fun F h => h) hq
  rw [if_neg hw3] at hf
  refine pm_swc (fun hw4 => ?_) (fun hw4 => ?_)
  · rw [if_pos hw4] at hf
    refine pm_go (i2 := 17) (ls2 := [some (.inr (.inr (0, 0))), some (.inl a1)]) (st2 := [.inl (w.1 3 0 5)]) (w2 := w) 3 (fun F h => h) ?_
    obtain rfl := Option.some.inj hf
    exact pm_re (r := some (.inl (w.1 3 0 5))) (w2 := w) 1 (fun F h => h) hq
  rw [if_neg hw4] at hf
  refine pm_swc (fun hw5 => ?_) (fun hw5 => ?_)
  · rw [if_pos hw5] at hf
    refine pm_go (i2 := 21) (ls2 := [some (.inr (.inr (0, 0))), some (.inl a1)]) (st2 := [.inl (w.1 7 0 2)]) (w2 := w) 3 (fun F h => h) ?_
    obtain rfl := Option.some.inj hf
    exact pm_re (r := some (.inl (w.1 7 0 2))) (w2 := w) 1 (fun F h => h) hq
  rw [if_neg hw5] at hf
  refine pm_swc (fun hw6 => ?_) (fun hw6 => ?_)
  · rw [if_pos hw6] at hf
    refine pm_go (i2 := 25) (ls2 := [some (.inr (.inr (0, 0))), some (.inl a1)]) (st2 := [.inl (w.1 7 0 3)]) (w2 := w) 3 (fun F h => h) ?_
    obtain rfl := Option.some.inj hf
    exact pm_re (r := some (.inl (w.1 7 0 3))) (w2 := w) 1 (fun F h => h) hq
  rw [if_neg hw6] at hf
  refine pm_swc (fun hw7 => ?_) (fun hw7 => ?_)
  · rw [if_pos hw7] at hf
    refine pm_go (i2 := 29) (ls2 := [some (.inr (.inr (0, 0))), some (.inl a1)]) (st2 := [.inl (w.1 7 0 4)]) (w2 := w) 3 (fun F h => h) ?_
    obtain rfl := Option.some.inj hf
    exact pm_re (r := some (.inl (w.1 7 0 4))) (w2 := w) 1 (fun F h => h) hq
  rw [if_neg hw7] at hf
  refine pm_swc (fun hw8 => ?_) (fun hw8 => ?_)
  · rw [if_pos hw8] at hf
    refine pm_go (i2 := 34) (ls2 := [some (.inr (.inr (0, 0))), some (.inl a1)]) (st2 := [.inr (.inr (7, 0)), .inr (.inr (3, 0))]) (w2 := w) 4 (fun F h => h) ?_
    obtain ⟨r9, hr10, hf⟩ := Option.bind_eq_some_iff.mp hf
    refine pm_ca (y := 37) (as := [.inr (.inr (3, 0)), .inr (.inr (7, 0))]) (r := some (.inl r9)) (w2 := w) (w1 := w) (t := []) (i2 := 35) (ls2 := [some (.inr (.inr (0, 0))), some (.inl a1)]) 1 (a_X5_hearers F w 0 r9 d (by omega) hr10) (fun F h => h) ?_
    show pm_Gx (RT d) co_X7_count 35 [some (.inr (.inr (0, 0))), some (.inl a1)] [.inl r9] w Q
    obtain rfl := Option.some.inj hf
    exact pm_re (r := some (.inl r9)) (w2 := w) 1 (fun F h => h) hq
  rw [if_neg hw8] at hf
  refine pm_swc (fun hw11 => ?_) (fun hw11 => ?_)
  · rw [if_pos hw11] at hf
    refine pm_go (i2 := 39) (ls2 := [some (.inr (.inr (0, 0))), some (.inl a1)]) (st2 := [.inl (w.1 9 0 1)]) (w2 := w) 3 (fun F h => h) ?_
    obtain rfl := Option.some.inj hf
    exact pm_re (r := some (.inl (w.1 9 0 1))) (w2 := w) 1 (fun F h => h) hq
  rw [if_neg hw11] at hf
  refine pm_swc (fun hw12 => ?_) (fun hw12 => ?_)
  · rw [if_pos hw12] at hf
    refine pm_go (i2 := 43) (ls2 := [some (.inr (.inr (0, 0))), some (.inl a1)]) (st2 := [.inl (w.1 13 0 2)]) (w2 := w) 3 (fun F h => h) ?_
    obtain rfl := Option.some.inj hf
    exact pm_re (r := some (.inl (w.1 13 0 2))) (w2 := w) 1 (fun F h => h) hq
  rw [if_neg hw12] at hf
  refine pm_swc (fun hw13 => ?_) (fun hw13 => ?_)
  · rw [if_pos hw13] at hf
    refine pm_go (i2 := 47) (ls2 := [some (.inr (.inr (0, 0))), some (.inl a1)]) (st2 := [.inl (w.1 3 0 4)]) (w2 := w) 3 (fun F h => h) ?_
    obtain rfl := Option.some.inj hf
    exact pm_re (r := some (.inl (w.1 3 0 4))) (w2 := w) 1 (fun F h => h) hq
  rw [if_neg hw13] at hf
  refine pm_swd ?_
  refine pm_go (i2 := 49) (ls2 := [some (.inr (.inr (0, 0))), some (.inl a1)]) (st2 := [.inl (-2)]) (w2 := w) 1 (fun F h => h) ?_
  obtain rfl := Option.some.inj hf
  exact pm_re (r := some (.inl (-2))) (w2 := w) 1 (fun F h => h) hq
set_option maxRecDepth 20000 in
set_option maxHeartbeats 4000000 in
theorem a_X7_count (F : Nat) (w : pm_W) (a1 : Int32) (x : Int32) (d : Nat) (hd : 3 ≤ d) (hf : f_X7_count F w a1 = some x) : RT d 81 [.inr (.inr (0, 0)), .inl a1] w (some (.inl x)) w := by
  obtain ⟨d, rfl, hd2⟩ := pm_dep hd
  exact pm_start (co := co_X7_count) (nL := 2) (by decide) rfl rfl (Nat.le_of_ble_eq_true rfl) (b_X7_count F d hd2 _ w a1 x hf ⟨rfl, rfl⟩)
def f_X8_in (F : Nat) (w : pm_W) (a0 : Int64) (a1 : Int64) (a2 : Int64) : Option (Int32) := (if pm_isb (if (lg_cmp a0 a1) < 0 then 0 else (if 0 < (lg_cmp a0 a2) then 0 else 1 : Int32) : Int32) = true then some (if (lg_cmp a0 a1) < 0 then 0 else (if 0 < (lg_cmp a0 a2) then 0 else 1 : Int32) : Int32) else none)
set_option maxRecDepth 20000 in
set_option maxHeartbeats 4000000 in
theorem b_X8_in (F : Nat) (d : Nat) (hd : 0 ≤ d) (Q : pm_Q) (w : pm_W) (a0 : Int64) (a1 : Int64) (a2 : Int64) (x : Int32) (hf : f_X8_in F w a0 a1 a2 = some x) (hq : Q (some (.inl x)) w) : pm_Gx (RT d) co_X8_in 0 [some (.inr (.inl a0)), none, some (.inr (.inl a1)), none, some (.inr (.inl a2)), none] [] w Q := by
  unfold f_X8_in at hf
  refine pm_go (i2 := 3) (ls2 := [some (.inr (.inl a0)), none, some (.inr (.inl a1)), none, some (.inr (.inl a2)), none]) (st2 := [.inl (lg_cmp a0 a1)]) (w2 := w) 3 (fun F h => h) ?_
  have key : pm_Gx (RT d) co_X8_in 11 [some (.inr (.inl a0)), none, some (.inr (.inl a1)), none, some (.inr (.inl a2)), none] [.inl (if (lg_cmp a0 a1) < 0 then 0 else (if 0 < (lg_cmp a0 a2) then 0 else 1 : Int32) : Int32)] w Q := by
    obtain ⟨hz1, hf⟩ := pm_itn hf
    obtain rfl := Option.some.inj hf
    exact pm_re (r := some (.inl (if (lg_cmp a0 a1) < 0 then 0 else (if 0 < (lg_cmp a0 a2) then 0 else 1 : Int32) : Int32))) (w2 := w) 1 (fun F h => ⟨pm_isb_nar hz1, h⟩) hq
  clear hf
  refine pm_if (P := (lg_cmp a0 a1) < 0) (i2 := 10) (i3 := 4) (ls2 := [some (.inr (.inl a0)), none, some (.inr (.inl a1)), none, some (.inr (.inl a2)), none]) (st2 := []) (w2 := w) 1 (fun F h => h) (fun hc2 => ?_) (fun hc2 => ?_)
  · try simp only [if_pos hc2] at key
    refine pm_go (i2 := 11) (ls2 := [some (.inr (.inl a0)), none, some (.inr (.inl a1)), none, some (.inr (.inl a2)), none]) (st2 := [.inl 0]) (w2 := w) 1 (fun F h => h) ?_
    exact key
  · try simp only [if_neg hc2] at key
    refine pm_go (i2 := 7) (ls2 := [some (.inr (.inl a0)), none, some (.inr (.inl a1)), none, some (.inr (.inl a2)), none]) (st2 := [.inl (lg_cmp a0 a2)]) (w2 := w) 3 (fun F h => h) ?_
    refine pm_if (P := 0 < (lg_cmp a0 a2)) (i2 := 10) (i3 := 8) (ls2 := [some (.inr (.inl a0)), none, some (.inr (.inl a1)), none, some (.inr (.inl a2)), none]) (st2 := []) (w2 := w) 1 (fun F h => h) (fun hc3 => ?_) (fun hc3 => ?_)
    · try simp only [if_pos hc3] at key
      refine pm_go (i2 := 11) (ls2 := [some (.inr (.inl a0)), none, some (.inr (.inl a1)), none, some (.inr (.inl a2)), none]) (st2 := [.inl 0]) (w2 := w) 1 (fun F h => h) ?_
      exact key
    · try simp only [if_neg hc3] at key
      refine pm_go (i2 := 11) (ls2 := [some (.inr (.inl a0)), none, some (.inr (.inl a1)), none, some (.inr (.inl a2)), none]) (st2 := [.inl 1]) (w2 := w) 2 (fun F h => h) ?_
      exact key
set_option maxRecDepth 20000 in
set_option maxHeartbeats 4000000 in
theorem a_X8_in (F : Nat) (w : pm_W) (a0 : Int64) (a1 : Int64) (a2 : Int64) (x : Int32) (d : Nat) (hd : 1 ≤ d) (hf : f_X8_in F w a0 a1 a2 = some x) : RT d 88 [.inr (.inl a0), .inr (.inl a1), .inr (.inl a2)] w (some (.inl x)) w := by
  obtain ⟨d, rfl, hd2⟩ := pm_dep hd
  exact pm_start (co := co_X8_in) (nL := 6) (by decide) rfl rfl (Nat.le_of_ble_eq_true rfl) (b_X8_in F d hd2 _ w a0 a1 a2 x hf ⟨rfl, rfl⟩)
def f_X8_has (F : Nat) (w : pm_W) (a0 : Int32) (a1 : Int32) : Option (Int32) := (if pm_isb (if ((a0 >>> (a1 &&& 31)) &&& 1) = 1 then 1 else 0 : Int32) = true then some (if ((a0 >>> (a1 &&& 31)) &&& 1) = 1 then 1 else 0 : Int32) else none)
set_option maxRecDepth 20000 in
set_option maxHeartbeats 4000000 in
theorem b_X8_has (F : Nat) (d : Nat) (hd : 0 ≤ d) (Q : pm_Q) (w : pm_W) (a0 : Int32) (a1 : Int32) (x : Int32) (hf : f_X8_has F w a0 a1 = some x) (hq : Q (some (.inl x)) w) : pm_Gx (RT d) co_X8_has 0 [some (.inl a0), some (.inl a1)] [] w Q := by
  unfold f_X8_has at hf
  refine pm_go (i2 := 6) (ls2 := [some (.inl a0), some (.inl a1)]) (st2 := [.inl 1, .inl ((a0 >>> (a1 &&& 31)) &&& 1)]) (w2 := w) 6 (fun F h => h) ?_
  have key : pm_Gx (RT d) co_X8_has 10 [some (.inl a0), some (.inl a1)] [.inl (if ((a0 >>> (a1 &&& 31)) &&& 1) = 1 then 1 else 0 : Int32)] w Q := by
    obtain ⟨hz1, hf⟩ := pm_itn hf
    obtain rfl := Option.some.inj hf
    exact pm_re (r := some (.inl (if ((a0 >>> (a1 &&& 31)) &&& 1) = 1 then 1 else 0 : Int32))) (w2 := w) 1 (fun F h => ⟨pm_isb_nar hz1, h⟩) hq
  clear hf
  refine pm_if (P := ((a0 >>> (a1 &&& 31)) &&& 1) = 1) (i2 := 7) (i3 := 9) (ls2 := [some (.inl a0), some (.inl a1)]) (st2 := []) (w2 := w) 1 (fun F h => h) (fun hc2 => ?_) (fun hc2 => ?_)
  · try simp only [if_pos hc2] at key
    refine pm_go (i2 := 10) (ls2 := [some (.inl a0), some (.inl a1)]) (st2 := [.inl 1]) (w2 := w) 2 (fun F h => h) ?_
    exact key
  · try simp only [if_neg hc2] at key
    refine pm_go (i2 := 10) (ls2 := [some (.inl a0), some (.inl a1)]) (st2 := [.inl 0]) (w2 := w) 1 (fun F h => h) ?_
    exact key
set_option maxRecDepth 20000 in
set_option maxHeartbeats 4000000 in
theorem a_X8_has (F : Nat) (w : pm_W) (a0 : Int32) (a1 : Int32) (x : Int32) (d : Nat) (hd : 1 ≤ d) (hf : f_X8_has F w a0 a1 = some x) : RT d 89 [.inl a0, .inl a1] w (some (.inl x)) w := by
  obtain ⟨d, rfl, hd2⟩ := pm_dep hd
  exact pm_start (co := co_X8_has) (nL := 2) (by decide) rfl rfl (Nat.le_of_ble_eq_true rfl) (b_X8_has F d hd2 _ w a0 a1 x hf ⟨rfl, rfl⟩)
def f_X8_ones_L4 (F : Nat) (w : pm_W) : Nat → Int32 → Int32 → Int32 → Option (Int32 × Int32)
  | 0, _, _, _ => none
  | n + 1, v0, v1, v2 => (if 5 ≤ v2 then some (v1, v2) else f_X8_ones_L4 F w n v0 (v1 + ((v0 >>> (v2 &&& 31)) &&& 1)) (v2 + 1))
def f_X8_ones (F : Nat) (w : pm_W) (a0 : Int32) : Option (Int32) := ((f_X8_ones_L4 F w F a0 0 0).bind fun x2 => some x2.1)
set_option maxRecDepth 20000 in
set_option maxHeartbeats 4000000 in
theorem a_X8_ones_L4 (F : Nat) (d : Nat) (hd : 0 ≤ d) (Q : pm_Q) (w : pm_W) : ∀ (n : Nat) (v0 : Int32) (v1 : Int32) (v2 : Int32) (x : Int32 × Int32), f_X8_ones_L4 F w n v0 v1 v2 = some x → pm_Gx (RT d) co_X8_ones 17 [some (.inl v0), some (.inl x.1), some (.inl x.2)] [] w Q → pm_Gx (RT d) co_X8_ones 4 [some (.inl v0), some (.inl v1), some (.inl v2)] [] w Q := by
  intro n
  induction n with
  | zero =>
    intro v0 v1 v2 x hf
    cases hf
  | succ n ih =>
    intro v0 v1 v2 x hf hk
    rw [f_X8_ones_L4] at hf
    refine pm_go (i2 := 6) (ls2 := [some (.inl v0), some (.inl v1), some (.inl v2)]) (st2 := [.inl 5, .inl v2]) (w2 := w) 2 (fun F h => h) ?_
    refine pm_if (P := 5 ≤ v2) (i2 := 17) (i3 := 7) (ls2 := [some (.inl v0), some (.inl v1), some (.inl v2)]) (st2 := []) (w2 := w) 1 (fun F h => h) (fun hc1 => ?_) (fun hc1 => ?_)
    · rw [if_pos hc1] at hf
      obtain rfl := Option.some.inj hf
      exact hk
    · rw [if_neg hc1] at hf
      refine pm_go (i2 := 4) (ls2 := [some (.inl v0), some (.inl (v1 + ((v0 >>> (v2 &&& 31)) &&& 1))), some (.inl (v2 + 1))]) (st2 := []) (w2 := w) 10 (fun F h => h) ?_
      exact ih v0 (v1 + ((v0 >>> (v2 &&& 31)) &&& 1)) (v2 + 1) _ hf hk
set_option maxRecDepth 20000 in
set_option maxHeartbeats 4000000 in
theorem b_X8_ones (F : Nat) (d : Nat) (hd : 0 ≤ d) (Q : pm_Q) (w : pm_W) (a0 : Int32) (x : Int32) (hf : f_X8_ones F w a0 = some x) (hq : Q (some (.inl x)) w) : pm_Gx (RT d) co_X8_ones 0 [some (.inl a0), none, none] [] w Q := by
  unfold f_X8_ones at hf
  refine pm_go (i2 := 4) (ls2 := [some (.inl a0), some (.inl 0), some (.inl 0)]) (st2 := []) (w2 := w) 4 (fun F h => h) ?_
  obtain ⟨x2, hx3, hf⟩ := Option.bind_eq_some_iff.mp hf
  refine a_X8_ones_L4 F d hd Q w F a0 0 0 x2 hx3 ?_
  refine pm_go (i2 := 18) (ls2 := [some (.inl a0), some (.inl x2.1), some (.inl x2.2)]) (st2 := [.inl x2.1]) (w2 := w) 1 (fun F h => h) ?_
  obtain rfl := Option.some.inj hf
  exact pm_re (r := some (.inl x2.1)) (w2 := w) 1 (fun F h => h) hq
set_option maxRecDepth 20000 in
set_option maxHeartbeats 4000000 in
theorem a_X8_ones (F : Nat) (w : pm_W) (a0 : Int32) (x : Int32) (d : Nat) (hd : 1 ≤ d) (hf : f_X8_ones F w a0 = some x) : RT d 90 [.inl a0] w (some (.inl x)) w := by
  obtain ⟨d, rfl, hd2⟩ := pm_dep hd
  exact pm_start (co := co_X8_ones) (nL := 3) (by decide) rfl rfl (Nat.le_of_ble_eq_true rfl) (b_X8_ones F d hd2 _ w a0 x hf ⟨rfl, rfl⟩)
def f_X8_write (F : Nat) (w : pm_W) (a1 : Int32) : Option ((Int32 × pm_W)) := ((f_X8_in F w a1.toInt64 0 255).bind fun r1 => (if r1 = 0 then some ((-2), w) else (if (w.1 19 0 16) = 40 then some ((-4), w) else (if pm_inb (w.1 19 0 16) 40 = true then (pm_wlet (pm_setI w 28 0 ((w.1 19 0 16).toNatClampNeg) a1) fun w6 => (pm_wlet (pm_setI w6 19 0 16 ((w6.1 19 0 16) + 1)) fun w7 => some (w7.1 19 0 16, w7))) else none))))
set_option maxRecDepth 20000 in
set_option maxHeartbeats 4000000 in
theorem b_X8_write (F : Nat) (d : Nat) (hd : 1 ≤ d) (Q : pm_Q) (w : pm_W) (a1 : Int32) (x : (Int32 × pm_W)) (hf : f_X8_write F w a1 = some x) (hq : Q (some (.inl x.1)) x.2) : pm_Gx (RT d) co_X8_write 0 [some (.inr (.inr (19, 0))), some (.inl a1)] [] w Q := by
  unfold f_X8_write at hf
  refine pm_go (i2 := 4) (ls2 := [some (.inr (.inr (19, 0))), some (.inl a1)]) (st2 := [.inr (.inl 255), .inr (.inl 0), .inr (.inl a1.toInt64)]) (w2 := w) 4 (fun F h => h) ?_
  obtain ⟨r1, hr2, hf⟩ := Option.bind_eq_some_iff.mp hf
  refine pm_ca (y := 88) (as := [.inr (.inl a1.toInt64), .inr (.inl 0), .inr (.inl 255)]) (r := some (.inl r1)) (w2 := w) (w1 := w) (t := []) (i2 := 5) (ls2 := [some (.inr (.inr (19, 0))), some (.inl a1)]) 1 (a_X8_in F w a1.toInt64 0 255 r1 d (by omega) hr2) (fun F h => h) ?_
  show pm_Gx (RT d) co_X8_write 5 [some (.inr (.inr (19, 0))), some (.inl a1)] [.inl r1] w Q
  refine pm_if (P := r1 = 0) (i2 := 6) (i3 := 8) (ls2 := [some (.inr (.inr (19, 0))), some (.inl a1)]) (st2 := []) (w2 := w) 1 (fun F h => h) (fun hc3 => ?_) (fun hc3 => ?_)
  · rw [if_pos hc3] at hf
    refine pm_go (i2 := 7) (ls2 := [some (.inr (.inr (19, 0))), some (.inl a1)]) (st2 := [.inl (-2)]) (w2 := w) 1 (fun F h => h) ?_
    obtain rfl := Option.some.inj hf
    exact pm_re (r := some (.inl (-2))) (w2 := w) 1 (fun F h => h) hq
  · rw [if_neg hc3] at hf
    refine pm_go (i2 := 11) (ls2 := [some (.inr (.inr (19, 0))), some (.inl a1)]) (st2 := [.inl 40, .inl (w.1 19 0 16)]) (w2 := w) 3 (fun F h => h) ?_
    refine pm_if (P := (w.1 19 0 16) = 40) (i2 := 12) (i3 := 14) (ls2 := [some (.inr (.inr (19, 0))), some (.inl a1)]) (st2 := []) (w2 := w) 1 (fun F h => h) (fun hc4 => ?_) (fun hc4 => ?_)
    · rw [if_pos hc4] at hf
      refine pm_go (i2 := 13) (ls2 := [some (.inr (.inr (19, 0))), some (.inl a1)]) (st2 := [.inl (-4)]) (w2 := w) 1 (fun F h => h) ?_
      obtain rfl := Option.some.inj hf
      exact pm_re (r := some (.inl (-4))) (w2 := w) 1 (fun F h => h) hq
    · rw [if_neg hc4] at hf
      obtain ⟨hs5, hf⟩ := pm_itn hf
      refine pm_go (i2 := 20) (ls2 := [some (.inr (.inr (19, 0))), some (.inl a1)]) (st2 := []) (w2 := (pm_setI w 28 0 ((w.1 19 0 16).toNatClampNeg) a1)) 6 (fun F h => ⟨(pm_inb_in hs5), h⟩) ?_
      generalize (pm_setI w 28 0 ((w.1 19 0 16).toNatClampNeg) a1) = w6 at hf ⊢
      replace hf := pm_wlet_un hf
      refine pm_go (i2 := 26) (ls2 := [some (.inr (.inr (19, 0))), some (.inl a1)]) (st2 := []) (w2 := (pm_setI w6 19 0 16 ((w6.1 19 0 16) + 1))) 6 (fun F h => h) ?_
      generalize (pm_setI w6 19 0 16 ((w6.1 19 0 16) + 1)) = w7 at hf ⊢
      replace hf := pm_wlet_un hf
      refine pm_go (i2 := 28) (ls2 := [some (.inr (.inr (19, 0))), some (.inl a1)]) (st2 := [.inl (w7.1 19 0 16)]) (w2 := w7) 2 (fun F h => h) ?_
      obtain rfl := Option.some.inj hf
      exact pm_re (r := some (.inl (w7.1 19 0 16))) (w2 := w7) 1 (fun F h => h) hq
set_option maxRecDepth 20000 in
set_option maxHeartbeats 4000000 in
theorem a_X8_write (F : Nat) (w : pm_W) (a1 : Int32) (x : (Int32 × pm_W)) (d : Nat) (hd : 2 ≤ d) (hf : f_X8_write F w a1 = some x) : RT d 91 [.inr (.inr (19, 0)), .inl a1] w (some (.inl x.1)) x.2 := by
  obtain ⟨d, rfl, hd2⟩ := pm_dep hd
  exact pm_start (co := co_X8_write) (nL := 2) (by decide) rfl rfl (Nat.le_of_ble_eq_true rfl) (b_X8_write F d hd2 _ w a1 x hf ⟨rfl, rfl⟩)
def f_X8_wipe (F : Nat) (w : pm_W) : Option ((Int32 × pm_W)) := (pm_wlet (pm_setI w 19 0 16 0) fun w1 => some (w.1 19 0 16, w1))
set_option maxRecDepth 20000 in
set_option maxHeartbeats 4000000 in
theorem b_X8_wipe (F : Nat) (d : Nat) (hd : 0 ≤ d) (Q : pm_Q) (w : pm_W) (x : (Int32 × pm_W)) (hf : f_X8_wipe F w = some x) (hq : Q (some (.inl x.1)) x.2) : pm_Gx (RT d) co_X8_wipe 0 [some (.inr (.inr (19, 0))), none] [] w Q := by
  unfold f_X8_wipe at hf
  refine pm_go (i2 := 6) (ls2 := [some (.inr (.inr (19, 0))), some (.inl (w.1 19 0 16))]) (st2 := []) (w2 := (pm_setI w 19 0 16 0)) 6 (fun F h => h) ?_
  generalize (pm_setI w 19 0 16 0) = w1 at hf ⊢
  replace hf := pm_wlet_un hf
  refine pm_go (i2 := 7) (ls2 := [some (.inr (.inr (19, 0))), some (.inl (w.1 19 0 16))]) (st2 := [.inl (w.1 19 0 16)]) (w2 := w1) 1 (fun F h => h) ?_
  obtain rfl := Option.some.inj hf
  exact pm_re (r := some (.inl (w.1 19 0 16))) (w2 := w1) 1 (fun F h => h) hq
set_option maxRecDepth 20000 in
set_option maxHeartbeats 4000000 in
theorem a_X8_wipe (F : Nat) (w : pm_W) (x : (Int32 × pm_W)) (d : Nat) (hd : 1 ≤ d) (hf : f_X8_wipe F w = some x) : RT d 92 [.inr (.inr (19, 0))] w (some (.inl x.1)) x.2 := by
  obtain ⟨d, rfl, hd2⟩ := pm_dep hd
  exact pm_start (co := co_X8_wipe) (nL := 2) (by decide) rfl rfl (Nat.le_of_ble_eq_true rfl) (b_X8_wipe F d hd2 _ w x hf ⟨rfl, rfl⟩)
def f_X8_figure (F : Nat) (w : pm_W) (a1 : Int32) (a2 : Int32) : Option ((Int32 × pm_W)) := (if (w.1 19 0 18) = (-9) then (if (w.1 19 0 16) ≤ (w.1 19 0 17) then ((f_X8_in F w ((-9 : Int32).toInt64) a1.toInt64 a2.toInt64).bind fun r3 => (if r3 = 0 then (pm_wlet (pm_setI w 19 0 18 (if (w.1 19 0 18) = (-9) then w.1 19 0 17 else w.1 19 0 18 : Int32)) fun w6 => some (a1, w6)) else (pm_wlet (pm_setI w 19 0 17 ((w.1 19 0 17) + 1)) fun w8 => some ((-9), w8)))) else (if pm_inb (w.1 19 0 17) 40 = true then ((f_X8_in F w (((w.1 28 0 ((w.1 19 0 17).toNatClampNeg)) - 48).toInt64) a1.toInt64 a2.toInt64).bind fun r10 => (if r10 = 0 then (pm_wlet (pm_setI w 19 0 18 (if (w.1 19 0 18) = (-9) then w.1 19 0 17 else w.1 19 0 18 : Int32)) fun w13 => some (a1, w13)) else (pm_wlet (pm_setI w 19 0 17 ((w.1 19 0 17) + 1)) fun w15 => some ((w.1 28 0 ((w.1 19 0 17).toNatClampNeg)) - 48, w15)))) else none)) else ((f_X8_in F w ((-9 : Int32).toInt64) a1.toInt64 a2.toInt64).bind fun r16 => (if r16 = 0 then (pm_wlet (pm_setI w 19 0 18 (if (w.1 19 0 18) = (-9) then w.1 19 0 17 else w.1 19 0 18 : Int32)) fun w19 => some (a1, w19)) else (pm_wlet (pm_setI w 19 0 17 ((w.1 19 0 17) + 1)) fun w21 => some ((-9), w21)))))
set_option maxRecDepth 20000 in
set_option maxHeartbeats 4000000 in
theorem b_X8_figure (F : Nat) (d : Nat) (hd : 1 ≤ d) (Q : pm_Q) (w : pm_W) (a1 : Int32) (a2 : Int32) (x : (Int32 × pm_W)) (hf : f_X8_figure F w a1 a2 = some x) (hq : Q (some (.inl x.1)) x.2) : pm_Gx (RT d) co_X8_figure 0 [some (.inr (.inr (19, 0))), some (.inl a1), some (.inl a2), none] [] w Q := by
  unfold f_X8_figure at hf
  refine pm_go (i2 := 3) (ls2 := [some (.inr (.inr (19, 0))), some (.inl a1), some (.inl a2), none]) (st2 := [.inl (-9), .inl (w.1 19 0 18)]) (w2 := w) 3 (fun F h => h) ?_
  refine pm_if (P := (w.1 19 0 18) = (-9)) (i2 := 4) (i3 := 17) (ls2 := [some (.inr (.inr (19, 0))), some (.inl a1), some (.inl a2), none]) (st2 := []) (w2 := w) 1 (fun F h => h) (fun hc1 => ?_) (fun hc1 => ?_)
  · rw [if_pos hc1] at hf
    refine pm_go (i2 := 8) (ls2 := [some (.inr (.inr (19, 0))), some (.inl a1), some (.inl a2), none]) (st2 := [.inl (w.1 19 0 16), .inl (w.1 19 0 17)]) (w2 := w) 4 (fun F h => h) ?_
    refine pm_if (P := (w.1 19 0 16) ≤ (w.1 19 0 17)) (i2 := 17) (i3 := 9) (ls2 := [some (.inr (.inr (19, 0))), some (.inl a1), some (.inl a2), none]) (st2 := []) (w2 := w) 1 (fun F h => h) (fun hc2 => ?_) (fun hc2 => ?_)
    · rw [if_pos hc2] at hf
      refine pm_go (i2 := 25) (ls2 := [some (.inr (.inr (19, 0))), some (.inl a1), some (.inl a2), some (.inl (-9))]) (st2 := [.inr (.inl a2.toInt64), .inr (.inl a1.toInt64), .inr (.inl ((-9 : Int32).toInt64))]) (w2 := w) 8 (fun F h => h) ?_
      obtain ⟨r3, hr4, hf⟩ := Option.bind_eq_some_iff.mp hf
      refine pm_ca (y := 88) (as := [.inr (.inl ((-9 : Int32).toInt64)), .inr (.inl a1.toInt64), .inr (.inl a2.toInt64)]) (r := some (.inl r3)) (w2 := w) (w1 := w) (t := []) (i2 := 26) (ls2 := [some (.inr (.inr (19, 0))), some (.inl a1), some (.inl a2), some (.inl (-9))]) 1 (a_X8_in F w ((-9 : Int32).toInt64) a1.toInt64 a2.toInt64 r3 d (by omega) hr4) (fun F h => h) ?_
      show pm_Gx (RT d) co_X8_figure 26 [some (.inr (.inr (19, 0))), some (.inl a1), some (.inl a2), some (.inl (-9))] [.inl r3] w Q
      refine pm_if (P := r3 = 0) (i2 := 27) (i3 := 40) (ls2 := [some (.inr (.inr (19, 0))), some (.inl a1), some (.inl a2), some (.inl (-9))]) (st2 := []) (w2 := w) 1 (fun F h => h) (fun hc5 => ?_) (fun hc5 => ?_)
      · rw [if_pos hc5] at hf
        refine pm_go (i2 := 31) (ls2 := [some (.inr (.inr (19, 0))), some (.inl a1), some (.inl a2), some (.inl (-9))]) (st2 := [.inl (-9), .inl (w.1 19 0 18), .inr (.inr (19, 0))]) (w2 := w) 4 (fun F h => h) ?_
        have key : pm_Gx (RT d) co_X8_figure 37 [some (.inr (.inr (19, 0))), some (.inl a1), some (.inl a2), some (.inl (-9))] [.inl (if (w.1 19 0 18) = (-9) then w.1 19 0 17 else w.1 19 0 18 : Int32), .inr (.inr (19, 0))] w Q := by
          refine pm_go (i2 := 38) (ls2 := [some (.inr (.inr (19, 0))), some (.inl a1), some (.inl a2), some (.inl (-9))]) (st2 := []) (w2 := (pm_setI w 19 0 18 (if (w.1 19 0 18) = (-9) then w.1 19 0 17 else w.1 19 0 18 : Int32))) 1 (fun F h => h) ?_
          generalize (pm_setI w 19 0 18 (if (w.1 19 0 18) = (-9) then w.1 19 0 17 else w.1 19 0 18 : Int32)) = w6 at hf ⊢
          replace hf := pm_wlet_un hf
          refine pm_go (i2 := 39) (ls2 := [some (.inr (.inr (19, 0))), some (.inl a1), some (.inl a2), some (.inl (-9))]) (st2 := [.inl a1]) (w2 := w6) 1 (fun F h => h) ?_
          obtain rfl := Option.some.inj hf
          exact pm_re (r := some (.inl a1)) (w2 := w6) 1 (fun F h => h) hq
        clear hf
        refine pm_if (P := (w.1 19 0 18) = (-9)) (i2 := 32) (i3 := 35) (ls2 := [some (.inr (.inr (19, 0))), some (.inl a1), some (.inl a2), some (.inl (-9))]) (st2 := [.inr (.inr (19, 0))]) (w2 := w) 1 (fun F h => h) (fun hc7 => ?_) (fun hc7 => ?_)
        · try simp only [if_pos hc7] at key
          refine pm_go (i2 := 37) (ls2 := [some (.inr (.inr (19, 0))), some (.inl a1), some (.inl a2), some (.inl (-9))]) (st2 := [.inl (w.1 19 0 17), .inr (.inr (19, 0))]) (w2 := w) 3 (fun F h => h) ?_
          exact key
        · try simp only [if_neg hc7] at key
          refine pm_go (i2 := 37) (ls2 := [some (.inr (.inr (19, 0))), some (.inl a1), some (.inl a2), some (.inl (-9))]) (st2 := [.inl (w.1 19 0 18), .inr (.inr (19, 0))]) (w2 := w) 2 (fun F h => h) ?_
          exact key
      · rw [if_neg hc5] at hf
        refine pm_go (i2 := 46) (ls2 := [some (.inr (.inr (19, 0))), some (.inl a1), some (.inl a2), some (.inl (-9))]) (st2 := []) (w2 := (pm_setI w 19 0 17 ((w.1 19 0 17) + 1))) 6 (fun F h => h) ?_
        generalize (pm_setI w 19 0 17 ((w.1 19 0 17) + 1)) = w8 at hf ⊢
        replace hf := pm_wlet_un hf
        refine pm_go (i2 := 47) (ls2 := [some (.inr (.inr (19, 0))), some (.inl a1), some (.inl a2), some (.inl (-9))]) (st2 := [.inl (-9)]) (w2 := w8) 1 (fun F h => h) ?_
        obtain rfl := Option.some.inj hf
        exact pm_re (r := some (.inl (-9))) (w2 := w8) 1 (fun F h => h) hq
    · rw [if_neg hc2] at hf
      obtain ⟨hs9, hf⟩ := pm_itn hf
      refine pm_go (i2 := 25) (ls2 := [some (.inr (.inr (19, 0))), some (.inl a1), some (.inl a2), some (.inl ((w.1 28 0 ((w.1 19 0 17).toNatClampNeg)) - 48))]) (st2 := [.inr (.inl a2.toInt64), .inr (.inl a1.toInt64), .inr (.inl (((w.1 28 0 ((w.1 19 0 17).toNatClampNeg)) - 48).toInt64))]) (w2 := w) 15 (fun F h => ⟨(pm_inb_in hs9), h⟩) ?_
      obtain ⟨r10, hr11, hf⟩ := Option.bind_eq_some_iff.mp hf
      refine pm_ca (y := 88) (as := [.inr (.inl (((w.1 28 0 ((w.1 19 0 17).toNatClampNeg)) - 48).toInt64)), .inr (.inl a1.toInt64), .inr (.inl a2.toInt64)]) (r := some (.inl r10)) (w2 := w) (w1 := w) (t := []) (i2 := 26) (ls2 := [some (.inr (.inr (19, 0))), some (.inl a1), some (.inl a2), some (.inl ((w.1 28 0 ((w.1 19 0 17).toNatClampNeg)) - 48))]) 1 (a_X8_in F w (((w.1 28 0 ((w.1 19 0 17).toNatClampNeg)) - 48).toInt64) a1.toInt64 a2.toInt64 r10 d (by omega) hr11) (fun F h => h) ?_
      show pm_Gx (RT d) co_X8_figure 26 [some (.inr (.inr (19, 0))), some (.inl a1), some (.inl a2), some (.inl ((w.1 28 0 ((w.1 19 0 17).toNatClampNeg)) - 48))] [.inl r10] w Q
      refine pm_if (P := r10 = 0) (i2 := 27) (i3 := 40) (ls2 := [some (.inr (.inr (19, 0))), some (.inl a1), some (.inl a2), some (.inl ((w.1 28 0 ((w.1 19 0 17).toNatClampNeg)) - 48))]) (st2 := []) (w2 := w) 1 (fun F h => h) (fun hc12 => ?_) (fun hc12 => ?_)
      · rw [if_pos hc12] at hf
        refine pm_go (i2 := 31) (ls2 := [some (.inr (.inr (19, 0))), some (.inl a1), some (.inl a2), some (.inl ((w.1 28 0 ((w.1 19 0 17).toNatClampNeg)) - 48))]) (st2 := [.inl (-9), .inl (w.1 19 0 18), .inr (.inr (19, 0))]) (w2 := w) 4 (fun F h => h) ?_
        have key : pm_Gx (RT d) co_X8_figure 37 [some (.inr (.inr (19, 0))), some (.inl a1), some (.inl a2), some (.inl ((w.1 28 0 ((w.1 19 0 17).toNatClampNeg)) - 48))] [.inl (if (w.1 19 0 18) = (-9) then w.1 19 0 17 else w.1 19 0 18 : Int32), .inr (.inr (19, 0))] w Q := by
          refine pm_go (i2 := 38) (ls2 := [some (.inr (.inr (19, 0))), some (.inl a1), some (.inl a2), some (.inl ((w.1 28 0 ((w.1 19 0 17).toNatClampNeg)) - 48))]) (st2 := []) (w2 := (pm_setI w 19 0 18 (if (w.1 19 0 18) = (-9) then w.1 19 0 17 else w.1 19 0 18 : Int32))) 1 (fun F h => h) ?_
          generalize (pm_setI w 19 0 18 (if (w.1 19 0 18) = (-9) then w.1 19 0 17 else w.1 19 0 18 : Int32)) = w13 at hf ⊢
          replace hf := pm_wlet_un hf
          refine pm_go (i2 := 39) (ls2 := [some (.inr (.inr (19, 0))), some (.inl a1), some (.inl a2), some (.inl ((w.1 28 0 ((w.1 19 0 17).toNatClampNeg)) - 48))]) (st2 := [.inl a1]) (w2 := w13) 1 (fun F h => h) ?_
          obtain rfl := Option.some.inj hf
          exact pm_re (r := some (.inl a1)) (w2 := w13) 1 (fun F h => h) hq
        clear hf
        refine pm_if (P := (w.1 19 0 18) = (-9)) (i2 := 32) (i3 := 35) (ls2 := [some (.inr (.inr (19, 0))), some (.inl a1), some (.inl a2), some (.inl ((w.1 28 0 ((w.1 19 0 17).toNatClampNeg)) - 48))]) (st2 := [.inr (.inr (19, 0))]) (w2 := w) 1 (fun F h => h) (fun hc14 => ?_) (fun hc14 => ?_)
        · try simp only [if_pos hc14] at key
          refine pm_go (i2 := 37) (ls2 := [some (.inr (.inr (19, 0))), some (.inl a1), some (.inl a2), some (.inl ((w.1 28 0 ((w.1 19 0 17).toNatClampNeg)) - 48))]) (st2 := [.inl (w.1 19 0 17), .inr (.inr (19, 0))]) (w2 := w) 3 (fun F h => h) ?_
          exact key
        · try simp only [if_neg hc14] at key
          refine pm_go (i2 := 37) (ls2 := [some (.inr (.inr (19, 0))), some (.inl a1), some (.inl a2), some (.inl ((w.1 28 0 ((w.1 19 0 17).toNatClampNeg)) - 48))]) (st2 := [.inl (w.1 19 0 18), .inr (.inr (19, 0))]) (w2 := w) 2 (fun F h => h) ?_
          exact key
      · rw [if_neg hc12] at hf
        refine pm_go (i2 := 46) (ls2 := [some (.inr (.inr (19, 0))), some (.inl a1), some (.inl a2), some (.inl ((w.1 28 0 ((w.1 19 0 17).toNatClampNeg)) - 48))]) (st2 := []) (w2 := (pm_setI w 19 0 17 ((w.1 19 0 17) + 1))) 6 (fun F h => h) ?_
        generalize (pm_setI w 19 0 17 ((w.1 19 0 17) + 1)) = w15 at hf ⊢
        replace hf := pm_wlet_un hf
        refine pm_go (i2 := 47) (ls2 := [some (.inr (.inr (19, 0))), some (.inl a1), some (.inl a2), some (.inl ((w.1 28 0 ((w.1 19 0 17).toNatClampNeg)) - 48))]) (st2 := [.inl ((w.1 28 0 ((w.1 19 0 17).toNatClampNeg)) - 48)]) (w2 := w15) 1 (fun F h => h) ?_
        obtain rfl := Option.some.inj hf
        exact pm_re (r := some (.inl ((w.1 28 0 ((w.1 19 0 17).toNatClampNeg)) - 48))) (w2 := w15) 1 (fun F h => h) hq
  · rw [if_neg hc1] at hf
    refine pm_go (i2 := 25) (ls2 := [some (.inr (.inr (19, 0))), some (.inl a1), some (.inl a2), some (.inl (-9))]) (st2 := [.inr (.inl a2.toInt64), .inr (.inl a1.toInt64), .inr (.inl ((-9 : Int32).toInt64))]) (w2 := w) 8 (fun F h => h) ?_
    obtain ⟨r16, hr17, hf⟩ := Option.bind_eq_some_iff.mp hf
    refine pm_ca (y := 88) (as := [.inr (.inl ((-9 : Int32).toInt64)), .inr (.inl a1.toInt64), .inr (.inl a2.toInt64)]) (r := some (.inl r16)) (w2 := w) (w1 := w) (t := []) (i2 := 26) (ls2 := [some (.inr (.inr (19, 0))), some (.inl a1), some (.inl a2), some (.inl (-9))]) 1 (a_X8_in F w ((-9 : Int32).toInt64) a1.toInt64 a2.toInt64 r16 d (by omega) hr17) (fun F h => h) ?_
    show pm_Gx (RT d) co_X8_figure 26 [some (.inr (.inr (19, 0))), some (.inl a1), some (.inl a2), some (.inl (-9))] [.inl r16] w Q
    refine pm_if (P := r16 = 0) (i2 := 27) (i3 := 40) (ls2 := [some (.inr (.inr (19, 0))), some (.inl a1), some (.inl a2), some (.inl (-9))]) (st2 := []) (w2 := w) 1 (fun F h => h) (fun hc18 => ?_) (fun hc18 => ?_)
    · rw [if_pos hc18] at hf
      refine pm_go (i2 := 31) (ls2 := [some (.inr (.inr (19, 0))), some (.inl a1), some (.inl a2), some (.inl (-9))]) (st2 := [.inl (-9), .inl (w.1 19 0 18), .inr (.inr (19, 0))]) (w2 := w) 4 (fun F h => h) ?_
      have key : pm_Gx (RT d) co_X8_figure 37 [some (.inr (.inr (19, 0))), some (.inl a1), some (.inl a2), some (.inl (-9))] [.inl (if (w.1 19 0 18) = (-9) then w.1 19 0 17 else w.1 19 0 18 : Int32), .inr (.inr (19, 0))] w Q := by
        refine pm_go (i2 := 38) (ls2 := [some (.inr (.inr (19, 0))), some (.inl a1), some (.inl a2), some (.inl (-9))]) (st2 := []) (w2 := (pm_setI w 19 0 18 (if (w.1 19 0 18) = (-9) then w.1 19 0 17 else w.1 19 0 18 : Int32))) 1 (fun F h => h) ?_
        generalize (pm_setI w 19 0 18 (if (w.1 19 0 18) = (-9) then w.1 19 0 17 else w.1 19 0 18 : Int32)) = w19 at hf ⊢
        replace hf := pm_wlet_un hf
        refine pm_go (i2 := 39) (ls2 := [some (.inr (.inr (19, 0))), some (.inl a1), some (.inl a2), some (.inl (-9))]) (st2 := [.inl a1]) (w2 := w19) 1 (fun F h => h) ?_
        obtain rfl := Option.some.inj hf
        exact pm_re (r := some (.inl a1)) (w2 := w19) 1 (fun F h => h) hq
      clear hf
      refine pm_if (P := (w.1 19 0 18) = (-9)) (i2 := 32) (i3 := 35) (ls2 := [some (.inr (.inr (19, 0))), some (.inl a1), some (.inl a2), some (.inl (-9))]) (st2 := [.inr (.inr (19, 0))]) (w2 := w) 1 (fun F h => h) (fun hc20 => ?_) (fun hc20 => ?_)
      · try simp only [if_pos hc20] at key
        refine pm_go (i2 := 37) (ls2 := [some (.inr (.inr (19, 0))), some (.inl a1), some (.inl a2), some (.inl (-9))]) (st2 := [.inl (w.1 19 0 17), .inr (.inr (19, 0))]) (w2 := w) 3 (fun F h => h) ?_
        exact key
      · try simp only [if_neg hc20] at key
        refine pm_go (i2 := 37) (ls2 := [some (.inr (.inr (19, 0))), some (.inl a1), some (.inl a2), some (.inl (-9))]) (st2 := [.inl (w.1 19 0 18), .inr (.inr (19, 0))]) (w2 := w) 2 (fun F h => h) ?_
        exact key
    · rw [if_neg hc18] at hf
      refine pm_go (i2 := 46) (ls2 := [some (.inr (.inr (19, 0))), some (.inl a1), some (.inl a2), some (.inl (-9))]) (st2 := []) (w2 := (pm_setI w 19 0 17 ((w.1 19 0 17) + 1))) 6 (fun F h => h) ?_
      generalize (pm_setI w 19 0 17 ((w.1 19 0 17) + 1)) = w21 at hf ⊢
      replace hf := pm_wlet_un hf
      refine pm_go (i2 := 47) (ls2 := [some (.inr (.inr (19, 0))), some (.inl a1), some (.inl a2), some (.inl (-9))]) (st2 := [.inl (-9)]) (w2 := w21) 1 (fun F h => h) ?_
      obtain rfl := Option.some.inj hf
      exact pm_re (r := some (.inl (-9))) (w2 := w21) 1 (fun F h => h) hq
set_option maxRecDepth 20000 in
set_option maxHeartbeats 4000000 in
theorem a_X8_figure (F : Nat) (w : pm_W) (a1 : Int32) (a2 : Int32) (x : (Int32 × pm_W)) (d : Nat) (hd : 2 ≤ d) (hf : f_X8_figure F w a1 a2 = some x) : RT d 93 [.inr (.inr (19, 0)), .inl a1, .inl a2] w (some (.inl x.1)) x.2 := by
  obtain ⟨d, rfl, hd2⟩ := pm_dep hd
  exact pm_start (co := co_X8_figure) (nL := 4) (by decide) rfl rfl (Nat.le_of_ble_eq_true rfl) (b_X8_figure F d hd2 _ w a1 a2 x hf ⟨rfl, rfl⟩)
def f_X8_isFree_L10 (F : Nat) (w : pm_W) : Nat → Int32 → Int32 → Int32 → Option (Int32 × Int32)
  | 0, _, _, _ => none
  | n + 1, v1, v2, v3 => (if (w.1 19 0 10) ≤ v3 then some (v2, v3) else (if v2 = 0 then f_X8_isFree_L10 F w n v1 0 (v3 + 1) else (if pm_inb v3 5 = true then f_X8_isFree_L10 F w n v1 (if (w.1 24 0 v3.toNatClampNeg) = v1 then 0 else 1 : Int32) (v3 + 1) else none)))
def f_X8_isFree (F : Nat) (w : pm_W) (a1 : Int32) : Option (Int32) := ((f_X8_isFree_L10 F w F a1 (if (w.1 19 0 7) ≤ a1 then 0 else 1 : Int32) 0).bind fun x5 => (if pm_isb x5.1 = true then some x5.1 else none))
set_option maxRecDepth 20000 in
set_option maxHeartbeats 4000000 in
theorem a_X8_isFree_L10 (F : Nat) (d : Nat) (hd : 0 ≤ d) (Q : pm_Q) (w : pm_W) : ∀ (n : Nat) (v1 : Int32) (v2 : Int32) (v3 : Int32) (x : Int32 × Int32), f_X8_isFree_L10 F w n v1 v2 v3 = some x → pm_Gx (RT d) co_X8_isFree 28 [some (.inr (.inr (19, 0))), some (.inl v1), some (.inl x.1), some (.inl x.2)] [] w Q → pm_Gx (RT d) co_X8_isFree 10 [some (.inr (.inr (19, 0))), some (.inl v1), some (.inl v2), some (.inl v3)] [] w Q := by
  intro n
  induction n with
  | zero =>
    intro v1 v2 v3 x hf
    cases hf
  | succ n ih =>
    intro v1 v2 v3 x hf hk
    rw [f_X8_isFree_L10] at hf
    refine pm_go (i2 := 13) (ls2 := [some (.inr (.inr (19, 0))), some (.inl v1), some (.inl v2), some (.inl v3)]) (st2 := [.inl (w.1 19 0 10), .inl v3]) (w2 := w) 3 (fun F h => h) ?_
    refine pm_if (P := (w.1 19 0 10) ≤ v3) (i2 := 28) (i3 := 14) (ls2 := [some (.inr (.inr (19, 0))), some (.inl v1), some (.inl v2), some (.inl v3)]) (st2 := []) (w2 := w) 1 (fun F h => h) (fun hc1 => ?_) (fun hc1 => ?_)
    · rw [if_pos hc1] at hf
      obtain rfl := Option.some.inj hf
      exact hk
    · rw [if_neg hc1] at hf
      refine pm_go (i2 := 15) (ls2 := [some (.inr (.inr (19, 0))), some (.inl v1), some (.inl v2), some (.inl v3)]) (st2 := [.inl v2]) (w2 := w) 1 (fun F h => h) ?_
      refine pm_if (P := v2 = 0) (i2 := 24) (i3 := 16) (ls2 := [some (.inr (.inr (19, 0))), some (.inl v1), some (.inl v2), some (.inl v3)]) (st2 := []) (w2 := w) 1 (fun F h => h) (fun hc2 => ?_) (fun hc2 => ?_)
      · rw [if_pos hc2] at hf
        refine pm_go (i2 := 10) (ls2 := [some (.inr (.inr (19, 0))), some (.inl v1), some (.inl 0), some (.inl (v3 + 1))]) (st2 := []) (w2 := w) 4 (fun F h => h) ?_
        exact ih v1 0 (v3 + 1) _ hf hk
      · rw [if_neg hc2] at hf
        obtain ⟨hs3, hf⟩ := pm_itn hf
        refine pm_go (i2 := 21) (ls2 := [some (.inr (.inr (19, 0))), some (.inl v1), some (.inl v2), some (.inl v3)]) (st2 := [.inl v1, .inl (w.1 24 0 v3.toNatClampNeg)]) (w2 := w) 5 (fun F h => ⟨(pm_inb_in hs3), h⟩) ?_
        have key : pm_Gx (RT d) co_X8_isFree 25 [some (.inr (.inr (19, 0))), some (.inl v1), some (.inl v2), some (.inl v3)] [.inl (if (w.1 24 0 v3.toNatClampNeg) = v1 then 0 else 1 : Int32)] w Q := by
          refine pm_go (i2 := 10) (ls2 := [some (.inr (.inr (19, 0))), some (.inl v1), some (.inl (if (w.1 24 0 v3.toNatClampNeg) = v1 then 0 else 1 : Int32)), some (.inl (v3 + 1))]) (st2 := []) (w2 := w) 3 (fun F h => h) ?_
          exact ih v1 (if (w.1 24 0 v3.toNatClampNeg) = v1 then 0 else 1 : Int32) (v3 + 1) _ hf hk
        clear hf
        refine pm_if (P := (w.1 24 0 v3.toNatClampNeg) = v1) (i2 := 24) (i3 := 22) (ls2 := [some (.inr (.inr (19, 0))), some (.inl v1), some (.inl v2), some (.inl v3)]) (st2 := []) (w2 := w) 1 (fun F h => h) (fun hc4 => ?_) (fun hc4 => ?_)
        · try simp only [if_pos hc4] at key
          refine pm_go (i2 := 25) (ls2 := [some (.inr (.inr (19, 0))), some (.inl v1), some (.inl v2), some (.inl v3)]) (st2 := [.inl 0]) (w2 := w) 1 (fun F h => h) ?_
          exact key
        · try simp only [if_neg hc4] at key
          refine pm_go (i2 := 25) (ls2 := [some (.inr (.inr (19, 0))), some (.inl v1), some (.inl v2), some (.inl v3)]) (st2 := [.inl 1]) (w2 := w) 2 (fun F h => h) ?_
          exact key
set_option maxRecDepth 20000 in
set_option maxHeartbeats 4000000 in
theorem b_X8_isFree (F : Nat) (d : Nat) (hd : 0 ≤ d) (Q : pm_Q) (w : pm_W) (a1 : Int32) (x : Int32) (hf : f_X8_isFree F w a1 = some x) (hq : Q (some (.inl x)) w) : pm_Gx (RT d) co_X8_isFree 0 [some (.inr (.inr (19, 0))), some (.inl a1), none, none] [] w Q := by
  unfold f_X8_isFree at hf
  refine pm_go (i2 := 3) (ls2 := [some (.inr (.inr (19, 0))), some (.inl a1), none, none]) (st2 := [.inl (w.1 19 0 7), .inl a1]) (w2 := w) 3 (fun F h => h) ?_
  have key : pm_Gx (RT d) co_X8_isFree 7 [some (.inr (.inr (19, 0))), some (.inl a1), none, none] [.inl (if (w.1 19 0 7) ≤ a1 then 0 else 1 : Int32)] w Q := by
    refine pm_go (i2 := 10) (ls2 := [some (.inr (.inr (19, 0))), some (.inl a1), some (.inl (if (w.1 19 0 7) ≤ a1 then 0 else 1 : Int32)), some (.inl 0)]) (st2 := []) (w2 := w) 3 (fun F h => h) ?_
    obtain ⟨x5, hx6, hf⟩ := Option.bind_eq_some_iff.mp hf
    refine a_X8_isFree_L10 F d hd Q w F a1 (if (w.1 19 0 7) ≤ a1 then 0 else 1 : Int32) 0 x5 hx6 ?_
    refine pm_go (i2 := 29) (ls2 := [some (.inr (.inr (19, 0))), some (.inl a1), some (.inl x5.1), some (.inl x5.2)]) (st2 := [.inl x5.1]) (w2 := w) 1 (fun F h => h) ?_
    obtain ⟨hz7, hf⟩ := pm_itn hf
    obtain rfl := Option.some.inj hf
    exact pm_re (r := some (.inl x5.1)) (w2 := w) 1 (fun F h => ⟨pm_isb_nar hz7, h⟩) hq
  clear hf
  refine pm_if (P := (w.1 19 0 7) ≤ a1) (i2 := 6) (i3 := 4) (ls2 := [some (.inr (.inr (19, 0))), some (.inl a1), none, none]) (st2 := []) (w2 := w) 1 (fun F h => h) (fun hc8 => ?_) (fun hc8 => ?_)
  · try simp only [if_pos hc8] at key
    refine pm_go (i2 := 7) (ls2 := [some (.inr (.inr (19, 0))), some (.inl a1), none, none]) (st2 := [.inl 0]) (w2 := w) 1 (fun F h => h) ?_
    exact key
  · try simp only [if_neg hc8] at key
    refine pm_go (i2 := 7) (ls2 := [some (.inr (.inr (19, 0))), some (.inl a1), none, none]) (st2 := [.inl 1]) (w2 := w) 2 (fun F h => h) ?_
    exact key
set_option maxRecDepth 20000 in
set_option maxHeartbeats 4000000 in
theorem a_X8_isFree (F : Nat) (w : pm_W) (a1 : Int32) (x : Int32) (d : Nat) (hd : 1 ≤ d) (hf : f_X8_isFree F w a1 = some x) : RT d 94 [.inr (.inr (19, 0)), .inl a1] w (some (.inl x)) w := by
  obtain ⟨d, rfl, hd2⟩ := pm_dep hd
  exact pm_start (co := co_X8_isFree) (nL := 4) (by decide) rfl rfl (Nat.le_of_ble_eq_true rfl) (b_X8_isFree F d hd2 _ w a1 x hf ⟨rfl, rfl⟩)
def f_X8_isFreeIn_L4 (F : Nat) (w : pm_W) : Nat → Int32 → Int32 → Int32 → Option (Int32 × Int32)
  | 0, _, _, _ => none
  | n + 1, v1, v2, v3 => (if 10 ≤ v3 then some (v2, v3) else (if v2 = 0 then ((f_X8_isFree F w ((10 * v1) + v3)).bind fun r3 => f_X8_isFreeIn_L4 F w n v1 (if r3 = 0 then 0 else 1 : Int32) (v3 + 1)) else f_X8_isFreeIn_L4 F w n v1 1 (v3 + 1)))
def f_X8_isFreeIn (F : Nat) (w : pm_W) (a1 : Int32) : Option (Int32) := ((f_X8_isFreeIn_L4 F w F a1 0 0).bind fun x6 => (if pm_isb x6.1 = true then some x6.1 else none))
set_option maxRecDepth 20000 in
set_option maxHeartbeats 4000000 in
theorem a_X8_isFreeIn_L4 (F : Nat) (d : Nat) (hd : 1 ≤ d) (Q : pm_Q) (w : pm_W) : ∀ (n : Nat) (v1 : Int32) (v2 : Int32) (v3 : Int32) (x : Int32 × Int32), f_X8_isFreeIn_L4 F w n v1 v2 v3 = some x → pm_Gx (RT d) co_X8_isFreeIn 23 [some (.inr (.inr (19, 0))), some (.inl v1), some (.inl x.1), some (.inl x.2)] [] w Q → pm_Gx (RT d) co_X8_isFreeIn 4 [some (.inr (.inr (19, 0))), some (.inl v1), some (.inl v2), some (.inl v3)] [] w Q := by
  intro n
  induction n with
  | zero =>
    intro v1 v2 v3 x hf
    cases hf
  | succ n ih =>
    intro v1 v2 v3 x hf hk
    rw [f_X8_isFreeIn_L4] at hf
    refine pm_go (i2 := 6) (ls2 := [some (.inr (.inr (19, 0))), some (.inl v1), some (.inl v2), some (.inl v3)]) (st2 := [.inl 10, .inl v3]) (w2 := w) 2 (fun F h => h) ?_
    refine pm_if (P := 10 ≤ v3) (i2 := 23) (i3 := 7) (ls2 := [some (.inr (.inr (19, 0))), some (.inl v1), some (.inl v2), some (.inl v3)]) (st2 := []) (w2 := w) 1 (fun F h => h) (fun hc1 => ?_) (fun hc1 => ?_)
    · rw [if_pos hc1] at hf
      obtain rfl := Option.some.inj hf
      exact hk
    · rw [if_neg hc1] at hf
      refine pm_go (i2 := 8) (ls2 := [some (.inr (.inr (19, 0))), some (.inl v1), some (.inl v2), some (.inl v3)]) (st2 := [.inl v2]) (w2 := w) 1 (fun F h => h) ?_
      refine pm_if (P := v2 = 0) (i2 := 9) (i3 := 17) (ls2 := [some (.inr (.inr (19, 0))), some (.inl v1), some (.inl v2), some (.inl v3)]) (st2 := []) (w2 := w) 1 (fun F h => h) (fun hc2 => ?_) (fun hc2 => ?_)
      · rw [if_pos hc2] at hf
        refine pm_go (i2 := 15) (ls2 := [some (.inr (.inr (19, 0))), some (.inl v1), some (.inl v2), some (.inl v3)]) (st2 := [.inl ((10 * v1) + v3), .inr (.inr (19, 0))]) (w2 := w) 6 (fun F h => h) ?_
        obtain ⟨r3, hr4, hf⟩ := Option.bind_eq_some_iff.mp hf
        refine pm_ca (y := 94) (as := [.inr (.inr (19, 0)), .inl ((10 * v1) + v3)]) (r := some (.inl r3)) (w2 := w) (w1 := w) (t := []) (i2 := 16) (ls2 := [some (.inr (.inr (19, 0))), some (.inl v1), some (.inl v2), some (.inl v3)]) 1 (a_X8_isFree F w ((10 * v1) + v3) r3 d (by omega) hr4) (fun F h => h) ?_
        show pm_Gx (RT d) co_X8_isFreeIn 16 [some (.inr (.inr (19, 0))), some (.inl v1), some (.inl v2), some (.inl v3)] [.inl r3] w Q
        have key : pm_Gx (RT d) co_X8_isFreeIn 20 [some (.inr (.inr (19, 0))), some (.inl v1), some (.inl v2), some (.inl v3)] [.inl (if r3 = 0 then 0 else 1 : Int32)] w Q := by
          refine pm_go (i2 := 4) (ls2 := [some (.inr (.inr (19, 0))), some (.inl v1), some (.inl (if r3 = 0 then 0 else 1 : Int32)), some (.inl (v3 + 1))]) (st2 := []) (w2 := w) 3 (fun F h => h) ?_
          exact ih v1 (if r3 = 0 then 0 else 1 : Int32) (v3 + 1) _ hf hk
        clear hf
        refine pm_if (P := r3 = 0) (i2 := 19) (i3 := 17) (ls2 := [some (.inr (.inr (19, 0))), some (.inl v1), some (.inl v2), some (.inl v3)]) (st2 := []) (w2 := w) 1 (fun F h => h) (fun hc5 => ?_) (fun hc5 => ?_)
        · try simp only [if_pos hc5] at key
          refine pm_go (i2 := 20) (ls2 := [some (.inr (.inr (19, 0))), some (.inl v1), some (.inl v2), some (.inl v3)]) (st2 := [.inl 0]) (w2 := w) 1 (fun F h => h) ?_
          exact key
        · try simp only [if_neg hc5] at key
          refine pm_go (i2 := 20) (ls2 := [some (.inr (.inr (19, 0))), some (.inl v1), some (.inl v2), some (.inl v3)]) (st2 := [.inl 1]) (w2 := w) 2 (fun F h => h) ?_
          exact key
      · rw [if_neg hc2] at hf
        refine pm_go (i2 := 4) (ls2 := [some (.inr (.inr (19, 0))), some (.inl v1), some (.inl 1), some (.inl (v3 + 1))]) (st2 := []) (w2 := w) 5 (fun F h => h) ?_
        exact ih v1 1 (v3 + 1) _ hf hk
set_option maxRecDepth 20000 in
set_option maxHeartbeats 4000000 in
theorem b_X8_isFreeIn (F : Nat) (d : Nat) (hd : 1 ≤ d) (Q : pm_Q) (w : pm_W) (a1 : Int32) (x : Int32) (hf : f_X8_isFreeIn F w a1 = some x) (hq : Q (some (.inl x)) w) : pm_Gx (RT d) co_X8_isFreeIn 0 [some (.inr (.inr (19, 0))), some (.inl a1), none, none] [] w Q := by
  unfold f_X8_isFreeIn at hf
  refine pm_go (i2 := 4) (ls2 := [some (.inr (.inr (19, 0))), some (.inl a1), some (.inl 0), some (.inl 0)]) (st2 := []) (w2 := w) 4 (fun F h => h) ?_
  obtain ⟨x6, hx7, hf⟩ := Option.bind_eq_some_iff.mp hf
  refine a_X8_isFreeIn_L4 F d hd Q w F a1 0 0 x6 hx7 ?_
  refine pm_go (i2 := 24) (ls2 := [some (.inr (.inr (19, 0))), some (.inl a1), some (.inl x6.1), some (.inl x6.2)]) (st2 := [.inl x6.1]) (w2 := w) 1 (fun F h => h) ?_
  obtain ⟨hz8, hf⟩ := pm_itn hf
  obtain rfl := Option.some.inj hf
  exact pm_re (r := some (.inl x6.1)) (w2 := w) 1 (fun F h => ⟨pm_isb_nar hz8, h⟩) hq
set_option maxRecDepth 20000 in
set_option maxHeartbeats 4000000 in
theorem a_X8_isFreeIn (F : Nat) (w : pm_W) (a1 : Int32) (x : Int32) (d : Nat) (hd : 2 ≤ d) (hf : f_X8_isFreeIn F w a1 = some x) : RT d 95 [.inr (.inr (19, 0)), .inl a1] w (some (.inl x)) w := by
  obtain ⟨d, rfl, hd2⟩ := pm_dep hd
  exact pm_start (co := co_X8_isFreeIn) (nL := 4) (by decide) rfl rfl (Nat.le_of_ble_eq_true rfl) (b_X8_isFreeIn F d hd2 _ w a1 x hf ⟨rfl, rfl⟩)
def f_X8_leafFigure (F : Nat) (w : pm_W) (a1 : Int32) : Option ((Int32 × pm_W)) := (if (w.1 19 0 18) = (-9) then (if (w.1 19 0 16) ≤ (w.1 19 0 17) then ((f_X8_in F w ((-9 : Int32).toInt64) 0 9).bind fun r3 => (if r3 = 0 then (pm_wlet (pm_setI w 19 0 18 (if (w.1 19 0 18) = (-9) then w.1 19 0 17 else w.1 19 0 18 : Int32)) fun w6 => some (0, w6)) else (if a1 = (-9) then ((f_X8_isFreeIn F w (-9)).bind fun r9 => (if (if r9 = 0 then 0 else 1 : Int32) = 0 then (pm_wlet (pm_setI w 19 0 18 (if (w.1 19 0 18) = (-9) then w.1 19 0 17 else w.1 19 0 18 : Int32)) fun w12 => some (0, w12)) else (pm_wlet (pm_setI w 19 0 17 ((w.1 19 0 17) + 1)) fun w14 => some ((-9), w14)))) else ((f_X8_isFree F w ((10 * a1) + (-9))).bind fun r16 => (if (if r16 = 0 then 0 else 1 : Int32) = 0 then (pm_wlet (pm_setI w 19 0 18 (if (w.1 19 0 18) = (-9) then w.1 19 0 17 else w.1 19 0 18 : Int32)) fun w19 => some (0, w19)) else (pm_wlet (pm_setI w 19 0 17 ((w.1 19 0 17) + 1)) fun w21 => some ((-9), w21))))))) else (if pm_inb (w.1 19 0 17) 40 = true then ((f_X8_in F w (((w.1 28 0 ((w.1 19 0 17).toNatClampNeg)) - 48).toInt64) 0 9).bind fun r24 => (if r24 = 0 then (pm_wlet (pm_setI w 19 0 18 (if (w.1 19 0 18) = (-9) then w.1 19 0 17 else w.1 19 0 18 : Int32)) fun w27 => some (0, w27)) else (if a1 = (-9) then ((f_X8_isFreeIn F w ((w.1 28 0 ((w.1 19 0 17).toNatClampNeg)) - 48)).bind fun r30 => (if (if r30 = 0 then 0 else 1 : Int32) = 0 then (pm_wlet (pm_setI w 19 0 18 (if (w.1 19 0 18) = (-9) then w.1 19 0 17 else w.1 19 0 18 : Int32)) fun w33 => some (0, w33)) else (pm_wlet (pm_setI w 19 0 17 ((w.1 19 0 17) + 1)) fun w35 => some ((w.1 28 0 ((w.1 19 0 17).toNatClampNeg)) - 48, w35)))) else ((f_X8_isFree F w ((10 * a1) + ((w.1 28 0 ((w.1 19 0 17).toNatClampNeg)) - 48))).bind fun r37 => (if (if r37 = 0 then 0 else 1 : Int32) = 0 then (pm_wlet (pm_setI w 19 0 18 (if (w.1 19 0 18) = (-9) then w.1 19 0 17 else w.1 19 0 18 : Int32)) fun w40 => some (0, w40)) else (pm_wlet (pm_setI w 19 0 17 ((w.1 19 0 17) + 1)) fun w42 => some ((w.1 28 0 ((w.1 19 0 17).toNatClampNeg)) - 48, w42))))))) else none)) else ((f_X8_in F w ((-9 : Int32).toInt64) 0 9).bind fun r44 => (if r44 = 0 then (pm_wlet (pm_setI w 19 0 18 (if (w.1 19 0 18) = (-9) then w.1 19 0 17 else w.1 19 0 18 : Int32)) fun w47 => some (0, w47)) else (if a1 = (-9) then ((f_X8_isFreeIn F w (-9)).bind fun r50 => (if (if r50 = 0 then 0 else 1 : Int32) = 0 then (pm_wlet (pm_setI w 19 0 18 (if (w.1 19 0 18) = (-9) then w.1 19 0 17 else w.1 19 0 18 : Int32)) fun w53 => some (0, w53)) else (pm_wlet (pm_setI w 19 0 17 ((w.1 19 0 17) + 1)) fun w55 => some ((-9), w55)))) else ((f_X8_isFree F w ((10 * a1) + (-9))).bind fun r57 => (if (if r57 = 0 then 0 else 1 : Int32) = 0 then (pm_wlet (pm_setI w 19 0 18 (if (w.1 19 0 18) = (-9) then w.1 19 0 17 else w.1 19 0 18 : Int32)) fun w60 => some (0, w60)) else (pm_wlet (pm_setI w 19 0 17 ((w.1 19 0 17) + 1)) fun w62 => some ((-9), w62))))))))
set_option maxRecDepth 20000 in
set_option maxHeartbeats 4000000 in
theorem b_X8_leafFigure (F : Nat) (d : Nat) (hd : 2 ≤ d) (Q : pm_Q) (w : pm_W) (a1 : Int32) (x : (Int32 × pm_W)) (hf : f_X8_leafFigure F w a1 = some x) (hq : Q (some (.inl x.1)) x.2) : pm_Gx (RT d) co_X8_leafFigure 0 [some (.inr (.inr (19, 0))), some (.inl a1), none, none] [] w Q := by
  unfold f_X8_leafFigure at hf
  refine pm_go (i2 := 3) (ls2 := [some (.inr (.inr (19, 0))), some (.inl a1), none, none]) (st2 := [.inl (-9), .inl (w.1 19 0 18)]) (w2 := w) 3 (fun F h => h) ?_
  refine pm_if (P := (w.1 19 0 18) = (-9)) (i2 := 4) (i3 := 17) (ls2 := [some (.inr (.inr (19, 0))), some (.inl a1), none, none]) (st2 := []) (w2 := w) 1 (fun F h => h) (fun hc1 => ?_) (fun hc1 => ?_)
  · rw [if_pos hc1] at hf
    refine pm_go (i2 := 8) (ls2 := [some (.inr (.inr (19, 0))), some (.inl a1), none, none]) (st2 := [.inl (w.1 19 0 16), .inl (w.1 19 0 17)]) (w2 := w) 4 (fun F h => h) ?_
    refine pm_if (P := (w.1 19 0 16) ≤ (w.1 19 0 17)) (i2 := 17) (i3 := 9) (ls2 := [some (.inr (.inr (19, 0))), some (.inl a1), none, none]) (st2 := []) (w2 := w) 1 (fun F h => h) (fun hc2 => ?_) (fun hc2 => ?_)
    · rw [if_pos hc2] at hf
      refine pm_go (i2 := 23) (ls2 := [some (.inr (.inr (19, 0))), some (.inl a1), some (.inl (-9)), none]) (st2 := [.inr (.inl 9), .inr (.inl 0), .inr (.inl ((-9 : Int32).toInt64))]) (w2 := w) 6 (fun F h => h) ?_
      obtain ⟨r3, hr4, hf⟩ := Option.bind_eq_some_iff.mp hf
      refine pm_ca (y := 88) (as := [.inr (.inl ((-9 : Int32).toInt64)), .inr (.inl 0), .inr (.inl 9)]) (r := some (.inl r3)) (w2 := w) (w1 := w) (t := []) (i2 := 24) (ls2 := [some (.inr (.inr (19, 0))), some (.inl a1), some (.inl (-9)), none]) 1 (a_X8_in F w ((-9 : Int32).toInt64) 0 9 r3 d (by omega) hr4) (fun F h => h) ?_
      show pm_Gx (RT d) co_X8_leafFigure 24 [some (.inr (.inr (19, 0))), some (.inl a1), some (.inl (-9)), none] [.inl r3] w Q
      refine pm_if (P := r3 = 0) (i2 := 43) (i3 := 25) (ls2 := [some (.inr (.inr (19, 0))), some (.inl a1), some (.inl (-9)), none]) (st2 := []) (w2 := w) 1 (fun F h => h) (fun hc5 => ?_) (fun hc5 => ?_)
      · rw [if_pos hc5] at hf
        refine pm_go (i2 := 46) (ls2 := [some (.inr (.inr (19, 0))), some (.inl a1), some (.inl (-9)), some (.inl 0)]) (st2 := [.inl 0]) (w2 := w) 3 (fun F h => h) ?_
        refine pm_ift (P := (0 : Int32) = 0) (i2 := 47) (i3 := 60) (ls2 := [some (.inr (.inr (19, 0))), some (.inl a1), some (.inl (-9)), some (.inl 0)]) (st2 := []) (w2 := w) 1 (fun F h => h) (by decide) ?_
        refine pm_go (i2 := 51) (ls2 := [some (.inr (.inr (19, 0))), some (.inl a1), some (.inl (-9)), some (.inl 0)]) (st2 := [.inl (-9), .inl (w.1 19 0 18), .inr (.inr (19, 0))]) (w2 := w) 4 (fun F h => h) ?_
        have key : pm_Gx (RT d) co_X8_leafFigure 57 [some (.inr (.inr (19, 0))), some (.inl a1), some (.inl (-9)), some (.inl 0)] [.inl (if (w.1 19 0 18) = (-9) then w.1 19 0 17 else w.1 19 0 18 : Int32), .inr (.inr (19, 0))] w Q := by
          refine pm_go (i2 := 58) (ls2 := [some (.inr (.inr (19, 0))), some (.inl a1), some (.inl (-9)), some (.inl 0)]) (st2 := []) (w2 := (pm_setI w 19 0 18 (if (w.1 19 0 18) = (-9) then w.1 19 0 17 else w.1 19 0 18 : Int32))) 1 (fun F h => h) ?_
          generalize (pm_setI w 19 0 18 (if (w.1 19 0 18) = (-9) then w.1 19 0 17 else w.1 19 0 18 : Int32)) = w6 at hf ⊢
          replace hf := pm_wlet_un hf
          refine pm_go (i2 := 59) (ls2 := [some (.inr (.inr (19, 0))), some (.inl a1), some (.inl (-9)), some (.inl 0)]) (st2 := [.inl 0]) (w2 := w6) 1 (fun F h => h) ?_
          obtain rfl := Option.some.inj hf
          exact pm_re (r := some (.inl 0)) (w2 := w6) 1 (fun F h => h) hq
        clear hf
        refine pm_if (P := (w.1 19 0 18) = (-9)) (i2 := 52) (i3 := 55) (ls2 := [some (.inr (.inr (19, 0))), some (.inl a1), some (.inl (-9)), some (.inl 0)]) (st2 := [.inr (.inr (19, 0))]) (w2 := w) 1 (fun F h => h) (fun hc7 => ?_) (fun hc7 => ?_)
        · try simp only [if_pos hc7] at key
          refine pm_go (i2 := 57) (ls2 := [some (.inr (.inr (19, 0))), some (.inl a1), some (.inl (-9)), some (.inl 0)]) (st2 := [.inl (w.1 19 0 17), .inr (.inr (19, 0))]) (w2 := w) 3 (fun F h => h) ?_
          exact key
        · try simp only [if_neg hc7] at key
          refine pm_go (i2 := 57) (ls2 := [some (.inr (.inr (19, 0))), some (.inl a1), some (.inl (-9)), some (.inl 0)]) (st2 := [.inl (w.1 19 0 18), .inr (.inr (19, 0))]) (w2 := w) 2 (fun F h => h) ?_
          exact key
      · rw [if_neg hc5] at hf
        refine pm_go (i2 := 27) (ls2 := [some (.inr (.inr (19, 0))), some (.inl a1), some (.inl (-9)), none]) (st2 := [.inl (-9), .inl a1]) (w2 := w) 2 (fun F h => h) ?_
        refine pm_if (P := a1 = (-9)) (i2 := 28) (i3 := 33) (ls2 := [some (.inr (.inr (19, 0))), some (.inl a1), some (.inl (-9)), none]) (st2 := []) (w2 := w) 1 (fun F h => h) (fun hc8 => ?_) (fun hc8 => ?_)
        · rw [if_pos hc8] at hf
          refine pm_go (i2 := 30) (ls2 := [some (.inr (.inr (19, 0))), some (.inl a1), some (.inl (-9)), none]) (st2 := [.inl (-9), .inr (.inr (19, 0))]) (w2 := w) 2 (fun F h => h) ?_
          obtain ⟨r9, hr10, hf⟩ := Option.bind_eq_some_iff.mp hf
          refine pm_ca (y := 95) (as := [.inr (.inr (19, 0)), .inl (-9)]) (r := some (.inl r9)) (w2 := w) (w1 := w) (t := []) (i2 := 31) (ls2 := [some (.inr (.inr (19, 0))), some (.inl a1), some (.inl (-9)), none]) 1 (a_X8_isFreeIn F w (-9) r9 d (by omega) hr10) (fun F h => h) ?_
          show pm_Gx (RT d) co_X8_leafFigure 31 [some (.inr (.inr (19, 0))), some (.inl a1), some (.inl (-9)), none] [.inl r9] w Q
          have key : pm_Gx (RT d) co_X8_leafFigure 44 [some (.inr (.inr (19, 0))), some (.inl a1), some (.inl (-9)), none] [.inl (if r9 = 0 then 0 else 1 : Int32)] w Q := by
            refine pm_go (i2 := 46) (ls2 := [some (.inr (.inr (19, 0))), some (.inl a1), some (.inl (-9)), some (.inl (if r9 = 0 then 0 else 1 : Int32))]) (st2 := [.inl (if r9 = 0 then 0 else 1 : Int32)]) (w2 := w) 2 (fun F h => h) ?_
            refine pm_if (P := (if r9 = 0 then 0 else 1 : Int32) = 0) (i2 := 47) (i3 := 60) (ls2 := [some (.inr (.inr (19, 0))), some (.inl a1), some (.inl (-9)), some (.inl (if r9 = 0 then 0 else 1 : Int32))]) (st2 := []) (w2 := w) 1 (fun F h => h) (fun hc11 => ?_) (fun hc11 => ?_)
            · rw [if_pos hc11] at hf
              refine pm_go (i2 := 51) (ls2 := [some (.inr (.inr (19, 0))), some (.inl a1), some (.inl (-9)), some (.inl (if r9 = 0 then 0 else 1 : Int32))]) (st2 := [.inl (-9), .inl (w.1 19 0 18), .inr (.inr (19, 0))]) (w2 := w) 4 (fun F h => h) ?_
              have key : pm_Gx (RT d) co_X8_leafFigure 57 [some (.inr (.inr (19, 0))), some (.inl a1), some (.inl (-9)), some (.inl (if r9 = 0 then 0 else 1 : Int32))] [.inl (if (w.1 19 0 18) = (-9) then w.1 19 0 17 else w.1 19 0 18 : Int32), .inr (.inr (19, 0))] w Q := by
                refine pm_go (i2 := 58) (ls2 := [some (.inr (.inr (19, 0))), some (.inl a1), some (.inl (-9)), some (.inl (if r9 = 0 then 0 else 1 : Int32))]) (st2 := []) (w2 := (pm_setI w 19 0 18 (if (w.1 19 0 18) = (-9) then w.1 19 0 17 else w.1 19 0 18 : Int32))) 1 (fun F h => h) ?_
                generalize (pm_setI w 19 0 18 (if (w.1 19 0 18) = (-9) then w.1 19 0 17 else w.1 19 0 18 : Int32)) = w12 at hf ⊢
                replace hf := pm_wlet_un hf
                refine pm_go (i2 := 59) (ls2 := [some (.inr (.inr (19, 0))), some (.inl a1), some (.inl (-9)), some (.inl (if r9 = 0 then 0 else 1 : Int32))]) (st2 := [.inl 0]) (w2 := w12) 1 (fun F h => h) ?_
                obtain rfl := Option.some.inj hf
                exact pm_re (r := some (.inl 0)) (w2 := w12) 1 (fun F h => h) hq
              clear hf
              refine pm_if (P := (w.1 19 0 18) = (-9)) (i2 := 52) (i3 := 55) (ls2 := [some (.inr (.inr (19, 0))), some (.inl a1), some (.inl (-9)), some (.inl (if r9 = 0 then 0 else 1 : Int32))]) (st2 := [.inr (.inr (19, 0))]) (w2 := w) 1 (fun F h => h) (fun hc13 => ?_) (fun hc13 => ?_)
              · try simp only [if_pos hc13] at key
                refine pm_go (i2 := 57) (ls2 := [some (.inr (.inr (19, 0))), some (.inl a1), some (.inl (-9)), some (.inl (if r9 = 0 then 0 else 1 : Int32))]) (st2 := [.inl (w.1 19 0 17), .inr (.inr (19, 0))]) (w2 := w) 3 (fun F h => h) ?_
                exact key
              · try simp only [if_neg hc13] at key
                refine pm_go (i2 := 57) (ls2 := [some (.inr (.inr (19, 0))), some (.inl a1), some (.inl (-9)), some (.inl (if r9 = 0 then 0 else 1 : Int32))]) (st2 := [.inl (w.1 19 0 18), .inr (.inr (19, 0))]) (w2 := w) 2 (fun F h => h) ?_
                exact key
            · rw [if_neg hc11] at hf
              refine pm_go (i2 := 66) (ls2 := [some (.inr (.inr (19, 0))), some (.inl a1), some (.inl (-9)), some (.inl (if r9 = 0 then 0 else 1 : Int32))]) (st2 := []) (w2 := (pm_setI w 19 0 17 ((w.1 19 0 17) + 1))) 6 (fun F h => h) ?_
              generalize (pm_setI w 19 0 17 ((w.1 19 0 17) + 1)) = w14 at hf ⊢
              replace hf := pm_wlet_un hf
              refine pm_go (i2 := 67) (ls2 := [some (.inr (.inr (19, 0))), some (.inl a1), some (.inl (-9)), some (.inl (if r9 = 0 then 0 else 1 : Int32))]) (st2 := [.inl (-9)]) (w2 := w14) 1 (fun F h => h) ?_
              obtain rfl := Option.some.inj hf
              exact pm_re (r := some (.inl (-9))) (w2 := w14) 1 (fun F h => h) hq
          clear hf
          refine pm_if (P := r9 = 0) (i2 := 43) (i3 := 32) (ls2 := [some (.inr (.inr (19, 0))), some (.inl a1), some (.inl (-9)), none]) (st2 := []) (w2 := w) 1 (fun F h => h) (fun hc15 => ?_) (fun hc15 => ?_)
          · try simp only [if_pos hc15] at key
            refine pm_go (i2 := 44) (ls2 := [some (.inr (.inr (19, 0))), some (.inl a1), some (.inl (-9)), none]) (st2 := [.inl 0]) (w2 := w) 1 (fun F h => h) ?_
            exact key
          · try simp only [if_neg hc15] at key
            refine pm_go (i2 := 44) (ls2 := [some (.inr (.inr (19, 0))), some (.inl a1), some (.inl (-9)), none]) (st2 := [.inl 1]) (w2 := w) 3 (fun F h => h) ?_
            exact key
        · rw [if_neg hc8] at hf
          refine pm_go (i2 := 39) (ls2 := [some (.inr (.inr (19, 0))), some (.inl a1), some (.inl (-9)), none]) (st2 := [.inl ((10 * a1) + (-9)), .inr (.inr (19, 0))]) (w2 := w) 6 (fun F h => h) ?_
          obtain ⟨r16, hr17, hf⟩ := Option.bind_eq_some_iff.mp hf
          refine pm_ca (y := 94) (as := [.inr (.inr (19, 0)), .inl ((10 * a1) + (-9))]) (r := some (.inl r16)) (w2 := w) (w1 := w) (t := []) (i2 := 40) (ls2 := [some (.inr (.inr (19, 0))), some (.inl a1), some (.inl (-9)), none]) 1 (a_X8_isFree F w ((10 * a1) + (-9)) r16 d (by omega) hr17) (fun F h => h) ?_
          show pm_Gx (RT d) co_X8_leafFigure 40 [some (.inr (.inr (19, 0))), some (.inl a1), some (.inl (-9)), none] [.inl r16] w Q
          have key : pm_Gx (RT d) co_X8_leafFigure 44 [some (.inr (.inr (19, 0))), some (.inl a1), some (.inl (-9)), none] [.inl (if r16 = 0 then 0 else 1 : Int32)] w Q := by
            refine pm_go (i2 := 46) (ls2 := [some (.inr (.inr (19, 0))), some (.inl a1), some (.inl (-9)), some (.inl (if r16 = 0 then 0 else 1 : Int32))]) (st2 := [.inl (if r16 = 0 then 0 else 1 : Int32)]) (w2 := w) 2 (fun F h => h) ?_
            refine pm_if (P := (if r16 = 0 then 0 else 1 : Int32) = 0) (i2 := 47) (i3 := 60) (ls2 := [some (.inr (.inr (19, 0))), some (.inl a1), some (.inl (-9)), some (.inl (if r16 = 0 then 0 else 1 : Int32))]) (st2 := []) (w2 := w) 1 (fun F h => h) (fun hc18 => ?_) (fun hc18 => ?_)
            · rw [if_pos hc18] at hf
              refine pm_go (i2 := 51) (ls2 := [some (.inr (.inr (19, 0))), some (.inl a1), some (.inl (-9)), some (.inl (if r16 = 0 then 0 else 1 : Int32))]) (st2 := [.inl (-9), .inl (w.1 19 0 18), .inr (.inr (19, 0))]) (w2 := w) 4 (fun F h => h) ?_
              have key : pm_Gx (RT d) co_X8_leafFigure 57 [some (.inr (.inr (19, 0))), some (.inl a1), some (.inl (-9)), some (.inl (if r16 = 0 then 0 else 1 : Int32))] [.inl (if (w.1 19 0 18) = (-9) then w.1 19 0 17 else w.1 19 0 18 : Int32), .inr (.inr (19, 0))] w Q := by
                refine pm_go (i2 := 58) (ls2 := [some (.inr (.inr (19, 0))), some (.inl a1), some (.inl (-9)), some (.inl (if r16 = 0 then 0 else 1 : Int32))]) (st2 := []) (w2 := (pm_setI w 19 0 18 (if (w.1 19 0 18) = (-9) then w.1 19 0 17 else w.1 19 0 18 : Int32))) 1 (fun F h => h) ?_
                generalize (pm_setI w 19 0 18 (if (w.1 19 0 18) = (-9) then w.1 19 0 17 else w.1 19 0 18 : Int32)) = w19 at hf ⊢
                replace hf := pm_wlet_un hf
                refine pm_go (i2 := 59) (ls2 := [some (.inr (.inr (19, 0))), some (.inl a1), some (.inl (-9)), some (.inl (if r16 = 0 then 0 else 1 : Int32))]) (st2 := [.inl 0]) (w2 := w19) 1 (fun F h => h) ?_
                obtain rfl := Option.some.inj hf
                exact pm_re (r := some (.inl 0)) (w2 := w19) 1 (fun F h => h) hq
              clear hf
              refine pm_if (P := (w.1 19 0 18) = (-9)) (i2 := 52) (i3 := 55) (ls2 := [some (.inr (.inr (19, 0))), some (.inl a1), some (.inl (-9)), some (.inl (if r16 = 0 then 0 else 1 : Int32))]) (st2 := [.inr (.inr (19, 0))]) (w2 := w) 1 (fun F h => h) (fun hc20 => ?_) (fun hc20 => ?_)
              · try simp only [if_pos hc20] at key
                refine pm_go (i2 := 57) (ls2 := [some (.inr (.inr (19, 0))), some (.inl a1), some (.inl (-9)), some (.inl (if r16 = 0 then 0 else 1 : Int32))]) (st2 := [.inl (w.1 19 0 17), .inr (.inr (19, 0))]) (w2 := w) 3 (fun F h => h) ?_
                exact key
              · try simp only [if_neg hc20] at key
                refine pm_go (i2 := 57) (ls2 := [some (.inr (.inr (19, 0))), some (.inl a1), some (.inl (-9)), some (.inl (if r16 = 0 then 0 else 1 : Int32))]) (st2 := [.inl (w.1 19 0 18), .inr (.inr (19, 0))]) (w2 := w) 2 (fun F h => h) ?_
                exact key
            · rw [if_neg hc18] at hf
              refine pm_go (i2 := 66) (ls2 := [some (.inr (.inr (19, 0))), some (.inl a1), some (.inl (-9)), some (.inl (if r16 = 0 then 0 else 1 : Int32))]) (st2 := []) (w2 := (pm_setI w 19 0 17 ((w.1 19 0 17) + 1))) 6 (fun F h => h) ?_
              generalize (pm_setI w 19 0 17 ((w.1 19 0 17) + 1)) = w21 at hf ⊢
              replace hf := pm_wlet_un hf
              refine pm_go (i2 := 67) (ls2 := [some (.inr (.inr (19, 0))), some (.inl a1), some (.inl (-9)), some (.inl (if r16 = 0 then 0 else 1 : Int32))]) (st2 := [.inl (-9)]) (w2 := w21) 1 (fun F h => h) ?_
              obtain rfl := Option.some.inj hf
              exact pm_re (r := some (.inl (-9))) (w2 := w21) 1 (fun F h => h) hq
          clear hf
          refine pm_if (P := r16 = 0) (i2 := 43) (i3 := 41) (ls2 := [some (.inr (.inr (19, 0))), some (.inl a1), some (.inl (-9)), none]) (st2 := []) (w2 := w) 1 (fun F h => h) (fun hc22 => ?_) (fun hc22 => ?_)
          · try simp only [if_pos hc22] at key
            refine pm_go (i2 := 44) (ls2 := [some (.inr (.inr (19, 0))), some (.inl a1), some (.inl (-9)), none]) (st2 := [.inl 0]) (w2 := w) 1 (fun F h => h) ?_
            exact key
          · try simp only [if_neg hc22] at key
            refine pm_go (i2 := 44) (ls2 := [some (.inr (.inr (19, 0))), some (.inl a1), some (.inl (-9)), none]) (st2 := [.inl 1]) (w2 := w) 2 (fun F h => h) ?_
            exact key
    · rw [if_neg hc2] at hf
      obtain ⟨hs23, hf⟩ := pm_itn hf
      refine pm_go (i2 := 23) (ls2 := [some (.inr (.inr (19, 0))), some (.inl a1), some (.inl ((w.1 28 0 ((w.1 19 0 17).toNatClampNeg)) - 48)), none]) (st2 := [.inr (.inl 9), .inr (.inl 0), .inr (.inl (((w.1 28 0 ((w.1 19 0 17).toNatClampNeg)) - 48).toInt64))]) (w2 := w) 13 (fun F h => ⟨(pm_inb_in hs23), h⟩) ?_
      obtain ⟨r24, hr25, hf⟩ := Option.bind_eq_some_iff.mp hf
      refine pm_ca (y := 88) (as := [.inr (.inl (((w.1 28 0 ((w.1 19 0 17).toNatClampNeg)) - 48).toInt64)), .inr (.inl 0), .inr (.inl 9)]) (r := some (.inl r24)) (w2 := w) (w1 := w) (t := []) (i2 := 24) (ls2 := [some (.inr (.inr (19, 0))), some (.inl a1), some (.inl ((w.1 28 0 ((w.1 19 0 17).toNatClampNeg)) - 48)), none]) 1 (a_X8_in F w (((w.1 28 0 ((w.1 19 0 17).toNatClampNeg)) - 48).toInt64) 0 9 r24 d (by omega) hr25) (fun F h => h) ?_
      show pm_Gx (RT d) co_X8_leafFigure 24 [some (.inr (.inr (19, 0))), some (.inl a1), some (.inl ((w.1 28 0 ((w.1 19 0 17).toNatClampNeg)) - 48)), none] [.inl r24] w Q
      refine pm_if (P := r24 = 0) (i2 := 43) (i3 := 25) (ls2 := [some (.inr (.inr (19, 0))), some (.inl a1), some (.inl ((w.1 28 0 ((w.1 19 0 17).toNatClampNeg)) - 48)), none]) (st2 := []) (w2 := w) 1 (fun F h => h) (fun hc26 => ?_) (fun hc26 => ?_)
      · rw [if_pos hc26] at hf
        refine pm_go (i2 := 46) (ls2 := [some (.inr (.inr (19, 0))), some (.inl a1), some (.inl ((w.1 28 0 ((w.1 19 0 17).toNatClampNeg)) - 48)), some (.inl 0)]) (st2 := [.inl 0]) (w2 := w) 3 (fun F h => h) ?_
        refine pm_ift (P := (0 : Int32) = 0) (i2 := 47) (i3 := 60) (ls2 := [some (.inr (.inr (19, 0))), some (.inl a1), some (.inl ((w.1 28 0 ((w.1 19 0 17).toNatClampNeg)) - 48)), some (.inl 0)]) (st2 := []) (w2 := w) 1 (fun F h => h) (by decide) ?_
        refine pm_go (i2 := 51) (ls2 := [some (.inr (.inr (19, 0))), some (.inl a1), some (.inl ((w.1 28 0 ((w.1 19 0 17).toNatClampNeg)) - 48)), some (.inl 0)]) (st2 := [.inl (-9), .inl (w.1 19 0 18), .inr (.inr (19, 0))]) (w2 := w) 4 (fun F h => h) ?_
        have key : pm_Gx (RT d) co_X8_leafFigure 57 [some (.inr (.inr (19, 0))), some (.inl a1), some (.inl ((w.1 28 0 ((w.1 19 0 17).toNatClampNeg)) - 48)), some (.inl 0)] [.inl (if (w.1 19 0 18) = (-9) then w.1 19 0 17 else w.1 19 0 18 : Int32), .inr (.inr (19, 0))] w Q := by
          refine pm_go (i2 := 58) (ls2 := [some (.inr (.inr (19, 0))), some (.inl a1), some (.inl ((w.1 28 0 ((w.1 19 0 17).toNatClampNeg)) - 48)), some (.inl 0)]) (st2 := []) (w2 := (pm_setI w 19 0 18 (if (w.1 19 0 18) = (-9) then w.1 19 0 17 else w.1 19 0 18 : Int32))) 1 (fun F h => h) ?_
          generalize (pm_setI w 19 0 18 (if (w.1 19 0 18) = (-9) then w.1 19 0 17 else w.1 19 0 18 : Int32)) = w27 at hf ⊢
          replace hf := pm_wlet_un hf
          refine pm_go (i2 := 59) (ls2 := [some (.inr (.inr (19, 0))), some (.inl a1), some (.inl ((w.1 28 0 ((w.1 19 0 17).toNatClampNeg)) - 48)), some (.inl 0)]) (st2 := [.inl 0]) (w2 := w27) 1 (fun F h => h) ?_
          obtain rfl := Option.some.inj hf
          exact pm_re (r := some (.inl 0)) (w2 := w27) 1 (fun F h => h) hq
        clear hf
        refine pm_if (P := (w.1 19 0 18) = (-9)) (i2 := 52) (i3 := 55) (ls2 := [some (.inr (.inr (19, 0))), some (.inl a1), some (.inl ((w.1 28 0 ((w.1 19 0 17).toNatClampNeg)) - 48)), some (.inl 0)]) (st2 := [.inr (.inr (19, 0))]) (w2 := w) 1 (fun F h => h) (fun hc28 => ?_) (fun hc28 => ?_)
        · try simp only [if_pos hc28] at key
          refine pm_go (i2 := 57) (ls2 := [some (.inr (.inr (19, 0))), some (.inl a1), some (.inl ((w.1 28 0 ((w.1 19 0 17).toNatClampNeg)) - 48)), some (.inl 0)]) (st2 := [.inl (w.1 19 0 17), .inr (.inr (19, 0))]) (w2 := w) 3 (fun F h => h) ?_
          exact key
        · try simp only [if_neg hc28] at key
          refine pm_go (i2 := 57) (ls2 := [some (.inr (.inr (19, 0))), some (.inl a1), some (.inl ((w.1 28 0 ((w.1 19 0 17).toNatClampNeg)) - 48)), some (.inl 0)]) (st2 := [.inl (w.1 19 0 18), .inr (.inr (19, 0))]) (w2 := w) 2 (fun F h => h) ?_
          exact key
      · rw [if_neg hc26] at hf
        refine pm_go (i2 := 27) (ls2 := [some (.inr (.inr (19, 0))), some (.inl a1), some (.inl ((w.1 28 0 ((w.1 19 0 17).toNatClampNeg)) - 48)), none]) (st2 := [.inl (-9), .inl a1]) (w2 := w) 2 (fun F h => h) ?_
        refine pm_if (P := a1 = (-9)) (i2 := 28) (i3 := 33) (ls2 := [some (.inr (.inr (19, 0))), some (.inl a1), some (.inl ((w.1 28 0 ((w.1 19 0 17).toNatClampNeg)) - 48)), none]) (st2 := []) (w2 := w) 1 (fun F h => h) (fun hc29 => ?_) (fun hc29 => ?_)
        · rw [if_pos hc29] at hf
          refine pm_go (i2 := 30) (ls2 := [some (.inr (.inr (19, 0))), some (.inl a1), some (.inl ((w.1 28 0 ((w.1 19 0 17).toNatClampNeg)) - 48)), none]) (st2 := [.inl ((w.1 28 0 ((w.1 19 0 17).toNatClampNeg)) - 48), .inr (.inr (19, 0))]) (w2 := w) 2 (fun F h => h) ?_
          obtain ⟨r30, hr31, hf⟩ := Option.bind_eq_some_iff.mp hf
          refine pm_ca (y := 95) (as := [.inr (.inr (19, 0)), .inl ((w.1 28 0 ((w.1 19 0 17).toNatClampNeg)) - 48)]) (r := some (.inl r30)) (w2 := w) (w1 := w) (t := []) (i2 := 31) (ls2 := [some (.inr (.inr (19, 0))), some (.inl a1), some (.inl ((w.1 28 0 ((w.1 19 0 17).toNatClampNeg)) - 48)), none]) 1 (a_X8_isFreeIn F w ((w.1 28 0 ((w.1 19 0 17).toNatClampNeg)) - 48) r30 d (by omega) hr31) (fun F h => h) ?_
          show pm_Gx (RT d) co_X8_leafFigure 31 [some (.inr (.inr (19, 0))), some (.inl a1), some (.inl ((w.1 28 0 ((w.1 19 0 17).toNatClampNeg)) - 48)), none] [.inl r30] w Q
          have key : pm_Gx (RT d) co_X8_leafFigure 44 [some (.inr (.inr (19, 0))), some (.inl a1), some (.inl ((w.1 28 0 ((w.1 19 0 17).toNatClampNeg)) - 48)), none] [.inl (if r30 = 0 then 0 else 1 : Int32)] w Q := by
            refine pm_go (i2 := 46) (ls2 := [some (.inr (.inr (19, 0))), some (.inl a1), some (.inl ((w.1 28 0 ((w.1 19 0 17).toNatClampNeg)) - 48)), some (.inl (if r30 = 0 then 0 else 1 : Int32))]) (st2 := [.inl (if r30 = 0 then 0 else 1 : Int32)]) (w2 := w) 2 (fun F h => h) ?_
            refine pm_if (P := (if r30 = 0 then 0 else 1 : Int32) = 0) (i2 := 47) (i3 := 60) (ls2 := [some (.inr (.inr (19, 0))), some (.inl a1), some (.inl ((w.1 28 0 ((w.1 19 0 17).toNatClampNeg)) - 48)), some (.inl (if r30 = 0 then 0 else 1 : Int32))]) (st2 := []) (w2 := w) 1 (fun F h => h) (fun hc32 => ?_) (fun hc32 => ?_)
            · rw [if_pos hc32] at hf
              refine pm_go (i2 := 51) (ls2 := [some (.inr (.inr (19, 0))), some (.inl a1), some (.inl ((w.1 28 0 ((w.1 19 0 17).toNatClampNeg)) - 48)), some (.inl (if r30 = 0 then 0 else 1 : Int32))]) (st2 := [.inl (-9), .inl (w.1 19 0 18), .inr (.inr (19, 0))]) (w2 := w) 4 (fun F h => h) ?_
              have key : pm_Gx (RT d) co_X8_leafFigure 57 [some (.inr (.inr (19, 0))), some (.inl a1), some (.inl ((w.1 28 0 ((w.1 19 0 17).toNatClampNeg)) - 48)), some (.inl (if r30 = 0 then 0 else 1 : Int32))] [.inl (if (w.1 19 0 18) = (-9) then w.1 19 0 17 else w.1 19 0 18 : Int32), .inr (.inr (19, 0))] w Q := by
                refine pm_go (i2 := 58) (ls2 := [some (.inr (.inr (19, 0))), some (.inl a1), some (.inl ((w.1 28 0 ((w.1 19 0 17).toNatClampNeg)) - 48)), some (.inl (if r30 = 0 then 0 else 1 : Int32))]) (st2 := []) (w2 := (pm_setI w 19 0 18 (if (w.1 19 0 18) = (-9) then w.1 19 0 17 else w.1 19 0 18 : Int32))) 1 (fun F h => h) ?_
                generalize (pm_setI w 19 0 18 (if (w.1 19 0 18) = (-9) then w.1 19 0 17 else w.1 19 0 18 : Int32)) = w33 at hf ⊢
                replace hf := pm_wlet_un hf
                refine pm_go (i2 := 59) (ls2 := [some (.inr (.inr (19, 0))), some (.inl a1), some (.inl ((w.1 28 0 ((w.1 19 0 17).toNatClampNeg)) - 48)), some (.inl (if r30 = 0 then 0 else 1 : Int32))]) (st2 := [.inl 0]) (w2 := w33) 1 (fun F h => h) ?_
                obtain rfl := Option.some.inj hf
                exact pm_re (r := some (.inl 0)) (w2 := w33) 1 (fun F h => h) hq
              clear hf
              refine pm_if (P := (w.1 19 0 18) = (-9)) (i2 := 52) (i3 := 55) (ls2 := [some (.inr (.inr (19, 0))), some (.inl a1), some (.inl ((w.1 28 0 ((w.1 19 0 17).toNatClampNeg)) - 48)), some (.inl (if r30 = 0 then 0 else 1 : Int32))]) (st2 := [.inr (.inr (19, 0))]) (w2 := w) 1 (fun F h => h) (fun hc34 => ?_) (fun hc34 => ?_)
              · try simp only [if_pos hc34] at key
                refine pm_go (i2 := 57) (ls2 := [some (.inr (.inr (19, 0))), some (.inl a1), some (.inl ((w.1 28 0 ((w.1 19 0 17).toNatClampNeg)) - 48)), some (.inl (if r30 = 0 then 0 else 1 : Int32))]) (st2 := [.inl (w.1 19 0 17), .inr (.inr (19, 0))]) (w2 := w) 3 (fun F h => h) ?_
                exact key
              · try simp only [if_neg hc34] at key
                refine pm_go (i2 := 57) (ls2 := [some (.inr (.inr (19, 0))), some (.inl a1), some (.inl ((w.1 28 0 ((w.1 19 0 17).toNatClampNeg)) - 48)), some (.inl (if r30 = 0 then 0 else 1 : Int32))]) (st2 := [.inl (w.1 19 0 18), .inr (.inr (19, 0))]) (w2 := w) 2 (fun F h => h) ?_
                exact key
            · rw [if_neg hc32] at hf
              refine pm_go (i2 := 66) (ls2 := [some (.inr (.inr (19, 0))), some (.inl a1), some (.inl ((w.1 28 0 ((w.1 19 0 17).toNatClampNeg)) - 48)), some (.inl (if r30 = 0 then 0 else 1 : Int32))]) (st2 := []) (w2 := (pm_setI w 19 0 17 ((w.1 19 0 17) + 1))) 6 (fun F h => h) ?_
              generalize (pm_setI w 19 0 17 ((w.1 19 0 17) + 1)) = w35 at hf ⊢
              replace hf := pm_wlet_un hf
              refine pm_go (i2 := 67) (ls2 := [some (.inr (.inr (19, 0))), some (.inl a1), some (.inl ((w.1 28 0 ((w.1 19 0 17).toNatClampNeg)) - 48)), some (.inl (if r30 = 0 then 0 else 1 : Int32))]) (st2 := [.inl ((w.1 28 0 ((w.1 19 0 17).toNatClampNeg)) - 48)]) (w2 := w35) 1 (fun F h => h) ?_
              obtain rfl := Option.some.inj hf
              exact pm_re (r := some (.inl ((w.1 28 0 ((w.1 19 0 17).toNatClampNeg)) - 48))) (w2 := w35) 1 (fun F h => h) hq
          clear hf
          refine pm_if (P := r30 = 0) (i2 := 43) (i3 := 32) (ls2 := [some (.inr (.inr (19, 0))), some (.inl a1), some (.inl ((w.1 28 0 ((w.1 19 0 17).toNatClampNeg)) - 48)), none]) (st2 := []) (w2 := w) 1 (fun F h => h) (fun hc36 => ?_) (fun hc36 => ?_)
          · try simp only [if_pos hc36] at key
            refine pm_go (i2 := 44) (ls2 := [some (.inr (.inr (19, 0))), some (.inl a1), some (.inl ((w.1 28 0 ((w.1 19 0 17).toNatClampNeg)) - 48)), none]) (st2 := [.inl 0]) (w2 := w) 1 (fun F h => h) ?_
            exact key
          · try simp only [if_neg hc36] at key
            refine pm_go (i2 := 44) (ls2 := [some (.inr (.inr (19, 0))), some (.inl a1), some (.inl ((w.1 28 0 ((w.1 19 0 17).toNatClampNeg)) - 48)), none]) (st2 := [.inl 1]) (w2 := w) 3 (fun F h => h) ?_
            exact key
        · rw [if_neg hc29] at hf
          refine pm_go (i2 := 39) (ls2 := [some (.inr (.inr (19, 0))), some (.inl a1), some (.inl ((w.1 28 0 ((w.1 19 0 17).toNatClampNeg)) - 48)), none]) (st2 := [.inl ((10 * a1) + ((w.1 28 0 ((w.1 19 0 17).toNatClampNeg)) - 48)), .inr (.inr (19, 0))]) (w2 := w) 6 (fun F h => h) ?_
          obtain ⟨r37, hr38, hf⟩ := Option.bind_eq_some_iff.mp hf
          refine pm_ca (y := 94) (as := [.inr (.inr (19, 0)), .inl ((10 * a1) + ((w.1 28 0 ((w.1 19 0 17).toNatClampNeg)) - 48))]) (r := some (.inl r37)) (w2 := w) (w1 := w) (t := []) (i2 := 40) (ls2 := [some (.inr (.inr (19, 0))), some (.inl a1), some (.inl ((w.1 28 0 ((w.1 19 0 17).toNatClampNeg)) - 48)), none]) 1 (a_X8_isFree F w ((10 * a1) + ((w.1 28 0 ((w.1 19 0 17).toNatClampNeg)) - 48)) r37 d (by omega) hr38) (fun F h => h) ?_
          show pm_Gx (RT d) co_X8_leafFigure 40 [some (.inr (.inr (19, 0))), some (.inl a1), some (.inl ((w.1 28 0 ((w.1 19 0 17).toNatClampNeg)) - 48)), none] [.inl r37] w Q
          have key : pm_Gx (RT d) co_X8_leafFigure 44 [some (.inr (.inr (19, 0))), some (.inl a1), some (.inl ((w.1 28 0 ((w.1 19 0 17).toNatClampNeg)) - 48)), none] [.inl (if r37 = 0 then 0 else 1 : Int32)] w Q := by
            refine pm_go (i2 := 46) (ls2 := [some (.inr (.inr (19, 0))), some (.inl a1), some (.inl ((w.1 28 0 ((w.1 19 0 17).toNatClampNeg)) - 48)), some (.inl (if r37 = 0 then 0 else 1 : Int32))]) (st2 := [.inl (if r37 = 0 then 0 else 1 : Int32)]) (w2 := w) 2 (fun F h => h) ?_
            refine pm_if (P := (if r37 = 0 then 0 else 1 : Int32) = 0) (i2 := 47) (i3 := 60) (ls2 := [some (.inr (.inr (19, 0))), some (.inl a1), some (.inl ((w.1 28 0 ((w.1 19 0 17).toNatClampNeg)) - 48)), some (.inl (if r37 = 0 then 0 else 1 : Int32))]) (st2 := []) (w2 := w) 1 (fun F h => h) (fun hc39 => ?_) (fun hc39 => ?_)
            · rw [if_pos hc39] at hf
              refine pm_go (i2 := 51) (ls2 := [some (.inr (.inr (19, 0))), some (.inl a1), some (.inl ((w.1 28 0 ((w.1 19 0 17).toNatClampNeg)) - 48)), some (.inl (if r37 = 0 then 0 else 1 : Int32))]) (st2 := [.inl (-9), .inl (w.1 19 0 18), .inr (.inr (19, 0))]) (w2 := w) 4 (fun F h => h) ?_
              have key : pm_Gx (RT d) co_X8_leafFigure 57 [some (.inr (.inr (19, 0))), some (.inl a1), some (.inl ((w.1 28 0 ((w.1 19 0 17).toNatClampNeg)) - 48)), some (.inl (if r37 = 0 then 0 else 1 : Int32))] [.inl (if (w.1 19 0 18) = (-9) then w.1 19 0 17 else w.1 19 0 18 : Int32), .inr (.inr (19, 0))] w Q := by
                refine pm_go (i2 := 58) (ls2 := [some (.inr (.inr (19, 0))), some (.inl a1), some (.inl ((w.1 28 0 ((w.1 19 0 17).toNatClampNeg)) - 48)), some (.inl (if r37 = 0 then 0 else 1 : Int32))]) (st2 := []) (w2 := (pm_setI w 19 0 18 (if (w.1 19 0 18) = (-9) then w.1 19 0 17 else w.1 19 0 18 : Int32))) 1 (fun F h => h) ?_
                generalize (pm_setI w 19 0 18 (if (w.1 19 0 18) = (-9) then w.1 19 0 17 else w.1 19 0 18 : Int32)) = w40 at hf ⊢
                replace hf := pm_wlet_un hf
                refine pm_go (i2 := 59) (ls2 := [some (.inr (.inr (19, 0))), some (.inl a1), some (.inl ((w.1 28 0 ((w.1 19 0 17).toNatClampNeg)) - 48)), some (.inl (if r37 = 0 then 0 else 1 : Int32))]) (st2 := [.inl 0]) (w2 := w40) 1 (fun F h => h) ?_
                obtain rfl := Option.some.inj hf
                exact pm_re (r := some (.inl 0)) (w2 := w40) 1 (fun F h => h) hq
              clear hf
              refine pm_if (P := (w.1 19 0 18) = (-9)) (i2 := 52) (i3 := 55) (ls2 := [some (.inr (.inr (19, 0))), some (.inl a1), some (.inl ((w.1 28 0 ((w.1 19 0 17).toNatClampNeg)) - 48)), some (.inl (if r37 = 0 then 0 else 1 : Int32))]) (st2 := [.inr (.inr (19, 0))]) (w2 := w) 1 (fun F h => h) (fun hc41 => ?_) (fun hc41 => ?_)
              · try simp only [if_pos hc41] at key
                refine pm_go (i2 := 57) (ls2 := [some (.inr (.inr (19, 0))), some (.inl a1), some (.inl ((w.1 28 0 ((w.1 19 0 17).toNatClampNeg)) - 48)), some (.inl (if r37 = 0 then 0 else 1 : Int32))]) (st2 := [.inl (w.1 19 0 17), .inr (.inr (19, 0))]) (w2 := w) 3 (fun F h => h) ?_
                exact key
              · try simp only [if_neg hc41] at key
                refine pm_go (i2 := 57) (ls2 := [some (.inr (.inr (19, 0))), some (.inl a1), some (.inl ((w.1 28 0 ((w.1 19 0 17).toNatClampNeg)) - 48)), some (.inl (if r37 = 0 then 0 else 1 : Int32))]) (st2 := [.inl (w.1 19 0 18), .inr (.inr (19, 0))]) (w2 := w) 2 (fun F h => h) ?_
                exact key
            · rw [if_neg hc39] at hf
              refine pm_go (i2 := 66) (ls2 := [some (.inr (.inr (19, 0))), some (.inl a1), some (.inl ((w.1 28 0 ((w.1 19 0 17).toNatClampNeg)) - 48)), some (.inl (if r37 = 0 then 0 else 1 : Int32))]) (st2 := []) (w2 := (pm_setI w 19 0 17 ((w.1 19 0 17) + 1))) 6 (fun F h => h) ?_
              generalize (pm_setI w 19 0 17 ((w.1 19 0 17) + 1)) = w42 at hf ⊢
              replace hf := pm_wlet_un hf
              refine pm_go (i2 := 67) (ls2 := [some (.inr (.inr (19, 0))), some (.inl a1), some (.inl ((w.1 28 0 ((w.1 19 0 17).toNatClampNeg)) - 48)), some (.inl (if r37 = 0 then 0 else 1 : Int32))]) (st2 := [.inl ((w.1 28 0 ((w.1 19 0 17).toNatClampNeg)) - 48)]) (w2 := w42) 1 (fun F h => h) ?_
              obtain rfl := Option.some.inj hf
              exact pm_re (r := some (.inl ((w.1 28 0 ((w.1 19 0 17).toNatClampNeg)) - 48))) (w2 := w42) 1 (fun F h => h) hq
          clear hf
          refine pm_if (P := r37 = 0) (i2 := 43) (i3 := 41) (ls2 := [some (.inr (.inr (19, 0))), some (.inl a1), some (.inl ((w.1 28 0 ((w.1 19 0 17).toNatClampNeg)) - 48)), none]) (st2 := []) (w2 := w) 1 (fun F h => h) (fun hc43 => ?_) (fun hc43 => ?_)
          · try simp only [if_pos hc43] at key
            refine pm_go (i2 := 44) (ls2 := [some (.inr (.inr (19, 0))), some (.inl a1), some (.inl ((w.1 28 0 ((w.1 19 0 17).toNatClampNeg)) - 48)), none]) (st2 := [.inl 0]) (w2 := w) 1 (fun F h => h) ?_
            exact key
          · try simp only [if_neg hc43] at key
            refine pm_go (i2 := 44) (ls2 := [some (.inr (.inr (19, 0))), some (.inl a1), some (.inl ((w.1 28 0 ((w.1 19 0 17).toNatClampNeg)) - 48)), none]) (st2 := [.inl 1]) (w2 := w) 2 (fun F h => h) ?_
            exact key
  · rw [if_neg hc1] at hf
    refine pm_go (i2 := 23) (ls2 := [some (.inr (.inr (19, 0))), some (.inl a1), some (.inl (-9)), none]) (st2 := [.inr (.inl 9), .inr (.inl 0), .inr (.inl ((-9 : Int32).toInt64))]) (w2 := w) 6 (fun F h => h) ?_
    obtain ⟨r44, hr45, hf⟩ := Option.bind_eq_some_iff.mp hf
    refine pm_ca (y := 88) (as := [.inr (.inl ((-9 : Int32).toInt64)), .inr (.inl 0), .inr (.inl 9)]) (r := some (.inl r44)) (w2 := w) (w1 := w) (t := []) (i2 := 24) (ls2 := [some (.inr (.inr (19, 0))), some (.inl a1), some (.inl (-9)), none]) 1 (a_X8_in F w ((-9 : Int32).toInt64) 0 9 r44 d (by omega) hr45) (fun F h => h) ?_
    show pm_Gx (RT d) co_X8_leafFigure 24 [some (.inr (.inr (19, 0))), some (.inl a1), some (.inl (-9)), none] [.inl r44] w Q
    refine pm_if (P := r44 = 0) (i2 := 43) (i3 := 25) (ls2 := [some (.inr (.inr (19, 0))), some (.inl a1), some (.inl (-9)), none]) (st2 := []) (w2 := w) 1 (fun F h => h) (fun hc46 => ?_) (fun hc46 => ?_)
    · rw [if_pos hc46] at hf
      refine pm_go (i2 := 46) (ls2 := [some (.inr (.inr (19, 0))), some (.inl a1), some (.inl (-9)), some (.inl 0)]) (st2 := [.inl 0]) (w2 := w) 3 (fun F h => h) ?_
      refine pm_ift (P := (0 : Int32) = 0) (i2 := 47) (i3 := 60) (ls2 := [some (.inr (.inr (19, 0))), some (.inl a1), some (.inl (-9)), some (.inl 0)]) (st2 := []) (w2 := w) 1 (fun F h => h) (by decide) ?_
      refine pm_go (i2 := 51) (ls2 := [some (.inr (.inr (19, 0))), some (.inl a1), some (.inl (-9)), some (.inl 0)]) (st2 := [.inl (-9), .inl (w.1 19 0 18), .inr (.inr (19, 0))]) (w2 := w) 4 (fun F h => h) ?_
      have key : pm_Gx (RT d) co_X8_leafFigure 57 [some (.inr (.inr (19, 0))), some (.inl a1), some (.inl (-9)), some (.inl 0)] [.inl (if (w.1 19 0 18) = (-9) then w.1 19 0 17 else w.1 19 0 18 : Int32), .inr (.inr (19, 0))] w Q := by
        refine pm_go (i2 := 58) (ls2 := [some (.inr (.inr (19, 0))), some (.inl a1), some (.inl (-9)), some (.inl 0)]) (st2 := []) (w2 := (pm_setI w 19 0 18 (if (w.1 19 0 18) = (-9) then w.1 19 0 17 else w.1 19 0 18 : Int32))) 1 (fun F h => h) ?_
        generalize (pm_setI w 19 0 18 (if (w.1 19 0 18) = (-9) then w.1 19 0 17 else w.1 19 0 18 : Int32)) = w47 at hf ⊢
        replace hf := pm_wlet_un hf
        refine pm_go (i2 := 59) (ls2 := [some (.inr (.inr (19, 0))), some (.inl a1), some (.inl (-9)), some (.inl 0)]) (st2 := [.inl 0]) (w2 := w47) 1 (fun F h => h) ?_
        obtain rfl := Option.some.inj hf
        exact pm_re (r := some (.inl 0)) (w2 := w47) 1 (fun F h => h) hq
      clear hf
      refine pm_if (P := (w.1 19 0 18) = (-9)) (i2 := 52) (i3 := 55) (ls2 := [some (.inr (.inr (19, 0))), some (.inl a1), some (.inl (-9)), some (.inl 0)]) (st2 := [.inr (.inr (19, 0))]) (w2 := w) 1 (fun F h => h) (fun hc48 => ?_) (fun hc48 => ?_)
      · try simp only [if_pos hc48] at key
        refine pm_go (i2 := 57) (ls2 := [some (.inr (.inr (19, 0))), some (.inl a1), some (.inl (-9)), some (.inl 0)]) (st2 := [.inl (w.1 19 0 17), .inr (.inr (19, 0))]) (w2 := w) 3 (fun F h => h) ?_
        exact key
      · try simp only [if_neg hc48] at key
        refine pm_go (i2 := 57) (ls2 := [some (.inr (.inr (19, 0))), some (.inl a1), some (.inl (-9)), some (.inl 0)]) (st2 := [.inl (w.1 19 0 18), .inr (.inr (19, 0))]) (w2 := w) 2 (fun F h => h) ?_
        exact key
    · rw [if_neg hc46] at hf
      refine pm_go (i2 := 27) (ls2 := [some (.inr (.inr (19, 0))), some (.inl a1), some (.inl (-9)), none]) (st2 := [.inl (-9), .inl a1]) (w2 := w) 2 (fun F h => h) ?_
      refine pm_if (P := a1 = (-9)) (i2 := 28) (i3 := 33) (ls2 := [some (.inr (.inr (19, 0))), some (.inl a1), some (.inl (-9)), none]) (st2 := []) (w2 := w) 1 (fun F h => h) (fun hc49 => ?_) (fun hc49 => ?_)
      · rw [if_pos hc49] at hf
        refine pm_go (i2 := 30) (ls2 := [some (.inr (.inr (19, 0))), some (.inl a1), some (.inl (-9)), none]) (st2 := [.inl (-9), .inr (.inr (19, 0))]) (w2 := w) 2 (fun F h => h) ?_
        obtain ⟨r50, hr51, hf⟩ := Option.bind_eq_some_iff.mp hf
        refine pm_ca (y := 95) (as := [.inr (.inr (19, 0)), .inl (-9)]) (r := some (.inl r50)) (w2 := w) (w1 := w) (t := []) (i2 := 31) (ls2 := [some (.inr (.inr (19, 0))), some (.inl a1), some (.inl (-9)), none]) 1 (a_X8_isFreeIn F w (-9) r50 d (by omega) hr51) (fun F h => h) ?_
        show pm_Gx (RT d) co_X8_leafFigure 31 [some (.inr (.inr (19, 0))), some (.inl a1), some (.inl (-9)), none] [.inl r50] w Q
        have key : pm_Gx (RT d) co_X8_leafFigure 44 [some (.inr (.inr (19, 0))), some (.inl a1), some (.inl (-9)), none] [.inl (if r50 = 0 then 0 else 1 : Int32)] w Q := by
          refine pm_go (i2 := 46) (ls2 := [some (.inr (.inr (19, 0))), some (.inl a1), some (.inl (-9)), some (.inl (if r50 = 0 then 0 else 1 : Int32))]) (st2 := [.inl (if r50 = 0 then 0 else 1 : Int32)]) (w2 := w) 2 (fun F h => h) ?_
          refine pm_if (P := (if r50 = 0 then 0 else 1 : Int32) = 0) (i2 := 47) (i3 := 60) (ls2 := [some (.inr (.inr (19, 0))), some (.inl a1), some (.inl (-9)), some (.inl (if r50 = 0 then 0 else 1 : Int32))]) (st2 := []) (w2 := w) 1 (fun F h => h) (fun hc52 => ?_) (fun hc52 => ?_)
          · rw [if_pos hc52] at hf
            refine pm_go (i2 := 51) (ls2 := [some (.inr (.inr (19, 0))), some (.inl a1), some (.inl (-9)), some (.inl (if r50 = 0 then 0 else 1 : Int32))]) (st2 := [.inl (-9), .inl (w.1 19 0 18), .inr (.inr (19, 0))]) (w2 := w) 4 (fun F h => h) ?_
            have key : pm_Gx (RT d) co_X8_leafFigure 57 [some (.inr (.inr (19, 0))), some (.inl a1), some (.inl (-9)), some (.inl (if r50 = 0 then 0 else 1 : Int32))] [.inl (if (w.1 19 0 18) = (-9) then w.1 19 0 17 else w.1 19 0 18 : Int32), .inr (.inr (19, 0))] w Q := by
              refine pm_go (i2 := 58) (ls2 := [some (.inr (.inr (19, 0))), some (.inl a1), some (.inl (-9)), some (.inl (if r50 = 0 then 0 else 1 : Int32))]) (st2 := []) (w2 := (pm_setI w 19 0 18 (if (w.1 19 0 18) = (-9) then w.1 19 0 17 else w.1 19 0 18 : Int32))) 1 (fun F h => h) ?_
              generalize (pm_setI w 19 0 18 (if (w.1 19 0 18) = (-9) then w.1 19 0 17 else w.1 19 0 18 : Int32)) = w53 at hf ⊢
              replace hf := pm_wlet_un hf
              refine pm_go (i2 := 59) (ls2 := [some (.inr (.inr (19, 0))), some (.inl a1), some (.inl (-9)), some (.inl (if r50 = 0 then 0 else 1 : Int32))]) (st2 := [.inl 0]) (w2 := w53) 1 (fun F h => h) ?_
              obtain rfl := Option.some.inj hf
              exact pm_re (r := some (.inl 0)) (w2 := w53) 1 (fun F h => h) hq
            clear hf
            refine pm_if (P := (w.1 19 0 18) = (-9)) (i2 := 52) (i3 := 55) (ls2 := [some (.inr (.inr (19, 0))), some (.inl a1), some (.inl (-9)), some (.inl (if r50 = 0 then 0 else 1 : Int32))]) (st2 := [.inr (.inr (19, 0))]) (w2 := w) 1 (fun F h => h) (fun hc54 => ?_) (fun hc54 => ?_)
            · try simp only [if_pos hc54] at key
              refine pm_go (i2 := 57) (ls2 := [some (.inr (.inr (19, 0))), some (.inl a1), some (.inl (-9)), some (.inl (if r50 = 0 then 0 else 1 : Int32))]) (st2 := [.inl (w.1 19 0 17), .inr (.inr (19, 0))]) (w2 := w) 3 (fun F h => h) ?_
              exact key
            · try simp only [if_neg hc54] at key
              refine pm_go (i2 := 57) (ls2 := [some (.inr (.inr (19, 0))), some (.inl a1), some (.inl (-9)), some (.inl (if r50 = 0 then 0 else 1 : Int32))]) (st2 := [.inl (w.1 19 0 18), .inr (.inr (19, 0))]) (w2 := w) 2 (fun F h => h) ?_
              exact key
          · rw [if_neg hc52] at hf
            refine pm_go (i2 := 66) (ls2 := [some (.inr (.inr (19, 0))), some (.inl a1), some (.inl (-9)), some (.inl (if r50 = 0 then 0 else 1 : Int32))]) (st2 := []) (w2 := (pm_setI w 19 0 17 ((w.1 19 0 17) + 1))) 6 (fun F h => h) ?_
            generalize (pm_setI w 19 0 17 ((w.1 19 0 17) + 1)) = w55 at hf ⊢
            replace hf := pm_wlet_un hf
            refine pm_go (i2 := 67) (ls2 := [some (.inr (.inr (19, 0))), some (.inl a1), some (.inl (-9)), some (.inl (if r50 = 0 then 0 else 1 : Int32))]) (st2 := [.inl (-9)]) (w2 := w55) 1 (fun F h => h) ?_
            obtain rfl := Option.some.inj hf
            exact pm_re (r := some (.inl (-9))) (w2 := w55) 1 (fun F h => h) hq
        clear hf
        refine pm_if (P := r50 = 0) (i2 := 43) (i3 := 32) (ls2 := [some (.inr (.inr (19, 0))), some (.inl a1), some (.inl (-9)), none]) (st2 := []) (w2 := w) 1 (fun F h => h) (fun hc56 => ?_) (fun hc56 => ?_)
        · try simp only [if_pos hc56] at key
          refine pm_go (i2 := 44) (ls2 := [some (.inr (.inr (19, 0))), some (.inl a1), some (.inl (-9)), none]) (st2 := [.inl 0]) (w2 := w) 1 (fun F h => h) ?_
          exact key
        · try simp only [if_neg hc56] at key
          refine pm_go (i2 := 44) (ls2 := [some (.inr (.inr (19, 0))), some (.inl a1), some (.inl (-9)), none]) (st2 := [.inl 1]) (w2 := w) 3 (fun F h => h) ?_
          exact key
      · rw [if_neg hc49] at hf
        refine pm_go (i2 := 39) (ls2 := [some (.inr (.inr (19, 0))), some (.inl a1), some (.inl (-9)), none]) (st2 := [.inl ((10 * a1) + (-9)), .inr (.inr (19, 0))]) (w2 := w) 6 (fun F h => h) ?_
        obtain ⟨r57, hr58, hf⟩ := Option.bind_eq_some_iff.mp hf
        refine pm_ca (y := 94) (as := [.inr (.inr (19, 0)), .inl ((10 * a1) + (-9))]) (r := some (.inl r57)) (w2 := w) (w1 := w) (t := []) (i2 := 40) (ls2 := [some (.inr (.inr (19, 0))), some (.inl a1), some (.inl (-9)), none]) 1 (a_X8_isFree F w ((10 * a1) + (-9)) r57 d (by omega) hr58) (fun F h => h) ?_
        show pm_Gx (RT d) co_X8_leafFigure 40 [some (.inr (.inr (19, 0))), some (.inl a1), some (.inl (-9)), none] [.inl r57] w Q
        have key : pm_Gx (RT d) co_X8_leafFigure 44 [some (.inr (.inr (19, 0))), some (.inl a1), some (.inl (-9)), none] [.inl (if r57 = 0 then 0 else 1 : Int32)] w Q := by
          refine pm_go (i2 := 46) (ls2 := [some (.inr (.inr (19, 0))), some (.inl a1), some (.inl (-9)), some (.inl (if r57 = 0 then 0 else 1 : Int32))]) (st2 := [.inl (if r57 = 0 then 0 else 1 : Int32)]) (w2 := w) 2 (fun F h => h) ?_
          refine pm_if (P := (if r57 = 0 then 0 else 1 : Int32) = 0) (i2 := 47) (i3 := 60) (ls2 := [some (.inr (.inr (19, 0))), some (.inl a1), some (.inl (-9)), some (.inl (if r57 = 0 then 0 else 1 : Int32))]) (st2 := []) (w2 := w) 1 (fun F h => h) (fun hc59 => ?_) (fun hc59 => ?_)
          · rw [if_pos hc59] at hf
            refine pm_go (i2 := 51) (ls2 := [some (.inr (.inr (19, 0))), some (.inl a1), some (.inl (-9)), some (.inl (if r57 = 0 then 0 else 1 : Int32))]) (st2 := [.inl (-9), .inl (w.1 19 0 18), .inr (.inr (19, 0))]) (w2 := w) 4 (fun F h => h) ?_
            have key : pm_Gx (RT d) co_X8_leafFigure 57 [some (.inr (.inr (19, 0))), some (.inl a1), some (.inl (-9)), some (.inl (if r57 = 0 then 0 else 1 : Int32))] [.inl (if (w.1 19 0 18) = (-9) then w.1 19 0 17 else w.1 19 0 18 : Int32), .inr (.inr (19, 0))] w Q := by
              refine pm_go (i2 := 58) (ls2 := [some (.inr (.inr (19, 0))), some (.inl a1), some (.inl (-9)), some (.inl (if r57 = 0 then 0 else 1 : Int32))]) (st2 := []) (w2 := (pm_setI w 19 0 18 (if (w.1 19 0 18) = (-9) then w.1 19 0 17 else w.1 19 0 18 : Int32))) 1 (fun F h => h) ?_
              generalize (pm_setI w 19 0 18 (if (w.1 19 0 18) = (-9) then w.1 19 0 17 else w.1 19 0 18 : Int32)) = w60 at hf ⊢
              replace hf := pm_wlet_un hf
              refine pm_go (i2 := 59) (ls2 := [some (.inr (.inr (19, 0))), some (.inl a1), some (.inl (-9)), some (.inl (if r57 = 0 then 0 else 1 : Int32))]) (st2 := [.inl 0]) (w2 := w60) 1 (fun F h => h) ?_
              obtain rfl := Option.some.inj hf
              exact pm_re (r := some (.inl 0)) (w2 := w60) 1 (fun F h => h) hq
            clear hf
            refine pm_if (P := (w.1 19 0 18) = (-9)) (i2 := 52) (i3 := 55) (ls2 := [some (.inr (.inr (19, 0))), some (.inl a1), some (.inl (-9)), some (.inl (if r57 = 0 then 0 else 1 : Int32))]) (st2 := [.inr (.inr (19, 0))]) (w2 := w) 1 (fun F h => h) (fun hc61 => ?_) (fun hc61 => ?_)
            · try simp only [if_pos hc61] at key
              refine pm_go (i2 := 57) (ls2 := [some (.inr (.inr (19, 0))), some (.inl a1), some (.inl (-9)), some (.inl (if r57 = 0 then 0 else 1 : Int32))]) (st2 := [.inl (w.1 19 0 17), .inr (.inr (19, 0))]) (w2 := w) 3 (fun F h => h) ?_
              exact key
            · try simp only [if_neg hc61] at key
              refine pm_go (i2 := 57) (ls2 := [some (.inr (.inr (19, 0))), some (.inl a1), some (.inl (-9)), some (.inl (if r57 = 0 then 0 else 1 : Int32))]) (st2 := [.inl (w.1 19 0 18), .inr (.inr (19, 0))]) (w2 := w) 2 (fun F h => h) ?_
              exact key
          · rw [if_neg hc59] at hf
            refine pm_go (i2 := 66) (ls2 := [some (.inr (.inr (19, 0))), some (.inl a1), some (.inl (-9)), some (.inl (if r57 = 0 then 0 else 1 : Int32))]) (st2 := []) (w2 := (pm_setI w 19 0 17 ((w.1 19 0 17) + 1))) 6 (fun F h => h) ?_
            generalize (pm_setI w 19 0 17 ((w.1 19 0 17) + 1)) = w62 at hf ⊢
            replace hf := pm_wlet_un hf
            refine pm_go (i2 := 67) (ls2 := [some (.inr (.inr (19, 0))), some (.inl a1), some (.inl (-9)), some (.inl (if r57 = 0 then 0 else 1 : Int32))]) (st2 := [.inl (-9)]) (w2 := w62) 1 (fun F h => h) ?_
            obtain rfl := Option.some.inj hf
            exact pm_re (r := some (.inl (-9))) (w2 := w62) 1 (fun F h => h) hq
        clear hf
        refine pm_if (P := r57 = 0) (i2 := 43) (i3 := 41) (ls2 := [some (.inr (.inr (19, 0))), some (.inl a1), some (.inl (-9)), none]) (st2 := []) (w2 := w) 1 (fun F h => h) (fun hc63 => ?_) (fun hc63 => ?_)
        · try simp only [if_pos hc63] at key
          refine pm_go (i2 := 44) (ls2 := [some (.inr (.inr (19, 0))), some (.inl a1), some (.inl (-9)), none]) (st2 := [.inl 0]) (w2 := w) 1 (fun F h => h) ?_
          exact key
        · try simp only [if_neg hc63] at key
          refine pm_go (i2 := 44) (ls2 := [some (.inr (.inr (19, 0))), some (.inl a1), some (.inl (-9)), none]) (st2 := [.inl 1]) (w2 := w) 2 (fun F h => h) ?_
          exact key
set_option maxRecDepth 20000 in
set_option maxHeartbeats 4000000 in
theorem a_X8_leafFigure (F : Nat) (w : pm_W) (a1 : Int32) (x : (Int32 × pm_W)) (d : Nat) (hd : 3 ≤ d) (hf : f_X8_leafFigure F w a1 = some x) : RT d 96 [.inr (.inr (19, 0)), .inl a1] w (some (.inl x.1)) x.2 := by
  obtain ⟨d, rfl, hd2⟩ := pm_dep hd
  exact pm_start (co := co_X8_leafFigure) (nL := 4) (by decide) rfl rfl (Nat.le_of_ble_eq_true rfl) (b_X8_leafFigure F d hd2 _ w a1 x hf ⟨rfl, rfl⟩)
