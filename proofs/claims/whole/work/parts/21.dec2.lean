def f_X1_weightOf_L4 (F : Nat) (w : pm_W) : Nat → Int32 → Int32 → Int32 → Int32 → Option (Int32 × Int32)
  | 0, _, _, _, _ => none
  | n + 1, v1, v2, v3, v4 => (if (w.1 3 0 3) ≤ v4 then some (v3, v4) else f_X1_weightOf_L4 F w n v1 v2 (v3 * (if ((v1 >>> (v4 &&& 31)) &&& 1) = 1 then v2 else 10 - v2 : Int32)) (v4 + 1))
def f_X1_weightOf (F : Nat) (w : pm_W) (a1 : Int32) (a2 : Int32) : Option (Int32) := ((f_X1_weightOf_L4 F w F a1 a2 1 0).bind fun x3 => some x3.1)
set_option maxRecDepth 20000 in
set_option maxHeartbeats 4000000 in
theorem a_X1_weightOf_L4 (F : Nat) (d : Nat) (hd : 0 ≤ d) (Q : pm_Q) (w : pm_W) : ∀ (n : Nat) (v1 : Int32) (v2 : Int32) (v3 : Int32) (v4 : Int32) (x : Int32 × Int32), f_X1_weightOf_L4 F w n v1 v2 v3 v4 = some x → pm_Gx (RT d) co_X1_weightOf 26 [some (.inr (.inr (18, 0))), some (.inl v1), some (.inl v2), some (.inl x.1), some (.inl x.2)] [] w Q → pm_Gx (RT d) co_X1_weightOf 4 [some (.inr (.inr (18, 0))), some (.inl v1), some (.inl v2), some (.inl v3), some (.inl v4)] [] w Q := by
  intro n
  induction n with
  | zero =>
    intro v1 v2 v3 v4 x hf
    cases hf
  | succ n ih =>
    intro v1 v2 v3 v4 x hf hk
    rw [f_X1_weightOf_L4] at hf
    refine pm_go (i2 := 8) (ls2 := [some (.inr (.inr (18, 0))), some (.inl v1), some (.inl v2), some (.inl v3), some (.inl v4)]) (st2 := [.inl (w.1 3 0 3), .inl v4]) (w2 := w) 4 (fun F h => h) ?_
    refine pm_if (P := (w.1 3 0 3) ≤ v4) (i2 := 26) (i3 := 9) (ls2 := [some (.inr (.inr (18, 0))), some (.inl v1), some (.inl v2), some (.inl v3), some (.inl v4)]) (st2 := []) (w2 := w) 1 (fun F h => h) (fun hc1 => ?_) (fun hc1 => ?_)
    · rw [if_pos hc1] at hf
      obtain rfl := Option.some.inj hf
      exact hk
    · rw [if_neg hc1] at hf
      refine pm_go (i2 := 16) (ls2 := [some (.inr (.inr (18, 0))), some (.inl v1), some (.inl v2), some (.inl v3), some (.inl v4)]) (st2 := [.inl 1, .inl ((v1 >>> (v4 &&& 31)) &&& 1), .inl v3]) (w2 := w) 7 (fun F h => h) ?_
      have key : pm_Gx (RT d) co_X1_weightOf 22 [some (.inr (.inr (18, 0))), some (.inl v1), some (.inl v2), some (.inl v3), some (.inl v4)] [.inl (if ((v1 >>> (v4 &&& 31)) &&& 1) = 1 then v2 else 10 - v2 : Int32), .inl v3] w Q := by
        refine pm_go (i2 := 4) (ls2 := [some (.inr (.inr (18, 0))), some (.inl v1), some (.inl v2), some (.inl (v3 * (if ((v1 >>> (v4 &&& 31)) &&& 1) = 1 then v2 else 10 - v2 : Int32))), some (.inl (v4 + 1))]) (st2 := []) (w2 := w) 4 (fun F h => h) ?_
        exact ih v1 v2 (v3 * (if ((v1 >>> (v4 &&& 31)) &&& 1) = 1 then v2 else 10 - v2 : Int32)) (v4 + 1) _ hf hk
      clear hf
      refine pm_if (P := ((v1 >>> (v4 &&& 31)) &&& 1) = 1) (i2 := 17) (i3 := 19) (ls2 := [some (.inr (.inr (18, 0))), some (.inl v1), some (.inl v2), some (.inl v3), some (.inl v4)]) (st2 := [.inl v3]) (w2 := w) 1 (fun F h => h) (fun hc2 => ?_) (fun hc2 => ?_)
      · try simp only [if_pos hc2] at key
        refine pm_go (i2 := 22) (ls2 := [some (.inr (.inr (18, 0))), some (.inl v1), some (.inl v2), some (.inl v3), some (.inl v4)]) (st2 := [.inl v2, .inl v3]) (w2 := w) 2 (fun F h => h) ?_
        exact key
      · try simp only [if_neg hc2] at key
        refine pm_go (i2 := 22) (ls2 := [some (.inr (.inr (18, 0))), some (.inl v1), some (.inl v2), some (.inl v3), some (.inl v4)]) (st2 := [.inl (10 - v2), .inl v3]) (w2 := w) 3 (fun F h => h) ?_
        exact key
set_option maxRecDepth 20000 in
set_option maxHeartbeats 4000000 in
theorem b_X1_weightOf (F : Nat) (d : Nat) (hd : 0 ≤ d) (Q : pm_Q) (w : pm_W) (a1 : Int32) (a2 : Int32) (x : Int32) (hf : f_X1_weightOf F w a1 a2 = some x) (hq : Q (some (.inl x)) w) : pm_Gx (RT d) co_X1_weightOf 0 [some (.inr (.inr (18, 0))), some (.inl a1), some (.inl a2), none, none] [] w Q := by
  unfold f_X1_weightOf at hf
  refine pm_go (i2 := 4) (ls2 := [some (.inr (.inr (18, 0))), some (.inl a1), some (.inl a2), some (.inl 1), some (.inl 0)]) (st2 := []) (w2 := w) 4 (fun F h => h) ?_
  obtain ⟨x3, hx4, hf⟩ := Option.bind_eq_some_iff.mp hf
  refine a_X1_weightOf_L4 F d hd Q w F a1 a2 1 0 x3 hx4 ?_
  refine pm_go (i2 := 27) (ls2 := [some (.inr (.inr (18, 0))), some (.inl a1), some (.inl a2), some (.inl x3.1), some (.inl x3.2)]) (st2 := [.inl x3.1]) (w2 := w) 1 (fun F h => h) ?_
  obtain rfl := Option.some.inj hf
  exact pm_re (r := some (.inl x3.1)) (w2 := w) 1 (fun F h => h) hq
set_option maxRecDepth 20000 in
set_option maxHeartbeats 4000000 in
theorem a_X1_weightOf (F : Nat) (w : pm_W) (a1 : Int32) (a2 : Int32) (x : Int32) (d : Nat) (hd : 1 ≤ d) (hf : f_X1_weightOf F w a1 a2 = some x) : RT d 8 [.inr (.inr (18, 0)), .inl a1, .inl a2] w (some (.inl x)) w := by
  obtain ⟨d, rfl, hd2⟩ := pm_dep hd
  exact pm_start (co := co_X1_weightOf) (nL := 5) (by decide) rfl rfl (Nat.le_of_ble_eq_true rfl) (b_X1_weightOf F d hd2 _ w a1 a2 x hf ⟨rfl, rfl⟩)
def f_X1_chanceOfLength_L4 (F : Nat) : Nat → pm_W → Nat → Int32 → Int32 → Int32 → Int32 → Int32 → Option (Int32 × Int32 × pm_W)
  | 0, _, _, _, _, _, _, _ => none
  | n + 1, w, v1, v2, v3, v4, v5, v6 => ((f_X5_everybody F w).bind fun r1 => (if r1 < v6 then some (v5, v6, w) else ((f_X1_lengthBy F w v1 v6).bind fun r4 => (if r4.1 < v3 then f_X1_chanceOfLength_L4 F n r4.2 v1 v2 v3 v4 v5 (v6 + 1) else ((f_X1_weightOf F r4.2 v6 v2).bind fun r7 => f_X1_chanceOfLength_L4 F n r4.2 v1 v2 v3 v4 (v5 + r7) (v6 + 1))))))
def f_X1_chanceOfLength (F : Nat) (w : pm_W) (a1 : Nat) (a2 : Int32) (a3 : Int32) (a4 : Int32) : Option ((Int32 × pm_W)) := ((f_X1_chanceOfLength_L4 F F w a1 a2 a3 a4 0 0).bind fun x9 => ((f_J9_min F x9.2.2 (x9.2.2.1 3 0 3) 5).bind fun r11 => (if pm_inb r11 7 = true then ((f_X1_leastTerms F x9.2.2 x9.1 (pm_st 37 r11.toNatClampNeg) a4).bind fun r14 => some (r14, x9.2.2)) else none)))
set_option maxRecDepth 20000 in
set_option maxHeartbeats 4000000 in
theorem a_X1_chanceOfLength_L4 (F : Nat) (d : Nat) (hd : 4 ≤ d) (Q : pm_Q) : ∀ (n : Nat) (w : pm_W) (v1 : Nat) (v2 : Int32) (v3 : Int32) (v4 : Int32) (v5 : Int32) (v6 : Int32) (x : Int32 × Int32 × pm_W), f_X1_chanceOfLength_L4 F n w v1 v2 v3 v4 v5 v6 = some x → pm_Gx (RT d) co_X1_chanceOfLength 24 [some (.inr (.inr (18, 0))), some (.inr (.inr (7, v1))), some (.inl v2), some (.inl v3), some (.inl v4), some (.inl x.1), some (.inl x.2.1)] [] x.2.2 Q → pm_Gx (RT d) co_X1_chanceOfLength 4 [some (.inr (.inr (18, 0))), some (.inr (.inr (7, v1))), some (.inl v2), some (.inl v3), some (.inl v4), some (.inl v5), some (.inl v6)] [] w Q := by
  intro n
  induction n with
  | zero =>
    intro w v1 v2 v3 v4 v5 v6 x hf
    cases hf
  | succ n ih =>
    intro w v1 v2 v3 v4 v5 v6 x hf hk
    rw [f_X1_chanceOfLength_L4] at hf
    refine pm_go (i2 := 7) (ls2 := [some (.inr (.inr (18, 0))), some (.inr (.inr (7, v1))), some (.inl v2), some (.inl v3), some (.inl v4), some (.inl v5), some (.inl v6)]) (st2 := [.inr (.inr (3, 0)), .inl v6]) (w2 := w) 3 (fun F h => h) ?_
    obtain ⟨r1, hr2, hf⟩ := Option.bind_eq_some_iff.mp hf
    refine pm_ca (y := 31) (as := [.inr (.inr (3, 0))]) (r := some (.inl r1)) (w2 := w) (w1 := w) (t := [.inl v6]) (i2 := 8) (ls2 := [some (.inr (.inr (18, 0))), some (.inr (.inr (7, v1))), some (.inl v2), some (.inl v3), some (.inl v4), some (.inl v5), some (.inl v6)]) 1 (a_X5_everybody F w r1 d (by omega) hr2) (fun F h => h) ?_
    show pm_Gx (RT d) co_X1_chanceOfLength 8 [some (.inr (.inr (18, 0))), some (.inr (.inr (7, v1))), some (.inl v2), some (.inl v3), some (.inl v4), some (.inl v5), some (.inl v6)] [.inl r1, .inl v6] w Q
    refine pm_if (P := r1 < v6) (i2 := 24) (i3 := 9) (ls2 := [some (.inr (.inr (18, 0))), some (.inr (.inr (7, v1))), some (.inl v2), some (.inl v3), some (.inl v4), some (.inl v5), some (.inl v6)]) (st2 := []) (w2 := w) 1 (fun F h => h) (fun hc3 => ?_) (fun hc3 => ?_)
    · rw [if_pos hc3] at hf
      obtain rfl := Option.some.inj hf
      exact hk
    · rw [if_neg hc3] at hf
      refine pm_go (i2 := 12) (ls2 := [some (.inr (.inr (18, 0))), some (.inr (.inr (7, v1))), some (.inl v2), some (.inl v3), some (.inl v4), some (.inl v5), some (.inl v6)]) (st2 := [.inl v6, .inr (.inr (7, v1)), .inr (.inr (18, 0))]) (w2 := w) 3 (fun F h => h) ?_
      obtain ⟨r4, hr5, hf⟩ := Option.bind_eq_some_iff.mp hf
      refine pm_ca (y := 7) (as := [.inr (.inr (18, 0)), .inr (.inr (7, v1)), .inl v6]) (r := some (.inl r4.1)) (w2 := w) (w1 := r4.2) (t := []) (i2 := 13) (ls2 := [some (.inr (.inr (18, 0))), some (.inr (.inr (7, v1))), some (.inl v2), some (.inl v3), some (.inl v4), some (.inl v5), some (.inl v6)]) 1 (a_X1_lengthBy F w v1 v6 r4 d (by omega) hr5) (fun F h => h) ?_
      show pm_Gx (RT d) co_X1_chanceOfLength 13 [some (.inr (.inr (18, 0))), some (.inr (.inr (7, v1))), some (.inl v2), some (.inl v3), some (.inl v4), some (.inl v5), some (.inl v6)] [.inl r4.1] r4.2 Q
      refine pm_go (i2 := 14) (ls2 := [some (.inr (.inr (18, 0))), some (.inr (.inr (7, v1))), some (.inl v2), some (.inl v3), some (.inl v4), some (.inl v5), some (.inl v6)]) (st2 := [.inl v3, .inl r4.1]) (w2 := r4.2) 1 (fun F h => h) ?_
      refine pm_if (P := r4.1 < v3) (i2 := 22) (i3 := 15) (ls2 := [some (.inr (.inr (18, 0))), some (.inr (.inr (7, v1))), some (.inl v2), some (.inl v3), some (.inl v4), some (.inl v5), some (.inl v6)]) (st2 := []) (w2 := r4.2) 1 (fun F h => h) (fun hc6 => ?_) (fun hc6 => ?_)
      · rw [if_pos hc6] at hf
        refine pm_go (i2 := 4) (ls2 := [some (.inr (.inr (18, 0))), some (.inr (.inr (7, v1))), some (.inl v2), some (.inl v3), some (.inl v4), some (.inl v5), some (.inl (v6 + 1))]) (st2 := []) (w2 := r4.2) 2 (fun F h => h) ?_
        exact ih r4.2 v1 v2 v3 v4 v5 (v6 + 1) _ hf hk
      · rw [if_neg hc6] at hf
        refine pm_go (i2 := 19) (ls2 := [some (.inr (.inr (18, 0))), some (.inr (.inr (7, v1))), some (.inl v2), some (.inl v3), some (.inl v4), some (.inl v5), some (.inl v6)]) (st2 := [.inl v2, .inl v6, .inr (.inr (18, 0)), .inl v5]) (w2 := r4.2) 4 (fun F h => h) ?_
        obtain ⟨r7, hr8, hf⟩ := Option.bind_eq_some_iff.mp hf
        refine pm_ca (y := 8) (as := [.inr (.inr (18, 0)), .inl v6, .inl v2]) (r := some (.inl r7)) (w2 := r4.2) (w1 := r4.2) (t := [.inl v5]) (i2 := 20) (ls2 := [some (.inr (.inr (18, 0))), some (.inr (.inr (7, v1))), some (.inl v2), some (.inl v3), some (.inl v4), some (.inl v5), some (.inl v6)]) 1 (a_X1_weightOf F r4.2 v6 v2 r7 d (by omega) hr8) (fun F h => h) ?_
        show pm_Gx (RT d) co_X1_chanceOfLength 20 [some (.inr (.inr (18, 0))), some (.inr (.inr (7, v1))), some (.inl v2), some (.inl v3), some (.inl v4), some (.inl v5), some (.inl v6)] [.inl r7, .inl v5] r4.2 Q
        refine pm_go (i2 := 4) (ls2 := [some (.inr (.inr (18, 0))), some (.inr (.inr (7, v1))), some (.inl v2), some (.inl v3), some (.inl v4), some (.inl (v5 + r7)), some (.inl (v6 + 1))]) (st2 := []) (w2 := r4.2) 4 (fun F h => h) ?_
        exact ih r4.2 v1 v2 v3 v4 (v5 + r7) (v6 + 1) _ hf hk
set_option maxRecDepth 20000 in
set_option maxHeartbeats 4000000 in
theorem b_X1_chanceOfLength (F : Nat) (d : Nat) (hd : 4 ≤ d) (Q : pm_Q) (w : pm_W) (a1 : Nat) (a2 : Int32) (a3 : Int32) (a4 : Int32) (x : (Int32 × pm_W)) (hf : f_X1_chanceOfLength F w a1 a2 a3 a4 = some x) (hq : Q (some (.inl x.1)) x.2) : pm_Gx (RT d) co_X1_chanceOfLength 0 [some (.inr (.inr (18, 0))), some (.inr (.inr (7, a1))), some (.inl a2), some (.inl a3), some (.inl a4), none, none] [] w Q := by
  unfold f_X1_chanceOfLength at hf
  refine pm_go (i2 := 4) (ls2 := [some (.inr (.inr (18, 0))), some (.inr (.inr (7, a1))), some (.inl a2), some (.inl a3), some (.inl a4), some (.inl 0), some (.inl 0)]) (st2 := []) (w2 := w) 4 (fun F h => h) ?_
  obtain ⟨x9, hx10, hf⟩ := Option.bind_eq_some_iff.mp hf
  refine a_X1_chanceOfLength_L4 F d hd Q F w a1 a2 a3 a4 0 0 x9 hx10 ?_
  refine pm_go (i2 := 30) (ls2 := [some (.inr (.inr (18, 0))), some (.inr (.inr (7, a1))), some (.inl a2), some (.inl a3), some (.inl a4), some (.inl x9.1), some (.inl x9.2.1)]) (st2 := [.inl 5, .inl (x9.2.2.1 3 0 3), .inr (.inr (37, 0)), .inl x9.1]) (w2 := x9.2.2) 6 (fun F h => h) ?_
  obtain ⟨r11, hr12, hf⟩ := Option.bind_eq_some_iff.mp hf
  refine pm_ca (y := 155) (as := [.inl (x9.2.2.1 3 0 3), .inl 5]) (r := some (.inl r11)) (w2 := x9.2.2) (w1 := x9.2.2) (t := [.inr (.inr (37, 0)), .inl x9.1]) (i2 := 31) (ls2 := [some (.inr (.inr (18, 0))), some (.inr (.inr (7, a1))), some (.inl a2), some (.inl a3), some (.inl a4), some (.inl x9.1), some (.inl x9.2.1)]) 1 (a_J9_min F x9.2.2 (x9.2.2.1 3 0 3) 5 r11 d (by omega) hr12) (fun F h => h) ?_
  show pm_Gx (RT d) co_X1_chanceOfLength 31 [some (.inr (.inr (18, 0))), some (.inr (.inr (7, a1))), some (.inl a2), some (.inl a3), some (.inl a4), some (.inl x9.1), some (.inl x9.2.1)] [.inl r11, .inr (.inr (37, 0)), .inl x9.1] x9.2.2 Q
  obtain ⟨hs13, hf⟩ := pm_itn hf
  refine pm_go (i2 := 33) (ls2 := [some (.inr (.inr (18, 0))), some (.inr (.inr (7, a1))), some (.inl a2), some (.inl a3), some (.inl a4), some (.inl x9.1), some (.inl x9.2.1)]) (st2 := [.inl a4, .inl (pm_st 37 r11.toNatClampNeg), .inl x9.1]) (w2 := x9.2.2) 2 (fun F h => ⟨(pm_inb_in hs13), h⟩) ?_
  obtain ⟨r14, hr15, hf⟩ := Option.bind_eq_some_iff.mp hf
  refine pm_ca (y := 9) (as := [.inl x9.1, .inl (pm_st 37 r11.toNatClampNeg), .inl a4]) (r := some (.inl r14)) (w2 := x9.2.2) (w1 := x9.2.2) (t := []) (i2 := 34) (ls2 := [some (.inr (.inr (18, 0))), some (.inr (.inr (7, a1))), some (.inl a2), some (.inl a3), some (.inl a4), some (.inl x9.1), some (.inl x9.2.1)]) 1 (a_X1_leastTerms F x9.2.2 x9.1 (pm_st 37 r11.toNatClampNeg) a4 r14 d (by omega) hr15) (fun F h => h) ?_
  show pm_Gx (RT d) co_X1_chanceOfLength 34 [some (.inr (.inr (18, 0))), some (.inr (.inr (7, a1))), some (.inl a2), some (.inl a3), some (.inl a4), some (.inl x9.1), some (.inl x9.2.1)] [.inl r14] x9.2.2 Q
  obtain rfl := Option.some.inj hf
  exact pm_re (r := some (.inl r14)) (w2 := x9.2.2) 1 (fun F h => h) hq
set_option maxRecDepth 20000 in
set_option maxHeartbeats 4000000 in
theorem a_X1_chanceOfLength (F : Nat) (w : pm_W) (a1 : Nat) (a2 : Int32) (a3 : Int32) (a4 : Int32) (x : (Int32 × pm_W)) (d : Nat) (hd : 5 ≤ d) (hf : f_X1_chanceOfLength F w a1 a2 a3 a4 = some x) : RT d 6 [.inr (.inr (18, 0)), .inr (.inr (7, a1)), .inl a2, .inl a3, .inl a4] w (some (.inl x.1)) x.2 := by
  obtain ⟨d, rfl, hd2⟩ := pm_dep hd
  exact pm_start (co := co_X1_chanceOfLength) (nL := 7) (by decide) rfl rfl (Nat.le_of_ble_eq_true rfl) (b_X1_chanceOfLength F d hd2 _ w a1 a2 a3 a4 x hf ⟨rfl, rfl⟩)
def f_X2_append (F : Nat) (w : pm_W) (a1 : Int32) (a2 : Int32) : Option ((Int32 × pm_W)) := (if (w.1 13 0 2) < 0 then some (0, w) else (if (w.1 13 0 2) < 6 then (if pm_inb (w.1 13 0 2) 6 = true then (pm_wlet (pm_setI w 14 0 ((w.1 13 0 2).toNatClampNeg) a1) fun w4 => (if pm_inb (w4.1 13 0 2) 6 = true then (pm_wlet (pm_setI w4 15 0 ((w4.1 13 0 2).toNatClampNeg) a2) fun w6 => (pm_wlet (pm_setI w6 13 0 2 ((w6.1 13 0 2) + 1)) fun w7 => some (1, w7))) else none)) else none) else some (0, w)))
set_option maxRecDepth 20000 in
set_option maxHeartbeats 4000000 in
theorem b_X2_append (F : Nat) (d : Nat) (hd : 0 ≤ d) (Q : pm_Q) (w : pm_W) (a1 : Int32) (a2 : Int32) (x : (Int32 × pm_W)) (hf : f_X2_append F w a1 a2 = some x) (hq : Q (some (.inl x.1)) x.2) : pm_Gx (RT d) co_X2_append 0 [some (.inr (.inr (13, 0))), some (.inl a1), some (.inl a2)] [] w Q := by
  unfold f_X2_append at hf
  refine pm_go (i2 := 2) (ls2 := [some (.inr (.inr (13, 0))), some (.inl a1), some (.inl a2)]) (st2 := [.inl (w.1 13 0 2)]) (w2 := w) 2 (fun F h => h) ?_
  refine pm_if (P := (w.1 13 0 2) < 0) (i2 := 7) (i3 := 3) (ls2 := [some (.inr (.inr (13, 0))), some (.inl a1), some (.inl a2)]) (st2 := []) (w2 := w) 1 (fun F h => h) (fun hc1 => ?_) (fun hc1 => ?_)
  · rw [if_pos hc1] at hf
    refine pm_go (i2 := 8) (ls2 := [some (.inr (.inr (13, 0))), some (.inl a1), some (.inl a2)]) (st2 := [.inl 0]) (w2 := w) 1 (fun F h => h) ?_
    obtain rfl := Option.some.inj hf
    exact pm_re (r := some (.inl 0)) (w2 := w) 1 (fun F h => ⟨rfl, h⟩) hq
  · rw [if_neg hc1] at hf
    refine pm_go (i2 := 6) (ls2 := [some (.inr (.inr (13, 0))), some (.inl a1), some (.inl a2)]) (st2 := [.inl 6, .inl (w.1 13 0 2)]) (w2 := w) 3 (fun F h => h) ?_
    refine pm_if (P := (w.1 13 0 2) < 6) (i2 := 9) (i3 := 7) (ls2 := [some (.inr (.inr (13, 0))), some (.inl a1), some (.inl a2)]) (st2 := []) (w2 := w) 1 (fun F h => h) (fun hc2 => ?_) (fun hc2 => ?_)
    · rw [if_pos hc2] at hf
      obtain ⟨hs3, hf⟩ := pm_itn hf
      refine pm_go (i2 := 15) (ls2 := [some (.inr (.inr (13, 0))), some (.inl a1), some (.inl a2)]) (st2 := []) (w2 := (pm_setI w 14 0 ((w.1 13 0 2).toNatClampNeg) a1)) 6 (fun F h => ⟨(pm_inb_in hs3), h⟩) ?_
      generalize (pm_setI w 14 0 ((w.1 13 0 2).toNatClampNeg) a1) = w4 at hf ⊢
      replace hf := pm_wlet_un hf
      obtain ⟨hs5, hf⟩ := pm_itn hf
      refine pm_go (i2 := 21) (ls2 := [some (.inr (.inr (13, 0))), some (.inl a1), some (.inl a2)]) (st2 := []) (w2 := (pm_setI w4 15 0 ((w4.1 13 0 2).toNatClampNeg) a2)) 6 (fun F h => ⟨(pm_inb_in hs5), h⟩) ?_
      generalize (pm_setI w4 15 0 ((w4.1 13 0 2).toNatClampNeg) a2) = w6 at hf ⊢
      replace hf := pm_wlet_un hf
      refine pm_go (i2 := 27) (ls2 := [some (.inr (.inr (13, 0))), some (.inl a1), some (.inl a2)]) (st2 := []) (w2 := (pm_setI w6 13 0 2 ((w6.1 13 0 2) + 1))) 6 (fun F h => h) ?_
      generalize (pm_setI w6 13 0 2 ((w6.1 13 0 2) + 1)) = w7 at hf ⊢
      replace hf := pm_wlet_un hf
      refine pm_go (i2 := 28) (ls2 := [some (.inr (.inr (13, 0))), some (.inl a1), some (.inl a2)]) (st2 := [.inl 1]) (w2 := w7) 1 (fun F h => h) ?_
      obtain rfl := Option.some.inj hf
      exact pm_re (r := some (.inl 1)) (w2 := w7) 1 (fun F h => ⟨rfl, h⟩) hq
    · rw [if_neg hc2] at hf
      refine pm_go (i2 := 8) (ls2 := [some (.inr (.inr (13, 0))), some (.inl a1), some (.inl a2)]) (st2 := [.inl 0]) (w2 := w) 1 (fun F h => h) ?_
      obtain rfl := Option.some.inj hf
      exact pm_re (r := some (.inl 0)) (w2 := w) 1 (fun F h => ⟨rfl, h⟩) hq
set_option maxRecDepth 20000 in
set_option maxHeartbeats 4000000 in
theorem a_X2_append (F : Nat) (w : pm_W) (a1 : Int32) (a2 : Int32) (x : (Int32 × pm_W)) (d : Nat) (hd : 1 ≤ d) (hf : f_X2_append F w a1 a2 = some x) : RT d 11 [.inr (.inr (13, 0)), .inl a1, .inl a2] w (some (.inl x.1)) x.2 := by
  obtain ⟨d, rfl, hd2⟩ := pm_dep hd
  exact pm_start (co := co_X2_append) (nL := 3) (by decide) rfl rfl (Nat.le_of_ble_eq_true rfl) (b_X2_append F d hd2 _ w a1 a2 x hf ⟨rfl, rfl⟩)
def f_X2_figuresOfLaw_L6 (F : Nat) (w : pm_W) : Nat → Int32 → Int32 → Int32 → Int32 → Option (Int32 × Int32 × Int32)
  | 0, _, _, _, _ => none
  | n + 1, v0, v1, v2, v3 => (if 4 ≤ v3 then some (v1, v2, v3) else (if pm_inb v3 7 = true then f_X2_figuresOfLaw_L6 F w n v0 (v1 + ((v2 - v2 / 4 * 4) * (pm_st 37 v3.toNatClampNeg))) (v2 / 4) (v3 + 1) else none))
def f_X2_figuresOfLaw (F : Nat) (w : pm_W) (a0 : Int32) : Option (Int32) := ((f_X2_figuresOfLaw_L6 F w F a0 0 a0 0).bind fun x3 => some x3.1)
set_option maxRecDepth 20000 in
set_option maxHeartbeats 4000000 in
theorem a_X2_figuresOfLaw_L6 (F : Nat) (d : Nat) (hd : 0 ≤ d) (Q : pm_Q) (w : pm_W) : ∀ (n : Nat) (v0 : Int32) (v1 : Int32) (v2 : Int32) (v3 : Int32) (x : Int32 × Int32 × Int32), f_X2_figuresOfLaw_L6 F w n v0 v1 v2 v3 = some x → pm_Gx (RT d) co_X2_figuresOfLaw 25 [some (.inl v0), some (.inl x.1), some (.inl x.2.1), some (.inl x.2.2)] [] w Q → pm_Gx (RT d) co_X2_figuresOfLaw 6 [some (.inl v0), some (.inl v1), some (.inl v2), some (.inl v3)] [] w Q := by
  intro n
  induction n with
  | zero =>
    intro v0 v1 v2 v3 x hf
    cases hf
  | succ n ih =>
    intro v0 v1 v2 v3 x hf hk
    rw [f_X2_figuresOfLaw_L6] at hf
    refine pm_go (i2 := 8) (ls2 := [some (.inl v0), some (.inl v1), some (.inl v2), some (.inl v3)]) (st2 := [.inl 4, .inl v3]) (w2 := w) 2 (fun F h => h) ?_
    refine pm_if (P := 4 ≤ v3) (i2 := 25) (i3 := 9) (ls2 := [some (.inl v0), some (.inl v1), some (.inl v2), some (.inl v3)]) (st2 := []) (w2 := w) 1 (fun F h => h) (fun hc1 => ?_) (fun hc1 => ?_)
    · rw [if_pos hc1] at hf
      obtain rfl := Option.some.inj hf
      exact hk
    · rw [if_neg hc1] at hf
      obtain ⟨hs2, hf⟩ := pm_itn hf
      refine pm_go (i2 := 6) (ls2 := [some (.inl v0), some (.inl (v1 + ((v2 - v2 / 4 * 4) * (pm_st 37 v3.toNatClampNeg)))), some (.inl (v2 / 4)), some (.inl (v3 + 1))]) (st2 := []) (w2 := w) 16 (fun F h => ⟨(by decide), (pm_inb_in hs2), (by decide), h⟩) ?_
      exact ih v0 (v1 + ((v2 - v2 / 4 * 4) * (pm_st 37 v3.toNatClampNeg))) (v2 / 4) (v3 + 1) _ hf hk
set_option maxRecDepth 20000 in
set_option maxHeartbeats 4000000 in
theorem b_X2_figuresOfLaw (F : Nat) (d : Nat) (hd : 0 ≤ d) (Q : pm_Q) (w : pm_W) (a0 : Int32) (x : Int32) (hf : f_X2_figuresOfLaw F w a0 = some x) (hq : Q (some (.inl x)) w) : pm_Gx (RT d) co_X2_figuresOfLaw 0 [some (.inl a0), none, none, none] [] w Q := by
  unfold f_X2_figuresOfLaw at hf
  refine pm_go (i2 := 6) (ls2 := [some (.inl a0), some (.inl 0), some (.inl a0), some (.inl 0)]) (st2 := []) (w2 := w) 6 (fun F h => h) ?_
  obtain ⟨x3, hx4, hf⟩ := Option.bind_eq_some_iff.mp hf
  refine a_X2_figuresOfLaw_L6 F d hd Q w F a0 0 a0 0 x3 hx4 ?_
  refine pm_go (i2 := 26) (ls2 := [some (.inl a0), some (.inl x3.1), some (.inl x3.2.1), some (.inl x3.2.2)]) (st2 := [.inl x3.1]) (w2 := w) 1 (fun F h => h) ?_
  obtain rfl := Option.some.inj hf
  exact pm_re (r := some (.inl x3.1)) (w2 := w) 1 (fun F h => h) hq
set_option maxRecDepth 20000 in
set_option maxHeartbeats 4000000 in
theorem a_X2_figuresOfLaw (F : Nat) (w : pm_W) (a0 : Int32) (x : Int32) (d : Nat) (hd : 1 ≤ d) (hf : f_X2_figuresOfLaw F w a0 = some x) : RT d 14 [.inl a0] w (some (.inl x)) w := by
  obtain ⟨d, rfl, hd2⟩ := pm_dep hd
  exact pm_start (co := co_X2_figuresOfLaw) (nL := 4) (by decide) rfl rfl (Nat.le_of_ble_eq_true rfl) (b_X2_figuresOfLaw F d hd2 _ w a0 x hf ⟨rfl, rfl⟩)
def f_X7_figureAt (F : Nat) (w : pm_W) (a0 : Int32) (a1 : Int32) (a2 : Int32) : Option (Int32) := (if ((a0 - 1) - a2) < 0 then some 0 else (if ((a0 - 1) - a2) ≤ 6 then (if pm_inb ((a0 - 1) - a2) 7 = true then (if pm_nz (pm_st 37 (((a0 - 1) - a2).toNatClampNeg)) = true then some ((a1 / (pm_st 37 (((a0 - 1) - a2).toNatClampNeg))) - (a1 / (pm_st 37 (((a0 - 1) - a2).toNatClampNeg))) / 10 * 10) else none) else none) else some 0))
set_option maxRecDepth 20000 in
set_option maxHeartbeats 4000000 in
theorem b_X7_figureAt (F : Nat) (d : Nat) (hd : 0 ≤ d) (Q : pm_Q) (w : pm_W) (a0 : Int32) (a1 : Int32) (a2 : Int32) (x : Int32) (hf : f_X7_figureAt F w a0 a1 a2 = some x) (hq : Q (some (.inl x)) w) : pm_Gx (RT d) co_X7_figureAt 0 [some (.inl a0), some (.inl a1), some (.inl a2), none] [] w Q := by
  unfold f_X7_figureAt at hf
  refine pm_go (i2 := 7) (ls2 := [some (.inl a0), some (.inl a1), some (.inl a2), some (.inl ((a0 - 1) - a2))]) (st2 := [.inl ((a0 - 1) - a2)]) (w2 := w) 7 (fun F h => h) ?_
  refine pm_if (P := ((a0 - 1) - a2) < 0) (i2 := 11) (i3 := 8) (ls2 := [some (.inl a0), some (.inl a1), some (.inl a2), some (.inl ((a0 - 1) - a2))]) (st2 := []) (w2 := w) 1 (fun F h => h) (fun hc1 => ?_) (fun hc1 => ?_)
  · rw [if_pos hc1] at hf
    refine pm_go (i2 := 20) (ls2 := [some (.inl a0), some (.inl a1), some (.inl a2), some (.inl ((a0 - 1) - a2))]) (st2 := [.inl 0]) (w2 := w) 2 (fun F h => h) ?_
    obtain rfl := Option.some.inj hf
    exact pm_re (r := some (.inl 0)) (w2 := w) 1 (fun F h => h) hq
  · rw [if_neg hc1] at hf
    refine pm_go (i2 := 10) (ls2 := [some (.inl a0), some (.inl a1), some (.inl a2), some (.inl ((a0 - 1) - a2))]) (st2 := [.inl 6, .inl ((a0 - 1) - a2)]) (w2 := w) 2 (fun F h => h) ?_
    refine pm_if (P := ((a0 - 1) - a2) ≤ 6) (i2 := 13) (i3 := 11) (ls2 := [some (.inl a0), some (.inl a1), some (.inl a2), some (.inl ((a0 - 1) - a2))]) (st2 := []) (w2 := w) 1 (fun F h => h) (fun hc2 => ?_) (fun hc2 => ?_)
    · rw [if_pos hc2] at hf
      obtain ⟨hs3, hf⟩ := pm_itn hf
      obtain ⟨hs4, hf⟩ := pm_itn hf
      refine pm_go (i2 := 20) (ls2 := [some (.inl a0), some (.inl a1), some (.inl a2), some (.inl ((a0 - 1) - a2))]) (st2 := [.inl ((a1 / (pm_st 37 (((a0 - 1) - a2).toNatClampNeg))) - (a1 / (pm_st 37 (((a0 - 1) - a2).toNatClampNeg))) / 10 * 10)]) (w2 := w) 7 (fun F h => ⟨(pm_inb_in hs3), (pm_nz_ne hs4), (by decide), h⟩) ?_
      obtain rfl := Option.some.inj hf
      exact pm_re (r := some (.inl ((a1 / (pm_st 37 (((a0 - 1) - a2).toNatClampNeg))) - (a1 / (pm_st 37 (((a0 - 1) - a2).toNatClampNeg))) / 10 * 10))) (w2 := w) 1 (fun F h => h) hq
    · rw [if_neg hc2] at hf
      refine pm_go (i2 := 20) (ls2 := [some (.inl a0), some (.inl a1), some (.inl a2), some (.inl ((a0 - 1) - a2))]) (st2 := [.inl 0]) (w2 := w) 2 (fun F h => h) ?_
      obtain rfl := Option.some.inj hf
      exact pm_re (r := some (.inl 0)) (w2 := w) 1 (fun F h => h) hq
set_option maxRecDepth 20000 in
set_option maxHeartbeats 4000000 in
theorem a_X7_figureAt (F : Nat) (w : pm_W) (a0 : Int32) (a1 : Int32) (a2 : Int32) (x : Int32) (d : Nat) (hd : 1 ≤ d) (hf : f_X7_figureAt F w a0 a1 a2 = some x) : RT d 85 [.inl a0, .inl a1, .inl a2] w (some (.inl x)) w := by
  obtain ⟨d, rfl, hd2⟩ := pm_dep hd
  exact pm_start (co := co_X7_figureAt) (nL := 4) (by decide) rfl rfl (Nat.le_of_ble_eq_true rfl) (b_X7_figureAt F d hd2 _ w a0 a1 a2 x hf ⟨rfl, rfl⟩)
def f_X2_holds_L10 (F : Nat) (w : pm_W) : Nat → Int32 → Int32 → Int32 → Int32 → Option (Int32 × Int32)
  | 0, _, _, _, _ => none
  | n + 1, v1, v2, v3, v4 => (if 4 ≤ v4 then some (v3, v4) else ((f_X7_figureAt F w 4 v1 v4).bind fun r3 => (if pm_inb v2 6 = true then ((f_X7_figureAt F w 4 (w.1 14 0 v2.toNatClampNeg) v4).bind fun r6 => f_X2_holds_L10 F w n v1 v2 (v3 + (r6 * (r3 + (-1)))) (v4 + 1)) else none)))
def f_X2_holds_L2 (F : Nat) (w : pm_W) : Nat → Int32 → Int32 → Option ((Int32) ⊕ Int32)
  | 0, _, _ => none
  | n + 1, v1, v2 => (if (w.1 13 0 2) ≤ v2 then some (.inl v2) else ((f_X2_holds_L10 F w F v1 v2 0 0).bind fun x8 => (if pm_inb v2 6 = true then (if x8.1 = (w.1 15 0 v2.toNatClampNeg) then f_X2_holds_L2 F w n v1 (v2 + 1) else some (.inr 0)) else none)))
def f_X2_holds (F : Nat) (w : pm_W) (a1 : Int32) : Option (Int32) := ((f_X2_holds_L2 F w F a1 0).bind fun x12 => Sum.elim (fun ex12 => some 1) (fun rx12 => some rx12) x12)
set_option maxRecDepth 20000 in
set_option maxHeartbeats 4000000 in
theorem a_X2_holds_L10 (F : Nat) (d : Nat) (hd : 1 ≤ d) (Q : pm_Q) (w : pm_W) : ∀ (n : Nat) (v1 : Int32) (v2 : Int32) (v3 : Int32) (v4 : Int32) (x : Int32 × Int32), f_X2_holds_L10 F w n v1 v2 v3 v4 = some x → pm_Gx (RT d) co_X2_holds 34 [some (.inr (.inr (13, 0))), some (.inl v1), some (.inl v2), some (.inl x.1), some (.inl x.2), none] [] w Q → pm_Gx (RT d) co_X2_holds 10 [some (.inr (.inr (13, 0))), some (.inl v1), some (.inl v2), some (.inl v3), some (.inl v4), none] [] w Q := by
  intro n
  induction n with
  | zero =>
    intro v1 v2 v3 v4 x hf
    cases hf
  | succ n ih =>
    intro v1 v2 v3 v4 x hf hk
    rw [f_X2_holds_L10] at hf
    refine pm_go (i2 := 12) (ls2 := [some (.inr (.inr (13, 0))), some (.inl v1), some (.inl v2), some (.inl v3), some (.inl v4), none]) (st2 := [.inl 4, .inl v4]) (w2 := w) 2 (fun F h => h) ?_
    refine pm_if (P := 4 ≤ v4) (i2 := 34) (i3 := 13) (ls2 := [some (.inr (.inr (13, 0))), some (.inl v1), some (.inl v2), some (.inl v3), some (.inl v4), none]) (st2 := []) (w2 := w) 1 (fun F h => h) (fun hc2 => ?_) (fun hc2 => ?_)
    · rw [if_pos hc2] at hf
      obtain rfl := Option.some.inj hf
      exact hk
    · rw [if_neg hc2] at hf
      refine pm_go (i2 := 16) (ls2 := [some (.inr (.inr (13, 0))), some (.inl v1), some (.inl v2), some (.inl v3), some (.inl v4), none]) (st2 := [.inl v4, .inl v1, .inl 4]) (w2 := w) 3 (fun F h => h) ?_
      obtain ⟨r3, hr4, hf⟩ := Option.bind_eq_some_iff.mp hf
      refine pm_ca (y := 85) (as := [.inl 4, .inl v1, .inl v4]) (r := some (.inl r3)) (w2 := w) (w1 := w) (t := []) (i2 := 17) (ls2 := [some (.inr (.inr (13, 0))), some (.inl v1), some (.inl v2), some (.inl v3), some (.inl v4), none]) 1 (a_X7_figureAt F w 4 v1 v4 r3 d (by omega) hr4) (fun F h => h) ?_
      show pm_Gx (RT d) co_X2_holds 17 [some (.inr (.inr (13, 0))), some (.inl v1), some (.inl v2), some (.inl v3), some (.inl v4), none] [.inl r3] w Q
      obtain ⟨hs5, hf⟩ := pm_itn hf
      refine pm_go (i2 := 27) (ls2 := [some (.inr (.inr (13, 0))), some (.inl v1), some (.inl v2), some (.inl v3), some (.inl v4), some (.inl (r3 + (-1)))]) (st2 := [.inl v4, .inl (w.1 14 0 v2.toNatClampNeg), .inl 4, .inl v3]) (w2 := w) 10 (fun F h => ⟨(pm_inb_in hs5), h⟩) ?_
      obtain ⟨r6, hr7, hf⟩ := Option.bind_eq_some_iff.mp hf
      refine pm_ca (y := 85) (as := [.inl 4, .inl (w.1 14 0 v2.toNatClampNeg), .inl v4]) (r := some (.inl r6)) (w2 := w) (w1 := w) (t := [.inl v3]) (i2 := 28) (ls2 := [some (.inr (.inr (13, 0))), some (.inl v1), some (.inl v2), some (.inl v3), some (.inl v4), some (.inl (r3 + (-1)))]) 1 (a_X7_figureAt F w 4 (w.1 14 0 v2.toNatClampNeg) v4 r6 d (by omega) hr7) (fun F h => h) ?_
      show pm_Gx (RT d) co_X2_holds 28 [some (.inr (.inr (13, 0))), some (.inl v1), some (.inl v2), some (.inl v3), some (.inl v4), some (.inl (r3 + (-1)))] [.inl r6, .inl v3] w Q
      refine pm_go (i2 := 10) (ls2 := [some (.inr (.inr (13, 0))), some (.inl v1), some (.inl v2), some (.inl (v3 + (r6 * (r3 + (-1))))), some (.inl (v4 + 1)), some (.inl (r3 + (-1)))]) (st2 := []) (w2 := w) 6 (fun F h => h) ?_
      refine pm_wk (ls := [some (.inr (.inr (13, 0))), some (.inl v1), some (.inl v2), some (.inl (v3 + (r6 * (r3 + (-1))))), some (.inl (v4 + 1)), none]) ⟨.inr rfl, .inr rfl, .inr rfl, .inr rfl, .inr rfl, .inl rfl, trivial⟩ ?_
      exact ih v1 v2 (v3 + (r6 * (r3 + (-1)))) (v4 + 1) _ hf hk
set_option maxRecDepth 20000 in
set_option maxHeartbeats 4000000 in
theorem a_X2_holds_L2 (F : Nat) (d : Nat) (hd : 1 ≤ d) (Q : pm_Q) (w : pm_W) : ∀ (n : Nat) (v1 : Int32) (v2 : Int32) (x : (Int32) ⊕ Int32), f_X2_holds_L2 F w n v1 v2 = some x → (∀ e, x = .inl e → pm_Gx (RT d) co_X2_holds 44 [some (.inr (.inr (13, 0))), some (.inl v1), some (.inl e), none, none, none] [] w Q) → (∀ r, x = .inr r → Q (some (.inl r)) w) → pm_Gx (RT d) co_X2_holds 2 [some (.inr (.inr (13, 0))), some (.inl v1), some (.inl v2), none, none, none] [] w Q := by
  intro n
  induction n with
  | zero =>
    intro v1 v2 x hf
    cases hf
  | succ n ih =>
    intro v1 v2 x hf hk hq
    rw [f_X2_holds_L2] at hf
    refine pm_go (i2 := 5) (ls2 := [some (.inr (.inr (13, 0))), some (.inl v1), some (.inl v2), none, none, none]) (st2 := [.inl (w.1 13 0 2), .inl v2]) (w2 := w) 3 (fun F h => h) ?_
    refine pm_if (P := (w.1 13 0 2) ≤ v2) (i2 := 44) (i3 := 6) (ls2 := [some (.inr (.inr (13, 0))), some (.inl v1), some (.inl v2), none, none, none]) (st2 := []) (w2 := w) 1 (fun F h => h) (fun hc1 => ?_) (fun hc1 => ?_)
    · rw [if_pos hc1] at hf
      obtain rfl := Option.some.inj hf
      exact hk _ rfl
    · rw [if_neg hc1] at hf
      refine pm_go (i2 := 10) (ls2 := [some (.inr (.inr (13, 0))), some (.inl v1), some (.inl v2), some (.inl 0), some (.inl 0), none]) (st2 := []) (w2 := w) 4 (fun F h => h) ?_
      obtain ⟨x8, hx9, hf⟩ := Option.bind_eq_some_iff.mp hf
      refine a_X2_holds_L10 F d hd Q w F v1 v2 0 0 x8 hx9 ?_
      obtain ⟨hs10, hf⟩ := pm_itn hf
      refine pm_go (i2 := 39) (ls2 := [some (.inr (.inr (13, 0))), some (.inl v1), some (.inl v2), some (.inl x8.1), some (.inl x8.2), none]) (st2 := [.inl (w.1 15 0 v2.toNatClampNeg), .inl x8.1]) (w2 := w) 5 (fun F h => ⟨(pm_inb_in hs10), h⟩) ?_
      refine pm_if (P := x8.1 = (w.1 15 0 v2.toNatClampNeg)) (i2 := 42) (i3 := 40) (ls2 := [some (.inr (.inr (13, 0))), some (.inl v1), some (.inl v2), some (.inl x8.1), some (.inl x8.2), none]) (st2 := []) (w2 := w) 1 (fun F h => h) (fun hc11 => ?_) (fun hc11 => ?_)
      · rw [if_pos hc11] at hf
        refine pm_go (i2 := 2) (ls2 := [some (.inr (.inr (13, 0))), some (.inl v1), some (.inl (v2 + 1)), some (.inl x8.1), some (.inl x8.2), none]) (st2 := []) (w2 := w) 2 (fun F h => h) ?_
        refine pm_wk (ls := [some (.inr (.inr (13, 0))), some (.inl v1), some (.inl (v2 + 1)), none, none, none]) ⟨.inr rfl, .inr rfl, .inr rfl, .inl rfl, .inl rfl, .inl rfl, trivial⟩ ?_
        exact ih v1 (v2 + 1) _ hf hk hq
      · rw [if_neg hc11] at hf
        refine pm_go (i2 := 41) (ls2 := [some (.inr (.inr (13, 0))), some (.inl v1), some (.inl v2), some (.inl x8.1), some (.inl x8.2), none]) (st2 := [.inl 0]) (w2 := w) 1 (fun F h => h) ?_
        obtain rfl := Option.some.inj hf
        exact pm_re (r := some (.inl 0)) (w2 := w) 1 (fun F h => ⟨rfl, h⟩) (hq _ rfl)
set_option maxRecDepth 20000 in
set_option maxHeartbeats 4000000 in
theorem b_X2_holds (F : Nat) (d : Nat) (hd : 1 ≤ d) (Q : pm_Q) (w : pm_W) (a1 : Int32) (x : Int32) (hf : f_X2_holds F w a1 = some x) (hq : Q (some (.inl x)) w) : pm_Gx (RT d) co_X2_holds 0 [some (.inr (.inr (13, 0))), some (.inl a1), none, none, none, none] [] w Q := by
  unfold f_X2_holds at hf
  refine pm_go (i2 := 2) (ls2 := [some (.inr (.inr (13, 0))), some (.inl a1), some (.inl 0), none, none, none]) (st2 := []) (w2 := w) 2 (fun F h => h) ?_
  obtain ⟨x12, hx13, hf⟩ := Option.bind_eq_some_iff.mp hf
  refine a_X2_holds_L2 F d hd Q w F a1 0 x12 hx13 (fun ex12 hx12 => ?_) (fun rx12 hx12 => ?_)
  · subst hx12
    change _ = _ at hf
    refine pm_go (i2 := 45) (ls2 := [some (.inr (.inr (13, 0))), some (.inl a1), some (.inl ex12), none, none, none]) (st2 := [.inl 1]) (w2 := w) 1 (fun F h => h) ?_
    obtain rfl := Option.some.inj hf
    exact pm_re (r := some (.inl 1)) (w2 := w) 1 (fun F h => ⟨rfl, h⟩) hq
  · subst hx12
    obtain rfl := Option.some.inj (show some rx12 = some x from hf)
    exact hq
set_option maxRecDepth 20000 in
set_option maxHeartbeats 4000000 in
theorem a_X2_holds (F : Nat) (w : pm_W) (a1 : Int32) (x : Int32) (d : Nat) (hd : 2 ≤ d) (hf : f_X2_holds F w a1 = some x) : RT d 15 [.inr (.inr (13, 0)), .inl a1] w (some (.inl x)) w := by
  obtain ⟨d, rfl, hd2⟩ := pm_dep hd
  exact pm_start (co := co_X2_holds) (nL := 6) (by decide) rfl rfl (Nat.le_of_ble_eq_true rfl) (b_X2_holds F d hd2 _ w a1 x hf ⟨rfl, rfl⟩)
def f_X2_takeLaw_L17 (F : Nat) : Nat → pm_W → Int32 → Int32 → Option (Int32 × pm_W)
  | 0, _, _, _ => none
  | n + 1, w, v1, v2 => (if 4 ≤ v2 then some (v2, w) else ((f_X7_figureAt F w 4 v1 v2).bind fun r6 => ((f_X7_figureAt F w 4 (w.1 13 0 4) v2).bind fun r8 => (if r6 = r8 then f_X2_takeLaw_L17 F n w v1 (v2 + 1) else (pm_wlet (pm_setI w 13 0 5 ((w.1 13 0 5) &&& ((1 <<< (v2 &&& 31)) ^^^ (-1)))) fun w11 => f_X2_takeLaw_L17 F n w11 v1 (v2 + 1))))))
def f_X2_takeLaw (F : Nat) (w : pm_W) (a1 : Int32) : Option (pm_W) := (if (w.1 13 0 3) = 0 then (pm_wlet (pm_setI w 13 0 4 a1) fun w2 => (pm_wlet (pm_setI w2 13 0 5 15) fun w3 => (pm_wlet (pm_setI w3 13 0 3 ((w3.1 13 0 3) + 1)) fun w4 => ((f_X2_takeLaw_L17 F F w4 a1 0).bind fun x12 => some x12.2)))) else (pm_wlet (pm_setI w 13 0 3 ((w.1 13 0 3) + 1)) fun w14 => ((f_X2_takeLaw_L17 F F w14 a1 0).bind fun x15 => some x15.2)))
set_option maxRecDepth 20000 in
set_option maxHeartbeats 4000000 in
theorem a_X2_takeLaw_L17 (F : Nat) (d : Nat) (hd : 1 ≤ d) (Q : pm_Q) : ∀ (n : Nat) (w : pm_W) (v1 : Int32) (v2 : Int32) (x : Int32 × pm_W), f_X2_takeLaw_L17 F n w v1 v2 = some x → pm_Gx (RT d) co_X2_takeLaw 42 [some (.inr (.inr (13, 0))), some (.inl v1), some (.inl x.1)] [] x.2 Q → pm_Gx (RT d) co_X2_takeLaw 17 [some (.inr (.inr (13, 0))), some (.inl v1), some (.inl v2)] [] w Q := by
  intro n
  induction n with
  | zero =>
    intro w v1 v2 x hf
    cases hf
  | succ n ih =>
    intro w v1 v2 x hf hk
    rw [f_X2_takeLaw_L17] at hf
    refine pm_go (i2 := 19) (ls2 := [some (.inr (.inr (13, 0))), some (.inl v1), some (.inl v2)]) (st2 := [.inl 4, .inl v2]) (w2 := w) 2 (fun F h => h) ?_
    refine pm_if (P := 4 ≤ v2) (i2 := 42) (i3 := 20) (ls2 := [some (.inr (.inr (13, 0))), some (.inl v1), some (.inl v2)]) (st2 := []) (w2 := w) 1 (fun F h => h) (fun hc5 => ?_) (fun hc5 => ?_)
    · rw [if_pos hc5] at hf
      obtain rfl := Option.some.inj hf
      exact hk
    · rw [if_neg hc5] at hf
      refine pm_go (i2 := 23) (ls2 := [some (.inr (.inr (13, 0))), some (.inl v1), some (.inl v2)]) (st2 := [.inl v2, .inl v1, .inl 4]) (w2 := w) 3 (fun F h => h) ?_
      obtain ⟨r6, hr7, hf⟩ := Option.bind_eq_some_iff.mp hf
      refine pm_ca (y := 85) (as := [.inl 4, .inl v1, .inl v2]) (r := some (.inl r6)) (w2 := w) (w1 := w) (t := []) (i2 := 24) (ls2 := [some (.inr (.inr (13, 0))), some (.inl v1), some (.inl v2)]) 1 (a_X7_figureAt F w 4 v1 v2 r6 d (by omega) hr7) (fun F h => h) ?_
      show pm_Gx (RT d) co_X2_takeLaw 24 [some (.inr (.inr (13, 0))), some (.inl v1), some (.inl v2)] [.inl r6] w Q
      refine pm_go (i2 := 28) (ls2 := [some (.inr (.inr (13, 0))), some (.inl v1), some (.inl v2)]) (st2 := [.inl v2, .inl (w.1 13 0 4), .inl 4, .inl r6]) (w2 := w) 4 (fun F h => h) ?_
      obtain ⟨r8, hr9, hf⟩ := Option.bind_eq_some_iff.mp hf
      refine pm_ca (y := 85) (as := [.inl 4, .inl (w.1 13 0 4), .inl v2]) (r := some (.inl r8)) (w2 := w) (w1 := w) (t := [.inl r6]) (i2 := 29) (ls2 := [some (.inr (.inr (13, 0))), some (.inl v1), some (.inl v2)]) 1 (a_X7_figureAt F w 4 (w.1 13 0 4) v2 r8 d (by omega) hr9) (fun F h => h) ?_
      show pm_Gx (RT d) co_X2_takeLaw 29 [some (.inr (.inr (13, 0))), some (.inl v1), some (.inl v2)] [.inl r8, .inl r6] w Q
      refine pm_if (P := r6 = r8) (i2 := 40) (i3 := 30) (ls2 := [some (.inr (.inr (13, 0))), some (.inl v1), some (.inl v2)]) (st2 := []) (w2 := w) 1 (fun F h => h) (fun hc10 => ?_) (fun hc10 => ?_)
      · rw [if_pos hc10] at hf
        refine pm_go (i2 := 17) (ls2 := [some (.inr (.inr (13, 0))), some (.inl v1), some (.inl (v2 + 1))]) (st2 := []) (w2 := w) 2 (fun F h => h) ?_
        exact ih w v1 (v2 + 1) _ hf hk
      · rw [if_neg hc10] at hf
        refine pm_go (i2 := 40) (ls2 := [some (.inr (.inr (13, 0))), some (.inl v1), some (.inl v2)]) (st2 := []) (w2 := (pm_setI w 13 0 5 ((w.1 13 0 5) &&& ((1 <<< (v2 &&& 31)) ^^^ (-1))))) 10 (fun F h => h) ?_
        generalize (pm_setI w 13 0 5 ((w.1 13 0 5) &&& ((1 <<< (v2 &&& 31)) ^^^ (-1)))) = w11 at hf ⊢
        replace hf := pm_wlet_un hf
        refine pm_go (i2 := 17) (ls2 := [some (.inr (.inr (13, 0))), some (.inl v1), some (.inl (v2 + 1))]) (st2 := []) (w2 := w11) 2 (fun F h => h) ?_
        exact ih w11 v1 (v2 + 1) _ hf hk
set_option maxRecDepth 20000 in
set_option maxHeartbeats 4000000 in
theorem b_X2_takeLaw (F : Nat) (d : Nat) (hd : 1 ≤ d) (Q : pm_Q) (w : pm_W) (a1 : Int32) (x : pm_W) (hf : f_X2_takeLaw F w a1 = some x) (hq : Q (none) x) : pm_Gx (RT d) co_X2_takeLaw 0 [some (.inr (.inr (13, 0))), some (.inl a1), none] [] w Q := by
  unfold f_X2_takeLaw at hf
  refine pm_go (i2 := 2) (ls2 := [some (.inr (.inr (13, 0))), some (.inl a1), none]) (st2 := [.inl (w.1 13 0 3)]) (w2 := w) 2 (fun F h => h) ?_
  refine pm_if (P := (w.1 13 0 3) = 0) (i2 := 3) (i3 := 9) (ls2 := [some (.inr (.inr (13, 0))), some (.inl a1), none]) (st2 := []) (w2 := w) 1 (fun F h => h) (fun hc1 => ?_) (fun hc1 => ?_)
  · rw [if_pos hc1] at hf
    refine pm_go (i2 := 6) (ls2 := [some (.inr (.inr (13, 0))), some (.inl a1), none]) (st2 := []) (w2 := (pm_setI w 13 0 4 a1)) 3 (fun F h => h) ?_
    generalize (pm_setI w 13 0 4 a1) = w2 at hf ⊢
    replace hf := pm_wlet_un hf
    refine pm_go (i2 := 9) (ls2 := [some (.inr (.inr (13, 0))), some (.inl a1), none]) (st2 := []) (w2 := (pm_setI w2 13 0 5 15)) 3 (fun F h => h) ?_
    generalize (pm_setI w2 13 0 5 15) = w3 at hf ⊢
    replace hf := pm_wlet_un hf
    refine pm_go (i2 := 15) (ls2 := [some (.inr (.inr (13, 0))), some (.inl a1), none]) (st2 := []) (w2 := (pm_setI w3 13 0 3 ((w3.1 13 0 3) + 1))) 6 (fun F h => h) ?_
    generalize (pm_setI w3 13 0 3 ((w3.1 13 0 3) + 1)) = w4 at hf ⊢
    replace hf := pm_wlet_un hf
    refine pm_go (i2 := 17) (ls2 := [some (.inr (.inr (13, 0))), some (.inl a1), some (.inl 0)]) (st2 := []) (w2 := w4) 2 (fun F h => h) ?_
    obtain ⟨x12, hx13, hf⟩ := Option.bind_eq_some_iff.mp hf
    refine a_X2_takeLaw_L17 F d hd Q F w4 a1 0 x12 hx13 ?_
    obtain rfl := Option.some.inj hf
    exact pm_re (r := none) (w2 := x12.2) 1 (fun F h => h) hq
  · rw [if_neg hc1] at hf
    refine pm_go (i2 := 15) (ls2 := [some (.inr (.inr (13, 0))), some (.inl a1), none]) (st2 := []) (w2 := (pm_setI w 13 0 3 ((w.1 13 0 3) + 1))) 6 (fun F h => h) ?_
    generalize (pm_setI w 13 0 3 ((w.1 13 0 3) + 1)) = w14 at hf ⊢
    replace hf := pm_wlet_un hf
    refine pm_go (i2 := 17) (ls2 := [some (.inr (.inr (13, 0))), some (.inl a1), some (.inl 0)]) (st2 := []) (w2 := w14) 2 (fun F h => h) ?_
    obtain ⟨x15, hx16, hf⟩ := Option.bind_eq_some_iff.mp hf
    refine a_X2_takeLaw_L17 F d hd Q F w14 a1 0 x15 hx16 ?_
    obtain rfl := Option.some.inj hf
    exact pm_re (r := none) (w2 := x15.2) 1 (fun F h => h) hq
set_option maxRecDepth 20000 in
set_option maxHeartbeats 4000000 in
theorem a_X2_takeLaw (F : Nat) (w : pm_W) (a1 : Int32) (x : pm_W) (d : Nat) (hd : 2 ≤ d) (hf : f_X2_takeLaw F w a1 = some x) : RT d 13 [.inr (.inr (13, 0)), .inl a1] w (none) x := by
  obtain ⟨d, rfl, hd2⟩ := pm_dep hd
  exact pm_start (co := co_X2_takeLaw) (nL := 3) (by decide) rfl rfl (Nat.le_of_ble_eq_true rfl) (b_X2_takeLaw F d hd2 _ w a1 x hf ⟨rfl, rfl⟩)
def f_X2_findLaws_L11 (F : Nat) : Nat → pm_W → Int32 → Option (Int32 × pm_W)
  | 0, _, _ => none
  | n + 1, w, v1 => (if 256 ≤ v1 then some (v1, w) else ((f_X2_figuresOfLaw F w v1).bind fun r5 => ((f_X2_holds F w r5).bind fun r7 => (if r7 = 0 then f_X2_findLaws_L11 F n w (v1 + 1) else ((f_X2_takeLaw F w r5).bind fun r10 => f_X2_findLaws_L11 F n r10 (v1 + 1))))))
def f_X2_findLaws (F : Nat) (w : pm_W) : Option (pm_W) := (pm_wlet (pm_setI w 13 0 3 0) fun w1 => (pm_wlet (pm_setI w1 13 0 4 (-9)) fun w2 => (pm_wlet (pm_setI w2 13 0 5 (-9)) fun w3 => ((f_X2_findLaws_L11 F F w3 0).bind fun x12 => some x12.2))))
set_option maxRecDepth 20000 in
set_option maxHeartbeats 4000000 in
theorem a_X2_findLaws_L11 (F : Nat) (d : Nat) (hd : 2 ≤ d) (Q : pm_Q) : ∀ (n : Nat) (w : pm_W) (v1 : Int32) (x : Int32 × pm_W), f_X2_findLaws_L11 F n w v1 = some x → pm_Gx (RT d) co_X2_findLaws 26 [some (.inr (.inr (13, 0))), some (.inl x.1), none] [] x.2 Q → pm_Gx (RT d) co_X2_findLaws 11 [some (.inr (.inr (13, 0))), some (.inl v1), none] [] w Q := by
  intro n
  induction n with
  | zero =>
    intro w v1 x hf
    cases hf
  | succ n ih =>
    intro w v1 x hf hk
    rw [f_X2_findLaws_L11] at hf
    refine pm_go (i2 := 13) (ls2 := [some (.inr (.inr (13, 0))), some (.inl v1), none]) (st2 := [.inl 256, .inl v1]) (w2 := w) 2 (fun F h => h) ?_
    refine pm_if (P := 256 ≤ v1) (i2 := 26) (i3 := 14) (ls2 := [some (.inr (.inr (13, 0))), some (.inl v1), none]) (st2 := []) (w2 := w) 1 (fun F h => h) (fun hc4 => ?_) (fun hc4 => ?_)
    · rw [if_pos hc4] at hf
      obtain rfl := Option.some.inj hf
      exact hk
    · rw [if_neg hc4] at hf
      refine pm_go (i2 := 15) (ls2 := [some (.inr (.inr (13, 0))), some (.inl v1), none]) (st2 := [.inl v1]) (w2 := w) 1 (fun F h => h) ?_
      obtain ⟨r5, hr6, hf⟩ := Option.bind_eq_some_iff.mp hf
      refine pm_ca (y := 14) (as := [.inl v1]) (r := some (.inl r5)) (w2 := w) (w1 := w) (t := []) (i2 := 16) (ls2 := [some (.inr (.inr (13, 0))), some (.inl v1), none]) 1 (a_X2_figuresOfLaw F w v1 r5 d (by omega) hr6) (fun F h => h) ?_
      show pm_Gx (RT d) co_X2_findLaws 16 [some (.inr (.inr (13, 0))), some (.inl v1), none] [.inl r5] w Q
      refine pm_go (i2 := 19) (ls2 := [some (.inr (.inr (13, 0))), some (.inl v1), some (.inl r5)]) (st2 := [.inl r5, .inr (.inr (13, 0))]) (w2 := w) 3 (fun F h => h) ?_
      obtain ⟨r7, hr8, hf⟩ := Option.bind_eq_some_iff.mp hf
      refine pm_ca (y := 15) (as := [.inr (.inr (13, 0)), .inl r5]) (r := some (.inl r7)) (w2 := w) (w1 := w) (t := []) (i2 := 20) (ls2 := [some (.inr (.inr (13, 0))), some (.inl v1), some (.inl r5)]) 1 (a_X2_holds F w r5 r7 d (by omega) hr8) (fun F h => h) ?_
      show pm_Gx (RT d) co_X2_findLaws 20 [some (.inr (.inr (13, 0))), some (.inl v1), some (.inl r5)] [.inl r7] w Q
      refine pm_if (P := r7 = 0) (i2 := 24) (i3 := 21) (ls2 := [some (.inr (.inr (13, 0))), some (.inl v1), some (.inl r5)]) (st2 := []) (w2 := w) 1 (fun F h => h) (fun hc9 => ?_) (fun hc9 => ?_)
      · rw [if_pos hc9] at hf
        refine pm_go (i2 := 11) (ls2 := [some (.inr (.inr (13, 0))), some (.inl (v1 + 1)), some (.inl r5)]) (st2 := []) (w2 := w) 2 (fun F h => h) ?_
        refine pm_wk (ls := [some (.inr (.inr (13, 0))), some (.inl (v1 + 1)), none]) ⟨.inr rfl, .inr rfl, .inl rfl, trivial⟩ ?_
        exact ih w (v1 + 1) _ hf hk
      · rw [if_neg hc9] at hf
        refine pm_go (i2 := 23) (ls2 := [some (.inr (.inr (13, 0))), some (.inl v1), some (.inl r5)]) (st2 := [.inl r5, .inr (.inr (13, 0))]) (w2 := w) 2 (fun F h => h) ?_
        obtain ⟨r10, hr11, hf⟩ := Option.bind_eq_some_iff.mp hf
        refine pm_ca (y := 13) (as := [.inr (.inr (13, 0)), .inl r5]) (r := none) (w2 := w) (w1 := r10) (t := []) (i2 := 24) (ls2 := [some (.inr (.inr (13, 0))), some (.inl v1), some (.inl r5)]) 1 (a_X2_takeLaw F w r5 r10 d (by omega) hr11) (fun F h => h) ?_
        show pm_Gx (RT d) co_X2_findLaws 24 [some (.inr (.inr (13, 0))), some (.inl v1), some (.inl r5)] [] r10 Q
        refine pm_go (i2 := 11) (ls2 := [some (.inr (.inr (13, 0))), some (.inl (v1 + 1)), some (.inl r5)]) (st2 := []) (w2 := r10) 2 (fun F h => h) ?_
        refine pm_wk (ls := [some (.inr (.inr (13, 0))), some (.inl (v1 + 1)), none]) ⟨.inr rfl, .inr rfl, .inl rfl, trivial⟩ ?_
        exact ih r10 (v1 + 1) _ hf hk
set_option maxRecDepth 20000 in
set_option maxHeartbeats 4000000 in
theorem b_X2_findLaws (F : Nat) (d : Nat) (hd : 2 ≤ d) (Q : pm_Q) (w : pm_W) (x : pm_W) (hf : f_X2_findLaws F w = some x) (hq : Q (none) x) : pm_Gx (RT d) co_X2_findLaws 0 [some (.inr (.inr (13, 0))), none, none] [] w Q := by
  unfold f_X2_findLaws at hf
  refine pm_go (i2 := 3) (ls2 := [some (.inr (.inr (13, 0))), none, none]) (st2 := []) (w2 := (pm_setI w 13 0 3 0)) 3 (fun F h => h) ?_
  generalize (pm_setI w 13 0 3 0) = w1 at hf ⊢
  replace hf := pm_wlet_un hf
  refine pm_go (i2 := 6) (ls2 := [some (.inr (.inr (13, 0))), none, none]) (st2 := []) (w2 := (pm_setI w1 13 0 4 (-9))) 3 (fun F h => h) ?_
  generalize (pm_setI w1 13 0 4 (-9)) = w2 at hf ⊢
  replace hf := pm_wlet_un hf
  refine pm_go (i2 := 9) (ls2 := [some (.inr (.inr (13, 0))), none, none]) (st2 := []) (w2 := (pm_setI w2 13 0 5 (-9))) 3 (fun F h => h) ?_
  generalize (pm_setI w2 13 0 5 (-9)) = w3 at hf ⊢
  replace hf := pm_wlet_un hf
  refine pm_go (i2 := 11) (ls2 := [some (.inr (.inr (13, 0))), some (.inl 0), none]) (st2 := []) (w2 := w3) 2 (fun F h => h) ?_
  obtain ⟨x12, hx13, hf⟩ := Option.bind_eq_some_iff.mp hf
  refine a_X2_findLaws_L11 F d hd Q F w3 0 x12 hx13 ?_
  obtain rfl := Option.some.inj hf
  exact pm_re (r := none) (w2 := x12.2) 1 (fun F h => h) hq
set_option maxRecDepth 20000 in
set_option maxHeartbeats 4000000 in
theorem a_X2_findLaws (F : Nat) (w : pm_W) (x : pm_W) (d : Nat) (hd : 3 ≤ d) (hf : f_X2_findLaws F w = some x) : RT d 12 [.inr (.inr (13, 0))] w (none) x := by
  obtain ⟨d, rfl, hd2⟩ := pm_dep hd
  exact pm_start (co := co_X2_findLaws) (nL := 3) (by decide) rfl rfl (Nat.le_of_ble_eq_true rfl) (b_X2_findLaws F d hd2 _ w x hf ⟨rfl, rfl⟩)
def f_X5_nextFrom_L6 (F : Nat) (w : pm_W) : Nat → Nat → Int32 → Int32 → Int32 → Int32 → Option (Int32 × Int32 × Int32)
  | 0, _, _, _, _, _ => none
  | n + 1, v1, v2, v3, v4, v5 => (if (w.1 3 0 3) ≤ v5 then some (v3, v4, v5) else (if pm_inb v5 5 = true then (if (w.1 8 v1 v5.toNatClampNeg) < v2 then f_X5_nextFrom_L6 F w n v1 v2 v3 v4 (v5 + 1) else (if pm_inb v5 5 = true then (if v4 ≤ (w.1 8 v1 v5.toNatClampNeg) then f_X5_nextFrom_L6 F w n v1 v2 v3 v4 (v5 + 1) else (if pm_inb v5 5 = true then f_X5_nextFrom_L6 F w n v1 v2 v5 (w.1 8 v1 v5.toNatClampNeg) (v5 + 1) else none)) else none)) else none))
def f_X5_nextFrom (F : Nat) (w : pm_W) (a1 : Nat) (a2 : Int32) : Option (Int32) := ((f_X5_nextFrom_L6 F w F a1 a2 (-9) 60 0).bind fun x7 => some x7.1)
set_option maxRecDepth 20000 in
set_option maxHeartbeats 4000000 in
theorem a_X5_nextFrom_L6 (F : Nat) (d : Nat) (hd : 0 ≤ d) (Q : pm_Q) (w : pm_W) : ∀ (n : Nat) (v1 : Nat) (v2 : Int32) (v3 : Int32) (v4 : Int32) (v5 : Int32) (x : Int32 × Int32 × Int32), f_X5_nextFrom_L6 F w n v1 v2 v3 v4 v5 = some x → pm_Gx (RT d) co_X5_nextFrom 31 [some (.inr (.inr (3, 0))), some (.inr (.inr (7, v1))), some (.inl v2), some (.inl x.1), some (.inl x.2.1), some (.inl x.2.2)] [] w Q → pm_Gx (RT d) co_X5_nextFrom 6 [some (.inr (.inr (3, 0))), some (.inr (.inr (7, v1))), some (.inl v2), some (.inl v3), some (.inl v4), some (.inl v5)] [] w Q := by
  intro n
  induction n with
  | zero =>
    intro v1 v2 v3 v4 v5 x hf
    cases hf
  | succ n ih =>
    intro v1 v2 v3 v4 v5 x hf hk
    rw [f_X5_nextFrom_L6] at hf
    refine pm_go (i2 := 9) (ls2 := [some (.inr (.inr (3, 0))), some (.inr (.inr (7, v1))), some (.inl v2), some (.inl v3), some (.inl v4), some (.inl v5)]) (st2 := [.inl (w.1 3 0 3), .inl v5]) (w2 := w) 3 (fun F h => h) ?_
    refine pm_if (P := (w.1 3 0 3) ≤ v5) (i2 := 31) (i3 := 10) (ls2 := [some (.inr (.inr (3, 0))), some (.inr (.inr (7, v1))), some (.inl v2), some (.inl v3), some (.inl v4), some (.inl v5)]) (st2 := []) (w2 := w) 1 (fun F h => h) (fun hc1 => ?_) (fun hc1 => ?_)
    · rw [if_pos hc1] at hf
      obtain rfl := Option.some.inj hf
      exact hk
    · rw [if_neg hc1] at hf
      obtain ⟨hs2, hf⟩ := pm_itn hf
      refine pm_go (i2 := 15) (ls2 := [some (.inr (.inr (3, 0))), some (.inr (.inr (7, v1))), some (.inl v2), some (.inl v3), some (.inl v4), some (.inl v5)]) (st2 := [.inl v2, .inl (w.1 8 v1 v5.toNatClampNeg)]) (w2 := w) 5 (fun F h => ⟨(pm_inb_in hs2), h⟩) ?_
      refine pm_if (P := (w.1 8 v1 v5.toNatClampNeg) < v2) (i2 := 29) (i3 := 16) (ls2 := [some (.inr (.inr (3, 0))), some (.inr (.inr (7, v1))), some (.inl v2), some (.inl v3), some (.inl v4), some (.inl v5)]) (st2 := []) (w2 := w) 1 (fun F h => h) (fun hc3 => ?_) (fun hc3 => ?_)
      · rw [if_pos hc3] at hf
        refine pm_go (i2 := 6) (ls2 := [some (.inr (.inr (3, 0))), some (.inr (.inr (7, v1))), some (.inl v2), some (.inl v3), some (.inl v4), some (.inl (v5 + 1))]) (st2 := []) (w2 := w) 2 (fun F h => h) ?_
        exact ih v1 v2 v3 v4 (v5 + 1) _ hf hk
      · rw [if_neg hc3] at hf
        obtain ⟨hs4, hf⟩ := pm_itn hf
        refine pm_go (i2 := 21) (ls2 := [some (.inr (.inr (3, 0))), some (.inr (.inr (7, v1))), some (.inl v2), some (.inl v3), some (.inl v4), some (.inl v5)]) (st2 := [.inl v4, .inl (w.1 8 v1 v5.toNatClampNeg)]) (w2 := w) 5 (fun F h => ⟨(pm_inb_in hs4), h⟩) ?_
        refine pm_if (P := v4 ≤ (w.1 8 v1 v5.toNatClampNeg)) (i2 := 29) (i3 := 22) (ls2 := [some (.inr (.inr (3, 0))), some (.inr (.inr (7, v1))), some (.inl v2), some (.inl v3), some (.inl v4), some (.inl v5)]) (st2 := []) (w2 := w) 1 (fun F h => h) (fun hc5 => ?_) (fun hc5 => ?_)
        · rw [if_pos hc5] at hf
          refine pm_go (i2 := 6) (ls2 := [some (.inr (.inr (3, 0))), some (.inr (.inr (7, v1))), some (.inl v2), some (.inl v3), some (.inl v4), some (.inl (v5 + 1))]) (st2 := []) (w2 := w) 2 (fun F h => h) ?_
          exact ih v1 v2 v3 v4 (v5 + 1) _ hf hk
        · rw [if_neg hc5] at hf
          obtain ⟨hs6, hf⟩ := pm_itn hf
          refine pm_go (i2 := 6) (ls2 := [some (.inr (.inr (3, 0))), some (.inr (.inr (7, v1))), some (.inl v2), some (.inl v5), some (.inl (w.1 8 v1 v5.toNatClampNeg)), some (.inl (v5 + 1))]) (st2 := []) (w2 := w) 9 (fun F h => ⟨(pm_inb_in hs6), h⟩) ?_
          exact ih v1 v2 v5 (w.1 8 v1 v5.toNatClampNeg) (v5 + 1) _ hf hk
set_option maxRecDepth 20000 in
set_option maxHeartbeats 4000000 in
theorem b_X5_nextFrom (F : Nat) (d : Nat) (hd : 0 ≤ d) (Q : pm_Q) (w : pm_W) (a1 : Nat) (a2 : Int32) (x : Int32) (hf : f_X5_nextFrom F w a1 a2 = some x) (hq : Q (some (.inl x)) w) : pm_Gx (RT d) co_X5_nextFrom 0 [some (.inr (.inr (3, 0))), some (.inr (.inr (7, a1))), some (.inl a2), none, none, none] [] w Q := by
  unfold f_X5_nextFrom at hf
  refine pm_go (i2 := 6) (ls2 := [some (.inr (.inr (3, 0))), some (.inr (.inr (7, a1))), some (.inl a2), some (.inl (-9)), some (.inl 60), some (.inl 0)]) (st2 := []) (w2 := w) 6 (fun F h => h) ?_
  obtain ⟨x7, hx8, hf⟩ := Option.bind_eq_some_iff.mp hf
  refine a_X5_nextFrom_L6 F d hd Q w F a1 a2 (-9) 60 0 x7 hx8 ?_
  refine pm_go (i2 := 32) (ls2 := [some (.inr (.inr (3, 0))), some (.inr (.inr (7, a1))), some (.inl a2), some (.inl x7.1), some (.inl x7.2.1), some (.inl x7.2.2)]) (st2 := [.inl x7.1]) (w2 := w) 1 (fun F h => h) ?_
  obtain rfl := Option.some.inj hf
  exact pm_re (r := some (.inl x7.1)) (w2 := w) 1 (fun F h => h) hq
set_option maxRecDepth 20000 in
set_option maxHeartbeats 4000000 in
theorem a_X5_nextFrom (F : Nat) (w : pm_W) (a1 : Nat) (a2 : Int32) (x : Int32) (d : Nat) (hd : 1 ≤ d) (hf : f_X5_nextFrom F w a1 a2 = some x) : RT d 41 [.inr (.inr (3, 0)), .inr (.inr (7, a1)), .inl a2] w (some (.inl x)) w := by
  obtain ⟨d, rfl, hd2⟩ := pm_dep hd
  exact pm_start (co := co_X5_nextFrom) (nL := 6) (by decide) rfl rfl (Nat.le_of_ble_eq_true rfl) (b_X5_nextFrom F d hd2 _ w a1 a2 x hf ⟨rfl, rfl⟩)
def f_X5_hearers_L11 (F : Nat) (w : pm_W) : Nat → Nat → Int32 → Int32 → Int32 → Int32 → Option ((Int32 × Int32 × Int32 × Int32) ⊕ Int32)
  | 0, _, _, _, _, _ => none
  | n + 1, v1, v2, v3, v4, v5 => (if (w.1 3 0 3) ≤ v5 then some (.inl (v2, v3, v4, v5)) else (if v4 = (-9) then some (.inl (v2, v3, v4, v5)) else (if pm_inb v4 5 = true then (if ((w.1 8 v1 v4.toNatClampNeg) - v3) ≤ (w.1 3 0 5) then ((f_X5_nextFrom F w v1 ((w.1 8 v1 v4.toNatClampNeg) + 1)).bind fun r7 => f_X5_hearers_L11 F w n v1 (v2 ||| (1 <<< (v4 &&& 31))) (w.1 8 v1 v4.toNatClampNeg) r7 (v5 + 1)) else some (.inr v2)) else none)))
def f_X5_hearers (F : Nat) (w : pm_W) (a1 : Nat) : Option (Int32) := ((f_X5_nextFrom F w a1 0).bind fun r1 => ((f_X5_hearers_L11 F w F a1 0 0 r1 0).bind fun x9 => Sum.elim (fun ex9 => some ex9.1) (fun rx9 => some rx9) x9))
set_option maxRecDepth 20000 in
set_option maxHeartbeats 4000000 in
theorem a_X5_hearers_L11 (F : Nat) (d : Nat) (hd : 1 ≤ d) (Q : pm_Q) (w : pm_W) : ∀ (n : Nat) (v1 : Nat) (v2 : Int32) (v3 : Int32) (v4 : Int32) (v5 : Int32) (x : (Int32 × Int32 × Int32 × Int32) ⊕ Int32), f_X5_hearers_L11 F w n v1 v2 v3 v4 v5 = some x → (∀ e, x = .inl e → pm_Gx (RT d) co_X5_hearers 48 [some (.inr (.inr (3, 0))), some (.inr (.inr (7, v1))), some (.inl e.1), some (.inl e.2.1), some (.inl e.2.2.1), some (.inl e.2.2.2), none] [] w Q) → (∀ r, x = .inr r → Q (some (.inl r)) w) → pm_Gx (RT d) co_X5_hearers 11 [some (.inr (.inr (3, 0))), some (.inr (.inr (7, v1))), some (.inl v2), some (.inl v3), some (.inl v4), some (.inl v5), none] [] w Q := by
  intro n
  induction n with
  | zero =>
    intro v1 v2 v3 v4 v5 x hf
    cases hf
  | succ n ih =>
    intro v1 v2 v3 v4 v5 x hf hk hq
    rw [f_X5_hearers_L11] at hf
    refine pm_go (i2 := 14) (ls2 := [some (.inr (.inr (3, 0))), some (.inr (.inr (7, v1))), some (.inl v2), some (.inl v3), some (.inl v4), some (.inl v5), none]) (st2 := [.inl (w.1 3 0 3), .inl v5]) (w2 := w) 3 (fun F h => h) ?_
    refine pm_if (P := (w.1 3 0 3) ≤ v5) (i2 := 48) (i3 := 15) (ls2 := [some (.inr (.inr (3, 0))), some (.inr (.inr (7, v1))), some (.inl v2), some (.inl v3), some (.inl v4), some (.inl v5), none]) (st2 := []) (w2 := w) 1 (fun F h => h) (fun hc3 => ?_) (fun hc3 => ?_)
    · rw [if_pos hc3] at hf
      obtain rfl := Option.some.inj hf
      exact hk _ rfl
    · rw [if_neg hc3] at hf
      refine pm_go (i2 := 17) (ls2 := [some (.inr (.inr (3, 0))), some (.inr (.inr (7, v1))), some (.inl v2), some (.inl v3), some (.inl v4), some (.inl v5), none]) (st2 := [.inl (-9), .inl v4]) (w2 := w) 2 (fun F h => h) ?_
      refine pm_if (P := v4 = (-9)) (i2 := 48) (i3 := 18) (ls2 := [some (.inr (.inr (3, 0))), some (.inr (.inr (7, v1))), some (.inl v2), some (.inl v3), some (.inl v4), some (.inl v5), none]) (st2 := []) (w2 := w) 1 (fun F h => h) (fun hc4 => ?_) (fun hc4 => ?_)
      · rw [if_pos hc4] at hf
        obtain rfl := Option.some.inj hf
        exact hk _ rfl
      · rw [if_neg hc4] at hf
        obtain ⟨hs5, hf⟩ := pm_itn hf
        refine pm_go (i2 := 28) (ls2 := [some (.inr (.inr (3, 0))), some (.inr (.inr (7, v1))), some (.inl v2), some (.inl v3), some (.inl v4), some (.inl v5), some (.inl (w.1 8 v1 v4.toNatClampNeg))]) (st2 := [.inl (w.1 3 0 5), .inl ((w.1 8 v1 v4.toNatClampNeg) - v3)]) (w2 := w) 10 (fun F h => ⟨(pm_inb_in hs5), h⟩) ?_
        refine pm_if (P := ((w.1 8 v1 v4.toNatClampNeg) - v3) ≤ (w.1 3 0 5)) (i2 := 31) (i3 := 29) (ls2 := [some (.inr (.inr (3, 0))), some (.inr (.inr (7, v1))), some (.inl v2), some (.inl v3), some (.inl v4), some (.inl v5), some (.inl (w.1 8 v1 v4.toNatClampNeg))]) (st2 := []) (w2 := w) 1 (fun F h => h) (fun hc6 => ?_) (fun hc6 => ?_)
        · rw [if_pos hc6] at hf
          refine pm_go (i2 := 44) (ls2 := [some (.inr (.inr (3, 0))), some (.inr (.inr (7, v1))), some (.inl (v2 ||| (1 <<< (v4 &&& 31)))), some (.inl (w.1 8 v1 v4.toNatClampNeg)), some (.inl v4), some (.inl v5), some (.inl (w.1 8 v1 v4.toNatClampNeg))]) (st2 := [.inl ((w.1 8 v1 v4.toNatClampNeg) + 1), .inr (.inr (7, v1)), .inr (.inr (3, 0))]) (w2 := w) 13 (fun F h => h) ?_
          obtain ⟨r7, hr8, hf⟩ := Option.bind_eq_some_iff.mp hf
          refine pm_ca (y := 41) (as := [.inr (.inr (3, 0)), .inr (.inr (7, v1)), .inl ((w.1 8 v1 v4.toNatClampNeg) + 1)]) (r := some (.inl r7)) (w2 := w) (w1 := w) (t := []) (i2 := 45) (ls2 := [some (.inr (.inr (3, 0))), some (.inr (.inr (7, v1))), some (.inl (v2 ||| (1 <<< (v4 &&& 31)))), some (.inl (w.1 8 v1 v4.toNatClampNeg)), some (.inl v4), some (.inl v5), some (.inl (w.1 8 v1 v4.toNatClampNeg))]) 1 (a_X5_nextFrom F w v1 ((w.1 8 v1 v4.toNatClampNeg) + 1) r7 d (by omega) hr8) (fun F h => h) ?_
          show pm_Gx (RT d) co_X5_hearers 45 [some (.inr (.inr (3, 0))), some (.inr (.inr (7, v1))), some (.inl (v2 ||| (1 <<< (v4 &&& 31)))), some (.inl (w.1 8 v1 v4.toNatClampNeg)), some (.inl v4), some (.inl v5), some (.inl (w.1 8 v1 v4.toNatClampNeg))] [.inl r7] w Q
          refine pm_go (i2 := 11) (ls2 := [some (.inr (.inr (3, 0))), some (.inr (.inr (7, v1))), some (.inl (v2 ||| (1 <<< (v4 &&& 31)))), some (.inl (w.1 8 v1 v4.toNatClampNeg)), some (.inl r7), some (.inl (v5 + 1)), some (.inl (w.1 8 v1 v4.toNatClampNeg))]) (st2 := []) (w2 := w) 3 (fun F h => h) ?_
          refine pm_wk (ls := [some (.inr (.inr (3, 0))), some (.inr (.inr (7, v1))), some (.inl (v2 ||| (1 <<< (v4 &&& 31)))), some (.inl (w.1 8 v1 v4.toNatClampNeg)), some (.inl r7), some (.inl (v5 + 1)), none]) ⟨.inr rfl, .inr rfl, .inr rfl, .inr rfl, .inr rfl, .inr rfl, .inl rfl, trivial⟩ ?_
          exact ih v1 (v2 ||| (1 <<< (v4 &&& 31))) (w.1 8 v1 v4.toNatClampNeg) r7 (v5 + 1) _ hf hk hq
        · rw [if_neg hc6] at hf
          refine pm_go (i2 := 30) (ls2 := [some (.inr (.inr (3, 0))), some (.inr (.inr (7, v1))), some (.inl v2), some (.inl v3), some (.inl v4), some (.inl v5), some (.inl (w.1 8 v1 v4.toNatClampNeg))]) (st2 := [.inl v2]) (w2 := w) 1 (fun F h => h) ?_
          obtain rfl := Option.some.inj hf
          exact pm_re (r := some (.inl v2)) (w2 := w) 1 (fun F h => h) (hq _ rfl)
set_option maxRecDepth 20000 in
set_option maxHeartbeats 4000000 in
theorem b_X5_hearers (F : Nat) (d : Nat) (hd : 1 ≤ d) (Q : pm_Q) (w : pm_W) (a1 : Nat) (x : Int32) (hf : f_X5_hearers F w a1 = some x) (hq : Q (some (.inl x)) w) : pm_Gx (RT d) co_X5_hearers 0 [some (.inr (.inr (3, 0))), some (.inr (.inr (7, a1))), none, none, none, none, none] [] w Q := by
  unfold f_X5_hearers at hf
  refine pm_go (i2 := 7) (ls2 := [some (.inr (.inr (3, 0))), some (.inr (.inr (7, a1))), some (.inl 0), some (.inl 0), none, none, none]) (st2 := [.inl 0, .inr (.inr (7, a1)), .inr (.inr (3, 0))]) (w2 := w) 7 (fun F h => h) ?_
  obtain ⟨r1, hr2, hf⟩ := Option.bind_eq_some_iff.mp hf
  refine pm_ca (y := 41) (as := [.inr (.inr (3, 0)), .inr (.inr (7, a1)), .inl 0]) (r := some (.inl r1)) (w2 := w) (w1 := w) (t := []) (i2 := 8) (ls2 := [some (.inr (.inr (3, 0))), some (.inr (.inr (7, a1))), some (.inl 0), some (.inl 0), none, none, none]) 1 (a_X5_nextFrom F w a1 0 r1 d (by omega) hr2) (fun F h => h) ?_
  show pm_Gx (RT d) co_X5_hearers 8 [some (.inr (.inr (3, 0))), some (.inr (.inr (7, a1))), some (.inl 0), some (.inl 0), none, none, none] [.inl r1] w Q
  refine pm_go (i2 := 11) (ls2 := [some (.inr (.inr (3, 0))), some (.inr (.inr (7, a1))), some (.inl 0), some (.inl 0), some (.inl r1), some (.inl 0), none]) (st2 := []) (w2 := w) 3 (fun F h => h) ?_
  obtain ⟨x9, hx10, hf⟩ := Option.bind_eq_some_iff.mp hf
  refine a_X5_hearers_L11 F d hd Q w F a1 0 0 r1 0 x9 hx10 (fun ex9 hx9 => ?_) (fun rx9 hx9 => ?_)
  · subst hx9
    change _ = _ at hf
    refine pm_go (i2 := 49) (ls2 := [some (.inr (.inr (3, 0))), some (.inr (.inr (7, a1))), some (.inl ex9.1), some (.inl ex9.2.1), some (.inl ex9.2.2.1), some (.inl ex9.2.2.2), none]) (st2 := [.inl ex9.1]) (w2 := w) 1 (fun F h => h) ?_
    obtain rfl := Option.some.inj hf
    exact pm_re (r := some (.inl ex9.1)) (w2 := w) 1 (fun F h => h) hq
  · subst hx9
    obtain rfl := Option.some.inj (show some rx9 = some x from hf)
    exact hq
set_option maxRecDepth 20000 in
set_option maxHeartbeats 4000000 in
theorem a_X5_hearers (F : Nat) (w : pm_W) (a1 : Nat) (x : Int32) (d : Nat) (hd : 2 ≤ d) (hf : f_X5_hearers F w a1 = some x) : RT d 37 [.inr (.inr (3, 0)), .inr (.inr (7, a1))] w (some (.inl x)) w := by
  obtain ⟨d, rfl, hd2⟩ := pm_dep hd
  exact pm_start (co := co_X5_hearers) (nL := 7) (by decide) rfl rfl (Nat.le_of_ble_eq_true rfl) (b_X5_hearers F d hd2 _ w a1 x hf ⟨rfl, rfl⟩)
def f_X5_doAllHear (F : Nat) (w : pm_W) (a1 : Nat) : Option (Int32) := ((f_X5_hearers F w a1).bind fun r1 => ((f_X5_everybody F w).bind fun r3 => (if pm_isb (if r1 = r3 then 1 else 0 : Int32) = true then some (if r1 = r3 then 1 else 0 : Int32) else none)))
set_option maxRecDepth 20000 in
set_option maxHeartbeats 4000000 in
theorem b_X5_doAllHear (F : Nat) (d : Nat) (hd : 2 ≤ d) (Q : pm_Q) (w : pm_W) (a1 : Nat) (x : Int32) (hf : f_X5_doAllHear F w a1 = some x) (hq : Q (some (.inl x)) w) : pm_Gx (RT d) co_X5_doAllHear 0 [some (.inr (.inr (3, 0))), some (.inr (.inr (7, a1)))] [] w Q := by
  unfold f_X5_doAllHear at hf
  refine pm_go (i2 := 2) (ls2 := [some (.inr (.inr (3, 0))), some (.inr (.inr (7, a1)))]) (st2 := [.inr (.inr (7, a1)), .inr (.inr (3, 0))]) (w2 := w) 2 (fun F h => h) ?_
  obtain ⟨r1, hr2, hf⟩ := Option.bind_eq_some_iff.mp hf
  refine pm_ca (y := 37) (as := [.inr (.inr (3, 0)), .inr (.inr (7, a1))]) (r := some (.inl r1)) (w2 := w) (w1 := w) (t := []) (i2 := 3) (ls2 := [some (.inr (.inr (3, 0))), some (.inr (.inr (7, a1)))]) 1 (a_X5_hearers F w a1 r1 d (by omega) hr2) (fun F h => h) ?_
  show pm_Gx (RT d) co_X5_doAllHear 3 [some (.inr (.inr (3, 0))), some (.inr (.inr (7, a1)))] [.inl r1] w Q
  refine pm_go (i2 := 4) (ls2 := [some (.inr (.inr (3, 0))), some (.inr (.inr (7, a1)))]) (st2 := [.inr (.inr (3, 0)), .inl r1]) (w2 := w) 1 (fun F h => h) ?_
  obtain ⟨r3, hr4, hf⟩ := Option.bind_eq_some_iff.mp hf
  refine pm_ca (y := 31) (as := [.inr (.inr (3, 0))]) (r := some (.inl r3)) (w2 := w) (w1 := w) (t := [.inl r1]) (i2 := 5) (ls2 := [some (.inr (.inr (3, 0))), some (.inr (.inr (7, a1)))]) 1 (a_X5_everybody F w r3 d (by omega) hr4) (fun F h => h) ?_
  show pm_Gx (RT d) co_X5_doAllHear 5 [some (.inr (.inr (3, 0))), some (.inr (.inr (7, a1)))] [.inl r3, .inl r1] w Q
  have key : pm_Gx (RT d) co_X5_doAllHear 9 [some (.inr (.inr (3, 0))), some (.inr (.inr (7, a1)))] [.inl (if r1 = r3 then 1 else 0 : Int32)] w Q := by
    obtain ⟨hz5, hf⟩ := pm_itn hf
    obtain rfl := Option.some.inj hf
    exact pm_re (r := some (.inl (if r1 = r3 then 1 else 0 : Int32))) (w2 := w) 1 (fun F h => ⟨pm_isb_nar hz5, h⟩) hq
  clear hf
  refine pm_if (P := r1 = r3) (i2 := 6) (i3 := 8) (ls2 := [some (.inr (.inr (3, 0))), some (.inr (.inr (7, a1)))]) (st2 := []) (w2 := w) 1 (fun F h => h) (fun hc6 => ?_) (fun hc6 => ?_)
  · try simp only [if_pos hc6] at key
    refine pm_go (i2 := 9) (ls2 := [some (.inr (.inr (3, 0))), some (.inr (.inr (7, a1)))]) (st2 := [.inl 1]) (w2 := w) 2 (fun F h => h) ?_
    exact key
  · try simp only [if_neg hc6] at key
    refine pm_go (i2 := 9) (ls2 := [some (.inr (.inr (3, 0))), some (.inr (.inr (7, a1)))]) (st2 := [.inl 0]) (w2 := w) 1 (fun F h => h) ?_
    exact key
set_option maxRecDepth 20000 in
set_option maxHeartbeats 4000000 in
theorem a_X5_doAllHear (F : Nat) (w : pm_W) (a1 : Nat) (x : Int32) (d : Nat) (hd : 3 ≤ d) (hf : f_X5_doAllHear F w a1 = some x) : RT d 38 [.inr (.inr (3, 0)), .inr (.inr (7, a1))] w (some (.inl x)) w := by
  obtain ⟨d, rfl, hd2⟩ := pm_dep hd
  exact pm_start (co := co_X5_doAllHear) (nL := 2) (by decide) rfl rfl (Nat.le_of_ble_eq_true rfl) (b_X5_doAllHear F d hd2 _ w a1 x hf ⟨rfl, rfl⟩)
def f_X3_isReached (F : Nat) (w : pm_W) (a1 : Nat) (a2 : Int32) : Option (Int32) := (if a2 = 0 then ((f_X5_doAllHear F w a1).bind fun r2 => (if pm_isb r2 = true then some r2 else none)) else (if pm_isb (if (w.1 7 a1 1) = a2 then 1 else 0 : Int32) = true then some (if (w.1 7 a1 1) = a2 then 1 else 0 : Int32) else none))
set_option maxRecDepth 20000 in
set_option maxHeartbeats 4000000 in
theorem b_X3_isReached (F : Nat) (d : Nat) (hd : 3 ≤ d) (Q : pm_Q) (w : pm_W) (a1 : Nat) (a2 : Int32) (x : Int32) (hf : f_X3_isReached F w a1 a2 = some x) (hq : Q (some (.inl x)) w) : pm_Gx (RT d) co_X3_isReached 0 [some (.inr (.inr (16, 0))), some (.inr (.inr (7, a1))), some (.inl a2)] [] w Q := by
  unfold f_X3_isReached at hf
  refine pm_go (i2 := 1) (ls2 := [some (.inr (.inr (16, 0))), some (.inr (.inr (7, a1))), some (.inl a2)]) (st2 := [.inl a2]) (w2 := w) 1 (fun F h => h) ?_
  refine pm_if (P := a2 = 0) (i2 := 2) (i3 := 7) (ls2 := [some (.inr (.inr (16, 0))), some (.inr (.inr (7, a1))), some (.inl a2)]) (st2 := []) (w2 := w) 1 (fun F h => h) (fun hc1 => ?_) (fun hc1 => ?_)
  · rw [if_pos hc1] at hf
    refine pm_go (i2 := 5) (ls2 := [some (.inr (.inr (16, 0))), some (.inr (.inr (7, a1))), some (.inl a2)]) (st2 := [.inr (.inr (7, a1)), .inr (.inr (3, 0))]) (w2 := w) 3 (fun F h => h) ?_
    obtain ⟨r2, hr3, hf⟩ := Option.bind_eq_some_iff.mp hf
    refine pm_ca (y := 38) (as := [.inr (.inr (3, 0)), .inr (.inr (7, a1))]) (r := some (.inl r2)) (w2 := w) (w1 := w) (t := []) (i2 := 6) (ls2 := [some (.inr (.inr (16, 0))), some (.inr (.inr (7, a1))), some (.inl a2)]) 1 (a_X5_doAllHear F w a1 r2 d (by omega) hr3) (fun F h => h) ?_
    show pm_Gx (RT d) co_X3_isReached 6 [some (.inr (.inr (16, 0))), some (.inr (.inr (7, a1))), some (.inl a2)] [.inl r2] w Q
    refine pm_go (i2 := 14) (ls2 := [some (.inr (.inr (16, 0))), some (.inr (.inr (7, a1))), some (.inl a2)]) (st2 := [.inl r2]) (w2 := w) 1 (fun F h => h) ?_
    obtain ⟨hz4, hf⟩ := pm_itn hf
    obtain rfl := Option.some.inj hf
    exact pm_re (r := some (.inl r2)) (w2 := w) 1 (fun F h => ⟨pm_isb_nar hz4, h⟩) hq
  · rw [if_neg hc1] at hf
    refine pm_go (i2 := 10) (ls2 := [some (.inr (.inr (16, 0))), some (.inr (.inr (7, a1))), some (.inl a2)]) (st2 := [.inl a2, .inl (w.1 7 a1 1)]) (w2 := w) 3 (fun F h => h) ?_
    have key : pm_Gx (RT d) co_X3_isReached 14 [some (.inr (.inr (16, 0))), some (.inr (.inr (7, a1))), some (.inl a2)] [.inl (if (w.1 7 a1 1) = a2 then 1 else 0 : Int32)] w Q := by
      obtain ⟨hz5, hf⟩ := pm_itn hf
      obtain rfl := Option.some.inj hf
      exact pm_re (r := some (.inl (if (w.1 7 a1 1) = a2 then 1 else 0 : Int32))) (w2 := w) 1 (fun F h => ⟨pm_isb_nar hz5, h⟩) hq
    clear hf
    refine pm_if (P := (w.1 7 a1 1) = a2) (i2 := 11) (i3 := 13) (ls2 := [some (.inr (.inr (16, 0))), some (.inr (.inr (7, a1))), some (.inl a2)]) (st2 := []) (w2 := w) 1 (fun F h => h) (fun hc6 => ?_) (fun hc6 => ?_)
    · try simp only [if_pos hc6] at key
      refine pm_go (i2 := 14) (ls2 := [some (.inr (.inr (16, 0))), some (.inr (.inr (7, a1))), some (.inl a2)]) (st2 := [.inl 1]) (w2 := w) 2 (fun F h => h) ?_
      exact key
    · try simp only [if_neg hc6] at key
      refine pm_go (i2 := 14) (ls2 := [some (.inr (.inr (16, 0))), some (.inr (.inr (7, a1))), some (.inl a2)]) (st2 := [.inl 0]) (w2 := w) 1 (fun F h => h) ?_
      exact key
set_option maxRecDepth 20000 in
set_option maxHeartbeats 4000000 in
theorem a_X3_isReached (F : Nat) (w : pm_W) (a1 : Nat) (a2 : Int32) (x : Int32) (d : Nat) (hd : 4 ≤ d) (hf : f_X3_isReached F w a1 a2 = some x) : RT d 22 [.inr (.inr (16, 0)), .inr (.inr (7, a1)), .inl a2] w (some (.inl x)) w := by
  obtain ⟨d, rfl, hd2⟩ := pm_dep hd
  exact pm_start (co := co_X3_isReached) (nL := 3) (by decide) rfl rfl (Nat.le_of_ble_eq_true rfl) (b_X3_isReached F d hd2 _ w a1 a2 x hf ⟨rfl, rfl⟩)
def f_X3_trySayings_L36 (F : Nat) (rec : pm_W → Int32 → Int32 → Int32 → Int32 → Option ((Int32 × pm_W))) : Nat → pm_W → Int32 → Int32 → Int32 → Int32 → Nat → Nat → Int32 → Option ((Int32 × pm_W) ⊕ (Int32 × pm_W))
  | 0, _, _, _, _, _, _, _, _ => none
  | n + 1, w, v1, v2, v3, v4, v5, v6, v7 => (if (w.1 3 0 3) ≤ v7 then some (.inl (v7, w)) else ((f_X4_become F w v6 v5).bind fun r14 => ((f_X5_speakIfCan F r14 v6 v7).bind fun r16 => (if r16.1 = 0 then f_X3_trySayings_L36 F rec n r16.2 v1 v2 v3 v4 v5 v6 (v7 + 1) else ((rec r16.2 (v1 + 1) v2 (((v3 * 10) + v7) + 1) v4).bind fun r19 => (if r19.1 = (-9) then f_X3_trySayings_L36 F rec n r19.2 v1 v2 v3 v4 v5 v6 (v7 + 1) else some (.inr (r19.1, r19.2))))))))
def f_X3_trySayings_B (F : Nat) (rec : pm_W → Int32 → Int32 → Int32 → Int32 → Option ((Int32 × pm_W))) (w : pm_W) (a1 : Int32) (a2 : Int32) (a3 : Int32) (a4 : Int32) : Option ((Int32 × pm_W)) := (if a1 < 0 then some ((-9), w) else (if a1 ≤ 5 then (if pm_inb a1 6 = true then (if a2 ≤ a1 then ((f_X3_isReached F w (17 + a1.toNatClampNeg) a4).bind fun r5 => some ((if r5 = 0 then (-9) else a3 : Int32), w)) else (if a1 = 5 then ((f_X3_isReached F w (17 + a1.toNatClampNeg) a4).bind fun r9 => some ((if r9 = 0 then (-9) else a3 : Int32), w)) else (if pm_inb (a1 + 1) 6 = true then ((f_X3_trySayings_L36 F rec F w a1 a2 a3 a4 (17 + a1.toNatClampNeg) (17 + (a1 + 1).toNatClampNeg) 0).bind fun x22 => Sum.elim (fun ex22 => some ((-9), ex22.2)) (fun rx22 => some rx22) x22) else none))) else none) else some ((-9), w)))
def f_X3_trySayings (F : Nat) : Nat → pm_W → Int32 → Int32 → Int32 → Int32 → Option ((Int32 × pm_W))
  | 0, _, _, _, _, _ => none
  | D + 1, w, a1, a2, a3, a4 => f_X3_trySayings_B F (f_X3_trySayings F D) w a1 a2 a3 a4
set_option maxRecDepth 20000 in
set_option maxHeartbeats 4000000 in
theorem a_X3_trySayings_L36 (F : Nat) (rec : pm_W → Int32 → Int32 → Int32 → Int32 → Option ((Int32 × pm_W))) (d : Nat) (hd : 4 ≤ d) (hrec : ∀ (w : pm_W) (a1 : Int32) (a2 : Int32) (a3 : Int32) (a4 : Int32) (r : (Int32 × pm_W)), rec w a1 a2 a3 a4 = some r → RT d 21 [.inr (.inr (16, 0)), .inl a1, .inl a2, .inl a3, .inl a4] w (some (.inl r.1)) r.2) (Q : pm_Q) : ∀ (n : Nat) (w : pm_W) (v1 : Int32) (v2 : Int32) (v3 : Int32) (v4 : Int32) (v5 : Nat) (v6 : Nat) (v7 : Int32) (x : (Int32 × pm_W) ⊕ (Int32 × pm_W)), f_X3_trySayings_L36 F rec n w v1 v2 v3 v4 v5 v6 v7 = some x → (∀ e, x = .inl e → pm_Gx (RT d) co_X3_trySayings 72 [some (.inr (.inr (16, 0))), some (.inl v1), some (.inl v2), some (.inl v3), some (.inl v4), some (.inr (.inr (7, v5))), some (.inr (.inr (7, v6))), some (.inl e.1), none] [] e.2 Q) → (∀ r, x = .inr r → Q (some (.inl r.1)) r.2) → pm_Gx (RT d) co_X3_trySayings 36 [some (.inr (.inr (16, 0))), some (.inl v1), some (.inl v2), some (.inl v3), some (.inl v4), some (.inr (.inr (7, v5))), some (.inr (.inr (7, v6))), some (.inl v7), none] [] w Q := by
  intro n
  induction n with
  | zero =>
    intro w v1 v2 v3 v4 v5 v6 v7 x hf
    cases hf
  | succ n ih =>
    intro w v1 v2 v3 v4 v5 v6 v7 x hf hk hq
    rw [f_X3_trySayings_L36] at hf
    refine pm_go (i2 := 40) (ls2 := [some (.inr (.inr (16, 0))), some (.inl v1), some (.inl v2), some (.inl v3), some (.inl v4), some (.inr (.inr (7, v5))), some (.inr (.inr (7, v6))), some (.inl v7), none]) (st2 := [.inl (w.1 3 0 3), .inl v7]) (w2 := w) 4 (fun F h => h) ?_
    refine pm_if (P := (w.1 3 0 3) ≤ v7) (i2 := 72) (i3 := 41) (ls2 := [some (.inr (.inr (16, 0))), some (.inl v1), some (.inl v2), some (.inl v3), some (.inl v4), some (.inr (.inr (7, v5))), some (.inr (.inr (7, v6))), some (.inl v7), none]) (st2 := []) (w2 := w) 1 (fun F h => h) (fun hc13 => ?_) (fun hc13 => ?_)
    · rw [if_pos hc13] at hf
      obtain rfl := Option.some.inj hf
      exact hk _ rfl
    · rw [if_neg hc13] at hf
      refine pm_go (i2 := 43) (ls2 := [some (.inr (.inr (16, 0))), some (.inl v1), some (.inl v2), some (.inl v3), some (.inl v4), some (.inr (.inr (7, v5))), some (.inr (.inr (7, v6))), some (.inl v7), none]) (st2 := [.inr (.inr (7, v5)), .inr (.inr (7, v6))]) (w2 := w) 2 (fun F h => h) ?_
      obtain ⟨r14, hr15, hf⟩ := Option.bind_eq_some_iff.mp hf
      refine pm_ca (y := 27) (as := [.inr (.inr (7, v6)), .inr (.inr (7, v5))]) (r := none) (w2 := w) (w1 := r14) (t := []) (i2 := 44) (ls2 := [some (.inr (.inr (16, 0))), some (.inl v1), some (.inl v2), some (.inl v3), some (.inl v4), some (.inr (.inr (7, v5))), some (.inr (.inr (7, v6))), some (.inl v7), none]) 1 (a_X4_become F w v6 v5 r14 d (by omega) hr15) (fun F h => h) ?_
      show pm_Gx (RT d) co_X3_trySayings 44 [some (.inr (.inr (16, 0))), some (.inl v1), some (.inl v2), some (.inl v3), some (.inl v4), some (.inr (.inr (7, v5))), some (.inr (.inr (7, v6))), some (.inl v7), none] [] r14 Q
      refine pm_go (i2 := 48) (ls2 := [some (.inr (.inr (16, 0))), some (.inl v1), some (.inl v2), some (.inl v3), some (.inl v4), some (.inr (.inr (7, v5))), some (.inr (.inr (7, v6))), some (.inl v7), none]) (st2 := [.inl v7, .inr (.inr (7, v6)), .inr (.inr (3, 0))]) (w2 := r14) 4 (fun F h => h) ?_
      obtain ⟨r16, hr17, hf⟩ := Option.bind_eq_some_iff.mp hf
      refine pm_ca (y := 34) (as := [.inr (.inr (3, 0)), .inr (.inr (7, v6)), .inl v7]) (r := some (.inl r16.1)) (w2 := r14) (w1 := r16.2) (t := []) (i2 := 49) (ls2 := [some (.inr (.inr (16, 0))), some (.inl v1), some (.inl v2), some (.inl v3), some (.inl v4), some (.inr (.inr (7, v5))), some (.inr (.inr (7, v6))), some (.inl v7), none]) 1 (a_X5_speakIfCan F r14 v6 v7 r16 d (by omega) hr17) (fun F h => h) ?_
      show pm_Gx (RT d) co_X3_trySayings 49 [some (.inr (.inr (16, 0))), some (.inl v1), some (.inl v2), some (.inl v3), some (.inl v4), some (.inr (.inr (7, v5))), some (.inr (.inr (7, v6))), some (.inl v7), none] [.inl r16.1] r16.2 Q
      refine pm_if (P := r16.1 = 0) (i2 := 70) (i3 := 50) (ls2 := [some (.inr (.inr (16, 0))), some (.inl v1), some (.inl v2), some (.inl v3), some (.inl v4), some (.inr (.inr (7, v5))), some (.inr (.inr (7, v6))), some (.inl v7), none]) (st2 := []) (w2 := r16.2) 1 (fun F h => h) (fun hc18 => ?_) (fun hc18 => ?_)
      · rw [if_pos hc18] at hf
        refine pm_go (i2 := 36) (ls2 := [some (.inr (.inr (16, 0))), some (.inl v1), some (.inl v2), some (.inl v3), some (.inl v4), some (.inr (.inr (7, v5))), some (.inr (.inr (7, v6))), some (.inl (v7 + 1)), none]) (st2 := []) (w2 := r16.2) 2 (fun F h => h) ?_
        exact ih r16.2 v1 v2 v3 v4 v5 v6 (v7 + 1) _ hf hk hq
      · rw [if_neg hc18] at hf
        refine pm_go (i2 := 63) (ls2 := [some (.inr (.inr (16, 0))), some (.inl v1), some (.inl v2), some (.inl v3), some (.inl v4), some (.inr (.inr (7, v5))), some (.inr (.inr (7, v6))), some (.inl v7), none]) (st2 := [.inl v4, .inl (((v3 * 10) + v7) + 1), .inl v2, .inl (v1 + 1), .inr (.inr (16, 0))]) (w2 := r16.2) 13 (fun F h => h) ?_
        obtain ⟨r19, hr20, hf⟩ := Option.bind_eq_some_iff.mp hf
        refine pm_ca (y := 21) (as := [.inr (.inr (16, 0)), .inl (v1 + 1), .inl v2, .inl (((v3 * 10) + v7) + 1), .inl v4]) (r := some (.inl r19.1)) (w2 := r16.2) (w1 := r19.2) (t := []) (i2 := 64) (ls2 := [some (.inr (.inr (16, 0))), some (.inl v1), some (.inl v2), some (.inl v3), some (.inl v4), some (.inr (.inr (7, v5))), some (.inr (.inr (7, v6))), some (.inl v7), none]) 1 (hrec r16.2 (v1 + 1) v2 (((v3 * 10) + v7) + 1) v4 r19 hr20) (fun F h => h) ?_
        show pm_Gx (RT d) co_X3_trySayings 64 [some (.inr (.inr (16, 0))), some (.inl v1), some (.inl v2), some (.inl v3), some (.inl v4), some (.inr (.inr (7, v5))), some (.inr (.inr (7, v6))), some (.inl v7), none] [.inl r19.1] r19.2 Q
        refine pm_go (i2 := 67) (ls2 := [some (.inr (.inr (16, 0))), some (.inl v1), some (.inl v2), some (.inl v3), some (.inl v4), some (.inr (.inr (7, v5))), some (.inr (.inr (7, v6))), some (.inl v7), some (.inl r19.1)]) (st2 := [.inl (-9), .inl r19.1]) (w2 := r19.2) 3 (fun F h => h) ?_
        refine pm_if (P := r19.1 = (-9)) (i2 := 70) (i3 := 68) (ls2 := [some (.inr (.inr (16, 0))), some (.inl v1), some (.inl v2), some (.inl v3), some (.inl v4), some (.inr (.inr (7, v5))), some (.inr (.inr (7, v6))), some (.inl v7), some (.inl r19.1)]) (st2 := []) (w2 := r19.2) 1 (fun F h => h) (fun hc21 => ?_) (fun hc21 => ?_)
        · rw [if_pos hc21] at hf
          refine pm_go (i2 := 36) (ls2 := [some (.inr (.inr (16, 0))), some (.inl v1), some (.inl v2), some (.inl v3), some (.inl v4), some (.inr (.inr (7, v5))), some (.inr (.inr (7, v6))), some (.inl (v7 + 1)), some (.inl r19.1)]) (st2 := []) (w2 := r19.2) 2 (fun F h => h) ?_
          refine pm_wk (ls := [some (.inr (.inr (16, 0))), some (.inl v1), some (.inl v2), some (.inl v3), some (.inl v4), some (.inr (.inr (7, v5))), some (.inr (.inr (7, v6))), some (.inl (v7 + 1)), none]) ⟨.inr rfl, .inr rfl, .inr rfl, .inr rfl, .inr rfl, .inr rfl, .inr rfl, .inr rfl, .inl rfl, trivial⟩ ?_
          exact ih r19.2 v1 v2 v3 v4 v5 v6 (v7 + 1) _ hf hk hq
        · rw [if_neg hc21] at hf
          refine pm_go (i2 := 69) (ls2 := [some (.inr (.inr (16, 0))), some (.inl v1), some (.inl v2), some (.inl v3), some (.inl v4), some (.inr (.inr (7, v5))), some (.inr (.inr (7, v6))), some (.inl v7), some (.inl r19.1)]) (st2 := [.inl r19.1]) (w2 := r19.2) 1 (fun F h => h) ?_
          obtain rfl := Option.some.inj hf
          exact pm_re (r := some (.inl r19.1)) (w2 := r19.2) 1 (fun F h => h) (hq _ rfl)
set_option maxRecDepth 20000 in
set_option maxHeartbeats 4000000 in
theorem b_X3_trySayings (F : Nat) (rec : pm_W → Int32 → Int32 → Int32 → Int32 → Option ((Int32 × pm_W))) (d : Nat) (hd : 4 ≤ d) (hrec : ∀ (w : pm_W) (a1 : Int32) (a2 : Int32) (a3 : Int32) (a4 : Int32) (r : (Int32 × pm_W)), rec w a1 a2 a3 a4 = some r → RT d 21 [.inr (.inr (16, 0)), .inl a1, .inl a2, .inl a3, .inl a4] w (some (.inl r.1)) r.2) (Q : pm_Q) (w : pm_W) (a1 : Int32) (a2 : Int32) (a3 : Int32) (a4 : Int32) (x : (Int32 × pm_W)) (hf : f_X3_trySayings_B F rec w a1 a2 a3 a4 = some x) (hq : Q (some (.inl x.1)) x.2) : pm_Gx (RT d) co_X3_trySayings 0 [some (.inr (.inr (16, 0))), some (.inl a1), some (.inl a2), some (.inl a3), some (.inl a4), none, none, none, none] [] w Q := by
  unfold f_X3_trySayings_B at hf
  refine pm_go (i2 := 1) (ls2 := [some (.inr (.inr (16, 0))), some (.inl a1), some (.inl a2), some (.inl a3), some (.inl a4), none, none, none, none]) (st2 := [.inl a1]) (w2 := w) 1 (fun F h => h) ?_
  refine pm_if (P := a1 < 0) (i2 := 5) (i3 := 2) (ls2 := [some (.inr (.inr (16, 0))), some (.inl a1), some (.inl a2), some (.inl a3), some (.inl a4), none, none, none, none]) (st2 := []) (w2 := w) 1 (fun F h => h) (fun hc1 => ?_) (fun hc1 => ?_)
  · rw [if_pos hc1] at hf
    refine pm_go (i2 := 6) (ls2 := [some (.inr (.inr (16, 0))), some (.inl a1), some (.inl a2), some (.inl a3), some (.inl a4), none, none, none, none]) (st2 := [.inl (-9)]) (w2 := w) 1 (fun F h => h) ?_
    obtain rfl := Option.some.inj hf
    exact pm_re (r := some (.inl (-9))) (w2 := w) 1 (fun F h => h) hq
  · rw [if_neg hc1] at hf
    refine pm_go (i2 := 4) (ls2 := [some (.inr (.inr (16, 0))), some (.inl a1), some (.inl a2), some (.inl a3), some (.inl a4), none, none, none, none]) (st2 := [.inl 5, .inl a1]) (w2 := w) 2 (fun F h => h) ?_
    refine pm_if (P := a1 ≤ 5) (i2 := 7) (i3 := 5) (ls2 := [some (.inr (.inr (16, 0))), some (.inl a1), some (.inl a2), some (.inl a3), some (.inl a4), none, none, none, none]) (st2 := []) (w2 := w) 1 (fun F h => h) (fun hc2 => ?_) (fun hc2 => ?_)
    · rw [if_pos hc2] at hf
      obtain ⟨hs3, hf⟩ := pm_itn hf
      refine pm_go (i2 := 14) (ls2 := [some (.inr (.inr (16, 0))), some (.inl a1), some (.inl a2), some (.inl a3), some (.inl a4), some (.inr (.inr (7, (17 + a1.toNatClampNeg)))), none, none, none]) (st2 := [.inl a2, .inl a1]) (w2 := w) 7 (fun F h => ⟨(pm_inb_in hs3), h⟩) ?_
      refine pm_if (P := a2 ≤ a1) (i2 := 18) (i3 := 15) (ls2 := [some (.inr (.inr (16, 0))), some (.inl a1), some (.inl a2), some (.inl a3), some (.inl a4), some (.inr (.inr (7, (17 + a1.toNatClampNeg)))), none, none, none]) (st2 := []) (w2 := w) 1 (fun F h => h) (fun hc4 => ?_) (fun hc4 => ?_)
      · rw [if_pos hc4] at hf
        refine pm_go (i2 := 21) (ls2 := [some (.inr (.inr (16, 0))), some (.inl a1), some (.inl a2), some (.inl a3), some (.inl a4), some (.inr (.inr (7, (17 + a1.toNatClampNeg)))), none, none, none]) (st2 := [.inl a4, .inr (.inr (7, (17 + a1.toNatClampNeg))), .inr (.inr (16, 0))]) (w2 := w) 3 (fun F h => h) ?_
        obtain ⟨r5, hr6, hf⟩ := Option.bind_eq_some_iff.mp hf
        refine pm_ca (y := 22) (as := [.inr (.inr (16, 0)), .inr (.inr (7, (17 + a1.toNatClampNeg))), .inl a4]) (r := some (.inl r5)) (w2 := w) (w1 := w) (t := []) (i2 := 22) (ls2 := [some (.inr (.inr (16, 0))), some (.inl a1), some (.inl a2), some (.inl a3), some (.inl a4), some (.inr (.inr (7, (17 + a1.toNatClampNeg)))), none, none, none]) 1 (a_X3_isReached F w (17 + a1.toNatClampNeg) a4 r5 d (by omega) hr6) (fun F h => h) ?_
        show pm_Gx (RT d) co_X3_trySayings 22 [some (.inr (.inr (16, 0))), some (.inl a1), some (.inl a2), some (.inl a3), some (.inl a4), some (.inr (.inr (7, (17 + a1.toNatClampNeg)))), none, none, none] [.inl r5] w Q
        have key : pm_Gx (RT d) co_X3_trySayings 26 [some (.inr (.inr (16, 0))), some (.inl a1), some (.inl a2), some (.inl a3), some (.inl a4), some (.inr (.inr (7, (17 + a1.toNatClampNeg)))), none, none, none] [.inl (if r5 = 0 then (-9) else a3 : Int32)] w Q := by
          obtain rfl := Option.some.inj hf
          exact pm_re (r := some (.inl (if r5 = 0 then (-9) else a3 : Int32))) (w2 := w) 1 (fun F h => h) hq
        clear hf
        refine pm_if (P := r5 = 0) (i2 := 25) (i3 := 23) (ls2 := [some (.inr (.inr (16, 0))), some (.inl a1), some (.inl a2), some (.inl a3), some (.inl a4), some (.inr (.inr (7, (17 + a1.toNatClampNeg)))), none, none, none]) (st2 := []) (w2 := w) 1 (fun F h => h) (fun hc7 => ?_) (fun hc7 => ?_)
        · try simp only [if_pos hc7] at key
          refine pm_go (i2 := 26) (ls2 := [some (.inr (.inr (16, 0))), some (.inl a1), some (.inl a2), some (.inl a3), some (.inl a4), some (.inr (.inr (7, (17 + a1.toNatClampNeg)))), none, none, none]) (st2 := [.inl (-9)]) (w2 := w) 1 (fun F h => h) ?_
          exact key
        · try simp only [if_neg hc7] at key
          refine pm_go (i2 := 26) (ls2 := [some (.inr (.inr (16, 0))), some (.inl a1), some (.inl a2), some (.inl a3), some (.inl a4), some (.inr (.inr (7, (17 + a1.toNatClampNeg)))), none, none, none]) (st2 := [.inl a3]) (w2 := w) 2 (fun F h => h) ?_
          exact key
      · rw [if_neg hc4] at hf
        refine pm_go (i2 := 17) (ls2 := [some (.inr (.inr (16, 0))), some (.inl a1), some (.inl a2), some (.inl a3), some (.inl a4), some (.inr (.inr (7, (17 + a1.toNatClampNeg)))), none, none, none]) (st2 := [.inl 5, .inl a1]) (w2 := w) 2 (fun F h => h) ?_
        refine pm_if (P := a1 = 5) (i2 := 18) (i3 := 27) (ls2 := [some (.inr (.inr (16, 0))), some (.inl a1), some (.inl a2), some (.inl a3), some (.inl a4), some (.inr (.inr (7, (17 + a1.toNatClampNeg)))), none, none, none]) (st2 := []) (w2 := w) 1 (fun F h => h) (fun hc8 => ?_) (fun hc8 => ?_)
        · rw [if_pos hc8] at hf
          refine pm_go (i2 := 21) (ls2 := [some (.inr (.inr (16, 0))), some (.inl a1), some (.inl a2), some (.inl a3), some (.inl a4), some (.inr (.inr (7, (17 + a1.toNatClampNeg)))), none, none, none]) (st2 := [.inl a4, .inr (.inr (7, (17 + a1.toNatClampNeg))), .inr (.inr (16, 0))]) (w2 := w) 3 (fun F h => h) ?_
          obtain ⟨r9, hr10, hf⟩ := Option.bind_eq_some_iff.mp hf
          refine pm_ca (y := 22) (as := [.inr (.inr (16, 0)), .inr (.inr (7, (17 + a1.toNatClampNeg))), .inl a4]) (r := some (.inl r9)) (w2 := w) (w1 := w) (t := []) (i2 := 22) (ls2 := [some (.inr (.inr (16, 0))), some (.inl a1), some (.inl a2), some (.inl a3), some (.inl a4), some (.inr (.inr (7, (17 + a1.toNatClampNeg)))), none, none, none]) 1 (a_X3_isReached F w (17 + a1.toNatClampNeg) a4 r9 d (by omega) hr10) (fun F h => h) ?_
          show pm_Gx (RT d) co_X3_trySayings 22 [some (.inr (.inr (16, 0))), some (.inl a1), some (.inl a2), some (.inl a3), some (.inl a4), some (.inr (.inr (7, (17 + a1.toNatClampNeg)))), none, none, none] [.inl r9] w Q
          have key : pm_Gx (RT d) co_X3_trySayings 26 [some (.inr (.inr (16, 0))), some (.inl a1), some (.inl a2), some (.inl a3), some (.inl a4), some (.inr (.inr (7, (17 + a1.toNatClampNeg)))), none, none, none] [.inl (if r9 = 0 then (-9) else a3 : Int32)] w Q := by
            obtain rfl := Option.some.inj hf
            exact pm_re (r := some (.inl (if r9 = 0 then (-9) else a3 : Int32))) (w2 := w) 1 (fun F h => h) hq
          clear hf
          refine pm_if (P := r9 = 0) (i2 := 25) (i3 := 23) (ls2 := [some (.inr (.inr (16, 0))), some (.inl a1), some (.inl a2), some (.inl a3), some (.inl a4), some (.inr (.inr (7, (17 + a1.toNatClampNeg)))), none, none, none]) (st2 := []) (w2 := w) 1 (fun F h => h) (fun hc11 => ?_) (fun hc11 => ?_)
          · try simp only [if_pos hc11] at key
            refine pm_go (i2 := 26) (ls2 := [some (.inr (.inr (16, 0))), some (.inl a1), some (.inl a2), some (.inl a3), some (.inl a4), some (.inr (.inr (7, (17 + a1.toNatClampNeg)))), none, none, none]) (st2 := [.inl (-9)]) (w2 := w) 1 (fun F h => h) ?_
            exact key
          · try simp only [if_neg hc11] at key
            refine pm_go (i2 := 26) (ls2 := [some (.inr (.inr (16, 0))), some (.inl a1), some (.inl a2), some (.inl a3), some (.inl a4), some (.inr (.inr (7, (17 + a1.toNatClampNeg)))), none, none, none]) (st2 := [.inl a3]) (w2 := w) 2 (fun F h => h) ?_
            exact key
        · rw [if_neg hc8] at hf
          obtain ⟨hs12, hf⟩ := pm_itn hf
          refine pm_go (i2 := 36) (ls2 := [some (.inr (.inr (16, 0))), some (.inl a1), some (.inl a2), some (.inl a3), some (.inl a4), some (.inr (.inr (7, (17 + a1.toNatClampNeg)))), some (.inr (.inr (7, (17 + (a1 + 1).toNatClampNeg)))), some (.inl 0), none]) (st2 := []) (w2 := w) 9 (fun F h => ⟨(pm_inb_in hs12), h⟩) ?_
          obtain ⟨x22, hx23, hf⟩ := Option.bind_eq_some_iff.mp hf
          refine a_X3_trySayings_L36 F rec d hd hrec Q F w a1 a2 a3 a4 (17 + a1.toNatClampNeg) (17 + (a1 + 1).toNatClampNeg) 0 x22 hx23 (fun ex22 hx22 => ?_) (fun rx22 hx22 => ?_)
          · subst hx22
            change _ = _ at hf
            refine pm_go (i2 := 73) (ls2 := [some (.inr (.inr (16, 0))), some (.inl a1), some (.inl a2), some (.inl a3), some (.inl a4), some (.inr (.inr (7, (17 + a1.toNatClampNeg)))), some (.inr (.inr (7, (17 + (a1 + 1).toNatClampNeg)))), some (.inl ex22.1), none]) (st2 := [.inl (-9)]) (w2 := ex22.2) 1 (fun F h => h) ?_
            obtain rfl := Option.some.inj hf
            exact pm_re (r := some (.inl (-9))) (w2 := ex22.2) 1 (fun F h => h) hq
          · subst hx22
            obtain rfl := Option.some.inj (show some rx22 = some x from hf)
            exact hq
    · rw [if_neg hc2] at hf
      refine pm_go (i2 := 6) (ls2 := [some (.inr (.inr (16, 0))), some (.inl a1), some (.inl a2), some (.inl a3), some (.inl a4), none, none, none, none]) (st2 := [.inl (-9)]) (w2 := w) 1 (fun F h => h) ?_
      obtain rfl := Option.some.inj hf
      exact pm_re (r := some (.inl (-9))) (w2 := w) 1 (fun F h => h) hq
set_option maxRecDepth 20000 in
set_option maxHeartbeats 4000000 in
theorem a_X3_trySayings_D (F : Nat) : ∀ (D : Nat) (w : pm_W) (a1 : Int32) (a2 : Int32) (a3 : Int32) (a4 : Int32) (x : (Int32 × pm_W)) (d : Nat) (hd : 5 + D ≤ d) (hf : f_X3_trySayings F D w a1 a2 a3 a4 = some x), RT d 21 [.inr (.inr (16, 0)), .inl a1, .inl a2, .inl a3, .inl a4] w (some (.inl x.1)) x.2 := by
  intro D
  induction D with
  | zero =>
    intro w a1 a2 a3 a4 x d hd hf
    cases hf
  | succ D ih =>
    intro w a1 a2 a3 a4 x d hd hf
    obtain ⟨d, rfl, hd2⟩ := pm_dep (show (5 + D) + 1 ≤ d by omega)
    exact pm_start (co := co_X3_trySayings) (nL := 9) (by decide) rfl rfl (Nat.le_of_ble_eq_true rfl) (b_X3_trySayings F (f_X3_trySayings F D) d (by omega) (fun w a1 a2 a3 a4 r hr => ih w a1 a2 a3 a4 r d (by omega) hr) _ w a1 a2 a3 a4 x hf ⟨rfl, rfl⟩)
theorem a_X3_trySayings (F : Nat) (w : pm_W) (a1 : Int32) (a2 : Int32) (a3 : Int32) (a4 : Int32) (x : (Int32 × pm_W)) (d : Nat) (hd : 13 ≤ d) (hf : f_X3_trySayings F 8 w a1 a2 a3 a4 = some x) : RT d 21 [.inr (.inr (16, 0)), .inl a1, .inl a2, .inl a3, .inl a4] w (some (.inl x.1)) x.2 := a_X3_trySayings_D F 8 w a1 a2 a3 a4 x d (by omega) hf
def f_X3_fewestSayings_L6 (F : Nat) : Nat → pm_W → Nat → Int32 → Int32 → Option ((Int32 × pm_W) ⊕ (Int32 × pm_W))
  | 0, _, _, _, _ => none
  | n + 1, w, v1, v2, v3 => (if 4 < v3 then some (.inl (v3, w)) else ((f_X3_trySayings F 8 w 0 v3 0 v2).bind fun r4 => (if r4.1 = (-9) then f_X3_fewestSayings_L6 F n r4.2 v1 v2 (v3 + 1) else some (.inr (r4.1, r4.2)))))
def f_X3_fewestSayings (F : Nat) (w : pm_W) (a1 : Nat) (a2 : Int32) : Option ((Int32 × pm_W)) := ((f_X3_trialFrom F w a1).bind fun r1 => ((f_X3_fewestSayings_L6 F F r1.2 a1 a2 0).bind fun x7 => Sum.elim (fun ex7 => some ((-9), ex7.2)) (fun rx7 => some rx7) x7))
set_option maxRecDepth 20000 in
set_option maxHeartbeats 4000000 in
theorem a_X3_fewestSayings_L6 (F : Nat) (d : Nat) (hd : 13 ≤ d) (Q : pm_Q) : ∀ (n : Nat) (w : pm_W) (v1 : Nat) (v2 : Int32) (v3 : Int32) (x : (Int32 × pm_W) ⊕ (Int32 × pm_W)), f_X3_fewestSayings_L6 F n w v1 v2 v3 = some x → (∀ e, x = .inl e → pm_Gx (RT d) co_X3_fewestSayings 23 [some (.inr (.inr (16, 0))), some (.inr (.inr (7, v1))), some (.inl v2), some (.inl e.1), none] [] e.2 Q) → (∀ r, x = .inr r → Q (some (.inl r.1)) r.2) → pm_Gx (RT d) co_X3_fewestSayings 6 [some (.inr (.inr (16, 0))), some (.inr (.inr (7, v1))), some (.inl v2), some (.inl v3), none] [] w Q := by
  intro n
  induction n with
  | zero =>
    intro w v1 v2 v3 x hf
    cases hf
  | succ n ih =>
    intro w v1 v2 v3 x hf hk hq
    rw [f_X3_fewestSayings_L6] at hf
    refine pm_go (i2 := 8) (ls2 := [some (.inr (.inr (16, 0))), some (.inr (.inr (7, v1))), some (.inl v2), some (.inl v3), none]) (st2 := [.inl 4, .inl v3]) (w2 := w) 2 (fun F h => h) ?_
    refine pm_if (P := 4 < v3) (i2 := 23) (i3 := 9) (ls2 := [some (.inr (.inr (16, 0))), some (.inr (.inr (7, v1))), some (.inl v2), some (.inl v3), none]) (st2 := []) (w2 := w) 1 (fun F h => h) (fun hc3 => ?_) (fun hc3 => ?_)
    · rw [if_pos hc3] at hf
      obtain rfl := Option.some.inj hf
      exact hk _ rfl
    · rw [if_neg hc3] at hf
      refine pm_go (i2 := 14) (ls2 := [some (.inr (.inr (16, 0))), some (.inr (.inr (7, v1))), some (.inl v2), some (.inl v3), none]) (st2 := [.inl v2, .inl 0, .inl v3, .inl 0, .inr (.inr (16, 0))]) (w2 := w) 5 (fun F h => h) ?_
      obtain ⟨r4, hr5, hf⟩ := Option.bind_eq_some_iff.mp hf
      refine pm_ca (y := 21) (as := [.inr (.inr (16, 0)), .inl 0, .inl v3, .inl 0, .inl v2]) (r := some (.inl r4.1)) (w2 := w) (w1 := r4.2) (t := []) (i2 := 15) (ls2 := [some (.inr (.inr (16, 0))), some (.inr (.inr (7, v1))), some (.inl v2), some (.inl v3), none]) 1 (a_X3_trySayings F w 0 v3 0 v2 r4 d (by omega) hr5) (fun F h => h) ?_
      show pm_Gx (RT d) co_X3_fewestSayings 15 [some (.inr (.inr (16, 0))), some (.inr (.inr (7, v1))), some (.inl v2), some (.inl v3), none] [.inl r4.1] r4.2 Q
      refine pm_go (i2 := 18) (ls2 := [some (.inr (.inr (16, 0))), some (.inr (.inr (7, v1))), some (.inl v2), some (.inl v3), some (.inl r4.1)]) (st2 := [.inl (-9), .inl r4.1]) (w2 := r4.2) 3 (fun F h => h) ?_
      refine pm_if (P := r4.1 = (-9)) (i2 := 21) (i3 := 19) (ls2 := [some (.inr (.inr (16, 0))), some (.inr (.inr (7, v1))), some (.inl v2), some (.inl v3), some (.inl r4.1)]) (st2 := []) (w2 := r4.2) 1 (fun F h => h) (fun hc6 => ?_) (fun hc6 => ?_)
      · rw [if_pos hc6] at hf
        refine pm_go (i2 := 6) (ls2 := [some (.inr (.inr (16, 0))), some (.inr (.inr (7, v1))), some (.inl v2), some (.inl (v3 + 1)), some (.inl r4.1)]) (st2 := []) (w2 := r4.2) 2 (fun F h => h) ?_
        refine pm_wk (ls := [some (.inr (.inr (16, 0))), some (.inr (.inr (7, v1))), some (.inl v2), some (.inl (v3 + 1)), none]) ⟨.inr rfl, .inr rfl, .inr rfl, .inr rfl, .inl rfl, trivial⟩ ?_
        exact ih r4.2 v1 v2 (v3 + 1) _ hf hk hq
      · rw [if_neg hc6] at hf
        refine pm_go (i2 := 20) (ls2 := [some (.inr (.inr (16, 0))), some (.inr (.inr (7, v1))), some (.inl v2), some (.inl v3), some (.inl r4.1)]) (st2 := [.inl r4.1]) (w2 := r4.2) 1 (fun F h => h) ?_
        obtain rfl := Option.some.inj hf
        exact pm_re (r := some (.inl r4.1)) (w2 := r4.2) 1 (fun F h => h) (hq _ rfl)
set_option maxRecDepth 20000 in
set_option maxHeartbeats 4000000 in
theorem b_X3_fewestSayings (F : Nat) (d : Nat) (hd : 13 ≤ d) (Q : pm_Q) (w : pm_W) (a1 : Nat) (a2 : Int32) (x : (Int32 × pm_W)) (hf : f_X3_fewestSayings F w a1 a2 = some x) (hq : Q (some (.inl x.1)) x.2) : pm_Gx (RT d) co_X3_fewestSayings 0 [some (.inr (.inr (16, 0))), some (.inr (.inr (7, a1))), some (.inl a2), none, none] [] w Q := by
  unfold f_X3_fewestSayings at hf
  refine pm_go (i2 := 2) (ls2 := [some (.inr (.inr (16, 0))), some (.inr (.inr (7, a1))), some (.inl a2), none, none]) (st2 := [.inr (.inr (7, a1)), .inr (.inr (16, 0))]) (w2 := w) 2 (fun F h => h) ?_
  obtain ⟨r1, hr2, hf⟩ := Option.bind_eq_some_iff.mp hf
  refine pm_ca (y := 16) (as := [.inr (.inr (16, 0)), .inr (.inr (7, a1))]) (r := some (.inr (.inr (7, r1.1)))) (w2 := w) (w1 := r1.2) (t := []) (i2 := 3) (ls2 := [some (.inr (.inr (16, 0))), some (.inr (.inr (7, a1))), some (.inl a2), none, none]) 1 (a_X3_trialFrom F w a1 r1 d (by omega) hr2) (fun F h => h) ?_
  show pm_Gx (RT d) co_X3_fewestSayings 3 [some (.inr (.inr (16, 0))), some (.inr (.inr (7, a1))), some (.inl a2), none, none] [.inr (.inr (7, r1.1))] r1.2 Q
  refine pm_go (i2 := 6) (ls2 := [some (.inr (.inr (16, 0))), some (.inr (.inr (7, a1))), some (.inl a2), some (.inl 0), none]) (st2 := []) (w2 := r1.2) 3 (fun F h => h) ?_
  obtain ⟨x7, hx8, hf⟩ := Option.bind_eq_some_iff.mp hf
  refine a_X3_fewestSayings_L6 F d hd Q F r1.2 a1 a2 0 x7 hx8 (fun ex7 hx7 => ?_) (fun rx7 hx7 => ?_)
  · subst hx7
    change _ = _ at hf
    refine pm_go (i2 := 24) (ls2 := [some (.inr (.inr (16, 0))), some (.inr (.inr (7, a1))), some (.inl a2), some (.inl ex7.1), none]) (st2 := [.inl (-9)]) (w2 := ex7.2) 1 (fun F h => h) ?_
    obtain rfl := Option.some.inj hf
    exact pm_re (r := some (.inl (-9))) (w2 := ex7.2) 1 (fun F h => h) hq
  · subst hx7
    obtain rfl := Option.some.inj (show some rx7 = some x from hf)
    exact hq
set_option maxRecDepth 20000 in
set_option maxHeartbeats 4000000 in
theorem a_X3_fewestSayings (F : Nat) (w : pm_W) (a1 : Nat) (a2 : Int32) (x : (Int32 × pm_W)) (d : Nat) (hd : 14 ≤ d) (hf : f_X3_fewestSayings F w a1 a2 = some x) : RT d 20 [.inr (.inr (16, 0)), .inr (.inr (7, a1)), .inl a2] w (some (.inl x.1)) x.2 := by
  obtain ⟨d, rfl, hd2⟩ := pm_dep hd
  exact pm_start (co := co_X3_fewestSayings) (nL := 5) (by decide) rfl rfl (Nat.le_of_ble_eq_true rfl) (b_X3_fewestSayings F d hd2 _ w a1 a2 x hf ⟨rfl, rfl⟩)
def f_X5_farthest_L6 (F : Nat) (w : pm_W) : Nat → Nat → Int32 → Int32 → Int32 → Option (Int32 × Int32 × Int32)
  | 0, _, _, _, _ => none
  | n + 1, v1, v2, v3, v4 => (if (w.1 3 0 3) ≤ v4 then some (v2, v3, v4) else (if pm_inb v4 5 = true then (if (w.1 8 v1 v4.toNatClampNeg) ≤ v3 then f_X5_farthest_L6 F w n v1 v2 v3 (v4 + 1) else (if pm_inb v4 5 = true then f_X5_farthest_L6 F w n v1 v4 (w.1 8 v1 v4.toNatClampNeg) (v4 + 1) else none)) else none))
def f_X5_farthest (F : Nat) (w : pm_W) (a1 : Nat) : Option (Int32) := ((f_X5_farthest_L6 F w F a1 (-9) (-1) 0).bind fun x5 => some x5.1)
set_option maxRecDepth 20000 in
set_option maxHeartbeats 4000000 in
theorem a_X5_farthest_L6 (F : Nat) (d : Nat) (hd : 0 ≤ d) (Q : pm_Q) (w : pm_W) : ∀ (n : Nat) (v1 : Nat) (v2 : Int32) (v3 : Int32) (v4 : Int32) (x : Int32 × Int32 × Int32), f_X5_farthest_L6 F w n v1 v2 v3 v4 = some x → pm_Gx (RT d) co_X5_farthest 25 [some (.inr (.inr (3, 0))), some (.inr (.inr (7, v1))), some (.inl x.1), some (.inl x.2.1), some (.inl x.2.2)] [] w Q → pm_Gx (RT d) co_X5_farthest 6 [some (.inr (.inr (3, 0))), some (.inr (.inr (7, v1))), some (.inl v2), some (.inl v3), some (.inl v4)] [] w Q := by
  intro n
  induction n with
  | zero =>
    intro v1 v2 v3 v4 x hf
    cases hf
  | succ n ih =>
    intro v1 v2 v3 v4 x hf hk
    rw [f_X5_farthest_L6] at hf
    refine pm_go (i2 := 9) (ls2 := [some (.inr (.inr (3, 0))), some (.inr (.inr (7, v1))), some (.inl v2), some (.inl v3), some (.inl v4)]) (st2 := [.inl (w.1 3 0 3), .inl v4]) (w2 := w) 3 (fun F h => h) ?_
    refine pm_if (P := (w.1 3 0 3) ≤ v4) (i2 := 25) (i3 := 10) (ls2 := [some (.inr (.inr (3, 0))), some (.inr (.inr (7, v1))), some (.inl v2), some (.inl v3), some (.inl v4)]) (st2 := []) (w2 := w) 1 (fun F h => h) (fun hc1 => ?_) (fun hc1 => ?_)
    · rw [if_pos hc1] at hf
      obtain rfl := Option.some.inj hf
      exact hk
    · rw [if_neg hc1] at hf
      obtain ⟨hs2, hf⟩ := pm_itn hf
      refine pm_go (i2 := 15) (ls2 := [some (.inr (.inr (3, 0))), some (.inr (.inr (7, v1))), some (.inl v2), some (.inl v3), some (.inl v4)]) (st2 := [.inl v3, .inl (w.1 8 v1 v4.toNatClampNeg)]) (w2 := w) 5 (fun F h => ⟨(pm_inb_in hs2), h⟩) ?_
      refine pm_if (P := (w.1 8 v1 v4.toNatClampNeg) ≤ v3) (i2 := 23) (i3 := 16) (ls2 := [some (.inr (.inr (3, 0))), some (.inr (.inr (7, v1))), some (.inl v2), some (.inl v3), some (.inl v4)]) (st2 := []) (w2 := w) 1 (fun F h => h) (fun hc3 => ?_) (fun hc3 => ?_)
      · rw [if_pos hc3] at hf
        refine pm_go (i2 := 6) (ls2 := [some (.inr (.inr (3, 0))), some (.inr (.inr (7, v1))), some (.inl v2), some (.inl v3), some (.inl (v4 + 1))]) (st2 := []) (w2 := w) 2 (fun F h => h) ?_
        exact ih v1 v2 v3 (v4 + 1) _ hf hk
      · rw [if_neg hc3] at hf
        obtain ⟨hs4, hf⟩ := pm_itn hf
        refine pm_go (i2 := 6) (ls2 := [some (.inr (.inr (3, 0))), some (.inr (.inr (7, v1))), some (.inl v4), some (.inl (w.1 8 v1 v4.toNatClampNeg)), some (.inl (v4 + 1))]) (st2 := []) (w2 := w) 9 (fun F h => ⟨(pm_inb_in hs4), h⟩) ?_
        exact ih v1 v4 (w.1 8 v1 v4.toNatClampNeg) (v4 + 1) _ hf hk
set_option maxRecDepth 20000 in
set_option maxHeartbeats 4000000 in
theorem b_X5_farthest (F : Nat) (d : Nat) (hd : 0 ≤ d) (Q : pm_Q) (w : pm_W) (a1 : Nat) (x : Int32) (hf : f_X5_farthest F w a1 = some x) (hq : Q (some (.inl x)) w) : pm_Gx (RT d) co_X5_farthest 0 [some (.inr (.inr (3, 0))), some (.inr (.inr (7, a1))), none, none, none] [] w Q := by
  unfold f_X5_farthest at hf
  refine pm_go (i2 := 6) (ls2 := [some (.inr (.inr (3, 0))), some (.inr (.inr (7, a1))), some (.inl (-9)), some (.inl (-1)), some (.inl 0)]) (st2 := []) (w2 := w) 6 (fun F h => h) ?_
  obtain ⟨x5, hx6, hf⟩ := Option.bind_eq_some_iff.mp hf
  refine a_X5_farthest_L6 F d hd Q w F a1 (-9) (-1) 0 x5 hx6 ?_
  refine pm_go (i2 := 26) (ls2 := [some (.inr (.inr (3, 0))), some (.inr (.inr (7, a1))), some (.inl x5.1), some (.inl x5.2.1), some (.inl x5.2.2)]) (st2 := [.inl x5.1]) (w2 := w) 1 (fun F h => h) ?_
  obtain rfl := Option.some.inj hf
  exact pm_re (r := some (.inl x5.1)) (w2 := w) 1 (fun F h => h) hq
set_option maxRecDepth 20000 in
set_option maxHeartbeats 4000000 in
theorem a_X5_farthest (F : Nat) (w : pm_W) (a1 : Nat) (x : Int32) (d : Nat) (hd : 1 ≤ d) (hf : f_X5_farthest F w a1 = some x) : RT d 40 [.inr (.inr (3, 0)), .inr (.inr (7, a1))] w (some (.inl x)) w := by
  obtain ⟨d, rfl, hd2⟩ := pm_dep hd
  exact pm_start (co := co_X5_farthest) (nL := 5) (by decide) rfl rfl (Nat.le_of_ble_eq_true rfl) (b_X5_farthest F d hd2 _ w a1 x hf ⟨rfl, rfl⟩)
def f_X5_refill (F : Nat) (w : pm_W) (a1 : Nat) : Option (pm_W) := (pm_wlet (pm_setI w 7 a1 2 0) fun w1 => (pm_wlet (pm_setI w1 7 a1 3 (w1.1 3 0 4)) fun w2 => some w2))
set_option maxRecDepth 20000 in
set_option maxHeartbeats 4000000 in
theorem b_X5_refill (F : Nat) (d : Nat) (hd : 0 ≤ d) (Q : pm_Q) (w : pm_W) (a1 : Nat) (x : pm_W) (hf : f_X5_refill F w a1 = some x) (hq : Q (none) x) : pm_Gx (RT d) co_X5_refill 0 [some (.inr (.inr (3, 0))), some (.inr (.inr (7, a1)))] [] w Q := by
  unfold f_X5_refill at hf
  refine pm_go (i2 := 3) (ls2 := [some (.inr (.inr (3, 0))), some (.inr (.inr (7, a1)))]) (st2 := []) (w2 := (pm_setI w 7 a1 2 0)) 3 (fun F h => h) ?_
  generalize (pm_setI w 7 a1 2 0) = w1 at hf ⊢
  replace hf := pm_wlet_un hf
  refine pm_go (i2 := 7) (ls2 := [some (.inr (.inr (3, 0))), some (.inr (.inr (7, a1)))]) (st2 := []) (w2 := (pm_setI w1 7 a1 3 (w1.1 3 0 4))) 4 (fun F h => h) ?_
  generalize (pm_setI w1 7 a1 3 (w1.1 3 0 4)) = w2 at hf ⊢
  replace hf := pm_wlet_un hf
  obtain rfl := Option.some.inj hf
  exact pm_re (r := none) (w2 := w2) 1 (fun F h => h) hq
set_option maxRecDepth 20000 in
set_option maxHeartbeats 4000000 in
theorem a_X5_refill (F : Nat) (w : pm_W) (a1 : Nat) (x : pm_W) (d : Nat) (hd : 1 ≤ d) (hf : f_X5_refill F w a1 = some x) : RT d 36 [.inr (.inr (3, 0)), .inr (.inr (7, a1))] w (none) x := by
  obtain ⟨d, rfl, hd2⟩ := pm_dep hd
  exact pm_start (co := co_X5_refill) (nL := 2) (by decide) rfl rfl (Nat.le_of_ble_eq_true rfl) (b_X5_refill F d hd2 _ w a1 x hf ⟨rfl, rfl⟩)
def f_X3_happens (F : Nat) (w : pm_W) (a1 : Nat) (a2 : Int32) : Option ((Int32 × pm_W)) := (if 5 ≤ a2 then (if a2 = 5 then (if (w.1 3 0 3) ≤ 0 then (if a2 = 6 then ((f_X5_refill F w a1).bind fun r5 => some (1, r5)) else some (0, w)) else ((f_X5_farthest F w a1).bind fun r7 => ((f_X5_hand F w a1 r7).bind fun r9 => some (1, r9)))) else (if a2 = 6 then ((f_X5_refill F w a1).bind fun r12 => some (1, r12)) else some (0, w))) else ((f_X5_speakIfCan F w a1 a2).bind fun r14 => (if pm_isb r14.1 = true then some (r14.1, r14.2) else none)))
set_option maxRecDepth 20000 in
set_option maxHeartbeats 4000000 in
theorem b_X3_happens (F : Nat) (d : Nat) (hd : 3 ≤ d) (Q : pm_Q) (w : pm_W) (a1 : Nat) (a2 : Int32) (x : (Int32 × pm_W)) (hf : f_X3_happens F w a1 a2 = some x) (hq : Q (some (.inl x.1)) x.2) : pm_Gx (RT d) co_X3_happens 0 [some (.inr (.inr (16, 0))), some (.inr (.inr (7, a1))), some (.inl a2)] [] w Q := by
  unfold f_X3_happens at hf
  refine pm_go (i2 := 2) (ls2 := [some (.inr (.inr (16, 0))), some (.inr (.inr (7, a1))), some (.inl a2)]) (st2 := [.inl 5, .inl a2]) (w2 := w) 2 (fun F h => h) ?_
  refine pm_if (P := 5 ≤ a2) (i2 := 9) (i3 := 3) (ls2 := [some (.inr (.inr (16, 0))), some (.inr (.inr (7, a1))), some (.inl a2)]) (st2 := []) (w2 := w) 1 (fun F h => h) (fun hc1 => ?_) (fun hc1 => ?_)
  · rw [if_pos hc1] at hf
    refine pm_go (i2 := 11) (ls2 := [some (.inr (.inr (16, 0))), some (.inr (.inr (7, a1))), some (.inl a2)]) (st2 := [.inl 5, .inl a2]) (w2 := w) 2 (fun F h => h) ?_
    refine pm_if (P := a2 = 5) (i2 := 12) (i3 := 26) (ls2 := [some (.inr (.inr (16, 0))), some (.inr (.inr (7, a1))), some (.inl a2)]) (st2 := []) (w2 := w) 1 (fun F h => h) (fun hc2 => ?_) (fun hc2 => ?_)
    · rw [if_pos hc2] at hf
      refine pm_go (i2 := 15) (ls2 := [some (.inr (.inr (16, 0))), some (.inr (.inr (7, a1))), some (.inl a2)]) (st2 := [.inl (w.1 3 0 3)]) (w2 := w) 3 (fun F h => h) ?_
      refine pm_if (P := (w.1 3 0 3) ≤ 0) (i2 := 26) (i3 := 16) (ls2 := [some (.inr (.inr (16, 0))), some (.inr (.inr (7, a1))), some (.inl a2)]) (st2 := []) (w2 := w) 1 (fun F h => h) (fun hc3 => ?_) (fun hc3 => ?_)
      · rw [if_pos hc3] at hf
        refine pm_go (i2 := 28) (ls2 := [some (.inr (.inr (16, 0))), some (.inr (.inr (7, a1))), some (.inl a2)]) (st2 := [.inl 6, .inl a2]) (w2 := w) 2 (fun F h => h) ?_
        refine pm_if (P := a2 = 6) (i2 := 29) (i3 := 35) (ls2 := [some (.inr (.inr (16, 0))), some (.inr (.inr (7, a1))), some (.inl a2)]) (st2 := []) (w2 := w) 1 (fun F h => h) (fun hc4 => ?_) (fun hc4 => ?_)
        · rw [if_pos hc4] at hf
          refine pm_go (i2 := 32) (ls2 := [some (.inr (.inr (16, 0))), some (.inr (.inr (7, a1))), some (.inl a2)]) (st2 := [.inr (.inr (7, a1)), .inr (.inr (3, 0))]) (w2 := w) 3 (fun F h => h) ?_
          obtain ⟨r5, hr6, hf⟩ := Option.bind_eq_some_iff.mp hf
          refine pm_ca (y := 36) (as := [.inr (.inr (3, 0)), .inr (.inr (7, a1))]) (r := none) (w2 := w) (w1 := r5) (t := []) (i2 := 33) (ls2 := [some (.inr (.inr (16, 0))), some (.inr (.inr (7, a1))), some (.inl a2)]) 1 (a_X5_refill F w a1 r5 d (by omega) hr6) (fun F h => h) ?_
          show pm_Gx (RT d) co_X3_happens 33 [some (.inr (.inr (16, 0))), some (.inr (.inr (7, a1))), some (.inl a2)] [] r5 Q
          refine pm_go (i2 := 34) (ls2 := [some (.inr (.inr (16, 0))), some (.inr (.inr (7, a1))), some (.inl a2)]) (st2 := [.inl 1]) (w2 := r5) 1 (fun F h => h) ?_
          obtain rfl := Option.some.inj hf
          exact pm_re (r := some (.inl 1)) (w2 := r5) 1 (fun F h => ⟨rfl, h⟩) hq
        · rw [if_neg hc4] at hf
          refine pm_go (i2 := 36) (ls2 := [some (.inr (.inr (16, 0))), some (.inr (.inr (7, a1))), some (.inl a2)]) (st2 := [.inl 0]) (w2 := w) 1 (fun F h => h) ?_
          obtain rfl := Option.some.inj hf
          exact pm_re (r := some (.inl 0)) (w2 := w) 1 (fun F h => ⟨rfl, h⟩) hq
      · rw [if_neg hc3] at hf
        refine pm_go (i2 := 22) (ls2 := [some (.inr (.inr (16, 0))), some (.inr (.inr (7, a1))), some (.inl a2)]) (st2 := [.inr (.inr (7, a1)), .inr (.inr (3, 0)), .inr (.inr (7, a1)), .inr (.inr (3, 0))]) (w2 := w) 6 (fun F h => h) ?_
        obtain ⟨r7, hr8, hf⟩ := Option.bind_eq_some_iff.mp hf
        refine pm_ca (y := 40) (as := [.inr (.inr (3, 0)), .inr (.inr (7, a1))]) (r := some (.inl r7)) (w2 := w) (w1 := w) (t := [.inr (.inr (7, a1)), .inr (.inr (3, 0))]) (i2 := 23) (ls2 := [some (.inr (.inr (16, 0))), some (.inr (.inr (7, a1))), some (.inl a2)]) 1 (a_X5_farthest F w a1 r7 d (by omega) hr8) (fun F h => h) ?_
        show pm_Gx (RT d) co_X3_happens 23 [some (.inr (.inr (16, 0))), some (.inr (.inr (7, a1))), some (.inl a2)] [.inl r7, .inr (.inr (7, a1)), .inr (.inr (3, 0))] w Q
        obtain ⟨r9, hr10, hf⟩ := Option.bind_eq_some_iff.mp hf
        refine pm_ca (y := 35) (as := [.inr (.inr (3, 0)), .inr (.inr (7, a1)), .inl r7]) (r := none) (w2 := w) (w1 := r9) (t := []) (i2 := 24) (ls2 := [some (.inr (.inr (16, 0))), some (.inr (.inr (7, a1))), some (.inl a2)]) 1 (a_X5_hand F w a1 r7 r9 d (by omega) hr10) (fun F h => h) ?_
        show pm_Gx (RT d) co_X3_happens 24 [some (.inr (.inr (16, 0))), some (.inr (.inr (7, a1))), some (.inl a2)] [] r9 Q
        refine pm_go (i2 := 25) (ls2 := [some (.inr (.inr (16, 0))), some (.inr (.inr (7, a1))), some (.inl a2)]) (st2 := [.inl 1]) (w2 := r9) 1 (fun F h => h) ?_
        obtain rfl := Option.some.inj hf
        exact pm_re (r := some (.inl 1)) (w2 := r9) 1 (fun F h => ⟨rfl, h⟩) hq
    · rw [if_neg hc2] at hf
      refine pm_go (i2 := 28) (ls2 := [some (.inr (.inr (16, 0))), some (.inr (.inr (7, a1))), some (.inl a2)]) (st2 := [.inl 6, .inl a2]) (w2 := w) 2 (fun F h => h) ?_
      refine pm_if (P := a2 = 6) (i2 := 29) (i3 := 35) (ls2 := [some (.inr (.inr (16, 0))), some (.inr (.inr (7, a1))), some (.inl a2)]) (st2 := []) (w2 := w) 1 (fun F h => h) (fun hc11 => ?_) (fun hc11 => ?_)
      · rw [if_pos hc11] at hf
        refine pm_go (i2 := 32) (ls2 := [some (.inr (.inr (16, 0))), some (.inr (.inr (7, a1))), some (.inl a2)]) (st2 := [.inr (.inr (7, a1)), .inr (.inr (3, 0))]) (w2 := w) 3 (fun F h => h) ?_
        obtain ⟨r12, hr13, hf⟩ := Option.bind_eq_some_iff.mp hf
        refine pm_ca (y := 36) (as := [.inr (.inr (3, 0)), .inr (.inr (7, a1))]) (r := none) (w2 := w) (w1 := r12) (t := []) (i2 := 33) (ls2 := [some (.inr (.inr (16, 0))), some (.inr (.inr (7, a1))), some (.inl a2)]) 1 (a_X5_refill F w a1 r12 d (by omega) hr13) (fun F h => h) ?_
        show pm_Gx (RT d) co_X3_happens 33 [some (.inr (.inr (16, 0))), some (.inr (.inr (7, a1))), some (.inl a2)] [] r12 Q
        refine pm_go (i2 := 34) (ls2 := [some (.inr (.inr (16, 0))), some (.inr (.inr (7, a1))), some (.inl a2)]) (st2 := [.inl 1]) (w2 := r12) 1 (fun F h => h) ?_
        obtain rfl := Option.some.inj hf
        exact pm_re (r := some (.inl 1)) (w2 := r12) 1 (fun F h => ⟨rfl, h⟩) hq
      · rw [if_neg hc11] at hf
        refine pm_go (i2 := 36) (ls2 := [some (.inr (.inr (16, 0))), some (.inr (.inr (7, a1))), some (.inl a2)]) (st2 := [.inl 0]) (w2 := w) 1 (fun F h => h) ?_
        obtain rfl := Option.some.inj hf
        exact pm_re (r := some (.inl 0)) (w2 := w) 1 (fun F h => ⟨rfl, h⟩) hq
  · rw [if_neg hc1] at hf
    refine pm_go (i2 := 7) (ls2 := [some (.inr (.inr (16, 0))), some (.inr (.inr (7, a1))), some (.inl a2)]) (st2 := [.inl a2, .inr (.inr (7, a1)), .inr (.inr (3, 0))]) (w2 := w) 4 (fun F h => h) ?_
    obtain ⟨r14, hr15, hf⟩ := Option.bind_eq_some_iff.mp hf
    refine pm_ca (y := 34) (as := [.inr (.inr (3, 0)), .inr (.inr (7, a1)), .inl a2]) (r := some (.inl r14.1)) (w2 := w) (w1 := r14.2) (t := []) (i2 := 8) (ls2 := [some (.inr (.inr (16, 0))), some (.inr (.inr (7, a1))), some (.inl a2)]) 1 (a_X5_speakIfCan F w a1 a2 r14 d (by omega) hr15) (fun F h => h) ?_
    show pm_Gx (RT d) co_X3_happens 8 [some (.inr (.inr (16, 0))), some (.inr (.inr (7, a1))), some (.inl a2)] [.inl r14.1] r14.2 Q
    obtain ⟨hz16, hf⟩ := pm_itn hf
    obtain rfl := Option.some.inj hf
    exact pm_re (r := some (.inl r14.1)) (w2 := r14.2) 1 (fun F h => ⟨pm_isb_nar hz16, h⟩) hq
set_option maxRecDepth 20000 in
set_option maxHeartbeats 4000000 in
theorem a_X3_happens (F : Nat) (w : pm_W) (a1 : Nat) (a2 : Int32) (x : (Int32 × pm_W)) (d : Nat) (hd : 4 ≤ d) (hf : f_X3_happens F w a1 a2 = some x) : RT d 24 [.inr (.inr (16, 0)), .inr (.inr (7, a1)), .inl a2] w (some (.inl x.1)) x.2 := by
  obtain ⟨d, rfl, hd2⟩ := pm_dep hd
  exact pm_start (co := co_X3_happens) (nL := 3) (by decide) rfl rfl (Nat.le_of_ble_eq_true rfl) (b_X3_happens F d hd2 _ w a1 a2 x hf ⟨rfl, rfl⟩)
def f_X3_firstWrong_L6 (F : Nat) : Nat → pm_W → Nat → Int32 → Int32 → Nat → Int32 → Option ((Int32 × pm_W) ⊕ (Int32 × pm_W))
  | 0, _, _, _, _, _, _ => none
  | n + 1, w, v1, v2, v3, v4, v5 => (if v2 ≤ v5 then some (.inl (v5, w)) else ((f_X7_figureAt F w v2 v3 v5).bind fun r4 => ((f_X3_happens F w v4 r4).bind fun r6 => (if r6.1 = 0 then some (.inr (v5, r6.2)) else (if (r6.2.1 7 v4 3) = 0 then some (.inr (v5, r6.2)) else f_X3_firstWrong_L6 F n r6.2 v1 v2 v3 v4 (v5 + 1))))))
def f_X3_firstWrong (F : Nat) (w : pm_W) (a1 : Nat) (a2 : Int32) (a3 : Int32) : Option ((Int32 × pm_W)) := ((f_X3_trialFrom F w a1).bind fun r1 => ((f_X3_firstWrong_L6 F F r1.2 a1 a2 a3 r1.1 0).bind fun x10 => Sum.elim (fun ex10 => some ((-9), ex10.2)) (fun rx10 => some rx10) x10))
set_option maxRecDepth 20000 in
set_option maxHeartbeats 4000000 in
theorem a_X3_firstWrong_L6 (F : Nat) (d : Nat) (hd : 4 ≤ d) (Q : pm_Q) : ∀ (n : Nat) (w : pm_W) (v1 : Nat) (v2 : Int32) (v3 : Int32) (v4 : Nat) (v5 : Int32) (x : (Int32 × pm_W) ⊕ (Int32 × pm_W)), f_X3_firstWrong_L6 F n w v1 v2 v3 v4 v5 = some x → (∀ e, x = .inl e → pm_Gx (RT d) co_X3_firstWrong 24 [some (.inr (.inr (16, 0))), some (.inr (.inr (7, v1))), some (.inl v2), some (.inl v3), some (.inr (.inr (7, v4))), some (.inl e.1)] [] e.2 Q) → (∀ r, x = .inr r → Q (some (.inl r.1)) r.2) → pm_Gx (RT d) co_X3_firstWrong 6 [some (.inr (.inr (16, 0))), some (.inr (.inr (7, v1))), some (.inl v2), some (.inl v3), some (.inr (.inr (7, v4))), some (.inl v5)] [] w Q := by
  intro n
  induction n with
  | zero =>
    intro w v1 v2 v3 v4 v5 x hf
    cases hf
  | succ n ih =>
    intro w v1 v2 v3 v4 v5 x hf hk hq
    rw [f_X3_firstWrong_L6] at hf
    refine pm_go (i2 := 8) (ls2 := [some (.inr (.inr (16, 0))), some (.inr (.inr (7, v1))), some (.inl v2), some (.inl v3), some (.inr (.inr (7, v4))), some (.inl v5)]) (st2 := [.inl v2, .inl v5]) (w2 := w) 2 (fun F h => h) ?_
    refine pm_if (P := v2 ≤ v5) (i2 := 24) (i3 := 9) (ls2 := [some (.inr (.inr (16, 0))), some (.inr (.inr (7, v1))), some (.inl v2), some (.inl v3), some (.inr (.inr (7, v4))), some (.inl v5)]) (st2 := []) (w2 := w) 1 (fun F h => h) (fun hc3 => ?_) (fun hc3 => ?_)
    · rw [if_pos hc3] at hf
      obtain rfl := Option.some.inj hf
      exact hk _ rfl
    · rw [if_neg hc3] at hf
      refine pm_go (i2 := 14) (ls2 := [some (.inr (.inr (16, 0))), some (.inr (.inr (7, v1))), some (.inl v2), some (.inl v3), some (.inr (.inr (7, v4))), some (.inl v5)]) (st2 := [.inl v5, .inl v3, .inl v2, .inr (.inr (7, v4)), .inr (.inr (16, 0))]) (w2 := w) 5 (fun F h => h) ?_
      obtain ⟨r4, hr5, hf⟩ := Option.bind_eq_some_iff.mp hf
      refine pm_ca (y := 85) (as := [.inl v2, .inl v3, .inl v5]) (r := some (.inl r4)) (w2 := w) (w1 := w) (t := [.inr (.inr (7, v4)), .inr (.inr (16, 0))]) (i2 := 15) (ls2 := [some (.inr (.inr (16, 0))), some (.inr (.inr (7, v1))), some (.inl v2), some (.inl v3), some (.inr (.inr (7, v4))), some (.inl v5)]) 1 (a_X7_figureAt F w v2 v3 v5 r4 d (by omega) hr5) (fun F h => h) ?_
      show pm_Gx (RT d) co_X3_firstWrong 15 [some (.inr (.inr (16, 0))), some (.inr (.inr (7, v1))), some (.inl v2), some (.inl v3), some (.inr (.inr (7, v4))), some (.inl v5)] [.inl r4, .inr (.inr (7, v4)), .inr (.inr (16, 0))] w Q
      obtain ⟨r6, hr7, hf⟩ := Option.bind_eq_some_iff.mp hf
      refine pm_ca (y := 24) (as := [.inr (.inr (16, 0)), .inr (.inr (7, v4)), .inl r4]) (r := some (.inl r6.1)) (w2 := w) (w1 := r6.2) (t := []) (i2 := 16) (ls2 := [some (.inr (.inr (16, 0))), some (.inr (.inr (7, v1))), some (.inl v2), some (.inl v3), some (.inr (.inr (7, v4))), some (.inl v5)]) 1 (a_X3_happens F w v4 r4 r6 d (by omega) hr7) (fun F h => h) ?_
      show pm_Gx (RT d) co_X3_firstWrong 16 [some (.inr (.inr (16, 0))), some (.inr (.inr (7, v1))), some (.inl v2), some (.inl v3), some (.inr (.inr (7, v4))), some (.inl v5)] [.inl r6.1] r6.2 Q
      refine pm_if (P := r6.1 = 0) (i2 := 20) (i3 := 17) (ls2 := [some (.inr (.inr (16, 0))), some (.inr (.inr (7, v1))), some (.inl v2), some (.inl v3), some (.inr (.inr (7, v4))), some (.inl v5)]) (st2 := []) (w2 := r6.2) 1 (fun F h => h) (fun hc8 => ?_) (fun hc8 => ?_)
      · rw [if_pos hc8] at hf
        refine pm_go (i2 := 21) (ls2 := [some (.inr (.inr (16, 0))), some (.inr (.inr (7, v1))), some (.inl v2), some (.inl v3), some (.inr (.inr (7, v4))), some (.inl v5)]) (st2 := [.inl v5]) (w2 := r6.2) 1 (fun F h => h) ?_
        obtain rfl := Option.some.inj hf
        exact pm_re (r := some (.inl v5)) (w2 := r6.2) 1 (fun F h => h) (hq _ rfl)
      · rw [if_neg hc8] at hf
        refine pm_go (i2 := 19) (ls2 := [some (.inr (.inr (16, 0))), some (.inr (.inr (7, v1))), some (.inl v2), some (.inl v3), some (.inr (.inr (7, v4))), some (.inl v5)]) (st2 := [.inl (r6.2.1 7 v4 3)]) (w2 := r6.2) 2 (fun F h => h) ?_
        refine pm_if (P := (r6.2.1 7 v4 3) = 0) (i2 := 20) (i3 := 22) (ls2 := [some (.inr (.inr (16, 0))), some (.inr (.inr (7, v1))), some (.inl v2), some (.inl v3), some (.inr (.inr (7, v4))), some (.inl v5)]) (st2 := []) (w2 := r6.2) 1 (fun F h => h) (fun hc9 => ?_) (fun hc9 => ?_)
        · rw [if_pos hc9] at hf
          refine pm_go (i2 := 21) (ls2 := [some (.inr (.inr (16, 0))), some (.inr (.inr (7, v1))), some (.inl v2), some (.inl v3), some (.inr (.inr (7, v4))), some (.inl v5)]) (st2 := [.inl v5]) (w2 := r6.2) 1 (fun F h => h) ?_
          obtain rfl := Option.some.inj hf
          exact pm_re (r := some (.inl v5)) (w2 := r6.2) 1 (fun F h => h) (hq _ rfl)
        · rw [if_neg hc9] at hf
          refine pm_go (i2 := 6) (ls2 := [some (.inr (.inr (16, 0))), some (.inr (.inr (7, v1))), some (.inl v2), some (.inl v3), some (.inr (.inr (7, v4))), some (.inl (v5 + 1))]) (st2 := []) (w2 := r6.2) 2 (fun F h => h) ?_
          exact ih r6.2 v1 v2 v3 v4 (v5 + 1) _ hf hk hq
set_option maxRecDepth 20000 in
set_option maxHeartbeats 4000000 in
theorem b_X3_firstWrong (F : Nat) (d : Nat) (hd : 4 ≤ d) (Q : pm_Q) (w : pm_W) (a1 : Nat) (a2 : Int32) (a3 : Int32) (x : (Int32 × pm_W)) (hf : f_X3_firstWrong F w a1 a2 a3 = some x) (hq : Q (some (.inl x.1)) x.2) : pm_Gx (RT d) co_X3_firstWrong 0 [some (.inr (.inr (16, 0))), some (.inr (.inr (7, a1))), some (.inl a2), some (.inl a3), none, none] [] w Q := by
  unfold f_X3_firstWrong at hf
  refine pm_go (i2 := 2) (ls2 := [some (.inr (.inr (16, 0))), some (.inr (.inr (7, a1))), some (.inl a2), some (.inl a3), none, none]) (st2 := [.inr (.inr (7, a1)), .inr (.inr (16, 0))]) (w2 := w) 2 (fun F h => h) ?_
  obtain ⟨r1, hr2, hf⟩ := Option.bind_eq_some_iff.mp hf
  refine pm_ca (y := 16) (as := [.inr (.inr (16, 0)), .inr (.inr (7, a1))]) (r := some (.inr (.inr (7, r1.1)))) (w2 := w) (w1 := r1.2) (t := []) (i2 := 3) (ls2 := [some (.inr (.inr (16, 0))), some (.inr (.inr (7, a1))), some (.inl a2), some (.inl a3), none, none]) 1 (a_X3_trialFrom F w a1 r1 d (by omega) hr2) (fun F h => h) ?_
  show pm_Gx (RT d) co_X3_firstWrong 3 [some (.inr (.inr (16, 0))), some (.inr (.inr (7, a1))), some (.inl a2), some (.inl a3), none, none] [.inr (.inr (7, r1.1))] r1.2 Q
  refine pm_go (i2 := 6) (ls2 := [some (.inr (.inr (16, 0))), some (.inr (.inr (7, a1))), some (.inl a2), some (.inl a3), some (.inr (.inr (7, r1.1))), some (.inl 0)]) (st2 := []) (w2 := r1.2) 3 (fun F h => h) ?_
  obtain ⟨x10, hx11, hf⟩ := Option.bind_eq_some_iff.mp hf
  refine a_X3_firstWrong_L6 F d hd Q F r1.2 a1 a2 a3 r1.1 0 x10 hx11 (fun ex10 hx10 => ?_) (fun rx10 hx10 => ?_)
  · subst hx10
    change _ = _ at hf
    refine pm_go (i2 := 25) (ls2 := [some (.inr (.inr (16, 0))), some (.inr (.inr (7, a1))), some (.inl a2), some (.inl a3), some (.inr (.inr (7, r1.1))), some (.inl ex10.1)]) (st2 := [.inl (-9)]) (w2 := ex10.2) 1 (fun F h => h) ?_
    obtain rfl := Option.some.inj hf
    exact pm_re (r := some (.inl (-9))) (w2 := ex10.2) 1 (fun F h => h) hq
  · subst hx10
    obtain rfl := Option.some.inj (show some rx10 = some x from hf)
    exact hq
set_option maxRecDepth 20000 in
set_option maxHeartbeats 4000000 in
theorem a_X3_firstWrong (F : Nat) (w : pm_W) (a1 : Nat) (a2 : Int32) (a3 : Int32) (x : (Int32 × pm_W)) (d : Nat) (hd : 5 ≤ d) (hf : f_X3_firstWrong F w a1 a2 a3 = some x) : RT d 23 [.inr (.inr (16, 0)), .inr (.inr (7, a1)), .inl a2, .inl a3] w (some (.inl x.1)) x.2 := by
  obtain ⟨d, rfl, hd2⟩ := pm_dep hd
  exact pm_start (co := co_X3_firstWrong) (nL := 6) (by decide) rfl rfl (Nat.le_of_ble_eq_true rfl) (b_X3_firstWrong F d hd2 _ w a1 a2 a3 x hf ⟨rfl, rfl⟩)
def f_X3_tryTurn_L40 (F : Nat) (rec : pm_W → Int32 → Int32 → Option ((Int32 × pm_W))) : Nat → pm_W → Int32 → Int32 → Nat → Nat → Int32 → Int32 → Int32 → Option (Int32 × Int32 × pm_W)
  | 0, _, _, _, _, _, _, _, _ => none
  | n + 1, w, v1, v2, v3, v4, v5, v6, v7 => (if (w.1 3 0 3) < v7 then some (v6, v7, w) else ((f_X4_become F w v4 v3).bind fun r8 => (if v7 = 0 then ((rec r8 (v1 + 1) v2).bind fun r11 => (if v6 = (-9) then (pm_wlet (pm_setI r11.2 16 0 4 (if v1 = 0 then v7 else r11.2.1 16 0 4 : Int32)) fun w14 => f_X3_tryTurn_L40 F rec n w14 v1 v2 v3 v4 v5 r11.1 (v7 + 1)) else (if v5 = 0 then (if v6 ≤ r11.1 then f_X3_tryTurn_L40 F rec n r11.2 v1 v2 v3 v4 v5 v6 (v7 + 1) else (pm_wlet (pm_setI r11.2 16 0 4 (if v1 = 0 then v7 else r11.2.1 16 0 4 : Int32)) fun w18 => f_X3_tryTurn_L40 F rec n w18 v1 v2 v3 v4 v5 r11.1 (v7 + 1))) else (if r11.1 ≤ v6 then f_X3_tryTurn_L40 F rec n r11.2 v1 v2 v3 v4 v5 v6 (v7 + 1) else (pm_wlet (pm_setI r11.2 16 0 4 (if v1 = 0 then v7 else r11.2.1 16 0 4 : Int32)) fun w21 => f_X3_tryTurn_L40 F rec n w21 v1 v2 v3 v4 v5 r11.1 (v7 + 1)))))) else ((f_X5_speakIfCan F r8 v4 (v7 - 1)).bind fun r23 => (if r23.1 = 0 then f_X3_tryTurn_L40 F rec n r23.2 v1 v2 v3 v4 v5 v6 (v7 + 1) else ((rec r23.2 (v1 + 1) v2).bind fun r26 => (if v6 = (-9) then (pm_wlet (pm_setI r26.2 16 0 4 (if v1 = 0 then v7 else r26.2.1 16 0 4 : Int32)) fun w29 => f_X3_tryTurn_L40 F rec n w29 v1 v2 v3 v4 v5 r26.1 (v7 + 1)) else (if v5 = 0 then (if v6 ≤ r26.1 then f_X3_tryTurn_L40 F rec n r26.2 v1 v2 v3 v4 v5 v6 (v7 + 1) else (pm_wlet (pm_setI r26.2 16 0 4 (if v1 = 0 then v7 else r26.2.1 16 0 4 : Int32)) fun w33 => f_X3_tryTurn_L40 F rec n w33 v1 v2 v3 v4 v5 r26.1 (v7 + 1))) else (if r26.1 ≤ v6 then f_X3_tryTurn_L40 F rec n r26.2 v1 v2 v3 v4 v5 v6 (v7 + 1) else (pm_wlet (pm_setI r26.2 16 0 4 (if v1 = 0 then v7 else r26.2.1 16 0 4 : Int32)) fun w36 => f_X3_tryTurn_L40 F rec n w36 v1 v2 v3 v4 v5 r26.1 (v7 + 1)))))))))))
def f_X3_tryTurn_B (F : Nat) (rec : pm_W → Int32 → Int32 → Option ((Int32 × pm_W))) (w : pm_W) (a1 : Int32) (a2 : Int32) : Option ((Int32 × pm_W)) := (if a1 < 0 then some ((-9), w) else (if a1 ≤ 5 then (if pm_inb a1 6 = true then (if a2 ≤ a1 then some (w.1 7 (17 + a1.toNatClampNeg) 1, w) else (if a1 = 5 then some (w.1 7 (17 + a1.toNatClampNeg) 1, w) else (if pm_inb (a1 + 1) 6 = true then ((f_X3_tryTurn_L40 F rec F w a1 a2 (17 + a1.toNatClampNeg) (17 + (a1 + 1).toNatClampNeg) (if (a1 - a1 / 2 * 2) = 0 then 1 else 0 : Int32) (-9) 0).bind fun x38 => some (x38.1, x38.2.2)) else none))) else none) else some ((-9), w)))
def f_X3_tryTurn (F : Nat) : Nat → pm_W → Int32 → Int32 → Option ((Int32 × pm_W))
  | 0, _, _, _ => none
  | D + 1, w, a1, a2 => f_X3_tryTurn_B F (f_X3_tryTurn F D) w a1 a2
set_option maxRecDepth 20000 in
set_option maxHeartbeats 4000000 in
theorem a_X3_tryTurn_L40 (F : Nat) (rec : pm_W → Int32 → Int32 → Option ((Int32 × pm_W))) (d : Nat) (hd : 3 ≤ d) (hrec : ∀ (w : pm_W) (a1 : Int32) (a2 : Int32) (r : (Int32 × pm_W)), rec w a1 a2 = some r → RT d 26 [.inr (.inr (16, 0)), .inl a1, .inl a2] w (some (.inl r.1)) r.2) (Q : pm_Q) : ∀ (n : Nat) (w : pm_W) (v1 : Int32) (v2 : Int32) (v3 : Nat) (v4 : Nat) (v5 : Int32) (v6 : Int32) (v7 : Int32) (x : Int32 × Int32 × pm_W), f_X3_tryTurn_L40 F rec n w v1 v2 v3 v4 v5 v6 v7 = some x → pm_Gx (RT d) co_X3_tryTurn 89 [some (.inr (.inr (16, 0))), some (.inl v1), some (.inl v2), some (.inr (.inr (7, v3))), some (.inr (.inr (7, v4))), some (.inl v5), some (.inl x.1), some (.inl x.2.1), none] [] x.2.2 Q → pm_Gx (RT d) co_X3_tryTurn 40 [some (.inr (.inr (16, 0))), some (.inl v1), some (.inl v2), some (.inr (.inr (7, v3))), some (.inr (.inr (7, v4))), some (.inl v5), some (.inl v6), some (.inl v7), none] [] w Q := by
  intro n
  induction n with
  | zero =>
    intro w v1 v2 v3 v4 v5 v6 v7 x hf
    cases hf
  | succ n ih =>
    intro w v1 v2 v3 v4 v5 v6 v7 x hf hk
    rw [f_X3_tryTurn_L40] at hf
    refine pm_go (i2 := 44) (ls2 := [some (.inr (.inr (16, 0))), some (.inl v1), some (.inl v2), some (.inr (.inr (7, v3))), some (.inr (.inr (7, v4))), some (.inl v5), some (.inl v6), some (.inl v7), none]) (st2 := [.inl (w.1 3 0 3), .inl v7]) (w2 := w) 4 (fun F h => h) ?_
    refine pm_if (P := (w.1 3 0 3) < v7) (i2 := 89) (i3 := 45) (ls2 := [some (.inr (.inr (16, 0))), some (.inl v1), some (.inl v2), some (.inr (.inr (7, v3))), some (.inr (.inr (7, v4))), some (.inl v5), some (.inl v6), some (.inl v7), none]) (st2 := []) (w2 := w) 1 (fun F h => h) (fun hc7 => ?_) (fun hc7 => ?_)
    · rw [if_pos hc7] at hf
      obtain rfl := Option.some.inj hf
      exact hk
    · rw [if_neg hc7] at hf
      refine pm_go (i2 := 47) (ls2 := [some (.inr (.inr (16, 0))), some (.inl v1), some (.inl v2), some (.inr (.inr (7, v3))), some (.inr (.inr (7, v4))), some (.inl v5), some (.inl v6), some (.inl v7), none]) (st2 := [.inr (.inr (7, v3)), .inr (.inr (7, v4))]) (w2 := w) 2 (fun F h => h) ?_
      obtain ⟨r8, hr9, hf⟩ := Option.bind_eq_some_iff.mp hf
      refine pm_ca (y := 27) (as := [.inr (.inr (7, v4)), .inr (.inr (7, v3))]) (r := none) (w2 := w) (w1 := r8) (t := []) (i2 := 48) (ls2 := [some (.inr (.inr (16, 0))), some (.inl v1), some (.inl v2), some (.inr (.inr (7, v3))), some (.inr (.inr (7, v4))), some (.inl v5), some (.inl v6), some (.inl v7), none]) 1 (a_X4_become F w v4 v3 r8 d (by omega) hr9) (fun F h => h) ?_
      show pm_Gx (RT d) co_X3_tryTurn 48 [some (.inr (.inr (16, 0))), some (.inl v1), some (.inl v2), some (.inr (.inr (7, v3))), some (.inr (.inr (7, v4))), some (.inl v5), some (.inl v6), some (.inl v7), none] [] r8 Q
      refine pm_go (i2 := 49) (ls2 := [some (.inr (.inr (16, 0))), some (.inl v1), some (.inl v2), some (.inr (.inr (7, v3))), some (.inr (.inr (7, v4))), some (.inl v5), some (.inl v6), some (.inl v7), none]) (st2 := [.inl v7]) (w2 := r8) 1 (fun F h => h) ?_
      refine pm_if (P := v7 = 0) (i2 := 58) (i3 := 50) (ls2 := [some (.inr (.inr (16, 0))), some (.inl v1), some (.inl v2), some (.inr (.inr (7, v3))), some (.inr (.inr (7, v4))), some (.inl v5), some (.inl v6), some (.inl v7), none]) (st2 := []) (w2 := r8) 1 (fun F h => h) (fun hc10 => ?_) (fun hc10 => ?_)
      · rw [if_pos hc10] at hf
        refine pm_go (i2 := 63) (ls2 := [some (.inr (.inr (16, 0))), some (.inl v1), some (.inl v2), some (.inr (.inr (7, v3))), some (.inr (.inr (7, v4))), some (.inl v5), some (.inl v6), some (.inl v7), none]) (st2 := [.inl v2, .inl (v1 + 1), .inr (.inr (16, 0))]) (w2 := r8) 5 (fun F h => h) ?_
        obtain ⟨r11, hr12, hf⟩ := Option.bind_eq_some_iff.mp hf
        refine pm_ca (y := 26) (as := [.inr (.inr (16, 0)), .inl (v1 + 1), .inl v2]) (r := some (.inl r11.1)) (w2 := r8) (w1 := r11.2) (t := []) (i2 := 64) (ls2 := [some (.inr (.inr (16, 0))), some (.inl v1), some (.inl v2), some (.inr (.inr (7, v3))), some (.inr (.inr (7, v4))), some (.inl v5), some (.inl v6), some (.inl v7), none]) 1 (hrec r8 (v1 + 1) v2 r11 hr12) (fun F h => h) ?_
        show pm_Gx (RT d) co_X3_tryTurn 64 [some (.inr (.inr (16, 0))), some (.inl v1), some (.inl v2), some (.inr (.inr (7, v3))), some (.inr (.inr (7, v4))), some (.inl v5), some (.inl v6), some (.inl v7), none] [.inl r11.1] r11.2 Q
        refine pm_go (i2 := 67) (ls2 := [some (.inr (.inr (16, 0))), some (.inl v1), some (.inl v2), some (.inr (.inr (7, v3))), some (.inr (.inr (7, v4))), some (.inl v5), some (.inl v6), some (.inl v7), some (.inl r11.1)]) (st2 := [.inl (-9), .inl v6]) (w2 := r11.2) 3 (fun F h => h) ?_
        refine pm_if (P := v6 = (-9)) (i2 := 77) (i3 := 68) (ls2 := [some (.inr (.inr (16, 0))), some (.inl v1), some (.inl v2), some (.inr (.inr (7, v3))), some (.inr (.inr (7, v4))), some (.inl v5), some (.inl v6), some (.inl v7), some (.inl r11.1)]) (st2 := []) (w2 := r11.2) 1 (fun F h => h) (fun hc13 => ?_) (fun hc13 => ?_)
        · rw [if_pos hc13] at hf
          refine pm_go (i2 := 81) (ls2 := [some (.inr (.inr (16, 0))), some (.inl v1), some (.inl v2), some (.inr (.inr (7, v3))), some (.inr (.inr (7, v4))), some (.inl v5), some (.inl r11.1), some (.inl v7), some (.inl r11.1)]) (st2 := [.inl v1, .inr (.inr (16, 0))]) (w2 := r11.2) 4 (fun F h => h) ?_
          have key : pm_Gx (RT d) co_X3_tryTurn 86 [some (.inr (.inr (16, 0))), some (.inl v1), some (.inl v2), some (.inr (.inr (7, v3))), some (.inr (.inr (7, v4))), some (.inl v5), some (.inl r11.1), some (.inl v7), some (.inl r11.1)] [.inl (if v1 = 0 then v7 else r11.2.1 16 0 4 : Int32), .inr (.inr (16, 0))] r11.2 Q := by
            refine pm_go (i2 := 87) (ls2 := [some (.inr (.inr (16, 0))), some (.inl v1), some (.inl v2), some (.inr (.inr (7, v3))), some (.inr (.inr (7, v4))), some (.inl v5), some (.inl r11.1), some (.inl v7), some (.inl r11.1)]) (st2 := []) (w2 := (pm_setI r11.2 16 0 4 (if v1 = 0 then v7 else r11.2.1 16 0 4 : Int32))) 1 (fun F h => h) ?_
            generalize (pm_setI r11.2 16 0 4 (if v1 = 0 then v7 else r11.2.1 16 0 4 : Int32)) = w14 at hf ⊢
            replace hf := pm_wlet_un hf
            refine pm_go (i2 := 40) (ls2 := [some (.inr (.inr (16, 0))), some (.inl v1), some (.inl v2), some (.inr (.inr (7, v3))), some (.inr (.inr (7, v4))), some (.inl v5), some (.inl r11.1), some (.inl (v7 + 1)), some (.inl r11.1)]) (st2 := []) (w2 := w14) 2 (fun F h => h) ?_
            refine pm_wk (ls := [some (.inr (.inr (16, 0))), some (.inl v1), some (.inl v2), some (.inr (.inr (7, v3))), some (.inr (.inr (7, v4))), some (.inl v5), some (.inl r11.1), some (.inl (v7 + 1)), none]) ⟨.inr rfl, .inr rfl, .inr rfl, .inr rfl, .inr rfl, .inr rfl, .inr rfl, .inr rfl, .inl rfl, trivial⟩ ?_
            exact ih w14 v1 v2 v3 v4 v5 r11.1 (v7 + 1) _ hf hk
          clear hf
          refine pm_if (P := v1 = 0) (i2 := 82) (i3 := 84) (ls2 := [some (.inr (.inr (16, 0))), some (.inl v1), some (.inl v2), some (.inr (.inr (7, v3))), some (.inr (.inr (7, v4))), some (.inl v5), some (.inl r11.1), some (.inl v7), some (.inl r11.1)]) (st2 := [.inr (.inr (16, 0))]) (w2 := r11.2) 1 (fun F h => h) (fun hc15 => ?_) (fun hc15 => ?_)
          · try simp only [if_pos hc15] at key
            refine pm_go (i2 := 86) (ls2 := [some (.inr (.inr (16, 0))), some (.inl v1), some (.inl v2), some (.inr (.inr (7, v3))), some (.inr (.inr (7, v4))), some (.inl v5), some (.inl r11.1), some (.inl v7), some (.inl r11.1)]) (st2 := [.inl v7, .inr (.inr (16, 0))]) (w2 := r11.2) 2 (fun F h => h) ?_
            exact key
          · try simp only [if_neg hc15] at key
            refine pm_go (i2 := 86) (ls2 := [some (.inr (.inr (16, 0))), some (.inl v1), some (.inl v2), some (.inr (.inr (7, v3))), some (.inr (.inr (7, v4))), some (.inl v5), some (.inl r11.1), some (.inl v7), some (.inl r11.1)]) (st2 := [.inl (r11.2.1 16 0 4), .inr (.inr (16, 0))]) (w2 := r11.2) 2 (fun F h => h) ?_
            exact key
        · rw [if_neg hc13] at hf
          refine pm_go (i2 := 69) (ls2 := [some (.inr (.inr (16, 0))), some (.inl v1), some (.inl v2), some (.inr (.inr (7, v3))), some (.inr (.inr (7, v4))), some (.inl v5), some (.inl v6), some (.inl v7), some (.inl r11.1)]) (st2 := [.inl v5]) (w2 := r11.2) 1 (fun F h => h) ?_
          refine pm_if (P := v5 = 0) (i2 := 74) (i3 := 70) (ls2 := [some (.inr (.inr (16, 0))), some (.inl v1), some (.inl v2), some (.inr (.inr (7, v3))), some (.inr (.inr (7, v4))), some (.inl v5), some (.inl v6), some (.inl v7), some (.inl r11.1)]) (st2 := []) (w2 := r11.2) 1 (fun F h => h) (fun hc16 => ?_) (fun hc16 => ?_)
          · rw [if_pos hc16] at hf
            refine pm_go (i2 := 76) (ls2 := [some (.inr (.inr (16, 0))), some (.inl v1), some (.inl v2), some (.inr (.inr (7, v3))), some (.inr (.inr (7, v4))), some (.inl v5), some (.inl v6), some (.inl v7), some (.inl r11.1)]) (st2 := [.inl v6, .inl r11.1]) (w2 := r11.2) 2 (fun F h => h) ?_
            refine pm_if (P := v6 ≤ r11.1) (i2 := 87) (i3 := 77) (ls2 := [some (.inr (.inr (16, 0))), some (.inl v1), some (.inl v2), some (.inr (.inr (7, v3))), some (.inr (.inr (7, v4))), some (.inl v5), some (.inl v6), some (.inl v7), some (.inl r11.1)]) (st2 := []) (w2 := r11.2) 1 (fun F h => h) (fun hc17 => ?_) (fun hc17 => ?_)
            · rw [if_pos hc17] at hf
              refine pm_go (i2 := 40) (ls2 := [some (.inr (.inr (16, 0))), some (.inl v1), some (.inl v2), some (.inr (.inr (7, v3))), some (.inr (.inr (7, v4))), some (.inl v5), some (.inl v6), some (.inl (v7 + 1)), some (.inl r11.1)]) (st2 := []) (w2 := r11.2) 2 (fun F h => h) ?_
              refine pm_wk (ls := [some (.inr (.inr (16, 0))), some (.inl v1), some (.inl v2), some (.inr (.inr (7, v3))), some (.inr (.inr (7, v4))), some (.inl v5), some (.inl v6), some (.inl (v7 + 1)), none]) ⟨.inr rfl, .inr rfl, .inr rfl, .inr rfl, .inr rfl, .inr rfl, .inr rfl, .inr rfl, .inl rfl, trivial⟩ ?_
              exact ih r11.2 v1 v2 v3 v4 v5 v6 (v7 + 1) _ hf hk
            · rw [if_neg hc17] at hf
              refine pm_go (i2 := 81) (ls2 := [some (.inr (.inr (16, 0))), some (.inl v1), some (.inl v2), some (.inr (.inr (7, v3))), some (.inr (.inr (7, v4))), some (.inl v5), some (.inl r11.1), some (.inl v7), some (.inl r11.1)]) (st2 := [.inl v1, .inr (.inr (16, 0))]) (w2 := r11.2) 4 (fun F h => h) ?_
              have key : pm_Gx (RT d) co_X3_tryTurn 86 [some (.inr (.inr (16, 0))), some (.inl v1), some (.inl v2), some (.inr (.inr (7, v3))), some (.inr (.inr (7, v4))), some (.inl v5), some (.inl r11.1), some (.inl v7), some (.inl r11.1)] [.inl (if v1 = 0 then v7 else r11.2.1 16 0 4 : Int32), .inr (.inr (16, 0))] r11.2 Q := by
                refine pm_go (i2 := 87) (ls2 := [some (.inr (.inr (16, 0))), some (.inl v1), some (.inl v2), some (.inr (.inr (7, v3))), some (.inr (.inr (7, v4))), some (.inl v5), some (.inl r11.1), some (.inl v7), some (.inl r11.1)]) (st2 := []) (w2 := (pm_setI r11.2 16 0 4 (if v1 = 0 then v7 else r11.2.1 16 0 4 : Int32))) 1 (fun F h => h) ?_
                generalize (pm_setI r11.2 16 0 4 (if v1 = 0 then v7 else r11.2.1 16 0 4 : Int32)) = w18 at hf ⊢
                replace hf := pm_wlet_un hf
                refine pm_go (i2 := 40) (ls2 := [some (.inr (.inr (16, 0))), some (.inl v1), some (.inl v2), some (.inr (.inr (7, v3))), some (.inr (.inr (7, v4))), some (.inl v5), some (.inl r11.1), some (.inl (v7 + 1)), some (.inl r11.1)]) (st2 := []) (w2 := w18) 2 (fun F h => h) ?_
                refine pm_wk (ls := [some (.inr (.inr (16, 0))), some (.inl v1), some (.inl v2), some (.inr (.inr (7, v3))), some (.inr (.inr (7, v4))), some (.inl v5), some (.inl r11.1), some (.inl (v7 + 1)), none]) ⟨.inr rfl, .inr rfl, .inr rfl, .inr rfl, .inr rfl, .inr rfl, .inr rfl, .inr rfl, .inl rfl, trivial⟩ ?_
                exact ih w18 v1 v2 v3 v4 v5 r11.1 (v7 + 1) _ hf hk
              clear hf
              refine pm_if (P := v1 = 0) (i2 := 82) (i3 := 84) (ls2 := [some (.inr (.inr (16, 0))), some (.inl v1), some (.inl v2), some (.inr (.inr (7, v3))), some (.inr (.inr (7, v4))), some (.inl v5), some (.inl r11.1), some (.inl v7), some (.inl r11.1)]) (st2 := [.inr (.inr (16, 0))]) (w2 := r11.2) 1 (fun F h => h) (fun hc19 => ?_) (fun hc19 => ?_)
              · try simp only [if_pos hc19] at key
                refine pm_go (i2 := 86) (ls2 := [some (.inr (.inr (16, 0))), some (.inl v1), some (.inl v2), some (.inr (.inr (7, v3))), some (.inr (.inr (7, v4))), some (.inl v5), some (.inl r11.1), some (.inl v7), some (.inl r11.1)]) (st2 := [.inl v7, .inr (.inr (16, 0))]) (w2 := r11.2) 2 (fun F h => h) ?_
                exact key
              · try simp only [if_neg hc19] at key
                refine pm_go (i2 := 86) (ls2 := [some (.inr (.inr (16, 0))), some (.inl v1), some (.inl v2), some (.inr (.inr (7, v3))), some (.inr (.inr (7, v4))), some (.inl v5), some (.inl r11.1), some (.inl v7), some (.inl r11.1)]) (st2 := [.inl (r11.2.1 16 0 4), .inr (.inr (16, 0))]) (w2 := r11.2) 2 (fun F h => h) ?_
                exact key
          · rw [if_neg hc16] at hf
            refine pm_go (i2 := 72) (ls2 := [some (.inr (.inr (16, 0))), some (.inl v1), some (.inl v2), some (.inr (.inr (7, v3))), some (.inr (.inr (7, v4))), some (.inl v5), some (.inl v6), some (.inl v7), some (.inl r11.1)]) (st2 := [.inl v6, .inl r11.1]) (w2 := r11.2) 2 (fun F h => h) ?_
            refine pm_if (P := r11.1 ≤ v6) (i2 := 87) (i3 := 73) (ls2 := [some (.inr (.inr (16, 0))), some (.inl v1), some (.inl v2), some (.inr (.inr (7, v3))), some (.inr (.inr (7, v4))), some (.inl v5), some (.inl v6), some (.inl v7), some (.inl r11.1)]) (st2 := []) (w2 := r11.2) 1 (fun F h => h) (fun hc20 => ?_) (fun hc20 => ?_)
            · rw [if_pos hc20] at hf
              refine pm_go (i2 := 40) (ls2 := [some (.inr (.inr (16, 0))), some (.inl v1), some (.inl v2), some (.inr (.inr (7, v3))), some (.inr (.inr (7, v4))), some (.inl v5), some (.inl v6), some (.inl (v7 + 1)), some (.inl r11.1)]) (st2 := []) (w2 := r11.2) 2 (fun F h => h) ?_
              refine pm_wk (ls := [some (.inr (.inr (16, 0))), some (.inl v1), some (.inl v2), some (.inr (.inr (7, v3))), some (.inr (.inr (7, v4))), some (.inl v5), some (.inl v6), some (.inl (v7 + 1)), none]) ⟨.inr rfl, .inr rfl, .inr rfl, .inr rfl, .inr rfl, .inr rfl, .inr rfl, .inr rfl, .inl rfl, trivial⟩ ?_
              exact ih r11.2 v1 v2 v3 v4 v5 v6 (v7 + 1) _ hf hk
            · rw [if_neg hc20] at hf
              refine pm_go (i2 := 81) (ls2 := [some (.inr (.inr (16, 0))), some (.inl v1), some (.inl v2), some (.inr (.inr (7, v3))), some (.inr (.inr (7, v4))), some (.inl v5), some (.inl r11.1), some (.inl v7), some (.inl r11.1)]) (st2 := [.inl v1, .inr (.inr (16, 0))]) (w2 := r11.2) 5 (fun F h => h) ?_
              have key : pm_Gx (RT d) co_X3_tryTurn 86 [some (.inr (.inr (16, 0))), some (.inl v1), some (.inl v2), some (.inr (.inr (7, v3))), some (.inr (.inr (7, v4))), some (.inl v5), some (.inl r11.1), some (.inl v7), some (.inl r11.1)] [.inl (if v1 = 0 then v7 else r11.2.1 16 0 4 : Int32), .inr (.inr (16, 0))] r11.2 Q := by
                refine pm_go (i2 := 87) (ls2 := [some (.inr (.inr (16, 0))), some (.inl v1), some (.inl v2), some (.inr (.inr (7, v3))), some (.inr (.inr (7, v4))), some (.inl v5), some (.inl r11.1), some (.inl v7), some (.inl r11.1)]) (st2 := []) (w2 := (pm_setI r11.2 16 0 4 (if v1 = 0 then v7 else r11.2.1 16 0 4 : Int32))) 1 (fun F h => h) ?_
                generalize (pm_setI r11.2 16 0 4 (if v1 = 0 then v7 else r11.2.1 16 0 4 : Int32)) = w21 at hf ⊢
                replace hf := pm_wlet_un hf
                refine pm_go (i2 := 40) (ls2 := [some (.inr (.inr (16, 0))), some (.inl v1), some (.inl v2), some (.inr (.inr (7, v3))), some (.inr (.inr (7, v4))), some (.inl v5), some (.inl r11.1), some (.inl (v7 + 1)), some (.inl r11.1)]) (st2 := []) (w2 := w21) 2 (fun F h => h) ?_
                refine pm_wk (ls := [some (.inr (.inr (16, 0))), some (.inl v1), some (.inl v2), some (.inr (.inr (7, v3))), some (.inr (.inr (7, v4))), some (.inl v5), some (.inl r11.1), some (.inl (v7 + 1)), none]) ⟨.inr rfl, .inr rfl, .inr rfl, .inr rfl, .inr rfl, .inr rfl, .inr rfl, .inr rfl, .inl rfl, trivial⟩ ?_
                exact ih w21 v1 v2 v3 v4 v5 r11.1 (v7 + 1) _ hf hk
              clear hf
              refine pm_if (P := v1 = 0) (i2 := 82) (i3 := 84) (ls2 := [some (.inr (.inr (16, 0))), some (.inl v1), some (.inl v2), some (.inr (.inr (7, v3))), some (.inr (.inr (7, v4))), some (.inl v5), some (.inl r11.1), some (.inl v7), some (.inl r11.1)]) (st2 := [.inr (.inr (16, 0))]) (w2 := r11.2) 1 (fun F h => h) (fun hc22 => ?_) (fun hc22 => ?_)
              · try simp only [if_pos hc22] at key
                refine pm_go (i2 := 86) (ls2 := [some (.inr (.inr (16, 0))), some (.inl v1), some (.inl v2), some (.inr (.inr (7, v3))), some (.inr (.inr (7, v4))), some (.inl v5), some (.inl r11.1), some (.inl v7), some (.inl r11.1)]) (st2 := [.inl v7, .inr (.inr (16, 0))]) (w2 := r11.2) 2 (fun F h => h) ?_
                exact key
              · try simp only [if_neg hc22] at key
                refine pm_go (i2 := 86) (ls2 := [some (.inr (.inr (16, 0))), some (.inl v1), some (.inl v2), some (.inr (.inr (7, v3))), some (.inr (.inr (7, v4))), some (.inl v5), some (.inl r11.1), some (.inl v7), some (.inl r11.1)]) (st2 := [.inl (r11.2.1 16 0 4), .inr (.inr (16, 0))]) (w2 := r11.2) 2 (fun F h => h) ?_
                exact key
      · rw [if_neg hc10] at hf
        refine pm_go (i2 := 56) (ls2 := [some (.inr (.inr (16, 0))), some (.inl v1), some (.inl v2), some (.inr (.inr (7, v3))), some (.inr (.inr (7, v4))), some (.inl v5), some (.inl v6), some (.inl v7), none]) (st2 := [.inl (v7 - 1), .inr (.inr (7, v4)), .inr (.inr (3, 0))]) (w2 := r8) 6 (fun F h => h) ?_
        obtain ⟨r23, hr24, hf⟩ := Option.bind_eq_some_iff.mp hf
        refine pm_ca (y := 34) (as := [.inr (.inr (3, 0)), .inr (.inr (7, v4)), .inl (v7 - 1)]) (r := some (.inl r23.1)) (w2 := r8) (w1 := r23.2) (t := []) (i2 := 57) (ls2 := [some (.inr (.inr (16, 0))), some (.inl v1), some (.inl v2), some (.inr (.inr (7, v3))), some (.inr (.inr (7, v4))), some (.inl v5), some (.inl v6), some (.inl v7), none]) 1 (a_X5_speakIfCan F r8 v4 (v7 - 1) r23 d (by omega) hr24) (fun F h => h) ?_
        show pm_Gx (RT d) co_X3_tryTurn 57 [some (.inr (.inr (16, 0))), some (.inl v1), some (.inl v2), some (.inr (.inr (7, v3))), some (.inr (.inr (7, v4))), some (.inl v5), some (.inl v6), some (.inl v7), none] [.inl r23.1] r23.2 Q
        refine pm_if (P := r23.1 = 0) (i2 := 87) (i3 := 58) (ls2 := [some (.inr (.inr (16, 0))), some (.inl v1), some (.inl v2), some (.inr (.inr (7, v3))), some (.inr (.inr (7, v4))), some (.inl v5), some (.inl v6), some (.inl v7), none]) (st2 := []) (w2 := r23.2) 1 (fun F h => h) (fun hc25 => ?_) (fun hc25 => ?_)
        · rw [if_pos hc25] at hf
          refine pm_go (i2 := 40) (ls2 := [some (.inr (.inr (16, 0))), some (.inl v1), some (.inl v2), some (.inr (.inr (7, v3))), some (.inr (.inr (7, v4))), some (.inl v5), some (.inl v6), some (.inl (v7 + 1)), none]) (st2 := []) (w2 := r23.2) 2 (fun F h => h) ?_
          exact ih r23.2 v1 v2 v3 v4 v5 v6 (v7 + 1) _ hf hk
        · rw [if_neg hc25] at hf
          refine pm_go (i2 := 63) (ls2 := [some (.inr (.inr (16, 0))), some (.inl v1), some (.inl v2), some (.inr (.inr (7, v3))), some (.inr (.inr (7, v4))), some (.inl v5), some (.inl v6), some (.inl v7), none]) (st2 := [.inl v2, .inl (v1 + 1), .inr (.inr (16, 0))]) (w2 := r23.2) 5 (fun F h => h) ?_
          obtain ⟨r26, hr27, hf⟩ := Option.bind_eq_some_iff.mp hf
          refine pm_ca (y := 26) (as := [.inr (.inr (16, 0)), .inl (v1 + 1), .inl v2]) (r := some (.inl r26.1)) (w2 := r23.2) (w1 := r26.2) (t := []) (i2 := 64) (ls2 := [some (.inr (.inr (16, 0))), some (.inl v1), some (.inl v2), some (.inr (.inr (7, v3))), some (.inr (.inr (7, v4))), some (.inl v5), some (.inl v6), some (.inl v7), none]) 1 (hrec r23.2 (v1 + 1) v2 r26 hr27) (fun F h => h) ?_
          show pm_Gx (RT d) co_X3_tryTurn 64 [some (.inr (.inr (16, 0))), some (.inl v1), some (.inl v2), some (.inr (.inr (7, v3))), some (.inr (.inr (7, v4))), some (.inl v5), some (.inl v6), some (.inl v7), none] [.inl r26.1] r26.2 Q
          refine pm_go (i2 := 67) (ls2 := [some (.inr (.inr (16, 0))), some (.inl v1), some (.inl v2), some (.inr (.inr (7, v3))), some (.inr (.inr (7, v4))), some (.inl v5), some (.inl v6), some (.inl v7), some (.inl r26.1)]) (st2 := [.inl (-9), .inl v6]) (w2 := r26.2) 3 (fun F h => h) ?_
          refine pm_if (P := v6 = (-9)) (i2 := 77) (i3 := 68) (ls2 := [some (.inr (.inr (16, 0))), some (.inl v1), some (.inl v2), some (.inr (.inr (7, v3))), some (.inr (.inr (7, v4))), some (.inl v5), some (.inl v6), some (.inl v7), some (.inl r26.1)]) (st2 := []) (w2 := r26.2) 1 (fun F h => h) (fun hc28 => ?_) (fun hc28 => ?_)
          · rw [if_pos hc28] at hf
            refine pm_go (i2 := 81) (ls2 := [some (.inr (.inr (16, 0))), some (.inl v1), some (.inl v2), some (.inr (.inr (7, v3))), some (.inr (.inr (7, v4))), some (.inl v5), some (.inl r26.1), some (.inl v7), some (.inl r26.1)]) (st2 := [.inl v1, .inr (.inr (16, 0))]) (w2 := r26.2) 4 (fun F h => h) ?_
            have key : pm_Gx (RT d) co_X3_tryTurn 86 [some (.inr (.inr (16, 0))), some (.inl v1), some (.inl v2), some (.inr (.inr (7, v3))), some (.inr (.inr (7, v4))), some (.inl v5), some (.inl r26.1), some (.inl v7), some (.inl r26.1)] [.inl (if v1 = 0 then v7 else r26.2.1 16 0 4 : Int32), .inr (.inr (16, 0))] r26.2 Q := by
              refine pm_go (i2 := 87) (ls2 := [some (.inr (.inr (16, 0))), some (.inl v1), some (.inl v2), some (.inr (.inr (7, v3))), some (.inr (.inr (7, v4))), some (.inl v5), some (.inl r26.1), some (.inl v7), some (.inl r26.1)]) (st2 := []) (w2 := (pm_setI r26.2 16 0 4 (if v1 = 0 then v7 else r26.2.1 16 0 4 : Int32))) 1 (fun F h => h) ?_
              generalize (pm_setI r26.2 16 0 4 (if v1 = 0 then v7 else r26.2.1 16 0 4 : Int32)) = w29 at hf ⊢
              replace hf := pm_wlet_un hf
              refine pm_go (i2 := 40) (ls2 := [some (.inr (.inr (16, 0))), some (.inl v1), some (.inl v2), some (.inr (.inr (7, v3))), some (.inr (.inr (7, v4))), some (.inl v5), some (.inl r26.1), some (.inl (v7 + 1)), some (.inl r26.1)]) (st2 := []) (w2 := w29) 2 (fun F h => h) ?_
              refine pm_wk (ls := [some (.inr (.inr (16, 0))), some (.inl v1), some (.inl v2), some (.inr (.inr (7, v3))), some (.inr (.inr (7, v4))), some (.inl v5), some (.inl r26.1), some (.inl (v7 + 1)), none]) ⟨.inr rfl, .inr rfl, .inr rfl, .inr rfl, .inr rfl, .inr rfl, .inr rfl, .inr rfl, .inl rfl, trivial⟩ ?_
              exact ih w29 v1 v2 v3 v4 v5 r26.1 (v7 + 1) _ hf hk
            clear hf
            refine pm_if (P := v1 = 0) (i2 := 82) (i3 := 84) (ls2 := [some (.inr (.inr (16, 0))), some (.inl v1), some (.inl v2), some (.inr (.inr (7, v3))), some (.inr (.inr (7, v4))), some (.inl v5), some (.inl r26.1), some (.inl v7), some (.inl r26.1)]) (st2 := [.inr (.inr (16, 0))]) (w2 := r26.2) 1 (fun F h => h) (fun hc30 => ?_) (fun hc30 => ?_)
            · try simp only [if_pos hc30] at key
              refine pm_go (i2 := 86) (ls2 := [some (.inr (.inr (16, 0))), some (.inl v1), some (.inl v2), some (.inr (.inr (7, v3))), some (.inr (.inr (7, v4))), some (.inl v5), some (.inl r26.1), some (.inl v7), some (.inl r26.1)]) (st2 := [.inl v7, .inr (.inr (16, 0))]) (w2 := r26.2) 2 (fun F h => h) ?_
              exact key
            · try simp only [if_neg hc30] at key
              refine pm_go (i2 := 86) (ls2 := [some (.inr (.inr (16, 0))), some (.inl v1), some (.inl v2), some (.inr (.inr (7, v3))), some (.inr (.inr (7, v4))), some (.inl v5), some (.inl r26.1), some (.inl v7), some (.inl r26.1)]) (st2 := [.inl (r26.2.1 16 0 4), .inr (.inr (16, 0))]) (w2 := r26.2) 2 (fun F h => h) ?_
              exact key
          · rw [if_neg hc28] at hf
            refine pm_go (i2 := 69) (ls2 := [some (.inr (.inr (16, 0))), some (.inl v1), some (.inl v2), some (.inr (.inr (7, v3))), some (.inr (.inr (7, v4))), some (.inl v5), some (.inl v6), some (.inl v7), some (.inl r26.1)]) (st2 := [.inl v5]) (w2 := r26.2) 1 (fun F h => h) ?_
            refine pm_if (P := v5 = 0) (i2 := 74) (i3 := 70) (ls2 := [some (.inr (.inr (16, 0))), some (.inl v1), some (.inl v2), some (.inr (.inr (7, v3))), some (.inr (.inr (7, v4))), some (.inl v5), some (.inl v6), some (.inl v7), some (.inl r26.1)]) (st2 := []) (w2 := r26.2) 1 (fun F h => h) (fun hc31 => ?_) (fun hc31 => ?_)
            · rw [if_pos hc31] at hf
              refine pm_go (i2 := 76) (ls2 := [some (.inr (.inr (16, 0))), some (.inl v1), some (.inl v2), some (.inr (.inr (7, v3))), some (.inr (.inr (7, v4))), some (.inl v5), some (.inl v6), some (.inl v7), some (.inl r26.1)]) (st2 := [.inl v6, .inl r26.1]) (w2 := r26.2) 2 (fun F h => h) ?_
              refine pm_if (P := v6 ≤ r26.1) (i2 := 87) (i3 := 77) (ls2 := [some (.inr (.inr (16, 0))), some (.inl v1), some (.inl v2), some (.inr (.inr (7, v3))), some (.inr (.inr (7, v4))), some (.inl v5), some (.inl v6), some (.inl v7), some (.inl r26.1)]) (st2 := []) (w2 := r26.2) 1 (fun F h => h) (fun hc32 => ?_) (fun hc32 => ?_)
              · rw [if_pos hc32] at hf
                refine pm_go (i2 := 40) (ls2 := [some (.inr (.inr (16, 0))), some (.inl v1), some (.inl v2), some (.inr (.inr (7, v3))), some (.inr (.inr (7, v4))), some (.inl v5), some (.inl v6), some (.inl (v7 + 1)), some (.inl r26.1)]) (st2 := []) (w2 := r26.2) 2 (fun F h => h) ?_
                refine pm_wk (ls := [some (.inr (.inr (16, 0))), some (.inl v1), some (.inl v2), some (.inr (.inr (7, v3))), some (.inr (.inr (7, v4))), some (.inl v5), some (.inl v6), some (.inl (v7 + 1)), none]) ⟨.inr rfl, .inr rfl, .inr rfl, .inr rfl, .inr rfl, .inr rfl, .inr rfl, .inr rfl, .inl rfl, trivial⟩ ?_
                exact ih r26.2 v1 v2 v3 v4 v5 v6 (v7 + 1) _ hf hk
              · rw [if_neg hc32] at hf
                refine pm_go (i2 := 81) (ls2 := [some (.inr (.inr (16, 0))), some (.inl v1), some (.inl v2), some (.inr (.inr (7, v3))), some (.inr (.inr (7, v4))), some (.inl v5), some (.inl r26.1), some (.inl v7), some (.inl r26.1)]) (st2 := [.inl v1, .inr (.inr (16, 0))]) (w2 := r26.2) 4 (fun F h => h) ?_
                have key : pm_Gx (RT d) co_X3_tryTurn 86 [some (.inr (.inr (16, 0))), some (.inl v1), some (.inl v2), some (.inr (.inr (7, v3))), some (.inr (.inr (7, v4))), some (.inl v5), some (.inl r26.1), some (.inl v7), some (.inl r26.1)] [.inl (if v1 = 0 then v7 else r26.2.1 16 0 4 : Int32), .inr (.inr (16, 0))] r26.2 Q := by
                  refine pm_go (i2 := 87) (ls2 := [some (.inr (.inr (16, 0))), some (.inl v1), some (.inl v2), some (.inr (.inr (7, v3))), some (.inr (.inr (7, v4))), some (.inl v5), some (.inl r26.1), some (.inl v7), some (.inl r26.1)]) (st2 := []) (w2 := (pm_setI r26.2 16 0 4 (if v1 = 0 then v7 else r26.2.1 16 0 4 : Int32))) 1 (fun F h => h) ?_
                  generalize (pm_setI r26.2 16 0 4 (if v1 = 0 then v7 else r26.2.1 16 0 4 : Int32)) = w33 at hf ⊢
                  replace hf := pm_wlet_un hf
                  refine pm_go (i2 := 40) (ls2 := [some (.inr (.inr (16, 0))), some (.inl v1), some (.inl v2), some (.inr (.inr (7, v3))), some (.inr (.inr (7, v4))), some (.inl v5), some (.inl r26.1), some (.inl (v7 + 1)), some (.inl r26.1)]) (st2 := []) (w2 := w33) 2 (fun F h => h) ?_
                  refine pm_wk (ls := [some (.inr (.inr (16, 0))), some (.inl v1), some (.inl v2), some (.inr (.inr (7, v3))), some (.inr (.inr (7, v4))), some (.inl v5), some (.inl r26.1), some (.inl (v7 + 1)), none]) ⟨.inr rfl, .inr rfl, .inr rfl, .inr rfl, .inr rfl, .inr rfl, .inr rfl, .inr rfl, .inl rfl, trivial⟩ ?_
                  exact ih w33 v1 v2 v3 v4 v5 r26.1 (v7 + 1) _ hf hk
                clear hf
                refine pm_if (P := v1 = 0) (i2 := 82) (i3 := 84) (ls2 := [some (.inr (.inr (16, 0))), some (.inl v1), some (.inl v2), some (.inr (.inr (7, v3))), some (.inr (.inr (7, v4))), some (.inl v5), some (.inl r26.1), some (.inl v7), some (.inl r26.1)]) (st2 := [.inr (.inr (16, 0))]) (w2 := r26.2) 1 (fun F h => h) (fun hc34 => ?_) (fun hc34 => ?_)
                · try simp only [if_pos hc34] at key
                  refine pm_go (i2 := 86) (ls2 := [some (.inr (.inr (16, 0))), some (.inl v1), some (.inl v2), some (.inr (.inr (7, v3))), some (.inr (.inr (7, v4))), some (.inl v5), some (.inl r26.1), some (.inl v7), some (.inl r26.1)]) (st2 := [.inl v7, .inr (.inr (16, 0))]) (w2 := r26.2) 2 (fun F h => h) ?_
                  exact key
                · try simp only [if_neg hc34] at key
                  refine pm_go (i2 := 86) (ls2 := [some (.inr (.inr (16, 0))), some (.inl v1), some (.inl v2), some (.inr (.inr (7, v3))), some (.inr (.inr (7, v4))), some (.inl v5), some (.inl r26.1), some (.inl v7), some (.inl r26.1)]) (st2 := [.inl (r26.2.1 16 0 4), .inr (.inr (16, 0))]) (w2 := r26.2) 2 (fun F h => h) ?_
                  exact key
            · rw [if_neg hc31] at hf
              refine pm_go (i2 := 72) (ls2 := [some (.inr (.inr (16, 0))), some (.inl v1), some (.inl v2), some (.inr (.inr (7, v3))), some (.inr (.inr (7, v4))), some (.inl v5), some (.inl v6), some (.inl v7), some (.inl r26.1)]) (st2 := [.inl v6, .inl r26.1]) (w2 := r26.2) 2 (fun F h => h) ?_
              refine pm_if (P := r26.1 ≤ v6) (i2 := 87) (i3 := 73) (ls2 := [some (.inr (.inr (16, 0))), some (.inl v1), some (.inl v2), some (.inr (.inr (7, v3))), some (.inr (.inr (7, v4))), some (.inl v5), some (.inl v6), some (.inl v7), some (.inl r26.1)]) (st2 := []) (w2 := r26.2) 1 (fun F h => h) (fun hc35 => ?_) (fun hc35 => ?_)
              · rw [if_pos hc35] at hf
                refine pm_go (i2 := 40) (ls2 := [some (.inr (.inr (16, 0))), some (.inl v1), some (.inl v2), some (.inr (.inr (7, v3))), some (.inr (.inr (7, v4))), some (.inl v5), some (.inl v6), some (.inl (v7 + 1)), some (.inl r26.1)]) (st2 := []) (w2 := r26.2) 2 (fun F h => h) ?_
                refine pm_wk (ls := [some (.inr (.inr (16, 0))), some (.inl v1), some (.inl v2), some (.inr (.inr (7, v3))), some (.inr (.inr (7, v4))), some (.inl v5), some (.inl v6), some (.inl (v7 + 1)), none]) ⟨.inr rfl, .inr rfl, .inr rfl, .inr rfl, .inr rfl, .inr rfl, .inr rfl, .inr rfl, .inl rfl, trivial⟩ ?_
                exact ih r26.2 v1 v2 v3 v4 v5 v6 (v7 + 1) _ hf hk
              · rw [if_neg hc35] at hf
                refine pm_go (i2 := 81) (ls2 := [some (.inr (.inr (16, 0))), some (.inl v1), some (.inl v2), some (.inr (.inr (7, v3))), some (.inr (.inr (7, v4))), some (.inl v5), some (.inl r26.1), some (.inl v7), some (.inl r26.1)]) (st2 := [.inl v1, .inr (.inr (16, 0))]) (w2 := r26.2) 5 (fun F h => h) ?_
                have key : pm_Gx (RT d) co_X3_tryTurn 86 [some (.inr (.inr (16, 0))), some (.inl v1), some (.inl v2), some (.inr (.inr (7, v3))), some (.inr (.inr (7, v4))), some (.inl v5), some (.inl r26.1), some (.inl v7), some (.inl r26.1)] [.inl (if v1 = 0 then v7 else r26.2.1 16 0 4 : Int32), .inr (.inr (16, 0))] r26.2 Q := by
                  refine pm_go (i2 := 87) (ls2 := [some (.inr (.inr (16, 0))), some (.inl v1), some (.inl v2), some (.inr (.inr (7, v3))), some (.inr (.inr (7, v4))), some (.inl v5), some (.inl r26.1), some (.inl v7), some (.inl r26.1)]) (st2 := []) (w2 := (pm_setI r26.2 16 0 4 (if v1 = 0 then v7 else r26.2.1 16 0 4 : Int32))) 1 (fun F h => h) ?_
                  generalize (pm_setI r26.2 16 0 4 (if v1 = 0 then v7 else r26.2.1 16 0 4 : Int32)) = w36 at hf ⊢
                  replace hf := pm_wlet_un hf
                  refine pm_go (i2 := 40) (ls2 := [some (.inr (.inr (16, 0))), some (.inl v1), some (.inl v2), some (.inr (.inr (7, v3))), some (.inr (.inr (7, v4))), some (.inl v5), some (.inl r26.1), some (.inl (v7 + 1)), some (.inl r26.1)]) (st2 := []) (w2 := w36) 2 (fun F h => h) ?_
                  refine pm_wk (ls := [some (.inr (.inr (16, 0))), some (.inl v1), some (.inl v2), some (.inr (.inr (7, v3))), some (.inr (.inr (7, v4))), some (.inl v5), some (.inl r26.1), some (.inl (v7 + 1)), none]) ⟨.inr rfl, .inr rfl, .inr rfl, .inr rfl, .inr rfl, .inr rfl, .inr rfl, .inr rfl, .inl rfl, trivial⟩ ?_
                  exact ih w36 v1 v2 v3 v4 v5 r26.1 (v7 + 1) _ hf hk
                clear hf
                refine pm_if (P := v1 = 0) (i2 := 82) (i3 := 84) (ls2 := [some (.inr (.inr (16, 0))), some (.inl v1), some (.inl v2), some (.inr (.inr (7, v3))), some (.inr (.inr (7, v4))), some (.inl v5), some (.inl r26.1), some (.inl v7), some (.inl r26.1)]) (st2 := [.inr (.inr (16, 0))]) (w2 := r26.2) 1 (fun F h => h) (fun hc37 => ?_) (fun hc37 => ?_)
                · try simp only [if_pos hc37] at key
                  refine pm_go (i2 := 86) (ls2 := [some (.inr (.inr (16, 0))), some (.inl v1), some (.inl v2), some (.inr (.inr (7, v3))), some (.inr (.inr (7, v4))), some (.inl v5), some (.inl r26.1), some (.inl v7), some (.inl r26.1)]) (st2 := [.inl v7, .inr (.inr (16, 0))]) (w2 := r26.2) 2 (fun F h => h) ?_
                  exact key
                · try simp only [if_neg hc37] at key
                  refine pm_go (i2 := 86) (ls2 := [some (.inr (.inr (16, 0))), some (.inl v1), some (.inl v2), some (.inr (.inr (7, v3))), some (.inr (.inr (7, v4))), some (.inl v5), some (.inl r26.1), some (.inl v7), some (.inl r26.1)]) (st2 := [.inl (r26.2.1 16 0 4), .inr (.inr (16, 0))]) (w2 := r26.2) 2 (fun F h => h) ?_
                  exact key
set_option maxRecDepth 20000 in
set_option maxHeartbeats 4000000 in
theorem b_X3_tryTurn (F : Nat) (rec : pm_W → Int32 → Int32 → Option ((Int32 × pm_W))) (d : Nat) (hd : 3 ≤ d) (hrec : ∀ (w : pm_W) (a1 : Int32) (a2 : Int32) (r : (Int32 × pm_W)), rec w a1 a2 = some r → RT d 26 [.inr (.inr (16, 0)), .inl a1, .inl a2] w (some (.inl r.1)) r.2) (Q : pm_Q) (w : pm_W) (a1 : Int32) (a2 : Int32) (x : (Int32 × pm_W)) (hf : f_X3_tryTurn_B F rec w a1 a2 = some x) (hq : Q (some (.inl x.1)) x.2) : pm_Gx (RT d) co_X3_tryTurn 0 [some (.inr (.inr (16, 0))), some (.inl a1), some (.inl a2), none, none, none, none, none, none] [] w Q := by
  unfold f_X3_tryTurn_B at hf
  refine pm_go (i2 := 1) (ls2 := [some (.inr (.inr (16, 0))), some (.inl a1), some (.inl a2), none, none, none, none, none, none]) (st2 := [.inl a1]) (w2 := w) 1 (fun F h => h) ?_
  refine pm_if (P := a1 < 0) (i2 := 5) (i3 := 2) (ls2 := [some (.inr (.inr (16, 0))), some (.inl a1), some (.inl a2), none, none, none, none, none, none]) (st2 := []) (w2 := w) 1 (fun F h => h) (fun hc1 => ?_) (fun hc1 => ?_)
  · rw [if_pos hc1] at hf
    refine pm_go (i2 := 6) (ls2 := [some (.inr (.inr (16, 0))), some (.inl a1), some (.inl a2), none, none, none, none, none, none]) (st2 := [.inl (-9)]) (w2 := w) 1 (fun F h => h) ?_
    obtain rfl := Option.some.inj hf
    exact pm_re (r := some (.inl (-9))) (w2 := w) 1 (fun F h => h) hq
  · rw [if_neg hc1] at hf
    refine pm_go (i2 := 4) (ls2 := [some (.inr (.inr (16, 0))), some (.inl a1), some (.inl a2), none, none, none, none, none, none]) (st2 := [.inl 5, .inl a1]) (w2 := w) 2 (fun F h => h) ?_
    refine pm_if (P := a1 ≤ 5) (i2 := 7) (i3 := 5) (ls2 := [some (.inr (.inr (16, 0))), some (.inl a1), some (.inl a2), none, none, none, none, none, none]) (st2 := []) (w2 := w) 1 (fun F h => h) (fun hc2 => ?_) (fun hc2 => ?_)
    · rw [if_pos hc2] at hf
      obtain ⟨hs3, hf⟩ := pm_itn hf
      refine pm_go (i2 := 14) (ls2 := [some (.inr (.inr (16, 0))), some (.inl a1), some (.inl a2), some (.inr (.inr (7, (17 + a1.toNatClampNeg)))), none, none, none, none, none]) (st2 := [.inl a2, .inl a1]) (w2 := w) 7 (fun F h => ⟨(pm_inb_in hs3), h⟩) ?_
      refine pm_if (P := a2 ≤ a1) (i2 := 18) (i3 := 15) (ls2 := [some (.inr (.inr (16, 0))), some (.inl a1), some (.inl a2), some (.inr (.inr (7, (17 + a1.toNatClampNeg)))), none, none, none, none, none]) (st2 := []) (w2 := w) 1 (fun F h => h) (fun hc4 => ?_) (fun hc4 => ?_)
      · rw [if_pos hc4] at hf
        refine pm_go (i2 := 20) (ls2 := [some (.inr (.inr (16, 0))), some (.inl a1), some (.inl a2), some (.inr (.inr (7, (17 + a1.toNatClampNeg)))), none, none, none, none, none]) (st2 := [.inl (w.1 7 (17 + a1.toNatClampNeg) 1)]) (w2 := w) 2 (fun F h => h) ?_
        obtain rfl := Option.some.inj hf
        exact pm_re (r := some (.inl (w.1 7 (17 + a1.toNatClampNeg) 1))) (w2 := w) 1 (fun F h => h) hq
      · rw [if_neg hc4] at hf
        refine pm_go (i2 := 17) (ls2 := [some (.inr (.inr (16, 0))), some (.inl a1), some (.inl a2), some (.inr (.inr (7, (17 + a1.toNatClampNeg)))), none, none, none, none, none]) (st2 := [.inl 5, .inl a1]) (w2 := w) 2 (fun F h => h) ?_
        refine pm_if (P := a1 = 5) (i2 := 18) (i3 := 21) (ls2 := [some (.inr (.inr (16, 0))), some (.inl a1), some (.inl a2), some (.inr (.inr (7, (17 + a1.toNatClampNeg)))), none, none, none, none, none]) (st2 := []) (w2 := w) 1 (fun F h => h) (fun hc5 => ?_) (fun hc5 => ?_)
        · rw [if_pos hc5] at hf
          refine pm_go (i2 := 20) (ls2 := [some (.inr (.inr (16, 0))), some (.inl a1), some (.inl a2), some (.inr (.inr (7, (17 + a1.toNatClampNeg)))), none, none, none, none, none]) (st2 := [.inl (w.1 7 (17 + a1.toNatClampNeg) 1)]) (w2 := w) 2 (fun F h => h) ?_
          obtain rfl := Option.some.inj hf
          exact pm_re (r := some (.inl (w.1 7 (17 + a1.toNatClampNeg) 1))) (w2 := w) 1 (fun F h => h) hq
        · rw [if_neg hc5] at hf
          obtain ⟨hs6, hf⟩ := pm_itn hf
          refine pm_go (i2 := 31) (ls2 := [some (.inr (.inr (16, 0))), some (.inl a1), some (.inl a2), some (.inr (.inr (7, (17 + a1.toNatClampNeg)))), some (.inr (.inr (7, (17 + (a1 + 1).toNatClampNeg)))), none, none, none, none]) (st2 := [.inl (a1 - a1 / 2 * 2)]) (w2 := w) 10 (fun F h => ⟨(pm_inb_in hs6), (by decide), h⟩) ?_
          have key : pm_Gx (RT d) co_X3_tryTurn 35 [some (.inr (.inr (16, 0))), some (.inl a1), some (.inl a2), some (.inr (.inr (7, (17 + a1.toNatClampNeg)))), some (.inr (.inr (7, (17 + (a1 + 1).toNatClampNeg)))), none, none, none, none] [.inl (if (a1 - a1 / 2 * 2) = 0 then 1 else 0 : Int32)] w Q := by
            refine pm_go (i2 := 40) (ls2 := [some (.inr (.inr (16, 0))), some (.inl a1), some (.inl a2), some (.inr (.inr (7, (17 + a1.toNatClampNeg)))), some (.inr (.inr (7, (17 + (a1 + 1).toNatClampNeg)))), some (.inl (if (a1 - a1 / 2 * 2) = 0 then 1 else 0 : Int32)), some (.inl (-9)), some (.inl 0), none]) (st2 := []) (w2 := w) 5 (fun F h => h) ?_
            obtain ⟨x38, hx39, hf⟩ := Option.bind_eq_some_iff.mp hf
            refine a_X3_tryTurn_L40 F rec d hd hrec Q F w a1 a2 (17 + a1.toNatClampNeg) (17 + (a1 + 1).toNatClampNeg) (if (a1 - a1 / 2 * 2) = 0 then 1 else 0 : Int32) (-9) 0 x38 hx39 ?_
            refine pm_go (i2 := 90) (ls2 := [some (.inr (.inr (16, 0))), some (.inl a1), some (.inl a2), some (.inr (.inr (7, (17 + a1.toNatClampNeg)))), some (.inr (.inr (7, (17 + (a1 + 1).toNatClampNeg)))), some (.inl (if (a1 - a1 / 2 * 2) = 0 then 1 else 0 : Int32)), some (.inl x38.1), some (.inl x38.2.1), none]) (st2 := [.inl x38.1]) (w2 := x38.2.2) 1 (fun F h => h) ?_
            obtain rfl := Option.some.inj hf
            exact pm_re (r := some (.inl x38.1)) (w2 := x38.2.2) 1 (fun F h => h) hq
          clear hf
          refine pm_if (P := (a1 - a1 / 2 * 2) = 0) (i2 := 32) (i3 := 34) (ls2 := [some (.inr (.inr (16, 0))), some (.inl a1), some (.inl a2), some (.inr (.inr (7, (17 + a1.toNatClampNeg)))), some (.inr (.inr (7, (17 + (a1 + 1).toNatClampNeg)))), none, none, none, none]) (st2 := []) (w2 := w) 1 (fun F h => h) (fun hc40 => ?_) (fun hc40 => ?_)
          · try simp only [if_pos hc40] at key
            refine pm_go (i2 := 35) (ls2 := [some (.inr (.inr (16, 0))), some (.inl a1), some (.inl a2), some (.inr (.inr (7, (17 + a1.toNatClampNeg)))), some (.inr (.inr (7, (17 + (a1 + 1).toNatClampNeg)))), none, none, none, none]) (st2 := [.inl 1]) (w2 := w) 2 (fun F h => h) ?_
            exact key
          · try simp only [if_neg hc40] at key
            refine pm_go (i2 := 35) (ls2 := [some (.inr (.inr (16, 0))), some (.inl a1), some (.inl a2), some (.inr (.inr (7, (17 + a1.toNatClampNeg)))), some (.inr (.inr (7, (17 + (a1 + 1).toNatClampNeg)))), none, none, none, none]) (st2 := [.inl 0]) (w2 := w) 1 (fun F h => h) ?_
            exact key
    · rw [if_neg hc2] at hf
      refine pm_go (i2 := 6) (ls2 := [some (.inr (.inr (16, 0))), some (.inl a1), some (.inl a2), none, none, none, none, none, none]) (st2 := [.inl (-9)]) (w2 := w) 1 (fun F h => h) ?_
      obtain rfl := Option.some.inj hf
      exact pm_re (r := some (.inl (-9))) (w2 := w) 1 (fun F h => h) hq
set_option maxRecDepth 20000 in
set_option maxHeartbeats 4000000 in
theorem a_X3_tryTurn_D (F : Nat) : ∀ (D : Nat) (w : pm_W) (a1 : Int32) (a2 : Int32) (x : (Int32 × pm_W)) (d : Nat) (hd : 4 + D ≤ d) (hf : f_X3_tryTurn F D w a1 a2 = some x), RT d 26 [.inr (.inr (16, 0)), .inl a1, .inl a2] w (some (.inl x.1)) x.2 := by
  intro D
  induction D with
  | zero =>
    intro w a1 a2 x d hd hf
    cases hf
  | succ D ih =>
    intro w a1 a2 x d hd hf
    obtain ⟨d, rfl, hd2⟩ := pm_dep (show (4 + D) + 1 ≤ d by omega)
    exact pm_start (co := co_X3_tryTurn) (nL := 9) (by decide) rfl rfl (Nat.le_of_ble_eq_true rfl) (b_X3_tryTurn F (f_X3_tryTurn F D) d (by omega) (fun w a1 a2 r hr => ih w a1 a2 r d (by omega) hr) _ w a1 a2 x hf ⟨rfl, rfl⟩)
theorem a_X3_tryTurn (F : Nat) (w : pm_W) (a1 : Int32) (a2 : Int32) (x : (Int32 × pm_W)) (d : Nat) (hd : 12 ≤ d) (hf : f_X3_tryTurn F 8 w a1 a2 = some x) : RT d 26 [.inr (.inr (16, 0)), .inl a1, .inl a2] w (some (.inl x.1)) x.2 := a_X3_tryTurn_D F 8 w a1 a2 x d (by omega) hf
