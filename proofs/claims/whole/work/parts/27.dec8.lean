def f_X8_come_L32 (F : Nat) : Nat → pm_W → Int32 → Int32 → Int32 → Int32 → Int32 → Int32 → Int32 → Int32 → Option (Int32 × Int32 × pm_W)
  | 0, _, _, _, _, _, _, _, _, _ => none
  | n + 1, w, v1, v2, v3, v4, v5, v6, v7, v8 => (if (w.1 19 0 0) ≤ v8 then some (v7, v8, w) else ((f_X8_has F w v6 v8).bind fun r11 => ((f_X8_has F w v6 v8).bind fun r13 => (if r13 = 0 then f_X8_come_L32 F n w v1 v2 v3 v4 v5 v6 (v7 * (if r11 = 0 then 10 - v1 else v1 : Int32)) (v8 + 1) else ((f_X8_canSay F w 1 v8).bind fun r16 => (if r16 = 0 then f_X8_come_L32 F n w v1 v2 v3 v4 v5 v6 (v7 * (if r11 = 0 then 10 - v1 else v1 : Int32)) (v8 + 1) else ((f_X8_sayOn F w 1 v8).bind fun r19 => f_X8_come_L32 F n r19 v1 v2 v3 v4 v5 v6 (v7 * (if r11 = 0 then 10 - v1 else v1 : Int32)) (v8 + 1))))))))
def f_X8_come_L20 (F : Nat) : Nat → pm_W → Int32 → Int32 → Int32 → Int32 → Int32 → Int32 → Option (Int32 × Int32 × Int32 × pm_W)
  | 0, _, _, _, _, _, _, _ => none
  | n + 1, w, v1, v2, v3, v4, v5, v6 => (if (1 <<< ((w.1 19 0 0) &&& 31)) ≤ v6 then some (v4, v5, v6, w) else ((f_X8_layTrial F w).bind fun r8 => ((f_X8_come_L32 F F r8 v1 v2 v3 v4 v5 v6 1 0).bind fun x22 => f_X8_come_L20 F n x22.2.2 v1 v2 v3 (v4 + (if (x22.2.2.1 23 0 14) < v2 then 0 else x22.1 : Int32)) (v5 + x22.1) (v6 + 1))))
def f_X8_come (F : Nat) (w : pm_W) (a1 : Int32) (a2 : Int32) (a3 : Int32) : Option ((Int32 × pm_W)) := ((f_X8_in F w a1.toInt64 0 10).bind fun r1 => (if r1 = 0 then some ((-2), w) else ((f_X8_in F w a2.toInt64 1 60).bind fun r4 => (if r4 = 0 then some ((-2), w) else ((f_X8_come_L20 F F w a1 a2 a3 0 0 0).bind fun x25 => ((f_X8_common F x25.2.2.2 x25.1 x25.2.1).bind fun r27 => (if a3 = 0 then (if pm_nz r27 = true then some (x25.2.1 / r27, x25.2.2.2) else none) else (if pm_nz r27 = true then some (x25.1 / r27, x25.2.2.2) else none))))))))
set_option maxRecDepth 20000 in
set_option maxHeartbeats 4000000 in
theorem a_X8_come_L32 (F : Nat) (d : Nat) (hd : 2 ≤ d) (Q : pm_Q) : ∀ (n : Nat) (w : pm_W) (v1 : Int32) (v2 : Int32) (v3 : Int32) (v4 : Int32) (v5 : Int32) (v6 : Int32) (v7 : Int32) (v8 : Int32) (x : Int32 × Int32 × pm_W), f_X8_come_L32 F n w v1 v2 v3 v4 v5 v6 v7 v8 = some x → pm_Gx (RT d) co_X8_come 63 [some (.inr (.inr (19, 0))), some (.inl v1), some (.inl v2), some (.inl v3), some (.inl v4), some (.inl v5), some (.inl v6), some (.inl x.1), some (.inl x.2.1)] [] x.2.2 Q → pm_Gx (RT d) co_X8_come 32 [some (.inr (.inr (19, 0))), some (.inl v1), some (.inl v2), some (.inl v3), some (.inl v4), some (.inl v5), some (.inl v6), some (.inl v7), some (.inl v8)] [] w Q := by
  intro n
  induction n with
  | zero =>
    intro w v1 v2 v3 v4 v5 v6 v7 v8 x hf
    cases hf
  | succ n ih =>
    intro w v1 v2 v3 v4 v5 v6 v7 v8 x hf hk
    rw [f_X8_come_L32] at hf
    refine pm_go (i2 := 35) (ls2 := [some (.inr (.inr (19, 0))), some (.inl v1), some (.inl v2), some (.inl v3), some (.inl v4), some (.inl v5), some (.inl v6), some (.inl v7), some (.inl v8)]) (st2 := [.inl (w.1 19 0 0), .inl v8]) (w2 := w) 3 (fun F h => h) ?_
    refine pm_if (P := (w.1 19 0 0) ≤ v8) (i2 := 63) (i3 := 36) (ls2 := [some (.inr (.inr (19, 0))), some (.inl v1), some (.inl v2), some (.inl v3), some (.inl v4), some (.inl v5), some (.inl v6), some (.inl v7), some (.inl v8)]) (st2 := []) (w2 := w) 1 (fun F h => h) (fun hc10 => ?_) (fun hc10 => ?_)
    · rw [if_pos hc10] at hf
      obtain rfl := Option.some.inj hf
      exact hk
    · rw [if_neg hc10] at hf
      refine pm_go (i2 := 39) (ls2 := [some (.inr (.inr (19, 0))), some (.inl v1), some (.inl v2), some (.inl v3), some (.inl v4), some (.inl v5), some (.inl v6), some (.inl v7), some (.inl v8)]) (st2 := [.inl v8, .inl v6, .inl v7]) (w2 := w) 3 (fun F h => h) ?_
      obtain ⟨r11, hr12, hf⟩ := Option.bind_eq_some_iff.mp hf
      refine pm_ca (y := 89) (as := [.inl v6, .inl v8]) (r := some (.inl r11)) (w2 := w) (w1 := w) (t := [.inl v7]) (i2 := 40) (ls2 := [some (.inr (.inr (19, 0))), some (.inl v1), some (.inl v2), some (.inl v3), some (.inl v4), some (.inl v5), some (.inl v6), some (.inl v7), some (.inl v8)]) 1 (a_X8_has F w v6 v8 r11 d (by omega) hr12) (fun F h => h) ?_
      show pm_Gx (RT d) co_X8_come 40 [some (.inr (.inr (19, 0))), some (.inl v1), some (.inl v2), some (.inl v3), some (.inl v4), some (.inl v5), some (.inl v6), some (.inl v7), some (.inl v8)] [.inl r11, .inl v7] w Q
      have key : pm_Gx (RT d) co_X8_come 46 [some (.inr (.inr (19, 0))), some (.inl v1), some (.inl v2), some (.inl v3), some (.inl v4), some (.inl v5), some (.inl v6), some (.inl v7), some (.inl v8)] [.inl (if r11 = 0 then 10 - v1 else v1 : Int32), .inl v7] w Q := by
        refine pm_go (i2 := 50) (ls2 := [some (.inr (.inr (19, 0))), some (.inl v1), some (.inl v2), some (.inl v3), some (.inl v4), some (.inl v5), some (.inl v6), some (.inl (v7 * (if r11 = 0 then 10 - v1 else v1 : Int32))), some (.inl v8)]) (st2 := [.inl v8, .inl v6]) (w2 := w) 4 (fun F h => h) ?_
        obtain ⟨r13, hr14, hf⟩ := Option.bind_eq_some_iff.mp hf
        refine pm_ca (y := 89) (as := [.inl v6, .inl v8]) (r := some (.inl r13)) (w2 := w) (w1 := w) (t := []) (i2 := 51) (ls2 := [some (.inr (.inr (19, 0))), some (.inl v1), some (.inl v2), some (.inl v3), some (.inl v4), some (.inl v5), some (.inl v6), some (.inl (v7 * (if r11 = 0 then 10 - v1 else v1 : Int32))), some (.inl v8)]) 1 (a_X8_has F w v6 v8 r13 d (by omega) hr14) (fun F h => h) ?_
        show pm_Gx (RT d) co_X8_come 51 [some (.inr (.inr (19, 0))), some (.inl v1), some (.inl v2), some (.inl v3), some (.inl v4), some (.inl v5), some (.inl v6), some (.inl (v7 * (if r11 = 0 then 10 - v1 else v1 : Int32))), some (.inl v8)] [.inl r13] w Q
        refine pm_if (P := r13 = 0) (i2 := 61) (i3 := 52) (ls2 := [some (.inr (.inr (19, 0))), some (.inl v1), some (.inl v2), some (.inl v3), some (.inl v4), some (.inl v5), some (.inl v6), some (.inl (v7 * (if r11 = 0 then 10 - v1 else v1 : Int32))), some (.inl v8)]) (st2 := []) (w2 := w) 1 (fun F h => h) (fun hc15 => ?_) (fun hc15 => ?_)
        · rw [if_pos hc15] at hf
          refine pm_go (i2 := 32) (ls2 := [some (.inr (.inr (19, 0))), some (.inl v1), some (.inl v2), some (.inl v3), some (.inl v4), some (.inl v5), some (.inl v6), some (.inl (v7 * (if r11 = 0 then 10 - v1 else v1 : Int32))), some (.inl (v8 + 1))]) (st2 := []) (w2 := w) 2 (fun F h => h) ?_
          exact ih w v1 v2 v3 v4 v5 v6 (v7 * (if r11 = 0 then 10 - v1 else v1 : Int32)) (v8 + 1) _ hf hk
        · rw [if_neg hc15] at hf
          refine pm_go (i2 := 55) (ls2 := [some (.inr (.inr (19, 0))), some (.inl v1), some (.inl v2), some (.inl v3), some (.inl v4), some (.inl v5), some (.inl v6), some (.inl (v7 * (if r11 = 0 then 10 - v1 else v1 : Int32))), some (.inl v8)]) (st2 := [.inl v8, .inl 1, .inr (.inr (19, 0))]) (w2 := w) 3 (fun F h => h) ?_
          obtain ⟨r16, hr17, hf⟩ := Option.bind_eq_some_iff.mp hf
          refine pm_ca (y := 107) (as := [.inr (.inr (19, 0)), .inl 1, .inl v8]) (r := some (.inl r16)) (w2 := w) (w1 := w) (t := []) (i2 := 56) (ls2 := [some (.inr (.inr (19, 0))), some (.inl v1), some (.inl v2), some (.inl v3), some (.inl v4), some (.inl v5), some (.inl v6), some (.inl (v7 * (if r11 = 0 then 10 - v1 else v1 : Int32))), some (.inl v8)]) 1 (a_X8_canSay F w 1 v8 r16 d (by omega) hr17) (fun F h => h) ?_
          show pm_Gx (RT d) co_X8_come 56 [some (.inr (.inr (19, 0))), some (.inl v1), some (.inl v2), some (.inl v3), some (.inl v4), some (.inl v5), some (.inl v6), some (.inl (v7 * (if r11 = 0 then 10 - v1 else v1 : Int32))), some (.inl v8)] [.inl r16] w Q
          refine pm_if (P := r16 = 0) (i2 := 61) (i3 := 57) (ls2 := [some (.inr (.inr (19, 0))), some (.inl v1), some (.inl v2), some (.inl v3), some (.inl v4), some (.inl v5), some (.inl v6), some (.inl (v7 * (if r11 = 0 then 10 - v1 else v1 : Int32))), some (.inl v8)]) (st2 := []) (w2 := w) 1 (fun F h => h) (fun hc18 => ?_) (fun hc18 => ?_)
          · rw [if_pos hc18] at hf
            refine pm_go (i2 := 32) (ls2 := [some (.inr (.inr (19, 0))), some (.inl v1), some (.inl v2), some (.inl v3), some (.inl v4), some (.inl v5), some (.inl v6), some (.inl (v7 * (if r11 = 0 then 10 - v1 else v1 : Int32))), some (.inl (v8 + 1))]) (st2 := []) (w2 := w) 2 (fun F h => h) ?_
            exact ih w v1 v2 v3 v4 v5 v6 (v7 * (if r11 = 0 then 10 - v1 else v1 : Int32)) (v8 + 1) _ hf hk
          · rw [if_neg hc18] at hf
            refine pm_go (i2 := 60) (ls2 := [some (.inr (.inr (19, 0))), some (.inl v1), some (.inl v2), some (.inl v3), some (.inl v4), some (.inl v5), some (.inl v6), some (.inl (v7 * (if r11 = 0 then 10 - v1 else v1 : Int32))), some (.inl v8)]) (st2 := [.inl v8, .inl 1, .inr (.inr (19, 0))]) (w2 := w) 3 (fun F h => h) ?_
            obtain ⟨r19, hr20, hf⟩ := Option.bind_eq_some_iff.mp hf
            refine pm_ca (y := 108) (as := [.inr (.inr (19, 0)), .inl 1, .inl v8]) (r := none) (w2 := w) (w1 := r19) (t := []) (i2 := 61) (ls2 := [some (.inr (.inr (19, 0))), some (.inl v1), some (.inl v2), some (.inl v3), some (.inl v4), some (.inl v5), some (.inl v6), some (.inl (v7 * (if r11 = 0 then 10 - v1 else v1 : Int32))), some (.inl v8)]) 1 (a_X8_sayOn F w 1 v8 r19 d (by omega) hr20) (fun F h => h) ?_
            show pm_Gx (RT d) co_X8_come 61 [some (.inr (.inr (19, 0))), some (.inl v1), some (.inl v2), some (.inl v3), some (.inl v4), some (.inl v5), some (.inl v6), some (.inl (v7 * (if r11 = 0 then 10 - v1 else v1 : Int32))), some (.inl v8)] [] r19 Q
            refine pm_go (i2 := 32) (ls2 := [some (.inr (.inr (19, 0))), some (.inl v1), some (.inl v2), some (.inl v3), some (.inl v4), some (.inl v5), some (.inl v6), some (.inl (v7 * (if r11 = 0 then 10 - v1 else v1 : Int32))), some (.inl (v8 + 1))]) (st2 := []) (w2 := r19) 2 (fun F h => h) ?_
            exact ih r19 v1 v2 v3 v4 v5 v6 (v7 * (if r11 = 0 then 10 - v1 else v1 : Int32)) (v8 + 1) _ hf hk
      clear hf
      refine pm_if (P := r11 = 0) (i2 := 43) (i3 := 41) (ls2 := [some (.inr (.inr (19, 0))), some (.inl v1), some (.inl v2), some (.inl v3), some (.inl v4), some (.inl v5), some (.inl v6), some (.inl v7), some (.inl v8)]) (st2 := [.inl v7]) (w2 := w) 1 (fun F h => h) (fun hc21 => ?_) (fun hc21 => ?_)
      · try simp only [if_pos hc21] at key
        refine pm_go (i2 := 46) (ls2 := [some (.inr (.inr (19, 0))), some (.inl v1), some (.inl v2), some (.inl v3), some (.inl v4), some (.inl v5), some (.inl v6), some (.inl v7), some (.inl v8)]) (st2 := [.inl (10 - v1), .inl v7]) (w2 := w) 3 (fun F h => h) ?_
        exact key
      · try simp only [if_neg hc21] at key
        refine pm_go (i2 := 46) (ls2 := [some (.inr (.inr (19, 0))), some (.inl v1), some (.inl v2), some (.inl v3), some (.inl v4), some (.inl v5), some (.inl v6), some (.inl v7), some (.inl v8)]) (st2 := [.inl v1, .inl v7]) (w2 := w) 2 (fun F h => h) ?_
        exact key
set_option maxRecDepth 20000 in
set_option maxHeartbeats 4000000 in
theorem a_X8_come_L20 (F : Nat) (d : Nat) (hd : 2 ≤ d) (Q : pm_Q) : ∀ (n : Nat) (w : pm_W) (v1 : Int32) (v2 : Int32) (v3 : Int32) (v4 : Int32) (v5 : Int32) (v6 : Int32) (x : Int32 × Int32 × Int32 × pm_W), f_X8_come_L20 F n w v1 v2 v3 v4 v5 v6 = some x → pm_Gx (RT d) co_X8_come 81 [some (.inr (.inr (19, 0))), some (.inl v1), some (.inl v2), some (.inl v3), some (.inl x.1), some (.inl x.2.1), some (.inl x.2.2.1), none, none] [] x.2.2.2 Q → pm_Gx (RT d) co_X8_come 20 [some (.inr (.inr (19, 0))), some (.inl v1), some (.inl v2), some (.inl v3), some (.inl v4), some (.inl v5), some (.inl v6), none, none] [] w Q := by
  intro n
  induction n with
  | zero =>
    intro w v1 v2 v3 v4 v5 v6 x hf
    cases hf
  | succ n ih =>
    intro w v1 v2 v3 v4 v5 v6 x hf hk
    rw [f_X8_come_L20] at hf
    refine pm_go (i2 := 25) (ls2 := [some (.inr (.inr (19, 0))), some (.inl v1), some (.inl v2), some (.inl v3), some (.inl v4), some (.inl v5), some (.inl v6), none, none]) (st2 := [.inl (1 <<< ((w.1 19 0 0) &&& 31)), .inl v6]) (w2 := w) 5 (fun F h => h) ?_
    refine pm_if (P := (1 <<< ((w.1 19 0 0) &&& 31)) ≤ v6) (i2 := 81) (i3 := 26) (ls2 := [some (.inr (.inr (19, 0))), some (.inl v1), some (.inl v2), some (.inl v3), some (.inl v4), some (.inl v5), some (.inl v6), none, none]) (st2 := []) (w2 := w) 1 (fun F h => h) (fun hc7 => ?_) (fun hc7 => ?_)
    · rw [if_pos hc7] at hf
      obtain rfl := Option.some.inj hf
      exact hk
    · rw [if_neg hc7] at hf
      refine pm_go (i2 := 29) (ls2 := [some (.inr (.inr (19, 0))), some (.inl v1), some (.inl v2), some (.inl v3), some (.inl v4), some (.inl v5), some (.inl v6), some (.inl 1), none]) (st2 := [.inr (.inr (19, 0))]) (w2 := w) 3 (fun F h => h) ?_
      obtain ⟨r8, hr9, hf⟩ := Option.bind_eq_some_iff.mp hf
      refine pm_ca (y := 116) (as := [.inr (.inr (19, 0))]) (r := none) (w2 := w) (w1 := r8) (t := []) (i2 := 30) (ls2 := [some (.inr (.inr (19, 0))), some (.inl v1), some (.inl v2), some (.inl v3), some (.inl v4), some (.inl v5), some (.inl v6), some (.inl 1), none]) 1 (a_X8_layTrial F w r8 d (by omega) hr9) (fun F h => h) ?_
      show pm_Gx (RT d) co_X8_come 30 [some (.inr (.inr (19, 0))), some (.inl v1), some (.inl v2), some (.inl v3), some (.inl v4), some (.inl v5), some (.inl v6), some (.inl 1), none] [] r8 Q
      refine pm_go (i2 := 32) (ls2 := [some (.inr (.inr (19, 0))), some (.inl v1), some (.inl v2), some (.inl v3), some (.inl v4), some (.inl v5), some (.inl v6), some (.inl 1), some (.inl 0)]) (st2 := []) (w2 := r8) 2 (fun F h => h) ?_
      obtain ⟨x22, hx23, hf⟩ := Option.bind_eq_some_iff.mp hf
      refine a_X8_come_L32 F d hd Q F r8 v1 v2 v3 v4 v5 v6 1 0 x22 hx23 ?_
      refine pm_go (i2 := 73) (ls2 := [some (.inr (.inr (19, 0))), some (.inl v1), some (.inl v2), some (.inl v3), some (.inl v4), some (.inl (v5 + x22.1)), some (.inl v6), some (.inl x22.1), some (.inl x22.2.1)]) (st2 := [.inl v2, .inl (x22.2.2.1 23 0 14), .inl v4]) (w2 := x22.2.2) 10 (fun F h => ⟨(pm_inb_in (by decide)), h⟩) ?_
      have key : pm_Gx (RT d) co_X8_come 77 [some (.inr (.inr (19, 0))), some (.inl v1), some (.inl v2), some (.inl v3), some (.inl v4), some (.inl (v5 + x22.1)), some (.inl v6), some (.inl x22.1), some (.inl x22.2.1)] [.inl (if (x22.2.2.1 23 0 14) < v2 then 0 else x22.1 : Int32), .inl v4] x22.2.2 Q := by
        refine pm_go (i2 := 20) (ls2 := [some (.inr (.inr (19, 0))), some (.inl v1), some (.inl v2), some (.inl v3), some (.inl (v4 + (if (x22.2.2.1 23 0 14) < v2 then 0 else x22.1 : Int32))), some (.inl (v5 + x22.1)), some (.inl (v6 + 1)), some (.inl x22.1), some (.inl x22.2.1)]) (st2 := []) (w2 := x22.2.2) 4 (fun F h => h) ?_
        refine pm_wk (ls := [some (.inr (.inr (19, 0))), some (.inl v1), some (.inl v2), some (.inl v3), some (.inl (v4 + (if (x22.2.2.1 23 0 14) < v2 then 0 else x22.1 : Int32))), some (.inl (v5 + x22.1)), some (.inl (v6 + 1)), none, none]) ⟨.inr rfl, .inr rfl, .inr rfl, .inr rfl, .inr rfl, .inr rfl, .inr rfl, .inl rfl, .inl rfl, trivial⟩ ?_
        exact ih x22.2.2 v1 v2 v3 (v4 + (if (x22.2.2.1 23 0 14) < v2 then 0 else x22.1 : Int32)) (v5 + x22.1) (v6 + 1) _ hf hk
      clear hf
      refine pm_if (P := (x22.2.2.1 23 0 14) < v2) (i2 := 76) (i3 := 74) (ls2 := [some (.inr (.inr (19, 0))), some (.inl v1), some (.inl v2), some (.inl v3), some (.inl v4), some (.inl (v5 + x22.1)), some (.inl v6), some (.inl x22.1), some (.inl x22.2.1)]) (st2 := [.inl v4]) (w2 := x22.2.2) 1 (fun F h => h) (fun hc24 => ?_) (fun hc24 => ?_)
      · try simp only [if_pos hc24] at key
        refine pm_go (i2 := 77) (ls2 := [some (.inr (.inr (19, 0))), some (.inl v1), some (.inl v2), some (.inl v3), some (.inl v4), some (.inl (v5 + x22.1)), some (.inl v6), some (.inl x22.1), some (.inl x22.2.1)]) (st2 := [.inl 0, .inl v4]) (w2 := x22.2.2) 1 (fun F h => h) ?_
        exact key
      · try simp only [if_neg hc24] at key
        refine pm_go (i2 := 77) (ls2 := [some (.inr (.inr (19, 0))), some (.inl v1), some (.inl v2), some (.inl v3), some (.inl v4), some (.inl (v5 + x22.1)), some (.inl v6), some (.inl x22.1), some (.inl x22.2.1)]) (st2 := [.inl x22.1, .inl v4]) (w2 := x22.2.2) 2 (fun F h => h) ?_
        exact key
set_option maxRecDepth 20000 in
set_option maxHeartbeats 4000000 in
theorem b_X8_come (F : Nat) (d : Nat) (hd : 2 ≤ d) (Q : pm_Q) (w : pm_W) (a1 : Int32) (a2 : Int32) (a3 : Int32) (x : (Int32 × pm_W)) (hf : f_X8_come F w a1 a2 a3 = some x) (hq : Q (some (.inl x.1)) x.2) : pm_Gx (RT d) co_X8_come 0 [some (.inr (.inr (19, 0))), some (.inl a1), some (.inl a2), some (.inl a3), none, none, none, none, none] [] w Q := by
  unfold f_X8_come at hf
  refine pm_go (i2 := 4) (ls2 := [some (.inr (.inr (19, 0))), some (.inl a1), some (.inl a2), some (.inl a3), none, none, none, none, none]) (st2 := [.inr (.inl 10), .inr (.inl 0), .inr (.inl a1.toInt64)]) (w2 := w) 4 (fun F h => h) ?_
  obtain ⟨r1, hr2, hf⟩ := Option.bind_eq_some_iff.mp hf
  refine pm_ca (y := 88) (as := [.inr (.inl a1.toInt64), .inr (.inl 0), .inr (.inl 10)]) (r := some (.inl r1)) (w2 := w) (w1 := w) (t := []) (i2 := 5) (ls2 := [some (.inr (.inr (19, 0))), some (.inl a1), some (.inl a2), some (.inl a3), none, none, none, none, none]) 1 (a_X8_in F w a1.toInt64 0 10 r1 d (by omega) hr2) (fun F h => h) ?_
  show pm_Gx (RT d) co_X8_come 5 [some (.inr (.inr (19, 0))), some (.inl a1), some (.inl a2), some (.inl a3), none, none, none, none, none] [.inl r1] w Q
  refine pm_if (P := r1 = 0) (i2 := 12) (i3 := 6) (ls2 := [some (.inr (.inr (19, 0))), some (.inl a1), some (.inl a2), some (.inl a3), none, none, none, none, none]) (st2 := []) (w2 := w) 1 (fun F h => h) (fun hc3 => ?_) (fun hc3 => ?_)
  · rw [if_pos hc3] at hf
    refine pm_go (i2 := 13) (ls2 := [some (.inr (.inr (19, 0))), some (.inl a1), some (.inl a2), some (.inl a3), none, none, none, none, none]) (st2 := [.inl (-2)]) (w2 := w) 1 (fun F h => h) ?_
    obtain rfl := Option.some.inj hf
    exact pm_re (r := some (.inl (-2))) (w2 := w) 1 (fun F h => h) hq
  · rw [if_neg hc3] at hf
    refine pm_go (i2 := 10) (ls2 := [some (.inr (.inr (19, 0))), some (.inl a1), some (.inl a2), some (.inl a3), none, none, none, none, none]) (st2 := [.inr (.inl 60), .inr (.inl 1), .inr (.inl a2.toInt64)]) (w2 := w) 4 (fun F h => h) ?_
    obtain ⟨r4, hr5, hf⟩ := Option.bind_eq_some_iff.mp hf
    refine pm_ca (y := 88) (as := [.inr (.inl a2.toInt64), .inr (.inl 1), .inr (.inl 60)]) (r := some (.inl r4)) (w2 := w) (w1 := w) (t := []) (i2 := 11) (ls2 := [some (.inr (.inr (19, 0))), some (.inl a1), some (.inl a2), some (.inl a3), none, none, none, none, none]) 1 (a_X8_in F w a2.toInt64 1 60 r4 d (by omega) hr5) (fun F h => h) ?_
    show pm_Gx (RT d) co_X8_come 11 [some (.inr (.inr (19, 0))), some (.inl a1), some (.inl a2), some (.inl a3), none, none, none, none, none] [.inl r4] w Q
    refine pm_if (P := r4 = 0) (i2 := 12) (i3 := 14) (ls2 := [some (.inr (.inr (19, 0))), some (.inl a1), some (.inl a2), some (.inl a3), none, none, none, none, none]) (st2 := []) (w2 := w) 1 (fun F h => h) (fun hc6 => ?_) (fun hc6 => ?_)
    · rw [if_pos hc6] at hf
      refine pm_go (i2 := 13) (ls2 := [some (.inr (.inr (19, 0))), some (.inl a1), some (.inl a2), some (.inl a3), none, none, none, none, none]) (st2 := [.inl (-2)]) (w2 := w) 1 (fun F h => h) ?_
      obtain rfl := Option.some.inj hf
      exact pm_re (r := some (.inl (-2))) (w2 := w) 1 (fun F h => h) hq
    · rw [if_neg hc6] at hf
      refine pm_go (i2 := 20) (ls2 := [some (.inr (.inr (19, 0))), some (.inl a1), some (.inl a2), some (.inl a3), some (.inl 0), some (.inl 0), some (.inl 0), none, none]) (st2 := []) (w2 := w) 6 (fun F h => h) ?_
      obtain ⟨x25, hx26, hf⟩ := Option.bind_eq_some_iff.mp hf
      refine a_X8_come_L20 F d hd Q F w a1 a2 a3 0 0 0 x25 hx26 ?_
      refine pm_go (i2 := 83) (ls2 := [some (.inr (.inr (19, 0))), some (.inl a1), some (.inl a2), some (.inl a3), some (.inl x25.1), some (.inl x25.2.1), some (.inl x25.2.2.1), none, none]) (st2 := [.inl x25.2.1, .inl x25.1]) (w2 := x25.2.2.2) 2 (fun F h => h) ?_
      obtain ⟨r27, hr28, hf⟩ := Option.bind_eq_some_iff.mp hf
      refine pm_ca (y := 130) (as := [.inl x25.1, .inl x25.2.1]) (r := some (.inl r27)) (w2 := x25.2.2.2) (w1 := x25.2.2.2) (t := []) (i2 := 84) (ls2 := [some (.inr (.inr (19, 0))), some (.inl a1), some (.inl a2), some (.inl a3), some (.inl x25.1), some (.inl x25.2.1), some (.inl x25.2.2.1), none, none]) 1 (a_X8_common F x25.2.2.2 x25.1 x25.2.1 r27 d (by omega) hr28) (fun F h => h) ?_
      show pm_Gx (RT d) co_X8_come 84 [some (.inr (.inr (19, 0))), some (.inl a1), some (.inl a2), some (.inl a3), some (.inl x25.1), some (.inl x25.2.1), some (.inl x25.2.2.1), none, none] [.inl r27] x25.2.2.2 Q
      refine pm_go (i2 := 86) (ls2 := [some (.inr (.inr (19, 0))), some (.inl a1), some (.inl a2), some (.inl a3), some (.inl x25.1), some (.inl x25.2.1), some (.inl r27), none, none]) (st2 := [.inl a3]) (w2 := x25.2.2.2) 2 (fun F h => h) ?_
      refine pm_if (P := a3 = 0) (i2 := 91) (i3 := 87) (ls2 := [some (.inr (.inr (19, 0))), some (.inl a1), some (.inl a2), some (.inl a3), some (.inl x25.1), some (.inl x25.2.1), some (.inl r27), none, none]) (st2 := []) (w2 := x25.2.2.2) 1 (fun F h => h) (fun hc29 => ?_) (fun hc29 => ?_)
      · rw [if_pos hc29] at hf
        obtain ⟨hs30, hf⟩ := pm_itn hf
        refine pm_go (i2 := 94) (ls2 := [some (.inr (.inr (19, 0))), some (.inl a1), some (.inl a2), some (.inl a3), some (.inl x25.1), some (.inl x25.2.1), some (.inl r27), none, none]) (st2 := [.inl (x25.2.1 / r27)]) (w2 := x25.2.2.2) 3 (fun F h => ⟨(pm_nz_ne hs30), h⟩) ?_
        obtain rfl := Option.some.inj hf
        exact pm_re (r := some (.inl (x25.2.1 / r27))) (w2 := x25.2.2.2) 1 (fun F h => h) hq
      · rw [if_neg hc29] at hf
        obtain ⟨hs31, hf⟩ := pm_itn hf
        refine pm_go (i2 := 94) (ls2 := [some (.inr (.inr (19, 0))), some (.inl a1), some (.inl a2), some (.inl a3), some (.inl x25.1), some (.inl x25.2.1), some (.inl r27), none, none]) (st2 := [.inl (x25.1 / r27)]) (w2 := x25.2.2.2) 4 (fun F h => ⟨(pm_nz_ne hs31), h⟩) ?_
        obtain rfl := Option.some.inj hf
        exact pm_re (r := some (.inl (x25.1 / r27))) (w2 := x25.2.2.2) 1 (fun F h => h) hq
set_option maxRecDepth 20000 in
set_option maxHeartbeats 4000000 in
theorem a_X8_come (F : Nat) (w : pm_W) (a1 : Int32) (a2 : Int32) (a3 : Int32) (x : (Int32 × pm_W)) (d : Nat) (hd : 3 ≤ d) (hf : f_X8_come F w a1 a2 a3 = some x) : RT d 145 [.inr (.inr (19, 0)), .inl a1, .inl a2, .inl a3] w (some (.inl x.1)) x.2 := by
  obtain ⟨d, rfl, hd2⟩ := pm_dep hd
  exact pm_start (co := co_X8_come) (nL := 9) (by decide) rfl rfl (Nat.le_of_ble_eq_true rfl) (b_X8_come F d hd2 _ w a1 a2 a3 x hf ⟨rfl, rfl⟩)
def f_X8_seed (F : Nat) (w : pm_W) (a1 : Int64) : Option ((Int64 × pm_W)) := (pm_wlet (pm_setJ w 19 a1) fun w1 => some (w.2.1 19, w1))
set_option maxRecDepth 20000 in
set_option maxHeartbeats 4000000 in
theorem b_X8_seed (F : Nat) (d : Nat) (hd : 0 ≤ d) (Q : pm_Q) (w : pm_W) (a1 : Int64) (x : (Int64 × pm_W)) (hf : f_X8_seed F w a1 = some x) (hq : Q (some (.inr (.inl x.1))) x.2) : pm_Gx (RT d) co_X8_seed 0 [some (.inr (.inr (19, 0))), some (.inr (.inl a1)), none, none, none] [] w Q := by
  unfold f_X8_seed at hf
  refine pm_go (i2 := 6) (ls2 := [some (.inr (.inr (19, 0))), some (.inr (.inl a1)), none, some (.inr (.inl (w.2.1 19))), none]) (st2 := []) (w2 := (pm_setJ w 19 a1)) 6 (fun F h => h) ?_
  generalize (pm_setJ w 19 a1) = w1 at hf ⊢
  replace hf := pm_wlet_un hf
  refine pm_go (i2 := 7) (ls2 := [some (.inr (.inr (19, 0))), some (.inr (.inl a1)), none, some (.inr (.inl (w.2.1 19))), none]) (st2 := [.inr (.inl (w.2.1 19))]) (w2 := w1) 1 (fun F h => h) ?_
  obtain rfl := Option.some.inj hf
  exact pm_re (r := some (.inr (.inl (w.2.1 19)))) (w2 := w1) 1 (fun F h => h) hq
set_option maxRecDepth 20000 in
set_option maxHeartbeats 4000000 in
theorem a_X8_seed (F : Nat) (w : pm_W) (a1 : Int64) (x : (Int64 × pm_W)) (d : Nat) (hd : 1 ≤ d) (hf : f_X8_seed F w a1 = some x) : RT d 146 [.inr (.inr (19, 0)), .inr (.inl a1)] w (some (.inr (.inl x.1))) x.2 := by
  obtain ⟨d, rfl, hd2⟩ := pm_dep hd
  exact pm_start (co := co_X8_seed) (nL := 5) (by decide) rfl rfl (Nat.le_of_ble_eq_true rfl) (b_X8_seed F d hd2 _ w a1 x hf ⟨rfl, rfl⟩)
def f_X8_dinner_L12 (F : Nat) : Nat → pm_W → Int32 → Int32 → Option (Int32 × pm_W)
  | 0, _, _, _ => none
  | n + 1, w, v1, v2 => (if v1 ≤ v2 then some (v2, w) else (pm_wlet (pm_setJ w 19 (((w.2.1 19) * 6364136223846793005) + 1442695040888963407)) fun w7 => ((f_X8_isGuest F w7 (((((w7.2.1 19).toUInt64 >>> ((33 : Int32).toInt64.toUInt64 &&& Int64.toUInt64 63)).toInt64) - (((w7.2.1 19).toUInt64 >>> ((33 : Int32).toInt64.toUInt64 &&& Int64.toUInt64 63)).toInt64) / 6 * 6).toInt32)).bind fun r8 => (if r8 = 0 then f_X8_dinner_L12 F n w7 v1 (v2 + 1) else ((f_X8_canSay F w7 1 (((((w7.2.1 19).toUInt64 >>> ((33 : Int32).toInt64.toUInt64 &&& Int64.toUInt64 63)).toInt64) - (((w7.2.1 19).toUInt64 >>> ((33 : Int32).toInt64.toUInt64 &&& Int64.toUInt64 63)).toInt64) / 6 * 6).toInt32)).bind fun r11 => (if r11 = 0 then f_X8_dinner_L12 F n w7 v1 (v2 + 1) else ((f_X8_sayOn F w7 1 (((((w7.2.1 19).toUInt64 >>> ((33 : Int32).toInt64.toUInt64 &&& Int64.toUInt64 63)).toInt64) - (((w7.2.1 19).toUInt64 >>> ((33 : Int32).toInt64.toUInt64 &&& Int64.toUInt64 63)).toInt64) / 6 * 6).toInt32)).bind fun r14 => f_X8_dinner_L12 F n r14 v1 (v2 + 1))))))))
def f_X8_dinner (F : Nat) (w : pm_W) (a1 : Int32) : Option ((Int32 × pm_W)) := ((f_X8_in F w a1.toInt64 1 30).bind fun r1 => (if r1 = 0 then some ((-2), w) else ((f_X8_layTrial F w).bind fun r4 => ((f_X8_dinner_L12 F F r4 a1 0).bind fun x16 => some (x16.2.1 23 0 14, x16.2)))))
set_option maxRecDepth 20000 in
set_option maxHeartbeats 4000000 in
theorem a_X8_dinner_L12 (F : Nat) (d : Nat) (hd : 2 ≤ d) (Q : pm_Q) : ∀ (n : Nat) (w : pm_W) (v1 : Int32) (v2 : Int32) (x : Int32 × pm_W), f_X8_dinner_L12 F n w v1 v2 = some x → pm_Gx (RT d) co_X8_dinner 46 [some (.inr (.inr (19, 0))), some (.inl v1), some (.inl x.1), none] [] x.2 Q → pm_Gx (RT d) co_X8_dinner 12 [some (.inr (.inr (19, 0))), some (.inl v1), some (.inl v2), none] [] w Q := by
  intro n
  induction n with
  | zero =>
    intro w v1 v2 x hf
    cases hf
  | succ n ih =>
    intro w v1 v2 x hf hk
    rw [f_X8_dinner_L12] at hf
    refine pm_go (i2 := 14) (ls2 := [some (.inr (.inr (19, 0))), some (.inl v1), some (.inl v2), none]) (st2 := [.inl v1, .inl v2]) (w2 := w) 2 (fun F h => h) ?_
    refine pm_if (P := v1 ≤ v2) (i2 := 46) (i3 := 15) (ls2 := [some (.inr (.inr (19, 0))), some (.inl v1), some (.inl v2), none]) (st2 := []) (w2 := w) 1 (fun F h => h) (fun hc6 => ?_) (fun hc6 => ?_)
    · rw [if_pos hc6] at hf
      obtain rfl := Option.some.inj hf
      exact hk
    · rw [if_neg hc6] at hf
      refine pm_go (i2 := 23) (ls2 := [some (.inr (.inr (19, 0))), some (.inl v1), some (.inl v2), none]) (st2 := []) (w2 := (pm_setJ w 19 (((w.2.1 19) * 6364136223846793005) + 1442695040888963407))) 8 (fun F h => h) ?_
      generalize (pm_setJ w 19 (((w.2.1 19) * 6364136223846793005) + 1442695040888963407)) = w7 at hf ⊢
      replace hf := pm_wlet_un hf
      refine pm_go (i2 := 33) (ls2 := [some (.inr (.inr (19, 0))), some (.inl v1), some (.inl v2), some (.inl (((((w7.2.1 19).toUInt64 >>> ((33 : Int32).toInt64.toUInt64 &&& Int64.toUInt64 63)).toInt64) - (((w7.2.1 19).toUInt64 >>> ((33 : Int32).toInt64.toUInt64 &&& Int64.toUInt64 63)).toInt64) / 6 * 6).toInt32))]) (st2 := [.inl (((((w7.2.1 19).toUInt64 >>> ((33 : Int32).toInt64.toUInt64 &&& Int64.toUInt64 63)).toInt64) - (((w7.2.1 19).toUInt64 >>> ((33 : Int32).toInt64.toUInt64 &&& Int64.toUInt64 63)).toInt64) / 6 * 6).toInt32), .inr (.inr (19, 0))]) (w2 := w7) 10 (fun F h => ⟨(by decide), h⟩) ?_
      obtain ⟨r8, hr9, hf⟩ := Option.bind_eq_some_iff.mp hf
      refine pm_ca (y := 101) (as := [.inr (.inr (19, 0)), .inl (((((w7.2.1 19).toUInt64 >>> ((33 : Int32).toInt64.toUInt64 &&& Int64.toUInt64 63)).toInt64) - (((w7.2.1 19).toUInt64 >>> ((33 : Int32).toInt64.toUInt64 &&& Int64.toUInt64 63)).toInt64) / 6 * 6).toInt32)]) (r := some (.inl r8)) (w2 := w7) (w1 := w7) (t := []) (i2 := 34) (ls2 := [some (.inr (.inr (19, 0))), some (.inl v1), some (.inl v2), some (.inl (((((w7.2.1 19).toUInt64 >>> ((33 : Int32).toInt64.toUInt64 &&& Int64.toUInt64 63)).toInt64) - (((w7.2.1 19).toUInt64 >>> ((33 : Int32).toInt64.toUInt64 &&& Int64.toUInt64 63)).toInt64) / 6 * 6).toInt32))]) 1 (a_X8_isGuest F w7 (((((w7.2.1 19).toUInt64 >>> ((33 : Int32).toInt64.toUInt64 &&& Int64.toUInt64 63)).toInt64) - (((w7.2.1 19).toUInt64 >>> ((33 : Int32).toInt64.toUInt64 &&& Int64.toUInt64 63)).toInt64) / 6 * 6).toInt32) r8 d (by omega) hr9) (fun F h => h) ?_
      show pm_Gx (RT d) co_X8_dinner 34 [some (.inr (.inr (19, 0))), some (.inl v1), some (.inl v2), some (.inl (((((w7.2.1 19).toUInt64 >>> ((33 : Int32).toInt64.toUInt64 &&& Int64.toUInt64 63)).toInt64) - (((w7.2.1 19).toUInt64 >>> ((33 : Int32).toInt64.toUInt64 &&& Int64.toUInt64 63)).toInt64) / 6 * 6).toInt32))] [.inl r8] w7 Q
      refine pm_if (P := r8 = 0) (i2 := 44) (i3 := 35) (ls2 := [some (.inr (.inr (19, 0))), some (.inl v1), some (.inl v2), some (.inl (((((w7.2.1 19).toUInt64 >>> ((33 : Int32).toInt64.toUInt64 &&& Int64.toUInt64 63)).toInt64) - (((w7.2.1 19).toUInt64 >>> ((33 : Int32).toInt64.toUInt64 &&& Int64.toUInt64 63)).toInt64) / 6 * 6).toInt32))]) (st2 := []) (w2 := w7) 1 (fun F h => h) (fun hc10 => ?_) (fun hc10 => ?_)
      · rw [if_pos hc10] at hf
        refine pm_go (i2 := 12) (ls2 := [some (.inr (.inr (19, 0))), some (.inl v1), some (.inl (v2 + 1)), some (.inl (((((w7.2.1 19).toUInt64 >>> ((33 : Int32).toInt64.toUInt64 &&& Int64.toUInt64 63)).toInt64) - (((w7.2.1 19).toUInt64 >>> ((33 : Int32).toInt64.toUInt64 &&& Int64.toUInt64 63)).toInt64) / 6 * 6).toInt32))]) (st2 := []) (w2 := w7) 2 (fun F h => h) ?_
        refine pm_wk (ls := [some (.inr (.inr (19, 0))), some (.inl v1), some (.inl (v2 + 1)), none]) ⟨.inr rfl, .inr rfl, .inr rfl, .inl rfl, trivial⟩ ?_
        exact ih w7 v1 (v2 + 1) _ hf hk
      · rw [if_neg hc10] at hf
        refine pm_go (i2 := 38) (ls2 := [some (.inr (.inr (19, 0))), some (.inl v1), some (.inl v2), some (.inl (((((w7.2.1 19).toUInt64 >>> ((33 : Int32).toInt64.toUInt64 &&& Int64.toUInt64 63)).toInt64) - (((w7.2.1 19).toUInt64 >>> ((33 : Int32).toInt64.toUInt64 &&& Int64.toUInt64 63)).toInt64) / 6 * 6).toInt32))]) (st2 := [.inl (((((w7.2.1 19).toUInt64 >>> ((33 : Int32).toInt64.toUInt64 &&& Int64.toUInt64 63)).toInt64) - (((w7.2.1 19).toUInt64 >>> ((33 : Int32).toInt64.toUInt64 &&& Int64.toUInt64 63)).toInt64) / 6 * 6).toInt32), .inl 1, .inr (.inr (19, 0))]) (w2 := w7) 3 (fun F h => h) ?_
        obtain ⟨r11, hr12, hf⟩ := Option.bind_eq_some_iff.mp hf
        refine pm_ca (y := 107) (as := [.inr (.inr (19, 0)), .inl 1, .inl (((((w7.2.1 19).toUInt64 >>> ((33 : Int32).toInt64.toUInt64 &&& Int64.toUInt64 63)).toInt64) - (((w7.2.1 19).toUInt64 >>> ((33 : Int32).toInt64.toUInt64 &&& Int64.toUInt64 63)).toInt64) / 6 * 6).toInt32)]) (r := some (.inl r11)) (w2 := w7) (w1 := w7) (t := []) (i2 := 39) (ls2 := [some (.inr (.inr (19, 0))), some (.inl v1), some (.inl v2), some (.inl (((((w7.2.1 19).toUInt64 >>> ((33 : Int32).toInt64.toUInt64 &&& Int64.toUInt64 63)).toInt64) - (((w7.2.1 19).toUInt64 >>> ((33 : Int32).toInt64.toUInt64 &&& Int64.toUInt64 63)).toInt64) / 6 * 6).toInt32))]) 1 (a_X8_canSay F w7 1 (((((w7.2.1 19).toUInt64 >>> ((33 : Int32).toInt64.toUInt64 &&& Int64.toUInt64 63)).toInt64) - (((w7.2.1 19).toUInt64 >>> ((33 : Int32).toInt64.toUInt64 &&& Int64.toUInt64 63)).toInt64) / 6 * 6).toInt32) r11 d (by omega) hr12) (fun F h => h) ?_
        show pm_Gx (RT d) co_X8_dinner 39 [some (.inr (.inr (19, 0))), some (.inl v1), some (.inl v2), some (.inl (((((w7.2.1 19).toUInt64 >>> ((33 : Int32).toInt64.toUInt64 &&& Int64.toUInt64 63)).toInt64) - (((w7.2.1 19).toUInt64 >>> ((33 : Int32).toInt64.toUInt64 &&& Int64.toUInt64 63)).toInt64) / 6 * 6).toInt32))] [.inl r11] w7 Q
        refine pm_if (P := r11 = 0) (i2 := 44) (i3 := 40) (ls2 := [some (.inr (.inr (19, 0))), some (.inl v1), some (.inl v2), some (.inl (((((w7.2.1 19).toUInt64 >>> ((33 : Int32).toInt64.toUInt64 &&& Int64.toUInt64 63)).toInt64) - (((w7.2.1 19).toUInt64 >>> ((33 : Int32).toInt64.toUInt64 &&& Int64.toUInt64 63)).toInt64) / 6 * 6).toInt32))]) (st2 := []) (w2 := w7) 1 (fun F h => h) (fun hc13 => ?_) (fun hc13 => ?_)
        · rw [if_pos hc13] at hf
          refine pm_go (i2 := 12) (ls2 := [some (.inr (.inr (19, 0))), some (.inl v1), some (.inl (v2 + 1)), some (.inl (((((w7.2.1 19).toUInt64 >>> ((33 : Int32).toInt64.toUInt64 &&& Int64.toUInt64 63)).toInt64) - (((w7.2.1 19).toUInt64 >>> ((33 : Int32).toInt64.toUInt64 &&& Int64.toUInt64 63)).toInt64) / 6 * 6).toInt32))]) (st2 := []) (w2 := w7) 2 (fun F h => h) ?_
          refine pm_wk (ls := [some (.inr (.inr (19, 0))), some (.inl v1), some (.inl (v2 + 1)), none]) ⟨.inr rfl, .inr rfl, .inr rfl, .inl rfl, trivial⟩ ?_
          exact ih w7 v1 (v2 + 1) _ hf hk
        · rw [if_neg hc13] at hf
          refine pm_go (i2 := 43) (ls2 := [some (.inr (.inr (19, 0))), some (.inl v1), some (.inl v2), some (.inl (((((w7.2.1 19).toUInt64 >>> ((33 : Int32).toInt64.toUInt64 &&& Int64.toUInt64 63)).toInt64) - (((w7.2.1 19).toUInt64 >>> ((33 : Int32).toInt64.toUInt64 &&& Int64.toUInt64 63)).toInt64) / 6 * 6).toInt32))]) (st2 := [.inl (((((w7.2.1 19).toUInt64 >>> ((33 : Int32).toInt64.toUInt64 &&& Int64.toUInt64 63)).toInt64) - (((w7.2.1 19).toUInt64 >>> ((33 : Int32).toInt64.toUInt64 &&& Int64.toUInt64 63)).toInt64) / 6 * 6).toInt32), .inl 1, .inr (.inr (19, 0))]) (w2 := w7) 3 (fun F h => h) ?_
          obtain ⟨r14, hr15, hf⟩ := Option.bind_eq_some_iff.mp hf
          refine pm_ca (y := 108) (as := [.inr (.inr (19, 0)), .inl 1, .inl (((((w7.2.1 19).toUInt64 >>> ((33 : Int32).toInt64.toUInt64 &&& Int64.toUInt64 63)).toInt64) - (((w7.2.1 19).toUInt64 >>> ((33 : Int32).toInt64.toUInt64 &&& Int64.toUInt64 63)).toInt64) / 6 * 6).toInt32)]) (r := none) (w2 := w7) (w1 := r14) (t := []) (i2 := 44) (ls2 := [some (.inr (.inr (19, 0))), some (.inl v1), some (.inl v2), some (.inl (((((w7.2.1 19).toUInt64 >>> ((33 : Int32).toInt64.toUInt64 &&& Int64.toUInt64 63)).toInt64) - (((w7.2.1 19).toUInt64 >>> ((33 : Int32).toInt64.toUInt64 &&& Int64.toUInt64 63)).toInt64) / 6 * 6).toInt32))]) 1 (a_X8_sayOn F w7 1 (((((w7.2.1 19).toUInt64 >>> ((33 : Int32).toInt64.toUInt64 &&& Int64.toUInt64 63)).toInt64) - (((w7.2.1 19).toUInt64 >>> ((33 : Int32).toInt64.toUInt64 &&& Int64.toUInt64 63)).toInt64) / 6 * 6).toInt32) r14 d (by omega) hr15) (fun F h => h) ?_
          show pm_Gx (RT d) co_X8_dinner 44 [some (.inr (.inr (19, 0))), some (.inl v1), some (.inl v2), some (.inl (((((w7.2.1 19).toUInt64 >>> ((33 : Int32).toInt64.toUInt64 &&& Int64.toUInt64 63)).toInt64) - (((w7.2.1 19).toUInt64 >>> ((33 : Int32).toInt64.toUInt64 &&& Int64.toUInt64 63)).toInt64) / 6 * 6).toInt32))] [] r14 Q
          refine pm_go (i2 := 12) (ls2 := [some (.inr (.inr (19, 0))), some (.inl v1), some (.inl (v2 + 1)), some (.inl (((((w7.2.1 19).toUInt64 >>> ((33 : Int32).toInt64.toUInt64 &&& Int64.toUInt64 63)).toInt64) - (((w7.2.1 19).toUInt64 >>> ((33 : Int32).toInt64.toUInt64 &&& Int64.toUInt64 63)).toInt64) / 6 * 6).toInt32))]) (st2 := []) (w2 := r14) 2 (fun F h => h) ?_
          refine pm_wk (ls := [some (.inr (.inr (19, 0))), some (.inl v1), some (.inl (v2 + 1)), none]) ⟨.inr rfl, .inr rfl, .inr rfl, .inl rfl, trivial⟩ ?_
          exact ih r14 v1 (v2 + 1) _ hf hk
set_option maxRecDepth 20000 in
set_option maxHeartbeats 4000000 in
theorem b_X8_dinner (F : Nat) (d : Nat) (hd : 2 ≤ d) (Q : pm_Q) (w : pm_W) (a1 : Int32) (x : (Int32 × pm_W)) (hf : f_X8_dinner F w a1 = some x) (hq : Q (some (.inl x.1)) x.2) : pm_Gx (RT d) co_X8_dinner 0 [some (.inr (.inr (19, 0))), some (.inl a1), none, none] [] w Q := by
  unfold f_X8_dinner at hf
  refine pm_go (i2 := 4) (ls2 := [some (.inr (.inr (19, 0))), some (.inl a1), none, none]) (st2 := [.inr (.inl 30), .inr (.inl 1), .inr (.inl a1.toInt64)]) (w2 := w) 4 (fun F h => h) ?_
  obtain ⟨r1, hr2, hf⟩ := Option.bind_eq_some_iff.mp hf
  refine pm_ca (y := 88) (as := [.inr (.inl a1.toInt64), .inr (.inl 1), .inr (.inl 30)]) (r := some (.inl r1)) (w2 := w) (w1 := w) (t := []) (i2 := 5) (ls2 := [some (.inr (.inr (19, 0))), some (.inl a1), none, none]) 1 (a_X8_in F w a1.toInt64 1 30 r1 d (by omega) hr2) (fun F h => h) ?_
  show pm_Gx (RT d) co_X8_dinner 5 [some (.inr (.inr (19, 0))), some (.inl a1), none, none] [.inl r1] w Q
  refine pm_if (P := r1 = 0) (i2 := 6) (i3 := 8) (ls2 := [some (.inr (.inr (19, 0))), some (.inl a1), none, none]) (st2 := []) (w2 := w) 1 (fun F h => h) (fun hc3 => ?_) (fun hc3 => ?_)
  · rw [if_pos hc3] at hf
    refine pm_go (i2 := 7) (ls2 := [some (.inr (.inr (19, 0))), some (.inl a1), none, none]) (st2 := [.inl (-2)]) (w2 := w) 1 (fun F h => h) ?_
    obtain rfl := Option.some.inj hf
    exact pm_re (r := some (.inl (-2))) (w2 := w) 1 (fun F h => h) hq
  · rw [if_neg hc3] at hf
    refine pm_go (i2 := 9) (ls2 := [some (.inr (.inr (19, 0))), some (.inl a1), none, none]) (st2 := [.inr (.inr (19, 0))]) (w2 := w) 1 (fun F h => h) ?_
    obtain ⟨r4, hr5, hf⟩ := Option.bind_eq_some_iff.mp hf
    refine pm_ca (y := 116) (as := [.inr (.inr (19, 0))]) (r := none) (w2 := w) (w1 := r4) (t := []) (i2 := 10) (ls2 := [some (.inr (.inr (19, 0))), some (.inl a1), none, none]) 1 (a_X8_layTrial F w r4 d (by omega) hr5) (fun F h => h) ?_
    show pm_Gx (RT d) co_X8_dinner 10 [some (.inr (.inr (19, 0))), some (.inl a1), none, none] [] r4 Q
    refine pm_go (i2 := 12) (ls2 := [some (.inr (.inr (19, 0))), some (.inl a1), some (.inl 0), none]) (st2 := []) (w2 := r4) 2 (fun F h => h) ?_
    obtain ⟨x16, hx17, hf⟩ := Option.bind_eq_some_iff.mp hf
    refine a_X8_dinner_L12 F d hd Q F r4 a1 0 x16 hx17 ?_
    refine pm_go (i2 := 50) (ls2 := [some (.inr (.inr (19, 0))), some (.inl a1), some (.inl x16.1), none]) (st2 := [.inl (x16.2.1 23 0 14)]) (w2 := x16.2) 4 (fun F h => ⟨(pm_inb_in (by decide)), h⟩) ?_
    obtain rfl := Option.some.inj hf
    exact pm_re (r := some (.inl (x16.2.1 23 0 14))) (w2 := x16.2) 1 (fun F h => h) hq
set_option maxRecDepth 20000 in
set_option maxHeartbeats 4000000 in
theorem a_X8_dinner (F : Nat) (w : pm_W) (a1 : Int32) (x : (Int32 × pm_W)) (d : Nat) (hd : 3 ≤ d) (hf : f_X8_dinner F w a1 = some x) : RT d 147 [.inr (.inr (19, 0)), .inl a1] w (some (.inl x.1)) x.2 := by
  obtain ⟨d, rfl, hd2⟩ := pm_dep hd
  exact pm_start (co := co_X8_dinner) (nL := 4) (by decide) rfl rfl (Nat.le_of_ble_eq_true rfl) (b_X8_dinner F d hd2 _ w a1 x hf ⟨rfl, rfl⟩)
def f_X8_keep_L15 (F : Nat) : Nat → pm_W → Int32 → Int32 → Option (Int32 × pm_W)
  | 0, _, _, _ => none
  | n + 1, w, v1, v2 => (if 9 ≤ v2 then some (v2, w) else (if pm_inb v2 18 = true then (if pm_inb ((9 * v1) + v2) 18 = true then (pm_wlet (pm_setI w 35 0 (((9 * v1) + v2).toNatClampNeg) (w.1 23 0 v2.toNatClampNeg)) fun w9 => f_X8_keep_L15 F n w9 v1 (v2 + 1)) else none) else none))
def f_X8_keep (F : Nat) (w : pm_W) (a1 : Int32) : Option ((Int32 × pm_W)) := ((f_X8_in F w a1.toInt64 0 1).bind fun r1 => (if r1 = 0 then some ((-1), w) else (if pm_inb a1 2 = true then (pm_wlet (pm_setI w 34 0 a1.toNatClampNeg (vp_nar .boolean 1)) fun w5 => ((f_X8_keep_L15 F F w5 a1 0).bind fun x10 => some (x10.2.1 23 0 5, x10.2))) else none)))
set_option maxRecDepth 20000 in
set_option maxHeartbeats 4000000 in
theorem a_X8_keep_L15 (F : Nat) (d : Nat) (hd : 1 ≤ d) (Q : pm_Q) : ∀ (n : Nat) (w : pm_W) (v1 : Int32) (v2 : Int32) (x : Int32 × pm_W), f_X8_keep_L15 F n w v1 v2 = some x → pm_Gx (RT d) co_X8_keep 32 [some (.inr (.inr (19, 0))), some (.inl v1), some (.inl x.1)] [] x.2 Q → pm_Gx (RT d) co_X8_keep 15 [some (.inr (.inr (19, 0))), some (.inl v1), some (.inl v2)] [] w Q := by
  intro n
  induction n with
  | zero =>
    intro w v1 v2 x hf
    cases hf
  | succ n ih =>
    intro w v1 v2 x hf hk
    rw [f_X8_keep_L15] at hf
    refine pm_go (i2 := 17) (ls2 := [some (.inr (.inr (19, 0))), some (.inl v1), some (.inl v2)]) (st2 := [.inl 9, .inl v2]) (w2 := w) 2 (fun F h => h) ?_
    refine pm_if (P := 9 ≤ v2) (i2 := 32) (i3 := 18) (ls2 := [some (.inr (.inr (19, 0))), some (.inl v1), some (.inl v2)]) (st2 := []) (w2 := w) 1 (fun F h => h) (fun hc6 => ?_) (fun hc6 => ?_)
    · rw [if_pos hc6] at hf
      obtain rfl := Option.some.inj hf
      exact hk
    · rw [if_neg hc6] at hf
      obtain ⟨hs7, hf⟩ := pm_itn hf
      obtain ⟨hs8, hf⟩ := pm_itn hf
      refine pm_go (i2 := 30) (ls2 := [some (.inr (.inr (19, 0))), some (.inl v1), some (.inl v2)]) (st2 := []) (w2 := (pm_setI w 35 0 (((9 * v1) + v2).toNatClampNeg) (w.1 23 0 v2.toNatClampNeg))) 12 (fun F h => ⟨(pm_inb_in hs7), (pm_inb_in hs8), h⟩) ?_
      generalize (pm_setI w 35 0 (((9 * v1) + v2).toNatClampNeg) (w.1 23 0 v2.toNatClampNeg)) = w9 at hf ⊢
      replace hf := pm_wlet_un hf
      refine pm_go (i2 := 15) (ls2 := [some (.inr (.inr (19, 0))), some (.inl v1), some (.inl (v2 + 1))]) (st2 := []) (w2 := w9) 2 (fun F h => h) ?_
      exact ih w9 v1 (v2 + 1) _ hf hk
set_option maxRecDepth 20000 in
set_option maxHeartbeats 4000000 in
theorem b_X8_keep (F : Nat) (d : Nat) (hd : 1 ≤ d) (Q : pm_Q) (w : pm_W) (a1 : Int32) (x : (Int32 × pm_W)) (hf : f_X8_keep F w a1 = some x) (hq : Q (some (.inl x.1)) x.2) : pm_Gx (RT d) co_X8_keep 0 [some (.inr (.inr (19, 0))), some (.inl a1), none] [] w Q := by
  unfold f_X8_keep at hf
  refine pm_go (i2 := 4) (ls2 := [some (.inr (.inr (19, 0))), some (.inl a1), none]) (st2 := [.inr (.inl 1), .inr (.inl 0), .inr (.inl a1.toInt64)]) (w2 := w) 4 (fun F h => h) ?_
  obtain ⟨r1, hr2, hf⟩ := Option.bind_eq_some_iff.mp hf
  refine pm_ca (y := 88) (as := [.inr (.inl a1.toInt64), .inr (.inl 0), .inr (.inl 1)]) (r := some (.inl r1)) (w2 := w) (w1 := w) (t := []) (i2 := 5) (ls2 := [some (.inr (.inr (19, 0))), some (.inl a1), none]) 1 (a_X8_in F w a1.toInt64 0 1 r1 d (by omega) hr2) (fun F h => h) ?_
  show pm_Gx (RT d) co_X8_keep 5 [some (.inr (.inr (19, 0))), some (.inl a1), none] [.inl r1] w Q
  refine pm_if (P := r1 = 0) (i2 := 6) (i3 := 8) (ls2 := [some (.inr (.inr (19, 0))), some (.inl a1), none]) (st2 := []) (w2 := w) 1 (fun F h => h) (fun hc3 => ?_) (fun hc3 => ?_)
  · rw [if_pos hc3] at hf
    refine pm_go (i2 := 7) (ls2 := [some (.inr (.inr (19, 0))), some (.inl a1), none]) (st2 := [.inl (-1)]) (w2 := w) 1 (fun F h => h) ?_
    obtain rfl := Option.some.inj hf
    exact pm_re (r := some (.inl (-1))) (w2 := w) 1 (fun F h => h) hq
  · rw [if_neg hc3] at hf
    obtain ⟨hs4, hf⟩ := pm_itn hf
    refine pm_go (i2 := 13) (ls2 := [some (.inr (.inr (19, 0))), some (.inl a1), none]) (st2 := []) (w2 := (pm_setI w 34 0 a1.toNatClampNeg (vp_nar .boolean 1))) 5 (fun F h => ⟨(pm_inb_in hs4), h⟩) ?_
    generalize (pm_setI w 34 0 a1.toNatClampNeg (vp_nar .boolean 1)) = w5 at hf ⊢
    replace hf := pm_wlet_un hf
    refine pm_go (i2 := 15) (ls2 := [some (.inr (.inr (19, 0))), some (.inl a1), some (.inl 0)]) (st2 := []) (w2 := w5) 2 (fun F h => h) ?_
    obtain ⟨x10, hx11, hf⟩ := Option.bind_eq_some_iff.mp hf
    refine a_X8_keep_L15 F d hd Q F w5 a1 0 x10 hx11 ?_
    refine pm_go (i2 := 36) (ls2 := [some (.inr (.inr (19, 0))), some (.inl a1), some (.inl x10.1)]) (st2 := [.inl (x10.2.1 23 0 5)]) (w2 := x10.2) 4 (fun F h => ⟨(pm_inb_in (by decide)), h⟩) ?_
    obtain rfl := Option.some.inj hf
    exact pm_re (r := some (.inl (x10.2.1 23 0 5))) (w2 := x10.2) 1 (fun F h => h) hq
set_option maxRecDepth 20000 in
set_option maxHeartbeats 4000000 in
theorem a_X8_keep (F : Nat) (w : pm_W) (a1 : Int32) (x : (Int32 × pm_W)) (d : Nat) (hd : 2 ≤ d) (hf : f_X8_keep F w a1 = some x) : RT d 148 [.inr (.inr (19, 0)), .inl a1] w (some (.inl x.1)) x.2 := by
  obtain ⟨d, rfl, hd2⟩ := pm_dep hd
  exact pm_start (co := co_X8_keep) (nL := 3) (by decide) rfl rfl (Nat.le_of_ble_eq_true rfl) (b_X8_keep F d hd2 _ w a1 x hf ⟨rfl, rfl⟩)
def f_X8_again_L17 (F : Nat) : Nat → pm_W → Int32 → Int32 → Option (Int32 × pm_W)
  | 0, _, _, _ => none
  | n + 1, w, v1, v2 => (if 9 ≤ v2 then some (v2, w) else (if pm_inb ((9 * v1) + v2) 18 = true then (if pm_inb v2 18 = true then (pm_wlet (pm_setI w 23 0 v2.toNatClampNeg (w.1 35 0 (((9 * v1) + v2).toNatClampNeg))) fun w9 => f_X8_again_L17 F n w9 v1 (v2 + 1)) else none) else none))
def f_X8_again (F : Nat) (w : pm_W) (a1 : Int32) : Option ((Int32 × pm_W)) := ((f_X8_in F w a1.toInt64 0 1).bind fun r1 => (if r1 = 0 then some ((-1), w) else (if pm_inb a1 2 = true then (if (w.1 34 0 a1.toNatClampNeg) = 0 then some ((-3), w) else ((f_X8_again_L17 F F w a1 0).bind fun x10 => (pm_wlet (pm_setI x10.2 19 0 19 0) fun w12 => some (w12.1 23 0 5, w12)))) else none)))
set_option maxRecDepth 20000 in
set_option maxHeartbeats 4000000 in
theorem a_X8_again_L17 (F : Nat) (d : Nat) (hd : 1 ≤ d) (Q : pm_Q) : ∀ (n : Nat) (w : pm_W) (v1 : Int32) (v2 : Int32) (x : Int32 × pm_W), f_X8_again_L17 F n w v1 v2 = some x → pm_Gx (RT d) co_X8_again 34 [some (.inr (.inr (19, 0))), some (.inl v1), some (.inl x.1)] [] x.2 Q → pm_Gx (RT d) co_X8_again 17 [some (.inr (.inr (19, 0))), some (.inl v1), some (.inl v2)] [] w Q := by
  intro n
  induction n with
  | zero =>
    intro w v1 v2 x hf
    cases hf
  | succ n ih =>
    intro w v1 v2 x hf hk
    rw [f_X8_again_L17] at hf
    refine pm_go (i2 := 19) (ls2 := [some (.inr (.inr (19, 0))), some (.inl v1), some (.inl v2)]) (st2 := [.inl 9, .inl v2]) (w2 := w) 2 (fun F h => h) ?_
    refine pm_if (P := 9 ≤ v2) (i2 := 34) (i3 := 20) (ls2 := [some (.inr (.inr (19, 0))), some (.inl v1), some (.inl v2)]) (st2 := []) (w2 := w) 1 (fun F h => h) (fun hc6 => ?_) (fun hc6 => ?_)
    · rw [if_pos hc6] at hf
      obtain rfl := Option.some.inj hf
      exact hk
    · rw [if_neg hc6] at hf
      obtain ⟨hs7, hf⟩ := pm_itn hf
      obtain ⟨hs8, hf⟩ := pm_itn hf
      refine pm_go (i2 := 32) (ls2 := [some (.inr (.inr (19, 0))), some (.inl v1), some (.inl v2)]) (st2 := []) (w2 := (pm_setI w 23 0 v2.toNatClampNeg (w.1 35 0 (((9 * v1) + v2).toNatClampNeg)))) 12 (fun F h => ⟨(pm_inb_in hs7), (pm_inb_in hs8), h⟩) ?_
      generalize (pm_setI w 23 0 v2.toNatClampNeg (w.1 35 0 (((9 * v1) + v2).toNatClampNeg))) = w9 at hf ⊢
      replace hf := pm_wlet_un hf
      refine pm_go (i2 := 17) (ls2 := [some (.inr (.inr (19, 0))), some (.inl v1), some (.inl (v2 + 1))]) (st2 := []) (w2 := w9) 2 (fun F h => h) ?_
      exact ih w9 v1 (v2 + 1) _ hf hk
set_option maxRecDepth 20000 in
set_option maxHeartbeats 4000000 in
theorem b_X8_again (F : Nat) (d : Nat) (hd : 1 ≤ d) (Q : pm_Q) (w : pm_W) (a1 : Int32) (x : (Int32 × pm_W)) (hf : f_X8_again F w a1 = some x) (hq : Q (some (.inl x.1)) x.2) : pm_Gx (RT d) co_X8_again 0 [some (.inr (.inr (19, 0))), some (.inl a1), none] [] w Q := by
  unfold f_X8_again at hf
  refine pm_go (i2 := 4) (ls2 := [some (.inr (.inr (19, 0))), some (.inl a1), none]) (st2 := [.inr (.inl 1), .inr (.inl 0), .inr (.inl a1.toInt64)]) (w2 := w) 4 (fun F h => h) ?_
  obtain ⟨r1, hr2, hf⟩ := Option.bind_eq_some_iff.mp hf
  refine pm_ca (y := 88) (as := [.inr (.inl a1.toInt64), .inr (.inl 0), .inr (.inl 1)]) (r := some (.inl r1)) (w2 := w) (w1 := w) (t := []) (i2 := 5) (ls2 := [some (.inr (.inr (19, 0))), some (.inl a1), none]) 1 (a_X8_in F w a1.toInt64 0 1 r1 d (by omega) hr2) (fun F h => h) ?_
  show pm_Gx (RT d) co_X8_again 5 [some (.inr (.inr (19, 0))), some (.inl a1), none] [.inl r1] w Q
  refine pm_if (P := r1 = 0) (i2 := 6) (i3 := 8) (ls2 := [some (.inr (.inr (19, 0))), some (.inl a1), none]) (st2 := []) (w2 := w) 1 (fun F h => h) (fun hc3 => ?_) (fun hc3 => ?_)
  · rw [if_pos hc3] at hf
    refine pm_go (i2 := 7) (ls2 := [some (.inr (.inr (19, 0))), some (.inl a1), none]) (st2 := [.inl (-1)]) (w2 := w) 1 (fun F h => h) ?_
    obtain rfl := Option.some.inj hf
    exact pm_re (r := some (.inl (-1))) (w2 := w) 1 (fun F h => h) hq
  · rw [if_neg hc3] at hf
    obtain ⟨hs4, hf⟩ := pm_itn hf
    refine pm_go (i2 := 12) (ls2 := [some (.inr (.inr (19, 0))), some (.inl a1), none]) (st2 := [.inl (w.1 34 0 a1.toNatClampNeg)]) (w2 := w) 4 (fun F h => ⟨(pm_inb_in hs4), h⟩) ?_
    refine pm_if (P := (w.1 34 0 a1.toNatClampNeg) = 0) (i2 := 13) (i3 := 15) (ls2 := [some (.inr (.inr (19, 0))), some (.inl a1), none]) (st2 := []) (w2 := w) 1 (fun F h => h) (fun hc5 => ?_) (fun hc5 => ?_)
    · rw [if_pos hc5] at hf
      refine pm_go (i2 := 14) (ls2 := [some (.inr (.inr (19, 0))), some (.inl a1), none]) (st2 := [.inl (-3)]) (w2 := w) 1 (fun F h => h) ?_
      obtain rfl := Option.some.inj hf
      exact pm_re (r := some (.inl (-3))) (w2 := w) 1 (fun F h => h) hq
    · rw [if_neg hc5] at hf
      refine pm_go (i2 := 17) (ls2 := [some (.inr (.inr (19, 0))), some (.inl a1), some (.inl 0)]) (st2 := []) (w2 := w) 2 (fun F h => h) ?_
      obtain ⟨x10, hx11, hf⟩ := Option.bind_eq_some_iff.mp hf
      refine a_X8_again_L17 F d hd Q F w a1 0 x10 hx11 ?_
      refine pm_go (i2 := 37) (ls2 := [some (.inr (.inr (19, 0))), some (.inl a1), some (.inl x10.1)]) (st2 := []) (w2 := (pm_setI x10.2 19 0 19 0)) 3 (fun F h => h) ?_
      generalize (pm_setI x10.2 19 0 19 0) = w12 at hf ⊢
      replace hf := pm_wlet_un hf
      refine pm_go (i2 := 41) (ls2 := [some (.inr (.inr (19, 0))), some (.inl a1), some (.inl x10.1)]) (st2 := [.inl (w12.1 23 0 5)]) (w2 := w12) 4 (fun F h => ⟨(pm_inb_in (by decide)), h⟩) ?_
      obtain rfl := Option.some.inj hf
      exact pm_re (r := some (.inl (w12.1 23 0 5))) (w2 := w12) 1 (fun F h => h) hq
set_option maxRecDepth 20000 in
set_option maxHeartbeats 4000000 in
theorem a_X8_again (F : Nat) (w : pm_W) (a1 : Int32) (x : (Int32 × pm_W)) (d : Nat) (hd : 2 ≤ d) (hf : f_X8_again F w a1 = some x) : RT d 149 [.inr (.inr (19, 0)), .inl a1] w (some (.inl x.1)) x.2 := by
  obtain ⟨d, rfl, hd2⟩ := pm_dep hd
  exact pm_start (co := co_X8_again) (nL := 3) (by decide) rfl rfl (Nat.le_of_ble_eq_true rfl) (b_X8_again F d hd2 _ w a1 x hf ⟨rfl, rfl⟩)
def f_X8_count (F : Nat) (w : pm_W) (a1 : Int32) : Option (Int32) := (if a1 = 0 then some (w.1 19 0 16) else (if a1 = 1 then some (w.1 19 0 0) else (if a1 = 2 then some (w.1 23 0 5) else (if a1 = 3 then some (w.1 19 0 2) else (if a1 = 4 then some (w.1 23 0 6) else (if a1 = 5 then some (w.1 23 0 7) else (if a1 = 6 then some (w.1 23 0 8) else (if a1 = 7 then ((f_X8_hears F w 0).bind fun r9 => some r9) else (if a1 = 8 then some (w.1 19 0 19) else (if a1 = 9 then some (w.1 19 0 24) else (if a1 = 10 then some (w.1 19 0 1) else some (-2))))))))))))
set_option maxRecDepth 20000 in
set_option maxHeartbeats 4000000 in
theorem b_X8_count (F : Nat) (d : Nat) (hd : 3 ≤ d) (Q : pm_Q) (w : pm_W) (a1 : Int32) (x : Int32) (hf : f_X8_count F w a1 = some x) (hq : Q (some (.inl x)) w) : pm_Gx (RT d) co_X8_count 0 [some (.inr (.inr (19, 0))), some (.inl a1)] [] w Q := by
  unfold f_X8_count at hf
  refine pm_go (i2 := 1) (ls2 := [some (.inr (.inr (19, 0))), some (.inl a1)]) (st2 := [.inl a1]) (w2 := w) 1 (fun F h => h) ?_
  refine pm_swx (x := a1) (d := 44) (cs := [(0, 2), (1, 5), (2, 8), (3, 13), (4, 16), (5, 21), (6, 26), (7, 31), (8, 35), (9, 38), (10, 41)]) (ls2 := [some (.inr (.inr (19, 0))), some (.inl a1)]) (st2 := []) (w2 := w) 1 (fun F h => h) ?_
  refine pm_swc (fun hw1 => ?_) (fun hw1 => ?_)
  · rw [if_pos hw1] at hf
    refine pm_go (i2 := 4) (ls2 := [some (.inr (.inr (19, 0))), some (.inl a1)]) (st2 := [.inl (w.1 19 0 16)]) (w2 := w) 2 (fun F h => h) ?_
    obtain rfl := Option.some.inj hf
    exact pm_re (r := some (.inl (w.1 19 0 16))) (w2 := w) 1 (fun F h => h) hq
  rw [if_neg hw1] at hf
  refine pm_swc (fun hw2 => ?_) (fun hw2 => ?_)
  · rw [if_pos hw2] at hf
    refine pm_go (i2 := 7) (ls2 := [some (.inr (.inr (19, 0))), some (.inl a1)]) (st2 := [.inl (w.1 19 0 0)]) (w2 := w) 2 (fun F h => h) ?_
    obtain rfl := Option.some.inj hf
    exact pm_re (r := some (.inl (w.1 19 0 0))) (w2 := w) 1 (fun F h => h) hq
  rw [if_neg hw2] at hf
  refine pm_swc (fun hw3 => ?_) (fun hw3 => ?_)
  · rw [if_pos hw3] at hf
    refine pm_go (i2 := 12) (ls2 := [some (.inr (.inr (19, 0))), some (.inl a1)]) (st2 := [.inl (w.1 23 0 5)]) (w2 := w) 4 (fun F h => ⟨(pm_inb_in (by decide)), h⟩) ?_
    obtain rfl := Option.some.inj hf
    exact pm_re (r := some (.inl (w.1 23 0 5))) (w2 := w) 1 (fun F h => h) hq
  rw [if_neg hw3] at hf
  refine pm_swc (fun hw4 => ?_) (fun hw4 => ?_)
  · rw [if_pos hw4] at hf
    refine pm_go (i2 := 15) (ls2 := [some (.inr (.inr (19, 0))), some (.inl a1)]) (st2 := [.inl (w.1 19 0 2)]) (w2 := w) 2 (fun F h => h) ?_
    obtain rfl := Option.some.inj hf
    exact pm_re (r := some (.inl (w.1 19 0 2))) (w2 := w) 1 (fun F h => h) hq
  rw [if_neg hw4] at hf
  refine pm_swc (fun hw5 => ?_) (fun hw5 => ?_)
  · rw [if_pos hw5] at hf
    refine pm_go (i2 := 20) (ls2 := [some (.inr (.inr (19, 0))), some (.inl a1)]) (st2 := [.inl (w.1 23 0 6)]) (w2 := w) 4 (fun F h => ⟨(pm_inb_in (by decide)), h⟩) ?_
    obtain rfl := Option.some.inj hf
    exact pm_re (r := some (.inl (w.1 23 0 6))) (w2 := w) 1 (fun F h => h) hq
  rw [if_neg hw5] at hf
  refine pm_swc (fun hw6 => ?_) (fun hw6 => ?_)
  · rw [if_pos hw6] at hf
    refine pm_go (i2 := 25) (ls2 := [some (.inr (.inr (19, 0))), some (.inl a1)]) (st2 := [.inl (w.1 23 0 7)]) (w2 := w) 4 (fun F h => ⟨(pm_inb_in (by decide)), h⟩) ?_
    obtain rfl := Option.some.inj hf
    exact pm_re (r := some (.inl (w.1 23 0 7))) (w2 := w) 1 (fun F h => h) hq
  rw [if_neg hw6] at hf
  refine pm_swc (fun hw7 => ?_) (fun hw7 => ?_)
  · rw [if_pos hw7] at hf
    refine pm_go (i2 := 30) (ls2 := [some (.inr (.inr (19, 0))), some (.inl a1)]) (st2 := [.inl (w.1 23 0 8)]) (w2 := w) 4 (fun F h => ⟨(pm_inb_in (by decide)), h⟩) ?_
    obtain rfl := Option.some.inj hf
    exact pm_re (r := some (.inl (w.1 23 0 8))) (w2 := w) 1 (fun F h => h) hq
  rw [if_neg hw7] at hf
  refine pm_swc (fun hw8 => ?_) (fun hw8 => ?_)
  · rw [if_pos hw8] at hf
    refine pm_go (i2 := 33) (ls2 := [some (.inr (.inr (19, 0))), some (.inl a1)]) (st2 := [.inl 0, .inr (.inr (19, 0))]) (w2 := w) 2 (fun F h => h) ?_
    obtain ⟨r9, hr10, hf⟩ := Option.bind_eq_some_iff.mp hf
    refine pm_ca (y := 103) (as := [.inr (.inr (19, 0)), .inl 0]) (r := some (.inl r9)) (w2 := w) (w1 := w) (t := []) (i2 := 34) (ls2 := [some (.inr (.inr (19, 0))), some (.inl a1)]) 1 (a_X8_hears F w 0 r9 d (by omega) hr10) (fun F h => h) ?_
    show pm_Gx (RT d) co_X8_count 34 [some (.inr (.inr (19, 0))), some (.inl a1)] [.inl r9] w Q
    obtain rfl := Option.some.inj hf
    exact pm_re (r := some (.inl r9)) (w2 := w) 1 (fun F h => h) hq
  rw [if_neg hw8] at hf
  refine pm_swc (fun hw11 => ?_) (fun hw11 => ?_)
  · rw [if_pos hw11] at hf
    refine pm_go (i2 := 37) (ls2 := [some (.inr (.inr (19, 0))), some (.inl a1)]) (st2 := [.inl (w.1 19 0 19)]) (w2 := w) 2 (fun F h => h) ?_
    obtain rfl := Option.some.inj hf
    exact pm_re (r := some (.inl (w.1 19 0 19))) (w2 := w) 1 (fun F h => h) hq
  rw [if_neg hw11] at hf
  refine pm_swc (fun hw12 => ?_) (fun hw12 => ?_)
  · rw [if_pos hw12] at hf
    refine pm_go (i2 := 40) (ls2 := [some (.inr (.inr (19, 0))), some (.inl a1)]) (st2 := [.inl (w.1 19 0 24)]) (w2 := w) 2 (fun F h => h) ?_
    obtain rfl := Option.some.inj hf
    exact pm_re (r := some (.inl (w.1 19 0 24))) (w2 := w) 1 (fun F h => h) hq
  rw [if_neg hw12] at hf
  refine pm_swc (fun hw13 => ?_) (fun hw13 => ?_)
  · rw [if_pos hw13] at hf
    refine pm_go (i2 := 43) (ls2 := [some (.inr (.inr (19, 0))), some (.inl a1)]) (st2 := [.inl (w.1 19 0 1)]) (w2 := w) 2 (fun F h => h) ?_
    obtain rfl := Option.some.inj hf
    exact pm_re (r := some (.inl (w.1 19 0 1))) (w2 := w) 1 (fun F h => h) hq
  rw [if_neg hw13] at hf
  refine pm_swd ?_
  refine pm_go (i2 := 45) (ls2 := [some (.inr (.inr (19, 0))), some (.inl a1)]) (st2 := [.inl (-2)]) (w2 := w) 1 (fun F h => h) ?_
  obtain rfl := Option.some.inj hf
  exact pm_re (r := some (.inl (-2))) (w2 := w) 1 (fun F h => h) hq
set_option maxRecDepth 20000 in
set_option maxHeartbeats 4000000 in
theorem a_X8_count (F : Nat) (w : pm_W) (a1 : Int32) (x : Int32) (d : Nat) (hd : 4 ≤ d) (hf : f_X8_count F w a1 = some x) : RT d 150 [.inr (.inr (19, 0)), .inl a1] w (some (.inl x)) w := by
  obtain ⟨d, rfl, hd2⟩ := pm_dep hd
  exact pm_start (co := co_X8_count) (nL := 2) (by decide) rfl rfl (Nat.le_of_ble_eq_true rfl) (b_X8_count F d hd2 _ w a1 x hf ⟨rfl, rfl⟩)
