def f_X8_readGuest (F : Nat) (w : pm_W) : Option (pm_W) := (pm_wlet (pm_setI w 19 0 17 ((w.1 19 0 17) + 1)) fun w1 => ((f_X8_leafFigure F w1 (-9)).bind fun r2 => ((f_X8_leafFigure F r2.2 r2.1).bind fun r4 => ((f_X8_figure F r4.2 0 3).bind fun r6 => ((f_X8_figure F r6.2 0 9).bind fun r8 => ((f_X8_figure F r8.2 0 3).bind fun r10 => (if (r10.2.1 19 0 18) = (-9) then (if pm_inb (r10.2.1 19 0 10) 5 = true then (pm_wlet (pm_setI r10.2 24 0 ((r10.2.1 19 0 10).toNatClampNeg) ((10 * r2.1) + r4.1)) fun w14 => (if pm_inb (w14.1 19 0 10) 5 = true then (pm_wlet (pm_setI w14 25 0 ((w14.1 19 0 10).toNatClampNeg) r6.1) fun w16 => (if pm_inb (w16.1 19 0 10) 5 = true then (pm_wlet (pm_setI w16 26 0 ((w16.1 19 0 10).toNatClampNeg) r8.1) fun w18 => (if pm_inb (w18.1 19 0 10) 5 = true then (pm_wlet (pm_setI w18 27 0 ((w18.1 19 0 10).toNatClampNeg) r10.1) fun w20 => (pm_wlet (pm_setI w20 19 0 10 ((w20.1 19 0 10) + 1)) fun w21 => some w21)) else none)) else none)) else none)) else none) else some r10.2)))))))
set_option maxRecDepth 20000 in
set_option maxHeartbeats 4000000 in
theorem b_X8_readGuest (F : Nat) (d : Nat) (hd : 3 ≤ d) (Q : pm_Q) (w : pm_W) (x : pm_W) (hf : f_X8_readGuest F w = some x) (hq : Q (none) x) : pm_Gx (RT d) co_X8_readGuest 0 [some (.inr (.inr (19, 0))), none, none, none, none, none] [] w Q := by
  unfold f_X8_readGuest at hf
  refine pm_go (i2 := 6) (ls2 := [some (.inr (.inr (19, 0))), none, none, none, none, none]) (st2 := []) (w2 := (pm_setI w 19 0 17 ((w.1 19 0 17) + 1))) 6 (fun F h => h) ?_
  generalize (pm_setI w 19 0 17 ((w.1 19 0 17) + 1)) = w1 at hf ⊢
  replace hf := pm_wlet_un hf
  refine pm_go (i2 := 8) (ls2 := [some (.inr (.inr (19, 0))), none, none, none, none, none]) (st2 := [.inl (-9), .inr (.inr (19, 0))]) (w2 := w1) 2 (fun F h => h) ?_
  obtain ⟨r2, hr3, hf⟩ := Option.bind_eq_some_iff.mp hf
  refine pm_ca (y := 96) (as := [.inr (.inr (19, 0)), .inl (-9)]) (r := some (.inl r2.1)) (w2 := w1) (w1 := r2.2) (t := []) (i2 := 9) (ls2 := [some (.inr (.inr (19, 0))), none, none, none, none, none]) 1 (a_X8_leafFigure F w1 (-9) r2 d (by omega) hr3) (fun F h => h) ?_
  show pm_Gx (RT d) co_X8_readGuest 9 [some (.inr (.inr (19, 0))), none, none, none, none, none] [.inl r2.1] r2.2 Q
  refine pm_go (i2 := 15) (ls2 := [some (.inr (.inr (19, 0))), some (.inl r2.1), none, none, none, none]) (st2 := [.inl r2.1, .inr (.inr (19, 0)), .inl (10 * r2.1)]) (w2 := r2.2) 6 (fun F h => h) ?_
  obtain ⟨r4, hr5, hf⟩ := Option.bind_eq_some_iff.mp hf
  refine pm_ca (y := 96) (as := [.inr (.inr (19, 0)), .inl r2.1]) (r := some (.inl r4.1)) (w2 := r2.2) (w1 := r4.2) (t := [.inl (10 * r2.1)]) (i2 := 16) (ls2 := [some (.inr (.inr (19, 0))), some (.inl r2.1), none, none, none, none]) 1 (a_X8_leafFigure F r2.2 r2.1 r4 d (by omega) hr5) (fun F h => h) ?_
  show pm_Gx (RT d) co_X8_readGuest 16 [some (.inr (.inr (19, 0))), some (.inl r2.1), none, none, none, none] [.inl r4.1, .inl (10 * r2.1)] r4.2 Q
  refine pm_go (i2 := 21) (ls2 := [some (.inr (.inr (19, 0))), some (.inl r2.1), some (.inl ((10 * r2.1) + r4.1)), none, none, none]) (st2 := [.inl 3, .inl 0, .inr (.inr (19, 0))]) (w2 := r4.2) 5 (fun F h => h) ?_
  obtain ⟨r6, hr7, hf⟩ := Option.bind_eq_some_iff.mp hf
  refine pm_ca (y := 93) (as := [.inr (.inr (19, 0)), .inl 0, .inl 3]) (r := some (.inl r6.1)) (w2 := r4.2) (w1 := r6.2) (t := []) (i2 := 22) (ls2 := [some (.inr (.inr (19, 0))), some (.inl r2.1), some (.inl ((10 * r2.1) + r4.1)), none, none, none]) 1 (a_X8_figure F r4.2 0 3 r6 d (by omega) hr7) (fun F h => h) ?_
  show pm_Gx (RT d) co_X8_readGuest 22 [some (.inr (.inr (19, 0))), some (.inl r2.1), some (.inl ((10 * r2.1) + r4.1)), none, none, none] [.inl r6.1] r6.2 Q
  refine pm_go (i2 := 26) (ls2 := [some (.inr (.inr (19, 0))), some (.inl r2.1), some (.inl ((10 * r2.1) + r4.1)), some (.inl r6.1), none, none]) (st2 := [.inl 9, .inl 0, .inr (.inr (19, 0))]) (w2 := r6.2) 4 (fun F h => h) ?_
  obtain ⟨r8, hr9, hf⟩ := Option.bind_eq_some_iff.mp hf
  refine pm_ca (y := 93) (as := [.inr (.inr (19, 0)), .inl 0, .inl 9]) (r := some (.inl r8.1)) (w2 := r6.2) (w1 := r8.2) (t := []) (i2 := 27) (ls2 := [some (.inr (.inr (19, 0))), some (.inl r2.1), some (.inl ((10 * r2.1) + r4.1)), some (.inl r6.1), none, none]) 1 (a_X8_figure F r6.2 0 9 r8 d (by omega) hr9) (fun F h => h) ?_
  show pm_Gx (RT d) co_X8_readGuest 27 [some (.inr (.inr (19, 0))), some (.inl r2.1), some (.inl ((10 * r2.1) + r4.1)), some (.inl r6.1), none, none] [.inl r8.1] r8.2 Q
  refine pm_go (i2 := 31) (ls2 := [some (.inr (.inr (19, 0))), some (.inl r2.1), some (.inl ((10 * r2.1) + r4.1)), some (.inl r6.1), some (.inl r8.1), none]) (st2 := [.inl 3, .inl 0, .inr (.inr (19, 0))]) (w2 := r8.2) 4 (fun F h => h) ?_
  obtain ⟨r10, hr11, hf⟩ := Option.bind_eq_some_iff.mp hf
  refine pm_ca (y := 93) (as := [.inr (.inr (19, 0)), .inl 0, .inl 3]) (r := some (.inl r10.1)) (w2 := r8.2) (w1 := r10.2) (t := []) (i2 := 32) (ls2 := [some (.inr (.inr (19, 0))), some (.inl r2.1), some (.inl ((10 * r2.1) + r4.1)), some (.inl r6.1), some (.inl r8.1), none]) 1 (a_X8_figure F r8.2 0 3 r10 d (by omega) hr11) (fun F h => h) ?_
  show pm_Gx (RT d) co_X8_readGuest 32 [some (.inr (.inr (19, 0))), some (.inl r2.1), some (.inl ((10 * r2.1) + r4.1)), some (.inl r6.1), some (.inl r8.1), none] [.inl r10.1] r10.2 Q
  refine pm_go (i2 := 36) (ls2 := [some (.inr (.inr (19, 0))), some (.inl r2.1), some (.inl ((10 * r2.1) + r4.1)), some (.inl r6.1), some (.inl r8.1), some (.inl r10.1)]) (st2 := [.inl (-9), .inl (r10.2.1 19 0 18)]) (w2 := r10.2) 4 (fun F h => h) ?_
  refine pm_if (P := (r10.2.1 19 0 18) = (-9)) (i2 := 37) (i3 := 67) (ls2 := [some (.inr (.inr (19, 0))), some (.inl r2.1), some (.inl ((10 * r2.1) + r4.1)), some (.inl r6.1), some (.inl r8.1), some (.inl r10.1)]) (st2 := []) (w2 := r10.2) 1 (fun F h => h) (fun hc12 => ?_) (fun hc12 => ?_)
  · rw [if_pos hc12] at hf
    obtain ⟨hs13, hf⟩ := pm_itn hf
    refine pm_go (i2 := 43) (ls2 := [some (.inr (.inr (19, 0))), some (.inl r2.1), some (.inl ((10 * r2.1) + r4.1)), some (.inl r6.1), some (.inl r8.1), some (.inl r10.1)]) (st2 := []) (w2 := (pm_setI r10.2 24 0 ((r10.2.1 19 0 10).toNatClampNeg) ((10 * r2.1) + r4.1))) 6 (fun F h => ⟨(pm_inb_in hs13), h⟩) ?_
    generalize (pm_setI r10.2 24 0 ((r10.2.1 19 0 10).toNatClampNeg) ((10 * r2.1) + r4.1)) = w14 at hf ⊢
    replace hf := pm_wlet_un hf
    obtain ⟨hs15, hf⟩ := pm_itn hf
    refine pm_go (i2 := 49) (ls2 := [some (.inr (.inr (19, 0))), some (.inl r2.1), some (.inl ((10 * r2.1) + r4.1)), some (.inl r6.1), some (.inl r8.1), some (.inl r10.1)]) (st2 := []) (w2 := (pm_setI w14 25 0 ((w14.1 19 0 10).toNatClampNeg) r6.1)) 6 (fun F h => ⟨(pm_inb_in hs15), h⟩) ?_
    generalize (pm_setI w14 25 0 ((w14.1 19 0 10).toNatClampNeg) r6.1) = w16 at hf ⊢
    replace hf := pm_wlet_un hf
    obtain ⟨hs17, hf⟩ := pm_itn hf
    refine pm_go (i2 := 55) (ls2 := [some (.inr (.inr (19, 0))), some (.inl r2.1), some (.inl ((10 * r2.1) + r4.1)), some (.inl r6.1), some (.inl r8.1), some (.inl r10.1)]) (st2 := []) (w2 := (pm_setI w16 26 0 ((w16.1 19 0 10).toNatClampNeg) r8.1)) 6 (fun F h => ⟨(pm_inb_in hs17), h⟩) ?_
    generalize (pm_setI w16 26 0 ((w16.1 19 0 10).toNatClampNeg) r8.1) = w18 at hf ⊢
    replace hf := pm_wlet_un hf
    obtain ⟨hs19, hf⟩ := pm_itn hf
    refine pm_go (i2 := 61) (ls2 := [some (.inr (.inr (19, 0))), some (.inl r2.1), some (.inl ((10 * r2.1) + r4.1)), some (.inl r6.1), some (.inl r8.1), some (.inl r10.1)]) (st2 := []) (w2 := (pm_setI w18 27 0 ((w18.1 19 0 10).toNatClampNeg) r10.1)) 6 (fun F h => ⟨(pm_inb_in hs19), h⟩) ?_
    generalize (pm_setI w18 27 0 ((w18.1 19 0 10).toNatClampNeg) r10.1) = w20 at hf ⊢
    replace hf := pm_wlet_un hf
    refine pm_go (i2 := 67) (ls2 := [some (.inr (.inr (19, 0))), some (.inl r2.1), some (.inl ((10 * r2.1) + r4.1)), some (.inl r6.1), some (.inl r8.1), some (.inl r10.1)]) (st2 := []) (w2 := (pm_setI w20 19 0 10 ((w20.1 19 0 10) + 1))) 6 (fun F h => h) ?_
    generalize (pm_setI w20 19 0 10 ((w20.1 19 0 10) + 1)) = w21 at hf ⊢
    replace hf := pm_wlet_un hf
    obtain rfl := Option.some.inj hf
    exact pm_re (r := none) (w2 := w21) 1 (fun F h => h) hq
  · rw [if_neg hc12] at hf
    obtain rfl := Option.some.inj hf
    exact pm_re (r := none) (w2 := r10.2) 1 (fun F h => h) hq
set_option maxRecDepth 20000 in
set_option maxHeartbeats 4000000 in
theorem a_X8_readGuest (F : Nat) (w : pm_W) (x : pm_W) (d : Nat) (hd : 4 ≤ d) (hf : f_X8_readGuest F w = some x) : RT d 98 [.inr (.inr (19, 0))] w (none) x := by
  obtain ⟨d, rfl, hd2⟩ := pm_dep hd
  exact pm_start (co := co_X8_readGuest) (nL := 6) (by decide) rfl rfl (Nat.le_of_ble_eq_true rfl) (b_X8_readGuest F d hd2 _ w x hf ⟨rfl, rfl⟩)
def f_X8_readText_L59 (F : Nat) : Nat → pm_W → Int32 → Option (pm_W)
  | 0, _, _ => none
  | n + 1, w, v1 => (if (w.1 19 0 18) = (-9) then (if (w.1 19 0 16) ≤ (w.1 19 0 17) then some w else (if pm_inb (w.1 19 0 17) 40 = true then (if (w.1 28 0 ((w.1 19 0 17).toNatClampNeg)) = 71 then (if 5 ≤ (w.1 19 0 10) then (pm_wlet (pm_setI w 19 0 18 (w.1 19 0 17)) fun w23 => f_X8_readText_L59 F n w23 v1) else (if (w.1 19 0 7) ≤ (w.1 19 0 10) then (pm_wlet (pm_setI w 19 0 18 (w.1 19 0 17)) fun w25 => f_X8_readText_L59 F n w25 v1) else ((f_X8_readGuest F w).bind fun r26 => f_X8_readText_L59 F n r26 v1))) else (pm_wlet (pm_setI w 19 0 18 (w.1 19 0 17)) fun w28 => f_X8_readText_L59 F n w28 v1)) else none)) else some w)
def f_X8_readText (F : Nat) (w : pm_W) : Option ((Int32 × pm_W)) := (pm_wlet (pm_setI w 19 0 17 0) fun w1 => (pm_wlet (pm_setI w1 19 0 18 (-9)) fun w2 => (pm_wlet (pm_setI w2 19 0 10 0) fun w3 => (if (w3.1 19 0 16) = 0 then some (0, w3) else (if (w3.1 28 0 0) = 84 then (pm_wlet (pm_setI w3 19 0 17 1) fun w6 => ((f_X8_figure F w6 0 3).bind fun r7 => ((f_X8_figure F r7.2 (if r7.1 = 0 then 1 else 0 : Int32) (if r7.1 = 3 then 0 else 9 : Int32)).bind fun r9 => (pm_wlet (pm_setI r9.2 19 0 7 ((10 * r7.1) + r9.1)) fun w11 => ((f_X8_figure F w11 1 9).bind fun r12 => (pm_wlet (pm_setI r12.2 19 0 8 r12.1) fun w14 => ((f_X8_figure F w14 1 9).bind fun r15 => (pm_wlet (pm_setI r15.2 19 0 9 r15.1) fun w17 => ((f_X8_readText_L59 F F w17 r7.1).bind fun x29 => some (x29.1 19 0 18, x29)))))))))) else some (0, w3))))))
set_option maxRecDepth 20000 in
set_option maxHeartbeats 4000000 in
theorem a_X8_readText_L59 (F : Nat) (d : Nat) (hd : 4 ≤ d) (Q : pm_Q) : ∀ (n : Nat) (w : pm_W) (v1 : Int32) (x : pm_W), f_X8_readText_L59 F n w v1 = some x → pm_Gx (RT d) co_X8_readText 92 [some (.inr (.inr (19, 0))), some (.inl v1)] [] x Q → pm_Gx (RT d) co_X8_readText 59 [some (.inr (.inr (19, 0))), some (.inl v1)] [] w Q := by
  intro n
  induction n with
  | zero =>
    intro w v1 x hf
    cases hf
  | succ n ih =>
    intro w v1 x hf hk
    rw [f_X8_readText_L59] at hf
    refine pm_go (i2 := 62) (ls2 := [some (.inr (.inr (19, 0))), some (.inl v1)]) (st2 := [.inl (-9), .inl (w.1 19 0 18)]) (w2 := w) 3 (fun F h => h) ?_
    refine pm_if (P := (w.1 19 0 18) = (-9)) (i2 := 63) (i3 := 92) (ls2 := [some (.inr (.inr (19, 0))), some (.inl v1)]) (st2 := []) (w2 := w) 1 (fun F h => h) (fun hc18 => ?_) (fun hc18 => ?_)
    · rw [if_pos hc18] at hf
      refine pm_go (i2 := 67) (ls2 := [some (.inr (.inr (19, 0))), some (.inl v1)]) (st2 := [.inl (w.1 19 0 16), .inl (w.1 19 0 17)]) (w2 := w) 4 (fun F h => h) ?_
      refine pm_if (P := (w.1 19 0 16) ≤ (w.1 19 0 17)) (i2 := 92) (i3 := 68) (ls2 := [some (.inr (.inr (19, 0))), some (.inl v1)]) (st2 := []) (w2 := w) 1 (fun F h => h) (fun hc19 => ?_) (fun hc19 => ?_)
      · rw [if_pos hc19] at hf
        obtain rfl := Option.some.inj hf
        exact hk
      · rw [if_neg hc19] at hf
        obtain ⟨hs20, hf⟩ := pm_itn hf
        refine pm_go (i2 := 74) (ls2 := [some (.inr (.inr (19, 0))), some (.inl v1)]) (st2 := [.inl 71, .inl (w.1 28 0 ((w.1 19 0 17).toNatClampNeg))]) (w2 := w) 6 (fun F h => ⟨(pm_inb_in hs20), h⟩) ?_
        refine pm_if (P := (w.1 28 0 ((w.1 19 0 17).toNatClampNeg)) = 71) (i2 := 75) (i3 := 87) (ls2 := [some (.inr (.inr (19, 0))), some (.inl v1)]) (st2 := []) (w2 := w) 1 (fun F h => h) (fun hc21 => ?_) (fun hc21 => ?_)
        · rw [if_pos hc21] at hf
          refine pm_go (i2 := 78) (ls2 := [some (.inr (.inr (19, 0))), some (.inl v1)]) (st2 := [.inl 5, .inl (w.1 19 0 10)]) (w2 := w) 3 (fun F h => h) ?_
          refine pm_if (P := 5 ≤ (w.1 19 0 10)) (i2 := 87) (i3 := 79) (ls2 := [some (.inr (.inr (19, 0))), some (.inl v1)]) (st2 := []) (w2 := w) 1 (fun F h => h) (fun hc22 => ?_) (fun hc22 => ?_)
          · rw [if_pos hc22] at hf
            refine pm_go (i2 := 91) (ls2 := [some (.inr (.inr (19, 0))), some (.inl v1)]) (st2 := []) (w2 := (pm_setI w 19 0 18 (w.1 19 0 17))) 4 (fun F h => h) ?_
            generalize (pm_setI w 19 0 18 (w.1 19 0 17)) = w23 at hf ⊢
            replace hf := pm_wlet_un hf
            refine pm_go (i2 := 59) (ls2 := [some (.inr (.inr (19, 0))), some (.inl v1)]) (st2 := []) (w2 := w23) 1 (fun F h => h) ?_
            exact ih w23 v1 _ hf hk
          · rw [if_neg hc22] at hf
            refine pm_go (i2 := 83) (ls2 := [some (.inr (.inr (19, 0))), some (.inl v1)]) (st2 := [.inl (w.1 19 0 7), .inl (w.1 19 0 10)]) (w2 := w) 4 (fun F h => h) ?_
            refine pm_if (P := (w.1 19 0 7) ≤ (w.1 19 0 10)) (i2 := 87) (i3 := 84) (ls2 := [some (.inr (.inr (19, 0))), some (.inl v1)]) (st2 := []) (w2 := w) 1 (fun F h => h) (fun hc24 => ?_) (fun hc24 => ?_)
            · rw [if_pos hc24] at hf
              refine pm_go (i2 := 91) (ls2 := [some (.inr (.inr (19, 0))), some (.inl v1)]) (st2 := []) (w2 := (pm_setI w 19 0 18 (w.1 19 0 17))) 4 (fun F h => h) ?_
              generalize (pm_setI w 19 0 18 (w.1 19 0 17)) = w25 at hf ⊢
              replace hf := pm_wlet_un hf
              refine pm_go (i2 := 59) (ls2 := [some (.inr (.inr (19, 0))), some (.inl v1)]) (st2 := []) (w2 := w25) 1 (fun F h => h) ?_
              exact ih w25 v1 _ hf hk
            · rw [if_neg hc24] at hf
              refine pm_go (i2 := 85) (ls2 := [some (.inr (.inr (19, 0))), some (.inl v1)]) (st2 := [.inr (.inr (19, 0))]) (w2 := w) 1 (fun F h => h) ?_
              obtain ⟨r26, hr27, hf⟩ := Option.bind_eq_some_iff.mp hf
              refine pm_ca (y := 98) (as := [.inr (.inr (19, 0))]) (r := none) (w2 := w) (w1 := r26) (t := []) (i2 := 86) (ls2 := [some (.inr (.inr (19, 0))), some (.inl v1)]) 1 (a_X8_readGuest F w r26 d (by omega) hr27) (fun F h => h) ?_
              show pm_Gx (RT d) co_X8_readText 86 [some (.inr (.inr (19, 0))), some (.inl v1)] [] r26 Q
              refine pm_go (i2 := 59) (ls2 := [some (.inr (.inr (19, 0))), some (.inl v1)]) (st2 := []) (w2 := r26) 1 (fun F h => h) ?_
              exact ih r26 v1 _ hf hk
        · rw [if_neg hc21] at hf
          refine pm_go (i2 := 91) (ls2 := [some (.inr (.inr (19, 0))), some (.inl v1)]) (st2 := []) (w2 := (pm_setI w 19 0 18 (w.1 19 0 17))) 4 (fun F h => h) ?_
          generalize (pm_setI w 19 0 18 (w.1 19 0 17)) = w28 at hf ⊢
          replace hf := pm_wlet_un hf
          refine pm_go (i2 := 59) (ls2 := [some (.inr (.inr (19, 0))), some (.inl v1)]) (st2 := []) (w2 := w28) 1 (fun F h => h) ?_
          exact ih w28 v1 _ hf hk
    · rw [if_neg hc18] at hf
      obtain rfl := Option.some.inj hf
      exact hk
set_option maxRecDepth 20000 in
set_option maxHeartbeats 4000000 in
theorem b_X8_readText (F : Nat) (d : Nat) (hd : 4 ≤ d) (Q : pm_Q) (w : pm_W) (x : (Int32 × pm_W)) (hf : f_X8_readText F w = some x) (hq : Q (some (.inl x.1)) x.2) : pm_Gx (RT d) co_X8_readText 0 [some (.inr (.inr (19, 0))), none] [] w Q := by
  unfold f_X8_readText at hf
  refine pm_go (i2 := 3) (ls2 := [some (.inr (.inr (19, 0))), none]) (st2 := []) (w2 := (pm_setI w 19 0 17 0)) 3 (fun F h => h) ?_
  generalize (pm_setI w 19 0 17 0) = w1 at hf ⊢
  replace hf := pm_wlet_un hf
  refine pm_go (i2 := 6) (ls2 := [some (.inr (.inr (19, 0))), none]) (st2 := []) (w2 := (pm_setI w1 19 0 18 (-9))) 3 (fun F h => h) ?_
  generalize (pm_setI w1 19 0 18 (-9)) = w2 at hf ⊢
  replace hf := pm_wlet_un hf
  refine pm_go (i2 := 9) (ls2 := [some (.inr (.inr (19, 0))), none]) (st2 := []) (w2 := (pm_setI w2 19 0 10 0)) 3 (fun F h => h) ?_
  generalize (pm_setI w2 19 0 10 0) = w3 at hf ⊢
  replace hf := pm_wlet_un hf
  refine pm_go (i2 := 11) (ls2 := [some (.inr (.inr (19, 0))), none]) (st2 := [.inl (w3.1 19 0 16)]) (w2 := w3) 2 (fun F h => h) ?_
  refine pm_if (P := (w3.1 19 0 16) = 0) (i2 := 18) (i3 := 12) (ls2 := [some (.inr (.inr (19, 0))), none]) (st2 := []) (w2 := w3) 1 (fun F h => h) (fun hc4 => ?_) (fun hc4 => ?_)
  · rw [if_pos hc4] at hf
    refine pm_go (i2 := 19) (ls2 := [some (.inr (.inr (19, 0))), none]) (st2 := [.inl 0]) (w2 := w3) 1 (fun F h => h) ?_
    obtain rfl := Option.some.inj hf
    exact pm_re (r := some (.inl 0)) (w2 := w3) 1 (fun F h => h) hq
  · rw [if_neg hc4] at hf
    refine pm_go (i2 := 17) (ls2 := [some (.inr (.inr (19, 0))), none]) (st2 := [.inl 84, .inl (w3.1 28 0 0)]) (w2 := w3) 5 (fun F h => ⟨(pm_inb_in (by decide)), h⟩) ?_
    refine pm_if (P := (w3.1 28 0 0) = 84) (i2 := 20) (i3 := 18) (ls2 := [some (.inr (.inr (19, 0))), none]) (st2 := []) (w2 := w3) 1 (fun F h => h) (fun hc5 => ?_) (fun hc5 => ?_)
    · rw [if_pos hc5] at hf
      refine pm_go (i2 := 23) (ls2 := [some (.inr (.inr (19, 0))), none]) (st2 := []) (w2 := (pm_setI w3 19 0 17 1)) 3 (fun F h => h) ?_
      generalize (pm_setI w3 19 0 17 1) = w6 at hf ⊢
      replace hf := pm_wlet_un hf
      refine pm_go (i2 := 26) (ls2 := [some (.inr (.inr (19, 0))), none]) (st2 := [.inl 3, .inl 0, .inr (.inr (19, 0))]) (w2 := w6) 3 (fun F h => h) ?_
      obtain ⟨r7, hr8, hf⟩ := Option.bind_eq_some_iff.mp hf
      refine pm_ca (y := 93) (as := [.inr (.inr (19, 0)), .inl 0, .inl 3]) (r := some (.inl r7.1)) (w2 := w6) (w1 := r7.2) (t := []) (i2 := 27) (ls2 := [some (.inr (.inr (19, 0))), none]) 1 (a_X8_figure F w6 0 3 r7 d (by omega) hr8) (fun F h => h) ?_
      show pm_Gx (RT d) co_X8_readText 27 [some (.inr (.inr (19, 0))), none] [.inl r7.1] r7.2 Q
      refine pm_go (i2 := 34) (ls2 := [some (.inr (.inr (19, 0))), some (.inl r7.1)]) (st2 := [.inl r7.1, .inr (.inr (19, 0)), .inl (10 * r7.1), .inr (.inr (19, 0))]) (w2 := r7.2) 7 (fun F h => h) ?_
      have key : pm_Gx (RT d) co_X8_readText 38 [some (.inr (.inr (19, 0))), some (.inl r7.1)] [.inl (if r7.1 = 0 then 1 else 0 : Int32), .inr (.inr (19, 0)), .inl (10 * r7.1), .inr (.inr (19, 0))] r7.2 Q := by
        refine pm_go (i2 := 40) (ls2 := [some (.inr (.inr (19, 0))), some (.inl r7.1)]) (st2 := [.inl 3, .inl r7.1, .inl (if r7.1 = 0 then 1 else 0 : Int32), .inr (.inr (19, 0)), .inl (10 * r7.1), .inr (.inr (19, 0))]) (w2 := r7.2) 2 (fun F h => h) ?_
        have key : pm_Gx (RT d) co_X8_readText 44 [some (.inr (.inr (19, 0))), some (.inl r7.1)] [.inl (if r7.1 = 3 then 0 else 9 : Int32), .inl (if r7.1 = 0 then 1 else 0 : Int32), .inr (.inr (19, 0)), .inl (10 * r7.1), .inr (.inr (19, 0))] r7.2 Q := by
          obtain ⟨r9, hr10, hf⟩ := Option.bind_eq_some_iff.mp hf
          refine pm_ca (y := 93) (as := [.inr (.inr (19, 0)), .inl (if r7.1 = 0 then 1 else 0 : Int32), .inl (if r7.1 = 3 then 0 else 9 : Int32)]) (r := some (.inl r9.1)) (w2 := r7.2) (w1 := r9.2) (t := [.inl (10 * r7.1), .inr (.inr (19, 0))]) (i2 := 45) (ls2 := [some (.inr (.inr (19, 0))), some (.inl r7.1)]) 1 (a_X8_figure F r7.2 (if r7.1 = 0 then 1 else 0 : Int32) (if r7.1 = 3 then 0 else 9 : Int32) r9 d (by omega) hr10) (fun F h => h) ?_
          show pm_Gx (RT d) co_X8_readText 45 [some (.inr (.inr (19, 0))), some (.inl r7.1)] [.inl r9.1, .inl (10 * r7.1), .inr (.inr (19, 0))] r9.2 Q
          refine pm_go (i2 := 47) (ls2 := [some (.inr (.inr (19, 0))), some (.inl r7.1)]) (st2 := []) (w2 := (pm_setI r9.2 19 0 7 ((10 * r7.1) + r9.1))) 2 (fun F h => h) ?_
          generalize (pm_setI r9.2 19 0 7 ((10 * r7.1) + r9.1)) = w11 at hf ⊢
          replace hf := pm_wlet_un hf
          refine pm_go (i2 := 51) (ls2 := [some (.inr (.inr (19, 0))), some (.inl r7.1)]) (st2 := [.inl 9, .inl 1, .inr (.inr (19, 0)), .inr (.inr (19, 0))]) (w2 := w11) 4 (fun F h => h) ?_
          obtain ⟨r12, hr13, hf⟩ := Option.bind_eq_some_iff.mp hf
          refine pm_ca (y := 93) (as := [.inr (.inr (19, 0)), .inl 1, .inl 9]) (r := some (.inl r12.1)) (w2 := w11) (w1 := r12.2) (t := [.inr (.inr (19, 0))]) (i2 := 52) (ls2 := [some (.inr (.inr (19, 0))), some (.inl r7.1)]) 1 (a_X8_figure F w11 1 9 r12 d (by omega) hr13) (fun F h => h) ?_
          show pm_Gx (RT d) co_X8_readText 52 [some (.inr (.inr (19, 0))), some (.inl r7.1)] [.inl r12.1, .inr (.inr (19, 0))] r12.2 Q
          refine pm_go (i2 := 53) (ls2 := [some (.inr (.inr (19, 0))), some (.inl r7.1)]) (st2 := []) (w2 := (pm_setI r12.2 19 0 8 r12.1)) 1 (fun F h => h) ?_
          generalize (pm_setI r12.2 19 0 8 r12.1) = w14 at hf ⊢
          replace hf := pm_wlet_un hf
          refine pm_go (i2 := 57) (ls2 := [some (.inr (.inr (19, 0))), some (.inl r7.1)]) (st2 := [.inl 9, .inl 1, .inr (.inr (19, 0)), .inr (.inr (19, 0))]) (w2 := w14) 4 (fun F h => h) ?_
          obtain ⟨r15, hr16, hf⟩ := Option.bind_eq_some_iff.mp hf
          refine pm_ca (y := 93) (as := [.inr (.inr (19, 0)), .inl 1, .inl 9]) (r := some (.inl r15.1)) (w2 := w14) (w1 := r15.2) (t := [.inr (.inr (19, 0))]) (i2 := 58) (ls2 := [some (.inr (.inr (19, 0))), some (.inl r7.1)]) 1 (a_X8_figure F w14 1 9 r15 d (by omega) hr16) (fun F h => h) ?_
          show pm_Gx (RT d) co_X8_readText 58 [some (.inr (.inr (19, 0))), some (.inl r7.1)] [.inl r15.1, .inr (.inr (19, 0))] r15.2 Q
          refine pm_go (i2 := 59) (ls2 := [some (.inr (.inr (19, 0))), some (.inl r7.1)]) (st2 := []) (w2 := (pm_setI r15.2 19 0 9 r15.1)) 1 (fun F h => h) ?_
          generalize (pm_setI r15.2 19 0 9 r15.1) = w17 at hf ⊢
          replace hf := pm_wlet_un hf
          obtain ⟨x29, hx30, hf⟩ := Option.bind_eq_some_iff.mp hf
          refine a_X8_readText_L59 F d hd Q F w17 r7.1 x29 hx30 ?_
          refine pm_go (i2 := 94) (ls2 := [some (.inr (.inr (19, 0))), some (.inl r7.1)]) (st2 := [.inl (x29.1 19 0 18)]) (w2 := x29) 2 (fun F h => h) ?_
          obtain rfl := Option.some.inj hf
          exact pm_re (r := some (.inl (x29.1 19 0 18))) (w2 := x29) 1 (fun F h => h) hq
        clear hf
        refine pm_if (P := r7.1 = 3) (i2 := 41) (i3 := 43) (ls2 := [some (.inr (.inr (19, 0))), some (.inl r7.1)]) (st2 := [.inl (if r7.1 = 0 then 1 else 0 : Int32), .inr (.inr (19, 0)), .inl (10 * r7.1), .inr (.inr (19, 0))]) (w2 := r7.2) 1 (fun F h => h) (fun hc31 => ?_) (fun hc31 => ?_)
        · try simp only [if_pos hc31] at key
          refine pm_go (i2 := 44) (ls2 := [some (.inr (.inr (19, 0))), some (.inl r7.1)]) (st2 := [.inl 0, .inl (if r7.1 = 0 then 1 else 0 : Int32), .inr (.inr (19, 0)), .inl (10 * r7.1), .inr (.inr (19, 0))]) (w2 := r7.2) 2 (fun F h => h) ?_
          exact key
        · try simp only [if_neg hc31] at key
          refine pm_go (i2 := 44) (ls2 := [some (.inr (.inr (19, 0))), some (.inl r7.1)]) (st2 := [.inl 9, .inl (if r7.1 = 0 then 1 else 0 : Int32), .inr (.inr (19, 0)), .inl (10 * r7.1), .inr (.inr (19, 0))]) (w2 := r7.2) 1 (fun F h => h) ?_
          exact key
      clear hf
      refine pm_if (P := r7.1 = 0) (i2 := 35) (i3 := 37) (ls2 := [some (.inr (.inr (19, 0))), some (.inl r7.1)]) (st2 := [.inr (.inr (19, 0)), .inl (10 * r7.1), .inr (.inr (19, 0))]) (w2 := r7.2) 1 (fun F h => h) (fun hc32 => ?_) (fun hc32 => ?_)
      · try simp only [if_pos hc32] at key
        refine pm_go (i2 := 38) (ls2 := [some (.inr (.inr (19, 0))), some (.inl r7.1)]) (st2 := [.inl 1, .inr (.inr (19, 0)), .inl (10 * r7.1), .inr (.inr (19, 0))]) (w2 := r7.2) 2 (fun F h => h) ?_
        exact key
      · try simp only [if_neg hc32] at key
        refine pm_go (i2 := 38) (ls2 := [some (.inr (.inr (19, 0))), some (.inl r7.1)]) (st2 := [.inl 0, .inr (.inr (19, 0)), .inl (10 * r7.1), .inr (.inr (19, 0))]) (w2 := r7.2) 1 (fun F h => h) ?_
        exact key
    · rw [if_neg hc5] at hf
      refine pm_go (i2 := 19) (ls2 := [some (.inr (.inr (19, 0))), none]) (st2 := [.inl 0]) (w2 := w3) 1 (fun F h => h) ?_
      obtain rfl := Option.some.inj hf
      exact pm_re (r := some (.inl 0)) (w2 := w3) 1 (fun F h => h) hq
set_option maxRecDepth 20000 in
set_option maxHeartbeats 4000000 in
theorem a_X8_readText (F : Nat) (w : pm_W) (x : (Int32 × pm_W)) (d : Nat) (hd : 5 ≤ d) (hf : f_X8_readText F w = some x) : RT d 97 [.inr (.inr (19, 0))] w (some (.inl x.1)) x.2 := by
  obtain ⟨d, rfl, hd2⟩ := pm_dep hd
  exact pm_start (co := co_X8_readText) (nL := 2) (by decide) rfl rfl (Nat.le_of_ble_eq_true rfl) (b_X8_readText F d hd2 _ w x hf ⟨rfl, rfl⟩)
def f_X8_fault (F : Nat) (w : pm_W) : Option ((Int32 × pm_W)) := ((f_X8_readText F w).bind fun r1 => some (r1.1, r1.2))
set_option maxRecDepth 20000 in
set_option maxHeartbeats 4000000 in
theorem b_X8_fault (F : Nat) (d : Nat) (hd : 5 ≤ d) (Q : pm_Q) (w : pm_W) (x : (Int32 × pm_W)) (hf : f_X8_fault F w = some x) (hq : Q (some (.inl x.1)) x.2) : pm_Gx (RT d) co_X8_fault 0 [some (.inr (.inr (19, 0)))] [] w Q := by
  unfold f_X8_fault at hf
  refine pm_go (i2 := 1) (ls2 := [some (.inr (.inr (19, 0)))]) (st2 := [.inr (.inr (19, 0))]) (w2 := w) 1 (fun F h => h) ?_
  obtain ⟨r1, hr2, hf⟩ := Option.bind_eq_some_iff.mp hf
  refine pm_ca (y := 97) (as := [.inr (.inr (19, 0))]) (r := some (.inl r1.1)) (w2 := w) (w1 := r1.2) (t := []) (i2 := 2) (ls2 := [some (.inr (.inr (19, 0)))]) 1 (a_X8_readText F w r1 d (by omega) hr2) (fun F h => h) ?_
  show pm_Gx (RT d) co_X8_fault 2 [some (.inr (.inr (19, 0)))] [.inl r1.1] r1.2 Q
  obtain rfl := Option.some.inj hf
  exact pm_re (r := some (.inl r1.1)) (w2 := r1.2) 1 (fun F h => h) hq
set_option maxRecDepth 20000 in
set_option maxHeartbeats 4000000 in
theorem a_X8_fault (F : Nat) (w : pm_W) (x : (Int32 × pm_W)) (d : Nat) (hd : 6 ≤ d) (hf : f_X8_fault F w = some x) : RT d 99 [.inr (.inr (19, 0))] w (some (.inl x.1)) x.2 := by
  obtain ⟨d, rfl, hd2⟩ := pm_dep hd
  exact pm_start (co := co_X8_fault) (nL := 1) (by decide) rfl rfl (Nat.le_of_ble_eq_true rfl) (b_X8_fault F d hd2 _ w x hf ⟨rfl, rfl⟩)
def f_X8_lay_L20 (F : Nat) : Nat → pm_W → Int32 → Option (Int32 × pm_W)
  | 0, _, _ => none
  | n + 1, w, v1 => (if 5 ≤ v1 then some (v1, w) else (if pm_inb v1 5 = true then (if pm_inb v1 5 = true then (pm_wlet (pm_setI w 20 0 v1.toNatClampNeg (w.1 25 0 v1.toNatClampNeg)) fun w10 => (if pm_inb v1 5 = true then (if pm_inb v1 5 = true then (pm_wlet (pm_setI w10 21 0 v1.toNatClampNeg (w10.1 26 0 v1.toNatClampNeg)) fun w13 => (if pm_inb v1 5 = true then (if pm_inb v1 5 = true then (pm_wlet (pm_setI w13 22 0 v1.toNatClampNeg (w13.1 27 0 v1.toNatClampNeg)) fun w16 => (if pm_inb v1 5 = true then (if pm_inb v1 18 = true then (pm_wlet (pm_setI w16 23 0 v1.toNatClampNeg (w16.1 24 0 v1.toNatClampNeg)) fun w19 => f_X8_lay_L20 F n w19 (v1 + 1)) else none) else none)) else none) else none)) else none) else none)) else none) else none))
def f_X8_lay (F : Nat) (w : pm_W) : Option ((Int32 × pm_W)) := ((f_X8_readText F w).bind fun r1 => (if r1.1 = (-9) then (pm_wlet (pm_setI r1.2 19 0 0 (r1.2.1 19 0 10)) fun w4 => (pm_wlet (pm_setI w4 19 0 1 (w4.1 19 0 8)) fun w5 => (pm_wlet (pm_setI w5 19 0 2 (w5.1 19 0 9)) fun w6 => ((f_X8_lay_L20 F F w6 0).bind fun x20 => (pm_wlet (pm_setI x20.2 23 0 5 (x20.2.1 19 0 7)) fun w22 => (pm_wlet (pm_setI w22 23 0 6 0) fun w23 => (pm_wlet (pm_setI w23 23 0 7 (w23.1 19 0 1)) fun w24 => (pm_wlet (pm_setI w24 23 0 8 0) fun w25 => (pm_wlet (pm_setI w25 19 0 19 0) fun w26 => (pm_wlet (pm_setI w26 34 0 0 (vp_nar .boolean 0)) fun w27 => (pm_wlet (pm_setI w27 34 0 1 (vp_nar .boolean 0)) fun w28 => some (w28.1 19 0 0, w28)))))))))))) else some ((-3), r1.2)))
set_option maxRecDepth 20000 in
set_option maxHeartbeats 4000000 in
theorem a_X8_lay_L20 (F : Nat) (d : Nat) (hd : 5 ≤ d) (Q : pm_Q) : ∀ (n : Nat) (w : pm_W) (v1 : Int32) (x : Int32 × pm_W), f_X8_lay_L20 F n w v1 = some x → pm_Gx (RT d) co_X8_lay 57 [some (.inr (.inr (19, 0))), some (.inl x.1)] [] x.2 Q → pm_Gx (RT d) co_X8_lay 20 [some (.inr (.inr (19, 0))), some (.inl v1)] [] w Q := by
  intro n
  induction n with
  | zero =>
    intro w v1 x hf
    cases hf
  | succ n ih =>
    intro w v1 x hf hk
    rw [f_X8_lay_L20] at hf
    refine pm_go (i2 := 22) (ls2 := [some (.inr (.inr (19, 0))), some (.inl v1)]) (st2 := [.inl 5, .inl v1]) (w2 := w) 2 (fun F h => h) ?_
    refine pm_if (P := 5 ≤ v1) (i2 := 57) (i3 := 23) (ls2 := [some (.inr (.inr (19, 0))), some (.inl v1)]) (st2 := []) (w2 := w) 1 (fun F h => h) (fun hc7 => ?_) (fun hc7 => ?_)
    · rw [if_pos hc7] at hf
      obtain rfl := Option.some.inj hf
      exact hk
    · rw [if_neg hc7] at hf
      obtain ⟨hs8, hf⟩ := pm_itn hf
      obtain ⟨hs9, hf⟩ := pm_itn hf
      refine pm_go (i2 := 31) (ls2 := [some (.inr (.inr (19, 0))), some (.inl v1)]) (st2 := []) (w2 := (pm_setI w 20 0 v1.toNatClampNeg (w.1 25 0 v1.toNatClampNeg))) 8 (fun F h => ⟨(pm_inb_in hs8), (pm_inb_in hs9), h⟩) ?_
      generalize (pm_setI w 20 0 v1.toNatClampNeg (w.1 25 0 v1.toNatClampNeg)) = w10 at hf ⊢
      replace hf := pm_wlet_un hf
      obtain ⟨hs11, hf⟩ := pm_itn hf
      obtain ⟨hs12, hf⟩ := pm_itn hf
      refine pm_go (i2 := 39) (ls2 := [some (.inr (.inr (19, 0))), some (.inl v1)]) (st2 := []) (w2 := (pm_setI w10 21 0 v1.toNatClampNeg (w10.1 26 0 v1.toNatClampNeg))) 8 (fun F h => ⟨(pm_inb_in hs11), (pm_inb_in hs12), h⟩) ?_
      generalize (pm_setI w10 21 0 v1.toNatClampNeg (w10.1 26 0 v1.toNatClampNeg)) = w13 at hf ⊢
      replace hf := pm_wlet_un hf
      obtain ⟨hs14, hf⟩ := pm_itn hf
      obtain ⟨hs15, hf⟩ := pm_itn hf
      refine pm_go (i2 := 47) (ls2 := [some (.inr (.inr (19, 0))), some (.inl v1)]) (st2 := []) (w2 := (pm_setI w13 22 0 v1.toNatClampNeg (w13.1 27 0 v1.toNatClampNeg))) 8 (fun F h => ⟨(pm_inb_in hs14), (pm_inb_in hs15), h⟩) ?_
      generalize (pm_setI w13 22 0 v1.toNatClampNeg (w13.1 27 0 v1.toNatClampNeg)) = w16 at hf ⊢
      replace hf := pm_wlet_un hf
      obtain ⟨hs17, hf⟩ := pm_itn hf
      obtain ⟨hs18, hf⟩ := pm_itn hf
      refine pm_go (i2 := 55) (ls2 := [some (.inr (.inr (19, 0))), some (.inl v1)]) (st2 := []) (w2 := (pm_setI w16 23 0 v1.toNatClampNeg (w16.1 24 0 v1.toNatClampNeg))) 8 (fun F h => ⟨(pm_inb_in hs17), (pm_inb_in hs18), h⟩) ?_
      generalize (pm_setI w16 23 0 v1.toNatClampNeg (w16.1 24 0 v1.toNatClampNeg)) = w19 at hf ⊢
      replace hf := pm_wlet_un hf
      refine pm_go (i2 := 20) (ls2 := [some (.inr (.inr (19, 0))), some (.inl (v1 + 1))]) (st2 := []) (w2 := w19) 2 (fun F h => h) ?_
      exact ih w19 (v1 + 1) _ hf hk
set_option maxRecDepth 20000 in
set_option maxHeartbeats 4000000 in
theorem b_X8_lay (F : Nat) (d : Nat) (hd : 5 ≤ d) (Q : pm_Q) (w : pm_W) (x : (Int32 × pm_W)) (hf : f_X8_lay F w = some x) (hq : Q (some (.inl x.1)) x.2) : pm_Gx (RT d) co_X8_lay 0 [some (.inr (.inr (19, 0))), none] [] w Q := by
  unfold f_X8_lay at hf
  refine pm_go (i2 := 1) (ls2 := [some (.inr (.inr (19, 0))), none]) (st2 := [.inr (.inr (19, 0))]) (w2 := w) 1 (fun F h => h) ?_
  obtain ⟨r1, hr2, hf⟩ := Option.bind_eq_some_iff.mp hf
  refine pm_ca (y := 97) (as := [.inr (.inr (19, 0))]) (r := some (.inl r1.1)) (w2 := w) (w1 := r1.2) (t := []) (i2 := 2) (ls2 := [some (.inr (.inr (19, 0))), none]) 1 (a_X8_readText F w r1 d (by omega) hr2) (fun F h => h) ?_
  show pm_Gx (RT d) co_X8_lay 2 [some (.inr (.inr (19, 0))), none] [.inl r1.1] r1.2 Q
  refine pm_go (i2 := 3) (ls2 := [some (.inr (.inr (19, 0))), none]) (st2 := [.inl (-9), .inl r1.1]) (w2 := r1.2) 1 (fun F h => h) ?_
  refine pm_if (P := r1.1 = (-9)) (i2 := 6) (i3 := 4) (ls2 := [some (.inr (.inr (19, 0))), none]) (st2 := []) (w2 := r1.2) 1 (fun F h => h) (fun hc3 => ?_) (fun hc3 => ?_)
  · rw [if_pos hc3] at hf
    refine pm_go (i2 := 10) (ls2 := [some (.inr (.inr (19, 0))), none]) (st2 := []) (w2 := (pm_setI r1.2 19 0 0 (r1.2.1 19 0 10))) 4 (fun F h => h) ?_
    generalize (pm_setI r1.2 19 0 0 (r1.2.1 19 0 10)) = w4 at hf ⊢
    replace hf := pm_wlet_un hf
    refine pm_go (i2 := 14) (ls2 := [some (.inr (.inr (19, 0))), none]) (st2 := []) (w2 := (pm_setI w4 19 0 1 (w4.1 19 0 8))) 4 (fun F h => h) ?_
    generalize (pm_setI w4 19 0 1 (w4.1 19 0 8)) = w5 at hf ⊢
    replace hf := pm_wlet_un hf
    refine pm_go (i2 := 18) (ls2 := [some (.inr (.inr (19, 0))), none]) (st2 := []) (w2 := (pm_setI w5 19 0 2 (w5.1 19 0 9))) 4 (fun F h => h) ?_
    generalize (pm_setI w5 19 0 2 (w5.1 19 0 9)) = w6 at hf ⊢
    replace hf := pm_wlet_un hf
    refine pm_go (i2 := 20) (ls2 := [some (.inr (.inr (19, 0))), some (.inl 0)]) (st2 := []) (w2 := w6) 2 (fun F h => h) ?_
    obtain ⟨x20, hx21, hf⟩ := Option.bind_eq_some_iff.mp hf
    refine a_X8_lay_L20 F d hd Q F w6 0 x20 hx21 ?_
    refine pm_go (i2 := 63) (ls2 := [some (.inr (.inr (19, 0))), some (.inl x20.1)]) (st2 := []) (w2 := (pm_setI x20.2 23 0 5 (x20.2.1 19 0 7))) 6 (fun F h => ⟨(pm_inb_in (by decide)), h⟩) ?_
    generalize (pm_setI x20.2 23 0 5 (x20.2.1 19 0 7)) = w22 at hf ⊢
    replace hf := pm_wlet_un hf
    refine pm_go (i2 := 68) (ls2 := [some (.inr (.inr (19, 0))), some (.inl x20.1)]) (st2 := []) (w2 := (pm_setI w22 23 0 6 0)) 5 (fun F h => ⟨(pm_inb_in (by decide)), h⟩) ?_
    generalize (pm_setI w22 23 0 6 0) = w23 at hf ⊢
    replace hf := pm_wlet_un hf
    refine pm_go (i2 := 74) (ls2 := [some (.inr (.inr (19, 0))), some (.inl x20.1)]) (st2 := []) (w2 := (pm_setI w23 23 0 7 (w23.1 19 0 1))) 6 (fun F h => ⟨(pm_inb_in (by decide)), h⟩) ?_
    generalize (pm_setI w23 23 0 7 (w23.1 19 0 1)) = w24 at hf ⊢
    replace hf := pm_wlet_un hf
    refine pm_go (i2 := 79) (ls2 := [some (.inr (.inr (19, 0))), some (.inl x20.1)]) (st2 := []) (w2 := (pm_setI w24 23 0 8 0)) 5 (fun F h => ⟨(pm_inb_in (by decide)), h⟩) ?_
    generalize (pm_setI w24 23 0 8 0) = w25 at hf ⊢
    replace hf := pm_wlet_un hf
    refine pm_go (i2 := 82) (ls2 := [some (.inr (.inr (19, 0))), some (.inl x20.1)]) (st2 := []) (w2 := (pm_setI w25 19 0 19 0)) 3 (fun F h => h) ?_
    generalize (pm_setI w25 19 0 19 0) = w26 at hf ⊢
    replace hf := pm_wlet_un hf
    refine pm_go (i2 := 87) (ls2 := [some (.inr (.inr (19, 0))), some (.inl x20.1)]) (st2 := []) (w2 := (pm_setI w26 34 0 0 (vp_nar .boolean 0))) 5 (fun F h => ⟨(pm_inb_in (by decide)), h⟩) ?_
    generalize (pm_setI w26 34 0 0 (vp_nar .boolean 0)) = w27 at hf ⊢
    replace hf := pm_wlet_un hf
    refine pm_go (i2 := 92) (ls2 := [some (.inr (.inr (19, 0))), some (.inl x20.1)]) (st2 := []) (w2 := (pm_setI w27 34 0 1 (vp_nar .boolean 0))) 5 (fun F h => ⟨(pm_inb_in (by decide)), h⟩) ?_
    generalize (pm_setI w27 34 0 1 (vp_nar .boolean 0)) = w28 at hf ⊢
    replace hf := pm_wlet_un hf
    refine pm_go (i2 := 94) (ls2 := [some (.inr (.inr (19, 0))), some (.inl x20.1)]) (st2 := [.inl (w28.1 19 0 0)]) (w2 := w28) 2 (fun F h => h) ?_
    obtain rfl := Option.some.inj hf
    exact pm_re (r := some (.inl (w28.1 19 0 0))) (w2 := w28) 1 (fun F h => h) hq
  · rw [if_neg hc3] at hf
    refine pm_go (i2 := 5) (ls2 := [some (.inr (.inr (19, 0))), none]) (st2 := [.inl (-3)]) (w2 := r1.2) 1 (fun F h => h) ?_
    obtain rfl := Option.some.inj hf
    exact pm_re (r := some (.inl (-3))) (w2 := r1.2) 1 (fun F h => h) hq
set_option maxRecDepth 20000 in
set_option maxHeartbeats 4000000 in
theorem a_X8_lay (F : Nat) (w : pm_W) (x : (Int32 × pm_W)) (d : Nat) (hd : 6 ≤ d) (hf : f_X8_lay F w = some x) : RT d 100 [.inr (.inr (19, 0))] w (some (.inl x.1)) x.2 := by
  obtain ⟨d, rfl, hd2⟩ := pm_dep hd
  exact pm_start (co := co_X8_lay) (nL := 2) (by decide) rfl rfl (Nat.le_of_ble_eq_true rfl) (b_X8_lay F d hd2 _ w x hf ⟨rfl, rfl⟩)
def f_X8_isGuest (F : Nat) (w : pm_W) (a1 : Int32) : Option (Int32) := ((f_X8_in F w a1.toInt64 0 (((w.1 19 0 0) - 1).toInt64)).bind fun r1 => (if pm_isb r1 = true then some r1 else none))
set_option maxRecDepth 20000 in
set_option maxHeartbeats 4000000 in
theorem b_X8_isGuest (F : Nat) (d : Nat) (hd : 1 ≤ d) (Q : pm_Q) (w : pm_W) (a1 : Int32) (x : Int32) (hf : f_X8_isGuest F w a1 = some x) (hq : Q (some (.inl x)) w) : pm_Gx (RT d) co_X8_isGuest 0 [some (.inr (.inr (19, 0))), some (.inl a1)] [] w Q := by
  unfold f_X8_isGuest at hf
  refine pm_go (i2 := 8) (ls2 := [some (.inr (.inr (19, 0))), some (.inl a1)]) (st2 := [.inr (.inl (((w.1 19 0 0) - 1).toInt64)), .inr (.inl 0), .inr (.inl a1.toInt64)]) (w2 := w) 8 (fun F h => h) ?_
  obtain ⟨r1, hr2, hf⟩ := Option.bind_eq_some_iff.mp hf
  refine pm_ca (y := 88) (as := [.inr (.inl a1.toInt64), .inr (.inl 0), .inr (.inl (((w.1 19 0 0) - 1).toInt64))]) (r := some (.inl r1)) (w2 := w) (w1 := w) (t := []) (i2 := 9) (ls2 := [some (.inr (.inr (19, 0))), some (.inl a1)]) 1 (a_X8_in F w a1.toInt64 0 (((w.1 19 0 0) - 1).toInt64) r1 d (by omega) hr2) (fun F h => h) ?_
  show pm_Gx (RT d) co_X8_isGuest 9 [some (.inr (.inr (19, 0))), some (.inl a1)] [.inl r1] w Q
  obtain ⟨hz3, hf⟩ := pm_itn hf
  obtain rfl := Option.some.inj hf
  exact pm_re (r := some (.inl r1)) (w2 := w) 1 (fun F h => ⟨pm_isb_nar hz3, h⟩) hq
set_option maxRecDepth 20000 in
set_option maxHeartbeats 4000000 in
theorem a_X8_isGuest (F : Nat) (w : pm_W) (a1 : Int32) (x : Int32) (d : Nat) (hd : 2 ≤ d) (hf : f_X8_isGuest F w a1 = some x) : RT d 101 [.inr (.inr (19, 0)), .inl a1] w (some (.inl x)) w := by
  obtain ⟨d, rfl, hd2⟩ := pm_dep hd
  exact pm_start (co := co_X8_isGuest) (nL := 2) (by decide) rfl rfl (Nat.le_of_ble_eq_true rfl) (b_X8_isGuest F d hd2 _ w a1 x hf ⟨rfl, rfl⟩)
def f_X8_nextOf_L4 (F : Nat) (w : pm_W) : Nat → Int32 → Int32 → Int32 → Int32 → Int32 → Option (Int32 × Int32)
  | 0, _, _, _, _, _ => none
  | n + 1, v1, v2, v3, v4, v5 => (if (w.1 19 0 0) ≤ v5 then some (v4, v5) else ((f_X8_has F w v2 v5).bind fun r2 => (if r2 = 0 then f_X8_nextOf_L4 F w n v1 v2 v3 v4 (v5 + 1) else (if pm_inb ((9 * v1) + v5) 18 = true then (if (if (w.1 23 0 (((9 * v1) + v5).toNatClampNeg)) ≤ v3 then 0 else 1 : Int32) = 0 then f_X8_nextOf_L4 F w n v1 v2 v3 v4 (v5 + 1) else (if v4 = (-9) then f_X8_nextOf_L4 F w n v1 v2 v3 v5 (v5 + 1) else (if pm_inb ((9 * v1) + v5) 18 = true then (if pm_inb ((9 * v1) + v4) 18 = true then f_X8_nextOf_L4 F w n v1 v2 v3 (if (w.1 23 0 (((9 * v1) + v4).toNatClampNeg)) ≤ (w.1 23 0 (((9 * v1) + v5).toNatClampNeg)) then v4 else v5 : Int32) (v5 + 1) else none) else none))) else none))))
def f_X8_nextOf (F : Nat) (w : pm_W) (a1 : Int32) (a2 : Int32) (a3 : Int32) : Option (Int32) := ((f_X8_nextOf_L4 F w F a1 a2 a3 (-9) 0).bind fun x12 => some x12.1)
set_option maxRecDepth 20000 in
set_option maxHeartbeats 4000000 in
theorem a_X8_nextOf_L4 (F : Nat) (d : Nat) (hd : 1 ≤ d) (Q : pm_Q) (w : pm_W) : ∀ (n : Nat) (v1 : Int32) (v2 : Int32) (v3 : Int32) (v4 : Int32) (v5 : Int32) (x : Int32 × Int32), f_X8_nextOf_L4 F w n v1 v2 v3 v4 v5 = some x → pm_Gx (RT d) co_X8_nextOf 54 [some (.inr (.inr (19, 0))), some (.inl v1), some (.inl v2), some (.inl v3), some (.inl x.1), some (.inl x.2), none] [] w Q → pm_Gx (RT d) co_X8_nextOf 4 [some (.inr (.inr (19, 0))), some (.inl v1), some (.inl v2), some (.inl v3), some (.inl v4), some (.inl v5), none] [] w Q := by
  intro n
  induction n with
  | zero =>
    intro v1 v2 v3 v4 v5 x hf
    cases hf
  | succ n ih =>
    intro v1 v2 v3 v4 v5 x hf hk
    rw [f_X8_nextOf_L4] at hf
    refine pm_go (i2 := 7) (ls2 := [some (.inr (.inr (19, 0))), some (.inl v1), some (.inl v2), some (.inl v3), some (.inl v4), some (.inl v5), none]) (st2 := [.inl (w.1 19 0 0), .inl v5]) (w2 := w) 3 (fun F h => h) ?_
    refine pm_if (P := (w.1 19 0 0) ≤ v5) (i2 := 54) (i3 := 8) (ls2 := [some (.inr (.inr (19, 0))), some (.inl v1), some (.inl v2), some (.inl v3), some (.inl v4), some (.inl v5), none]) (st2 := []) (w2 := w) 1 (fun F h => h) (fun hc1 => ?_) (fun hc1 => ?_)
    · rw [if_pos hc1] at hf
      obtain rfl := Option.some.inj hf
      exact hk
    · rw [if_neg hc1] at hf
      refine pm_go (i2 := 10) (ls2 := [some (.inr (.inr (19, 0))), some (.inl v1), some (.inl v2), some (.inl v3), some (.inl v4), some (.inl v5), none]) (st2 := [.inl v5, .inl v2]) (w2 := w) 2 (fun F h => h) ?_
      obtain ⟨r2, hr3, hf⟩ := Option.bind_eq_some_iff.mp hf
      refine pm_ca (y := 89) (as := [.inl v2, .inl v5]) (r := some (.inl r2)) (w2 := w) (w1 := w) (t := []) (i2 := 11) (ls2 := [some (.inr (.inr (19, 0))), some (.inl v1), some (.inl v2), some (.inl v3), some (.inl v4), some (.inl v5), none]) 1 (a_X8_has F w v2 v5 r2 d (by omega) hr3) (fun F h => h) ?_
      show pm_Gx (RT d) co_X8_nextOf 11 [some (.inr (.inr (19, 0))), some (.inl v1), some (.inl v2), some (.inl v3), some (.inl v4), some (.inl v5), none] [.inl r2] w Q
      refine pm_if (P := r2 = 0) (i2 := 24) (i3 := 12) (ls2 := [some (.inr (.inr (19, 0))), some (.inl v1), some (.inl v2), some (.inl v3), some (.inl v4), some (.inl v5), none]) (st2 := []) (w2 := w) 1 (fun F h => h) (fun hc4 => ?_) (fun hc4 => ?_)
      · rw [if_pos hc4] at hf
        refine pm_go (i2 := 27) (ls2 := [some (.inr (.inr (19, 0))), some (.inl v1), some (.inl v2), some (.inl v3), some (.inl v4), some (.inl v5), some (.inl 0)]) (st2 := [.inl 0]) (w2 := w) 3 (fun F h => h) ?_
        refine pm_ift (P := (0 : Int32) = 0) (i2 := 50) (i3 := 28) (ls2 := [some (.inr (.inr (19, 0))), some (.inl v1), some (.inl v2), some (.inl v3), some (.inl v4), some (.inl v5), some (.inl 0)]) (st2 := []) (w2 := w) 1 (fun F h => h) (by decide) ?_
        refine pm_go (i2 := 4) (ls2 := [some (.inr (.inr (19, 0))), some (.inl v1), some (.inl v2), some (.inl v3), some (.inl v4), some (.inl (v5 + 1)), some (.inl 0)]) (st2 := []) (w2 := w) 4 (fun F h => h) ?_
        refine pm_wk (ls := [some (.inr (.inr (19, 0))), some (.inl v1), some (.inl v2), some (.inl v3), some (.inl v4), some (.inl (v5 + 1)), none]) ⟨.inr rfl, .inr rfl, .inr rfl, .inr rfl, .inr rfl, .inr rfl, .inl rfl, trivial⟩ ?_
        exact ih v1 v2 v3 v4 (v5 + 1) _ hf hk
      · rw [if_neg hc4] at hf
        obtain ⟨hs5, hf⟩ := pm_itn hf
        refine pm_go (i2 := 21) (ls2 := [some (.inr (.inr (19, 0))), some (.inl v1), some (.inl v2), some (.inl v3), some (.inl v4), some (.inl v5), none]) (st2 := [.inl v3, .inl (w.1 23 0 (((9 * v1) + v5).toNatClampNeg))]) (w2 := w) 9 (fun F h => ⟨(pm_inb_in hs5), h⟩) ?_
        have key : pm_Gx (RT d) co_X8_nextOf 25 [some (.inr (.inr (19, 0))), some (.inl v1), some (.inl v2), some (.inl v3), some (.inl v4), some (.inl v5), none] [.inl (if (w.1 23 0 (((9 * v1) + v5).toNatClampNeg)) ≤ v3 then 0 else 1 : Int32)] w Q := by
          refine pm_go (i2 := 27) (ls2 := [some (.inr (.inr (19, 0))), some (.inl v1), some (.inl v2), some (.inl v3), some (.inl v4), some (.inl v5), some (.inl (if (w.1 23 0 (((9 * v1) + v5).toNatClampNeg)) ≤ v3 then 0 else 1 : Int32))]) (st2 := [.inl (if (w.1 23 0 (((9 * v1) + v5).toNatClampNeg)) ≤ v3 then 0 else 1 : Int32)]) (w2 := w) 2 (fun F h => h) ?_
          refine pm_if (P := (if (w.1 23 0 (((9 * v1) + v5).toNatClampNeg)) ≤ v3 then 0 else 1 : Int32) = 0) (i2 := 50) (i3 := 28) (ls2 := [some (.inr (.inr (19, 0))), some (.inl v1), some (.inl v2), some (.inl v3), some (.inl v4), some (.inl v5), some (.inl (if (w.1 23 0 (((9 * v1) + v5).toNatClampNeg)) ≤ v3 then 0 else 1 : Int32))]) (st2 := []) (w2 := w) 1 (fun F h => h) (fun hc6 => ?_) (fun hc6 => ?_)
          · rw [if_pos hc6] at hf
            refine pm_go (i2 := 4) (ls2 := [some (.inr (.inr (19, 0))), some (.inl v1), some (.inl v2), some (.inl v3), some (.inl v4), some (.inl (v5 + 1)), some (.inl (if (w.1 23 0 (((9 * v1) + v5).toNatClampNeg)) ≤ v3 then 0 else 1 : Int32))]) (st2 := []) (w2 := w) 4 (fun F h => h) ?_
            refine pm_wk (ls := [some (.inr (.inr (19, 0))), some (.inl v1), some (.inl v2), some (.inl v3), some (.inl v4), some (.inl (v5 + 1)), none]) ⟨.inr rfl, .inr rfl, .inr rfl, .inr rfl, .inr rfl, .inr rfl, .inl rfl, trivial⟩ ?_
            exact ih v1 v2 v3 v4 (v5 + 1) _ hf hk
          · rw [if_neg hc6] at hf
            refine pm_go (i2 := 30) (ls2 := [some (.inr (.inr (19, 0))), some (.inl v1), some (.inl v2), some (.inl v3), some (.inl v4), some (.inl v5), some (.inl (if (w.1 23 0 (((9 * v1) + v5).toNatClampNeg)) ≤ v3 then 0 else 1 : Int32))]) (st2 := [.inl (-9), .inl v4]) (w2 := w) 2 (fun F h => h) ?_
            refine pm_if (P := v4 = (-9)) (i2 := 48) (i3 := 31) (ls2 := [some (.inr (.inr (19, 0))), some (.inl v1), some (.inl v2), some (.inl v3), some (.inl v4), some (.inl v5), some (.inl (if (w.1 23 0 (((9 * v1) + v5).toNatClampNeg)) ≤ v3 then 0 else 1 : Int32))]) (st2 := []) (w2 := w) 1 (fun F h => h) (fun hc7 => ?_) (fun hc7 => ?_)
            · rw [if_pos hc7] at hf
              refine pm_go (i2 := 4) (ls2 := [some (.inr (.inr (19, 0))), some (.inl v1), some (.inl v2), some (.inl v3), some (.inl v5), some (.inl (v5 + 1)), some (.inl (if (w.1 23 0 (((9 * v1) + v5).toNatClampNeg)) ≤ v3 then 0 else 1 : Int32))]) (st2 := []) (w2 := w) 5 (fun F h => h) ?_
              refine pm_wk (ls := [some (.inr (.inr (19, 0))), some (.inl v1), some (.inl v2), some (.inl v3), some (.inl v5), some (.inl (v5 + 1)), none]) ⟨.inr rfl, .inr rfl, .inr rfl, .inr rfl, .inr rfl, .inr rfl, .inl rfl, trivial⟩ ?_
              exact ih v1 v2 v3 v5 (v5 + 1) _ hf hk
            · rw [if_neg hc7] at hf
              obtain ⟨hs8, hf⟩ := pm_itn hf
              obtain ⟨hs9, hf⟩ := pm_itn hf
              refine pm_go (i2 := 47) (ls2 := [some (.inr (.inr (19, 0))), some (.inl v1), some (.inl v2), some (.inl v3), some (.inl v4), some (.inl v5), some (.inl (if (w.1 23 0 (((9 * v1) + v5).toNatClampNeg)) ≤ v3 then 0 else 1 : Int32))]) (st2 := [.inl (w.1 23 0 (((9 * v1) + v4).toNatClampNeg)), .inl (w.1 23 0 (((9 * v1) + v5).toNatClampNeg))]) (w2 := w) 16 (fun F h => ⟨(pm_inb_in hs8), (pm_inb_in hs9), h⟩) ?_
              have key : pm_Gx (RT d) co_X8_nextOf 51 [some (.inr (.inr (19, 0))), some (.inl v1), some (.inl v2), some (.inl v3), some (.inl v4), some (.inl v5), some (.inl (if (w.1 23 0 (((9 * v1) + v5).toNatClampNeg)) ≤ v3 then 0 else 1 : Int32))] [.inl (if (w.1 23 0 (((9 * v1) + v4).toNatClampNeg)) ≤ (w.1 23 0 (((9 * v1) + v5).toNatClampNeg)) then v4 else v5 : Int32)] w Q := by
                refine pm_go (i2 := 4) (ls2 := [some (.inr (.inr (19, 0))), some (.inl v1), some (.inl v2), some (.inl v3), some (.inl (if (w.1 23 0 (((9 * v1) + v4).toNatClampNeg)) ≤ (w.1 23 0 (((9 * v1) + v5).toNatClampNeg)) then v4 else v5 : Int32)), some (.inl (v5 + 1)), some (.inl (if (w.1 23 0 (((9 * v1) + v5).toNatClampNeg)) ≤ v3 then 0 else 1 : Int32))]) (st2 := []) (w2 := w) 3 (fun F h => h) ?_
                refine pm_wk (ls := [some (.inr (.inr (19, 0))), some (.inl v1), some (.inl v2), some (.inl v3), some (.inl (if (w.1 23 0 (((9 * v1) + v4).toNatClampNeg)) ≤ (w.1 23 0 (((9 * v1) + v5).toNatClampNeg)) then v4 else v5 : Int32)), some (.inl (v5 + 1)), none]) ⟨.inr rfl, .inr rfl, .inr rfl, .inr rfl, .inr rfl, .inr rfl, .inl rfl, trivial⟩ ?_
                exact ih v1 v2 v3 (if (w.1 23 0 (((9 * v1) + v4).toNatClampNeg)) ≤ (w.1 23 0 (((9 * v1) + v5).toNatClampNeg)) then v4 else v5 : Int32) (v5 + 1) _ hf hk
              clear hf
              refine pm_if (P := (w.1 23 0 (((9 * v1) + v4).toNatClampNeg)) ≤ (w.1 23 0 (((9 * v1) + v5).toNatClampNeg))) (i2 := 50) (i3 := 48) (ls2 := [some (.inr (.inr (19, 0))), some (.inl v1), some (.inl v2), some (.inl v3), some (.inl v4), some (.inl v5), some (.inl (if (w.1 23 0 (((9 * v1) + v5).toNatClampNeg)) ≤ v3 then 0 else 1 : Int32))]) (st2 := []) (w2 := w) 1 (fun F h => h) (fun hc10 => ?_) (fun hc10 => ?_)
              · try simp only [if_pos hc10] at key
                refine pm_go (i2 := 51) (ls2 := [some (.inr (.inr (19, 0))), some (.inl v1), some (.inl v2), some (.inl v3), some (.inl v4), some (.inl v5), some (.inl (if (w.1 23 0 (((9 * v1) + v5).toNatClampNeg)) ≤ v3 then 0 else 1 : Int32))]) (st2 := [.inl v4]) (w2 := w) 1 (fun F h => h) ?_
                exact key
              · try simp only [if_neg hc10] at key
                refine pm_go (i2 := 51) (ls2 := [some (.inr (.inr (19, 0))), some (.inl v1), some (.inl v2), some (.inl v3), some (.inl v4), some (.inl v5), some (.inl (if (w.1 23 0 (((9 * v1) + v5).toNatClampNeg)) ≤ v3 then 0 else 1 : Int32))]) (st2 := [.inl v5]) (w2 := w) 2 (fun F h => h) ?_
                exact key
        clear hf
        refine pm_if (P := (w.1 23 0 (((9 * v1) + v5).toNatClampNeg)) ≤ v3) (i2 := 24) (i3 := 22) (ls2 := [some (.inr (.inr (19, 0))), some (.inl v1), some (.inl v2), some (.inl v3), some (.inl v4), some (.inl v5), none]) (st2 := []) (w2 := w) 1 (fun F h => h) (fun hc11 => ?_) (fun hc11 => ?_)
        · try simp only [if_pos hc11] at key
          refine pm_go (i2 := 25) (ls2 := [some (.inr (.inr (19, 0))), some (.inl v1), some (.inl v2), some (.inl v3), some (.inl v4), some (.inl v5), none]) (st2 := [.inl 0]) (w2 := w) 1 (fun F h => h) ?_
          exact key
        · try simp only [if_neg hc11] at key
          refine pm_go (i2 := 25) (ls2 := [some (.inr (.inr (19, 0))), some (.inl v1), some (.inl v2), some (.inl v3), some (.inl v4), some (.inl v5), none]) (st2 := [.inl 1]) (w2 := w) 2 (fun F h => h) ?_
          exact key
set_option maxRecDepth 20000 in
set_option maxHeartbeats 4000000 in
theorem b_X8_nextOf (F : Nat) (d : Nat) (hd : 1 ≤ d) (Q : pm_Q) (w : pm_W) (a1 : Int32) (a2 : Int32) (a3 : Int32) (x : Int32) (hf : f_X8_nextOf F w a1 a2 a3 = some x) (hq : Q (some (.inl x)) w) : pm_Gx (RT d) co_X8_nextOf 0 [some (.inr (.inr (19, 0))), some (.inl a1), some (.inl a2), some (.inl a3), none, none, none] [] w Q := by
  unfold f_X8_nextOf at hf
  refine pm_go (i2 := 4) (ls2 := [some (.inr (.inr (19, 0))), some (.inl a1), some (.inl a2), some (.inl a3), some (.inl (-9)), some (.inl 0), none]) (st2 := []) (w2 := w) 4 (fun F h => h) ?_
  obtain ⟨x12, hx13, hf⟩ := Option.bind_eq_some_iff.mp hf
  refine a_X8_nextOf_L4 F d hd Q w F a1 a2 a3 (-9) 0 x12 hx13 ?_
  refine pm_go (i2 := 55) (ls2 := [some (.inr (.inr (19, 0))), some (.inl a1), some (.inl a2), some (.inl a3), some (.inl x12.1), some (.inl x12.2), none]) (st2 := [.inl x12.1]) (w2 := w) 1 (fun F h => h) ?_
  obtain rfl := Option.some.inj hf
  exact pm_re (r := some (.inl x12.1)) (w2 := w) 1 (fun F h => h) hq
set_option maxRecDepth 20000 in
set_option maxHeartbeats 4000000 in
theorem a_X8_nextOf (F : Nat) (w : pm_W) (a1 : Int32) (a2 : Int32) (a3 : Int32) (x : Int32) (d : Nat) (hd : 2 ≤ d) (hf : f_X8_nextOf F w a1 a2 a3 = some x) : RT d 102 [.inr (.inr (19, 0)), .inl a1, .inl a2, .inl a3] w (some (.inl x)) w := by
  obtain ⟨d, rfl, hd2⟩ := pm_dep hd
  exact pm_start (co := co_X8_nextOf) (nL := 7) (by decide) rfl rfl (Nat.le_of_ble_eq_true rfl) (b_X8_nextOf F d hd2 _ w a1 a2 a3 x hf ⟨rfl, rfl⟩)
def f_X8_hears_L10 (F : Nat) (w : pm_W) : Nat → Int32 → Int32 → Int32 → Int32 → Option (Int32 × Int32 × Int32)
  | 0, _, _, _, _ => none
  | n + 1, v1, v2, v3, v4 => (if v4 = (-9) then some (v2, v3, v4) else (if pm_inb ((9 * v1) + v4) 18 = true then (if (w.1 19 0 2) < ((w.1 23 0 (((9 * v1) + v4).toNatClampNeg)) - v3) then some (v2, v3, v4) else (if pm_inb ((9 * v1) + v4) 18 = true then ((f_X8_nextOf F w v1 31 (w.1 23 0 (((9 * v1) + v4).toNatClampNeg))).bind fun r7 => f_X8_hears_L10 F w n v1 (v2 ||| (1 <<< (v4 &&& 31))) (w.1 23 0 (((9 * v1) + v4).toNatClampNeg)) r7) else none)) else none))
def f_X8_hears (F : Nat) (w : pm_W) (a1 : Int32) : Option (Int32) := ((f_X8_nextOf F w a1 31 (-1)).bind fun r1 => ((f_X8_hears_L10 F w F a1 0 0 r1).bind fun x9 => some x9.1))
set_option maxRecDepth 20000 in
set_option maxHeartbeats 4000000 in
theorem a_X8_hears_L10 (F : Nat) (d : Nat) (hd : 2 ≤ d) (Q : pm_Q) (w : pm_W) : ∀ (n : Nat) (v1 : Int32) (v2 : Int32) (v3 : Int32) (v4 : Int32) (x : Int32 × Int32 × Int32), f_X8_hears_L10 F w n v1 v2 v3 v4 = some x → pm_Gx (RT d) co_X8_hears 48 [some (.inr (.inr (19, 0))), some (.inl v1), some (.inl x.1), some (.inl x.2.1), some (.inl x.2.2)] [] w Q → pm_Gx (RT d) co_X8_hears 10 [some (.inr (.inr (19, 0))), some (.inl v1), some (.inl v2), some (.inl v3), some (.inl v4)] [] w Q := by
  intro n
  induction n with
  | zero =>
    intro v1 v2 v3 v4 x hf
    cases hf
  | succ n ih =>
    intro v1 v2 v3 v4 x hf hk
    rw [f_X8_hears_L10] at hf
    refine pm_go (i2 := 12) (ls2 := [some (.inr (.inr (19, 0))), some (.inl v1), some (.inl v2), some (.inl v3), some (.inl v4)]) (st2 := [.inl (-9), .inl v4]) (w2 := w) 2 (fun F h => h) ?_
    refine pm_if (P := v4 = (-9)) (i2 := 48) (i3 := 13) (ls2 := [some (.inr (.inr (19, 0))), some (.inl v1), some (.inl v2), some (.inl v3), some (.inl v4)]) (st2 := []) (w2 := w) 1 (fun F h => h) (fun hc3 => ?_) (fun hc3 => ?_)
    · rw [if_pos hc3] at hf
      obtain rfl := Option.some.inj hf
      exact hk
    · rw [if_neg hc3] at hf
      obtain ⟨hs4, hf⟩ := pm_itn hf
      refine pm_go (i2 := 25) (ls2 := [some (.inr (.inr (19, 0))), some (.inl v1), some (.inl v2), some (.inl v3), some (.inl v4)]) (st2 := [.inl (w.1 19 0 2), .inl ((w.1 23 0 (((9 * v1) + v4).toNatClampNeg)) - v3)]) (w2 := w) 12 (fun F h => ⟨(pm_inb_in hs4), h⟩) ?_
      refine pm_if (P := (w.1 19 0 2) < ((w.1 23 0 (((9 * v1) + v4).toNatClampNeg)) - v3)) (i2 := 48) (i3 := 26) (ls2 := [some (.inr (.inr (19, 0))), some (.inl v1), some (.inl v2), some (.inl v3), some (.inl v4)]) (st2 := []) (w2 := w) 1 (fun F h => h) (fun hc5 => ?_) (fun hc5 => ?_)
      · rw [if_pos hc5] at hf
        obtain rfl := Option.some.inj hf
        exact hk
      · rw [if_neg hc5] at hf
        obtain ⟨hs6, hf⟩ := pm_itn hf
        refine pm_go (i2 := 45) (ls2 := [some (.inr (.inr (19, 0))), some (.inl v1), some (.inl (v2 ||| (1 <<< (v4 &&& 31)))), some (.inl (w.1 23 0 (((9 * v1) + v4).toNatClampNeg))), some (.inl v4)]) (st2 := [.inl (w.1 23 0 (((9 * v1) + v4).toNatClampNeg)), .inl 31, .inl v1, .inr (.inr (19, 0))]) (w2 := w) 19 (fun F h => ⟨(pm_inb_in hs6), h⟩) ?_
        obtain ⟨r7, hr8, hf⟩ := Option.bind_eq_some_iff.mp hf
        refine pm_ca (y := 102) (as := [.inr (.inr (19, 0)), .inl v1, .inl 31, .inl (w.1 23 0 (((9 * v1) + v4).toNatClampNeg))]) (r := some (.inl r7)) (w2 := w) (w1 := w) (t := []) (i2 := 46) (ls2 := [some (.inr (.inr (19, 0))), some (.inl v1), some (.inl (v2 ||| (1 <<< (v4 &&& 31)))), some (.inl (w.1 23 0 (((9 * v1) + v4).toNatClampNeg))), some (.inl v4)]) 1 (a_X8_nextOf F w v1 31 (w.1 23 0 (((9 * v1) + v4).toNatClampNeg)) r7 d (by omega) hr8) (fun F h => h) ?_
        show pm_Gx (RT d) co_X8_hears 46 [some (.inr (.inr (19, 0))), some (.inl v1), some (.inl (v2 ||| (1 <<< (v4 &&& 31)))), some (.inl (w.1 23 0 (((9 * v1) + v4).toNatClampNeg))), some (.inl v4)] [.inl r7] w Q
        refine pm_go (i2 := 10) (ls2 := [some (.inr (.inr (19, 0))), some (.inl v1), some (.inl (v2 ||| (1 <<< (v4 &&& 31)))), some (.inl (w.1 23 0 (((9 * v1) + v4).toNatClampNeg))), some (.inl r7)]) (st2 := []) (w2 := w) 2 (fun F h => h) ?_
        exact ih v1 (v2 ||| (1 <<< (v4 &&& 31))) (w.1 23 0 (((9 * v1) + v4).toNatClampNeg)) r7 _ hf hk
set_option maxRecDepth 20000 in
set_option maxHeartbeats 4000000 in
theorem b_X8_hears (F : Nat) (d : Nat) (hd : 2 ≤ d) (Q : pm_Q) (w : pm_W) (a1 : Int32) (x : Int32) (hf : f_X8_hears F w a1 = some x) (hq : Q (some (.inl x)) w) : pm_Gx (RT d) co_X8_hears 0 [some (.inr (.inr (19, 0))), some (.inl a1), none, none, none] [] w Q := by
  unfold f_X8_hears at hf
  refine pm_go (i2 := 8) (ls2 := [some (.inr (.inr (19, 0))), some (.inl a1), some (.inl 0), some (.inl 0), none]) (st2 := [.inl (-1), .inl 31, .inl a1, .inr (.inr (19, 0))]) (w2 := w) 8 (fun F h => h) ?_
  obtain ⟨r1, hr2, hf⟩ := Option.bind_eq_some_iff.mp hf
  refine pm_ca (y := 102) (as := [.inr (.inr (19, 0)), .inl a1, .inl 31, .inl (-1)]) (r := some (.inl r1)) (w2 := w) (w1 := w) (t := []) (i2 := 9) (ls2 := [some (.inr (.inr (19, 0))), some (.inl a1), some (.inl 0), some (.inl 0), none]) 1 (a_X8_nextOf F w a1 31 (-1) r1 d (by omega) hr2) (fun F h => h) ?_
  show pm_Gx (RT d) co_X8_hears 9 [some (.inr (.inr (19, 0))), some (.inl a1), some (.inl 0), some (.inl 0), none] [.inl r1] w Q
  refine pm_go (i2 := 10) (ls2 := [some (.inr (.inr (19, 0))), some (.inl a1), some (.inl 0), some (.inl 0), some (.inl r1)]) (st2 := []) (w2 := w) 1 (fun F h => h) ?_
  obtain ⟨x9, hx10, hf⟩ := Option.bind_eq_some_iff.mp hf
  refine a_X8_hears_L10 F d hd Q w F a1 0 0 r1 x9 hx10 ?_
  refine pm_go (i2 := 49) (ls2 := [some (.inr (.inr (19, 0))), some (.inl a1), some (.inl x9.1), some (.inl x9.2.1), some (.inl x9.2.2)]) (st2 := [.inl x9.1]) (w2 := w) 1 (fun F h => h) ?_
  obtain rfl := Option.some.inj hf
  exact pm_re (r := some (.inl x9.1)) (w2 := w) 1 (fun F h => h) hq
set_option maxRecDepth 20000 in
set_option maxHeartbeats 4000000 in
theorem a_X8_hears (F : Nat) (w : pm_W) (a1 : Int32) (x : Int32) (d : Nat) (hd : 3 ≤ d) (hf : f_X8_hears F w a1 = some x) : RT d 103 [.inr (.inr (19, 0)), .inl a1] w (some (.inl x)) w := by
  obtain ⟨d, rfl, hd2⟩ := pm_dep hd
  exact pm_start (co := co_X8_hears) (nL := 5) (by decide) rfl rfl (Nat.le_of_ble_eq_true rfl) (b_X8_hears F d hd2 _ w a1 x hf ⟨rfl, rfl⟩)
def f_X8_guest (F : Nat) (w : pm_W) (a1 : Int32) (a2 : Int32) : Option (Int32) := ((f_X8_isGuest F w a1).bind fun r1 => (if r1 = 0 then some (-1) else (if a2 = 0 then (if pm_inb a1 18 = true then some (w.1 23 0 a1.toNatClampNeg) else none) else (if a2 = 1 then (if pm_inb a1 5 = true then some (w.1 20 0 a1.toNatClampNeg) else none) else (if a2 = 2 then (if pm_inb a1 5 = true then some (w.1 21 0 a1.toNatClampNeg) else none) else (if a2 = 3 then (if pm_inb a1 5 = true then some (w.1 22 0 a1.toNatClampNeg) else none) else (if a2 = 4 then some (((w.1 23 0 8) >>> (a1 &&& 31)) &&& 1) else (if a2 = 5 then ((f_X8_hears F w 0).bind fun r14 => some ((r14 >>> (a1 &&& 31)) &&& 1)) else some (-2)))))))))
set_option maxRecDepth 20000 in
set_option maxHeartbeats 4000000 in
theorem b_X8_guest (F : Nat) (d : Nat) (hd : 3 ≤ d) (Q : pm_Q) (w : pm_W) (a1 : Int32) (a2 : Int32) (x : Int32) (hf : f_X8_guest F w a1 a2 = some x) (hq : Q (some (.inl x)) w) : pm_Gx (RT d) co_X8_guest 0 [some (.inr (.inr (19, 0))), some (.inl a1), some (.inl a2)] [] w Q := by
  unfold f_X8_guest at hf
  refine pm_go (i2 := 2) (ls2 := [some (.inr (.inr (19, 0))), some (.inl a1), some (.inl a2)]) (st2 := [.inl a1, .inr (.inr (19, 0))]) (w2 := w) 2 (fun F h => h) ?_
  obtain ⟨r1, hr2, hf⟩ := Option.bind_eq_some_iff.mp hf
  refine pm_ca (y := 101) (as := [.inr (.inr (19, 0)), .inl a1]) (r := some (.inl r1)) (w2 := w) (w1 := w) (t := []) (i2 := 3) (ls2 := [some (.inr (.inr (19, 0))), some (.inl a1), some (.inl a2)]) 1 (a_X8_isGuest F w a1 r1 d (by omega) hr2) (fun F h => h) ?_
  show pm_Gx (RT d) co_X8_guest 3 [some (.inr (.inr (19, 0))), some (.inl a1), some (.inl a2)] [.inl r1] w Q
  refine pm_if (P := r1 = 0) (i2 := 4) (i3 := 6) (ls2 := [some (.inr (.inr (19, 0))), some (.inl a1), some (.inl a2)]) (st2 := []) (w2 := w) 1 (fun F h => h) (fun hc3 => ?_) (fun hc3 => ?_)
  · rw [if_pos hc3] at hf
    refine pm_go (i2 := 5) (ls2 := [some (.inr (.inr (19, 0))), some (.inl a1), some (.inl a2)]) (st2 := [.inl (-1)]) (w2 := w) 1 (fun F h => h) ?_
    obtain rfl := Option.some.inj hf
    exact pm_re (r := some (.inl (-1))) (w2 := w) 1 (fun F h => h) hq
  · rw [if_neg hc3] at hf
    refine pm_go (i2 := 7) (ls2 := [some (.inr (.inr (19, 0))), some (.inl a1), some (.inl a2)]) (st2 := [.inl a2]) (w2 := w) 1 (fun F h => h) ?_
    refine pm_swx (x := a2) (d := 45) (cs := [(0, 8), (1, 13), (2, 18), (3, 23), (4, 28), (5, 37)]) (ls2 := [some (.inr (.inr (19, 0))), some (.inl a1), some (.inl a2)]) (st2 := []) (w2 := w) 1 (fun F h => h) ?_
    refine pm_swc (fun hw4 => ?_) (fun hw4 => ?_)
    · rw [if_pos hw4] at hf
      obtain ⟨hs5, hf⟩ := pm_itn hf
      refine pm_go (i2 := 12) (ls2 := [some (.inr (.inr (19, 0))), some (.inl a1), some (.inl a2)]) (st2 := [.inl (w.1 23 0 a1.toNatClampNeg)]) (w2 := w) 4 (fun F h => ⟨(pm_inb_in hs5), h⟩) ?_
      obtain rfl := Option.some.inj hf
      exact pm_re (r := some (.inl (w.1 23 0 a1.toNatClampNeg))) (w2 := w) 1 (fun F h => h) hq
    rw [if_neg hw4] at hf
    refine pm_swc (fun hw6 => ?_) (fun hw6 => ?_)
    · rw [if_pos hw6] at hf
      obtain ⟨hs7, hf⟩ := pm_itn hf
      refine pm_go (i2 := 17) (ls2 := [some (.inr (.inr (19, 0))), some (.inl a1), some (.inl a2)]) (st2 := [.inl (w.1 20 0 a1.toNatClampNeg)]) (w2 := w) 4 (fun F h => ⟨(pm_inb_in hs7), h⟩) ?_
      obtain rfl := Option.some.inj hf
      exact pm_re (r := some (.inl (w.1 20 0 a1.toNatClampNeg))) (w2 := w) 1 (fun F h => h) hq
    rw [if_neg hw6] at hf
    refine pm_swc (fun hw8 => ?_) (fun hw8 => ?_)
    · rw [if_pos hw8] at hf
      obtain ⟨hs9, hf⟩ := pm_itn hf
      refine pm_go (i2 := 22) (ls2 := [some (.inr (.inr (19, 0))), some (.inl a1), some (.inl a2)]) (st2 := [.inl (w.1 21 0 a1.toNatClampNeg)]) (w2 := w) 4 (fun F h => ⟨(pm_inb_in hs9), h⟩) ?_
      obtain rfl := Option.some.inj hf
      exact pm_re (r := some (.inl (w.1 21 0 a1.toNatClampNeg))) (w2 := w) 1 (fun F h => h) hq
    rw [if_neg hw8] at hf
    refine pm_swc (fun hw10 => ?_) (fun hw10 => ?_)
    · rw [if_pos hw10] at hf
      obtain ⟨hs11, hf⟩ := pm_itn hf
      refine pm_go (i2 := 27) (ls2 := [some (.inr (.inr (19, 0))), some (.inl a1), some (.inl a2)]) (st2 := [.inl (w.1 22 0 a1.toNatClampNeg)]) (w2 := w) 4 (fun F h => ⟨(pm_inb_in hs11), h⟩) ?_
      obtain rfl := Option.some.inj hf
      exact pm_re (r := some (.inl (w.1 22 0 a1.toNatClampNeg))) (w2 := w) 1 (fun F h => h) hq
    rw [if_neg hw10] at hf
    refine pm_swc (fun hw12 => ?_) (fun hw12 => ?_)
    · rw [if_pos hw12] at hf
      refine pm_go (i2 := 36) (ls2 := [some (.inr (.inr (19, 0))), some (.inl a1), some (.inl a2)]) (st2 := [.inl (((w.1 23 0 8) >>> (a1 &&& 31)) &&& 1)]) (w2 := w) 8 (fun F h => ⟨(pm_inb_in (by decide)), h⟩) ?_
      obtain rfl := Option.some.inj hf
      exact pm_re (r := some (.inl (((w.1 23 0 8) >>> (a1 &&& 31)) &&& 1))) (w2 := w) 1 (fun F h => h) hq
    rw [if_neg hw12] at hf
    refine pm_swc (fun hw13 => ?_) (fun hw13 => ?_)
    · rw [if_pos hw13] at hf
      refine pm_go (i2 := 39) (ls2 := [some (.inr (.inr (19, 0))), some (.inl a1), some (.inl a2)]) (st2 := [.inl 0, .inr (.inr (19, 0))]) (w2 := w) 2 (fun F h => h) ?_
      obtain ⟨r14, hr15, hf⟩ := Option.bind_eq_some_iff.mp hf
      refine pm_ca (y := 103) (as := [.inr (.inr (19, 0)), .inl 0]) (r := some (.inl r14)) (w2 := w) (w1 := w) (t := []) (i2 := 40) (ls2 := [some (.inr (.inr (19, 0))), some (.inl a1), some (.inl a2)]) 1 (a_X8_hears F w 0 r14 d (by omega) hr15) (fun F h => h) ?_
      show pm_Gx (RT d) co_X8_guest 40 [some (.inr (.inr (19, 0))), some (.inl a1), some (.inl a2)] [.inl r14] w Q
      refine pm_go (i2 := 44) (ls2 := [some (.inr (.inr (19, 0))), some (.inl a1), some (.inl a2)]) (st2 := [.inl ((r14 >>> (a1 &&& 31)) &&& 1)]) (w2 := w) 4 (fun F h => h) ?_
      obtain rfl := Option.some.inj hf
      exact pm_re (r := some (.inl ((r14 >>> (a1 &&& 31)) &&& 1))) (w2 := w) 1 (fun F h => h) hq
    rw [if_neg hw13] at hf
    refine pm_swd ?_
    refine pm_go (i2 := 46) (ls2 := [some (.inr (.inr (19, 0))), some (.inl a1), some (.inl a2)]) (st2 := [.inl (-2)]) (w2 := w) 1 (fun F h => h) ?_
    obtain rfl := Option.some.inj hf
    exact pm_re (r := some (.inl (-2))) (w2 := w) 1 (fun F h => h) hq
set_option maxRecDepth 20000 in
set_option maxHeartbeats 4000000 in
theorem a_X8_guest (F : Nat) (w : pm_W) (a1 : Int32) (a2 : Int32) (x : Int32) (d : Nat) (hd : 4 ≤ d) (hf : f_X8_guest F w a1 a2 = some x) : RT d 104 [.inr (.inr (19, 0)), .inl a1, .inl a2] w (some (.inl x)) w := by
  obtain ⟨d, rfl, hd2⟩ := pm_dep hd
  exact pm_start (co := co_X8_guest) (nL := 3) (by decide) rfl rfl (Nat.le_of_ble_eq_true rfl) (b_X8_guest F d hd2 _ w a1 a2 x hf ⟨rfl, rfl⟩)
def f_X8_isTaken_L4 (F : Nat) (w : pm_W) : Nat → Int32 → Int32 → Int32 → Int32 → Option (Int32 × Int32)
  | 0, _, _, _, _ => none
  | n + 1, v1, v2, v3, v4 => (if (w.1 19 0 0) ≤ v4 then some (v3, v4) else (if v3 = 0 then (if pm_inb ((9 * v1) + v4) 18 = true then f_X8_isTaken_L4 F w n v1 v2 (if (w.1 23 0 (((9 * v1) + v4).toNatClampNeg)) = v2 then 1 else 0 : Int32) (v4 + 1) else none) else f_X8_isTaken_L4 F w n v1 v2 1 (v4 + 1)))
def f_X8_isTaken (F : Nat) (w : pm_W) (a1 : Int32) (a2 : Int32) : Option (Int32) := ((f_X8_isTaken_L4 F w F a1 a2 0 0).bind fun x5 => (if pm_isb x5.1 = true then some x5.1 else none))
set_option maxRecDepth 20000 in
set_option maxHeartbeats 4000000 in
theorem a_X8_isTaken_L4 (F : Nat) (d : Nat) (hd : 0 ≤ d) (Q : pm_Q) (w : pm_W) : ∀ (n : Nat) (v1 : Int32) (v2 : Int32) (v3 : Int32) (v4 : Int32) (x : Int32 × Int32), f_X8_isTaken_L4 F w n v1 v2 v3 v4 = some x → pm_Gx (RT d) co_X8_isTaken 26 [some (.inr (.inr (19, 0))), some (.inl v1), some (.inl v2), some (.inl x.1), some (.inl x.2)] [] w Q → pm_Gx (RT d) co_X8_isTaken 4 [some (.inr (.inr (19, 0))), some (.inl v1), some (.inl v2), some (.inl v3), some (.inl v4)] [] w Q := by
  intro n
  induction n with
  | zero =>
    intro v1 v2 v3 v4 x hf
    cases hf
  | succ n ih =>
    intro v1 v2 v3 v4 x hf hk
    rw [f_X8_isTaken_L4] at hf
    refine pm_go (i2 := 7) (ls2 := [some (.inr (.inr (19, 0))), some (.inl v1), some (.inl v2), some (.inl v3), some (.inl v4)]) (st2 := [.inl (w.1 19 0 0), .inl v4]) (w2 := w) 3 (fun F h => h) ?_
    refine pm_if (P := (w.1 19 0 0) ≤ v4) (i2 := 26) (i3 := 8) (ls2 := [some (.inr (.inr (19, 0))), some (.inl v1), some (.inl v2), some (.inl v3), some (.inl v4)]) (st2 := []) (w2 := w) 1 (fun F h => h) (fun hc1 => ?_) (fun hc1 => ?_)
    · rw [if_pos hc1] at hf
      obtain rfl := Option.some.inj hf
      exact hk
    · rw [if_neg hc1] at hf
      refine pm_go (i2 := 9) (ls2 := [some (.inr (.inr (19, 0))), some (.inl v1), some (.inl v2), some (.inl v3), some (.inl v4)]) (st2 := [.inl v3]) (w2 := w) 1 (fun F h => h) ?_
      refine pm_if (P := v3 = 0) (i2 := 10) (i3 := 20) (ls2 := [some (.inr (.inr (19, 0))), some (.inl v1), some (.inl v2), some (.inl v3), some (.inl v4)]) (st2 := []) (w2 := w) 1 (fun F h => h) (fun hc2 => ?_) (fun hc2 => ?_)
      · rw [if_pos hc2] at hf
        obtain ⟨hs3, hf⟩ := pm_itn hf
        refine pm_go (i2 := 19) (ls2 := [some (.inr (.inr (19, 0))), some (.inl v1), some (.inl v2), some (.inl v3), some (.inl v4)]) (st2 := [.inl v2, .inl (w.1 23 0 (((9 * v1) + v4).toNatClampNeg))]) (w2 := w) 9 (fun F h => ⟨(pm_inb_in hs3), h⟩) ?_
        have key : pm_Gx (RT d) co_X8_isTaken 23 [some (.inr (.inr (19, 0))), some (.inl v1), some (.inl v2), some (.inl v3), some (.inl v4)] [.inl (if (w.1 23 0 (((9 * v1) + v4).toNatClampNeg)) = v2 then 1 else 0 : Int32)] w Q := by
          refine pm_go (i2 := 4) (ls2 := [some (.inr (.inr (19, 0))), some (.inl v1), some (.inl v2), some (.inl (if (w.1 23 0 (((9 * v1) + v4).toNatClampNeg)) = v2 then 1 else 0 : Int32)), some (.inl (v4 + 1))]) (st2 := []) (w2 := w) 3 (fun F h => h) ?_
          exact ih v1 v2 (if (w.1 23 0 (((9 * v1) + v4).toNatClampNeg)) = v2 then 1 else 0 : Int32) (v4 + 1) _ hf hk
        clear hf
        refine pm_if (P := (w.1 23 0 (((9 * v1) + v4).toNatClampNeg)) = v2) (i2 := 20) (i3 := 22) (ls2 := [some (.inr (.inr (19, 0))), some (.inl v1), some (.inl v2), some (.inl v3), some (.inl v4)]) (st2 := []) (w2 := w) 1 (fun F h => h) (fun hc4 => ?_) (fun hc4 => ?_)
        · try simp only [if_pos hc4] at key
          refine pm_go (i2 := 23) (ls2 := [some (.inr (.inr (19, 0))), some (.inl v1), some (.inl v2), some (.inl v3), some (.inl v4)]) (st2 := [.inl 1]) (w2 := w) 2 (fun F h => h) ?_
          exact key
        · try simp only [if_neg hc4] at key
          refine pm_go (i2 := 23) (ls2 := [some (.inr (.inr (19, 0))), some (.inl v1), some (.inl v2), some (.inl v3), some (.inl v4)]) (st2 := [.inl 0]) (w2 := w) 1 (fun F h => h) ?_
          exact key
      · rw [if_neg hc2] at hf
        refine pm_go (i2 := 4) (ls2 := [some (.inr (.inr (19, 0))), some (.inl v1), some (.inl v2), some (.inl 1), some (.inl (v4 + 1))]) (st2 := []) (w2 := w) 5 (fun F h => h) ?_
        exact ih v1 v2 1 (v4 + 1) _ hf hk
set_option maxRecDepth 20000 in
set_option maxHeartbeats 4000000 in
theorem b_X8_isTaken (F : Nat) (d : Nat) (hd : 0 ≤ d) (Q : pm_Q) (w : pm_W) (a1 : Int32) (a2 : Int32) (x : Int32) (hf : f_X8_isTaken F w a1 a2 = some x) (hq : Q (some (.inl x)) w) : pm_Gx (RT d) co_X8_isTaken 0 [some (.inr (.inr (19, 0))), some (.inl a1), some (.inl a2), none, none] [] w Q := by
  unfold f_X8_isTaken at hf
  refine pm_go (i2 := 4) (ls2 := [some (.inr (.inr (19, 0))), some (.inl a1), some (.inl a2), some (.inl 0), some (.inl 0)]) (st2 := []) (w2 := w) 4 (fun F h => h) ?_
  obtain ⟨x5, hx6, hf⟩ := Option.bind_eq_some_iff.mp hf
  refine a_X8_isTaken_L4 F d hd Q w F a1 a2 0 0 x5 hx6 ?_
  refine pm_go (i2 := 27) (ls2 := [some (.inr (.inr (19, 0))), some (.inl a1), some (.inl a2), some (.inl x5.1), some (.inl x5.2)]) (st2 := [.inl x5.1]) (w2 := w) 1 (fun F h => h) ?_
  obtain ⟨hz7, hf⟩ := pm_itn hf
  obtain rfl := Option.some.inj hf
  exact pm_re (r := some (.inl x5.1)) (w2 := w) 1 (fun F h => ⟨pm_isb_nar hz7, h⟩) hq
set_option maxRecDepth 20000 in
set_option maxHeartbeats 4000000 in
theorem a_X8_isTaken (F : Nat) (w : pm_W) (a1 : Int32) (a2 : Int32) (x : Int32) (d : Nat) (hd : 1 ≤ d) (hf : f_X8_isTaken F w a1 a2 = some x) : RT d 105 [.inr (.inr (19, 0)), .inl a1, .inl a2] w (some (.inl x)) w := by
  obtain ⟨d, rfl, hd2⟩ := pm_dep hd
  exact pm_start (co := co_X8_isTaken) (nL := 5) (by decide) rfl rfl (Nat.le_of_ble_eq_true rfl) (b_X8_isTaken F d hd2 _ w a1 a2 x hf ⟨rfl, rfl⟩)
def f_X8_growth (F : Nat) (w : pm_W) (a1 : Int32) : Option (Int32) := (if pm_inb a1 5 = true then (if (w.1 20 0 a1.toNatClampNeg) = 0 then some 1 else (if pm_inb a1 5 = true then (if (w.1 20 0 a1.toNatClampNeg) = 1 then some (-1) else (if pm_inb a1 5 = true then some (if (w.1 20 0 a1.toNatClampNeg) = 2 then 2 else 0 : Int32) else none)) else none)) else none)
set_option maxRecDepth 20000 in
set_option maxHeartbeats 4000000 in
theorem b_X8_growth (F : Nat) (d : Nat) (hd : 0 ≤ d) (Q : pm_Q) (w : pm_W) (a1 : Int32) (x : Int32) (hf : f_X8_growth F w a1 = some x) (hq : Q (some (.inl x)) w) : pm_Gx (RT d) co_X8_growth 0 [some (.inr (.inr (19, 0))), some (.inl a1)] [] w Q := by
  unfold f_X8_growth at hf
  obtain ⟨hs1, hf⟩ := pm_itn hf
  refine pm_go (i2 := 4) (ls2 := [some (.inr (.inr (19, 0))), some (.inl a1)]) (st2 := [.inl (w.1 20 0 a1.toNatClampNeg)]) (w2 := w) 4 (fun F h => ⟨(pm_inb_in hs1), h⟩) ?_
  refine pm_if (P := (w.1 20 0 a1.toNatClampNeg) = 0) (i2 := 5) (i3 := 7) (ls2 := [some (.inr (.inr (19, 0))), some (.inl a1)]) (st2 := []) (w2 := w) 1 (fun F h => h) (fun hc2 => ?_) (fun hc2 => ?_)
  · rw [if_pos hc2] at hf
    refine pm_go (i2 := 24) (ls2 := [some (.inr (.inr (19, 0))), some (.inl a1)]) (st2 := [.inl 1]) (w2 := w) 2 (fun F h => h) ?_
    obtain rfl := Option.some.inj hf
    exact pm_re (r := some (.inl 1)) (w2 := w) 1 (fun F h => h) hq
  · rw [if_neg hc2] at hf
    obtain ⟨hs3, hf⟩ := pm_itn hf
    refine pm_go (i2 := 12) (ls2 := [some (.inr (.inr (19, 0))), some (.inl a1)]) (st2 := [.inl 1, .inl (w.1 20 0 a1.toNatClampNeg)]) (w2 := w) 5 (fun F h => ⟨(pm_inb_in hs3), h⟩) ?_
    refine pm_if (P := (w.1 20 0 a1.toNatClampNeg) = 1) (i2 := 13) (i3 := 15) (ls2 := [some (.inr (.inr (19, 0))), some (.inl a1)]) (st2 := []) (w2 := w) 1 (fun F h => h) (fun hc4 => ?_) (fun hc4 => ?_)
    · rw [if_pos hc4] at hf
      refine pm_go (i2 := 24) (ls2 := [some (.inr (.inr (19, 0))), some (.inl a1)]) (st2 := [.inl (-1)]) (w2 := w) 2 (fun F h => h) ?_
      obtain rfl := Option.some.inj hf
      exact pm_re (r := some (.inl (-1))) (w2 := w) 1 (fun F h => h) hq
    · rw [if_neg hc4] at hf
      obtain ⟨hs5, hf⟩ := pm_itn hf
      refine pm_go (i2 := 20) (ls2 := [some (.inr (.inr (19, 0))), some (.inl a1)]) (st2 := [.inl 2, .inl (w.1 20 0 a1.toNatClampNeg)]) (w2 := w) 5 (fun F h => ⟨(pm_inb_in hs5), h⟩) ?_
      have key : pm_Gx (RT d) co_X8_growth 24 [some (.inr (.inr (19, 0))), some (.inl a1)] [.inl (if (w.1 20 0 a1.toNatClampNeg) = 2 then 2 else 0 : Int32)] w Q := by
        obtain rfl := Option.some.inj hf
        exact pm_re (r := some (.inl (if (w.1 20 0 a1.toNatClampNeg) = 2 then 2 else 0 : Int32))) (w2 := w) 1 (fun F h => h) hq
      clear hf
      refine pm_if (P := (w.1 20 0 a1.toNatClampNeg) = 2) (i2 := 21) (i3 := 23) (ls2 := [some (.inr (.inr (19, 0))), some (.inl a1)]) (st2 := []) (w2 := w) 1 (fun F h => h) (fun hc6 => ?_) (fun hc6 => ?_)
      · try simp only [if_pos hc6] at key
        refine pm_go (i2 := 24) (ls2 := [some (.inr (.inr (19, 0))), some (.inl a1)]) (st2 := [.inl 2]) (w2 := w) 2 (fun F h => h) ?_
        exact key
      · try simp only [if_neg hc6] at key
        refine pm_go (i2 := 24) (ls2 := [some (.inr (.inr (19, 0))), some (.inl a1)]) (st2 := [.inl 0]) (w2 := w) 1 (fun F h => h) ?_
        exact key
set_option maxRecDepth 20000 in
set_option maxHeartbeats 4000000 in
theorem a_X8_growth (F : Nat) (w : pm_W) (a1 : Int32) (x : Int32) (d : Nat) (hd : 1 ≤ d) (hf : f_X8_growth F w a1 = some x) : RT d 106 [.inr (.inr (19, 0)), .inl a1] w (some (.inl x)) w := by
  obtain ⟨d, rfl, hd2⟩ := pm_dep hd
  exact pm_start (co := co_X8_growth) (nL := 2) (by decide) rfl rfl (Nat.le_of_ble_eq_true rfl) (b_X8_growth F d hd2 _ w a1 x hf ⟨rfl, rfl⟩)
def f_X8_canSay (F : Nat) (w : pm_W) (a1 : Int32) (a2 : Int32) : Option (Int32) := (if pm_inb ((9 * a1) + a2) 18 = true then (if pm_inb a2 5 = true then (if (w.1 20 0 a2.toNatClampNeg) = 1 then (if pm_inb ((9 * a1) + 5) 18 = true then (if (w.1 23 0 (((9 * a1) + 5).toNatClampNeg)) ≤ ((w.1 23 0 (((9 * a1) + a2).toNatClampNeg)) + 1) then some 0 else ((f_X8_isTaken F w a1 ((w.1 23 0 (((9 * a1) + a2).toNatClampNeg)) + 1)).bind fun r6 => (if pm_isb (if r6 = 0 then 1 else 0 : Int32) = true then some (if r6 = 0 then 1 else 0 : Int32) else none))) else none) else (if pm_inb ((9 * a1) + 5) 18 = true then ((f_X8_growth F w a2).bind fun r11 => (if pm_isb (if 60 < ((w.1 23 0 (((9 * a1) + 5).toNatClampNeg)) + r11) then 0 else 1 : Int32) = true then some (if 60 < ((w.1 23 0 (((9 * a1) + 5).toNatClampNeg)) + r11) then 0 else 1 : Int32) else none)) else none)) else none) else none)
set_option maxRecDepth 20000 in
set_option maxHeartbeats 4000000 in
theorem b_X8_canSay (F : Nat) (d : Nat) (hd : 1 ≤ d) (Q : pm_Q) (w : pm_W) (a1 : Int32) (a2 : Int32) (x : Int32) (hf : f_X8_canSay F w a1 a2 = some x) (hq : Q (some (.inl x)) w) : pm_Gx (RT d) co_X8_canSay 0 [some (.inr (.inr (19, 0))), some (.inl a1), some (.inl a2), none] [] w Q := by
  unfold f_X8_canSay at hf
  obtain ⟨hs1, hf⟩ := pm_itn hf
  obtain ⟨hs2, hf⟩ := pm_itn hf
  refine pm_go (i2 := 14) (ls2 := [some (.inr (.inr (19, 0))), some (.inl a1), some (.inl a2), some (.inl (w.1 23 0 (((9 * a1) + a2).toNatClampNeg)))]) (st2 := [.inl 1, .inl (w.1 20 0 a2.toNatClampNeg)]) (w2 := w) 14 (fun F h => ⟨(pm_inb_in hs1), (pm_inb_in hs2), h⟩) ?_
  refine pm_if (P := (w.1 20 0 a2.toNatClampNeg) = 1) (i2 := 15) (i3 := 38) (ls2 := [some (.inr (.inr (19, 0))), some (.inl a1), some (.inl a2), some (.inl (w.1 23 0 (((9 * a1) + a2).toNatClampNeg)))]) (st2 := []) (w2 := w) 1 (fun F h => h) (fun hc3 => ?_) (fun hc3 => ?_)
  · rw [if_pos hc3] at hf
    obtain ⟨hs4, hf⟩ := pm_itn hf
    refine pm_go (i2 := 26) (ls2 := [some (.inr (.inr (19, 0))), some (.inl a1), some (.inl a2), some (.inl (w.1 23 0 (((9 * a1) + a2).toNatClampNeg)))]) (st2 := [.inl (w.1 23 0 (((9 * a1) + 5).toNatClampNeg)), .inl ((w.1 23 0 (((9 * a1) + a2).toNatClampNeg)) + 1)]) (w2 := w) 11 (fun F h => ⟨(pm_inb_in hs4), h⟩) ?_
    refine pm_if (P := (w.1 23 0 (((9 * a1) + 5).toNatClampNeg)) ≤ ((w.1 23 0 (((9 * a1) + a2).toNatClampNeg)) + 1)) (i2 := 36) (i3 := 27) (ls2 := [some (.inr (.inr (19, 0))), some (.inl a1), some (.inl a2), some (.inl (w.1 23 0 (((9 * a1) + a2).toNatClampNeg)))]) (st2 := []) (w2 := w) 1 (fun F h => h) (fun hc5 => ?_) (fun hc5 => ?_)
    · rw [if_pos hc5] at hf
      refine pm_go (i2 := 37) (ls2 := [some (.inr (.inr (19, 0))), some (.inl a1), some (.inl a2), some (.inl (w.1 23 0 (((9 * a1) + a2).toNatClampNeg)))]) (st2 := [.inl 0]) (w2 := w) 1 (fun F h => h) ?_
      obtain rfl := Option.some.inj hf
      exact pm_re (r := some (.inl 0)) (w2 := w) 1 (fun F h => ⟨rfl, h⟩) hq
    · rw [if_neg hc5] at hf
      refine pm_go (i2 := 32) (ls2 := [some (.inr (.inr (19, 0))), some (.inl a1), some (.inl a2), some (.inl (w.1 23 0 (((9 * a1) + a2).toNatClampNeg)))]) (st2 := [.inl ((w.1 23 0 (((9 * a1) + a2).toNatClampNeg)) + 1), .inl a1, .inr (.inr (19, 0))]) (w2 := w) 5 (fun F h => h) ?_
      obtain ⟨r6, hr7, hf⟩ := Option.bind_eq_some_iff.mp hf
      refine pm_ca (y := 105) (as := [.inr (.inr (19, 0)), .inl a1, .inl ((w.1 23 0 (((9 * a1) + a2).toNatClampNeg)) + 1)]) (r := some (.inl r6)) (w2 := w) (w1 := w) (t := []) (i2 := 33) (ls2 := [some (.inr (.inr (19, 0))), some (.inl a1), some (.inl a2), some (.inl (w.1 23 0 (((9 * a1) + a2).toNatClampNeg)))]) 1 (a_X8_isTaken F w a1 ((w.1 23 0 (((9 * a1) + a2).toNatClampNeg)) + 1) r6 d (by omega) hr7) (fun F h => h) ?_
      show pm_Gx (RT d) co_X8_canSay 33 [some (.inr (.inr (19, 0))), some (.inl a1), some (.inl a2), some (.inl (w.1 23 0 (((9 * a1) + a2).toNatClampNeg)))] [.inl r6] w Q
      have key : pm_Gx (RT d) co_X8_canSay 37 [some (.inr (.inr (19, 0))), some (.inl a1), some (.inl a2), some (.inl (w.1 23 0 (((9 * a1) + a2).toNatClampNeg)))] [.inl (if r6 = 0 then 1 else 0 : Int32)] w Q := by
        obtain ⟨hz8, hf⟩ := pm_itn hf
        obtain rfl := Option.some.inj hf
        exact pm_re (r := some (.inl (if r6 = 0 then 1 else 0 : Int32))) (w2 := w) 1 (fun F h => ⟨pm_isb_nar hz8, h⟩) hq
      clear hf
      refine pm_if (P := r6 = 0) (i2 := 34) (i3 := 36) (ls2 := [some (.inr (.inr (19, 0))), some (.inl a1), some (.inl a2), some (.inl (w.1 23 0 (((9 * a1) + a2).toNatClampNeg)))]) (st2 := []) (w2 := w) 1 (fun F h => h) (fun hc9 => ?_) (fun hc9 => ?_)
      · try simp only [if_pos hc9] at key
        refine pm_go (i2 := 37) (ls2 := [some (.inr (.inr (19, 0))), some (.inl a1), some (.inl a2), some (.inl (w.1 23 0 (((9 * a1) + a2).toNatClampNeg)))]) (st2 := [.inl 1]) (w2 := w) 2 (fun F h => h) ?_
        exact key
      · try simp only [if_neg hc9] at key
        refine pm_go (i2 := 37) (ls2 := [some (.inr (.inr (19, 0))), some (.inl a1), some (.inl a2), some (.inl (w.1 23 0 (((9 * a1) + a2).toNatClampNeg)))]) (st2 := [.inl 0]) (w2 := w) 1 (fun F h => h) ?_
        exact key
  · rw [if_neg hc3] at hf
    obtain ⟨hs10, hf⟩ := pm_itn hf
    refine pm_go (i2 := 48) (ls2 := [some (.inr (.inr (19, 0))), some (.inl a1), some (.inl a2), some (.inl (w.1 23 0 (((9 * a1) + a2).toNatClampNeg)))]) (st2 := [.inl a2, .inr (.inr (19, 0)), .inl (w.1 23 0 (((9 * a1) + 5).toNatClampNeg))]) (w2 := w) 10 (fun F h => ⟨(pm_inb_in hs10), h⟩) ?_
    obtain ⟨r11, hr12, hf⟩ := Option.bind_eq_some_iff.mp hf
    refine pm_ca (y := 106) (as := [.inr (.inr (19, 0)), .inl a2]) (r := some (.inl r11)) (w2 := w) (w1 := w) (t := [.inl (w.1 23 0 (((9 * a1) + 5).toNatClampNeg))]) (i2 := 49) (ls2 := [some (.inr (.inr (19, 0))), some (.inl a1), some (.inl a2), some (.inl (w.1 23 0 (((9 * a1) + a2).toNatClampNeg)))]) 1 (a_X8_growth F w a2 r11 d (by omega) hr12) (fun F h => h) ?_
    show pm_Gx (RT d) co_X8_canSay 49 [some (.inr (.inr (19, 0))), some (.inl a1), some (.inl a2), some (.inl (w.1 23 0 (((9 * a1) + a2).toNatClampNeg)))] [.inl r11, .inl (w.1 23 0 (((9 * a1) + 5).toNatClampNeg))] w Q
    refine pm_go (i2 := 51) (ls2 := [some (.inr (.inr (19, 0))), some (.inl a1), some (.inl a2), some (.inl (w.1 23 0 (((9 * a1) + a2).toNatClampNeg)))]) (st2 := [.inl 60, .inl ((w.1 23 0 (((9 * a1) + 5).toNatClampNeg)) + r11)]) (w2 := w) 2 (fun F h => h) ?_
    have key : pm_Gx (RT d) co_X8_canSay 55 [some (.inr (.inr (19, 0))), some (.inl a1), some (.inl a2), some (.inl (w.1 23 0 (((9 * a1) + a2).toNatClampNeg)))] [.inl (if 60 < ((w.1 23 0 (((9 * a1) + 5).toNatClampNeg)) + r11) then 0 else 1 : Int32)] w Q := by
      obtain ⟨hz13, hf⟩ := pm_itn hf
      obtain rfl := Option.some.inj hf
      exact pm_re (r := some (.inl (if 60 < ((w.1 23 0 (((9 * a1) + 5).toNatClampNeg)) + r11) then 0 else 1 : Int32))) (w2 := w) 1 (fun F h => ⟨pm_isb_nar hz13, h⟩) hq
    clear hf
    refine pm_if (P := 60 < ((w.1 23 0 (((9 * a1) + 5).toNatClampNeg)) + r11)) (i2 := 54) (i3 := 52) (ls2 := [some (.inr (.inr (19, 0))), some (.inl a1), some (.inl a2), some (.inl (w.1 23 0 (((9 * a1) + a2).toNatClampNeg)))]) (st2 := []) (w2 := w) 1 (fun F h => h) (fun hc14 => ?_) (fun hc14 => ?_)
    · try simp only [if_pos hc14] at key
      refine pm_go (i2 := 55) (ls2 := [some (.inr (.inr (19, 0))), some (.inl a1), some (.inl a2), some (.inl (w.1 23 0 (((9 * a1) + a2).toNatClampNeg)))]) (st2 := [.inl 0]) (w2 := w) 1 (fun F h => h) ?_
      exact key
    · try simp only [if_neg hc14] at key
      refine pm_go (i2 := 55) (ls2 := [some (.inr (.inr (19, 0))), some (.inl a1), some (.inl a2), some (.inl (w.1 23 0 (((9 * a1) + a2).toNatClampNeg)))]) (st2 := [.inl 1]) (w2 := w) 2 (fun F h => h) ?_
      exact key
set_option maxRecDepth 20000 in
set_option maxHeartbeats 4000000 in
theorem a_X8_canSay (F : Nat) (w : pm_W) (a1 : Int32) (a2 : Int32) (x : Int32) (d : Nat) (hd : 2 ≤ d) (hf : f_X8_canSay F w a1 a2 = some x) : RT d 107 [.inr (.inr (19, 0)), .inl a1, .inl a2] w (some (.inl x)) w := by
  obtain ⟨d, rfl, hd2⟩ := pm_dep hd
  exact pm_start (co := co_X8_canSay) (nL := 4) (by decide) rfl rfl (Nat.le_of_ble_eq_true rfl) (b_X8_canSay F d hd2 _ w a1 a2 x hf ⟨rfl, rfl⟩)
def f_X8_sayOn_L17 (F : Nat) : Nat → pm_W → Int32 → Int32 → Int32 → Int32 → Int32 → Int32 → Option (Int32 × pm_W)
  | 0, _, _, _, _, _, _, _ => none
  | n + 1, w, v1, v2, v3, v4, v5, v6 => (if (w.1 19 0 0) ≤ v6 then some (v6, w) else (if pm_inb (v3 + v6) 18 = true then (if pm_inb (v3 + v6) 18 = true then (if pm_inb (v3 + v6) 18 = true then (pm_wlet (pm_setI w 23 0 ((v3 + v6).toNatClampNeg) ((w.1 23 0 ((v3 + v6).toNatClampNeg)) + (if (w.1 23 0 ((v3 + v6).toNatClampNeg)) ≤ v4 then 0 else v5 : Int32))) fun w8 => f_X8_sayOn_L17 F n w8 v1 v2 v3 v4 v5 (v6 + 1)) else none) else none) else none))
def f_X8_sayOn (F : Nat) (w : pm_W) (a1 : Int32) (a2 : Int32) : Option (pm_W) := (if pm_inb ((9 * a1) + a2) 18 = true then ((f_X8_growth F w a2).bind fun r2 => ((f_X8_sayOn_L17 F F w a1 a2 (9 * a1) (w.1 23 0 (((9 * a1) + a2).toNatClampNeg)) r2 0).bind fun x10 => (if pm_inb ((9 * a1) + 6) 18 = true then (if pm_inb ((9 * a1) + 6) 18 = true then (if pm_inb ((9 * a1) + 6) 18 = true then (pm_wlet (pm_setI x10.2 23 0 (((9 * a1) + 6).toNatClampNeg) ((x10.2.1 23 0 (((9 * a1) + 6).toNatClampNeg)) + (if (x10.2.1 23 0 (((9 * a1) + 6).toNatClampNeg)) ≤ (w.1 23 0 (((9 * a1) + a2).toNatClampNeg)) then 0 else r2 : Int32))) fun w15 => (if pm_inb ((9 * a1) + 5) 18 = true then (if pm_inb ((9 * a1) + 5) 18 = true then (pm_wlet (pm_setI w15 23 0 (((9 * a1) + 5).toNatClampNeg) ((w15.1 23 0 (((9 * a1) + 5).toNatClampNeg)) + r2)) fun w18 => some w18) else none) else none)) else none) else none) else none))) else none)
set_option maxRecDepth 20000 in
set_option maxHeartbeats 4000000 in
theorem a_X8_sayOn_L17 (F : Nat) (d : Nat) (hd : 1 ≤ d) (Q : pm_Q) : ∀ (n : Nat) (w : pm_W) (v1 : Int32) (v2 : Int32) (v3 : Int32) (v4 : Int32) (v5 : Int32) (v6 : Int32) (x : Int32 × pm_W), f_X8_sayOn_L17 F n w v1 v2 v3 v4 v5 v6 = some x → pm_Gx (RT d) co_X8_sayOn 43 [some (.inr (.inr (19, 0))), some (.inl v1), some (.inl v2), some (.inl v3), some (.inl v4), some (.inl v5), some (.inl x.1)] [] x.2 Q → pm_Gx (RT d) co_X8_sayOn 17 [some (.inr (.inr (19, 0))), some (.inl v1), some (.inl v2), some (.inl v3), some (.inl v4), some (.inl v5), some (.inl v6)] [] w Q := by
  intro n
  induction n with
  | zero =>
    intro w v1 v2 v3 v4 v5 v6 x hf
    cases hf
  | succ n ih =>
    intro w v1 v2 v3 v4 v5 v6 x hf hk
    rw [f_X8_sayOn_L17] at hf
    refine pm_go (i2 := 20) (ls2 := [some (.inr (.inr (19, 0))), some (.inl v1), some (.inl v2), some (.inl v3), some (.inl v4), some (.inl v5), some (.inl v6)]) (st2 := [.inl (w.1 19 0 0), .inl v6]) (w2 := w) 3 (fun F h => h) ?_
    refine pm_if (P := (w.1 19 0 0) ≤ v6) (i2 := 43) (i3 := 21) (ls2 := [some (.inr (.inr (19, 0))), some (.inl v1), some (.inl v2), some (.inl v3), some (.inl v4), some (.inl v5), some (.inl v6)]) (st2 := []) (w2 := w) 1 (fun F h => h) (fun hc4 => ?_) (fun hc4 => ?_)
    · rw [if_pos hc4] at hf
      obtain rfl := Option.some.inj hf
      exact hk
    · rw [if_neg hc4] at hf
      obtain ⟨hs5, hf⟩ := pm_itn hf
      obtain ⟨hs6, hf⟩ := pm_itn hf
      refine pm_go (i2 := 35) (ls2 := [some (.inr (.inr (19, 0))), some (.inl v1), some (.inl v2), some (.inl v3), some (.inl v4), some (.inl v5), some (.inl v6)]) (st2 := [.inl v4, .inl (w.1 23 0 ((v3 + v6).toNatClampNeg)), .inl (w.1 23 0 ((v3 + v6).toNatClampNeg)), .inl (v3 + v6), .inr (.inr (23, 0))]) (w2 := w) 14 (fun F h => ⟨(pm_inb_in hs5), (pm_inb_in hs6), h⟩) ?_
      have key : pm_Gx (RT d) co_X8_sayOn 39 [some (.inr (.inr (19, 0))), some (.inl v1), some (.inl v2), some (.inl v3), some (.inl v4), some (.inl v5), some (.inl v6)] [.inl (if (w.1 23 0 ((v3 + v6).toNatClampNeg)) ≤ v4 then 0 else v5 : Int32), .inl (w.1 23 0 ((v3 + v6).toNatClampNeg)), .inl (v3 + v6), .inr (.inr (23, 0))] w Q := by
        obtain ⟨hs7, hf⟩ := pm_itn hf
        refine pm_go (i2 := 41) (ls2 := [some (.inr (.inr (19, 0))), some (.inl v1), some (.inl v2), some (.inl v3), some (.inl v4), some (.inl v5), some (.inl v6)]) (st2 := []) (w2 := (pm_setI w 23 0 ((v3 + v6).toNatClampNeg) ((w.1 23 0 ((v3 + v6).toNatClampNeg)) + (if (w.1 23 0 ((v3 + v6).toNatClampNeg)) ≤ v4 then 0 else v5 : Int32)))) 2 (fun F h => ⟨(pm_inb_in hs7), h⟩) ?_
        generalize (pm_setI w 23 0 ((v3 + v6).toNatClampNeg) ((w.1 23 0 ((v3 + v6).toNatClampNeg)) + (if (w.1 23 0 ((v3 + v6).toNatClampNeg)) ≤ v4 then 0 else v5 : Int32))) = w8 at hf ⊢
        replace hf := pm_wlet_un hf
        refine pm_go (i2 := 17) (ls2 := [some (.inr (.inr (19, 0))), some (.inl v1), some (.inl v2), some (.inl v3), some (.inl v4), some (.inl v5), some (.inl (v6 + 1))]) (st2 := []) (w2 := w8) 2 (fun F h => h) ?_
        exact ih w8 v1 v2 v3 v4 v5 (v6 + 1) _ hf hk
      clear hf
      refine pm_if (P := (w.1 23 0 ((v3 + v6).toNatClampNeg)) ≤ v4) (i2 := 38) (i3 := 36) (ls2 := [some (.inr (.inr (19, 0))), some (.inl v1), some (.inl v2), some (.inl v3), some (.inl v4), some (.inl v5), some (.inl v6)]) (st2 := [.inl (w.1 23 0 ((v3 + v6).toNatClampNeg)), .inl (v3 + v6), .inr (.inr (23, 0))]) (w2 := w) 1 (fun F h => h) (fun hc9 => ?_) (fun hc9 => ?_)
      · try simp only [if_pos hc9] at key
        refine pm_go (i2 := 39) (ls2 := [some (.inr (.inr (19, 0))), some (.inl v1), some (.inl v2), some (.inl v3), some (.inl v4), some (.inl v5), some (.inl v6)]) (st2 := [.inl 0, .inl (w.1 23 0 ((v3 + v6).toNatClampNeg)), .inl (v3 + v6), .inr (.inr (23, 0))]) (w2 := w) 1 (fun F h => h) ?_
        exact key
      · try simp only [if_neg hc9] at key
        refine pm_go (i2 := 39) (ls2 := [some (.inr (.inr (19, 0))), some (.inl v1), some (.inl v2), some (.inl v3), some (.inl v4), some (.inl v5), some (.inl v6)]) (st2 := [.inl v5, .inl (w.1 23 0 ((v3 + v6).toNatClampNeg)), .inl (v3 + v6), .inr (.inr (23, 0))]) (w2 := w) 2 (fun F h => h) ?_
        exact key
set_option maxRecDepth 20000 in
set_option maxHeartbeats 4000000 in
theorem b_X8_sayOn (F : Nat) (d : Nat) (hd : 1 ≤ d) (Q : pm_Q) (w : pm_W) (a1 : Int32) (a2 : Int32) (x : pm_W) (hf : f_X8_sayOn F w a1 a2 = some x) (hq : Q (none) x) : pm_Gx (RT d) co_X8_sayOn 0 [some (.inr (.inr (19, 0))), some (.inl a1), some (.inl a2), none, none, none, none] [] w Q := by
  unfold f_X8_sayOn at hf
  obtain ⟨hs1, hf⟩ := pm_itn hf
  refine pm_go (i2 := 13) (ls2 := [some (.inr (.inr (19, 0))), some (.inl a1), some (.inl a2), some (.inl (9 * a1)), some (.inl (w.1 23 0 (((9 * a1) + a2).toNatClampNeg))), none, none]) (st2 := [.inl a2, .inr (.inr (19, 0))]) (w2 := w) 13 (fun F h => ⟨(pm_inb_in hs1), h⟩) ?_
  obtain ⟨r2, hr3, hf⟩ := Option.bind_eq_some_iff.mp hf
  refine pm_ca (y := 106) (as := [.inr (.inr (19, 0)), .inl a2]) (r := some (.inl r2)) (w2 := w) (w1 := w) (t := []) (i2 := 14) (ls2 := [some (.inr (.inr (19, 0))), some (.inl a1), some (.inl a2), some (.inl (9 * a1)), some (.inl (w.1 23 0 (((9 * a1) + a2).toNatClampNeg))), none, none]) 1 (a_X8_growth F w a2 r2 d (by omega) hr3) (fun F h => h) ?_
  show pm_Gx (RT d) co_X8_sayOn 14 [some (.inr (.inr (19, 0))), some (.inl a1), some (.inl a2), some (.inl (9 * a1)), some (.inl (w.1 23 0 (((9 * a1) + a2).toNatClampNeg))), none, none] [.inl r2] w Q
  refine pm_go (i2 := 17) (ls2 := [some (.inr (.inr (19, 0))), some (.inl a1), some (.inl a2), some (.inl (9 * a1)), some (.inl (w.1 23 0 (((9 * a1) + a2).toNatClampNeg))), some (.inl r2), some (.inl 0)]) (st2 := []) (w2 := w) 3 (fun F h => h) ?_
  obtain ⟨x10, hx11, hf⟩ := Option.bind_eq_some_iff.mp hf
  refine a_X8_sayOn_L17 F d hd Q F w a1 a2 (9 * a1) (w.1 23 0 (((9 * a1) + a2).toNatClampNeg)) r2 0 x10 hx11 ?_
  obtain ⟨hs12, hf⟩ := pm_itn hf
  obtain ⟨hs13, hf⟩ := pm_itn hf
  refine pm_go (i2 := 57) (ls2 := [some (.inr (.inr (19, 0))), some (.inl a1), some (.inl a2), some (.inl (9 * a1)), some (.inl (w.1 23 0 (((9 * a1) + a2).toNatClampNeg))), some (.inl r2), some (.inl x10.1)]) (st2 := [.inl (w.1 23 0 (((9 * a1) + a2).toNatClampNeg)), .inl (x10.2.1 23 0 (((9 * a1) + 6).toNatClampNeg)), .inl (x10.2.1 23 0 (((9 * a1) + 6).toNatClampNeg)), .inl ((9 * a1) + 6), .inr (.inr (23, 0))]) (w2 := x10.2) 14 (fun F h => ⟨(pm_inb_in hs12), (pm_inb_in hs13), h⟩) ?_
  have key : pm_Gx (RT d) co_X8_sayOn 61 [some (.inr (.inr (19, 0))), some (.inl a1), some (.inl a2), some (.inl (9 * a1)), some (.inl (w.1 23 0 (((9 * a1) + a2).toNatClampNeg))), some (.inl r2), some (.inl x10.1)] [.inl (if (x10.2.1 23 0 (((9 * a1) + 6).toNatClampNeg)) ≤ (w.1 23 0 (((9 * a1) + a2).toNatClampNeg)) then 0 else r2 : Int32), .inl (x10.2.1 23 0 (((9 * a1) + 6).toNatClampNeg)), .inl ((9 * a1) + 6), .inr (.inr (23, 0))] x10.2 Q := by
    obtain ⟨hs14, hf⟩ := pm_itn hf
    refine pm_go (i2 := 63) (ls2 := [some (.inr (.inr (19, 0))), some (.inl a1), some (.inl a2), some (.inl (9 * a1)), some (.inl (w.1 23 0 (((9 * a1) + a2).toNatClampNeg))), some (.inl r2), some (.inl x10.1)]) (st2 := []) (w2 := (pm_setI x10.2 23 0 (((9 * a1) + 6).toNatClampNeg) ((x10.2.1 23 0 (((9 * a1) + 6).toNatClampNeg)) + (if (x10.2.1 23 0 (((9 * a1) + 6).toNatClampNeg)) ≤ (w.1 23 0 (((9 * a1) + a2).toNatClampNeg)) then 0 else r2 : Int32)))) 2 (fun F h => ⟨(pm_inb_in hs14), h⟩) ?_
    generalize (pm_setI x10.2 23 0 (((9 * a1) + 6).toNatClampNeg) ((x10.2.1 23 0 (((9 * a1) + 6).toNatClampNeg)) + (if (x10.2.1 23 0 (((9 * a1) + 6).toNatClampNeg)) ≤ (w.1 23 0 (((9 * a1) + a2).toNatClampNeg)) then 0 else r2 : Int32))) = w15 at hf ⊢
    replace hf := pm_wlet_un hf
    obtain ⟨hs16, hf⟩ := pm_itn hf
    obtain ⟨hs17, hf⟩ := pm_itn hf
    refine pm_go (i2 := 73) (ls2 := [some (.inr (.inr (19, 0))), some (.inl a1), some (.inl a2), some (.inl (9 * a1)), some (.inl (w.1 23 0 (((9 * a1) + a2).toNatClampNeg))), some (.inl r2), some (.inl x10.1)]) (st2 := []) (w2 := (pm_setI w15 23 0 (((9 * a1) + 5).toNatClampNeg) ((w15.1 23 0 (((9 * a1) + 5).toNatClampNeg)) + r2))) 10 (fun F h => ⟨(pm_inb_in hs16), (pm_inb_in hs17), h⟩) ?_
    generalize (pm_setI w15 23 0 (((9 * a1) + 5).toNatClampNeg) ((w15.1 23 0 (((9 * a1) + 5).toNatClampNeg)) + r2)) = w18 at hf ⊢
    replace hf := pm_wlet_un hf
    obtain rfl := Option.some.inj hf
    exact pm_re (r := none) (w2 := w18) 1 (fun F h => h) hq
  clear hf
  refine pm_if (P := (x10.2.1 23 0 (((9 * a1) + 6).toNatClampNeg)) ≤ (w.1 23 0 (((9 * a1) + a2).toNatClampNeg))) (i2 := 60) (i3 := 58) (ls2 := [some (.inr (.inr (19, 0))), some (.inl a1), some (.inl a2), some (.inl (9 * a1)), some (.inl (w.1 23 0 (((9 * a1) + a2).toNatClampNeg))), some (.inl r2), some (.inl x10.1)]) (st2 := [.inl (x10.2.1 23 0 (((9 * a1) + 6).toNatClampNeg)), .inl ((9 * a1) + 6), .inr (.inr (23, 0))]) (w2 := x10.2) 1 (fun F h => h) (fun hc19 => ?_) (fun hc19 => ?_)
  · try simp only [if_pos hc19] at key
    refine pm_go (i2 := 61) (ls2 := [some (.inr (.inr (19, 0))), some (.inl a1), some (.inl a2), some (.inl (9 * a1)), some (.inl (w.1 23 0 (((9 * a1) + a2).toNatClampNeg))), some (.inl r2), some (.inl x10.1)]) (st2 := [.inl 0, .inl (x10.2.1 23 0 (((9 * a1) + 6).toNatClampNeg)), .inl ((9 * a1) + 6), .inr (.inr (23, 0))]) (w2 := x10.2) 1 (fun F h => h) ?_
    exact key
  · try simp only [if_neg hc19] at key
    refine pm_go (i2 := 61) (ls2 := [some (.inr (.inr (19, 0))), some (.inl a1), some (.inl a2), some (.inl (9 * a1)), some (.inl (w.1 23 0 (((9 * a1) + a2).toNatClampNeg))), some (.inl r2), some (.inl x10.1)]) (st2 := [.inl r2, .inl (x10.2.1 23 0 (((9 * a1) + 6).toNatClampNeg)), .inl ((9 * a1) + 6), .inr (.inr (23, 0))]) (w2 := x10.2) 2 (fun F h => h) ?_
    exact key
set_option maxRecDepth 20000 in
set_option maxHeartbeats 4000000 in
theorem a_X8_sayOn (F : Nat) (w : pm_W) (a1 : Int32) (a2 : Int32) (x : pm_W) (d : Nat) (hd : 2 ≤ d) (hf : f_X8_sayOn F w a1 a2 = some x) : RT d 108 [.inr (.inr (19, 0)), .inl a1, .inl a2] w (none) x := by
  obtain ⟨d, rfl, hd2⟩ := pm_dep hd
  exact pm_start (co := co_X8_sayOn) (nL := 7) (by decide) rfl rfl (Nat.le_of_ble_eq_true rfl) (b_X8_sayOn F d hd2 _ w a1 a2 x hf ⟨rfl, rfl⟩)
def f_X8_passOn (F : Nat) (w : pm_W) (a1 : Int32) (a2 : Int32) : Option (pm_W) := (if pm_inb ((9 * a1) + a2) 18 = true then (if pm_inb ((9 * a1) + 6) 18 = true then (if pm_inb ((9 * a1) + 7) 18 = true then (if pm_inb ((9 * a1) + 7) 18 = true then (pm_wlet (pm_setI w 23 0 (((9 * a1) + 7).toNatClampNeg) (if 0 ≤ ((w.1 23 0 (((9 * a1) + 7).toNatClampNeg)) - (if 0 ≤ ((w.1 23 0 (((9 * a1) + a2).toNatClampNeg)) - (w.1 23 0 (((9 * a1) + 6).toNatClampNeg))) then (w.1 23 0 (((9 * a1) + a2).toNatClampNeg)) - (w.1 23 0 (((9 * a1) + 6).toNatClampNeg)) else -((w.1 23 0 (((9 * a1) + a2).toNatClampNeg)) - (w.1 23 0 (((9 * a1) + 6).toNatClampNeg))) : Int32)) then (w.1 23 0 (((9 * a1) + 7).toNatClampNeg)) - (if 0 ≤ ((w.1 23 0 (((9 * a1) + a2).toNatClampNeg)) - (w.1 23 0 (((9 * a1) + 6).toNatClampNeg))) then (w.1 23 0 (((9 * a1) + a2).toNatClampNeg)) - (w.1 23 0 (((9 * a1) + 6).toNatClampNeg)) else -((w.1 23 0 (((9 * a1) + a2).toNatClampNeg)) - (w.1 23 0 (((9 * a1) + 6).toNatClampNeg))) : Int32) else 0 : Int32)) fun w5 => (if pm_inb ((9 * a1) + a2) 18 = true then (if pm_inb ((9 * a1) + 6) 18 = true then (pm_wlet (pm_setI w5 23 0 (((9 * a1) + 6).toNatClampNeg) (w5.1 23 0 (((9 * a1) + a2).toNatClampNeg))) fun w8 => (if pm_inb ((9 * a1) + 8) 18 = true then (if pm_inb ((9 * a1) + 7) 18 = true then (if pm_inb a2 5 = true then (if pm_inb ((9 * a1) + 8) 18 = true then (pm_wlet (pm_setI w8 23 0 (((9 * a1) + 8).toNatClampNeg) ((w8.1 23 0 (((9 * a1) + 8).toNatClampNeg)) ||| (if (w8.1 23 0 (((9 * a1) + 7).toNatClampNeg)) < (w8.1 21 0 a2.toNatClampNeg) then 0 else 1 <<< (a2 &&& 31) : Int32))) fun w13 => some w13) else none) else none) else none) else none)) else none) else none)) else none) else none) else none) else none)
set_option maxRecDepth 20000 in
set_option maxHeartbeats 4000000 in
theorem b_X8_passOn (F : Nat) (d : Nat) (hd : 0 ≤ d) (Q : pm_Q) (w : pm_W) (a1 : Int32) (a2 : Int32) (x : pm_W) (hf : f_X8_passOn F w a1 a2 = some x) (hq : Q (none) x) : pm_Gx (RT d) co_X8_passOn 0 [some (.inr (.inr (19, 0))), some (.inl a1), some (.inl a2), none, none, none] [] w Q := by
  unfold f_X8_passOn at hf
  obtain ⟨hs1, hf⟩ := pm_itn hf
  obtain ⟨hs2, hf⟩ := pm_itn hf
  obtain ⟨hs3, hf⟩ := pm_itn hf
  refine pm_go (i2 := 25) (ls2 := [some (.inr (.inr (19, 0))), some (.inl a1), some (.inl a2), some (.inl (9 * a1)), some (.inl ((w.1 23 0 (((9 * a1) + a2).toNatClampNeg)) - (w.1 23 0 (((9 * a1) + 6).toNatClampNeg)))), none]) (st2 := [.inl ((w.1 23 0 (((9 * a1) + a2).toNatClampNeg)) - (w.1 23 0 (((9 * a1) + 6).toNatClampNeg))), .inl (w.1 23 0 (((9 * a1) + 7).toNatClampNeg))]) (w2 := w) 25 (fun F h => ⟨(pm_inb_in hs1), (pm_inb_in hs2), (pm_inb_in hs3), h⟩) ?_
  have key : pm_Gx (RT d) co_X8_passOn 30 [some (.inr (.inr (19, 0))), some (.inl a1), some (.inl a2), some (.inl (9 * a1)), some (.inl ((w.1 23 0 (((9 * a1) + a2).toNatClampNeg)) - (w.1 23 0 (((9 * a1) + 6).toNatClampNeg)))), none] [.inl (if 0 ≤ ((w.1 23 0 (((9 * a1) + a2).toNatClampNeg)) - (w.1 23 0 (((9 * a1) + 6).toNatClampNeg))) then (w.1 23 0 (((9 * a1) + a2).toNatClampNeg)) - (w.1 23 0 (((9 * a1) + 6).toNatClampNeg)) else -((w.1 23 0 (((9 * a1) + a2).toNatClampNeg)) - (w.1 23 0 (((9 * a1) + 6).toNatClampNeg))) : Int32), .inl (w.1 23 0 (((9 * a1) + 7).toNatClampNeg))] w Q := by
    refine pm_go (i2 := 38) (ls2 := [some (.inr (.inr (19, 0))), some (.inl a1), some (.inl a2), some (.inl (9 * a1)), some (.inl ((w.1 23 0 (((9 * a1) + a2).toNatClampNeg)) - (w.1 23 0 (((9 * a1) + 6).toNatClampNeg)))), some (.inl ((w.1 23 0 (((9 * a1) + 7).toNatClampNeg)) - (if 0 ≤ ((w.1 23 0 (((9 * a1) + a2).toNatClampNeg)) - (w.1 23 0 (((9 * a1) + 6).toNatClampNeg))) then (w.1 23 0 (((9 * a1) + a2).toNatClampNeg)) - (w.1 23 0 (((9 * a1) + 6).toNatClampNeg)) else -((w.1 23 0 (((9 * a1) + a2).toNatClampNeg)) - (w.1 23 0 (((9 * a1) + 6).toNatClampNeg))) : Int32)))]) (st2 := [.inl ((w.1 23 0 (((9 * a1) + 7).toNatClampNeg)) - (if 0 ≤ ((w.1 23 0 (((9 * a1) + a2).toNatClampNeg)) - (w.1 23 0 (((9 * a1) + 6).toNatClampNeg))) then (w.1 23 0 (((9 * a1) + a2).toNatClampNeg)) - (w.1 23 0 (((9 * a1) + 6).toNatClampNeg)) else -((w.1 23 0 (((9 * a1) + a2).toNatClampNeg)) - (w.1 23 0 (((9 * a1) + 6).toNatClampNeg))) : Int32)), .inl ((9 * a1) + 7), .inr (.inr (23, 0))]) (w2 := w) 8 (fun F h => h) ?_
    have key : pm_Gx (RT d) co_X8_passOn 42 [some (.inr (.inr (19, 0))), some (.inl a1), some (.inl a2), some (.inl (9 * a1)), some (.inl ((w.1 23 0 (((9 * a1) + a2).toNatClampNeg)) - (w.1 23 0 (((9 * a1) + 6).toNatClampNeg)))), some (.inl ((w.1 23 0 (((9 * a1) + 7).toNatClampNeg)) - (if 0 ≤ ((w.1 23 0 (((9 * a1) + a2).toNatClampNeg)) - (w.1 23 0 (((9 * a1) + 6).toNatClampNeg))) then (w.1 23 0 (((9 * a1) + a2).toNatClampNeg)) - (w.1 23 0 (((9 * a1) + 6).toNatClampNeg)) else -((w.1 23 0 (((9 * a1) + a2).toNatClampNeg)) - (w.1 23 0 (((9 * a1) + 6).toNatClampNeg))) : Int32)))] [.inl (if 0 ≤ ((w.1 23 0 (((9 * a1) + 7).toNatClampNeg)) - (if 0 ≤ ((w.1 23 0 (((9 * a1) + a2).toNatClampNeg)) - (w.1 23 0 (((9 * a1) + 6).toNatClampNeg))) then (w.1 23 0 (((9 * a1) + a2).toNatClampNeg)) - (w.1 23 0 (((9 * a1) + 6).toNatClampNeg)) else -((w.1 23 0 (((9 * a1) + a2).toNatClampNeg)) - (w.1 23 0 (((9 * a1) + 6).toNatClampNeg))) : Int32)) then (w.1 23 0 (((9 * a1) + 7).toNatClampNeg)) - (if 0 ≤ ((w.1 23 0 (((9 * a1) + a2).toNatClampNeg)) - (w.1 23 0 (((9 * a1) + 6).toNatClampNeg))) then (w.1 23 0 (((9 * a1) + a2).toNatClampNeg)) - (w.1 23 0 (((9 * a1) + 6).toNatClampNeg)) else -((w.1 23 0 (((9 * a1) + a2).toNatClampNeg)) - (w.1 23 0 (((9 * a1) + 6).toNatClampNeg))) : Int32) else 0 : Int32), .inl ((9 * a1) + 7), .inr (.inr (23, 0))] w Q := by
      obtain ⟨hs4, hf⟩ := pm_itn hf
      refine pm_go (i2 := 43) (ls2 := [some (.inr (.inr (19, 0))), some (.inl a1), some (.inl a2), some (.inl (9 * a1)), some (.inl ((w.1 23 0 (((9 * a1) + a2).toNatClampNeg)) - (w.1 23 0 (((9 * a1) + 6).toNatClampNeg)))), some (.inl ((w.1 23 0 (((9 * a1) + 7).toNatClampNeg)) - (if 0 ≤ ((w.1 23 0 (((9 * a1) + a2).toNatClampNeg)) - (w.1 23 0 (((9 * a1) + 6).toNatClampNeg))) then (w.1 23 0 (((9 * a1) + a2).toNatClampNeg)) - (w.1 23 0 (((9 * a1) + 6).toNatClampNeg)) else -((w.1 23 0 (((9 * a1) + a2).toNatClampNeg)) - (w.1 23 0 (((9 * a1) + 6).toNatClampNeg))) : Int32)))]) (st2 := []) (w2 := (pm_setI w 23 0 (((9 * a1) + 7).toNatClampNeg) (if 0 ≤ ((w.1 23 0 (((9 * a1) + 7).toNatClampNeg)) - (if 0 ≤ ((w.1 23 0 (((9 * a1) + a2).toNatClampNeg)) - (w.1 23 0 (((9 * a1) + 6).toNatClampNeg))) then (w.1 23 0 (((9 * a1) + a2).toNatClampNeg)) - (w.1 23 0 (((9 * a1) + 6).toNatClampNeg)) else -((w.1 23 0 (((9 * a1) + a2).toNatClampNeg)) - (w.1 23 0 (((9 * a1) + 6).toNatClampNeg))) : Int32)) then (w.1 23 0 (((9 * a1) + 7).toNatClampNeg)) - (if 0 ≤ ((w.1 23 0 (((9 * a1) + a2).toNatClampNeg)) - (w.1 23 0 (((9 * a1) + 6).toNatClampNeg))) then (w.1 23 0 (((9 * a1) + a2).toNatClampNeg)) - (w.1 23 0 (((9 * a1) + 6).toNatClampNeg)) else -((w.1 23 0 (((9 * a1) + a2).toNatClampNeg)) - (w.1 23 0 (((9 * a1) + 6).toNatClampNeg))) : Int32) else 0 : Int32))) 1 (fun F h => ⟨(pm_inb_in hs4), h⟩) ?_
      generalize (pm_setI w 23 0 (((9 * a1) + 7).toNatClampNeg) (if 0 ≤ ((w.1 23 0 (((9 * a1) + 7).toNatClampNeg)) - (if 0 ≤ ((w.1 23 0 (((9 * a1) + a2).toNatClampNeg)) - (w.1 23 0 (((9 * a1) + 6).toNatClampNeg))) then (w.1 23 0 (((9 * a1) + a2).toNatClampNeg)) - (w.1 23 0 (((9 * a1) + 6).toNatClampNeg)) else -((w.1 23 0 (((9 * a1) + a2).toNatClampNeg)) - (w.1 23 0 (((9 * a1) + 6).toNatClampNeg))) : Int32)) then (w.1 23 0 (((9 * a1) + 7).toNatClampNeg)) - (if 0 ≤ ((w.1 23 0 (((9 * a1) + a2).toNatClampNeg)) - (w.1 23 0 (((9 * a1) + 6).toNatClampNeg))) then (w.1 23 0 (((9 * a1) + a2).toNatClampNeg)) - (w.1 23 0 (((9 * a1) + 6).toNatClampNeg)) else -((w.1 23 0 (((9 * a1) + a2).toNatClampNeg)) - (w.1 23 0 (((9 * a1) + 6).toNatClampNeg))) : Int32) else 0 : Int32)) = w5 at hf ⊢
      replace hf := pm_wlet_un hf
      obtain ⟨hs6, hf⟩ := pm_itn hf
      obtain ⟨hs7, hf⟩ := pm_itn hf
      refine pm_go (i2 := 55) (ls2 := [some (.inr (.inr (19, 0))), some (.inl a1), some (.inl a2), some (.inl (9 * a1)), some (.inl ((w.1 23 0 (((9 * a1) + a2).toNatClampNeg)) - (w.1 23 0 (((9 * a1) + 6).toNatClampNeg)))), some (.inl ((w.1 23 0 (((9 * a1) + 7).toNatClampNeg)) - (if 0 ≤ ((w.1 23 0 (((9 * a1) + a2).toNatClampNeg)) - (w.1 23 0 (((9 * a1) + 6).toNatClampNeg))) then (w.1 23 0 (((9 * a1) + a2).toNatClampNeg)) - (w.1 23 0 (((9 * a1) + 6).toNatClampNeg)) else -((w.1 23 0 (((9 * a1) + a2).toNatClampNeg)) - (w.1 23 0 (((9 * a1) + 6).toNatClampNeg))) : Int32)))]) (st2 := []) (w2 := (pm_setI w5 23 0 (((9 * a1) + 6).toNatClampNeg) (w5.1 23 0 (((9 * a1) + a2).toNatClampNeg)))) 12 (fun F h => ⟨(pm_inb_in hs6), (pm_inb_in hs7), h⟩) ?_
      generalize (pm_setI w5 23 0 (((9 * a1) + 6).toNatClampNeg) (w5.1 23 0 (((9 * a1) + a2).toNatClampNeg))) = w8 at hf ⊢
      replace hf := pm_wlet_un hf
      obtain ⟨hs9, hf⟩ := pm_itn hf
      obtain ⟨hs10, hf⟩ := pm_itn hf
      obtain ⟨hs11, hf⟩ := pm_itn hf
      refine pm_go (i2 := 72) (ls2 := [some (.inr (.inr (19, 0))), some (.inl a1), some (.inl a2), some (.inl (9 * a1)), some (.inl ((w.1 23 0 (((9 * a1) + a2).toNatClampNeg)) - (w.1 23 0 (((9 * a1) + 6).toNatClampNeg)))), some (.inl ((w.1 23 0 (((9 * a1) + 7).toNatClampNeg)) - (if 0 ≤ ((w.1 23 0 (((9 * a1) + a2).toNatClampNeg)) - (w.1 23 0 (((9 * a1) + 6).toNatClampNeg))) then (w.1 23 0 (((9 * a1) + a2).toNatClampNeg)) - (w.1 23 0 (((9 * a1) + 6).toNatClampNeg)) else -((w.1 23 0 (((9 * a1) + a2).toNatClampNeg)) - (w.1 23 0 (((9 * a1) + 6).toNatClampNeg))) : Int32)))]) (st2 := [.inl (w8.1 21 0 a2.toNatClampNeg), .inl (w8.1 23 0 (((9 * a1) + 7).toNatClampNeg)), .inl (w8.1 23 0 (((9 * a1) + 8).toNatClampNeg)), .inl ((9 * a1) + 8), .inr (.inr (23, 0))]) (w2 := w8) 17 (fun F h => ⟨(pm_inb_in hs9), (pm_inb_in hs10), (pm_inb_in hs11), h⟩) ?_
      have key : pm_Gx (RT d) co_X8_passOn 78 [some (.inr (.inr (19, 0))), some (.inl a1), some (.inl a2), some (.inl (9 * a1)), some (.inl ((w.1 23 0 (((9 * a1) + a2).toNatClampNeg)) - (w.1 23 0 (((9 * a1) + 6).toNatClampNeg)))), some (.inl ((w.1 23 0 (((9 * a1) + 7).toNatClampNeg)) - (if 0 ≤ ((w.1 23 0 (((9 * a1) + a2).toNatClampNeg)) - (w.1 23 0 (((9 * a1) + 6).toNatClampNeg))) then (w.1 23 0 (((9 * a1) + a2).toNatClampNeg)) - (w.1 23 0 (((9 * a1) + 6).toNatClampNeg)) else -((w.1 23 0 (((9 * a1) + a2).toNatClampNeg)) - (w.1 23 0 (((9 * a1) + 6).toNatClampNeg))) : Int32)))] [.inl (if (w8.1 23 0 (((9 * a1) + 7).toNatClampNeg)) < (w8.1 21 0 a2.toNatClampNeg) then 0 else 1 <<< (a2 &&& 31) : Int32), .inl (w8.1 23 0 (((9 * a1) + 8).toNatClampNeg)), .inl ((9 * a1) + 8), .inr (.inr (23, 0))] w8 Q := by
        obtain ⟨hs12, hf⟩ := pm_itn hf
        refine pm_go (i2 := 80) (ls2 := [some (.inr (.inr (19, 0))), some (.inl a1), some (.inl a2), some (.inl (9 * a1)), some (.inl ((w.1 23 0 (((9 * a1) + a2).toNatClampNeg)) - (w.1 23 0 (((9 * a1) + 6).toNatClampNeg)))), some (.inl ((w.1 23 0 (((9 * a1) + 7).toNatClampNeg)) - (if 0 ≤ ((w.1 23 0 (((9 * a1) + a2).toNatClampNeg)) - (w.1 23 0 (((9 * a1) + 6).toNatClampNeg))) then (w.1 23 0 (((9 * a1) + a2).toNatClampNeg)) - (w.1 23 0 (((9 * a1) + 6).toNatClampNeg)) else -((w.1 23 0 (((9 * a1) + a2).toNatClampNeg)) - (w.1 23 0 (((9 * a1) + 6).toNatClampNeg))) : Int32)))]) (st2 := []) (w2 := (pm_setI w8 23 0 (((9 * a1) + 8).toNatClampNeg) ((w8.1 23 0 (((9 * a1) + 8).toNatClampNeg)) ||| (if (w8.1 23 0 (((9 * a1) + 7).toNatClampNeg)) < (w8.1 21 0 a2.toNatClampNeg) then 0 else 1 <<< (a2 &&& 31) : Int32)))) 2 (fun F h => ⟨(pm_inb_in hs12), h⟩) ?_
        generalize (pm_setI w8 23 0 (((9 * a1) + 8).toNatClampNeg) ((w8.1 23 0 (((9 * a1) + 8).toNatClampNeg)) ||| (if (w8.1 23 0 (((9 * a1) + 7).toNatClampNeg)) < (w8.1 21 0 a2.toNatClampNeg) then 0 else 1 <<< (a2 &&& 31) : Int32))) = w13 at hf ⊢
        replace hf := pm_wlet_un hf
        obtain rfl := Option.some.inj hf
        exact pm_re (r := none) (w2 := w13) 1 (fun F h => h) hq
      clear hf
      refine pm_if (P := (w8.1 23 0 (((9 * a1) + 7).toNatClampNeg)) < (w8.1 21 0 a2.toNatClampNeg)) (i2 := 77) (i3 := 73) (ls2 := [some (.inr (.inr (19, 0))), some (.inl a1), some (.inl a2), some (.inl (9 * a1)), some (.inl ((w.1 23 0 (((9 * a1) + a2).toNatClampNeg)) - (w.1 23 0 (((9 * a1) + 6).toNatClampNeg)))), some (.inl ((w.1 23 0 (((9 * a1) + 7).toNatClampNeg)) - (if 0 ≤ ((w.1 23 0 (((9 * a1) + a2).toNatClampNeg)) - (w.1 23 0 (((9 * a1) + 6).toNatClampNeg))) then (w.1 23 0 (((9 * a1) + a2).toNatClampNeg)) - (w.1 23 0 (((9 * a1) + 6).toNatClampNeg)) else -((w.1 23 0 (((9 * a1) + a2).toNatClampNeg)) - (w.1 23 0 (((9 * a1) + 6).toNatClampNeg))) : Int32)))]) (st2 := [.inl (w8.1 23 0 (((9 * a1) + 8).toNatClampNeg)), .inl ((9 * a1) + 8), .inr (.inr (23, 0))]) (w2 := w8) 1 (fun F h => h) (fun hc14 => ?_) (fun hc14 => ?_)
      · try simp only [if_pos hc14] at key
        refine pm_go (i2 := 78) (ls2 := [some (.inr (.inr (19, 0))), some (.inl a1), some (.inl a2), some (.inl (9 * a1)), some (.inl ((w.1 23 0 (((9 * a1) + a2).toNatClampNeg)) - (w.1 23 0 (((9 * a1) + 6).toNatClampNeg)))), some (.inl ((w.1 23 0 (((9 * a1) + 7).toNatClampNeg)) - (if 0 ≤ ((w.1 23 0 (((9 * a1) + a2).toNatClampNeg)) - (w.1 23 0 (((9 * a1) + 6).toNatClampNeg))) then (w.1 23 0 (((9 * a1) + a2).toNatClampNeg)) - (w.1 23 0 (((9 * a1) + 6).toNatClampNeg)) else -((w.1 23 0 (((9 * a1) + a2).toNatClampNeg)) - (w.1 23 0 (((9 * a1) + 6).toNatClampNeg))) : Int32)))]) (st2 := [.inl 0, .inl (w8.1 23 0 (((9 * a1) + 8).toNatClampNeg)), .inl ((9 * a1) + 8), .inr (.inr (23, 0))]) (w2 := w8) 1 (fun F h => h) ?_
        exact key
      · try simp only [if_neg hc14] at key
        refine pm_go (i2 := 78) (ls2 := [some (.inr (.inr (19, 0))), some (.inl a1), some (.inl a2), some (.inl (9 * a1)), some (.inl ((w.1 23 0 (((9 * a1) + a2).toNatClampNeg)) - (w.1 23 0 (((9 * a1) + 6).toNatClampNeg)))), some (.inl ((w.1 23 0 (((9 * a1) + 7).toNatClampNeg)) - (if 0 ≤ ((w.1 23 0 (((9 * a1) + a2).toNatClampNeg)) - (w.1 23 0 (((9 * a1) + 6).toNatClampNeg))) then (w.1 23 0 (((9 * a1) + a2).toNatClampNeg)) - (w.1 23 0 (((9 * a1) + 6).toNatClampNeg)) else -((w.1 23 0 (((9 * a1) + a2).toNatClampNeg)) - (w.1 23 0 (((9 * a1) + 6).toNatClampNeg))) : Int32)))]) (st2 := [.inl (1 <<< (a2 &&& 31)), .inl (w8.1 23 0 (((9 * a1) + 8).toNatClampNeg)), .inl ((9 * a1) + 8), .inr (.inr (23, 0))]) (w2 := w8) 4 (fun F h => h) ?_
        exact key
    clear hf
    refine pm_if (P := 0 ≤ ((w.1 23 0 (((9 * a1) + 7).toNatClampNeg)) - (if 0 ≤ ((w.1 23 0 (((9 * a1) + a2).toNatClampNeg)) - (w.1 23 0 (((9 * a1) + 6).toNatClampNeg))) then (w.1 23 0 (((9 * a1) + a2).toNatClampNeg)) - (w.1 23 0 (((9 * a1) + 6).toNatClampNeg)) else -((w.1 23 0 (((9 * a1) + a2).toNatClampNeg)) - (w.1 23 0 (((9 * a1) + 6).toNatClampNeg))) : Int32))) (i2 := 41) (i3 := 39) (ls2 := [some (.inr (.inr (19, 0))), some (.inl a1), some (.inl a2), some (.inl (9 * a1)), some (.inl ((w.1 23 0 (((9 * a1) + a2).toNatClampNeg)) - (w.1 23 0 (((9 * a1) + 6).toNatClampNeg)))), some (.inl ((w.1 23 0 (((9 * a1) + 7).toNatClampNeg)) - (if 0 ≤ ((w.1 23 0 (((9 * a1) + a2).toNatClampNeg)) - (w.1 23 0 (((9 * a1) + 6).toNatClampNeg))) then (w.1 23 0 (((9 * a1) + a2).toNatClampNeg)) - (w.1 23 0 (((9 * a1) + 6).toNatClampNeg)) else -((w.1 23 0 (((9 * a1) + a2).toNatClampNeg)) - (w.1 23 0 (((9 * a1) + 6).toNatClampNeg))) : Int32)))]) (st2 := [.inl ((9 * a1) + 7), .inr (.inr (23, 0))]) (w2 := w) 1 (fun F h => h) (fun hc15 => ?_) (fun hc15 => ?_)
    · try simp only [if_pos hc15] at key
      refine pm_go (i2 := 42) (ls2 := [some (.inr (.inr (19, 0))), some (.inl a1), some (.inl a2), some (.inl (9 * a1)), some (.inl ((w.1 23 0 (((9 * a1) + a2).toNatClampNeg)) - (w.1 23 0 (((9 * a1) + 6).toNatClampNeg)))), some (.inl ((w.1 23 0 (((9 * a1) + 7).toNatClampNeg)) - (if 0 ≤ ((w.1 23 0 (((9 * a1) + a2).toNatClampNeg)) - (w.1 23 0 (((9 * a1) + 6).toNatClampNeg))) then (w.1 23 0 (((9 * a1) + a2).toNatClampNeg)) - (w.1 23 0 (((9 * a1) + 6).toNatClampNeg)) else -((w.1 23 0 (((9 * a1) + a2).toNatClampNeg)) - (w.1 23 0 (((9 * a1) + 6).toNatClampNeg))) : Int32)))]) (st2 := [.inl ((w.1 23 0 (((9 * a1) + 7).toNatClampNeg)) - (if 0 ≤ ((w.1 23 0 (((9 * a1) + a2).toNatClampNeg)) - (w.1 23 0 (((9 * a1) + 6).toNatClampNeg))) then (w.1 23 0 (((9 * a1) + a2).toNatClampNeg)) - (w.1 23 0 (((9 * a1) + 6).toNatClampNeg)) else -((w.1 23 0 (((9 * a1) + a2).toNatClampNeg)) - (w.1 23 0 (((9 * a1) + 6).toNatClampNeg))) : Int32)), .inl ((9 * a1) + 7), .inr (.inr (23, 0))]) (w2 := w) 1 (fun F h => h) ?_
      exact key
    · try simp only [if_neg hc15] at key
      refine pm_go (i2 := 42) (ls2 := [some (.inr (.inr (19, 0))), some (.inl a1), some (.inl a2), some (.inl (9 * a1)), some (.inl ((w.1 23 0 (((9 * a1) + a2).toNatClampNeg)) - (w.1 23 0 (((9 * a1) + 6).toNatClampNeg)))), some (.inl ((w.1 23 0 (((9 * a1) + 7).toNatClampNeg)) - (if 0 ≤ ((w.1 23 0 (((9 * a1) + a2).toNatClampNeg)) - (w.1 23 0 (((9 * a1) + 6).toNatClampNeg))) then (w.1 23 0 (((9 * a1) + a2).toNatClampNeg)) - (w.1 23 0 (((9 * a1) + 6).toNatClampNeg)) else -((w.1 23 0 (((9 * a1) + a2).toNatClampNeg)) - (w.1 23 0 (((9 * a1) + 6).toNatClampNeg))) : Int32)))]) (st2 := [.inl 0, .inl ((9 * a1) + 7), .inr (.inr (23, 0))]) (w2 := w) 2 (fun F h => h) ?_
      exact key
  clear hf
  refine pm_if (P := 0 ≤ ((w.1 23 0 (((9 * a1) + a2).toNatClampNeg)) - (w.1 23 0 (((9 * a1) + 6).toNatClampNeg)))) (i2 := 29) (i3 := 26) (ls2 := [some (.inr (.inr (19, 0))), some (.inl a1), some (.inl a2), some (.inl (9 * a1)), some (.inl ((w.1 23 0 (((9 * a1) + a2).toNatClampNeg)) - (w.1 23 0 (((9 * a1) + 6).toNatClampNeg)))), none]) (st2 := [.inl (w.1 23 0 (((9 * a1) + 7).toNatClampNeg))]) (w2 := w) 1 (fun F h => h) (fun hc16 => ?_) (fun hc16 => ?_)
  · try simp only [if_pos hc16] at key
    refine pm_go (i2 := 30) (ls2 := [some (.inr (.inr (19, 0))), some (.inl a1), some (.inl a2), some (.inl (9 * a1)), some (.inl ((w.1 23 0 (((9 * a1) + a2).toNatClampNeg)) - (w.1 23 0 (((9 * a1) + 6).toNatClampNeg)))), none]) (st2 := [.inl ((w.1 23 0 (((9 * a1) + a2).toNatClampNeg)) - (w.1 23 0 (((9 * a1) + 6).toNatClampNeg))), .inl (w.1 23 0 (((9 * a1) + 7).toNatClampNeg))]) (w2 := w) 1 (fun F h => h) ?_
    exact key
  · try simp only [if_neg hc16] at key
    refine pm_go (i2 := 30) (ls2 := [some (.inr (.inr (19, 0))), some (.inl a1), some (.inl a2), some (.inl (9 * a1)), some (.inl ((w.1 23 0 (((9 * a1) + a2).toNatClampNeg)) - (w.1 23 0 (((9 * a1) + 6).toNatClampNeg)))), none]) (st2 := [.inl (-((w.1 23 0 (((9 * a1) + a2).toNatClampNeg)) - (w.1 23 0 (((9 * a1) + 6).toNatClampNeg)))), .inl (w.1 23 0 (((9 * a1) + 7).toNatClampNeg))]) (w2 := w) 3 (fun F h => h) ?_
    exact key
set_option maxRecDepth 20000 in
set_option maxHeartbeats 4000000 in
theorem a_X8_passOn (F : Nat) (w : pm_W) (a1 : Int32) (a2 : Int32) (x : pm_W) (d : Nat) (hd : 1 ≤ d) (hf : f_X8_passOn F w a1 a2 = some x) : RT d 109 [.inr (.inr (19, 0)), .inl a1, .inl a2] w (none) x := by
  obtain ⟨d, rfl, hd2⟩ := pm_dep hd
  exact pm_start (co := co_X8_passOn) (nL := 6) (by decide) rfl rfl (Nat.le_of_ble_eq_true rfl) (b_X8_passOn F d hd2 _ w a1 a2 x hf ⟨rfl, rfl⟩)
def f_X8_fetchOn (F : Nat) (w : pm_W) (a1 : Int32) : Option (pm_W) := (if pm_inb ((9 * a1) + 6) 18 = true then (pm_wlet (pm_setI w 23 0 (((9 * a1) + 6).toNatClampNeg) 0) fun w2 => (if pm_inb ((9 * a1) + 7) 18 = true then (pm_wlet (pm_setI w2 23 0 (((9 * a1) + 7).toNatClampNeg) (w2.1 19 0 1)) fun w4 => some w4) else none)) else none)
set_option maxRecDepth 20000 in
set_option maxHeartbeats 4000000 in
theorem b_X8_fetchOn (F : Nat) (d : Nat) (hd : 0 ≤ d) (Q : pm_Q) (w : pm_W) (a1 : Int32) (x : pm_W) (hf : f_X8_fetchOn F w a1 = some x) (hq : Q (none) x) : pm_Gx (RT d) co_X8_fetchOn 0 [some (.inr (.inr (19, 0))), some (.inl a1)] [] w Q := by
  unfold f_X8_fetchOn at hf
  obtain ⟨hs1, hf⟩ := pm_itn hf
  refine pm_go (i2 := 9) (ls2 := [some (.inr (.inr (19, 0))), some (.inl a1)]) (st2 := []) (w2 := (pm_setI w 23 0 (((9 * a1) + 6).toNatClampNeg) 0)) 9 (fun F h => ⟨(pm_inb_in hs1), h⟩) ?_
  generalize (pm_setI w 23 0 (((9 * a1) + 6).toNatClampNeg) 0) = w2 at hf ⊢
  replace hf := pm_wlet_un hf
  obtain ⟨hs3, hf⟩ := pm_itn hf
  refine pm_go (i2 := 19) (ls2 := [some (.inr (.inr (19, 0))), some (.inl a1)]) (st2 := []) (w2 := (pm_setI w2 23 0 (((9 * a1) + 7).toNatClampNeg) (w2.1 19 0 1))) 10 (fun F h => ⟨(pm_inb_in hs3), h⟩) ?_
  generalize (pm_setI w2 23 0 (((9 * a1) + 7).toNatClampNeg) (w2.1 19 0 1)) = w4 at hf ⊢
  replace hf := pm_wlet_un hf
  obtain rfl := Option.some.inj hf
  exact pm_re (r := none) (w2 := w4) 1 (fun F h => h) hq
set_option maxRecDepth 20000 in
set_option maxHeartbeats 4000000 in
theorem a_X8_fetchOn (F : Nat) (w : pm_W) (a1 : Int32) (x : pm_W) (d : Nat) (hd : 1 ≤ d) (hf : f_X8_fetchOn F w a1 = some x) : RT d 110 [.inr (.inr (19, 0)), .inl a1] w (none) x := by
  obtain ⟨d, rfl, hd2⟩ := pm_dep hd
  exact pm_start (co := co_X8_fetchOn) (nL := 2) (by decide) rfl rfl (Nat.le_of_ble_eq_true rfl) (b_X8_fetchOn F d hd2 _ w a1 x hf ⟨rfl, rfl⟩)
def f_X8_keepAct_L2 (F : Nat) : Nat → pm_W → Int32 → Option (Int32 × pm_W)
  | 0, _, _ => none
  | n + 1, w, v1 => (if 9 ≤ v1 then some (v1, w) else (if pm_inb v1 18 = true then (if pm_inb ((9 * (w.1 19 0 20)) + v1) 126 = true then (pm_wlet (pm_setI w 29 0 (((9 * (w.1 19 0 20)) + v1).toNatClampNeg) (w.1 23 0 v1.toNatClampNeg)) fun w4 => f_X8_keepAct_L2 F n w4 (v1 + 1)) else none) else none))
def f_X8_keepAct (F : Nat) (w : pm_W) : Option (pm_W) := ((f_X8_keepAct_L2 F F w 0).bind fun x5 => (pm_wlet (pm_setI x5.2 19 0 20 (((x5.2.1 19 0 20) + 1) - ((x5.2.1 19 0 20) + 1) / 14 * 14)) fun w7 => (pm_wlet (pm_setI w7 19 0 19 (if 14 ≤ (w7.1 19 0 19) then 14 else (w7.1 19 0 19) + 1 : Int32)) fun w8 => some w8)))
set_option maxRecDepth 20000 in
set_option maxHeartbeats 4000000 in
theorem a_X8_keepAct_L2 (F : Nat) (d : Nat) (hd : 0 ≤ d) (Q : pm_Q) : ∀ (n : Nat) (w : pm_W) (v1 : Int32) (x : Int32 × pm_W), f_X8_keepAct_L2 F n w v1 = some x → pm_Gx (RT d) co_X8_keepAct 20 [some (.inr (.inr (19, 0))), some (.inl x.1)] [] x.2 Q → pm_Gx (RT d) co_X8_keepAct 2 [some (.inr (.inr (19, 0))), some (.inl v1)] [] w Q := by
  intro n
  induction n with
  | zero =>
    intro w v1 x hf
    cases hf
  | succ n ih =>
    intro w v1 x hf hk
    rw [f_X8_keepAct_L2] at hf
    refine pm_go (i2 := 4) (ls2 := [some (.inr (.inr (19, 0))), some (.inl v1)]) (st2 := [.inl 9, .inl v1]) (w2 := w) 2 (fun F h => h) ?_
    refine pm_if (P := 9 ≤ v1) (i2 := 20) (i3 := 5) (ls2 := [some (.inr (.inr (19, 0))), some (.inl v1)]) (st2 := []) (w2 := w) 1 (fun F h => h) (fun hc1 => ?_) (fun hc1 => ?_)
    · rw [if_pos hc1] at hf
      obtain rfl := Option.some.inj hf
      exact hk
    · rw [if_neg hc1] at hf
      obtain ⟨hs2, hf⟩ := pm_itn hf
      obtain ⟨hs3, hf⟩ := pm_itn hf
      refine pm_go (i2 := 18) (ls2 := [some (.inr (.inr (19, 0))), some (.inl v1)]) (st2 := []) (w2 := (pm_setI w 29 0 (((9 * (w.1 19 0 20)) + v1).toNatClampNeg) (w.1 23 0 v1.toNatClampNeg))) 13 (fun F h => ⟨(pm_inb_in hs2), (pm_inb_in hs3), h⟩) ?_
      generalize (pm_setI w 29 0 (((9 * (w.1 19 0 20)) + v1).toNatClampNeg) (w.1 23 0 v1.toNatClampNeg)) = w4 at hf ⊢
      replace hf := pm_wlet_un hf
      refine pm_go (i2 := 2) (ls2 := [some (.inr (.inr (19, 0))), some (.inl (v1 + 1))]) (st2 := []) (w2 := w4) 2 (fun F h => h) ?_
      exact ih w4 (v1 + 1) _ hf hk
set_option maxRecDepth 20000 in
set_option maxHeartbeats 4000000 in
theorem b_X8_keepAct (F : Nat) (d : Nat) (hd : 0 ≤ d) (Q : pm_Q) (w : pm_W) (x : pm_W) (hf : f_X8_keepAct F w = some x) (hq : Q (none) x) : pm_Gx (RT d) co_X8_keepAct 0 [some (.inr (.inr (19, 0))), none] [] w Q := by
  unfold f_X8_keepAct at hf
  refine pm_go (i2 := 2) (ls2 := [some (.inr (.inr (19, 0))), some (.inl 0)]) (st2 := []) (w2 := w) 2 (fun F h => h) ?_
  obtain ⟨x5, hx6, hf⟩ := Option.bind_eq_some_iff.mp hf
  refine a_X8_keepAct_L2 F d hd Q F w 0 x5 hx6 ?_
  refine pm_go (i2 := 28) (ls2 := [some (.inr (.inr (19, 0))), some (.inl x5.1)]) (st2 := []) (w2 := (pm_setI x5.2 19 0 20 (((x5.2.1 19 0 20) + 1) - ((x5.2.1 19 0 20) + 1) / 14 * 14))) 8 (fun F h => ⟨(by decide), h⟩) ?_
  generalize (pm_setI x5.2 19 0 20 (((x5.2.1 19 0 20) + 1) - ((x5.2.1 19 0 20) + 1) / 14 * 14)) = w7 at hf ⊢
  replace hf := pm_wlet_un hf
  refine pm_go (i2 := 32) (ls2 := [some (.inr (.inr (19, 0))), some (.inl x5.1)]) (st2 := [.inl 14, .inl (w7.1 19 0 19), .inr (.inr (19, 0))]) (w2 := w7) 4 (fun F h => h) ?_
  have key : pm_Gx (RT d) co_X8_keepAct 39 [some (.inr (.inr (19, 0))), some (.inl x5.1)] [.inl (if 14 ≤ (w7.1 19 0 19) then 14 else (w7.1 19 0 19) + 1 : Int32), .inr (.inr (19, 0))] w7 Q := by
    refine pm_go (i2 := 40) (ls2 := [some (.inr (.inr (19, 0))), some (.inl x5.1)]) (st2 := []) (w2 := (pm_setI w7 19 0 19 (if 14 ≤ (w7.1 19 0 19) then 14 else (w7.1 19 0 19) + 1 : Int32))) 1 (fun F h => h) ?_
    generalize (pm_setI w7 19 0 19 (if 14 ≤ (w7.1 19 0 19) then 14 else (w7.1 19 0 19) + 1 : Int32)) = w8 at hf ⊢
    replace hf := pm_wlet_un hf
    obtain rfl := Option.some.inj hf
    exact pm_re (r := none) (w2 := w8) 1 (fun F h => h) hq
  clear hf
  refine pm_if (P := 14 ≤ (w7.1 19 0 19)) (i2 := 38) (i3 := 33) (ls2 := [some (.inr (.inr (19, 0))), some (.inl x5.1)]) (st2 := [.inr (.inr (19, 0))]) (w2 := w7) 1 (fun F h => h) (fun hc9 => ?_) (fun hc9 => ?_)
  · try simp only [if_pos hc9] at key
    refine pm_go (i2 := 39) (ls2 := [some (.inr (.inr (19, 0))), some (.inl x5.1)]) (st2 := [.inl 14, .inr (.inr (19, 0))]) (w2 := w7) 1 (fun F h => h) ?_
    exact key
  · try simp only [if_neg hc9] at key
    refine pm_go (i2 := 39) (ls2 := [some (.inr (.inr (19, 0))), some (.inl x5.1)]) (st2 := [.inl ((w7.1 19 0 19) + 1), .inr (.inr (19, 0))]) (w2 := w7) 5 (fun F h => h) ?_
    exact key
set_option maxRecDepth 20000 in
set_option maxHeartbeats 4000000 in
theorem a_X8_keepAct (F : Nat) (w : pm_W) (x : pm_W) (d : Nat) (hd : 1 ≤ d) (hf : f_X8_keepAct F w = some x) : RT d 111 [.inr (.inr (19, 0))] w (none) x := by
  obtain ⟨d, rfl, hd2⟩ := pm_dep hd
  exact pm_start (co := co_X8_keepAct) (nL := 2) (by decide) rfl rfl (Nat.le_of_ble_eq_true rfl) (b_X8_keepAct F d hd2 _ w x hf ⟨rfl, rfl⟩)
def f_X8_say (F : Nat) (w : pm_W) (a1 : Int32) : Option ((Int32 × pm_W)) := ((f_X8_isGuest F w a1).bind fun r1 => (if r1 = 0 then some ((-1), w) else ((f_X8_canSay F w 0 a1).bind fun r4 => (if r4 = 0 then some ((-3), w) else ((f_X8_keepAct F w).bind fun r7 => ((f_X8_sayOn F r7 0 a1).bind fun r9 => some (r9.1 23 0 5, r9)))))))
set_option maxRecDepth 20000 in
set_option maxHeartbeats 4000000 in
theorem b_X8_say (F : Nat) (d : Nat) (hd : 2 ≤ d) (Q : pm_Q) (w : pm_W) (a1 : Int32) (x : (Int32 × pm_W)) (hf : f_X8_say F w a1 = some x) (hq : Q (some (.inl x.1)) x.2) : pm_Gx (RT d) co_X8_say 0 [some (.inr (.inr (19, 0))), some (.inl a1)] [] w Q := by
  unfold f_X8_say at hf
  refine pm_go (i2 := 2) (ls2 := [some (.inr (.inr (19, 0))), some (.inl a1)]) (st2 := [.inl a1, .inr (.inr (19, 0))]) (w2 := w) 2 (fun F h => h) ?_
  obtain ⟨r1, hr2, hf⟩ := Option.bind_eq_some_iff.mp hf
  refine pm_ca (y := 101) (as := [.inr (.inr (19, 0)), .inl a1]) (r := some (.inl r1)) (w2 := w) (w1 := w) (t := []) (i2 := 3) (ls2 := [some (.inr (.inr (19, 0))), some (.inl a1)]) 1 (a_X8_isGuest F w a1 r1 d (by omega) hr2) (fun F h => h) ?_
  show pm_Gx (RT d) co_X8_say 3 [some (.inr (.inr (19, 0))), some (.inl a1)] [.inl r1] w Q
  refine pm_if (P := r1 = 0) (i2 := 4) (i3 := 6) (ls2 := [some (.inr (.inr (19, 0))), some (.inl a1)]) (st2 := []) (w2 := w) 1 (fun F h => h) (fun hc3 => ?_) (fun hc3 => ?_)
  · rw [if_pos hc3] at hf
    refine pm_go (i2 := 5) (ls2 := [some (.inr (.inr (19, 0))), some (.inl a1)]) (st2 := [.inl (-1)]) (w2 := w) 1 (fun F h => h) ?_
    obtain rfl := Option.some.inj hf
    exact pm_re (r := some (.inl (-1))) (w2 := w) 1 (fun F h => h) hq
  · rw [if_neg hc3] at hf
    refine pm_go (i2 := 9) (ls2 := [some (.inr (.inr (19, 0))), some (.inl a1)]) (st2 := [.inl a1, .inl 0, .inr (.inr (19, 0))]) (w2 := w) 3 (fun F h => h) ?_
    obtain ⟨r4, hr5, hf⟩ := Option.bind_eq_some_iff.mp hf
    refine pm_ca (y := 107) (as := [.inr (.inr (19, 0)), .inl 0, .inl a1]) (r := some (.inl r4)) (w2 := w) (w1 := w) (t := []) (i2 := 10) (ls2 := [some (.inr (.inr (19, 0))), some (.inl a1)]) 1 (a_X8_canSay F w 0 a1 r4 d (by omega) hr5) (fun F h => h) ?_
    show pm_Gx (RT d) co_X8_say 10 [some (.inr (.inr (19, 0))), some (.inl a1)] [.inl r4] w Q
    refine pm_if (P := r4 = 0) (i2 := 11) (i3 := 13) (ls2 := [some (.inr (.inr (19, 0))), some (.inl a1)]) (st2 := []) (w2 := w) 1 (fun F h => h) (fun hc6 => ?_) (fun hc6 => ?_)
    · rw [if_pos hc6] at hf
      refine pm_go (i2 := 12) (ls2 := [some (.inr (.inr (19, 0))), some (.inl a1)]) (st2 := [.inl (-3)]) (w2 := w) 1 (fun F h => h) ?_
      obtain rfl := Option.some.inj hf
      exact pm_re (r := some (.inl (-3))) (w2 := w) 1 (fun F h => h) hq
    · rw [if_neg hc6] at hf
      refine pm_go (i2 := 14) (ls2 := [some (.inr (.inr (19, 0))), some (.inl a1)]) (st2 := [.inr (.inr (19, 0))]) (w2 := w) 1 (fun F h => h) ?_
      obtain ⟨r7, hr8, hf⟩ := Option.bind_eq_some_iff.mp hf
      refine pm_ca (y := 111) (as := [.inr (.inr (19, 0))]) (r := none) (w2 := w) (w1 := r7) (t := []) (i2 := 15) (ls2 := [some (.inr (.inr (19, 0))), some (.inl a1)]) 1 (a_X8_keepAct F w r7 d (by omega) hr8) (fun F h => h) ?_
      show pm_Gx (RT d) co_X8_say 15 [some (.inr (.inr (19, 0))), some (.inl a1)] [] r7 Q
      refine pm_go (i2 := 18) (ls2 := [some (.inr (.inr (19, 0))), some (.inl a1)]) (st2 := [.inl a1, .inl 0, .inr (.inr (19, 0))]) (w2 := r7) 3 (fun F h => h) ?_
      obtain ⟨r9, hr10, hf⟩ := Option.bind_eq_some_iff.mp hf
      refine pm_ca (y := 108) (as := [.inr (.inr (19, 0)), .inl 0, .inl a1]) (r := none) (w2 := r7) (w1 := r9) (t := []) (i2 := 19) (ls2 := [some (.inr (.inr (19, 0))), some (.inl a1)]) 1 (a_X8_sayOn F r7 0 a1 r9 d (by omega) hr10) (fun F h => h) ?_
      show pm_Gx (RT d) co_X8_say 19 [some (.inr (.inr (19, 0))), some (.inl a1)] [] r9 Q
      refine pm_go (i2 := 23) (ls2 := [some (.inr (.inr (19, 0))), some (.inl a1)]) (st2 := [.inl (r9.1 23 0 5)]) (w2 := r9) 4 (fun F h => ⟨(pm_inb_in (by decide)), h⟩) ?_
      obtain rfl := Option.some.inj hf
      exact pm_re (r := some (.inl (r9.1 23 0 5))) (w2 := r9) 1 (fun F h => h) hq
set_option maxRecDepth 20000 in
set_option maxHeartbeats 4000000 in
theorem a_X8_say (F : Nat) (w : pm_W) (a1 : Int32) (x : (Int32 × pm_W)) (d : Nat) (hd : 3 ≤ d) (hf : f_X8_say F w a1 = some x) : RT d 112 [.inr (.inr (19, 0)), .inl a1] w (some (.inl x.1)) x.2 := by
  obtain ⟨d, rfl, hd2⟩ := pm_dep hd
  exact pm_start (co := co_X8_say) (nL := 2) (by decide) rfl rfl (Nat.le_of_ble_eq_true rfl) (b_X8_say F d hd2 _ w a1 x hf ⟨rfl, rfl⟩)
def f_X8_pass (F : Nat) (w : pm_W) (a1 : Int32) : Option ((Int32 × pm_W)) := ((f_X8_isGuest F w a1).bind fun r1 => (if r1 = 0 then some ((-1), w) else ((f_X8_keepAct F w).bind fun r4 => ((f_X8_passOn F r4 0 a1).bind fun r6 => some (r6.1 23 0 7, r6)))))
set_option maxRecDepth 20000 in
set_option maxHeartbeats 4000000 in
theorem b_X8_pass (F : Nat) (d : Nat) (hd : 2 ≤ d) (Q : pm_Q) (w : pm_W) (a1 : Int32) (x : (Int32 × pm_W)) (hf : f_X8_pass F w a1 = some x) (hq : Q (some (.inl x.1)) x.2) : pm_Gx (RT d) co_X8_pass 0 [some (.inr (.inr (19, 0))), some (.inl a1)] [] w Q := by
  unfold f_X8_pass at hf
  refine pm_go (i2 := 2) (ls2 := [some (.inr (.inr (19, 0))), some (.inl a1)]) (st2 := [.inl a1, .inr (.inr (19, 0))]) (w2 := w) 2 (fun F h => h) ?_
  obtain ⟨r1, hr2, hf⟩ := Option.bind_eq_some_iff.mp hf
  refine pm_ca (y := 101) (as := [.inr (.inr (19, 0)), .inl a1]) (r := some (.inl r1)) (w2 := w) (w1 := w) (t := []) (i2 := 3) (ls2 := [some (.inr (.inr (19, 0))), some (.inl a1)]) 1 (a_X8_isGuest F w a1 r1 d (by omega) hr2) (fun F h => h) ?_
  show pm_Gx (RT d) co_X8_pass 3 [some (.inr (.inr (19, 0))), some (.inl a1)] [.inl r1] w Q
  refine pm_if (P := r1 = 0) (i2 := 4) (i3 := 6) (ls2 := [some (.inr (.inr (19, 0))), some (.inl a1)]) (st2 := []) (w2 := w) 1 (fun F h => h) (fun hc3 => ?_) (fun hc3 => ?_)
  · rw [if_pos hc3] at hf
    refine pm_go (i2 := 5) (ls2 := [some (.inr (.inr (19, 0))), some (.inl a1)]) (st2 := [.inl (-1)]) (w2 := w) 1 (fun F h => h) ?_
    obtain rfl := Option.some.inj hf
    exact pm_re (r := some (.inl (-1))) (w2 := w) 1 (fun F h => h) hq
  · rw [if_neg hc3] at hf
    refine pm_go (i2 := 7) (ls2 := [some (.inr (.inr (19, 0))), some (.inl a1)]) (st2 := [.inr (.inr (19, 0))]) (w2 := w) 1 (fun F h => h) ?_
    obtain ⟨r4, hr5, hf⟩ := Option.bind_eq_some_iff.mp hf
    refine pm_ca (y := 111) (as := [.inr (.inr (19, 0))]) (r := none) (w2 := w) (w1 := r4) (t := []) (i2 := 8) (ls2 := [some (.inr (.inr (19, 0))), some (.inl a1)]) 1 (a_X8_keepAct F w r4 d (by omega) hr5) (fun F h => h) ?_
    show pm_Gx (RT d) co_X8_pass 8 [some (.inr (.inr (19, 0))), some (.inl a1)] [] r4 Q
    refine pm_go (i2 := 11) (ls2 := [some (.inr (.inr (19, 0))), some (.inl a1)]) (st2 := [.inl a1, .inl 0, .inr (.inr (19, 0))]) (w2 := r4) 3 (fun F h => h) ?_
    obtain ⟨r6, hr7, hf⟩ := Option.bind_eq_some_iff.mp hf
    refine pm_ca (y := 109) (as := [.inr (.inr (19, 0)), .inl 0, .inl a1]) (r := none) (w2 := r4) (w1 := r6) (t := []) (i2 := 12) (ls2 := [some (.inr (.inr (19, 0))), some (.inl a1)]) 1 (a_X8_passOn F r4 0 a1 r6 d (by omega) hr7) (fun F h => h) ?_
    show pm_Gx (RT d) co_X8_pass 12 [some (.inr (.inr (19, 0))), some (.inl a1)] [] r6 Q
    refine pm_go (i2 := 16) (ls2 := [some (.inr (.inr (19, 0))), some (.inl a1)]) (st2 := [.inl (r6.1 23 0 7)]) (w2 := r6) 4 (fun F h => ⟨(pm_inb_in (by decide)), h⟩) ?_
    obtain rfl := Option.some.inj hf
    exact pm_re (r := some (.inl (r6.1 23 0 7))) (w2 := r6) 1 (fun F h => h) hq
set_option maxRecDepth 20000 in
set_option maxHeartbeats 4000000 in
theorem a_X8_pass (F : Nat) (w : pm_W) (a1 : Int32) (x : (Int32 × pm_W)) (d : Nat) (hd : 3 ≤ d) (hf : f_X8_pass F w a1 = some x) : RT d 113 [.inr (.inr (19, 0)), .inl a1] w (some (.inl x.1)) x.2 := by
  obtain ⟨d, rfl, hd2⟩ := pm_dep hd
  exact pm_start (co := co_X8_pass) (nL := 2) (by decide) rfl rfl (Nat.le_of_ble_eq_true rfl) (b_X8_pass F d hd2 _ w a1 x hf ⟨rfl, rfl⟩)
def f_X8_fetch (F : Nat) (w : pm_W) : Option ((Int32 × pm_W)) := ((f_X8_keepAct F w).bind fun r1 => ((f_X8_fetchOn F r1 0).bind fun r3 => some (r1.1 23 0 7, r3)))
set_option maxRecDepth 20000 in
set_option maxHeartbeats 4000000 in
theorem b_X8_fetch (F : Nat) (d : Nat) (hd : 1 ≤ d) (Q : pm_Q) (w : pm_W) (x : (Int32 × pm_W)) (hf : f_X8_fetch F w = some x) (hq : Q (some (.inl x.1)) x.2) : pm_Gx (RT d) co_X8_fetch 0 [some (.inr (.inr (19, 0))), none] [] w Q := by
  unfold f_X8_fetch at hf
  refine pm_go (i2 := 1) (ls2 := [some (.inr (.inr (19, 0))), none]) (st2 := [.inr (.inr (19, 0))]) (w2 := w) 1 (fun F h => h) ?_
  obtain ⟨r1, hr2, hf⟩ := Option.bind_eq_some_iff.mp hf
  refine pm_ca (y := 111) (as := [.inr (.inr (19, 0))]) (r := none) (w2 := w) (w1 := r1) (t := []) (i2 := 2) (ls2 := [some (.inr (.inr (19, 0))), none]) 1 (a_X8_keepAct F w r1 d (by omega) hr2) (fun F h => h) ?_
  show pm_Gx (RT d) co_X8_fetch 2 [some (.inr (.inr (19, 0))), none] [] r1 Q
  refine pm_go (i2 := 9) (ls2 := [some (.inr (.inr (19, 0))), some (.inl (r1.1 23 0 7))]) (st2 := [.inl 0, .inr (.inr (19, 0))]) (w2 := r1) 7 (fun F h => ⟨(pm_inb_in (by decide)), h⟩) ?_
  obtain ⟨r3, hr4, hf⟩ := Option.bind_eq_some_iff.mp hf
  refine pm_ca (y := 110) (as := [.inr (.inr (19, 0)), .inl 0]) (r := none) (w2 := r1) (w1 := r3) (t := []) (i2 := 10) (ls2 := [some (.inr (.inr (19, 0))), some (.inl (r1.1 23 0 7))]) 1 (a_X8_fetchOn F r1 0 r3 d (by omega) hr4) (fun F h => h) ?_
  show pm_Gx (RT d) co_X8_fetch 10 [some (.inr (.inr (19, 0))), some (.inl (r1.1 23 0 7))] [] r3 Q
  refine pm_go (i2 := 11) (ls2 := [some (.inr (.inr (19, 0))), some (.inl (r1.1 23 0 7))]) (st2 := [.inl (r1.1 23 0 7)]) (w2 := r3) 1 (fun F h => h) ?_
  obtain rfl := Option.some.inj hf
  exact pm_re (r := some (.inl (r1.1 23 0 7))) (w2 := r3) 1 (fun F h => h) hq
set_option maxRecDepth 20000 in
set_option maxHeartbeats 4000000 in
theorem a_X8_fetch (F : Nat) (w : pm_W) (x : (Int32 × pm_W)) (d : Nat) (hd : 2 ≤ d) (hf : f_X8_fetch F w = some x) : RT d 114 [.inr (.inr (19, 0))] w (some (.inl x.1)) x.2 := by
  obtain ⟨d, rfl, hd2⟩ := pm_dep hd
  exact pm_start (co := co_X8_fetch) (nL := 2) (by decide) rfl rfl (Nat.le_of_ble_eq_true rfl) (b_X8_fetch F d hd2 _ w x hf ⟨rfl, rfl⟩)
def f_X8_undo_L21 (F : Nat) : Nat → pm_W → Int32 → Option (Int32 × pm_W)
  | 0, _, _ => none
  | n + 1, w, v1 => (if 9 ≤ v1 then some (v1, w) else (if pm_inb ((9 * (w.1 19 0 20)) + v1) 126 = true then (if pm_inb v1 18 = true then (pm_wlet (pm_setI w 23 0 v1.toNatClampNeg (w.1 29 0 (((9 * (w.1 19 0 20)) + v1).toNatClampNeg))) fun w7 => f_X8_undo_L21 F n w7 (v1 + 1)) else none) else none))
def f_X8_undo (F : Nat) (w : pm_W) : Option ((Int32 × pm_W)) := (if (w.1 19 0 19) = 0 then some ((-3), w) else (pm_wlet (pm_setI w 19 0 19 ((w.1 19 0 19) - 1)) fun w2 => (pm_wlet (pm_setI w2 19 0 20 (((w2.1 19 0 20) + 13) - ((w2.1 19 0 20) + 13) / 14 * 14)) fun w3 => ((f_X8_undo_L21 F F w3 0).bind fun x8 => some (x8.2.1 19 0 19, x8.2)))))
set_option maxRecDepth 20000 in
set_option maxHeartbeats 4000000 in
theorem a_X8_undo_L21 (F : Nat) (d : Nat) (hd : 0 ≤ d) (Q : pm_Q) : ∀ (n : Nat) (w : pm_W) (v1 : Int32) (x : Int32 × pm_W), f_X8_undo_L21 F n w v1 = some x → pm_Gx (RT d) co_X8_undo 39 [some (.inr (.inr (19, 0))), some (.inl x.1)] [] x.2 Q → pm_Gx (RT d) co_X8_undo 21 [some (.inr (.inr (19, 0))), some (.inl v1)] [] w Q := by
  intro n
  induction n with
  | zero =>
    intro w v1 x hf
    cases hf
  | succ n ih =>
    intro w v1 x hf hk
    rw [f_X8_undo_L21] at hf
    refine pm_go (i2 := 23) (ls2 := [some (.inr (.inr (19, 0))), some (.inl v1)]) (st2 := [.inl 9, .inl v1]) (w2 := w) 2 (fun F h => h) ?_
    refine pm_if (P := 9 ≤ v1) (i2 := 39) (i3 := 24) (ls2 := [some (.inr (.inr (19, 0))), some (.inl v1)]) (st2 := []) (w2 := w) 1 (fun F h => h) (fun hc4 => ?_) (fun hc4 => ?_)
    · rw [if_pos hc4] at hf
      obtain rfl := Option.some.inj hf
      exact hk
    · rw [if_neg hc4] at hf
      obtain ⟨hs5, hf⟩ := pm_itn hf
      obtain ⟨hs6, hf⟩ := pm_itn hf
      refine pm_go (i2 := 37) (ls2 := [some (.inr (.inr (19, 0))), some (.inl v1)]) (st2 := []) (w2 := (pm_setI w 23 0 v1.toNatClampNeg (w.1 29 0 (((9 * (w.1 19 0 20)) + v1).toNatClampNeg)))) 13 (fun F h => ⟨(pm_inb_in hs5), (pm_inb_in hs6), h⟩) ?_
      generalize (pm_setI w 23 0 v1.toNatClampNeg (w.1 29 0 (((9 * (w.1 19 0 20)) + v1).toNatClampNeg))) = w7 at hf ⊢
      replace hf := pm_wlet_un hf
      refine pm_go (i2 := 21) (ls2 := [some (.inr (.inr (19, 0))), some (.inl (v1 + 1))]) (st2 := []) (w2 := w7) 2 (fun F h => h) ?_
      exact ih w7 (v1 + 1) _ hf hk
set_option maxRecDepth 20000 in
set_option maxHeartbeats 4000000 in
theorem b_X8_undo (F : Nat) (d : Nat) (hd : 0 ≤ d) (Q : pm_Q) (w : pm_W) (x : (Int32 × pm_W)) (hf : f_X8_undo F w = some x) (hq : Q (some (.inl x.1)) x.2) : pm_Gx (RT d) co_X8_undo 0 [some (.inr (.inr (19, 0))), none] [] w Q := by
  unfold f_X8_undo at hf
  refine pm_go (i2 := 2) (ls2 := [some (.inr (.inr (19, 0))), none]) (st2 := [.inl (w.1 19 0 19)]) (w2 := w) 2 (fun F h => h) ?_
  refine pm_if (P := (w.1 19 0 19) = 0) (i2 := 3) (i3 := 5) (ls2 := [some (.inr (.inr (19, 0))), none]) (st2 := []) (w2 := w) 1 (fun F h => h) (fun hc1 => ?_) (fun hc1 => ?_)
  · rw [if_pos hc1] at hf
    refine pm_go (i2 := 4) (ls2 := [some (.inr (.inr (19, 0))), none]) (st2 := [.inl (-3)]) (w2 := w) 1 (fun F h => h) ?_
    obtain rfl := Option.some.inj hf
    exact pm_re (r := some (.inl (-3))) (w2 := w) 1 (fun F h => h) hq
  · rw [if_neg hc1] at hf
    refine pm_go (i2 := 11) (ls2 := [some (.inr (.inr (19, 0))), none]) (st2 := []) (w2 := (pm_setI w 19 0 19 ((w.1 19 0 19) - 1))) 6 (fun F h => h) ?_
    generalize (pm_setI w 19 0 19 ((w.1 19 0 19) - 1)) = w2 at hf ⊢
    replace hf := pm_wlet_un hf
    refine pm_go (i2 := 19) (ls2 := [some (.inr (.inr (19, 0))), none]) (st2 := []) (w2 := (pm_setI w2 19 0 20 (((w2.1 19 0 20) + 13) - ((w2.1 19 0 20) + 13) / 14 * 14))) 8 (fun F h => ⟨(by decide), h⟩) ?_
    generalize (pm_setI w2 19 0 20 (((w2.1 19 0 20) + 13) - ((w2.1 19 0 20) + 13) / 14 * 14)) = w3 at hf ⊢
    replace hf := pm_wlet_un hf
    refine pm_go (i2 := 21) (ls2 := [some (.inr (.inr (19, 0))), some (.inl 0)]) (st2 := []) (w2 := w3) 2 (fun F h => h) ?_
    obtain ⟨x8, hx9, hf⟩ := Option.bind_eq_some_iff.mp hf
    refine a_X8_undo_L21 F d hd Q F w3 0 x8 hx9 ?_
    refine pm_go (i2 := 41) (ls2 := [some (.inr (.inr (19, 0))), some (.inl x8.1)]) (st2 := [.inl (x8.2.1 19 0 19)]) (w2 := x8.2) 2 (fun F h => h) ?_
    obtain rfl := Option.some.inj hf
    exact pm_re (r := some (.inl (x8.2.1 19 0 19))) (w2 := x8.2) 1 (fun F h => h) hq
set_option maxRecDepth 20000 in
set_option maxHeartbeats 4000000 in
theorem a_X8_undo (F : Nat) (w : pm_W) (x : (Int32 × pm_W)) (d : Nat) (hd : 1 ≤ d) (hf : f_X8_undo F w = some x) : RT d 115 [.inr (.inr (19, 0))] w (some (.inl x.1)) x.2 := by
  obtain ⟨d, rfl, hd2⟩ := pm_dep hd
  exact pm_start (co := co_X8_undo) (nL := 2) (by decide) rfl rfl (Nat.le_of_ble_eq_true rfl) (b_X8_undo F d hd2 _ w x hf ⟨rfl, rfl⟩)
