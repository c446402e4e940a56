/-! ===== the simple calls ===== -/
theorem known (x : Int32) (N : Nat) : (∃ g, g < N ∧ x = nI g) ∨ ∀ g, g < N → x ≠ nI g := by
  by_cases h : ∃ g, g < N ∧ x = nI g
  · exact Or.inl h
  · exact Or.inr fun g hg e => h ⟨g, hg, e⟩
theorem in_lit (F : Nat) (w : pm_W) (a : Int32) {lo hi : Int64} (l h : Int32) (h1 : lo = l.toInt64) (h2 : hi = h.toInt64) : f_X8_in F w a.toInt64 lo hi = some (if a < l then 0 else if h < a then 0 else 1) := by
  rw [h1, h2, in_32]
theorem same_some {α : Type} {A : Option α} (h : ∃ r, A = some r) : ∃ r, A = some r ∧ A = some r := by
  obtain ⟨r, hr⟩ := h
  exact ⟨r, hr, hr⟩
theorem k_write (F : Nat) {w : pm_W} (H : Rel w) (x : Int32) : ∃ r w1 w2, f_X7_write F w x = some (r, w1) ∧ f_X8_write F w1 x = some (r, w2) ∧ Rel w2 := by
  unfold f_X7_write f_X8_write
  obtain ⟨n, N, A, X, D, ⟨t1, t2, t3, t4⟩, h2, h3, h4, h5, h6, h7⟩ := H
  have H0 : Rel w := ⟨n, N, A, X, D, ⟨t1, t2, t3, t4⟩, h2, h3, h4, h5, h6, h7⟩
  simp only [in_lit F _ x (lo := 0) (hi := 255) 0 255 rfl rfl, Option.bind_some]
  by_cases a1 : x < 0
  · refine ⟨-2, w, w, ?_, ?_, H0⟩ <;> simp [a1]
  · by_cases a2 : x ≤ 255
    · have a3 : ¬ 255 < x := Int32.not_lt.mpr a2
      have q1 : ¬ (1 : Int32) = 0 := by decide
      simp only [a1, a2, a3, if_false, if_true, q1]
      unfold f_X6_append
      have e0 : ¬ nI n < 0 := nI_pos (by omega)
      by_cases hn : n < 40
      · have e1 : nI n < 40 := by rw [show (40 : Int32) = nI 40 from rfl, nx_lt (by omega) (by omega)]; exact hn
        have e2 : ¬ nI n = 40 := by rw [show (40 : Int32) = nI 40 from rfl, nx_eq (by omega) (by omega)]; omega
        simp only [t2, e0, e1, if_false, if_true, nx_in hn (show 40 < 2147483648 by omega), nx_cl (show n < 2147483648 by omega), pm_wlet, Option.bind_some, q1]
        refine ⟨_, _, pm_setI (pm_setI (pm_setI (pm_setI w 2 0 n x) 1 0 1 (nI (n + 1))) 28 0 n x) 19 0 16 (nI (n + 1)), rfl, ?_, ?_⟩
        · have e3 : (pm_setI w 2 0 n x).1 1 0 1 = nI n := by rw [setI_ne (by omega)]; exact t2
          rw [e3, nx_s]
          have e4 : (pm_setI (pm_setI w 2 0 n x) 1 0 1 (nI (n + 1))).1 19 0 16 = nI n := by rw [setI_ne (by omega), setI_ne (by omega)]; exact t3
          simp only [e4, e2, if_false, nx_in hn (show 40 < 2147483648 by omega), if_true, nx_cl (show n < 2147483648 by omega)]
          have e5 : (pm_setI (pm_setI (pm_setI w 2 0 n x) 1 0 1 (nI (n + 1))) 28 0 n x).1 19 0 16 = nI n := by rw [setI_ne (by omega)]; exact e4
          rw [e5, nx_s, pm_gI_s, pm_gI_s]
        · refine ⟨n + 1, N, A, X, D, ⟨by omega, ?_, ?_, fun k hk => ?_⟩, TbR_of (fun a b c s => ?_) h2, NwR_of (fun a b c s => ?_) h3, AcR_of (fun a b c s => ?_) rfl h4, KpR_of (fun a b c s => ?_) h5, DnR_of (fun a b c s => ?_) h6, h7⟩
          · rw [setI_ne (by omega), setI_ne (by omega), pm_gI_s]
          · rw [pm_gI_s]
          · rw [setI_ne (by omega), setI_ne (by omega), setI_ne (by omega)]
            by_cases e : k = n
            · subst e
              rw [pm_gI_s, setI_ne (by omega), pm_gI_s]
            · rw [setI_ne (by omega), setI_ne (by omega), setI_ne (by omega), setI_ne (by omega), setI_ne (by omega)]
              exact t4 k (by omega)
          · unfold sTb at s
            rw [setI_ne (by omega), setI_ne (by omega), setI_ne (by omega), setI_ne (by omega)]
          · unfold sNw at s
            rw [setI_ne (by omega), setI_ne (by omega), setI_ne (by omega), setI_ne (by omega)]
          · unfold sAc at s
            rw [setI_ne (by omega), setI_ne (by omega), setI_ne (by omega), setI_ne (by omega)]
          · unfold sKp at s
            rw [setI_ne (by omega), setI_ne (by omega), setI_ne (by omega), setI_ne (by omega)]
          · unfold sDn at s
            rw [setI_ne (by omega), setI_ne (by omega), setI_ne (by omega), setI_ne (by omega)]
      · have e1 : ¬ nI n < 40 := by rw [show (40 : Int32) = nI 40 from rfl, nx_lt (by omega) (by omega)]; exact hn
        have e2 : nI n = 40 := by rw [show (40 : Int32) = nI 40 from rfl, nx_eq (by omega) (by omega)]; omega
        refine ⟨-4, w, w, ?_, ?_, H0⟩
        · simp only [t2, e0, e1, if_false, Option.bind_some, if_true]
        · simp only [t3, e2, if_true]
    · have a3 : 255 < x := Int32.not_le.mp a2
      refine ⟨-2, w, w, ?_, ?_, H0⟩ <;> simp [a1, a2, a3]
theorem k_wipe (F : Nat) {w : pm_W} (H : Rel w) : ∃ r w1 w2, f_X7_wipe F w = some (r, w1) ∧ f_X8_wipe F w1 = some (r, w2) ∧ Rel w2 := by
  unfold f_X7_wipe f_X8_wipe
  obtain ⟨n, N, A, X, D, ⟨t1, t2, t3, t4⟩, h2, h3, h4, h5, h6, h7⟩ := H
  simp only [pm_wlet]
  refine ⟨_, _, pm_setI (pm_setI w 1 0 1 0) 19 0 16 0, rfl, ?_, ?_⟩
  · rw [setI_ne (by omega), t2, t3]
  · refine ⟨0, N, A, X, D, ⟨by omega, ?_, ?_, fun k hk => by omega⟩, TbR_of (fun a b c s => ?_) h2, NwR_of (fun a b c s => ?_) h3, AcR_of (fun a b c s => ?_) rfl h4, KpR_of (fun a b c s => ?_) h5, DnR_of (fun a b c s => ?_) h6, h7⟩
    · rw [setI_ne (by omega), pm_gI_s]; rfl
    · rw [pm_gI_s]; rfl
    · unfold sTb at s
      rw [setI_ne (by omega), setI_ne (by omega)]
    · unfold sNw at s
      rw [setI_ne (by omega), setI_ne (by omega)]
    · unfold sAc at s
      rw [setI_ne (by omega), setI_ne (by omega)]
    · unfold sKp at s
      rw [setI_ne (by omega), setI_ne (by omega)]
    · unfold sDn at s
      rw [setI_ne (by omega), setI_ne (by omega)]
theorem k_clear (F : Nat) {w : pm_W} (H : Rel w) : ∃ r w1 w2, f_X7_clear F w = some (r, w1) ∧ f_X8_clear F w1 = some (r, w2) ∧ Rel w2 := by
  unfold f_X7_clear f_X8_clear
  obtain ⟨n, N, A, X, D, h1, h2, h3, h4, h5, ⟨t1, t2, t3, t4⟩, h7⟩ := H
  simp only [pm_wlet]
  refine ⟨_, _, pm_setI (pm_setI w 13 0 2 0) 19 0 24 0, rfl, ?_, ?_⟩
  · rw [setI_ne (by omega), t2, t3]
  · refine ⟨n, N, A, X, 0, TxR_of (fun a b c s => ?_) h1, TbR_of (fun a b c s => ?_) h2, NwR_of (fun a b c s => ?_) h3, AcR_of (fun a b c s => ?_) rfl h4, KpR_of (fun a b c s => ?_) h5, ⟨by omega, ?_, ?_, fun k hk => by omega⟩, h7⟩
    · unfold sTx at s
      rw [setI_ne (by omega), setI_ne (by omega)]
    · unfold sTb at s
      rw [setI_ne (by omega), setI_ne (by omega)]
    · unfold sNw at s
      rw [setI_ne (by omega), setI_ne (by omega)]
    · unfold sAc at s
      rw [setI_ne (by omega), setI_ne (by omega)]
    · unfold sKp at s
      rw [setI_ne (by omega), setI_ne (by omega)]
    · rw [setI_ne (by omega), pm_gI_s]; rfl
    · rw [pm_gI_s]; rfl
theorem k_seed (F : Nat) {w : pm_W} (H : Rel w) (x : Int64) : ∃ r w1 w2, f_X7_seed F w x = some (r, w1) ∧ f_X8_seed F w1 x = some (r, w2) ∧ Rel w2 := by
  unfold f_X7_seed f_X8_seed
  obtain ⟨n, N, A, X, D, h1, h2, h3, h4, h5, h6, h7⟩ := H
  simp only [pm_wlet]
  refine ⟨_, _, pm_setJ (pm_setJ w 0 x) 19 x, rfl, ?_, ?_⟩
  · rw [show (pm_setJ w 0 x).2.1 19 = w.2.1 19 from rfl, h7]
  · exact ⟨n, N, A, X, D, TxR_of (fun a b c s => rfl) h1, TbR_of (fun a b c s => rfl) h2, NwR_of (fun a b c s => rfl) h3, AcR_of (fun a b c s => rfl) rfl h4, KpR_of (fun a b c s => rfl) h5, DnR_of (fun a b c s => rfl) h6, rfl⟩
theorem k_guest (F : Nat) (hF : 9 ≤ F) {w : pm_W} (H : Rel w) (x y : Int32) : ∃ r, f_X7_guest F w x y = some r ∧ f_X8_guest F w x y = some r := by
  obtain ⟨n, N, A, X, D, h1, ⟨b1, b2, b3, b4, b5, b6⟩, h3, h4, h5, h6, h7⟩ := H
  unfold f_X7_guest f_X8_guest
  rcases known x N with ⟨g, hg, rfl⟩ | hx
  · have q1 : ¬ (1 : Int32) = 0 := by decide
    have hm := hears_e F hF b3 b1 (show 0 < 2 by omega)
    rw [show nI 0 = 0 from rfl] at hm
    simp only [knows_in F b2 b1 hg, isGuest_in F b3 b1 hg, Option.bind_some, q1, if_false, nx_in (show g < 5 by omega) (show 5 < 2147483648 by omega), nx_in (show g < 18 by omega) (show 18 < 2147483648 by omega), if_true, nx_cl (show g < 2147483648 by omega), hearers_e F hF b2 b1 h3.2.lf, hm]
    obtain ⟨k1, k2, k3, k4, k5⟩ := b6 g hg
    have e0 : w.1 8 0 g = w.1 23 0 g := by
      have a := mS_g (w := w) (v := 0) (n := g) (by omega)
      rw [show 9 * 0 + g = g by omega] at a
      rw [cS_l (by omega), a]; exact h3.1 g (Or.inl hg)
    have e4 : w.1 7 0 4 = w.1 23 0 8 := by
      have a := mS_g (w := w) (v := 0) (n := 8) (by omega)
      rw [show 9 * 0 + 8 = 8 by omega] at a
      rw [cS_f (by omega) (by omega), a]; exact h3.1 8 (Or.inr ⟨by omega, by omega⟩)
    rw [e0, k2, k3, k4, e4, b5, eqN_hear h3.1]
    refine same_some ?_
    (repeat' split) <;> exact ⟨_, rfl⟩
  · simp only [knows_out F b2 b1 hx, isGuest_out F b3 b1 hx, Option.bind_some, if_true]
    exact ⟨_, rfl, rfl⟩
theorem k_count (F : Nat) (hF : 9 ≤ F) {w : pm_W} (H : Rel w) (x : Int32) : ∃ r, f_X7_count F w x = some r ∧ f_X8_count F w x = some r := by
  obtain ⟨n, N, A, X, D, ⟨t1, t2, t3, t4⟩, ⟨b1, b2, b3, b4, b5, b6⟩, h3, ⟨c1, c2, c3, c4, c5⟩, h5, ⟨d1, d2, d3, d4⟩, h7⟩ := H
  unfold f_X7_count f_X8_count
  have hm := hears_e F hF b3 b1 (show 0 < 2 by omega)
  rw [show nI 0 = 0 from rfl] at hm
  have key : ∀ k, 1 ≤ k → k < 5 → w.1 7 0 k = w.1 23 0 (k + 4) := by
    intro k h1 h2
    have a := mS_g (w := w) (v := 0) (n := k + 4) (by omega)
    rw [show 9 * 0 + (k + 4) = k + 4 by omega] at a
    rw [cS_f h1 h2, a]; exact h3.1 (k + 4) (Or.inr ⟨by omega, by omega⟩)
  rw [hearers_e F hF b2 b1 h3.2.lf, hm, t2, t3, b2, b3, b5, b4, c3, c4, d2, d3, key 1 (by omega) (by omega), key 2 (by omega) (by omega), key 3 (by omega) (by omega), key 4 (by omega) (by omega), eqN_hear h3.1]
  refine same_some ?_
  (repeat' split) <;> exact ⟨_, rfl⟩
theorem k_dine (F : Nat) {w : pm_W} (H : Rel w) (x y : Int32) : ∃ r w1 w2, f_X7_dine F w x y = some (r, w1) ∧ f_X8_dine F w1 x y = some (r, w2) ∧ Rel w2 := by
  unfold f_X7_dine f_X8_dine
  obtain ⟨n, N, A, X, D, h1, h2, h3, h4, h5, ⟨t1, t2, t3, t4⟩, h7⟩ := H
  have H0 : Rel w := ⟨n, N, A, X, D, h1, h2, h3, h4, h5, ⟨t1, t2, t3, t4⟩, h7⟩
  have q1 : ¬ (1 : Int32) = 0 := by decide
  simp only [in_lit F _ x (lo := 0) (hi := 9999) 0 9999 rfl rfl, in_lit F _ y (lo := -40) (hi := 40) (-40) 40 rfl rfl, Option.bind_some, show pm_st 37 4 = 10000 from rfl]
  have hx : (10000 : Int32) ≤ x ↔ 9999 < x := by
    rw [Int32.le_iff_toInt_le, Int32.lt_iff_toInt_lt]
    have a : (10000 : Int32).toInt = 10000 := rfl
    have b : (9999 : Int32).toInt = 9999 := rfl
    omega
  simp only [hx]
  by_cases a1 : x < 0
  · refine ⟨-2, w, w, ?_, ?_, H0⟩ <;> simp [a1]
  · by_cases a2 : 9999 < x
    · refine ⟨-2, w, w, ?_, ?_, H0⟩ <;> simp [a1, a2]
    · by_cases a3 : y < -40
      · refine ⟨-2, w, w, ?_, ?_, H0⟩ <;> simp [a1, a2, a3]
      · by_cases a4 : y ≤ 40
        · have a5 : ¬ 40 < y := Int32.not_lt.mpr a4
          simp only [a1, a2, a3, a4, a5, if_false, if_true, q1]
          unfold f_X2_append
          have e0 : ¬ nI D < 0 := nI_pos (by omega)
          by_cases hn : D < 6
          · have e1 : nI D < 6 := by rw [show (6 : Int32) = nI 6 from rfl, nx_lt (by omega) (by omega)]; exact hn
            have e2 : ¬ nI D = 6 := by rw [show (6 : Int32) = nI 6 from rfl, nx_eq (by omega) (by omega)]; omega
            have e3 : (pm_setI w 14 0 D x).1 13 0 2 = nI D := by rw [setI_ne (by omega)]; exact t2
            have e4 : (pm_setI (pm_setI w 14 0 D x) 15 0 D y).1 13 0 2 = nI D := by rw [setI_ne (by omega)]; exact e3
            simp only [t2, e0, e1, if_false, if_true, nx_in hn (show 6 < 2147483648 by omega), nx_cl (show D < 2147483648 by omega), pm_wlet, Option.bind_some, q1, e3, e4, nx_s]
            have f1 : ∀ z, (pm_setI (pm_setI (pm_setI w 14 0 D x) 15 0 D y) 13 0 2 z).1 19 0 24 = nI D := fun z => by rw [setI_ne (by omega), setI_ne (by omega), setI_ne (by omega)]; exact t3
            refine ⟨_, _, pm_setI (pm_setI (pm_setI (pm_setI (pm_setI (pm_setI w 14 0 D x) 15 0 D y) 13 0 2 (nI (D + 1))) 31 0 D x) 32 0 D y) 19 0 24 (nI (D + 1)), rfl, ?_, ?_⟩
            · simp only [f1, e2, if_false, nx_in hn (show 6 < 2147483648 by omega), if_true, nx_cl (show D < 2147483648 by omega)]
              have f2 : ∀ z u, (pm_setI (pm_setI (pm_setI (pm_setI w 14 0 D x) 15 0 D y) 13 0 2 z) 31 0 D u).1 19 0 24 = nI D := fun z u => by rw [setI_ne (by omega)]; exact f1 z
              have f3 : ∀ z u t, (pm_setI (pm_setI (pm_setI (pm_setI (pm_setI w 14 0 D x) 15 0 D y) 13 0 2 z) 31 0 D u) 32 0 D t).1 19 0 24 = nI D := fun z u t => by rw [setI_ne (by omega)]; exact f2 z u
              simp only [f2, f3, nx_in hn (show 6 < 2147483648 by omega), if_true, nx_cl (show D < 2147483648 by omega), nx_s, pm_gI_s]
            · refine ⟨n, N, A, X, D + 1, TxR_of (fun a b c s => ?_) h1, TbR_of (fun a b c s => ?_) h2, NwR_of (fun a b c s => ?_) h3, AcR_of (fun a b c s => ?_) rfl h4, KpR_of (fun a b c s => ?_) h5, ⟨by omega, ?_, ?_, fun k hk => ?_⟩, h7⟩
              · unfold sTx at s
                rw [setI_ne (by omega), setI_ne (by omega), setI_ne (by omega), setI_ne (by omega), setI_ne (by omega), setI_ne (by omega)]
              · unfold sTb at s
                rw [setI_ne (by omega), setI_ne (by omega), setI_ne (by omega), setI_ne (by omega), setI_ne (by omega), setI_ne (by omega)]
              · unfold sNw at s
                rw [setI_ne (by omega), setI_ne (by omega), setI_ne (by omega), setI_ne (by omega), setI_ne (by omega), setI_ne (by omega)]
              · unfold sAc at s
                rw [setI_ne (by omega), setI_ne (by omega), setI_ne (by omega), setI_ne (by omega), setI_ne (by omega), setI_ne (by omega)]
              · unfold sKp at s
                rw [setI_ne (by omega), setI_ne (by omega), setI_ne (by omega), setI_ne (by omega), setI_ne (by omega), setI_ne (by omega)]
              · rw [setI_ne (by omega), setI_ne (by omega), setI_ne (by omega), pm_gI_s]
              · rw [pm_gI_s]
              · have g14 : ∀ k, (pm_setI (pm_setI (pm_setI (pm_setI (pm_setI (pm_setI w 14 0 D x) 15 0 D y) 13 0 2 (nI (D + 1))) 31 0 D x) 32 0 D y) 19 0 24 (nI (D + 1))).1 14 0 k = (pm_setI w 14 0 D x).1 14 0 k := fun k => by rw [setI_ne (by omega), setI_ne (by omega), setI_ne (by omega), setI_ne (by omega), setI_ne (by omega)]
                have g15 : ∀ k, (pm_setI (pm_setI (pm_setI (pm_setI (pm_setI (pm_setI w 14 0 D x) 15 0 D y) 13 0 2 (nI (D + 1))) 31 0 D x) 32 0 D y) 19 0 24 (nI (D + 1))).1 15 0 k = (pm_setI (pm_setI w 14 0 D x) 15 0 D y).1 15 0 k := fun k => by rw [setI_ne (by omega), setI_ne (by omega), setI_ne (by omega), setI_ne (by omega)]
                have g31 : ∀ k, (pm_setI (pm_setI (pm_setI (pm_setI (pm_setI (pm_setI w 14 0 D x) 15 0 D y) 13 0 2 (nI (D + 1))) 31 0 D x) 32 0 D y) 19 0 24 (nI (D + 1))).1 31 0 k = if k = D then x else w.1 31 0 k := fun k => by
                  rw [setI_ne (by omega), setI_ne (by omega)]
                  by_cases e : k = D
                  · subst e; rw [pm_gI_s, if_pos rfl]
                  · rw [if_neg e, setI_ne (by omega), setI_ne (by omega), setI_ne (by omega), setI_ne (by omega)]
                have g32 : ∀ k, (pm_setI (pm_setI (pm_setI (pm_setI (pm_setI (pm_setI w 14 0 D x) 15 0 D y) 13 0 2 (nI (D + 1))) 31 0 D x) 32 0 D y) 19 0 24 (nI (D + 1))).1 32 0 k = if k = D then y else w.1 32 0 k := fun k => by
                  rw [setI_ne (by omega)]
                  by_cases e : k = D
                  · subst e; rw [pm_gI_s, if_pos rfl]
                  · rw [if_neg e, setI_ne (by omega), setI_ne (by omega), setI_ne (by omega), setI_ne (by omega), setI_ne (by omega)]
                rw [g14, g15, g31, g32]
                by_cases e : k = D
                · subst e
                  rw [pm_gI_s, pm_gI_s, if_pos rfl, if_pos rfl]
                  exact ⟨rfl, rfl⟩
                · rw [if_neg e, if_neg e, setI_ne (by omega), setI_ne (by omega), setI_ne (by omega)]
                  exact t4 k (by omega)
          · have e1 : ¬ nI D < 6 := by rw [show (6 : Int32) = nI 6 from rfl, nx_lt (by omega) (by omega)]; exact hn
            have e2 : nI D = 6 := by rw [show (6 : Int32) = nI 6 from rfl, nx_eq (by omega) (by omega)]; omega
            refine ⟨-4, w, w, ?_, ?_, H0⟩
            · simp only [t2, e0, e1, if_false, Option.bind_some, if_true]
            · simp only [t3, e2, if_true]
        · have a5 : 40 < y := Int32.not_le.mp a4
          refine ⟨-2, w, w, ?_, ?_, H0⟩ <;> simp [a1, a2, a3, a4, a5]
