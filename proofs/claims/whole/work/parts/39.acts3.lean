/-! ===== say, pass, fetch ===== -/
theorem act_go (F : Nat) (hF : 20 ≤ F) {w : pm_W} {n N A X D : Nat} (H : RelP w n N A X D) (S T : St) (nS : Nm S) (nT : Nm T) (hST : SR N S T) : ∃ v u, f_X0_remember F w 0 = some v ∧ f_X8_keepAct F (cPut v 0 S) = some u ∧ v.1 3 0 = w.1 3 0 ∧ v.1 4 0 = w.1 4 0 ∧ v.1 5 0 = w.1 5 0 ∧ cS v 0 = cS w 0 ∧ (∀ c, c ≤ 2 → (cPut v 0 S).1 19 0 c = w.1 19 0 c) ∧ (cPut v 0 S).1 20 0 = w.1 20 0 ∧ (∀ c, c ≤ 2 → u.1 19 0 c = w.1 19 0 c) ∧ u.1 20 0 = w.1 20 0 ∧ u.1 21 0 = w.1 21 0 ∧ mS (cPut v 0 S) 0 = mS w 0 ∧ mS u 0 = mS w 0 ∧ RelP (mPut u 0 T) n N (A1 A) ((X + 1) % 14) D := by
  obtain ⟨a1, a2, a3, a4, a5, a6, a7, a8⟩ := H.2.2.2.1
  obtain ⟨v, e1, v1, v2, v3, v4, v5, v6, v7⟩ := rem_spec F hF a1 a3 a7 a8
  have g : ∀ a b c, ¬ (a = 9 ∧ c = 1) → ¬ ((a = 7 ∨ a = 8) ∧ b ≤ 14) → (cPut v 0 S).1 a b c = w.1 a b c := fun a b c n1 n2 => by
    rw [cPut_ne (by omega), v2 a b c n1 (by omega)]
  obtain ⟨u, e2, u1, u2, u3, u4, u5, u6⟩ := keep_spec F (w := cPut v 0 S) hF a1 a2 (by rw [g _ _ _ (by omega) (by omega)]; exact a4) (by rw [g _ _ _ (by omega) (by omega)]; exact a5)
  have gm : mS (cPut v 0 S) 0 = mS w 0 := mS_of (fun n hn => g _ _ _ (by omega) (by omega))
  refine ⟨v, u, e1, e2, ?_, ?_, ?_, ?_, ?_, ?_, ?_, ?_, ?_, gm, ?_, ?_⟩
  · funext c; exact v2 _ _ _ (by omega) (by omega)
  · funext c; exact v2 _ _ _ (by omega) (by omega)
  · funext c; exact v2 _ _ _ (by omega) (by omega)
  · exact cS_of (fun a c ha => v2 _ _ _ (by omega) (by omega))
  · intro c hc; exact g _ _ _ (by omega) (by omega)
  · funext c; exact g _ _ _ (by omega) (by omega)
  · intro c hc; rw [u3 _ _ _ (by omega) (by omega)]; exact g _ _ _ (by omega) (by omega)
  · funext c; rw [u3 _ _ _ (by omega) (by omega)]; exact g _ _ _ (by omega) (by omega)
  · funext c; rw [u3 _ _ _ (by omega) (by omega)]; exact g _ _ _ (by omega) (by omega)
  · rw [← gm]; exact mS_of (fun n hn => u3 _ _ _ (by omega) (by omega))
  · refine act_rel H nS nT hST v1 v2 v3 v4 v5 v6 v7 u1 u2 u3 u4 (by rw [u5, gm]) (fun k hk => by rw [u6 k hk]; exact rS_of (fun c => g _ _ _ (by omega) (by omega)) k)
theorem k_say (F : Nat) (hF : 20 ≤ F) {w : pm_W} (H : Rel w) (x : Int32) : ∃ r w1 w2, f_X7_say F w x = some (r, w1) ∧ f_X8_say F w1 x = some (r, w2) ∧ Rel w2 := by
  obtain ⟨n, N, A, X, D, H⟩ := H
  obtain ⟨h1, ⟨b1, b2, b3, b4, b5, b6⟩, h3, h4, h5, h6, h7⟩ := id H
  have q1 : ¬ (1 : Int32) = 0 := by decide
  unfold f_X7_say f_X8_say
  rcases known x N with ⟨g, hg, rfl⟩ | hx
  · obtain ⟨k1, k2, -⟩ := b6 g hg
    have ec : can N (w.1 4 0) (cS w 0) g = can N (w.1 20 0) (mS w 0) g := eqN_can h3.1 hg k2
    rw [knows_in F b2 b1 hg, Option.bind_some, if_neg q1, canSpeak_e F (by omega) b2 b1 hg k1, Option.bind_some]
    by_cases hc : can N (w.1 4 0) (cS w 0) g = true
    · have hST : SR N (spk N (w.1 4 0) (cS w 0) g) (spk N (w.1 20 0) (mS w 0) g) := ⟨eqN_spk h3.1 hg k2, Iv_spk b1 h3.2 hg k1 hc⟩
      obtain ⟨v, u, e1, e2, v3, v4, v5, cv, g19, g20, u19, u20, u21, mv, mu, R⟩ := act_go F hF H _ _ (spk_nm b1 (cS_nm w 0)) (spk_nm b1 (mS_nm w 0)) hST
      have s1 := speak_e F (w := v) (i := 0) (g := g) (by omega) (by rw [v3]; exact b2) b1 hg (by rw [v4]; exact k1)
      rw [v4, cv] at s1
      rw [hc, if_neg (by decide), e1, Option.bind_some, s1, Option.bind_some]
      have c1 := canSay_e F (w := cPut v 0 (spk N (w.1 4 0) (cS w 0) g)) (v := 0) (g := g) (by omega) (by rw [g19 0 (by omega)]; exact b3) b1 hg (by omega)
      rw [g20, mv, ← ec, hc] at c1
      have m1 := sayOn_e F (w := u) (v := 0) (g := g) (by omega) (by rw [u19 0 (by omega)]; exact b3) b1 hg (by omega)
      rw [u20, mu] at m1
      refine ⟨_, _, _, rfl, ?_, n, N, _, _, D, R⟩
      rw [isGuest_in F (by rw [g19 0 (by omega)]; exact b3) b1 hg, Option.bind_some, if_neg q1]
      rw [show (0 : Int32) = nI 0 from rfl, c1, Option.bind_some, if_neg (by decide), e2, Option.bind_some, m1, Option.bind_some]
      have r1 : (cPut v 0 (spk N (w.1 4 0) (cS w 0) g)).1 7 0 1 = spk N (w.1 4 0) (cS w 0) g 5 := cPut_g7 (by omega) (by omega)
      have r2 := mPut_g (w := u) (v := 0) (n := 5) (S := spk N (w.1 20 0) (mS w 0) g) (by omega)
      rw [show 9 * 0 + 5 = 5 by omega] at r2
      rw [r1, r2, hST.1 5 (Or.inr ⟨by omega, by omega⟩)]
    · have hc : can N (w.1 4 0) (cS w 0) g = false := by simpa using hc
      have c1 := canSay_e F (w := w) (v := 0) (g := g) (by omega) b3 b1 hg (by omega)
      rw [← ec, hc] at c1
      refine ⟨-3, w, w, ?_, ?_, n, N, A, X, D, H⟩
      · rw [hc]; rfl
      · rw [isGuest_in F b3 b1 hg, Option.bind_some, if_neg q1]
        rw [show (0 : Int32) = nI 0 from rfl, c1]; rfl
  · refine ⟨-1, w, w, ?_, ?_, n, N, A, X, D, H⟩
    · rw [knows_out F b2 b1 hx]; rfl
    · rw [isGuest_out F b3 b1 hx]; rfl
theorem k_pass (F : Nat) (hF : 20 ≤ F) {w : pm_W} (H : Rel w) (x : Int32) : ∃ r w1 w2, f_X7_pass F w x = some (r, w1) ∧ f_X8_pass F w1 x = some (r, w2) ∧ Rel w2 := by
  obtain ⟨n, N, A, X, D, H⟩ := H
  obtain ⟨h1, ⟨b1, b2, b3, b4, b5, b6⟩, h3, h4, h5, h6, h7⟩ := id H
  have q1 : ¬ (1 : Int32) = 0 := by decide
  unfold f_X7_pass f_X8_pass
  rcases known x N with ⟨g, hg, rfl⟩ | hx
  · obtain ⟨k1, k2, k3, -⟩ := b6 g hg
    have hST : SR N (hnd (w.1 5 0) (cS w 0) g) (hnd (w.1 21 0) (mS w 0) g) := ⟨eqN_hnd h3.1 hg k3, Iv_hnd b1 hg h3.2⟩
    obtain ⟨v, u, e1, e2, v3, v4, v5, cv, g19, g20, u19, u20, u21, mv, mu, R⟩ := act_go F hF H _ _ (hnd_nm (cS_nm w 0)) (hnd_nm (mS_nm w 0)) hST
    have s1 := hand_e F (w := v) (i := 0) (g := g) (by rw [v3]; exact b2) b1 hg
    rw [v5, cv] at s1
    rw [knows_in F b2 b1 hg, Option.bind_some, if_neg q1, e1, Option.bind_some, s1, Option.bind_some]
    have m1 := passOn_e F (w := u) (v := 0) (g := g) (by omega) (by omega)
    rw [u21, mu] at m1
    refine ⟨_, _, _, rfl, ?_, n, N, _, _, D, R⟩
    rw [isGuest_in F (by rw [g19 0 (by omega)]; exact b3) b1 hg, Option.bind_some, if_neg q1]
    rw [e2, Option.bind_some, show (0 : Int32) = nI 0 from rfl, m1, Option.bind_some]
    have r1 : (cPut v 0 (hnd (w.1 5 0) (cS w 0) g)).1 7 0 3 = hnd (w.1 5 0) (cS w 0) g 7 := cPut_g7 (by omega) (by omega)
    have r2 := mPut_g (w := u) (v := 0) (n := 7) (S := hnd (w.1 21 0) (mS w 0) g) (by omega)
    rw [show 9 * 0 + 7 = 7 by omega] at r2
    rw [r1, r2, hST.1 7 (Or.inr ⟨by omega, by omega⟩)]
  · refine ⟨-1, w, w, ?_, ?_, n, N, A, X, D, H⟩
    · rw [knows_out F b2 b1 hx]; rfl
    · rw [isGuest_out F b3 b1 hx]; rfl
theorem k_fetch (F : Nat) (hF : 20 ≤ F) {w : pm_W} (H : Rel w) : ∃ r w1 w2, f_X7_fetch F w = some (r, w1) ∧ f_X8_fetch F w1 = some (r, w2) ∧ Rel w2 := by
  obtain ⟨n, N, A, X, D, H⟩ := H
  obtain ⟨h1, ⟨b1, b2, b3, b4, b5, b6⟩, h3, h4, h5, h6, h7⟩ := id H
  unfold f_X7_fetch f_X8_fetch
  have hST : SR N (rfi (w.1 3 0 4) (cS w 0)) (rfi (w.1 19 0 1) (mS w 0)) := ⟨by rw [b4]; exact eqN_rfi h3.1, Iv_rfi b1 h3.2⟩
  obtain ⟨v, u, e1, e2, v3, v4, v5, cv, g19, g20, u19, u20, u21, mv, mu, R⟩ := act_go F hF H _ _ (rfi_nm (cS_nm w 0)) (rfi_nm (mS_nm w 0)) hST
  have s1 := refill_e F (w := v) (i := 0)
  rw [v3, cv] at s1
  rw [e1, Option.bind_some, s1, Option.bind_some]
  have m1 := fetchOn_e F (w := u) (v := 0) (by omega)
  rw [u19 1 (by omega), mu] at m1
  refine ⟨_, _, _, rfl, ?_, n, N, _, _, D, R⟩
  rw [e2, Option.bind_some, show (0 : Int32) = nI 0 from rfl, m1, Option.bind_some]
  have r1 : w.1 7 0 3 = cS w 0 7 := cS_f (by omega) (by omega)
  have r2 := mS_g (w := u) (v := 0) (n := 7) (by omega)
  rw [show 9 * 0 + 7 = 7 by omega, mu] at r2
  rw [r1, r2, h3.1 7 (Or.inr ⟨by omega, by omega⟩)]
