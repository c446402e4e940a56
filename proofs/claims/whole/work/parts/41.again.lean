/-! ===== again ===== -/
theorem kS_g {w : pm_W} {k n : Nat} (h : n < 9) : w.1 35 0 (9 * k + n) = kS w k n := by unfold kS; rw [if_pos h]
theorem again_L (F : Nat) {w : pm_W} {s : Nat} (hs : s < 2) : ∀ (m n j : Nat), j + m = 9 → m < n → f_X8_again_L17 F n (mPut w 0 (cpj j (mS w 0) (kS w s))) (nI s) (nI j) = some (nI 9, mPut w 0 (cpj 9 (mS w 0) (kS w s))) := by
  intro m
  induction m with
  | zero =>
    intro n j hj hn
    obtain ⟨n, rfl⟩ : ∃ k, n = k + 1 := ⟨n - 1, by omega⟩
    have : j = 9 := by omega
    subst this
    rw [f_X8_again_L17, if_pos (by decide)]
  | succ m ih =>
    intro n j hj hn
    obtain ⟨n, rfl⟩ : ∃ k, n = k + 1 := ⟨n - 1, by omega⟩
    have e2 : (mPut w 0 (cpj j (mS w 0) (kS w s))).1 35 0 (9 * s + j) = kS w s j := by rw [mPut_ne (by omega), kS_g (by omega)]
    rw [f_X8_again_L17, if_neg (show ¬ (9 : Int32) ≤ nI j by rw [show (9 : Int32) = nI 9 from rfl, nx_le (by omega) (by omega)]; omega), nx_in (show j < 18 by omega) (by omega), ix9, nx_in (show 9 * s + j < 18 by omega) (by omega), if_pos rfl, if_pos rfl, nx_cl (by omega), nx_cl (by omega), e2, nx_s]
    unfold pm_wlet
    have e3 := mPut_set (w := w) (v := 0) (n := j) (S := cpj j (mS w 0) (kS w s)) (x := kS w s j) (by omega)
    rw [show 9 * 0 + j = j by omega] at e3
    rw [e3]
    have ih2 := ih n (j + 1) (by omega) (by omega)
    have e4 : cpj (j + 1) (mS w 0) (kS w s) = upd (cpj j (mS w 0) (kS w s)) j (kS w s j) := by
      funext q; simp only [cpj, upd]
      by_cases h : q = j
      · subst h; rw [if_pos (by omega), if_pos rfl]
      · rw [if_neg h]
        by_cases h2 : q < j
        · rw [if_pos (by omega), if_pos h2]
        · rw [if_neg (by omega), if_neg h2]
    rw [e4] at ih2; exact ih2
theorem k_again (F : Nat) (hF : 20 ≤ F) {w : pm_W} (H : Rel w) (x : Int32) : ∃ r w1 w2, f_X7_again F w x = some (r, w1) ∧ f_X8_again F w1 x = some (r, w2) ∧ Rel w2 := by
  obtain ⟨n, N, A, X, D, H⟩ := H
  obtain ⟨h1, h2, h3, ⟨a1, a2, a3, a4, a5, a6, a7, a8⟩, h5, h6, h7⟩ := id H
  unfold f_X7_again f_X8_again
  simp only [in_lit F _ x (lo := 0) (hi := 1) 0 1 rfl rfl, Option.bind_some]
  have q1 : ¬ (1 : Int32) = 0 := by decide
  rcases slot_cases x with ⟨s, hs, rfl⟩ | hx
  · have z0 : ¬ nI s < 0 := nI_pos (by omega)
    have z1 : nI s < 2 := by rw [show (2 : Int32) = nI 2 from rfl, nx_lt (by omega) (by omega)]; exact hs
    have z2 : ¬ 1 < nI s := by rw [show (1 : Int32) = nI 1 from rfl, nx_lt (by omega) (by omega)]; omega
    obtain ⟨k1, k2⟩ := h5 s hs
    simp only [z0, z1, z2, if_false, if_true, q1, nx_in hs (show 2 < 2147483648 by omega), nx_cl (show s < 2147483648 by omega), become_e F (show 9 ≤ F by omega), Option.bind_some, pm_wlet]
    rcases k2 with k2 | ⟨k2, k3⟩
    · refine ⟨-3, w, w, ?_, ?_, n, N, A, X, D, H⟩
      · rw [k2, if_pos rfl]
      · rw [← k1, k2, if_pos rfl]
    · rw [k2, if_neg q1]
      obtain ⟨w1, hw1⟩ : ∃ w1, w1 = pm_setI (cPut w 0 (cS w (15 + s))) 9 0 1 0 := ⟨_, rfl⟩
      rw [← hw1]
      have g1 : ∀ a b c, ¬ (a = 9 ∧ c = 1) → ¬ ((a = 7 ∨ a = 8) ∧ b = 0) → w1.1 a b c = w.1 a b c := fun a b c n1 n2 => by
        rw [hw1, setI_ne (by omega), cPut_ne (by omega)]
      have hL := again_L F (w := w1) hs 9 F 0 (by omega) (by omega)
      rw [cpj0, mPut_self, cpj9 (mS_nm _ _) (kS_nm _ _)] at hL
      have hk : kS w1 s = kS w s := kS_of (fun c => g1 _ _ _ (by omega) (by omega)) s
      rw [hk] at hL
      obtain ⟨w2, hw2⟩ : ∃ w2, w2 = pm_setI (mPut w1 0 (kS w s)) 19 0 19 0 := ⟨_, rfl⟩
      have g2 : ∀ a b c, ¬ (a = 23 ∧ c < 9) → ¬ (a = 19 ∧ c = 19) → w2.1 a b c = w1.1 a b c := fun a b c n1 n2 => by
        rw [hw2, setI_ne (by omega), mPut_ne (by omega)]
      have m2 : mS w2 0 = kS w s := by
        rw [mS_of (w := mPut w1 0 (kS w s)) (fun n hn => by rw [hw2, setI_ne (by omega)]), mS_mPut (kS_nm _ _)]
      have c2 : cS w2 0 = cS w (15 + s) := by
        rw [cS_of (w := cPut w 0 (cS w (15 + s))) (fun a c ha => by rw [g2 _ _ _ (by omega) (by omega), hw1, setI_ne (by omega)]), cS_cPut (cS_nm _ _)]
      refine ⟨_, w1, w2, rfl, ?_, ?_⟩
      · rw [g1 34 0 s (by omega) (by omega), ← k1, k2, if_neg q1, show (0 : Int32) = nI 0 from rfl, hL, Option.bind_some]
        simp only
        rw [show nI 0 = (0 : Int32) from rfl, ← hw2]
        have r1 : w1.1 7 0 1 = cS w2 0 5 := by rw [← g2 7 0 1 (by omega) (by omega)]; exact cS_f (by omega) (by omega)
        have r2 := mS_g (w := w2) (v := 0) (n := 5) (by omega)
        rw [show 9 * 0 + 5 = 5 by omega, m2] at r2
        rw [r1, r2, c2, k3.1 5 (Or.inr ⟨by omega, by omega⟩)]
      · have all : ∀ a b c, ¬ (a = 9 ∧ c = 1) → ¬ ((a = 7 ∨ a = 8) ∧ b = 0) → ¬ (a = 23 ∧ c < 9) → ¬ (a = 19 ∧ c = 19) → w2.1 a b c = w.1 a b c := fun a b c n1 n2 n3 n4 => by
          rw [g2 a b c n3 n4, g1 a b c n1 n2]
        have e2 : w2.2 = w.2 := by rw [hw2, hw1]; rfl
        refine ⟨n, N, 0, X, D, TxR_of (fun a b c s => all a b c ?_ ?_ ?_ ?_) h1, TbR_of (fun a b c s => all a b c ?_ ?_ ?_ ?_) h2, ?_, ⟨by omega, a2, ?_, ?_, ?_, fun j hj => by omega, by rw [e2]; exact a7, by rw [e2]; exact a8⟩, KpR_of (fun a b c s => all a b c ?_ ?_ ?_ ?_) h5, DnR_of (fun a b c s => all a b c ?_ ?_ ?_ ?_) h6, by rw [e2]; exact h7⟩
        any_goals (rename_i s; unfold sTx at s; omega)
        any_goals (rename_i s; unfold sTb at s; omega)
        any_goals (rename_i s; unfold sKp at s; omega)
        any_goals (rename_i s; unfold sDn at s; omega)
        · unfold NwR
          rw [m2, c2]; exact k3
        · rw [g2 _ _ _ (by omega) (by omega), hw1, pm_gI_s]; rfl
        · rw [hw2, pm_gI_s]; rfl
        · rw [all _ _ _ (by omega) (by omega) (by omega) (by omega)]; exact a5
  · refine ⟨-1, w, w, ?_, ?_, n, N, A, X, D, H⟩
    · rcases hx with h | ⟨h, h'⟩
      · simp only [h, if_true]
      · by_cases h0 : x < 0
        · simp only [h0, if_true]
        · simp only [h0, h, if_false]
    · rcases hx with h | ⟨h, h'⟩
      · simp only [h, if_true]
      · by_cases h0 : x < 0
        · simp only [h0, if_true]
        · simp only [h0, h', if_false, if_true]
