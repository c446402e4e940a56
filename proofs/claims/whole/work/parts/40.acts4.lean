/-! ===== undo, keep, again ===== -/
theorem vnb1 : vp_nar .boolean 1 = 1 := by decide
theorem undo_L (F : Nat) {w : pm_W} {X : Nat} (hX : X < 14) (h20 : w.1 19 0 20 = nI X) : ∀ (m n j : Nat), j + m = 9 → m < n → f_X8_undo_L21 F n (mPut w 0 (cpj j (mS w 0) (rS w X))) (nI j) = some (nI 9, mPut w 0 (cpj 9 (mS w 0) (rS w X))) := by
  intro m
  induction m with
  | zero =>
    intro n j hj hn
    obtain ⟨n, rfl⟩ : ∃ k, n = k + 1 := ⟨n - 1, by omega⟩
    have : j = 9 := by omega
    subst this
    rw [f_X8_undo_L21, if_pos (by decide)]
  | succ m ih =>
    intro n j hj hn
    obtain ⟨n, rfl⟩ : ∃ k, n = k + 1 := ⟨n - 1, by omega⟩
    have e1 : (mPut w 0 (cpj j (mS w 0) (rS w X))).1 19 0 20 = nI X := by rw [mPut_ne (by omega)]; exact h20
    have e2 : (mPut w 0 (cpj j (mS w 0) (rS w X))).1 29 0 (9 * X + j) = rS w X j := by rw [mPut_ne (by omega), rS_g (by omega)]
    rw [f_X8_undo_L21, if_neg (show ¬ (9 : Int32) ≤ nI j by rw [show (9 : Int32) = nI 9 from rfl, nx_le (by omega) (by omega)]; omega), nx_in (show j < 18 by omega) (by omega), e1, ix9, nx_in (show 9 * X + j < 126 by omega) (by omega), if_pos rfl, if_pos rfl, nx_cl (by omega), nx_cl (by omega), e2, nx_s]
    unfold pm_wlet
    have e3 := mPut_set (w := w) (v := 0) (n := j) (S := cpj j (mS w 0) (rS w X)) (x := rS w X j) (by omega)
    rw [show 9 * 0 + j = j by omega] at e3
    rw [e3]
    have ih2 := ih n (j + 1) (by omega) (by omega)
    have e4 : cpj (j + 1) (mS w 0) (rS w X) = upd (cpj j (mS w 0) (rS w X)) j (rS w X j) := by
      funext q; simp only [cpj, upd]
      by_cases h : q = j
      · subst h; rw [if_pos (by omega), if_pos rfl]
      · rw [if_neg h]
        by_cases h2 : q < j
        · rw [if_pos (by omega), if_pos h2]
        · rw [if_neg (by omega), if_neg h2]
    rw [e4] at ih2; exact ih2
theorem cpj9 {S T : St} (hS : Nm S) (hT : Nm T) : cpj 9 S T = T := by
  funext q; unfold cpj
  by_cases h : q < 9
  · rw [if_pos h]
  · rw [if_neg h, hS q (by omega), hT q (by omega)]
theorem rS_nm (w : pm_W) (k : Nat) : Nm (rS w k) := fun n h => by unfold rS; rw [if_neg (by omega)]
theorem kS_nm (w : pm_W) (k : Nat) : Nm (kS w k) := fun n h => by unfold kS; rw [if_neg (by omega)]
theorem cpj0 {S T : St} : cpj 0 S T = S := by funext q; unfold cpj; rw [if_neg (by omega)]
theorem k_undo (F : Nat) (hF : 20 ≤ F) {w : pm_W} (H : Rel w) : ∃ r w1 w2, f_X7_undo F w = some (r, w1) ∧ f_X8_undo F w1 = some (r, w2) ∧ Rel w2 := by
  obtain ⟨n, N, A, X, D, H⟩ := H
  obtain ⟨h1, h2, h3, ⟨a1, a2, a3, a4, a5, a6, a7, a8⟩, h5, h6, h7⟩ := id H
  unfold f_X7_undo f_X8_undo
  by_cases hA : A = 0
  · subst hA
    refine ⟨-3, w, w, ?_, ?_, n, N, 0, X, D, H⟩
    · rw [a3, if_pos (by decide)]
    · rw [a4, if_pos (by decide)]
  · obtain ⟨B, rfl⟩ : ∃ B, A = B + 1 := ⟨A - 1, by omega⟩
    have z1 : ¬ nI (B + 1) = 0 := nI_ne0 (by omega) (by omega)
    have z2 : ¬ nI (B + 1) ≤ 0 := nI_nle (by omega) (by omega)
    have z3 : ¬ 14 < nI (B + 1) := by rw [show (14 : Int32) = nI 14 from rfl, nx_lt (by omega) (by omega)]; omega
    rw [a3, if_neg z1]
    unfold f_X0_takeBack
    rw [a3, if_neg z2, if_neg z3, nI_pred]
    simp only [pm_wlet, pm_gI_s, nx_in (show B < 14 by omega) (show 14 < 2147483648 by omega), if_true, nx_cl (show B < 2147483648 by omega), become_e F (show 9 ≤ F by omega), Option.bind_some, setI_2]
    have ec : ∀ i, cS (pm_setI w 9 0 1 (nI B)) i = cS w i := fun i => cS_of (fun a c ha => setI_ne (by omega))
    rw [ec]
    obtain ⟨w1, hw1⟩ : ∃ w1, w1 = cPut (pm_setI w 9 0 1 (nI B)) 0 (cS w (w.2.2 B)) := ⟨_, rfl⟩
    rw [← hw1]
    have g : ∀ a b c, ¬ (a = 9 ∧ c = 1) → ¬ ((a = 7 ∨ a = 8) ∧ b = 0) → w1.1 a b c = w.1 a b c := fun a b c n1 n2 => by
      rw [hw1, cPut_ne (by omega), setI_ne (by omega)]
    have g9 : w1.1 9 0 1 = nI B := by rw [hw1, cPut_ne (by omega), pm_gI_s]
    have e3 : (nI X + 13) - (nI X + 13) / 14 * 14 = nI ((X + 13) % 14) := by
      rw [show (13 : Int32) = nI 13 from rfl, nI_add, show (14 : Int32) = nI 14 from rfl, pk_rem (by omega) (by omega) (by omega)]
    have f19 : w1.1 19 0 19 = nI (B + 1) := by rw [g _ _ _ (by omega) (by omega)]; exact a4
    have f20 : ∀ z, (pm_setI w1 19 0 19 z).1 19 0 20 = nI X := fun z => by rw [setI_ne (by omega), g _ _ _ (by omega) (by omega)]; exact a5
    obtain ⟨w2, hw2⟩ : ∃ w2, w2 = pm_setI (pm_setI w1 19 0 19 (nI B)) 19 0 20 (nI ((X + 13) % 14)) := ⟨_, rfl⟩
    have hL := undo_L F (w := w2) (X := (X + 13) % 14) (by omega) (by rw [hw2, pm_gI_s]) 9 F 0 (by omega) (by omega)
    rw [cpj0, mPut_self, cpj9 (mS_nm _ _) (rS_nm _ _)] at hL
    have f19b : w2.1 19 0 19 = nI B := by rw [hw2, setI_ne (by omega), pm_gI_s]
    have gg : ∀ a b c, ¬ (a = 19 ∧ (c = 19 ∨ c = 20)) → w2.1 a b c = w1.1 a b c := fun a b c n1 => by
      rw [hw2, setI_ne (by omega), setI_ne (by omega)]
    have hr : rS w2 ((X + 13) % 14) = rS w ((X + 13) % 14) := rS_of (fun c => by rw [gg _ _ _ (by omega), g _ _ _ (by omega) (by omega)]) _
    refine ⟨_, w1, mPut w2 0 (rS w ((X + 13) % 14)), rfl, ?_, ?_⟩
    · rw [f19, if_neg z1, nI_pred]
      simp only [f20, e3]
      rw [← hw2, show (0 : Int32) = nI 0 from rfl, hL, Option.bind_some, hr, g9]
      simp only
      rw [mPut_ne (by omega), f19b]
    · have all : ∀ a b c, ¬ (a = 19 ∧ (c = 19 ∨ c = 20)) → ¬ (a = 23 ∧ c < 9) → ¬ (a = 9 ∧ c = 1) → ¬ ((a = 7 ∨ a = 8) ∧ b = 0) → (mPut w2 0 (rS w ((X + 13) % 14))).1 a b c = w.1 a b c := fun a b c n1 n2 n3 n4 => by
        rw [mPut_ne (by omega), gg a b c n1, g a b c n3 n4]
      have hz := a6 0 (by omega)
      refine ⟨n, N, B, (X + 13) % 14, D, TxR_of (fun a b c s => all a b c ?_ ?_ ?_ ?_) h1, TbR_of (fun a b c s => all a b c ?_ ?_ ?_ ?_) h2, ?_, ⟨by omega, by omega, ?_, ?_, ?_, fun j hj => ?_, ?_, ?_⟩, KpR_of (fun a b c s => all a b c ?_ ?_ ?_ ?_) h5, DnR_of (fun a b c s => all a b c ?_ ?_ ?_ ?_) h6, ?_⟩
      any_goals (unfold sTx at s; omega)
      any_goals (unfold sTb at s; omega)
      any_goals (unfold sKp at s; omega)
      any_goals (unfold sDn at s; omega)
      · unfold NwR
        rw [mS_mPut (rS_nm _ _), cS_of (w := w1) (fun a c ha => by rw [mPut_ne (by omega), gg _ _ _ (by omega)]), hw1, cS_cPut (cS_nm _ _)]
        exact hz
      · rw [mPut_ne (by omega), gg _ _ _ (by omega)]; exact g9
      · rw [mPut_ne (by omega)]; exact f19b
      · rw [mPut_ne (by omega), hw2, pm_gI_s]
      · have e2 : (mPut w2 0 (rS w ((X + 13) % 14))).2.2 = w.2.2 := by
          show w2.2.2 = w.2.2
          rw [hw2, hw1]; rfl
        have hb := a8 (B - 1 - j) (by omega)
        rw [e2, cS_of (w := w) (fun a c ha => all _ _ _ (by omega) (by omega) (by omega) (by omega)), rS_of (w := w) (fun c => all _ _ _ (by omega) (by omega) (by omega) (by omega)), show ((X + 13) % 14 + 13 - j) % 14 = (X + 13 - (j + 1)) % 14 by omega]
        have := a6 (j + 1) (by omega)
        rw [show B + 1 - 1 - (j + 1) = B - 1 - j by omega] at this
        exact this
      · show ∀ a b, a < 14 → b < 14 → w2.2.2 a = w2.2.2 b → a = b
        rw [hw2, hw1]; exact a7
      · show ∀ a, a < 14 → 1 ≤ w2.2.2 a ∧ w2.2.2 a ≤ 14
        rw [hw2, hw1]; exact a8
      · show w2.2.1 0 = w2.2.1 19
        rw [hw2, hw1]; exact h7
-- slots
theorem slot_cases (x : Int32) : (∃ s, s < 2 ∧ x = nI s) ∨ (x < 0 ∨ (¬ x < 2 ∧ 1 < x)) := by
  by_cases h0 : x < 0
  · exact Or.inr (Or.inl h0)
  · by_cases h1 : x < 2
    · obtain ⟨g, hg, e⟩ := nI_get (N := 2) h0 (Int32.not_le.mpr h1) (by omega)
      exact Or.inl ⟨g, hg, e⟩
    · refine Or.inr (Or.inr ⟨h1, ?_⟩)
      exact Int32.lt_of_lt_of_le (by decide) (Int32.not_lt.mp h1)
def rowK (w : pm_W) (s j : Nat) : pm_W := rowP w 35 0 (fun c => if 9 * s ≤ c ∧ c < 9 * s + j then w.1 23 0 (c - 9 * s) else w.1 35 0 c)
theorem keep_L (F : Nat) {w : pm_W} {s : Nat} (hs : s < 2) : ∀ (m n j : Nat), j + m = 9 → m < n → f_X8_keep_L15 F n (rowK w s j) (nI s) (nI j) = some (nI 9, rowK w s 9) := by
  intro m
  induction m with
  | zero =>
    intro n j hj hn
    obtain ⟨n, rfl⟩ : ∃ k, n = k + 1 := ⟨n - 1, by omega⟩
    have : j = 9 := by omega
    subst this
    rw [f_X8_keep_L15, if_pos (by decide)]
  | succ m ih =>
    intro n j hj hn
    obtain ⟨n, rfl⟩ : ∃ k, n = k + 1 := ⟨n - 1, by omega⟩
    have e2 : (rowK w s j).1 23 0 = w.1 23 0 := by unfold rowK; rw [rowP_a (by decide)]
    rw [f_X8_keep_L15, if_neg (show ¬ (9 : Int32) ≤ nI j by rw [show (9 : Int32) = nI 9 from rfl, nx_le (by omega) (by omega)]; omega), nx_in (show j < 18 by omega) (by omega), if_pos rfl, e2, ix9, nx_in (show 9 * s + j < 18 by omega) (by omega), if_pos rfl, nx_cl (by omega), nx_cl (by omega), nx_s]
    unfold pm_wlet
    have ih2 := ih n (j + 1) (by omega) (by omega)
    have e : pm_setI (rowK w s j) 35 0 (9 * s + j) (w.1 23 0 j) = rowK w s (j + 1) := by
      unfold rowK
      rw [set_rowP]
      apply rowP_congr
      intro c
      simp only [upd]
      by_cases h : c = 9 * s + j
      · rw [if_pos h, if_pos (by omega), h, show 9 * s + j - 9 * s = j by omega]
      · rw [if_neg h]
        by_cases h2 : 9 * s ≤ c ∧ c < 9 * s + j
        · rw [if_pos h2, if_pos (by omega)]
        · rw [if_neg h2, if_neg (by omega)]
    rw [e]; exact ih2
theorem k_keep (F : Nat) (hF : 20 ≤ F) {w : pm_W} (H : Rel w) (x : Int32) : ∃ r w1 w2, f_X7_keep F w x = some (r, w1) ∧ f_X8_keep F w1 x = some (r, w2) ∧ Rel w2 := by
  obtain ⟨n, N, A, X, D, H⟩ := H
  obtain ⟨h1, h2, h3, h4, h5, h6, h7⟩ := id H
  unfold f_X7_keep f_X8_keep
  simp only [in_lit F _ x (lo := 0) (hi := 1) 0 1 rfl rfl, Option.bind_some]
  have q1 : ¬ (1 : Int32) = 0 := by decide
  rcases slot_cases x with ⟨s, hs, rfl⟩ | hx
  · have z0 : ¬ nI s < 0 := nI_pos (by omega)
    have z1 : nI s < 2 := by rw [show (2 : Int32) = nI 2 from rfl, nx_lt (by omega) (by omega)]; exact hs
    have z2 : ¬ 1 < nI s := by rw [show (1 : Int32) = nI 1 from rfl, nx_lt (by omega) (by omega)]; omega
    simp only [z0, z1, z2, if_false, if_true, q1, nx_in hs (show 2 < 2147483648 by omega), nx_cl (show s < 2147483648 by omega), become_e F (show 9 ≤ F by omega), Option.bind_some, pm_wlet, vnb1]
    obtain ⟨w1, hw1⟩ : ∃ w1, w1 = pm_setI (cPut w (15 + s) (cS w 0)) 12 0 s 1 := ⟨_, rfl⟩
    obtain ⟨w2, hw2⟩ : ∃ w2, w2 = pm_setI w1 34 0 s 1 := ⟨_, rfl⟩
    rw [← hw1]
    have hL := keep_L F (w := w2) hs 9 F 0 (by omega) (by omega)
    have e0 : rowK w2 s 0 = w2 := by
      unfold rowK
      rw [rowP_congr (g := w2.1 35 0) (fun c => by rw [if_neg (by omega)]), rowP_self]
    rw [e0] at hL
    have g1 : ∀ a b c, ¬ (a = 12 ∧ c = s) → ¬ ((a = 7 ∨ a = 8) ∧ b = 15 + s) → w1.1 a b c = w.1 a b c := fun a b c n1 n2 => by
      rw [hw1, setI_ne (by omega), cPut_ne (by omega)]
    have g2 : ∀ a b c, ¬ (a = 34 ∧ c = s) → w2.1 a b c = w1.1 a b c := fun a b c n1 => by rw [hw2, setI_ne (by omega)]
    have g3 : ∀ a b c, ¬ (a = 35 ∧ 9 * s ≤ c ∧ c < 9 * s + 9) → (rowK w2 s 9).1 a b c = w2.1 a b c := fun a b c n1 => by
      unfold rowK
      by_cases h : a = 35 ∧ b = 0
      · rw [h.1, h.2, rowP_s, if_neg (by omega)]
      · by_cases ha : a = 35
        · rw [rowP_b (fun z => h ⟨ha, z⟩)]
        · rw [rowP_a ha]
    have m0 : mS w2 0 = mS w 0 := mS_of (fun n hn => by rw [g2 _ _ _ (by omega), g1 _ _ _ (by omega) (by omega)])
    refine ⟨_, w1, rowK w2 s 9, rfl, ?_, ?_⟩
    · rw [← hw2, show (0 : Int32) = nI 0 from rfl, hL, Option.bind_some, g1 _ _ _ (by omega) (by omega), g3 _ _ _ (by omega)]
      have r1 : w.1 7 0 1 = cS w 0 5 := cS_f (by omega) (by omega)
      have r2 := mS_g (w := w2) (v := 0) (n := 5) (by omega)
      rw [show 9 * 0 + 5 = 5 by omega, m0] at r2
      rw [r1, r2, h3.1 5 (Or.inr ⟨by omega, by omega⟩)]
    · have all : ∀ a b c, ¬ (a = 12 ∧ c = s) → ¬ ((a = 7 ∨ a = 8) ∧ b = 15 + s) → ¬ (a = 34 ∧ c = s) → ¬ (a = 35 ∧ 9 * s ≤ c ∧ c < 9 * s + 9) → (rowK w2 s 9).1 a b c = w.1 a b c := fun a b c n1 n2 n3 n4 => by
        rw [g3 a b c n4, g2 a b c n3, g1 a b c n1 n2]
      have e2 : (rowK w2 s 9).2 = w.2 := by unfold rowK; rw [rowP_2, hw2, hw1]; rfl
      refine ⟨n, N, A, X, D, TxR_of (fun a b c s => all a b c ?_ ?_ ?_ ?_) h1, TbR_of (fun a b c s => all a b c ?_ ?_ ?_ ?_) h2, NwR_of (fun a b c s => all a b c ?_ ?_ ?_ ?_) h3, AcR_of (fun a b c s => all a b c ?_ ?_ ?_ ?_) (by rw [e2]) h4, fun t ht => ?_, DnR_of (fun a b c s => all a b c ?_ ?_ ?_ ?_) h6, by rw [e2]; exact h7⟩
      any_goals (rename_i s; unfold sTx at s; omega)
      any_goals (rename_i s; unfold sTb at s; omega)
      any_goals (rename_i s; unfold sNw at s; omega)
      any_goals (rename_i s; unfold sAc at s; omega)
      any_goals (rename_i s; unfold sDn at s; omega)
      · by_cases e : t = s
        · subst e
          have k1 : (rowK w2 t 9).1 12 0 t = 1 := by rw [g3 _ _ _ (by omega), g2 _ _ _ (by omega), hw1, pm_gI_s]
          have k2 : (rowK w2 t 9).1 34 0 t = 1 := by rw [g3 _ _ _ (by omega), hw2, pm_gI_s]
          have k3 : cS (rowK w2 t 9) (15 + t) = cS w 0 := by
            rw [cS_of (w := cPut w (15 + t) (cS w 0)) (fun a c ha => by rw [g3 _ _ _ (by omega), g2 _ _ _ (by omega), hw1, setI_ne (by omega)]), cS_cPut (cS_nm w 0)]
          have k4 : kS (rowK w2 t 9) t = mS w 0 := by
            rw [← m0]
            funext q
            unfold kS mS
            by_cases hq : q < 9
            · rw [if_pos hq, if_pos hq]; unfold rowK; rw [rowP_s, if_pos (by omega), show 9 * t + q - 9 * t = 9 * 0 + q by omega]
            · rw [if_neg hq, if_neg hq]
          rw [k1, k2, k3, k4]
          exact ⟨rfl, Or.inr ⟨rfl, h3⟩⟩
        · have k3 : kS (rowK w2 s 9) t = kS w t := by
            funext q
            unfold kS
            by_cases hq : q < 9
            · rw [if_pos hq, if_pos hq, all _ _ _ (by omega) (by omega) (by omega) (by omega)]
            · rw [if_neg hq, if_neg hq]
          rw [all _ _ _ (by omega) (by omega) (by omega) (by omega), all _ _ _ (by omega) (by omega) (by omega) (by omega), cS_of (w := w) (fun a c ha => all _ _ _ (by omega) (by omega) (by omega) (by omega)), k3]
          exact h5 t ht
  · refine ⟨-1, w, w, ?_, ?_, n, N, A, X, D, H⟩
    · rcases hx with h | ⟨h, h'⟩
      · simp only [h, if_true]
      · by_cases h0 : x < 0
        · simp only [h0, if_true]
        · simp only [h0, h, if_false]
    · rcases hx with h | ⟨h, h'⟩
      · simp only [h, if_true]
      · by_cases h0 : x < 0
        · simp only [h0, if_true]
        · simp only [h0, h', if_false, if_true]
