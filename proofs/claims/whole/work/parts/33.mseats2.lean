/-! ===== the reference: said, passed, fetched, trials ===== -/
theorem sayOn_L (F : Nat) {w : pm_W} {N v : Nat} {v1 v2 x own : Int32} {S : St} (hN : w.1 19 0 0 = nI N) (h5 : N ≤ 5) (hv : v < 2) : ∀ (m n j : Nat), j + m = N → m < n → f_X8_sayOn_L17 F n (mPut w v (spj j own x S)) v1 v2 (9 * nI v) own x (nI j) = some (nI N, mPut w v (spj N own x S)) := by
  intro m
  induction m with
  | zero =>
    intro n j hj hn
    obtain ⟨n, rfl⟩ : ∃ k, n = k + 1 := ⟨n - 1, by omega⟩
    have : j = N := by omega
    subst this
    rw [f_X8_sayOn_L17, mPut_o (by decide), hN, if_pos (by rw [nx_le (by omega) (by omega)]; omega)]
  | succ m ih =>
    intro n j hj hn
    obtain ⟨n, rfl⟩ : ∃ k, n = k + 1 := ⟨n - 1, by omega⟩
    have e1 : spj j own x S j = S j := by unfold spj; rw [if_neg (by omega)]
    rw [f_X8_sayOn_L17, mPut_o (by decide), hN, if_neg (by rw [nx_le (by omega) (by omega)]; omega), ix9, nx_in (show 9 * v + j < 18 by omega) (by omega), if_pos rfl, if_pos rfl, if_pos rfl, nx_cl (by omega), mPut_g (by omega), e1, nx_s]
    unfold pm_wlet
    rw [mPut_set (by omega)]
    have ih2 := ih n (j + 1) (by omega) (by omega)
    have e2 : spj (j + 1) own x S = upd (spj j own x S) j (S j + if S j ≤ own then 0 else x) := by
      funext q; simp only [spj, upd]
      by_cases h : q = j
      · subst h
        rw [if_pos (by omega), if_pos rfl]
        by_cases hx : S q ≤ own
        · rw [if_pos hx, if_pos hx, Int32.add_zero]
        · rw [if_neg hx, if_neg hx]
      · rw [if_neg h]
        by_cases h2 : q < j
        · rw [if_pos (by omega), if_pos h2]
        · rw [if_neg (by omega), if_neg h2]
    rw [e2] at ih2; exact ih2
theorem sayOn_e (F : Nat) {w : pm_W} {N v g : Nat} (hF : 9 ≤ F) (hN : w.1 19 0 0 = nI N) (h5 : N ≤ 5) (hg : g < N) (hv : v < 2) : f_X8_sayOn F w (nI v) (nI g) = some (mPut w v (spk N (w.1 20 0) (mS w v) g)) := by
  unfold f_X8_sayOn
  have e0 : w = mPut w v (spj 0 (mS w v g) (gr (w.1 20 0 g)) (mS w v)) := by
    rw [show spj 0 (mS w v g) (gr (w.1 20 0 g)) (mS w v) = mS w v from funext fun q => by unfold spj; rw [if_neg (by omega)], mPut_self]
  have hL := sayOn_L F (v1 := nI v) (v2 := nI g) (x := gr (w.1 20 0 g)) (own := mS w v g) (S := mS w v) hN h5 hv N F 0 (by omega) (by omega)
  rw [← e0] at hL
  rw [mgrowth_e F (by omega), Option.bind_some, ix9, nx_cl (show 9 * v + g < 2147483648 by omega), mS_g (by omega), show (0 : Int32) = nI 0 from rfl, hL, Option.bind_some, show (5 : Int32) = nI 5 from rfl, show (6 : Int32) = nI 6 from rfl, ix9, ix9, nx_in (show 9 * v + g < 18 by omega) (by omega), nx_in (show 9 * v + 5 < 18 by omega) (by omega), nx_in (show 9 * v + 6 < 18 by omega) (by omega)]
  simp only [if_true, nx_cl (show 9 * v + 5 < 2147483648 by omega), nx_cl (show 9 * v + 6 < 2147483648 by omega), pm_wlet, mPut_g (show 6 < 9 by omega), mPut_g (show 5 < 9 by omega), mPut_set (show 6 < 9 by omega), mPut_set (show 5 < 9 by omega)]
  obtain ⟨x, hx⟩ : ∃ x, gr (w.1 20 0 g) = x := ⟨_, rfl⟩
  have hs : spk N (w.1 20 0) (mS w v) g = fun q => (if q < N then (if mS w v q ≤ mS w v g then mS w v q else mS w v q + x) else if q = 5 then mS w v 5 + x else if q = 6 then (if mS w v 6 ≤ mS w v g then mS w v 6 else mS w v 6 + x) else mS w v q) := by
    funext q; simp only [spk, hx]
  rw [hs, hx]
  have e6 : spj N (mS w v g) x (mS w v) 6 = mS w v 6 := by unfold spj; rw [if_neg (by omega)]
  have e5 : spj N (mS w v g) x (mS w v) 5 = mS w v 5 := by unfold spj; rw [if_neg (by omega)]
  refine congrArg some (congrArg (mPut w v) (funext fun q => ?_))
  simp only [upd]
  rw [if_neg (show ¬ 5 = 6 by omega), e6, e5]
  by_cases h1 : q < N
  · rw [if_neg (by omega), if_neg (by omega), if_pos h1]
    unfold spj; rw [if_pos h1]
  · rw [if_neg h1]
    by_cases h2 : q = 5
    · rw [if_pos h2, if_pos h2]
    · rw [if_neg h2, if_neg h2]
      by_cases h3 : q = 6
      · rw [if_pos h3, if_pos h3]
        by_cases h : mS w v 6 ≤ mS w v g
        · rw [if_pos h, if_pos h]; exact Int32.add_zero _
        · rw [if_neg h, if_neg h]
      · rw [if_neg h3, if_neg h3]
        unfold spj; rw [if_neg h1]
set_option maxRecDepth 20000 in
theorem passOn_e (F : Nat) {w : pm_W} {v g : Nat} (hg : g < 5) (hv : v < 2) : f_X8_passOn F w (nI v) (nI g) = some (mPut w v (hnd (w.1 21 0) (mS w v) g)) := by
  unfold f_X8_passOn
  rw [show (6 : Int32) = nI 6 from rfl, show (7 : Int32) = nI 7 from rfl, show (8 : Int32) = nI 8 from rfl]
  simp only [ix9, nx_in (show 9 * v + g < 18 by omega) (show 18 < 2147483648 by omega), nx_in (show 9 * v + 6 < 18 by omega) (show 18 < 2147483648 by omega), nx_in (show 9 * v + 7 < 18 by omega) (show 18 < 2147483648 by omega), nx_in (show 9 * v + 8 < 18 by omega) (show 18 < 2147483648 by omega), nx_in (show g < 5 by omega) (show 5 < 2147483648 by omega), if_true, nx_cl (show g < 2147483648 by omega), nx_cl (show 9 * v + g < 2147483648 by omega), nx_cl (show 9 * v + 6 < 2147483648 by omega), nx_cl (show 9 * v + 7 < 2147483648 by omega), nx_cl (show 9 * v + 8 < 2147483648 by omega), pm_wlet, mS_g (w := w) (show g < 9 by omega), mS_g (w := w) (show 6 < 9 by omega), mS_g (w := w) (show 7 < 9 by omega)]
  simp only [mS_set (w := w) (show 7 < 9 by omega), mPut_set (show 6 < 9 by omega), mPut_set (show 8 < 9 by omega), mPut_g (show g < 9 by omega), mPut_g (show 7 < 9 by omega), mPut_g (show 8 < 9 by omega), mPut_o (show 21 ≠ 23 by omega)]
  have r : (if 0 ≤ mS w v 7 - (if 0 ≤ mS w v g - mS w v 6 then mS w v g - mS w v 6 else -(mS w v g - mS w v 6)) then mS w v 7 - (if 0 ≤ mS w v g - mS w v 6 then mS w v g - mS w v 6 else -(mS w v g - mS w v 6)) else 0 : Int32) = hh (mS w v) g := rfl
  rw [r]
  refine congrArg some (congrArg (mPut w v) (funext fun q => ?_))
  have eg : upd (mS w v) 7 (hh (mS w v) g) g = mS w v g := upd_n (by omega)
  rw [eg]
  have e7 : upd (upd (mS w v) 7 (hh (mS w v) g)) 6 (mS w v g) 7 = hh (mS w v) g := by simp [upd]
  have e8 : upd (upd (mS w v) 7 (hh (mS w v) g)) 6 (mS w v g) 8 = mS w v 8 := by simp [upd]
  rw [e7, e8]
  simp only [upd, hnd]
  by_cases h8 : q = 8
  · subst h8
    by_cases hq : hh (mS w v) g < w.1 21 0 g
    · simp [hq]
    · simp [hq]
  · rw [if_neg h8]
    by_cases h6 : q = 6
    · rw [if_pos h6, if_pos h6]
    · rw [if_neg h6, if_neg h6]
      by_cases h7 : q = 7
      · rw [if_pos h7, if_pos h7]
      · rw [if_neg h7, if_neg h7, if_neg h8]
theorem fetchOn_e (F : Nat) {w : pm_W} {v : Nat} (hv : v < 2) : f_X8_fetchOn F w (nI v) = some (mPut w v (rfi (w.1 19 0 1) (mS w v))) := by
  unfold f_X8_fetchOn
  rw [show (6 : Int32) = nI 6 from rfl, show (7 : Int32) = nI 7 from rfl]
  simp only [ix9, nx_in (show 9 * v + 6 < 18 by omega) (show 18 < 2147483648 by omega), nx_in (show 9 * v + 7 < 18 by omega) (show 18 < 2147483648 by omega), if_true, nx_cl (show 9 * v + 6 < 2147483648 by omega), nx_cl (show 9 * v + 7 < 2147483648 by omega), pm_wlet, mS_set (w := w) (show 6 < 9 by omega), mPut_set (show 7 < 9 by omega), mPut_o (show 19 ≠ 23 by omega)]
  refine congrArg some (congrArg (mPut w v) (funext fun q => ?_))
  simp only [upd, rfi]
  by_cases h7 : q = 7
  · subst h7; rfl
  · rw [if_neg h7]
    by_cases h6 : q = 6
    · rw [if_pos h6, if_pos h6]
    · rw [if_neg h6, if_neg h6, if_neg h7]
theorem layTrial_L (F : Nat) {w : pm_W} : ∀ (m n j : Nat), j + m = 9 → m < n → f_X8_layTrial_L2 F n (mPut w 1 (cpj j (mS w 1) (mS w 0))) (nI j) = some (nI 9, mPut w 1 (cpj 9 (mS w 1) (mS w 0))) := by
  intro m
  induction m with
  | zero =>
    intro n j hj hn
    obtain ⟨n, rfl⟩ : ∃ k, n = k + 1 := ⟨n - 1, by omega⟩
    have : j = 9 := by omega
    subst this
    rw [f_X8_layTrial_L2, if_pos (by decide)]
  | succ m ih =>
    intro n j hj hn
    obtain ⟨n, rfl⟩ : ∃ k, n = k + 1 := ⟨n - 1, by omega⟩
    have e1 : (mPut w 1 (cpj j (mS w 1) (mS w 0))).1 23 0 j = mS w 0 j := by
      have := mS_g (w := mPut w 1 (cpj j (mS w 1) (mS w 0))) (v := 0) (n := j) (by omega)
      rw [mS_mPut_ne (by omega)] at this
      rw [show 9 * 0 + j = j by omega] at this
      exact this
    rw [f_X8_layTrial_L2, if_neg (show ¬ (9 : Int32) ≤ nI j by rw [show (9 : Int32) = nI 9 from rfl, nx_le (by omega) (by omega)]; omega), nx_in (show j < 18 by omega) (by omega), if_pos rfl, show (9 : Int32) = nI 9 from rfl, nI_add, nx_in (show 9 + j < 18 by omega) (by omega), if_pos rfl, nx_cl (by omega), nx_cl (by omega), e1, nx_s]
    unfold pm_wlet
    rw [show 9 + j = 9 * 1 + j from rfl, mPut_set (by omega)]
    have ih2 := ih n (j + 1) (by omega) (by omega)
    have e2 : cpj (j + 1) (mS w 1) (mS w 0) = upd (cpj j (mS w 1) (mS w 0)) j (mS w 0 j) := by
      funext q; simp only [cpj, upd]
      by_cases h : q = j
      · subst h; rw [if_pos (by omega), if_pos rfl]
      · rw [if_neg h]
        by_cases h2 : q < j
        · rw [if_pos (by omega), if_pos h2]
        · rw [if_neg (by omega), if_neg h2]
    rw [e2] at ih2; exact ih2
theorem layTrial_e (F : Nat) {w : pm_W} (hF : 20 ≤ F) : f_X8_layTrial F w = some (mPut w 1 (mS w 0)) := by
  unfold f_X8_layTrial
  have e0 : w = mPut w 1 (cpj 0 (mS w 1) (mS w 0)) := by
    rw [show cpj 0 (mS w 1) (mS w 0) = mS w 1 from funext fun q => by unfold cpj; rw [if_neg (by omega)], mPut_self]
  have hL := layTrial_L F (w := w) 9 F 0 (by omega) (by omega)
  rw [← e0] at hL
  rw [show (0 : Int32) = nI 0 from rfl, hL, Option.bind_some]
  refine congrArg some (congrArg (mPut w 1) (funext fun q => ?_))
  unfold cpj
  by_cases h : q < 9
  · rw [if_pos h]
  · rw [if_neg h, mS_nm w 1 q (by omega), mS_nm w 0 q (by omega)]
