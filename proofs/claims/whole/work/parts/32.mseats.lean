/-! ===== become; the reference's seats ===== -/
def cpj (j : Nat) (S T : St) : St := fun n => if n < j then T n else S n
theorem become_L (F : Nat) {w : pm_W} {i k : Nat} : ∀ (m n j : Nat), j + m = 5 → m < n → f_X4_become_L2 F n (cPut w i (cpj j (cS w i) (cS w k))) i k (nI j) = some (nI 5, cPut w i (cpj 5 (cS w i) (cS w k))) := by
  intro m
  induction m with
  | zero =>
    intro n j hj hn
    obtain ⟨n, rfl⟩ : ∃ k, n = k + 1 := ⟨n - 1, by omega⟩
    have : j = 5 := by omega
    subst this
    rw [f_X4_become_L2, if_pos (by decide)]
  | succ m ih =>
    intro n j hj hn
    obtain ⟨n, rfl⟩ : ∃ k, n = k + 1 := ⟨n - 1, by omega⟩
    have e1 : (cPut w i (cpj j (cS w i) (cS w k))).1 8 k j = cS w k j := by
      by_cases h : k = i
      · subst h
        rw [cPut_g8 (by omega)]; unfold cpj; rw [if_neg (by omega)]
      · rw [cS_l (by omega), cS_cPut_ne h]
    rw [f_X4_become_L2, if_neg (show ¬ (5 : Int32) ≤ nI j by rw [show (5 : Int32) = nI 5 from rfl, nx_le (by omega) (by omega)]; omega), nx_in (show j < 5 by omega) (by omega), if_pos rfl, if_pos rfl, nx_cl (by omega), e1, nx_s]
    unfold pm_wlet
    rw [cPut_set8 (by omega)]
    have ih2 := ih n (j + 1) (by omega) (by omega)
    have e2 : cpj (j + 1) (cS w i) (cS w k) = upd (cpj j (cS w i) (cS w k)) j (cS w k j) := by
      funext q; simp only [cpj, upd]
      by_cases h : q = j
      · subst h; rw [if_pos (by omega), if_pos rfl]
      · rw [if_neg h]
        by_cases h2 : q < j
        · rw [if_pos (by omega), if_pos h2]
        · rw [if_neg (by omega), if_neg h2]
    rw [e2] at ih2; exact ih2
theorem become_e (F : Nat) {w : pm_W} {i k : Nat} (hF : 9 ≤ F) : f_X4_become F w i k = some (cPut w i (cS w k)) := by
  unfold f_X4_become
  have e0 : w = cPut w i (cpj 0 (cS w i) (cS w k)) := by
    rw [show cpj 0 (cS w i) (cS w k) = cS w i from funext fun q => by unfold cpj; rw [if_neg (by omega)], cPut_self]
  have hL := become_L F (w := w) (i := i) (k := k) 5 F 0 (by omega) (by omega)
  rw [← e0] at hL
  rw [show (0 : Int32) = nI 0 from rfl, hL, Option.bind_some]
  simp only [pm_wlet]
  have rd : ∀ (S : St) (n : Nat), 1 ≤ n → n < 5 → Nm S → (cPut w i S).1 7 k n = if k = i then S (n + 4) else cS w k (n + 4) := by
    intro S n h1 h2 hS
    by_cases h : k = i
    · subst h; rw [if_pos rfl, cPut_g7 h1 h2]
    · rw [if_neg h, cS_f h1 h2, cS_cPut_ne h]
  have nm5 : Nm (cpj 5 (cS w i) (cS w k)) := fun n hn => by unfold cpj; rw [if_neg (by omega)]; exact cS_nm w i n hn
  have nmu : ∀ (S : St) (n : Nat) (x : Int32), Nm S → n < 9 → Nm (upd S n x) := fun S n x h hn q hq => by rw [upd_n (by omega)]; exact h q hq
  have v1 : (cPut w i (cpj 5 (cS w i) (cS w k))).1 7 k 1 = cS w k 5 := by
    rw [rd _ 1 (by omega) (by omega) nm5]
    by_cases h : k = i
    · subst h; rw [if_pos rfl]; rfl
    · rw [if_neg h]
  rw [v1, cPut_set7 (by omega) (by omega)]
  have v2 : (cPut w i (upd (cpj 5 (cS w i) (cS w k)) (1 + 4) (cS w k 5))).1 7 k 2 = cS w k 6 := by
    rw [rd _ 2 (by omega) (by omega) (nmu _ _ _ nm5 (by omega))]
    by_cases h : k = i
    · subst h; rw [if_pos rfl]; rfl
    · rw [if_neg h]
  rw [v2, cPut_set7 (by omega) (by omega)]
  have v3 : (cPut w i (upd (upd (cpj 5 (cS w i) (cS w k)) (1 + 4) (cS w k 5)) (2 + 4) (cS w k 6))).1 7 k 3 = cS w k 7 := by
    rw [rd _ 3 (by omega) (by omega) (nmu _ _ _ (nmu _ _ _ nm5 (by omega)) (by omega))]
    by_cases h : k = i
    · subst h; rw [if_pos rfl]; rfl
    · rw [if_neg h]
  rw [v3, cPut_set7 (by omega) (by omega)]
  have v4 : (cPut w i (upd (upd (upd (cpj 5 (cS w i) (cS w k)) (1 + 4) (cS w k 5)) (2 + 4) (cS w k 6)) (3 + 4) (cS w k 7))).1 7 k 4 = cS w k 8 := by
    rw [rd _ 4 (by omega) (by omega) (nmu _ _ _ (nmu _ _ _ (nmu _ _ _ nm5 (by omega)) (by omega)) (by omega))]
    by_cases h : k = i
    · subst h; rw [if_pos rfl]; rfl
    · rw [if_neg h]
  rw [v4, cPut_set7 (by omega) (by omega)]
  refine congrArg some (congrArg (cPut w i) (funext fun q => ?_))
  simp only [upd]
  by_cases h5 : q = 5
  · subst h5; rfl
  · by_cases h6 : q = 6
    · subst h6; rfl
    · by_cases h7 : q = 7
      · subst h7; rfl
      · by_cases h8 : q = 8
        · subst h8; rfl
        · rw [if_neg h8, if_neg h7, if_neg h6, if_neg h5]
          unfold cpj
          by_cases h : q < 5
          · rw [if_pos h]
          · rw [if_neg h, cS_nm w i q (by omega), cS_nm w k q (by omega)]
theorem trialFrom_e (F : Nat) {w : pm_W} {k : Nat} (hF : 9 ≤ F) : f_X3_trialFrom F w k = some (17, cPut w 17 (cS w k)) := by
  unfold f_X3_trialFrom
  rw [become_e F hF]; rfl
-- the reference
theorem ix9 (v g : Nat) : (9 * nI v) + nI g = nI (9 * v + g) := by
  rw [show (9 : Int32) = nI 9 from rfl, pk_mul, nI_add]
theorem cmp_lt (a b : Int64) : lg_cmp a b < 0 ↔ a < b := by
  unfold lg_cmp
  by_cases h : b < a
  · have h2 : ¬ a < b := fun z => absurd (Int64.lt_trans h z) Int64.lt_irrefl
    simp [h, h2]
  · by_cases h3 : a = b
    · subst h3; simp
    · have : a < b := by
        rcases Int64.lt_or_eq_of_le (Int64.not_lt.mp h) with z | z
        · exact z
        · exact absurd z h3
      simp [h, h3, this]
theorem cmp_gt (a b : Int64) : 0 < lg_cmp a b ↔ b < a := by
  unfold lg_cmp
  by_cases h : b < a
  · simp [h]
  · by_cases h3 : a = b
    · subst h3; simp
    · simp [h, h3]
theorem in_e (F : Nat) (w : pm_W) (a b c : Int64) : f_X8_in F w a b c = some (if a < b then 0 else if c < a then 0 else 1) := by
  unfold f_X8_in
  simp only [cmp_lt, cmp_gt]
  by_cases h : a < b
  · simp only [h, if_true, isb_0]
  · by_cases h2 : c < a
    · simp only [h, h2, if_true, if_false, isb_0]
    · simp only [h, h2, if_true, if_false, isb_1]
theorem wide_lt (a b : Int32) : a.toInt64 < b.toInt64 ↔ a < b := by
  rw [Int64.lt_iff_toInt_lt, Int32.lt_iff_toInt_lt, Int32.toInt_toInt64, Int32.toInt_toInt64]
theorem in_32 (F : Nat) (w : pm_W) (a b c : Int32) : f_X8_in F w a.toInt64 b.toInt64 c.toInt64 = some (if a < b then 0 else if c < a then 0 else 1) := by
  rw [in_e]; simp only [wide_lt]
theorem isGuest_in (F : Nat) {w : pm_W} {N g : Nat} (hN : w.1 19 0 0 = nI N) (h5 : N ≤ 5) (hg : g < N) : f_X8_isGuest F w (nI g) = some 1 := by
  have a1 : ¬ nI g < 0 := nI_pos (by omega)
  have a2 : ¬ nI N - 1 < nI g := by
    obtain ⟨M, rfl⟩ : ∃ M, N = M + 1 := ⟨N - 1, by omega⟩
    rw [nI_pred, nx_lt (by omega) (by omega)]; omega
  unfold f_X8_isGuest
  rw [show (0 : Int64) = (0 : Int32).toInt64 from rfl, hN, in_32]
  simp only [a1, a2, if_false, Option.bind_some, isb_1, if_true]
theorem isGuest_out (F : Nat) {w : pm_W} {N : Nat} {x : Int32} (hN : w.1 19 0 0 = nI N) (h5 : N ≤ 5) (hx : ∀ g, g < N → x ≠ nI g) : f_X8_isGuest F w x = some 0 := by
  unfold f_X8_isGuest
  rw [show (0 : Int64) = (0 : Int32).toInt64 from rfl, hN, in_32]
  by_cases h0 : x < 0
  · simp only [h0, if_true, Option.bind_some, isb_0]
  · have h1 : nI N - 1 < x := by
      apply Decidable.byContradiction
      intro z
      have z := Int32.not_lt.mp z
      by_cases hz : N = 0
      · subst hz
        have : x ≤ -1 := z
        exact h0 (Int32.lt_of_le_of_lt this (by decide))
      · obtain ⟨M, rfl⟩ : ∃ M, N = M + 1 := ⟨N - 1, by omega⟩
        rw [nI_pred] at z
        obtain ⟨g, hg, e⟩ := nI_get (N := M + 1) h0 (fun q => by
          have := Int32.le_trans q z
          rw [nx_le (by omega) (by omega)] at this; omega) (by omega)
        exact hx g hg e
    simp only [h0, h1, if_true, if_false, Option.bind_some, isb_0]
theorem mgrowth_e (F : Nat) {w : pm_W} {g : Nat} (hg : g < 5) : f_X8_growth F w (nI g) = some (gr (w.1 20 0 g)) := by
  unfold f_X8_growth gr
  rw [nx_in hg (by omega), if_pos rfl, if_pos rfl, if_pos rfl, nx_cl (by omega)]
  by_cases h0 : w.1 20 0 g = 0
  · rw [if_pos h0, if_pos h0]
  · rw [if_neg h0, if_neg h0]
    by_cases h1 : w.1 20 0 g = 1
    · rw [if_pos h1, if_pos h1]
    · rw [if_neg h1, if_neg h1]
theorem misTaken_L (F : Nat) {w : pm_W} {N v : Nat} {x : Int32} (hN : w.1 19 0 0 = nI N) (h5 : N ≤ 5) (hv : v < 2) : ∀ (m n j : Nat), j + m = N → m < n → f_X8_isTaken_L4 F w n (nI v) x (bi (tk (mS w v) x j)) (nI j) = some (bi (tk (mS w v) x N), nI N) := by
  intro m
  induction m with
  | zero =>
    intro n j hj hn
    obtain ⟨n, rfl⟩ : ∃ k, n = k + 1 := ⟨n - 1, by omega⟩
    have : j = N := by omega
    subst this
    rw [f_X8_isTaken_L4, hN, if_pos (by rw [nx_le (by omega) (by omega)]; omega)]
  | succ m ih =>
    intro n j hj hn
    obtain ⟨n, rfl⟩ : ∃ k, n = k + 1 := ⟨n - 1, by omega⟩
    rw [f_X8_isTaken_L4, hN, if_neg (by rw [nx_le (by omega) (by omega)]; omega), ix9, nx_in (show 9 * v + j < 18 by omega) (by omega), if_pos rfl, nx_cl (by omega), mS_g (by omega), nx_s]
    have ih2 := ih n (j + 1) (by omega) (by omega)
    have e2 : tk (mS w v) x (j + 1) = (tk (mS w v) x j || decide (mS w v j = x)) := rfl
    rw [e2] at ih2
    by_cases ht : tk (mS w v) x j = true
    · rw [if_neg (by rw [ht]; decide)]
      rw [ht, Bool.true_or] at ih2
      exact ih2
    · have ht : tk (mS w v) x j = false := by simpa using ht
      rw [if_pos (by rw [ht]; rfl)]
      rw [ht, Bool.false_or] at ih2
      by_cases hx : mS w v j = x
      · rw [if_pos hx]
        simp only [hx, decide_true] at ih2
        exact ih2
      · rw [if_neg hx]
        simp only [hx, decide_false] at ih2
        exact ih2
theorem misTaken_e (F : Nat) {w : pm_W} {N v : Nat} {x : Int32} (hF : 9 ≤ F) (hN : w.1 19 0 0 = nI N) (h5 : N ≤ 5) (hv : v < 2) : f_X8_isTaken F w (nI v) x = some (bi (tk (mS w v) x N)) := by
  unfold f_X8_isTaken
  have := misTaken_L F (x := x) hN h5 hv N F 0 (by omega) (by omega)
  rw [show (0 : Int32) = nI 0 from rfl]
  rw [show bi (tk (mS w v) x 0) = nI 0 from rfl] at this
  rw [this, Option.bind_some]
  simp only [isb_bi, if_true]
theorem canSay_e (F : Nat) {w : pm_W} {N v g : Nat} (hF : 9 ≤ F) (hN : w.1 19 0 0 = nI N) (h5 : N ≤ 5) (hg : g < N) (hv : v < 2) : f_X8_canSay F w (nI v) (nI g) = some (bi (can N (w.1 20 0) (mS w v) g)) := by
  unfold f_X8_canSay
  rw [show (5 : Int32) = nI 5 from rfl, ix9, ix9, nx_in (show 9 * v + g < 18 by omega) (by omega), nx_in (show 9 * v + 5 < 18 by omega) (by omega), nx_in (show g < 5 by omega) (by omega), if_pos rfl, if_pos rfl, if_pos rfl, if_pos rfl, nx_cl (by omega), nx_cl (by omega), nx_cl (by omega), mS_g (by omega), mS_g (by omega), misTaken_e F hF hN h5 hv, mgrowth_e F (by omega), Option.bind_some, Option.bind_some, isb_if, isb_if2, if_pos rfl, if_pos rfl]
  unfold can
  by_cases hk : w.1 20 0 g = 1
  · rw [if_pos hk, if_pos hk]
    by_cases z : mS w v 5 ≤ mS w v g + 1
    · simp [z, bi]
    · cases tk (mS w v) (mS w v g + 1) N <;> simp [z, bi]
  · rw [if_neg hk, if_neg hk]
    by_cases z : 60 < mS w v 5 + gr (w.1 20 0 g) <;> simp [z, bi]
