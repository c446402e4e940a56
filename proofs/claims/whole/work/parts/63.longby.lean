/-! ===== longBy, together ===== -/
theorem tld_ge {v : Nat} : ∀ (m a : Nat), 10 ^ m * a ≤ tld v m a ∧ tld v m a < 10 ^ m * (a + 1)
  | 0, a => by unfold tld; omega
  | m + 1, a => by
    unfold tld
    have h := tld_ge (v := v) m (10 * a + sx v m + 1)
    have l := sx_lt v m
    have e : 10 ^ (m + 1) = 10 ^ m * 10 := Nat.pow_succ ..
    have a1 : 10 ^ m * (10 * a) ≤ 10 ^ m * (10 * a + sx v m + 1) := Nat.mul_le_mul_left _ (by omega)
    have a2 : 10 ^ m * (10 * a + sx v m + 1 + 1) ≤ 10 ^ m * (10 * (a + 1)) := Nat.mul_le_mul_left _ (by omega)
    rw [e, Nat.mul_assoc, Nat.mul_assoc]
    omega
theorem tld_k {v k : Nat} : tld v k 0 < 10 ^ k ∧ (1 ≤ k → 10 ^ (k - 1) ≤ tld v k 0) := by
  refine ⟨by have := (tld_ge (v := v) k 0).2; omega, fun h => ?_⟩
  obtain ⟨m, rfl⟩ : ∃ m, k = m + 1 := ⟨k - 1, by omega⟩
  show 10 ^ m ≤ tld v m (10 * 0 + sx v m + 1)
  have := (tld_ge (v := v) m (10 * 0 + sx v m + 1)).1
  have a1 : 10 ^ m * 1 ≤ 10 ^ m * (10 * 0 + sx v m + 1) := Nat.mul_le_mul_left _ (by omega)
  omega
theorem ten_p : ∀ k, ten k = 10 ^ k
  | 0 => rfl
  | k + 1 => by unfold ten; rw [ten_p k, Nat.pow_succ]
theorem figs_k (F : Nat) {w : pm_W} {v k : Nat} (hF : 9 ≤ F) (hk : k ≤ 5) : f_X7_figuresOf F w (nI (tld v k 0)) = some (nI k) := by
  unfold f_X7_figuresOf
  obtain ⟨h1, h2⟩ := tld_k (v := v) (k := k)
  have L : ∀ (m n j : Nat), j + m = k → m < n → f_X7_figuresOf_L2 F w n (nI (tld v k 0)) (nI j) = some (nI k) := by
    intro m
    have tk := ten_e k (by omega)
    rw [ten_p] at tk
    induction m with
    | zero =>
      intro n j hj hn
      obtain ⟨n, rfl⟩ : ∃ q, n = q + 1 := ⟨n - 1, by omega⟩
      have : j = k := by omega
      subst this
      rw [f_X7_figuresOf_L2, show (6 : Int32) = nI 6 from rfl, if_neg (by rw [nx_le (by omega) (by omega)]; omega), nx_in (show j < 7 by omega) (by omega), if_pos rfl, nx_cl (by omega), tk.1, if_pos (by rw [nx_lt (by omega) (by omega)]; exact h1)]
    | succ m ih =>
      intro n j hj hn
      obtain ⟨n, rfl⟩ : ∃ q, n = q + 1 := ⟨n - 1, by omega⟩
      have tj := ten_e j (by omega)
      rw [ten_p] at tj
      have mono : 10 ^ j ≤ 10 ^ (k - 1) := Nat.pow_le_pow_right (by omega) (by omega)
      have := h2 (by omega)
      rw [f_X7_figuresOf_L2, show (6 : Int32) = nI 6 from rfl, if_neg (by rw [nx_le (by omega) (by omega)]; omega), nx_in (show j < 7 by omega) (by omega), if_pos rfl, nx_cl (by omega), tj.1, if_neg (by rw [nx_lt (by omega) (by omega)]; omega), nx_s]
      exact ih n (j + 1) (by omega) (by omega)
  have := L k F 0 (by omega) (by omega)
  rw [show nI 0 = (0 : Int32) from rfl] at this
  rw [this]; rfl
