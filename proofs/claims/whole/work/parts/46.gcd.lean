/-! ===== the greatest divisor; what comes by chance ===== -/
theorem gcd_half {a b : Nat} (hb : b ≠ 0) (hr : a % b ≠ 0) : 2 * (b % (a % b)) < b := by
  have h1 : b % (a % b) < a % b := Nat.mod_lt _ (by omega)
  have h2 : a % b < b := Nat.mod_lt _ (by omega)
  have h3 := Nat.div_add_mod b (a % b)
  have h4 : 1 ≤ b / (a % b) := Nat.div_pos (by omega) (by omega)
  have h5 : (a % b) * 1 ≤ (a % b) * (b / (a % b)) := Nat.mul_le_mul_left _ h4
  omega
theorem gcd_stp (a b : Nat) : Nat.gcd b (a % b) = Nat.gcd a b := by
  rw [Nat.gcd_comm b (a % b), ← Nat.gcd_rec, Nat.gcd_comm]
theorem nz_nI {b : Nat} (h : b ≠ 0) (hb : b < 2147483648) : ¬ nI b = 0 ∧ pm_nz (nI b) = true := by
  have : ¬ nI b = 0 := by rw [show (0 : Int32) = nI 0 from rfl, nx_eq (by omega) (by omega)]; exact h
  refine ⟨this, ?_⟩
  unfold pm_nz; simp [this]
theorem gcd_c (F : Nat) {w : pm_W} : ∀ (k a b j n : Nat), b < 2 ^ k → k ≤ 31 → a < 2147483648 → b < 2147483648 → j + 2 * k ≤ 64 → 2 * k < n → ∃ y, f_X1_greatestDivisor_L2 F w n (nI a) (nI b) (nI j) = some (nI (Nat.gcd a b), y) := by
  intro k
  induction k with
  | zero =>
    intro a b j n hb _ ha hb2 hj hn
    obtain ⟨n, rfl⟩ : ∃ m, n = m + 1 := ⟨n - 1, by omega⟩
    have : b = 0 := by omega
    subst this
    rw [f_X1_greatestDivisor_L2, Nat.gcd_zero_right]
    by_cases c : (64 : Int32) ≤ nI j
    · exact ⟨_, by rw [if_pos c]⟩
    · exact ⟨_, by rw [if_neg c, if_pos (show nI 0 = 0 from rfl)]⟩
  | succ k ih =>
    intro a b j n hb hk ha hb2 hj hn
    obtain ⟨n, rfl⟩ : ∃ m, n = m + 2 := ⟨n - 2, by omega⟩
    rw [f_X1_greatestDivisor_L2, show (64 : Int32) = nI 64 from rfl, if_neg (by rw [nx_le (by omega) (by omega)]; omega)]
    by_cases c : b = 0
    · subst c
      exact ⟨_, by rw [if_pos (show nI 0 = 0 from rfl), Nat.gcd_zero_right]⟩
    · obtain ⟨z1, z2⟩ := nz_nI c hb2
      have hm : a % b < b := Nat.mod_lt _ (by omega)
      rw [if_neg z1, z2, if_pos rfl, nI_rm ha hb2, nx_s, f_X1_greatestDivisor_L2, show (64 : Int32) = nI 64 from rfl, if_neg (by rw [nx_le (by omega) (by omega)]; omega)]
      by_cases d : a % b = 0
      · rw [d]
        refine ⟨_, by rw [if_pos (show nI 0 = 0 from rfl), ← gcd_stp a b, d, Nat.gcd_zero_right]⟩
      · obtain ⟨z3, z4⟩ := nz_nI d (by omega)
        have hh := gcd_half c d
        have : 2 ^ (k + 1) = 2 * 2 ^ k := by rw [Nat.pow_succ, Nat.mul_comm]
        rw [if_neg z3, z4, if_pos rfl, nI_rm hb2 (by omega), nx_s, ← gcd_stp a b, ← gcd_stp b (a % b)]
        exact ih (a % b) (b % (a % b)) (j + 1 + 1) n (by omega) (by omega) (by omega) (by omega) (by omega) (by omega)
theorem gcd_m (F : Nat) {w : pm_W} {p q : Int32} : ∀ (k a b n : Nat), b < 2 ^ k → k ≤ 31 → a < 2147483648 → b < 2147483648 → 2 * k < n → ∃ y, f_X8_common_L9 F w n p q (nI a) (nI b) = some (nI (Nat.gcd a b), y) := by
  intro k
  induction k with
  | zero =>
    intro a b n hb _ ha hb2 hn
    obtain ⟨n, rfl⟩ : ∃ m, n = m + 1 := ⟨n - 1, by omega⟩
    have : b = 0 := by omega
    subst this
    exact ⟨_, by rw [f_X8_common_L9, Nat.gcd_zero_right, if_pos (show nI 0 = 0 from rfl)]⟩
  | succ k ih =>
    intro a b n hb hk ha hb2 hn
    obtain ⟨n, rfl⟩ : ∃ m, n = m + 2 := ⟨n - 2, by omega⟩
    rw [f_X8_common_L9]
    by_cases c : b = 0
    · subst c
      exact ⟨_, by rw [if_pos (show nI 0 = 0 from rfl), Nat.gcd_zero_right]⟩
    · obtain ⟨z1, z2⟩ := nz_nI c hb2
      have hm : a % b < b := Nat.mod_lt _ (by omega)
      rw [if_neg z1, z2, if_pos rfl, nI_rm ha hb2, f_X8_common_L9]
      by_cases d : a % b = 0
      · rw [d]
        refine ⟨_, by rw [if_pos (show nI 0 = 0 from rfl), ← gcd_stp a b, d, Nat.gcd_zero_right]⟩
      · obtain ⟨z3, z4⟩ := nz_nI d (by omega)
        have hh := gcd_half c d
        have : 2 ^ (k + 1) = 2 * 2 ^ k := by rw [Nat.pow_succ, Nat.mul_comm]
        rw [if_neg z3, z4, if_pos rfl, nI_rm hb2 (by omega), ← gcd_stp a b, ← gcd_stp b (a % b)]
        exact ih (a % b) (b % (a % b)) n (by omega) (by omega) (by omega) (by omega) (by omega)
theorem gdv_c (F : Nat) {w : pm_W} {a b : Nat} (hF : 101 ≤ F) (ha : a < 2147483648) (hb : b < 2147483648) : f_X1_greatestDivisor F w (nI a) (nI b) = some (nI (Nat.gcd a b)) := by
  unfold f_X1_greatestDivisor
  obtain ⟨y, h⟩ := gcd_c F (w := w) 31 a b 0 F (by omega) (by omega) ha hb (by omega) (by omega)
  rw [show nI 0 = (0 : Int32) from rfl] at h
  rw [h]; rfl
def ab32 (x : Int32) : Int32 := if 0 ≤ x then x else -x
theorem gdv_m (F : Nat) {w : pm_W} {x : Int32} {a b : Nat} (hF : 101 ≤ F) (hx : ab32 x = nI a) (ha : a < 2147483648) (hb : b < 2147483648) : f_X8_common F w x (nI b) = some (nI (Nat.gcd a b)) := by
  unfold f_X8_common
  rw [show (if 0 ≤ x then x else -x) = nI a from hx]
  obtain ⟨y, h⟩ := gcd_m F (w := w) (p := x) (q := nI b) 31 a b F (by omega) (by omega) ha hb (by omega)
  rw [h]; rfl
theorem abs_c (F : Nat) {w : pm_W} (x : Int32) : f_J9_abs F w x = some (ab32 x) := by
  unfold f_J9_abs ab32
  by_cases c : 0 ≤ x
  · simp [c, Int32.not_lt.mpr c]
  · simp [c, Int32.not_le.mp c]
/-- in least terms, upper or lower -/
def ltm (x b : Int32) (g : Nat) (u : Int32) : Int32 := if u = 0 then b / nI g else x / nI g
theorem ltm_c (F : Nat) {w : pm_W} {x u : Int32} {a b : Nat} (hF : 101 ≤ F) (hx : ab32 x = nI a) (ha : a < 2147483648) (hb : b < 2147483648) (hb0 : b ≠ 0) : f_X1_leastTerms F w x (nI b) u = some (ltm x (nI b) (Nat.gcd a b) u) := by
  unfold f_X1_leastTerms ltm
  have hg : Nat.gcd a b ≤ b := Nat.gcd_le_right _ (by omega)
  have hg0 : Nat.gcd a b ≠ 0 := fun z => hb0 (Nat.gcd_eq_zero_iff.mp z).2
  obtain ⟨z1, z2⟩ := nz_nI hg0 (by omega)
  rw [abs_c, Option.bind_some, hx, gdv_c F hF ha hb, Option.bind_some, if_neg z1, z2]
  by_cases c : u = 0
  · rw [if_pos c, if_pos c]; rfl
  · rw [if_neg c, if_neg c]; rfl
