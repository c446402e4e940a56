/-! ===== rows by sixes, ones of a set ===== -/
theorem six_e : ∀ k, k ≤ 5 → pw 6 k 1 = nI (6 ^ k) ∧ 1 ≤ 6 ^ k ∧ 6 ^ k ≤ 7776 := by
  intro k hk
  match k, hk with
  | 0, _ => exact ⟨rfl, by decide, by decide⟩
  | 1, _ => exact ⟨rfl, by decide, by decide⟩
  | 2, _ => exact ⟨rfl, by decide, by decide⟩
  | 3, _ => exact ⟨rfl, by decide, by decide⟩
  | 4, _ => exact ⟨rfl, by decide, by decide⟩
  | 5, _ => exact ⟨rfl, by decide, by decide⟩
  | n + 6, h => omega
/-- the figure that has m figures behind it -/
def sx (v m : Nat) : Nat := v / 6 ^ m % 6
theorem sx_lt (v m : Nat) : sx v m < 6 := Nat.mod_lt _ (by omega)
theorem figOf_e (F : Nat) {w : pm_W} {v k j : Nat} (hF : 101 ≤ F) (hv : v < 2147483648) (hk : k ≤ 6) (hj : j < k) : f_X8_figureOf F w (nI v) (nI k) (nI j) = some (nI (sx v (k - 1 - j))) := by
  unfold f_X8_figureOf sx
  obtain ⟨f1, f2, f3⟩ := six_e (k - 1 - j) (by omega)
  have hq : v / 6 ^ (k - 1 - j) ≤ v := Nat.div_le_self _ _
  rw [show (1 : Int32) = nI 1 from rfl, nI_sb (by omega), nI_sb (by omega), power_e F (by omega) (by omega), Option.bind_some, f1, (nz_nI (by omega) (by omega)).2, if_pos rfl, nI_dv hv (by omega), show (6 : Int32) = nI 6 from rfl, nI_rm (by omega) (by omega)]
def tld (v : Nat) : Nat → Nat → Nat
  | 0, a => a
  | m + 1, a => tld v m (10 * a + sx v m + 1)
theorem tld_L (F : Nat) {w : pm_W} {v k : Nat} (hF : 101 ≤ F) (hv : v < 2147483648) (hk : k ≤ 6) : ∀ (m n j a : Nat), j + m = k → m < n → f_X8_told_L4 F w n (nI v) (nI k) (nI a) (nI j) = some (nI (tld v m a), nI k) := by
  intro m
  induction m with
  | zero =>
    intro n j a hj hn
    obtain ⟨n, rfl⟩ : ∃ q, n = q + 1 := ⟨n - 1, by omega⟩
    have : j = k := by omega
    subst this
    rw [f_X8_told_L4, if_pos (by rw [nx_le (by omega) (by omega)]; omega)]; rfl
  | succ m ih =>
    intro n j a hj hn
    obtain ⟨n, rfl⟩ : ∃ q, n = q + 1 := ⟨n - 1, by omega⟩
    rw [f_X8_told_L4, if_neg (by rw [nx_le (by omega) (by omega)]; omega), figOf_e F hF hv hk (by omega), Option.bind_some, nx_s, show k - 1 - j = m by omega, show (10 : Int32) = nI 10 from rfl, nI_ml, nI_add, nx_s]
    exact ih n (j + 1) _ (by omega) (by omega)
theorem tld_e (F : Nat) {w : pm_W} {v k : Nat} (hF : 101 ≤ F) (hv : v < 2147483648) (hk : k ≤ 6) : f_X8_told F w (nI v) (nI k) = some (nI (tld v k 0)) := by
  unfold f_X8_told
  have := tld_L F (w := w) hF hv hk k F 0 0 (by omega) (by omega)
  rw [show nI 0 = (0 : Int32) from rfl] at this
  rw [this]; rfl
/-- ones among the last five -/
def onV (x : Int32) : Int32 := (0 : Int32) + ((x >>> (nI 0 &&& 31)) &&& 1) + ((x >>> (nI 1 &&& 31)) &&& 1) + ((x >>> (nI 2 &&& 31)) &&& 1) + ((x >>> (nI 3 &&& 31)) &&& 1) + ((x >>> (nI 4 &&& 31)) &&& 1)
theorem ones_s (F : Nat) {w : pm_W} {x a : Int32} {n j : Nat} (hj : j < 5) : f_X8_ones_L4 F w (n + 1) x a (nI j) = f_X8_ones_L4 F w n x (a + ((x >>> (nI j &&& 31)) &&& 1)) (nI (j + 1)) := by
  rw [f_X8_ones_L4, show (5 : Int32) = nI 5 from rfl, if_neg (by rw [nx_le (by omega) (by omega)]; omega), nx_s]
theorem ones_e (F : Nat) {w : pm_W} {x : Int32} (hF : 9 ≤ F) : f_X8_ones F w x = some (onV x) := by
  unfold f_X8_ones
  obtain ⟨n, rfl⟩ : ∃ q, F = q + 6 := ⟨F - 6, by omega⟩
  have h : f_X8_ones_L4 (n + 6) w (n + 6) x 0 (nI 0) = some (onV x, nI 5) := by
    rw [ones_s _ (by omega), ones_s _ (by omega), ones_s _ (by omega), ones_s _ (by omega), ones_s _ (by omega), f_X8_ones_L4, if_pos (by decide)]; rfl
  rw [show nI 0 = (0 : Int32) from rfl] at h
  rw [h]; rfl
def pc (m : Nat) : Nat := m % 2 + m / 2 % 2 + m / 4 % 2 + m / 8 % 2 + m / 16 % 2
theorem pc_le (m : Nat) : pc m ≤ 5 := by unfold pc; omega
theorem onV_e : ∀ m : Fin 32, onV (nI m.val) = nI (pc m.val) := by decide +kernel
def w00 : pm_W := (fun _ _ _ => 0, (fun _ => 0, fun _ => 0))
theorem bcV_e : ∀ m : Fin 32, f_J6_bitCount 0 w00 (nI m.val) = some (nI (pc m.val)) := by decide +kernel
theorem bitC_e (F : Nat) {w : pm_W} {m : Nat} (hm : m < 32) : f_J6_bitCount F w (nI m) = some (nI (pc m)) := by
  have := bcV_e ⟨m, hm⟩
  exact this
theorem onM_e (F : Nat) {w : pm_W} {m : Nat} (hF : 9 ≤ F) (hm : m < 32) : f_X8_ones F w (nI m) = some (nI (pc m)) := by
  rw [ones_e F hF, onV_e ⟨m, hm⟩]
