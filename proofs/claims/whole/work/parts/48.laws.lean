/-! ===== laws ===== -/
def fur : Nat → Nat
  | 0 => 1
  | n + 1 => fur n * 4
theorem fur_e : ∀ k, k ≤ 3 → pw 4 k 1 = nI (fur k) ∧ 1 ≤ fur k ∧ fur k ≤ 64 := by
  intro k hk
  match k, hk with
  | 0, _ => exact ⟨rfl, by decide, by decide⟩
  | 1, _ => exact ⟨rfl, by decide, by decide⟩
  | 2, _ => exact ⟨rfl, by decide, by decide⟩
  | 3, _ => exact ⟨rfl, by decide, by decide⟩
  | n + 4, h => omega
/-- the figure of a law for a kind -/
def dgL (l k : Nat) : Nat := l / fur (3 - k) % 4
theorem dgL_lt (l k : Nat) : dgL l k < 4 := Nat.mod_lt _ (by omega)
def fgs (l : Nat) : Nat := l % 4 + l / 4 % 4 * 10 + l / 16 % 4 * 100 + l / 64 % 4 * 1000
theorem fgs_lt (l : Nat) : fgs l < 10000 := by unfold fgs; omega
theorem fgs_dg {l k : Nat} (hk : k < 4) : dg (fgs l) (3 - k) = dgL l k := by
  have h0 : l % 4 < 4 := Nat.mod_lt _ (by omega)
  have h1 : l / 4 % 4 < 4 := Nat.mod_lt _ (by omega)
  have h2 : l / 16 % 4 < 4 := Nat.mod_lt _ (by omega)
  have h3 : l / 64 % 4 < 4 := Nat.mod_lt _ (by omega)
  unfold dg dgL fgs
  match k, hk with
  | 0, _ =>
    show (l % 4 + l / 4 % 4 * 10 + l / 16 % 4 * 100 + l / 64 % 4 * 1000) / 1000 % 10 = l / 64 % 4
    generalize l % 4 = a at *
    generalize l / 4 % 4 = b at *
    generalize l / 16 % 4 = c at *
    generalize l / 64 % 4 = d at *
    omega
  | 1, _ =>
    show (l % 4 + l / 4 % 4 * 10 + l / 16 % 4 * 100 + l / 64 % 4 * 1000) / 100 % 10 = l / 16 % 4
    generalize l % 4 = a at *
    generalize l / 4 % 4 = b at *
    generalize l / 16 % 4 = c at *
    generalize l / 64 % 4 = d at *
    omega
  | 2, _ =>
    show (l % 4 + l / 4 % 4 * 10 + l / 16 % 4 * 100 + l / 64 % 4 * 1000) / 10 % 10 = l / 4 % 4
    generalize l % 4 = a at *
    generalize l / 4 % 4 = b at *
    generalize l / 16 % 4 = c at *
    generalize l / 64 % 4 = d at *
    omega
  | 3, _ =>
    show (l % 4 + l / 4 % 4 * 10 + l / 16 % 4 * 100 + l / 64 % 4 * 1000) / 1 % 10 = l / 1 % 4
    rw [Nat.div_one, Nat.div_one]
    generalize l % 4 = a at *
    generalize l / 4 % 4 = b at *
    generalize l / 16 % 4 = c at *
    generalize l / 64 % 4 = d at *
    omega
theorem fgs_fig {l k : Nat} (hk : k < 4) : fig 4 (nI (fgs l)) k = nI (dgL l k) := by
  have := fgs_lt l
  rw [fig_n (by omega) (by omega), show 4 - 1 - k = 3 - k by omega, fgs_dg hk]
theorem figs_s (F : Nat) {w : pm_W} {v : Int32} {n a b i : Nat} (hi : i < 4) (hb : b < 2147483648) : f_X2_figuresOfLaw_L6 F w (n + 1) v (nI a) (nI b) (nI i) = f_X2_figuresOfLaw_L6 F w n v (nI (a + b % 4 * ten i)) (nI (b / 4)) (nI (i + 1)) := by
  rw [f_X2_figuresOfLaw_L6, show (4 : Int32) = nI 4 from rfl, if_neg (by rw [nx_le (by omega) (by omega)]; omega), nx_in (show i < 7 by omega) (by omega), if_pos rfl, nI_rm hb (by omega), nx_cl (by omega), (ten_e i (by omega)).1, nI_ml, nI_add, nI_dv hb (by omega), nx_s]
theorem figs_e (F : Nat) {w : pm_W} {l : Nat} (hF : 9 ≤ F) (hl : l < 256) : f_X2_figuresOfLaw F w (nI l) = some (nI (fgs l)) := by
  unfold f_X2_figuresOfLaw
  obtain ⟨n, rfl⟩ : ∃ m, F = m + 5 := ⟨F - 5, by omega⟩
  have h : f_X2_figuresOfLaw_L6 (n + 5) w (n + 5) (nI l) (nI 0) (nI l) (nI 0) = some (nI (fgs l), nI (l / 4 / 4 / 4 / 4), nI 4) := by
    rw [figs_s _ (by omega) (by omega), figs_s _ (by omega) (by omega), figs_s _ (by omega) (by omega), figs_s _ (by omega) (by omega), f_X2_figuresOfLaw_L6, show (4 : Int32) = nI 4 from rfl, if_pos (by rw [nx_le (by omega) (by omega)]; omega)]
    have e : 0 + l % 4 * ten 0 + l / 4 % 4 * ten (0 + 1) + l / 4 / 4 % 4 * ten (0 + 1 + 1) + l / 4 / 4 / 4 % 4 * ten (0 + 1 + 1 + 1) = fgs l := by
      show 0 + l % 4 * 1 + l / 4 % 4 * 10 + l / 4 / 4 % 4 * 100 + l / 4 / 4 / 4 % 4 * 1000 = fgs l
      unfold fgs
      omega
    rw [e]
  rw [show nI 0 = (0 : Int32) from rfl] at h
  rw [h]; rfl
theorem chgOf_e (F : Nat) {w : pm_W} {l k : Nat} (hF : 101 ≤ F) (hl : l < 256) (hk : k < 4) : f_X8_changeOf F w (nI l) (nI k) = some (nI (dgL l k) - 1) := by
  unfold f_X8_changeOf dgL
  obtain ⟨f1, f2, f3⟩ := fur_e (3 - k) (by omega)
  have hq : l / fur (3 - k) ≤ l := Nat.div_le_self _ _
  rw [show (3 : Int32) = nI 3 from rfl, nI_sb (by omega), power_e F (by omega) (by omega), Option.bind_some, f1, (nz_nI (by omega) (by omega)).2, if_pos rfl, nI_dv (by omega) (by omega), show (4 : Int32) = nI 4 from rfl, nI_rm (by omega) (by omega)]
theorem n4 {j : Nat} (h : j < 4) : ¬ (4 : Int32) ≤ nI j := by
  rw [show (4 : Int32) = nI 4 from rfl, nx_le (by omega) (by omega)]; omega
/-- by how much a told dinner grows under a law -/
def chg (r : Int32) (l : Nat) : Nat → Int32
  | 0 => 0
  | k + 1 => chg r l k + fig 4 r k * (nI (dgL l k) - 1)
def holL (sp mo : Nat → Int32) (l : Nat) : Nat → Bool
  | 0 => true
  | i + 1 => holL sp mo l i && decide (chg (sp i) l 4 = mo i)
theorem holL_mono {sp mo : Nat → Int32} {l : Nat} : ∀ {D i : Nat}, holL sp mo l D = true → i < D → chg (sp i) l 4 = mo i
  | 0, i, _, hi => by omega
  | D + 1, i, h, hi => by
    unfold holL at h
    rw [Bool.and_eq_true] at h
    by_cases e : i = D
    · subst e; exact of_decide_eq_true h.2
    · exact holL_mono h.1 (by omega)
theorem holL_cg {sp mo sq mq : Nat → Int32} {l : Nat} : ∀ {D : Nat}, (∀ k, k < D → sp k = sq k ∧ mo k = mq k) → holL sp mo l D = holL sq mq l D
  | 0, _ => rfl
  | D + 1, h => by
    unfold holL
    rw [holL_cg (D := D) (fun k hk => h k (by omega)), (h D (by omega)).1, (h D (by omega)).2]
theorem chg_c (F : Nat) {w : pm_W} {l i : Nat} (hi : i < 6) : ∀ (m n j : Nat), j + m = 4 → m < n → f_X2_holds_L10 F w n (nI (fgs l)) (nI i) (chg (w.1 14 0 i) l j) (nI j) = some (chg (w.1 14 0 i) l 4, nI 4) := by
  intro m
  induction m with
  | zero =>
    intro n j hj hn
    obtain ⟨n, rfl⟩ : ∃ k, n = k + 1 := ⟨n - 1, by omega⟩
    have : j = 4 := by omega
    subst this
    rw [f_X2_holds_L10, if_pos (by decide)]
  | succ m ih =>
    intro n j hj hn
    obtain ⟨n, rfl⟩ : ∃ k, n = k + 1 := ⟨n - 1, by omega⟩
    have fc := fun r : Int32 => fig_c F (w := w) (M := 4) (k := j) (r := r) (by omega) (by omega)
    rw [show nI 4 = (4 : Int32) from rfl] at fc
    rw [f_X2_holds_L10, if_neg (n4 (by omega)), fc, Option.bind_some, nx_in hi (by omega), if_pos rfl, nx_cl (by omega), fc, Option.bind_some, fgs_fig (by omega), nx_s]
    have := ih n (j + 1) (by omega) (by omega)
    rw [← this, ← Int32.sub_eq_add_neg]
    rfl
theorem hol_c (F : Nat) {w : pm_W} {l D : Nat} (hF : 9 ≤ F) (hN : w.1 13 0 2 = nI D) (hD : D ≤ 6) : ∀ (m n j : Nat), j + m = D → m < n → holL (w.1 14 0) (w.1 15 0) l j = true → ((f_X2_holds_L2 F w n (nI (fgs l)) (nI j)).bind fun x12 => Sum.elim (fun ex12 => some 1) (fun rx12 => some rx12) x12) = some (bi (holL (w.1 14 0) (w.1 15 0) l D)) := by
  intro m
  induction m with
  | zero =>
    intro n j hj hn ho
    obtain ⟨n, rfl⟩ : ∃ k, n = k + 1 := ⟨n - 1, by omega⟩
    have : j = D := by omega
    subst this
    rw [f_X2_holds_L2, hN, if_pos (by rw [nx_le (by omega) (by omega)]; omega), ho]; rfl
  | succ m ih =>
    intro n j hj hn ho
    obtain ⟨n, rfl⟩ : ∃ k, n = k + 1 := ⟨n - 1, by omega⟩
    have c := chg_c F (w := w) (l := l) (i := j) (by omega) 4 F 0 (by omega) (by omega)
    rw [show nI 0 = (0 : Int32) from rfl, show chg (w.1 14 0 j) l 0 = 0 from rfl] at c
    rw [f_X2_holds_L2, hN, if_neg (by rw [nx_le (by omega) (by omega)]; omega), c, Option.bind_some, nx_in (show j < 6 by omega) (by omega), if_pos rfl, nx_cl (by omega), nx_s]
    by_cases e : chg (w.1 14 0 j) l 4 = w.1 15 0 j
    · rw [if_pos e]
      exact ih n (j + 1) (by omega) (by omega) (by unfold holL; rw [ho]; simp [e])
    · rw [if_neg e]
      have : holL (w.1 14 0) (w.1 15 0) l D = false := by
        rw [← Bool.not_eq_true]
        exact fun z => e (holL_mono z (by omega))
      rw [this]; rfl
theorem chg_m (F : Nat) {w : pm_W} {l i : Nat} {z : Int32} (hF : 101 ≤ F) (hl : l < 256) (hi : i < 6) : ∀ (m n j : Nat), j + m = 4 → m < n → f_X8_isLaw_L12 F w n (nI l) z (nI i) (chg (w.1 31 0 i) l j) (nI j) = some (chg (w.1 31 0 i) l 4, nI 4) := by
  intro m
  induction m with
  | zero =>
    intro n j hj hn
    obtain ⟨n, rfl⟩ : ∃ k, n = k + 1 := ⟨n - 1, by omega⟩
    have : j = 4 := by omega
    subst this
    rw [f_X8_isLaw_L12, if_pos (by decide)]
  | succ m ih =>
    intro n j hj hn
    obtain ⟨n, rfl⟩ : ∃ k, n = k + 1 := ⟨n - 1, by omega⟩
    have t := ten_e (3 - j) (by omega)
    rw [f_X8_isLaw_L12, if_neg (n4 (by omega)), nx_in hi (by omega), if_pos rfl, nx_cl (by omega), show (3 : Int32) = nI 3 from rfl, nI_sb (by omega), power_e F (by omega) (by omega), Option.bind_some, t.2.1, nz_ten (by omega), if_pos rfl, chgOf_e F hF hl (by omega), Option.bind_some, nx_s]
    have := ih n (j + 1) (by omega) (by omega)
    rw [← this]
    show f_X8_isLaw_L12 F w n (nI l) z (nI i) (chg (w.1 31 0 i) l j + (w.1 31 0 i / nI (ten (3 - j)) - w.1 31 0 i / nI (ten (3 - j)) / 10 * 10) * (nI (dgL l j) - 1)) (nI (j + 1)) = f_X8_isLaw_L12 F w n (nI l) z (nI i) (chg (w.1 31 0 i) l j + (w.1 31 0 i / nI (ten (4 - 1 - j)) - w.1 31 0 i / nI (ten (4 - 1 - j)) / 10 * 10) * (nI (dgL l j) - 1)) (nI (j + 1))
    rw [show 4 - 1 - j = 3 - j by omega]
theorem hol_m (F : Nat) {w : pm_W} {l D : Nat} (hF : 101 ≤ F) (hl : l < 256) (hN : w.1 19 0 24 = nI D) (hD : D ≤ 6) : ∀ (m n j : Nat), j + m = D → m < n → f_X8_isLaw_L4 F w n (nI l) (bi (holL (w.1 31 0) (w.1 32 0) l j)) (nI j) = some (bi (holL (w.1 31 0) (w.1 32 0) l D), nI D) := by
  intro m
  induction m with
  | zero =>
    intro n j hj hn
    obtain ⟨n, rfl⟩ : ∃ k, n = k + 1 := ⟨n - 1, by omega⟩
    have : j = D := by omega
    subst this
    rw [f_X8_isLaw_L4, hN, if_pos (by rw [nx_le (by omega) (by omega)]; omega)]
  | succ m ih =>
    intro n j hj hn
    obtain ⟨n, rfl⟩ : ∃ k, n = k + 1 := ⟨n - 1, by omega⟩
    have c := chg_m F (w := w) (l := l) (i := j) (z := bi (holL (w.1 31 0) (w.1 32 0) l j)) hF hl (by omega) 4 F 0 (by omega) (by omega)
    rw [show nI 0 = (0 : Int32) from rfl, show chg (w.1 31 0 j) l 0 = 0 from rfl] at c
    rw [f_X8_isLaw_L4, hN, if_neg (by rw [nx_le (by omega) (by omega)]; omega), c, Option.bind_some, nx_in (show j < 6 by omega) (by omega), nx_cl (by omega), nx_s]
    have := ih n (j + 1) (by omega) (by omega)
    rw [← this, show holL (w.1 31 0) (w.1 32 0) l (j + 1) = (holL (w.1 31 0) (w.1 32 0) l j && decide (chg (w.1 31 0 j) l 4 = w.1 32 0 j)) from rfl]
    cases hh : holL (w.1 31 0) (w.1 32 0) l j with
    | false => rw [if_pos (show bi false = 0 from rfl)]; rfl
    | true =>
      rw [if_neg (show ¬ bi true = 0 by decide), if_pos rfl]
      by_cases e : chg (w.1 31 0 j) l 4 = w.1 32 0 j
      · rw [if_pos e, decide_eq_true e]; rfl
      · rw [if_neg e, decide_eq_false e]; rfl
theorem isLaw_e (F : Nat) {w : pm_W} {l D : Nat} (hF : 101 ≤ F) (hl : l < 256) (hN : w.1 19 0 24 = nI D) (hD : D ≤ 6) : f_X8_isLaw F w (nI l) = some (bi (holL (w.1 31 0) (w.1 32 0) l D)) := by
  unfold f_X8_isLaw
  have := hol_m F hF hl hN hD D F 0 (by omega) (by omega)
  rw [show f_X8_isLaw_L4 F w F (nI l) 1 0 = _ from this, Option.bind_some]
  dsimp only
  cases holL (w.1 31 0) (w.1 32 0) l D <;> rfl
theorem holds_e (F : Nat) {w : pm_W} {l D : Nat} (hF : 9 ≤ F) (hN : w.1 13 0 2 = nI D) (hD : D ≤ 6) : f_X2_holds F w (nI (fgs l)) = some (bi (holL (w.1 14 0) (w.1 15 0) l D)) := by
  unfold f_X2_holds
  have := hol_c F (l := l) hF hN hD D F 0 (by omega) (by omega) rfl
  exact this
