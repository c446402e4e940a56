/-! ===== words that come and words that were spoken ===== -/
theorem nI_dv {a b : Nat} (ha : a < 2147483648) (hb : b < 2147483648) : nI a / nI b = nI (a / b) := by
  have hl : a / b ≤ a := Nat.div_le_self a b
  apply Int32.toInt_inj.mp
  rw [Int32.toInt_div, nI_toInt (by omega), nI_toInt (by omega), nI_toInt (by omega)]
  have e : ((a : Int).tdiv (b : Int)) = ((a / b : Nat) : Int) := by
    rw [Int.tdiv_eq_ediv_of_nonneg (by omega)]; rfl
  rw [e, Int.bmod_def]
  generalize a / b = q at hl
  have e2 : ((2 ^ 32 : Nat) : Int) = 4294967296 := rfl
  rw [e2]
  split <;> omega
theorem nI_ml (a b : Nat) : nI a * nI b = nI (a * b) := by
  unfold nI
  rw [← Int32.ofNat_mul]
theorem nI_rm {a b : Nat} (ha : a < 2147483648) (hb : b < 2147483648) : nI a - nI a / nI b * nI b = nI (a % b) := by
  rw [nI_dv ha hb, nI_ml, nI_sb (Nat.div_mul_le_self a b)]
  congr 1
  have := Nat.div_add_mod a b
  rw [Nat.mul_comm] at this
  omega
def dg (R k : Nat) : Nat := R / ten k % 10
theorem fig_n {M R k : Nat} (hR : R < 2147483648) (h : M - 1 - k ≤ 6) : fig M (nI R) k = nI (dg R (M - 1 - k)) := by
  have t := ten_e (M - 1 - k) h
  have hl : R / ten (M - 1 - k) ≤ R := Nat.div_le_self _ _
  unfold fig dg
  rw [nI_dv hR (by omega), show (10 : Int32) = nI 10 from rfl, nI_rm (by omega) (by omega)]
theorem dg_m {R k : Nat} (hR : R < 2147483648) (h : k ≤ 6) : nI R / nI (ten k) - nI R / nI (ten k) / 10 * 10 = nI (dg R k) := by
  have t := ten_e k h
  have hl : R / ten k ≤ R := Nat.div_le_self _ _
  unfold dg
  rw [nI_dv hR (by omega), show (10 : Int32) = nI 10 from rfl, nI_rm (by omega) (by omega)]
theorem dg_lt (R k : Nat) : dg R k < 10 := Nat.mod_lt _ (by omega)
/-- every one of the last n figures is at most three -/
def ok4 (R : Nat) : Nat → Bool
  | 0 => true
  | n + 1 => ok4 R n && decide (dg R n < 4)
theorem ok4_lt {R : Nat} : ∀ {n : Nat}, ok4 R n = true → ∀ k, k < n → dg R k < 4
  | 0, _, k, hk => by omega
  | n + 1, h, k, hk => by
    unfold ok4 at h
    rw [Bool.and_eq_true] at h
    by_cases e : k = n
    · subst e; exact of_decide_eq_true h.2
    · exact ok4_lt h.1 k (by omega)
theorem isWord_cL (F : Nat) {w : pm_W} {M R : Nat} (hM : M ≤ 6) (hR : R < 2147483648) : ∀ (m n j : Nat), j + m = M → m < n → ((f_X7_isWord_L8 F w n (nI M) (nI R) (nI j)).bind fun x8 => Sum.elim (fun ex8 => some 1) (fun rx8 => some rx8) x8) = some (if ok4 R m = true then 1 else 0 : Int32) := by
  intro m
  induction m with
  | zero =>
    intro n j hj hn
    obtain ⟨n, rfl⟩ : ∃ k, n = k + 1 := ⟨n - 1, by omega⟩
    rw [f_X7_isWord_L8, if_pos (by rw [nx_le (by omega) (by omega)]; omega)]; rfl
  | succ m ih =>
    intro n j hj hn
    obtain ⟨n, rfl⟩ : ∃ k, n = k + 1 := ⟨n - 1, by omega⟩
    have hl := dg_lt R m
    rw [f_X7_isWord_L8, if_neg (by rw [nx_le (by omega) (by omega)]; omega), fig_c F (by omega) (by omega), Option.bind_some, fig_n hR (by omega), show M - 1 - j = m by omega, nx_s]
    rw [show (3 : Int32) = nI 3 from rfl]
    unfold ok4
    by_cases c : dg R m < 4
    · rw [if_pos (by rw [nx_le (by omega) (by omega)]; omega), ih n (j + 1) (by omega) (by omega)]
      simp [c]
    · rw [if_neg (by rw [nx_le (by omega) (by omega)]; omega)]
      simp [c]
theorem isWord_mL0 (F : Nat) {w : pm_W} {a b c : Int32} {n : Nat} (hn : 0 < n) : ∃ y, f_X8_isWord_L23 F w n a b 0 c = some (0, y) := by
  obtain ⟨n, rfl⟩ : ∃ k, n = k + 1 := ⟨n - 1, by omega⟩
  rw [f_X8_isWord_L23]
  by_cases h : a ≤ c
  · exact ⟨_, by rw [if_pos h]⟩
  · exact ⟨_, by rw [if_neg h, if_pos rfl]⟩
theorem isWord_mL (F : Nat) {w : pm_W} {M R : Nat} (hM : M ≤ 6) (hR : R < 2147483648) (hF : 101 ≤ F) : ∀ (m n j : Nat), j + m = M → m < n → ok4 R j = true → ∃ y, f_X8_isWord_L23 F w n (nI M) (nI R) 1 (nI j) = some ((if ok4 R M = true then 1 else 0 : Int32), y) := by
  intro m
  induction m with
  | zero =>
    intro n j hj hn ho
    obtain ⟨n, rfl⟩ : ∃ k, n = k + 1 := ⟨n - 1, by omega⟩
    have : j = M := by omega
    subst this
    exact ⟨_, by rw [f_X8_isWord_L23, if_pos (by rw [nx_le (by omega) (by omega)]; omega), if_pos ho]⟩
  | succ m ih =>
    intro n j hj hn ho
    obtain ⟨n, rfl⟩ : ∃ k, n = k + 1 := ⟨n - 1, by omega⟩
    have hl := dg_lt R j
    rw [f_X8_isWord_L23, if_neg (by rw [nx_le (by omega) (by omega)]; omega), if_neg (by decide), power_e F (by omega) (by omega), Option.bind_some, (ten_e j (by omega)).2.1, nz_ten (by omega), if_pos rfl, dg_m hR (by omega), nx_s, show (4 : Int32) = nI 4 from rfl]
    by_cases c : dg R j < 4
    · rw [if_neg (by rw [nx_le (by omega) (by omega)]; omega)]
      exact ih n (j + 1) (by omega) (by omega) (by unfold ok4; rw [ho]; simp [c])
    · rw [if_pos (by rw [nx_le (by omega) (by omega)]; omega)]
      have : ¬ ok4 R M = true := fun z => c (ok4_lt z j (by omega))
      rw [if_neg this]
      exact isWord_mL0 F (by omega)
/-- is it a word: no on both sides, or yes on both and a row of so many figures, each at most three -/
theorem word_cases (F : Nat) {w : pm_W} (hF : 101 ≤ F) (a1 a2 : Int32) : (f_X7_isWord F w a1 a2 = some 0 ∧ f_X8_isWord F w a1 a2 = some 0) ∨ ∃ M R, 1 ≤ M ∧ M ≤ 6 ∧ a1 = nI M ∧ R < ten M ∧ a2 = nI R ∧ ok4 R M = true ∧ f_X7_isWord F w a1 a2 = some 1 ∧ f_X8_isWord F w a1 a2 = some 1 := by
  unfold f_X7_isWord f_X8_isWord
  have q1 : ¬ (1 : Int32) = 0 := by decide
  have i0 : pm_isb 0 = true := rfl
  have i1 : pm_isb 1 = true := rfl
  obtain ⟨y0, hy0⟩ := isWord_mL0 F (w := w) (a := a1) (b := a2) (c := 0) (n := F) (by omega)
  rcases row_cases F (w := w) (v := w) hF a1 a2 with ⟨e, ho | ⟨p, j1, j2, j3⟩⟩ | ⟨M, R, p, m1, m2, rfl, r1, rfl, e, j1, j2, j3⟩
  · refine Or.inl ⟨by rw [e, Option.bind_some, if_pos rfl], ?_⟩
    rw [ho, Option.bind_some, if_pos rfl, hy0]; rfl
  · refine Or.inl ⟨by rw [e, Option.bind_some, if_pos rfl], ?_⟩
    rw [j1, Option.bind_some, if_neg q1, j2, Option.bind_some, j3, Option.bind_some, if_pos rfl, hy0]; rfl
  · have t := ten_e M m2
    have hc := isWord_cL F (w := w) (M := M) (R := R) m2 (by omega) M F 0 (by omega) (by omega)
    obtain ⟨y, hm⟩ := isWord_mL F (w := w) (M := M) (R := R) m2 (by omega) hF M F 0 (by omega) (by omega) rfl
    rw [show nI 0 = (0 : Int32) from rfl] at hc hm
    rw [e, Option.bind_some, if_neg q1, hc, j1, Option.bind_some, if_neg q1, j2, Option.bind_some, j3, Option.bind_some, if_neg q1, hm, Option.bind_some]
    by_cases o : ok4 R M = true
    · refine Or.inr ⟨M, R, m1, m2, rfl, r1, rfl, o, by rw [if_pos o], ?_⟩
      rw [if_pos o]; rfl
    · refine Or.inl ⟨by rw [if_neg o], ?_⟩
      rw [if_neg o]; rfl
-- the turn of the ears
theorem and1 (y : Int32) : y &&& 1 = 0 ∨ y &&& 1 = 1 := by
  have h : (y &&& 1).toBitVec = BitVec.setWidth 32 (BitVec.ofBool (y.toBitVec.getLsbD 0)) := by
    rw [Int32.toBitVec_and]
    exact BitVec.and_one_eq_setWidth_ofBool_getLsbD
  cases hb : y.toBitVec.getLsbD 0 with
  | false => rw [hb] at h; exact Or.inl (Int32.toBitVec_inj.mp h)
  | true => rw [hb] at h; exact Or.inr (Int32.toBitVec_inj.mp h)
def tur (m : Int32) (E : Nat → Int32) : Nat → Int32
  | 0 => 0
  | n + 1 => if (m >>> (nI n &&& 31)) &&& 1 = 1 then tur m E n + E n else tur m E n
theorem tur_le {m : Int32} {E : Nat → Int32} : ∀ {n : Nat}, n ≤ 5 → (∀ g, g < n → Kd (E g)) → ∃ s, s ≤ 3 * n ∧ tur m E n = nI s
  | 0, _, _ => ⟨0, by omega, rfl⟩
  | n + 1, hn, h => by
    obtain ⟨s, hs, e⟩ := tur_le (m := m) (E := E) (n := n) (by omega) (fun g hg => h g (by omega))
    unfold tur
    split
    · obtain ⟨k, hk, ek⟩ : ∃ k, k ≤ 3 ∧ E n = nI k := by
        rcases h n (by omega) with h | h | h | h
        · exact ⟨0, by omega, h⟩
        · exact ⟨1, by omega, h⟩
        · exact ⟨2, by omega, h⟩
        · exact ⟨3, by omega, h⟩
      exact ⟨s + k, by omega, by rw [e, ek, nI_add]⟩
    · exact ⟨s, by omega, e⟩
theorem tur_agr {m : Int32} {E G : Nat → Int32} : ∀ {n : Nat}, (∀ g, g < n → E g = G g) → tur m E n = tur m G n
  | 0, _ => rfl
  | n + 1, h => by
    unfold tur
    rw [tur_agr (n := n) (fun g hg => h g (by omega)), h n (by omega)]
theorem tur_cL (F : Nat) {w : pm_W} {N i : Nat} {m : Int32} (hN : w.1 3 0 3 = nI N) (h5 : N ≤ 5) : ∀ (k n j : Nat), j + k = N → k < n → f_X5_turnOfEars_L8 F w n i m (tur m (w.1 6 0) j) (nI j) = some (tur m (w.1 6 0) N, nI N) := by
  intro k
  induction k with
  | zero =>
    intro n j hj hn
    obtain ⟨n, rfl⟩ : ∃ k, n = k + 1 := ⟨n - 1, by omega⟩
    have : j = N := by omega
    subst this
    rw [f_X5_turnOfEars_L8, hN, if_pos (by rw [nx_le (by omega) (by omega)]; omega)]
  | succ k ih =>
    intro n j hj hn
    obtain ⟨n, rfl⟩ : ∃ k, n = k + 1 := ⟨n - 1, by omega⟩
    rw [f_X5_turnOfEars_L8, hN, if_neg (by rw [nx_le (by omega) (by omega)]; omega), nx_in (show j < 5 by omega) (by omega), if_pos rfl, nx_cl (by omega), nx_s]
    have := ih n (j + 1) (by omega) (by omega)
    rw [← this]
    congr 1
    show _ = if (m >>> (nI j &&& 31)) &&& 1 = 1 then tur m (w.1 6 0) j + w.1 6 0 j else tur m (w.1 6 0) j
    rcases and1 (m >>> (nI j &&& 31)) with h | h
    · rw [h, if_neg (by decide), Int32.zero_mul, Int32.add_zero]
    · rw [h, if_pos rfl, Int32.one_mul]
theorem tur_c (F : Nat) {w : pm_W} {N i : Nat} (hF : 9 ≤ F) (hN : w.1 3 0 3 = nI N) (h5 : N ≤ 5) (hL : Lf N (cS w i)) : f_X5_turnOfEars F w i = some (tur (hearM N (w.1 3 0 5) (cS w i)) (w.1 6 0) N) := by
  unfold f_X5_turnOfEars
  rw [hearers_e F hF hN h5 hL, Option.bind_some]
  have := tur_cL F (i := i) (m := hearM N (w.1 3 0 5) (cS w i)) hN h5 N F 0 (by omega) (by omega)
  rw [show nI 0 = (0 : Int32) from rfl] at this
  rw [show f_X5_turnOfEars_L8 F w F i (hearM N (w.1 3 0 5) (cS w i)) 0 0 = _ from this]; rfl
theorem tur_mL (F : Nat) {w : pm_W} {N : Nat} (hF : 9 ≤ F) (hN : w.1 19 0 0 = nI N) (h5 : N ≤ 5) : ∀ (k n j : Nat), j + k = N → k < n → f_X8_ears_L4 F w n (tur (hearM N (w.1 19 0 2) (mS w 0)) (w.1 22 0) j) (nI j) = some (tur (hearM N (w.1 19 0 2) (mS w 0)) (w.1 22 0) N, nI N) := by
  intro k
  have hm := hears_e F (w := w) (v := 0) hF hN h5 (by omega)
  rw [show nI 0 = (0 : Int32) from rfl] at hm
  induction k with
  | zero =>
    intro n j hj hn
    obtain ⟨n, rfl⟩ : ∃ k, n = k + 1 := ⟨n - 1, by omega⟩
    have : j = N := by omega
    subst this
    rw [f_X8_ears_L4, hN, if_pos (by rw [nx_le (by omega) (by omega)]; omega)]
  | succ k ih =>
    intro n j hj hn
    obtain ⟨n, rfl⟩ : ∃ k, n = k + 1 := ⟨n - 1, by omega⟩
    have := ih n (j + 1) (by omega) (by omega)
    rw [← this]
    rw [f_X8_ears_L4, hN, if_neg (by rw [nx_le (by omega) (by omega)]; omega), hm, Option.bind_some]
    generalize hearM N (w.1 19 0 2) (mS w 0) = m
    unfold f_X8_has
    rw [show tur m (w.1 22 0) (j + 1) = if (m >>> (nI j &&& 31)) &&& 1 = 1 then tur m (w.1 22 0) j + w.1 22 0 j else tur m (w.1 22 0) j from rfl]
    by_cases c : (m >>> (nI j &&& 31)) &&& 1 = 1
    · simp only [c, if_true, show pm_isb 1 = true from rfl, Option.bind_some]
      rw [if_neg (by decide), nx_in (show j < 5 by omega) (by omega), if_pos rfl, nx_cl (by omega), nx_s]
    · simp only [c, if_false, show pm_isb 0 = true from rfl, if_true, Option.bind_some]
      rw [Int32.add_zero, nx_s]
theorem tur_m (F : Nat) {w : pm_W} {N : Nat} (hF : 9 ≤ F) (hN : w.1 19 0 0 = nI N) (h5 : N ≤ 5) : f_X8_ears F w = some (tur (hearM N (w.1 19 0 2) (mS w 0)) (w.1 22 0) N - tur (hearM N (w.1 19 0 2) (mS w 0)) (w.1 22 0) N / 4 * 4) := by
  unfold f_X8_ears
  have := tur_mL F hF hN h5 N F 0 (by omega) (by omega)
  rw [show nI 0 = (0 : Int32) from rfl] at this
  rw [show f_X8_ears_L4 F w F 0 0 = _ from this]; rfl
-- words turned
def flm4 (x : Int32) : Option Int32 := if pm_nz 4 = true then (if 0 ≤ (x ^^^ 4) then some (x - x / 4 * 4) else (if (x - x / 4 * 4) = 0 then some (x - x / 4 * 4) else some ((x - x / 4 * 4) + 4))) else none
theorem flm4_a : ∀ f : Fin 4, ∀ s : Fin 16, flm4 (nI f.val + nI s.val) = some (nI ((f.val + s.val) % 4)) := by decide
theorem flm4_b : ∀ f : Fin 4, ∀ s : Fin 16, flm4 (nI f.val + -(nI s.val)) = some (nI ((f.val + 16 - s.val) % 4)) := by decide
def trn (g : Nat → Int32) : Nat → Int32 → Int32
  | 0, a => a
  | m + 1, a => trn g m (a * 10 + g m)
theorem trn_c (F : Nat) {w : pm_W} {M R : Nat} {t : Int32} {g : Nat → Int32} (hM : M ≤ 6) (hR : R < 2147483648) (hg : ∀ k, k < M → f_J9_floorMod F w (nI (dg R k) + t) 4 = some (g k)) : ∀ (m n j : Nat) (a : Int32), j + m = M → m < n → f_X7_turned_L4 F w n (nI M) (nI R) t a (nI j) = some (trn g m a, nI M) := by
  intro m
  induction m with
  | zero =>
    intro n j a hj hn
    obtain ⟨n, rfl⟩ : ∃ k, n = k + 1 := ⟨n - 1, by omega⟩
    have : j = M := by omega
    subst this
    rw [f_X7_turned_L4, if_pos (by rw [nx_le (by omega) (by omega)]; omega)]; rfl
  | succ m ih =>
    intro n j a hj hn
    obtain ⟨n, rfl⟩ : ∃ k, n = k + 1 := ⟨n - 1, by omega⟩
    rw [f_X7_turned_L4, if_neg (by rw [nx_le (by omega) (by omega)]; omega), fig_c F (by omega) (by omega), Option.bind_some, fig_n hR (by omega), show M - 1 - j = m by omega, hg m (by omega), Option.bind_some, nx_s]
    exact ih n (j + 1) _ (by omega) (by omega)
theorem nI_dn (n : Nat) : nI (n + 1) + (-1) = nI n := pk_m1 n
theorem trn_m (F : Nat) {w : pm_W} {M R : Nat} {t : Int32} {g : Nat → Int32} (hF : 101 ≤ F) (hM : M ≤ 6) (hR : R < 2147483648) (hg : ∀ k, k < M → (nI (dg R k) + t) - (nI (dg R k) + t) / 4 * 4 = g k) : ∀ (m n : Nat) (a : Int32), m ≤ M → m < n → ∃ y, f_X8_turned_L6 F w n (nI M) (nI R) t a (nI m - 1) = some (trn g m a, y) := by
  intro m
  induction m with
  | zero =>
    intro n a hj hn
    obtain ⟨n, rfl⟩ : ∃ k, n = k + 1 := ⟨n - 1, by omega⟩
    exact ⟨_, by rw [f_X8_turned_L6, if_pos (by decide)]; rfl⟩
  | succ m ih =>
    intro n a hj hn
    obtain ⟨n, rfl⟩ : ∃ k, n = k + 1 := ⟨n - 1, by omega⟩
    have e1 : nI (m + 1) - 1 = nI m := by rw [show (1 : Int32) = nI 1 from rfl, nI_sb (by omega)]; rfl
    obtain ⟨y, hy⟩ := ih n (a * 10 + g m) (by omega) (by omega)
    refine ⟨y, ?_⟩
    rw [e1, f_X8_turned_L6, if_neg (nI_pos (by omega)), power_e F (by omega) (by omega), Option.bind_some, (ten_e m (by omega)).2.1, nz_ten (by omega), if_pos rfl, dg_m hR (by omega), hg m (by omega), Int32.mul_comm 10 a]
    have e2 : nI m + -1 = nI m - 1 := (Int32.sub_eq_add_neg _ _).symm
    rw [e2]
    exact hy
theorem k_comes (F : Nat) (hF : 101 ≤ F) {w : pm_W} (H : Rel w) (a1 a2 : Int32) : ∃ r, f_X7_comes F w a1 a2 = some r ∧ f_X8_comes F w a1 a2 = some r := by
  unfold f_X7_comes f_X8_comes
  obtain ⟨n, N, A, X, D, h1, hb, h3, h4, h5, h6, h7⟩ := H
  have q1 : ¬ (1 : Int32) = 0 := by decide
  rcases word_cases F (w := w) hF a1 a2 with ⟨c, m⟩ | ⟨M, R, m1, m2, rfl, r1, rfl, o, c, m⟩
  · exact ⟨-2, by rw [c, Option.bind_some, if_pos rfl], by rw [m, Option.bind_some, if_pos rfl]⟩
  · have t := ten_e M m2
    have eh : hearM N (w.1 3 0 5) (cS w 0) = hearM N (w.1 19 0 2) (mS w 0) := by rw [hb.2.2.2.2.1, eqN_hear h3.1]
    have et : tur (hearM N (w.1 19 0 2) (mS w 0)) (w.1 6 0) N = tur (hearM N (w.1 19 0 2) (mS w 0)) (w.1 22 0) N := tur_agr (fun g hg => (hb.2.2.2.2.2 g hg).2.2.2.1)
    obtain ⟨s, hs, es⟩ := tur_le (m := hearM N (w.1 19 0 2) (mS w 0)) (E := w.1 6 0) (n := N) hb.1 (fun g hg => (hb.2.2.2.2.2 g hg).2.2.2.2)
    have h5' := hb.1
    rw [c, Option.bind_some, if_neg q1, m, Option.bind_some, if_neg q1, tur_c F (by omega) hb.2.1 hb.1 h3.2.lf, Option.bind_some, tur_m F (by omega) hb.2.2.1 hb.1, Option.bind_some, eh, ← et, es]
    unfold f_X7_turned f_X8_turned
    have C := trn_c F (w := w) (M := M) (R := R) (t := nI s) (g := fun k => nI ((dg R k + s) % 4)) m2 (by omega) (fun k hk => flm4_a ⟨dg R k, ok4_lt o k hk⟩ ⟨s, by omega⟩) M F 0 0 (by omega) (by omega)
    obtain ⟨y, Mm⟩ := trn_m F (w := w) (M := M) (R := R) (t := nI s - nI s / 4 * 4) (g := fun k => nI ((dg R k + s) % 4)) hF m2 (by omega) (fun k hk => by
      have := ok4_lt o k hk
      rw [show (4 : Int32) = nI 4 from rfl, nI_rm (a := s) (by omega) (by omega), nI_add, nI_rm (by omega) (by omega)]
      congr 1; omega) M F 0 (Nat.le_refl _) (by omega)
    rw [show nI 0 = (0 : Int32) from rfl] at C
    exact ⟨_, by rw [C]; rfl, by rw [Mm]; rfl⟩
theorem k_spoken (F : Nat) (hF : 101 ≤ F) {w : pm_W} (H : Rel w) (a1 a2 : Int32) : ∃ r, f_X7_spoken F w a1 a2 = some r ∧ f_X8_spoken F w a1 a2 = some r := by
  unfold f_X7_spoken f_X8_spoken
  obtain ⟨n, N, A, X, D, h1, hb, h3, h4, h5, h6, h7⟩ := H
  have q1 : ¬ (1 : Int32) = 0 := by decide
  rcases word_cases F (w := w) hF a1 a2 with ⟨c, m⟩ | ⟨M, R, m1, m2, rfl, r1, rfl, o, c, m⟩
  · exact ⟨-2, by rw [c, Option.bind_some, if_pos rfl], by rw [m, Option.bind_some, if_pos rfl]⟩
  · have t := ten_e M m2
    have eh : hearM N (w.1 3 0 5) (cS w 0) = hearM N (w.1 19 0 2) (mS w 0) := by rw [hb.2.2.2.2.1, eqN_hear h3.1]
    have et : tur (hearM N (w.1 19 0 2) (mS w 0)) (w.1 6 0) N = tur (hearM N (w.1 19 0 2) (mS w 0)) (w.1 22 0) N := tur_agr (fun g hg => (hb.2.2.2.2.2 g hg).2.2.2.1)
    obtain ⟨s, hs, es⟩ := tur_le (m := hearM N (w.1 19 0 2) (mS w 0)) (E := w.1 6 0) (n := N) hb.1 (fun g hg => (hb.2.2.2.2.2 g hg).2.2.2.2)
    have h5' := hb.1
    rw [c, Option.bind_some, if_neg q1, m, Option.bind_some, if_neg q1, tur_c F (by omega) hb.2.1 hb.1 h3.2.lf, Option.bind_some, tur_m F (by omega) hb.2.2.1 hb.1, Option.bind_some, eh, ← et, es]
    unfold f_X7_turned f_X8_turned
    have C := trn_c F (w := w) (M := M) (R := R) (t := -(nI s)) (g := fun k => nI ((dg R k + 16 - s) % 4)) m2 (by omega) (fun k hk => flm4_b ⟨dg R k, ok4_lt o k hk⟩ ⟨s, by omega⟩) M F 0 0 (by omega) (by omega)
    obtain ⟨y, Mm⟩ := trn_m F (w := w) (M := M) (R := R) (t := 4 - (nI s - nI s / 4 * 4)) (g := fun k => nI ((dg R k + 16 - s) % 4)) hF m2 (by omega) (fun k hk => by
      have := ok4_lt o k hk
      rw [show (4 : Int32) = nI 4 from rfl, nI_rm (a := s) (by omega) (by omega), nI_sb (by omega), nI_add, nI_rm (by omega) (by omega)]
      congr 1; omega) M F 0 (Nat.le_refl _) (by omega)
    rw [show nI 0 = (0 : Int32) from rfl] at C
    exact ⟨_, by rw [C]; rfl, by rw [Mm]; rfl⟩
