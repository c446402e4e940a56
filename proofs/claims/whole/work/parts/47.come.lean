/-! ===== what comes by chance ===== -/
theorem sh1 {N : Nat} (h : N ≤ 5) : (1 : Int32) <<< (nI N &&& 31) = nI (2 ^ N) := by
  match N, h with
  | 0, _ => rfl
  | 1, _ => rfl
  | 2, _ => rfl
  | 3, _ => rfl
  | 4, _ => rfl
  | 5, _ => rfl
  | n + 6, h => omega
theorem p2_le {N : Nat} (h : N ≤ 5) : 1 ≤ 2 ^ N ∧ 2 ^ N ≤ 32 := ⟨Nat.one_le_two_pow, Nat.pow_le_pow_right (by omega) h⟩
def bt (p : Int32) (i : Nat) : Bool := decide ((p >>> (nI i &&& 31)) &&& 1 = 1)
theorem bt_t {p : Int32} {i : Nat} (h : bt p i = true) : (p >>> (nI i &&& 31)) &&& 1 = 1 := of_decide_eq_true h
theorem bt_f {p : Int32} {i : Nat} (h : ¬ bt p i = true) : ¬ (p >>> (nI i &&& 31)) &&& 1 = 1 := fun z => h (decide_eq_true z)
/-- one after the other those present say their own -/
def lby (N : Nat) (K : Nat → Int32) (p : Int32) : Nat → Nat → St → St
  | 0, _, S => S
  | m + 1, j, S => lby N K p m (j + 1) (if bt p j = true then (sic N K S (nI j)).getD S else S)
theorem lby_rel {N : Nat} {K L : Nat → Int32} {p : Int32} (h5 : N ≤ 5) (hK : KdA N K) (hA : Agr N K L) : ∀ (m j : Nat) (S T : St), SR N S T → Nm S → Nm T → SR N (lby N K p m j S) (lby N L p m j T)
  | 0, _, _, _, h, _, _ => h
  | m + 1, j, S, T, h, nS, nT => by
    unfold lby
    by_cases c : bt p j = true
    · rw [if_pos c, if_pos c]
      have o := sic_OR h5 hK hA h nS nT (nI j)
      cases h1 : sic N K S (nI j) with
      | none =>
        cases h2 : sic N L T (nI j) with
        | none => exact lby_rel h5 hK hA m _ S T h nS nT
        | some T2 => rw [h1, h2] at o; exact o.elim
      | some S2 =>
        cases h2 : sic N L T (nI j) with
        | none => rw [h1, h2] at o; exact o.elim
        | some T2 =>
          rw [h1, h2] at o
          exact lby_rel h5 hK hA m _ S2 T2 o.1 o.2.1 o.2.2
    · rw [if_neg c, if_neg c]
      exact lby_rel h5 hK hA m _ S T h nS nT
theorem sicD_nm {N : Nat} {K : Nat → Int32} {S : St} {x : Int32} (h5 : N ≤ 5) (nS : Nm S) : Nm ((sic N K S x).getD S) := by
  cases h : sic N K S x with
  | none => exact nS
  | some T => exact sic_nm h5 nS h
theorem lby_c (F : Nat) {w : pm_W} {N i a : Nat} {p : Int32} (hF : 9 ≤ F) (hN : w.1 3 0 3 = nI N) (h5 : N ≤ 5) (hK : KdA N (w.1 4 0)) : ∀ (m n j : Nat) (S : St), j + m = N → m < n → Nm S → f_X1_lengthBy_L7 F n (cPut w i S) a p i (nI j) = some (nI N, cPut w i (lby N (w.1 4 0) p m j S)) := by
  intro m
  induction m with
  | zero =>
    intro n j S hj hn nS
    obtain ⟨n, rfl⟩ : ∃ k, n = k + 1 := ⟨n - 1, by omega⟩
    have : j = N := by omega
    subst this
    rw [f_X1_lengthBy_L7, cPut_o (by decide) (by decide), hN, if_pos (by rw [nx_le (by omega) (by omega)]; omega)]; rfl
  | succ m ih =>
    intro n j S hj hn nS
    obtain ⟨n, rfl⟩ : ∃ k, n = k + 1 := ⟨n - 1, by omega⟩
    rw [f_X1_lengthBy_L7, cPut_o (by decide) (by decide), hN, if_neg (by rw [nx_le (by omega) (by omega)]; omega), nx_s]
    unfold lby
    by_cases c : bt p j = true
    · rw [if_pos (bt_t c), if_pos c, sic_ct F hF hN h5 hK nS, Option.bind_some]
      cases h1 : sic N (w.1 4 0) S (nI j) with
      | none => exact ih n (j + 1) S (by omega) (by omega) nS
      | some S2 => exact ih n (j + 1) S2 (by omega) (by omega) (sic_nm h5 nS h1)
    · rw [if_neg (bt_f c), if_neg c]
      exact ih n (j + 1) S (by omega) (by omega) nS
def wst (t : Int32) (p : Int32) : Nat → Nat → Int32 → Int32
  | 0, _, a => a
  | m + 1, j, a => wst t p m (j + 1) (a * (if bt p j = true then t else 10 - t))
theorem wst_c (F : Nat) {w : pm_W} {N : Nat} {p t : Int32} (hN : w.1 3 0 3 = nI N) (h5 : N ≤ 5) : ∀ (m n j : Nat) (a : Int32), j + m = N → m < n → f_X1_weightOf_L4 F w n p t a (nI j) = some (wst t p m j a, nI N) := by
  intro m
  induction m with
  | zero =>
    intro n j a hj hn
    obtain ⟨n, rfl⟩ : ∃ k, n = k + 1 := ⟨n - 1, by omega⟩
    have : j = N := by omega
    subst this
    rw [f_X1_weightOf_L4, hN, if_pos (by rw [nx_le (by omega) (by omega)]; omega)]; rfl
  | succ m ih =>
    intro n j a hj hn
    obtain ⟨n, rfl⟩ : ∃ k, n = k + 1 := ⟨n - 1, by omega⟩
    rw [f_X1_weightOf_L4, hN, if_neg (by rw [nx_le (by omega) (by omega)]; omega), nx_s]
    unfold wst
    by_cases c : bt p j = true
    · rw [if_pos (bt_t c), if_pos c]
      exact ih n (j + 1) _ (by omega) (by omega)
    · rw [if_neg (bt_f c), if_neg c]
      exact ih n (j + 1) _ (by omega) (by omega)
theorem has_e (F : Nat) {w : pm_W} {p : Int32} {j : Nat} : f_X8_has F w p (nI j) = some (if bt p j = true then 1 else 0 : Int32) := by
  unfold f_X8_has
  by_cases c : bt p j = true
  · rw [if_pos c]
    have c' := bt_t c
    rw [if_pos c']; rfl
  · rw [if_neg c]
    have c' := bt_f c
    rw [if_neg c']; rfl
/-- the reference speaks and weighs in one go -/
theorem lby_m (F : Nat) {w : pm_W} {N : Nat} {t z3 z4 z5 z6 p : Int32} (hF : 9 ≤ F) (hN : w.1 19 0 0 = nI N) (h5 : N ≤ 5) : ∀ (m n j : Nat) (S : St) (a : Int32), j + m = N → m < n → Nm S → f_X8_come_L32 F n (mPut w 1 S) t z3 z4 z5 z6 p a (nI j) = some (wst t p m j a, nI N, mPut w 1 (lby N (w.1 20 0) p m j S)) := by
  intro m
  induction m with
  | zero =>
    intro n j S a hj hn nS
    obtain ⟨n, rfl⟩ : ∃ k, n = k + 1 := ⟨n - 1, by omega⟩
    have : j = N := by omega
    subst this
    rw [f_X8_come_L32, mPut_o (by decide), hN, if_pos (by rw [nx_le (by omega) (by omega)]; omega)]; rfl
  | succ m ih =>
    intro n j S a hj hn nS
    obtain ⟨n, rfl⟩ : ∃ k, n = k + 1 := ⟨n - 1, by omega⟩
    have hg : j < N := by omega
    have q1 : ¬ (1 : Int32) = 0 := by decide
    rw [f_X8_come_L32, mPut_o (by decide), hN, if_neg (by rw [nx_le (by omega) (by omega)]; omega), has_e, Option.bind_some, Option.bind_some, nx_s]
    unfold lby wst
    by_cases c : bt p j = true
    · simp only [c, if_true, q1, if_false]
      have c1 := canSay_e F (w := mPut w 1 S) (v := 1) (g := j) hF (by rw [mPut_o (by decide)]; exact hN) h5 hg (by omega)
      have s1 := sayOn_e F (w := mPut w 1 S) (v := 1) (g := j) hF (by rw [mPut_o (by decide)]; exact hN) h5 hg (by omega)
      rw [mPut_o (by decide), mS_mPut nS, show nI 1 = (1 : Int32) from rfl] at c1
      rw [mPut_o (by decide), mS_mPut nS, mPut_mPut, show nI 1 = (1 : Int32) from rfl] at s1
      rw [c1, Option.bind_some]
      have sc : sic N (w.1 20 0) S (nI j) = if can N (w.1 20 0) S j = true then some (spk N (w.1 20 0) S j) else none := by
        unfold sic; rw [fnd_nI (by omega) hg]
      rw [sc]
      cases hc : can N (w.1 20 0) S j with
      | true =>
        rw [if_neg (show ¬ bi true = 0 from q1), s1, Option.bind_some, if_pos rfl]
        exact ih n (j + 1) _ _ (by omega) (by omega) (spk_nm h5 nS)
      | false =>
        rw [if_pos (show bi false = 0 from rfl), if_neg (by decide)]
        exact ih n (j + 1) _ _ (by omega) (by omega) nS
    · simp only [c, if_true, if_false]
      exact ih n (j + 1) _ _ (by omega) (by omega) nS
-- sums
def wsN (t p : Nat) : Nat → Nat → Nat → Nat
  | 0, _, a => a
  | m + 1, j, a => wsN t p m (j + 1) (a * (if bt (nI p) j = true then t else 10 - t))
theorem wsN_e {t p : Nat} (ht : t ≤ 10) : ∀ (m j a : Nat), wst (nI t) (nI p) m j (nI a) = nI (wsN t p m j a)
  | 0, _, _ => rfl
  | m + 1, j, a => by
    unfold wst wsN
    have : (if bt (nI p) j = true then nI t else 10 - nI t) = nI (if bt (nI p) j = true then t else 10 - t) := by
      by_cases c : bt (nI p) j = true
      · rw [if_pos c, if_pos c]
      · rw [if_neg c, if_neg c, show (10 : Int32) = nI 10 from rfl, nI_sb ht]
    rw [this, nI_ml]
    exact wsN_e ht m (j + 1) _
def sumW (N t : Nat) : Nat → Nat
  | 0 => 0
  | p + 1 => sumW N t p + wsN t p N 0 1
theorem sumW_e : ∀ N : Fin 6, ∀ t : Fin 11, sumW N.val t.val (2 ^ N.val) = ten N.val := by decide +kernel
def abv (N t L : Nat) (len : Nat → Int32) : Nat → Nat
  | 0 => 0
  | p + 1 => abv N t L len p + (if len p < nI L then 0 else wsN t p N 0 1)
theorem abv_le (N t L : Nat) (len : Nat → Int32) : ∀ p, abv N t L len p ≤ sumW N t p
  | 0 => Nat.le_refl _
  | p + 1 => by
    have := abv_le N t L len p
    unfold abv sumW
    split <;> omega
theorem abv_cg {N t L : Nat} {f g : Nat → Int32} (h : ∀ p, f p = g p) (p : Nat) : abv N t L f p = abv N t L g p := by
  rw [show f = g from funext h]
theorem cPut_id (w : pm_W) (i : Nat) : ∃ S, Nm S ∧ w = cPut w i S := by
  refine ⟨cS w i, cS_nm w i, W_ext (fun a b c => ?_) rfl⟩
  simp only [cPut]
  by_cases h : a = 8 ∧ b = i ∧ c < 5
  · rw [if_pos h]
    obtain ⟨rfl, rfl, h⟩ := h
    exact cS_l h
  · rw [if_neg h]
    by_cases h2 : a = 7 ∧ b = i ∧ 1 ≤ c ∧ c < 5
    · rw [if_pos h2]
      obtain ⟨rfl, rfl, h3, h4⟩ := h2
      unfold cS
      rw [if_neg (by omega), if_pos (by omega)]; rfl
    · rw [if_neg h2]
theorem chn_c (F : Nat) {w : pm_W} {N t L : Nat} {u : Int32} (hF : 101 ≤ F) (hN : w.1 3 0 3 = nI N) (h5 : N ≤ 5) (hK : KdA N (w.1 4 0)) (ht : t ≤ 10) : ∀ (m n p : Nat) (S : St), p + m = 2 ^ N → m < n → Nm S → ∃ y S2, f_X1_chanceOfLength_L4 F n (cPut w 17 S) 0 (nI t) (nI L) u (nI (abv N t L (fun p => lby N (w.1 4 0) (nI p) N 0 (cS w 0) 5) p)) (nI p) = some (nI (abv N t L (fun p => lby N (w.1 4 0) (nI p) N 0 (cS w 0) 5) (2 ^ N)), y, cPut w 17 S2) := by
  intro m
  have hp2 := p2_le h5
  induction m with
  | zero =>
    intro n p S hj hn nS
    obtain ⟨n, rfl⟩ : ∃ k, n = k + 1 := ⟨n - 1, by omega⟩
    have : p = 2 ^ N := by omega
    rw [f_X1_chanceOfLength_L4]
    unfold f_X5_everybody
    rw [Option.bind_some, cPut_o (by decide) (by decide), hN, sh1 h5, show (1 : Int32) = nI 1 from rfl, nI_sb (by omega), if_pos (by rw [nx_lt (by omega) (by omega)]; omega), this]
    exact ⟨_, S, rfl⟩
  | succ m ih =>
    intro n p S hj hn nS
    obtain ⟨n, rfl⟩ : ∃ k, n = k + 1 := ⟨n - 1, by omega⟩
    rw [f_X1_chanceOfLength_L4]
    unfold f_X5_everybody
    rw [Option.bind_some, cPut_o (by decide) (by decide), hN, sh1 h5, show (1 : Int32) = nI 1 from rfl, nI_sb (by omega), if_neg (by rw [nx_lt (by omega) (by omega)]; omega), show nI 1 = (1 : Int32) from rfl, nx_s]
    unfold f_X1_lengthBy
    rw [trialFrom_e F (by omega), Option.bind_some, cPut_cPut, cS_cPut_ne (by omega)]
    have l := lby_c F (w := w) (N := N) (i := 17) (a := 0) (p := nI p) (by omega) hN h5 hK N F 0 (cS w 0) (by omega) (by omega) (cS_nm w 0)
    rw [show nI 0 = (0 : Int32) from rfl] at l
    rw [l, Option.bind_some, Option.bind_some]
    have nl : Nm (lby N (w.1 4 0) (nI p) N 0 (cS w 0)) := by
      have : ∀ (m j : Nat) (S : St), Nm S → Nm (lby N (w.1 4 0) (nI p) m j S) := by
        intro m
        induction m with
        | zero => intro j S h; exact h
        | succ m ih2 =>
          intro j S h
          unfold lby
          by_cases c : bt (nI p) j = true
          · rw [if_pos c]; exact ih2 _ _ (sicD_nm h5 h)
          · rw [if_neg c]; exact ih2 _ _ h
      exact this N 0 _ (cS_nm w 0)
    have e5 : (cPut w 17 (lby N (w.1 4 0) (nI p) N 0 (cS w 0))).1 7 17 1 = lby N (w.1 4 0) (nI p) N 0 (cS w 0) 5 := by simp [cPut]
    dsimp only
    rw [e5]
    have I := ih n (p + 1) _ (by omega) (by omega) nl
    by_cases c : lby N (w.1 4 0) (nI p) N 0 (cS w 0) 5 < nI L
    · rw [if_pos c]
      rw [show abv N t L (fun p => lby N (w.1 4 0) (nI p) N 0 (cS w 0) 5) (p + 1) = abv N t L (fun p => lby N (w.1 4 0) (nI p) N 0 (cS w 0) 5) p by conv => lhs; unfold abv; rw [if_pos c, Nat.add_zero]] at I
      exact I
    · rw [if_neg c]
      unfold f_X1_weightOf
      have ws := wst_c F (w := cPut w 17 (lby N (w.1 4 0) (nI p) N 0 (cS w 0))) (N := N) (p := nI p) (t := nI t) (by rw [cPut_o (by decide) (by decide)]; exact hN) h5 N F 0 1 (by omega) (by omega)
      rw [show (1 : Int32) = nI 1 from rfl, wsN_e ht, show nI 0 = (0 : Int32) from rfl] at ws
      rw [show f_X1_weightOf_L4 F (cPut w 17 (lby N (w.1 4 0) (nI p) N 0 (cS w 0))) F (nI p) (nI t) 1 0 = _ from ws, Option.bind_some, Option.bind_some]
      dsimp only
      rw [nI_add]
      rw [show abv N t L (fun p => lby N (w.1 4 0) (nI p) N 0 (cS w 0) 5) (p + 1) = abv N t L (fun p => lby N (w.1 4 0) (nI p) N 0 (cS w 0) 5) p + wsN t p N 0 1 by conv => lhs; unfold abv; rw [if_neg c]] at I
      exact I
theorem chn_m (F : Nat) {w : pm_W} {N t L : Nat} {u : Int32} (hF : 101 ≤ F) (hN : w.1 19 0 0 = nI N) (h5 : N ≤ 5) (ht : t ≤ 10) : ∀ (m n p : Nat) (S : St), p + m = 2 ^ N → m < n → Nm S → ∃ y S2, f_X8_come_L20 F n (mPut w 1 S) (nI t) (nI L) u (nI (abv N t L (fun p => lby N (w.1 20 0) (nI p) N 0 (mS w 0) 5) p)) (nI (sumW N t p)) (nI p) = some (nI (abv N t L (fun p => lby N (w.1 20 0) (nI p) N 0 (mS w 0) 5) (2 ^ N)), nI (sumW N t (2 ^ N)), y, mPut w 1 S2) := by
  intro m
  have hp2 := p2_le h5
  induction m with
  | zero =>
    intro n p S hj hn nS
    obtain ⟨n, rfl⟩ : ∃ k, n = k + 1 := ⟨n - 1, by omega⟩
    have : p = 2 ^ N := by omega
    rw [f_X8_come_L20, mPut_o (by decide), hN, sh1 h5, if_pos (by rw [nx_le (by omega) (by omega)]; omega), this]
    exact ⟨_, S, rfl⟩
  | succ m ih =>
    intro n p S hj hn nS
    obtain ⟨n, rfl⟩ : ∃ k, n = k + 1 := ⟨n - 1, by omega⟩
    rw [f_X8_come_L20, mPut_o (by decide), hN, sh1 h5, if_neg (by rw [nx_le (by omega) (by omega)]; omega), layTrial_e F (by omega), Option.bind_some, mPut_mPut, mS_mPut_ne (by omega)]
    have l := lby_m F (w := w) (N := N) (t := nI t) (z3 := nI L) (z4 := u) (z5 := nI (abv N t L (fun p => lby N (w.1 20 0) (nI p) N 0 (mS w 0) 5) p)) (z6 := nI (sumW N t p)) (p := nI p) (by omega) hN h5 N F 0 (mS w 0) 1 (by omega) (by omega) (mS_nm w 0)
    rw [show (1 : Int32) = nI 1 from rfl, wsN_e ht, show nI 0 = (0 : Int32) from rfl] at l
    rw [show f_X8_come_L32 F F (mPut w 1 (mS w 0)) (nI t) (nI L) u (nI (abv N t L (fun p => lby N (w.1 20 0) (nI p) N 0 (mS w 0) 5) p)) (nI (sumW N t p)) (nI p) 1 0 = _ from l, Option.bind_some]
    have nl : Nm (lby N (w.1 20 0) (nI p) N 0 (mS w 0)) := by
      have : ∀ (m j : Nat) (S : St), Nm S → Nm (lby N (w.1 20 0) (nI p) m j S) := by
        intro m
        induction m with
        | zero => intro j S h; exact h
        | succ m ih2 =>
          intro j S h
          unfold lby
          by_cases c : bt (nI p) j = true
          · rw [if_pos c]; exact ih2 _ _ (sicD_nm h5 h)
          · rw [if_neg c]; exact ih2 _ _ h
      exact this N 0 _ (mS_nm w 0)
    have e5 : (mPut w 1 (lby N (w.1 20 0) (nI p) N 0 (mS w 0))).1 23 0 14 = lby N (w.1 20 0) (nI p) N 0 (mS w 0) 5 := mPut_g (v := 1) (n := 5) (by omega)
    dsimp only
    rw [e5, nx_s, nI_add]
    have I := ih n (p + 1) _ (by omega) (by omega) nl
    have ea : nI (abv N t L (fun p => lby N (w.1 20 0) (nI p) N 0 (mS w 0) 5) p) + (if lby N (w.1 20 0) (nI p) N 0 (mS w 0) 5 < nI L then 0 else nI (wsN t p N 0 1)) = nI (abv N t L (fun p => lby N (w.1 20 0) (nI p) N 0 (mS w 0) 5) (p + 1)) := by
      conv => rhs; unfold abv
      by_cases c : lby N (w.1 20 0) (nI p) N 0 (mS w 0) 5 < nI L
      · rw [if_pos c, if_pos c, Int32.add_zero, Nat.add_zero]
      · rw [if_neg c, if_neg c, nI_add]
    rw [ea]
    exact I
theorem k_come (F : Nat) (hF : 101 ≤ F) {w : pm_W} (H : Rel w) (x y u : Int32) : ∃ r w1 w2, f_X7_come F w x y u = some (r, w1) ∧ f_X8_come F w1 x y u = some (r, w2) ∧ Rel w2 := by
  have H0 := H
  unfold f_X7_come f_X8_come
  have q1 : ¬ (1 : Int32) = 0 := by decide
  obtain ⟨n, N, A, X, D, HP⟩ := H
  have H1 := HP
  obtain ⟨h1, hb, h3, h4, h5, h6, h7⟩ := H1
  simp only [in_lit F _ x (lo := 0) (hi := 10) 0 10 rfl rfl, in_lit F _ y (lo := 1) (hi := 60) 1 60 rfl rfl, Option.bind_some]
  by_cases c1 : x < 0
  · exact ⟨-2, w, w, by rw [if_pos c1], by rw [if_pos c1, if_pos rfl], H0⟩
  by_cases c2 : 10 < x
  · exact ⟨-2, w, w, by rw [if_neg c1, if_pos c2], by rw [if_neg c1, if_pos c2, if_pos rfl], H0⟩
  by_cases c3 : y < 1
  · exact ⟨-2, w, w, by rw [if_neg c1, if_neg c2, if_pos c3], by rw [if_neg c1, if_neg c2, if_neg q1, if_pos c3, if_pos rfl], H0⟩
  by_cases c4 : y ≤ 60
  · have c5 : ¬ 60 < y := Int32.not_lt.mpr c4
    obtain ⟨t, ht, rfl⟩ := nI_gt c1
    obtain ⟨L, hL, rfl⟩ : ∃ m : Nat, m < 2147483648 ∧ y = nI m := nI_gt (fun h => c3 (Int32.lt_trans h (by decide)))
    have ht2 : t ≤ 10 := by rw [show (10 : Int32) = nI 10 from rfl, nx_lt (by omega) (by omega)] at c2; omega
    simp only [c1, c2, c3, c4, c5, if_false, if_true, q1]
    have hp2 := p2_le hb.1
    have tt := ten_e N (by have := hb.1; omega)
    unfold f_X1_chanceOfLength
    obtain ⟨S0, nS0, eS0⟩ := cPut_id w 17
    obtain ⟨y1, S1, C⟩ := chn_c F (w := w) (N := N) (t := t) (L := L) (u := u) hF hb.2.1 hb.1 hb.kd ht2 (2 ^ N) F 0 S0 (by omega) (by omega) nS0
    rw [← eS0, show nI 0 = (0 : Int32) from rfl, show nI (abv N t L (fun p => lby N (w.1 4 0) (nI p) N 0 (cS w 0) 5) 0) = (0 : Int32) from rfl] at C
    have le := abv_le N t L (fun p => lby N (w.1 4 0) (nI p) N 0 (cS w 0) 5) (2 ^ N)
    have se := sumW_e ⟨N, by have := hb.1; omega⟩ ⟨t, by omega⟩
    dsimp only at se
    rw [se] at le
    rw [C, Option.bind_some]
    have fr : Fr w (cPut w 17 S1) := Fr_cPut (by omega)
    have eAB : abv N t L (fun p => lby N (w.1 4 0) (nI p) N 0 (cS w 0) 5) (2 ^ N) = abv N t L (fun p => lby N (w.1 20 0) (nI p) N 0 (mS w 0) 5) (2 ^ N) := abv_cg (fun p => (lby_rel hb.1 hb.kd hb.agk N 0 (cS w 0) (mS w 0) h3 (cS_nm w 0) (mS_nm w 0)).1 5 (Or.inr ⟨by omega, by omega⟩)) _
    have w20 : (cPut w 17 S1).1 20 0 = w.1 20 0 := cPut_or (by decide) (by decide)
    have w19 : (cPut w 17 S1).1 19 0 = w.1 19 0 := cPut_or (by decide) (by decide)
    have w3 : (cPut w 17 S1).1 3 0 3 = nI N := by rw [cPut_o (by decide) (by decide)]; exact hb.2.1
    have wm : mS (cPut w 17 S1) 0 = mS w 0 := mS_of (fun n hn => cPut_ne (by omega))
    generalize hW : cPut w 17 S1 = W at fr w20 w19 w3 wm ⊢
    have HW := RelP_Fr fr HP
    have hx : ab32 (nI (abv N t L (fun p => lby N (w.1 4 0) (nI p) N 0 (cS w 0) 5) (2 ^ N))) = nI (abv N t L (fun p => lby N (w.1 4 0) (nI p) N 0 (cS w 0) 5) (2 ^ N)) := by
      unfold ab32
      rw [if_pos (Int32.not_lt.mp (nI_pos (by omega)))]
    obtain ⟨T0, nT0, eT0⟩ : ∃ S, Nm S ∧ W = mPut W 1 S := by
      refine ⟨mS W 1, mS_nm W 1, W_ext (fun a b c => ?_) rfl⟩
      unfold mPut rowP
      by_cases h : a = 23 ∧ b = 0
      · obtain ⟨rfl, rfl⟩ := h
        simp only [and_self, if_true]
        by_cases h2 : 9 * 1 ≤ c ∧ c < 9 * 1 + 9
        · rw [if_pos h2]
          unfold mS
          rw [if_pos (by omega), show 9 * 1 + (c - 9 * 1) = c by omega]
        · rw [if_neg h2]
      · simp only [if_neg h]
    obtain ⟨y2, S2, M⟩ := chn_m F (w := W) (N := N) (t := t) (L := L) (u := u) hF (by rw [w19]; exact hb.2.2.1) hb.1 ht2 (2 ^ N) F 0 T0 (by omega) (by omega) nT0
    rw [← eT0, w20, wm, se, ← eAB, show nI 0 = (0 : Int32) from rfl, show nI (abv N t L (fun p => lby N (w.1 20 0) (nI p) N 0 (mS w 0) 5) 0) = (0 : Int32) from rfl, show nI (sumW N t 0) = (0 : Int32) from rfl] at M
    generalize abv N t L (fun p => lby N (w.1 4 0) (nI p) N 0 (cS w 0) 5) (2 ^ N) = B at le hx M ⊢
    have hN5 := hb.1
    have hmn : (if (5 : Int32) < nI N then 5 else nI N) = nI N := if_neg (by rw [show (5 : Int32) = nI 5 from rfl, nx_lt (by omega) (by omega)]; omega)
    unfold f_J9_min
    dsimp only
    rw [w3, Option.bind_some, hmn, nx_in (show N < 7 by omega) (by omega), if_pos rfl, nx_cl (by omega), tt.1, ltm_c F hF hx (by omega) (by omega) (by omega), Option.bind_some]
    refine ⟨_, _, mPut W 1 S2, rfl, ?_, n, N, A, X, D, RelP_Fr Fr_mPut HW⟩
    dsimp only
    rw [M, Option.bind_some]
    dsimp only
    have hg : Nat.gcd B (ten N) ≤ ten N := Nat.gcd_le_right _ (by omega)
    have hg0 : Nat.gcd B (ten N) ≠ 0 := fun z => by have := (Nat.gcd_eq_zero_iff.mp z).2; omega
    obtain ⟨z1, z2⟩ := nz_nI hg0 (by omega)
    rw [gdv_m F hF hx (by omega) (by omega), Option.bind_some, z2]
    unfold ltm
    by_cases c : u = 0
    · rw [if_pos c, if_pos c]; rfl
    · rw [if_neg c, if_neg c]; rfl
  · have c5 : 60 < y := Int32.not_le.mp c4
    exact ⟨-2, w, w, by rw [if_neg c1, if_neg c2, if_neg c3, if_neg c4], by rw [if_neg c1, if_neg c2, if_neg q1, if_neg c3, if_pos c5, if_pos rfl], H0⟩
