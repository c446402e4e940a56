/-! ===== the farthest, a thing that happens, a row judged ===== -/
def frt (S : St) : Nat → Option Nat
  | 0 => none
  | n + 1 => match frt S n with | none => some n | some g => if S n ≤ S g then some g else some n
theorem frt_lt {S : St} : ∀ {n g : Nat}, frt S n = some g → g < n
  | 0, g, h => by cases h
  | n + 1, g, h => by
    unfold frt at h
    cases hb : frt S n with
    | none => rw [hb] at h; cases h; omega
    | some k =>
      rw [hb] at h
      have := frt_lt hb
      simp only at h
      split at h
      · cases h; omega
      · cases h; omega
theorem frt_none {S : St} : ∀ {n : Nat}, frt S n = none → n = 0
  | 0, _ => rfl
  | n + 1, h => by
    unfold frt at h
    cases hb : frt S n with
    | none => rw [hb] at h; cases h
    | some k =>
      rw [hb] at h
      simp only at h
      split at h <;> cases h
theorem eqN_frt {N : Nat} {S T : St} (h : eqN N S T) : ∀ n, n ≤ N → frt S n = frt T n
  | 0, _ => rfl
  | n + 1, hn => by
    unfold frt
    rw [eqN_frt h n (by omega)]
    cases hb : frt T n with
    | none => rfl
    | some g =>
      have := frt_lt hb
      show (if S n ≤ S g then some g else some n) = (if T n ≤ T g then some g else some n)
      rw [h g (Or.inl (by omega)), h n (Or.inl (by omega))]
def lfo (S : St) : Option Nat → Int32
  | none => -1
  | some g => S g
theorem frt_cL (F : Nat) {w : pm_W} {N i : Nat} (hN : w.1 3 0 3 = nI N) (h5 : N ≤ 5) (hl : Lf N (cS w i)) : ∀ (m n j : Nat), j + m = N → m < n → f_X5_farthest_L6 F w n i (enc (frt (cS w i) j)) (lfo (cS w i) (frt (cS w i) j)) (nI j) = some (enc (frt (cS w i) N), lfo (cS w i) (frt (cS w i) N), nI N) := by
  intro m
  induction m with
  | zero =>
    intro n j hj hn
    obtain ⟨n, rfl⟩ : ∃ k, n = k + 1 := ⟨n - 1, by omega⟩
    have : j = N := by omega
    subst this
    rw [f_X5_farthest_L6, hN, if_pos (by rw [nx_le (by omega) (by omega)]; omega)]
  | succ m ih =>
    intro n j hj hn
    obtain ⟨n, rfl⟩ : ∃ k, n = k + 1 := ⟨n - 1, by omega⟩
    rw [f_X5_farthest_L6, hN, if_neg (by rw [nx_le (by omega) (by omega)]; omega)]
    rw [nx_in (show j < 5 by omega) (by omega), if_pos rfl, if_pos rfl, nx_cl (by omega), cS_l (by omega), nx_s]
    have := ih n (j + 1) (by omega) (by omega)
    rw [← this]
    obtain ⟨k, hk, ek⟩ := hl j (by omega)
    cases hb : frt (cS w i) j with
    | none =>
      rw [show frt (cS w i) (j + 1) = some j by unfold frt; rw [hb]]
      rw [if_neg]
      · rfl
      · show ¬ cS w i j ≤ -1
        rw [ek]
        exact Int32.not_le.mpr (Int32.lt_of_lt_of_le (by decide) (Int32.not_lt.mp (nI_pos (n := k) (by omega))))
    | some g =>
      rw [show frt (cS w i) (j + 1) = if cS w i j ≤ cS w i g then some g else some j by conv => lhs; unfold frt; rw [hb]]
      show (if cS w i j ≤ cS w i g then _ else _) = _
      by_cases c : cS w i j ≤ cS w i g
      · rw [if_pos c, if_pos c]
      · rw [if_neg c, if_neg c]; rfl
theorem frt_c (F : Nat) {w : pm_W} {N i : Nat} (hF : 9 ≤ F) (hN : w.1 3 0 3 = nI N) (h5 : N ≤ 5) (hl : Lf N (cS w i)) : f_X5_farthest F w i = some (enc (frt (cS w i) N)) := by
  unfold f_X5_farthest
  have := frt_cL F hN h5 hl N F 0 (by omega) (by omega)
  rw [show enc (frt (cS w i) 0) = -9 from rfl, show lfo (cS w i) (frt (cS w i) 0) = -1 from rfl, show nI 0 = 0 from rfl] at this
  rw [this]; rfl
theorem frt_mL (F : Nat) {w : pm_W} {N v : Nat} (hN : w.1 19 0 0 = nI N) (h5 : N ≤ 5) (hv : v < 2) : ∀ (m n j : Nat), j + m = N → m < n → f_X8_farthest_L4 F w n (nI v) (enc (frt (mS w v) j)) (nI j) = some (enc (frt (mS w v) N), nI N) := by
  intro m
  induction m with
  | zero =>
    intro n j hj hn
    obtain ⟨n, rfl⟩ : ∃ k, n = k + 1 := ⟨n - 1, by omega⟩
    have : j = N := by omega
    subst this
    rw [f_X8_farthest_L4, hN, if_pos (by rw [nx_le (by omega) (by omega)]; omega)]
  | succ m ih =>
    intro n j hj hn
    obtain ⟨n, rfl⟩ : ∃ k, n = k + 1 := ⟨n - 1, by omega⟩
    rw [f_X8_farthest_L4, hN, if_neg (by rw [nx_le (by omega) (by omega)]; omega), nx_s, ix9]
    have := ih n (j + 1) (by omega) (by omega)
    rw [← this]
    cases hb : frt (mS w v) j with
    | none =>
      rw [show frt (mS w v) (j + 1) = some j by unfold frt; rw [hb]]
      rw [if_pos (show enc none = -9 from rfl)]; rfl
    | some g =>
      have hg := frt_lt hb
      rw [show frt (mS w v) (j + 1) = if mS w v j ≤ mS w v g then some g else some j by conv => lhs; unfold frt; rw [hb]]
      show (if nI g = -9 then _ else if _ then if pm_inb (9 * nI v + nI g) 18 = true then f_X8_farthest_L4 F w n (nI v) (if _ ≤ w.1 23 0 ((9 * nI v + nI g).toNatClampNeg) then nI g else nI j) _ else none else none) = _
      rw [if_neg (enc_ne g (by omega)), ix9, nx_in (show 9 * v + j < 18 by omega) (by omega), nx_in (show 9 * v + g < 18 by omega) (by omega), if_pos rfl, if_pos rfl, nx_cl (by omega), nx_cl (by omega), mS_g (by omega), mS_g (by omega)]
      by_cases c : mS w v j ≤ mS w v g
      · rw [if_pos c, if_pos c]; rfl
      · rw [if_neg c, if_neg c]; rfl
theorem frt_m (F : Nat) {w : pm_W} {N v : Nat} (hF : 9 ≤ F) (hN : w.1 19 0 0 = nI N) (h5 : N ≤ 5) (hv : v < 2) : f_X8_farthest F w (nI v) = some (enc (frt (mS w v) N)) := by
  unfold f_X8_farthest
  have := frt_mL F hN h5 hv N F 0 (by omega) (by omega)
  rw [show enc (frt (mS w v) 0) = -9 from rfl, show nI 0 = 0 from rfl] at this
  rw [this]; rfl
/-- a thing that happens -/
def thg (N : Nat) (K Wn : Nat → Int32) (wm : Int32) (S : St) (x : Int32) : Option St :=
  if 5 ≤ x then (if x = 5 then (match frt S N with | none => none | some g => some (hnd Wn S g)) else if x = 6 then some (rfi wm S) else none) else sic N K S x
theorem thg_OR {N : Nat} {K L Wn Wm : Nat → Int32} {wm : Int32} {S T : St} (h5 : N ≤ 5) (hK : KdA N K) (hA : Agr N K L) (hW : Agr N Wn Wm) (h : SR N S T) (nS : Nm S) (nT : Nm T) (x : Int32) : OR N (thg N K Wn wm S x) (thg N L Wm wm T x) := by
  unfold thg
  by_cases c : 5 ≤ x
  · rw [if_pos c, if_pos c]
    by_cases c5 : x = 5
    · rw [if_pos c5, if_pos c5, ← eqN_frt h.1 N (Nat.le_refl _)]
      cases hb : frt S N with
      | none => trivial
      | some g =>
        have hg := frt_lt hb
        exact ⟨⟨eqN_hnd h.1 hg (hW g hg), Iv_hnd h5 hg h.2⟩, hnd_nm nS, hnd_nm nT⟩
    · rw [if_neg c5, if_neg c5]
      by_cases c6 : x = 6
      · rw [if_pos c6, if_pos c6]
        exact ⟨⟨eqN_rfi h.1, Iv_rfi h5 h.2⟩, rfi_nm nS, rfi_nm nT⟩
      · rw [if_neg c6, if_neg c6]; trivial
  · rw [if_neg c, if_neg c]
    exact sic_OR h5 hK hA h nS nT x
def thR (w : pm_W) (i : Nat) (S : St) : Option St → Int32 × pm_W
  | some T => (1, cPut w i T)
  | none => (0, cPut w i S)
theorem thg_c (F : Nat) {w : pm_W} {N i : Nat} {S : St} {x : Int32} (hF : 9 ≤ F) (hN : w.1 3 0 3 = nI N) (h5 : N ≤ 5) (hK : KdA N (w.1 4 0)) (nS : Nm S) (iv : Iv N S) : f_X3_happens F (cPut w i S) i x = some (thR w i S (thg N (w.1 4 0) (w.1 5 0) (w.1 3 0 4) S x)) := by
  unfold f_X3_happens thg
  have e3 : (cPut w i S).1 3 0 = w.1 3 0 := cPut_or (by decide) (by decide)
  have e5 : (cPut w i S).1 5 0 = w.1 5 0 := cPut_or (by decide) (by decide)
  have hN' : (cPut w i S).1 3 0 3 = nI N := by rw [e3]; exact hN
  by_cases c : 5 ≤ x
  · rw [if_pos c, if_pos c]
    by_cases c5 : x = 5
    · subst c5
      rw [if_pos rfl, if_pos rfl, hN']
      cases hb : frt S N with
      | none =>
        have := frt_none hb
        subst this
        rw [if_pos (by decide), if_neg (by decide)]; rfl
      | some g =>
        have hg := frt_lt hb
        rw [if_neg (by rw [show (0 : Int32) = nI 0 from rfl, nx_le (by omega) (by omega)]; omega)]
        rw [frt_c F hF hN' h5 (by rw [cS_cPut nS]; exact iv.lf), cS_cPut nS, hb, Option.bind_some]
        show ((f_X5_hand F (cPut w i S) i (nI g)).bind fun r9 => some (1, r9)) = some (1, cPut w i (hnd (w.1 5 0) S g))
        rw [hand_e F hN' h5 hg, cS_cPut nS, e5, cPut_cPut]; rfl
    · rw [if_neg c5, if_neg c5]
      by_cases c6 : x = 6
      · rw [if_pos c6, if_pos c6, refill_e, cS_cPut nS, e3, cPut_cPut]; rfl
      · rw [if_neg c6, if_neg c6]; rfl
  · rw [if_neg c, if_neg c, sic_ct F hF hN h5 hK nS, Option.bind_some]
    cases sic N (w.1 4 0) S x with
    | none => rfl
    | some T => rfl
def thM (w : pm_W) (S : St) : Option St → Int32 × pm_W
  | some T => (1, mPut w 1 T)
  | none => (0, mPut w 1 S)
theorem thg_m (F : Nat) {w : pm_W} {N : Nat} {S : St} {x : Int32} (hF : 9 ≤ F) (hN : w.1 19 0 0 = nI N) (h5 : N ≤ 5) (nS : Nm S) : f_X8_tryThing F (mPut w 1 S) x = some (thM w S (thg N (w.1 20 0) (w.1 21 0) (w.1 19 0 1) S x)) := by
  unfold f_X8_tryThing thg
  have e19 : (mPut w 1 S).1 19 0 = w.1 19 0 := mPut_o (by decide)
  have e21 : (mPut w 1 S).1 21 0 = w.1 21 0 := mPut_o (by decide)
  have hf := frt_m F (w := mPut w 1 S) (N := N) (v := 1) hF (by rw [e19]; exact hN) h5 (by omega)
  rw [mS_mPut nS, show nI 1 = (1 : Int32) from rfl] at hf
  rw [hf, Option.bind_some]
  have q1 : ¬ (1 : Int32) = 0 := by decide
  have i0 : pm_isb 0 = true := rfl
  have i1 : pm_isb 1 = true := rfl
  by_cases c : 5 ≤ x
  · simp only [c, if_true]
    by_cases c5 : x = 5
    · subst c5
      cases hb : frt S N with
      | none => simp only [enc, if_true, i0]; rfl
      | some g =>
        have hg := frt_lt hb
        have hp := passOn_e F (w := mPut w 1 S) (v := 1) (g := g) (by omega) (by omega)
        rw [mS_mPut nS, e21, mPut_mPut, show nI 1 = (1 : Int32) from rfl] at hp
        simp only [enc, enc_ne g (show g < 60 by omega), if_true, if_false, q1, hp, Option.bind_some, i1]; rfl
    · by_cases c6 : x = 6
      · subst c6
        have hp := fetchOn_e F (w := mPut w 1 S) (v := 1) (by omega)
        rw [mS_mPut nS, e19, mPut_mPut, show nI 1 = (1 : Int32) from rfl] at hp
        simp only [c5, if_true, if_false, q1, hp, Option.bind_some, i1]; rfl
      · simp only [c5, c6, if_true, if_false, i0]; rfl
  · simp only [c, if_false]
    rcases sic_mt F (w := w) (S := S) (x := x) hF hN h5 nS with ⟨h, hg | ⟨hg, hc⟩⟩ | ⟨S2, h, hg, hc, hs⟩
    · rw [h]
      simp only [hg, Option.bind_some, if_true]; rfl
    · rw [h]
      simp only [hg, hc, Option.bind_some, q1, if_false, if_true, i0]; rfl
    · rw [h]
      simp only [hg, hc, hs, Option.bind_some, q1, if_false, i1, if_true]; rfl
-- powers of ten
def pw (b : Int32) : Nat → Int32 → Int32
  | 0, a => a
  | m + 1, a => pw b m (a * b)
theorem power_L (F : Nat) {w : pm_W} {b : Int32} {M : Nat} (hM : M < 100) : ∀ (m n j : Nat) (a : Int32), j + m = M → m < n → f_X8_power_L4 F w n b (nI M) a (nI j) = some (pw b m a, nI M) := by
  intro m
  induction m with
  | zero =>
    intro n j a hj hn
    obtain ⟨n, rfl⟩ : ∃ k, n = k + 1 := ⟨n - 1, by omega⟩
    have : j = M := by omega
    subst this
    rw [f_X8_power_L4, if_pos (by rw [nx_le (by omega) (by omega)]; omega)]; rfl
  | succ m ih =>
    intro n j a hj hn
    obtain ⟨n, rfl⟩ : ∃ k, n = k + 1 := ⟨n - 1, by omega⟩
    rw [f_X8_power_L4, if_neg (by rw [nx_le (by omega) (by omega)]; omega), nx_s]
    exact ih n (j + 1) _ (by omega) (by omega)
theorem power_e (F : Nat) {w : pm_W} {b : Int32} {M : Nat} (hM : M < 100) (hF : 100 < F) : f_X8_power F w b (nI M) = some (pw b M 1) := by
  unfold f_X8_power
  rw [show (0 : Int32) = nI 0 from rfl, power_L F hM M F 0 1 (by omega) (by omega)]; rfl
def ten : Nat → Nat
  | 0 => 1
  | n + 1 => ten n * 10
theorem ten_e : ∀ k, k ≤ 6 → pm_st 37 k = nI (ten k) ∧ pw 10 k 1 = nI (ten k) ∧ 1 ≤ ten k ∧ ten k ≤ 1000000 := by
  intro k hk
  match k, hk with
  | 0, _ => exact ⟨rfl, rfl, by decide, by decide⟩
  | 1, _ => exact ⟨rfl, rfl, by decide, by decide⟩
  | 2, _ => exact ⟨rfl, rfl, by decide, by decide⟩
  | 3, _ => exact ⟨rfl, rfl, by decide, by decide⟩
  | 4, _ => exact ⟨rfl, rfl, by decide, by decide⟩
  | 5, _ => exact ⟨rfl, rfl, by decide, by decide⟩
  | 6, _ => exact ⟨rfl, rfl, by decide, by decide⟩
  | n + 7, h => omega
theorem nI_sb {a b : Nat} (h : b ≤ a) : nI a - nI b = nI (a - b) := by
  obtain ⟨c, rfl⟩ : ∃ c, a = b + c := ⟨a - b, by omega⟩
  rw [← nI_add, show b + c - b = c by omega, Int32.add_comm, Int32.add_sub_cancel]
/-- the figure at a place -/
def fig (M : Nat) (r : Int32) (k : Nat) : Int32 := r / nI (ten (M - 1 - k)) - r / nI (ten (M - 1 - k)) / 10 * 10
theorem nz_ten {k : Nat} (hk : k ≤ 6) : pm_nz (nI (ten k)) = true := by
  have h := ten_e k hk
  unfold pm_nz
  have : ¬ nI (ten k) = 0 := by rw [show (0 : Int32) = nI 0 from rfl, nx_eq (by omega) (by omega)]; omega
  simp [this]
theorem fig_c (F : Nat) {w : pm_W} {M k : Nat} {r : Int32} (h1 : M ≤ 7) (hk : k < M) : f_X7_figureAt F w (nI M) r (nI k) = some (fig M r k) := by
  unfold f_X7_figureAt fig
  rw [show (1 : Int32) = nI 1 from rfl, nI_sb (by omega), nI_sb (by omega), if_neg (nI_pos (by omega)), show (6 : Int32) = nI 6 from rfl, if_pos (by rw [nx_le (by omega) (by omega)]; omega), nx_in (show M - 1 - k < 7 by omega) (by omega), if_pos rfl, nx_cl (by omega), (ten_e (M - 1 - k) (by omega)).1, nz_ten (by omega), if_pos rfl]
-- a row judged
def jdg (N : Nat) (K Wn : Nat → Int32) (wm : Int32) (f : Nat → Int32) : Nat → Nat → St → Int32 × St
  | 0, _, S => (-9, S)
  | m + 1, j, S => match thg N K Wn wm S (f j) with
    | none => (nI j, S)
    | some T => if T 7 = 0 then (nI j, T) else jdg N K Wn wm f m (j + 1) T
theorem jdg_rel {N : Nat} {K L Wn Wm : Nat → Int32} {wm : Int32} {f : Nat → Int32} (h5 : N ≤ 5) (hK : KdA N K) (hA : Agr N K L) (hW : Agr N Wn Wm) : ∀ (m j : Nat) (S T : St), SR N S T → Nm S → Nm T → (jdg N K Wn wm f m j S).1 = (jdg N L Wm wm f m j T).1
  | 0, _, _, _, _, _, _ => rfl
  | m + 1, j, S, T, h, nS, nT => by
    unfold jdg
    have o := thg_OR (wm := wm) h5 hK hA hW h nS nT (f j)
    cases h1 : thg N K Wn wm S (f j) with
    | none =>
      cases h2 : thg N L Wm wm T (f j) with
      | none => rfl
      | some T2 => rw [h1, h2] at o; exact o.elim
    | some S2 =>
      cases h2 : thg N L Wm wm T (f j) with
      | none => rw [h1, h2] at o; exact o.elim
      | some T2 =>
        rw [h1, h2] at o
        show (if S2 7 = 0 then _ else _ : Int32 × St).1 = (if T2 7 = 0 then _ else _ : Int32 × St).1
        rw [o.1.1 7 (Or.inr ⟨by omega, by omega⟩)]
        by_cases z : T2 7 = 0
        · rw [if_pos z, if_pos z]
        · rw [if_neg z, if_neg z]
          exact jdg_rel h5 hK hA hW m (j + 1) S2 T2 o.1 o.2.1 o.2.2
theorem thg_nm {N : Nat} {K Wn : Nat → Int32} {wm : Int32} {S T : St} {x : Int32} (h5 : N ≤ 5) (nS : Nm S) (h : thg N K Wn wm S x = some T) : Nm T := by
  unfold thg at h
  by_cases c : 5 ≤ x
  · rw [if_pos c] at h
    by_cases c5 : x = 5
    · rw [if_pos c5] at h
      cases hb : frt S N with
      | none => rw [hb] at h; cases h
      | some g => rw [hb] at h; cases h; exact hnd_nm nS
    · rw [if_neg c5] at h
      by_cases c6 : x = 6
      · rw [if_pos c6] at h; cases h; exact rfi_nm nS
      · rw [if_neg c6] at h; cases h
  · rw [if_neg c] at h
    exact sic_nm h5 nS h
theorem thg_iv {N : Nat} {K Wn : Nat → Int32} {wm : Int32} {S T : St} {x : Int32} (h5 : N ≤ 5) (hK : KdA N K) (hS : Iv N S) (h : thg N K Wn wm S x = some T) : Iv N T := by
  unfold thg at h
  by_cases c : 5 ≤ x
  · rw [if_pos c] at h
    by_cases c5 : x = 5
    · rw [if_pos c5] at h
      cases hb : frt S N with
      | none => rw [hb] at h; cases h
      | some g => rw [hb] at h; cases h; exact Iv_hnd h5 (frt_lt hb) hS
    · rw [if_neg c5] at h
      by_cases c6 : x = 6
      · rw [if_pos c6] at h; cases h; exact Iv_rfi h5 hS
      · rw [if_neg c6] at h; cases h
  · rw [if_neg c] at h
    exact sic_iv h5 hK hS h
theorem jdg_c (F : Nat) {w : pm_W} {N M i a : Nat} {r : Int32} (hF : 9 ≤ F) (hN : w.1 3 0 3 = nI N) (h5 : N ≤ 5) (hK : KdA N (w.1 4 0)) (hM : M ≤ 6) : ∀ (m n j : Nat) (S : St), j + m = M → m < n → Nm S → Iv N S → ((f_X3_firstWrong_L6 F n (cPut w i S) a (nI M) r i (nI j)).bind fun x10 => Sum.elim (fun ex10 => some ((-9), ex10.2)) (fun rx10 => some rx10) x10) = some ((jdg N (w.1 4 0) (w.1 5 0) (w.1 3 0 4) (fig M r) m j S).1, cPut w i (jdg N (w.1 4 0) (w.1 5 0) (w.1 3 0 4) (fig M r) m j S).2) := by
  intro m
  induction m with
  | zero =>
    intro n j S hj hn nS iv
    obtain ⟨n, rfl⟩ : ∃ k, n = k + 1 := ⟨n - 1, by omega⟩
    rw [f_X3_firstWrong_L6, if_pos (by rw [nx_le (by omega) (by omega)]; omega)]; rfl
  | succ m ih =>
    intro n j S hj hn nS iv
    obtain ⟨n, rfl⟩ : ∃ k, n = k + 1 := ⟨n - 1, by omega⟩
    rw [f_X3_firstWrong_L6, if_neg (by rw [nx_le (by omega) (by omega)]; omega), fig_c F (by omega) (by omega), Option.bind_some, thg_c F hF hN h5 hK nS iv, Option.bind_some, nx_s]
    unfold jdg
    have q1 : ¬ (1 : Int32) = 0 := by decide
    cases h1 : thg N (w.1 4 0) (w.1 5 0) (w.1 3 0 4) S (fig M r j) with
    | none => rfl
    | some T =>
      have e7 : (cPut w i T).1 7 i 3 = T 7 := by simp [cPut]
      show Option.bind (if (1 : Int32) = 0 then _ else if (cPut w i T).1 7 i 3 = 0 then _ else _) _ = some ((if T 7 = 0 then _ else _ : Int32 × St).1, cPut w i (if T 7 = 0 then _ else _ : Int32 × St).2)
      rw [if_neg q1, e7]
      by_cases z : T 7 = 0
      · rw [if_pos z, if_pos z]; rfl
      · rw [if_neg z, if_neg z]
        exact ih n (j + 1) T (by omega) (by omega) (thg_nm h5 nS h1) (thg_iv h5 hK iv h1)
theorem jdg_m (F : Nat) {w : pm_W} {N M : Nat} {r : Int32} (hF : 101 ≤ F) (hN : w.1 19 0 0 = nI N) (h5 : N ≤ 5) (hM : M ≤ 6) : ∀ (m n j : Nat) (S : St), j + m = M → m < n → Nm S → ((f_X8_judge_L23 F n (mPut w 1 S) (nI M) r (nI j)).bind fun x10 => Sum.elim (fun ex10 => some ((-9), ex10.2)) (fun rx10 => some rx10) x10) = some ((jdg N (w.1 20 0) (w.1 21 0) (w.1 19 0 1) (fig M r) m j S).1, mPut w 1 (jdg N (w.1 20 0) (w.1 21 0) (w.1 19 0 1) (fig M r) m j S).2) := by
  intro m
  induction m with
  | zero =>
    intro n j S hj hn nS
    obtain ⟨n, rfl⟩ : ∃ k, n = k + 1 := ⟨n - 1, by omega⟩
    rw [f_X8_judge_L23, if_pos (by rw [nx_le (by omega) (by omega)]; omega)]; rfl
  | succ m ih =>
    intro n j S hj hn nS
    obtain ⟨n, rfl⟩ : ∃ k, n = k + 1 := ⟨n - 1, by omega⟩
    have e1 : nI M - 1 - nI j = nI (M - 1 - j) := by rw [show (1 : Int32) = nI 1 from rfl, nI_sb (by omega), nI_sb (by omega)]
    have tt := ten_e (M - 1 - j) (by omega)
    rw [f_X8_judge_L23, if_neg (by rw [nx_le (by omega) (by omega)]; omega), e1, power_e F (by omega) (by omega), Option.bind_some, tt.2.1, nz_ten (by omega), if_pos rfl]
    rw [show r / nI (ten (M - 1 - j)) - r / nI (ten (M - 1 - j)) / 10 * 10 = fig M r j from rfl, thg_m F (by omega) hN h5 nS, Option.bind_some, nx_s]
    unfold jdg
    have q1 : ¬ (1 : Int32) = 0 := by decide
    cases h1 : thg N (w.1 20 0) (w.1 21 0) (w.1 19 0 1) S (fig M r j) with
    | none => rfl
    | some T =>
      have e7 : (mPut w 1 T).1 23 0 16 = T 7 := mPut_g (v := 1) (n := 7) (by omega)
      show Option.bind (if (1 : Int32) = 0 then _ else if (mPut w 1 T).1 23 0 16 = 0 then _ else _) _ = some ((if T 7 = 0 then _ else _ : Int32 × St).1, mPut w 1 (if T 7 = 0 then _ else _ : Int32 × St).2)
      rw [if_neg q1, e7]
      by_cases z : T 7 = 0
      · rw [if_pos z, if_pos z]; rfl
      · rw [if_neg z, if_neg z]
        exact ih n (j + 1) T (by omega) (by omega) (thg_nm h5 nS h1)
/-- is it a row of so many figures -/
theorem row_cases (F : Nat) {w v : pm_W} (hF : 101 ≤ F) (a1 a2 : Int32) : (f_X7_isRow F w a1 a2 = some 0 ∧ ((f_X8_in F v a1.toInt64 1 6 = some 0) ∨ ∃ p, f_X8_in F v a1.toInt64 1 6 = some 1 ∧ f_X8_power F v 10 a1 = some p ∧ f_X8_in F v a2.toInt64 0 ((p - 1).toInt64) = some 0)) ∨ ∃ M R p, 1 ≤ M ∧ M ≤ 6 ∧ a1 = nI M ∧ R < ten M ∧ a2 = nI R ∧ f_X7_isRow F w a1 a2 = some 1 ∧ f_X8_in F v a1.toInt64 1 6 = some 1 ∧ f_X8_power F v 10 a1 = some p ∧ f_X8_in F v a2.toInt64 0 ((p - 1).toInt64) = some 1 := by
  unfold f_X7_isRow
  simp only [in_lit F v a1 (lo := 1) (hi := 6) 1 6 rfl rfl, fun p : Int32 => in_lit F v a2 (lo := 0) (hi := (p - 1).toInt64) 0 (p - 1) rfl rfl]
  by_cases c1 : a1 < 1
  · exact Or.inl ⟨by rw [if_pos c1], Or.inl (by rw [if_pos c1])⟩
  · by_cases c2 : 6 < a1
    · exact Or.inl ⟨by rw [if_neg c1, if_pos c2], Or.inl (by rw [if_neg c1, if_pos c2])⟩
    · obtain ⟨M, hM, rfl⟩ : ∃ m : Nat, m < 2147483648 ∧ a1 = nI m := nI_gt (fun h => c1 (Int32.lt_trans h (by decide)))
      have m1 : 1 ≤ M := by rw [show (1 : Int32) = nI 1 from rfl, nx_lt (by omega) (by omega)] at c1; omega
      have m2 : M ≤ 6 := by rw [show (6 : Int32) = nI 6 from rfl, nx_lt (by omega) (by omega)] at c2; omega
      have tt := ten_e M m2
      rw [power_e F (by omega) (by omega), tt.2.1]
      simp only [c1, c2, if_false, nx_in (show M < 7 by omega) (show 7 < 2147483648 by omega), nx_cl hM, tt.1, if_true]
      by_cases c3 : a2 < 0
      · exact Or.inl ⟨by rw [if_pos c3], Or.inr ⟨nI (ten M), trivial, rfl, by rw [if_pos c3]⟩⟩
      · obtain ⟨R, hR, rfl⟩ := nI_gt c3
        have e1 : nI (ten M) - 1 = nI (ten M - 1) := by rw [show (1 : Int32) = nI 1 from rfl, nI_sb (by omega)]
        by_cases c4 : ten M ≤ R
        · refine Or.inl ⟨?_, Or.inr ⟨nI (ten M), trivial, rfl, ?_⟩⟩
          · rw [if_neg c3, if_pos (show nI (ten M) ≤ nI R by rw [nx_le (by omega) (by omega)]; exact c4)]; rfl
          · rw [if_neg c3, e1, if_pos (by rw [nx_lt (by omega) (by omega)]; omega)]
        · refine Or.inr ⟨M, R, nI (ten M), m1, m2, rfl, by omega, rfl, ?_, trivial, rfl, ?_⟩
          · rw [if_neg c3, if_neg (show ¬ nI (ten M) ≤ nI R by rw [nx_le (by omega) (by omega)]; exact c4)]; rfl
          · rw [if_neg c3, e1, if_neg (by rw [nx_lt (by omega) (by omega)]; omega)]
theorem k_judge (F : Nat) (hF : 101 ≤ F) {w : pm_W} (H : Rel w) (a1 a2 : Int32) : ∃ r w1 w2, f_X7_judge F w a1 a2 = some (r, w1) ∧ f_X8_judge F w1 a1 a2 = some (r, w2) ∧ Rel w2 := by
  have H0 := H
  unfold f_X7_judge f_X8_judge
  have q1 : ¬ (1 : Int32) = 0 := by decide
  obtain ⟨n, N, A, X, D, HP⟩ := H
  have H1 := HP
  obtain ⟨h1, hb, h3, h4, h5, h6, h7⟩ := H1
  rcases row_cases F (w := w) (v := w) hF a1 a2 with ⟨e, ho | ⟨p, i1, i2, i3⟩⟩ | ⟨M, R, _, m1, m2, rfl, r1, rfl, e, _⟩
  · exact ⟨-2, w, w, by rw [e, Option.bind_some, if_pos rfl], by rw [ho, Option.bind_some, if_pos rfl], H0⟩
  · exact ⟨-2, w, w, by rw [e, Option.bind_some, if_pos rfl], by rw [i1, Option.bind_some, if_neg q1, i2, Option.bind_some, i3, Option.bind_some, if_pos rfl], H0⟩
  · rw [e, Option.bind_some, if_neg q1]
    unfold f_X3_firstWrong
    rw [trialFrom_e F (by omega), Option.bind_some]
    have J := jdg_c F (w := w) (N := N) (M := M) (i := 17) (a := 0) (r := nI R) (by omega) hb.2.1 hb.1 hb.kd m2 M F 0 (cS w 0) (by omega) (by omega) (cS_nm w 0) h3.2
    rw [show nI 0 = (0 : Int32) from rfl] at J
    rw [J, Option.bind_some]
    generalize hS : (jdg N (w.1 4 0) (w.1 5 0) (w.1 3 0 4) (fig M (nI R)) M 0 (cS w 0)).2 = S1
    have fr : Fr w (cPut w 17 S1) := Fr_cPut (by omega)
    generalize hW : cPut w 17 S1 = W at fr ⊢
    have HW := RelP_Fr fr HP
    rcases row_cases F (w := w) (v := W) hF (nI M) (nI R) with ⟨e', _⟩ | ⟨M', R', p, _, _, _, _, _, _, i1, i2, i3⟩
    · rw [e'] at e; cases e
    · have wm : mS W 0 = mS w 0 := by rw [← hW]; exact mS_of (fun n hn => cPut_ne (by omega))
      have w20 : W.1 20 0 = w.1 20 0 := by rw [← hW]; exact cPut_or (by decide) (by decide)
      have w21 : W.1 21 0 = w.1 21 0 := by rw [← hW]; exact cPut_or (by decide) (by decide)
      have w19 : W.1 19 0 = w.1 19 0 := by rw [← hW]; exact cPut_or (by decide) (by decide)
      have J2 := jdg_m F (w := W) (N := N) (M := M) (r := nI R) hF (by rw [w19]; exact hb.2.2.1) hb.1 m2 M F 0 (mS W 0) (by omega) (by omega) (mS_nm W 0)
      rw [wm, w20, w21, w19, show nI 0 = (0 : Int32) from rfl] at J2
      refine ⟨_, _, mPut W 1 (jdg N (w.1 20 0) (w.1 21 0) (w.1 19 0 1) (fig M (nI R)) M 0 (mS w 0)).2, rfl, ?_, n, N, A, X, D, RelP_Fr Fr_mPut HW⟩
      dsimp only
      rw [i1, Option.bind_some, if_neg q1, i2, Option.bind_some, i3, Option.bind_some, if_neg q1, layTrial_e F (by omega), Option.bind_some, wm, J2]
      rw [jdg_rel hb.1 hb.kd hb.agk hb.agw M 0 (cS w 0) (mS w 0) h3 (cS_nm w 0) (mS_nm w 0), hb.2.2.2.1]
