/-! ===== one who says its own, if there is such a one and it can ===== -/
def fnd : Nat → Int32 → Option Nat
  | 0, _ => none
  | n + 1, x => if x = nI n then some n else fnd n x
theorem fnd_some {x : Int32} : ∀ {N g : Nat}, fnd N x = some g → g < N ∧ x = nI g
  | 0, g, h => by cases h
  | n + 1, g, h => by
    unfold fnd at h
    by_cases e : x = nI n
    · rw [if_pos e] at h
      cases h
      exact ⟨by omega, e⟩
    · rw [if_neg e] at h
      have := fnd_some h
      exact ⟨by omega, this.2⟩
theorem fnd_none {x : Int32} : ∀ {N : Nat}, fnd N x = none → ∀ g, g < N → x ≠ nI g
  | 0, _, g, hg => by omega
  | n + 1, h, g, hg => by
    unfold fnd at h
    by_cases e : x = nI n
    · rw [if_pos e] at h; cases h
    · rw [if_neg e] at h
      by_cases hgn : g = n
      · rw [hgn]; exact e
      · exact fnd_none h g (by omega)
theorem fnd_nI {N g : Nat} (hN : N < 2147483648) (hg : g < N) : fnd N (nI g) = some g := by
  cases h : fnd N (nI g) with
  | none => exact absurd rfl (fnd_none h g hg)
  | some k =>
    have := fnd_some h
    rw [nx_eq (by omega) (by omega)] at this
    rw [this.2]
def sic (N : Nat) (K : Nat → Int32) (S : St) (x : Int32) : Option St := match fnd N x with
  | none => none
  | some g => if can N K S g = true then some (spk N K S g) else none
def KdA (N : Nat) (K : Nat → Int32) : Prop := ∀ g, g < N → Kd (K g)
def Agr (N : Nat) (K L : Nat → Int32) : Prop := ∀ g, g < N → K g = L g
def OR (N : Nat) : Option St → Option St → Prop
  | none, none => True
  | some S, some T => SR N S T ∧ Nm S ∧ Nm T
  | _, _ => False
theorem sic_OR {N : Nat} {K L : Nat → Int32} {S T : St} (h5 : N ≤ 5) (hK : KdA N K) (hA : Agr N K L) (h : SR N S T) (nS : Nm S) (nT : Nm T) (x : Int32) : OR N (sic N K S x) (sic N L T x) := by
  unfold sic
  cases hf : fnd N x with
  | none => trivial
  | some g =>
    have hg := (fnd_some hf).1
    show OR N (if can N K S g = true then some (spk N K S g) else none) (if can N L T g = true then some (spk N L T g) else none)
    rw [← eqN_can h.1 hg (hA g hg)]
    by_cases hc : can N K S g = true
    · rw [if_pos hc, if_pos hc]
      exact ⟨⟨eqN_spk h.1 hg (hA g hg), Iv_spk h5 h.2 hg (hK g hg) hc⟩, spk_nm h5 nS, spk_nm h5 nT⟩
    · rw [if_neg hc, if_neg hc]; trivial
theorem sic_nm {N : Nat} {K : Nat → Int32} {S S2 : St} {x : Int32} (h5 : N ≤ 5) (nS : Nm S) (h : sic N K S x = some S2) : Nm S2 := by
  unfold sic at h
  cases hf : fnd N x with
  | none => rw [hf] at h; cases h
  | some g =>
    rw [hf] at h
    simp only at h
    by_cases hc : can N K S g = true
    · rw [if_pos hc] at h; cases h; exact spk_nm h5 nS
    · rw [if_neg hc] at h; cases h
theorem sic_iv {N : Nat} {K : Nat → Int32} {S S2 : St} {x : Int32} (h5 : N ≤ 5) (hK : KdA N K) (hS : Iv N S) (h : sic N K S x = some S2) : Iv N S2 := by
  unfold sic at h
  cases hf : fnd N x with
  | none => rw [hf] at h; cases h
  | some g =>
    rw [hf] at h
    have hg := (fnd_some hf).1
    simp only at h
    by_cases hc : can N K S g = true
    · rw [if_pos hc] at h; cases h; exact Iv_spk h5 hS hg (hK g hg) hc
    · rw [if_neg hc] at h; cases h
def sicR (w : pm_W) (i : Nat) : Option St → Int32 × pm_W
  | some S => (1, cPut w i S)
  | none => (0, w)
theorem sic_c (F : Nat) {w : pm_W} {N i : Nat} {x : Int32} (hF : 9 ≤ F) (hN : w.1 3 0 3 = nI N) (h5 : N ≤ 5) (hK : KdA N (w.1 4 0)) : f_X5_speakIfCan F w i x = some (sicR w i (sic N (w.1 4 0) (cS w i) x)) := by
  unfold sic
  cases hf : fnd N x with
  | none => exact speakIfCan_o F hN h5 (fnd_none hf)
  | some g =>
    obtain ⟨hg, rfl⟩ := fnd_some hf
    rw [speakIfCan_e F hF hN h5 hg (hK g hg)]
    show some _ = some (sicR w i (if can N (w.1 4 0) (cS w i) g = true then some (spk N (w.1 4 0) (cS w i) g) else none))
    by_cases hc : can N (w.1 4 0) (cS w i) g = true
    · rw [if_pos hc, if_pos hc]; rfl
    · rw [if_neg hc, if_neg hc]; rfl
/-- the same on a trial seat of a world -/
theorem sic_ct (F : Nat) {w : pm_W} {N i : Nat} {S : St} {x : Int32} (hF : 9 ≤ F) (hN : w.1 3 0 3 = nI N) (h5 : N ≤ 5) (hK : KdA N (w.1 4 0)) (nS : Nm S) : f_X5_speakIfCan F (cPut w i S) i x = some (match sic N (w.1 4 0) S x with | some S2 => (1, cPut w i S2) | none => (0, cPut w i S)) := by
  have e4 : (cPut w i S).1 4 0 = w.1 4 0 := cPut_or (by decide) (by decide)
  rw [sic_c F hF (by rw [cPut_or (by decide) (by decide)]; exact hN) h5 (by rw [e4]; exact hK), e4, cS_cPut nS]
  cases sic N (w.1 4 0) S x with
  | none => rfl
  | some S2 => show some (1, cPut (cPut w i S) i S2) = some (1, cPut w i S2); rw [cPut_cPut]
/-- the reference: asks, then says -/
theorem sic_m (F : Nat) {w : pm_W} {N : Nat} {x : Int32} (hF : 9 ≤ F) (hN : w.1 19 0 0 = nI N) (h5 : N ≤ 5) :
    (sic N (w.1 20 0) (mS w 1) x = none ∧ (f_X8_isGuest F w x = some 0 ∨ (f_X8_isGuest F w x = some 1 ∧ f_X8_canSay F w 1 x = some 0))) ∨ ∃ S, sic N (w.1 20 0) (mS w 1) x = some S ∧ f_X8_isGuest F w x = some 1 ∧ f_X8_canSay F w 1 x = some 1 ∧ f_X8_sayOn F w 1 x = some (mPut w 1 S) := by
  unfold sic
  cases hf : fnd N x with
  | none => exact Or.inl ⟨rfl, Or.inl (isGuest_out F hN h5 (fnd_none hf))⟩
  | some g =>
    obtain ⟨hg, rfl⟩ := fnd_some hf
    have c1 := canSay_e F (w := w) (v := 1) (g := g) hF hN h5 hg (by omega)
    rw [show nI 1 = (1 : Int32) from rfl] at c1
    have s1 := sayOn_e F (w := w) (v := 1) (g := g) hF hN h5 hg (by omega)
    rw [show nI 1 = (1 : Int32) from rfl] at s1
    show ((if can N (w.1 20 0) (mS w 1) g = true then some (spk N (w.1 20 0) (mS w 1) g) else none) = none ∧ _) ∨ ∃ S, (if can N (w.1 20 0) (mS w 1) g = true then some (spk N (w.1 20 0) (mS w 1) g) else none) = some S ∧ _
    by_cases hc : can N (w.1 20 0) (mS w 1) g = true
    · rw [if_pos hc]
      rw [hc] at c1
      exact Or.inr ⟨_, rfl, isGuest_in F hN h5 hg, c1, s1⟩
    · rw [if_neg hc]
      have hc : can N (w.1 20 0) (mS w 1) g = false := by simpa using hc
      rw [hc] at c1
      exact Or.inl ⟨rfl, Or.inr ⟨isGuest_in F hN h5 hg, c1⟩⟩
theorem sic_mt (F : Nat) {w : pm_W} {N : Nat} {S : St} {x : Int32} (hF : 9 ≤ F) (hN : w.1 19 0 0 = nI N) (h5 : N ≤ 5) (nS : Nm S) :
    (sic N (w.1 20 0) S x = none ∧ (f_X8_isGuest F (mPut w 1 S) x = some 0 ∨ (f_X8_isGuest F (mPut w 1 S) x = some 1 ∧ f_X8_canSay F (mPut w 1 S) 1 x = some 0))) ∨ ∃ S2, sic N (w.1 20 0) S x = some S2 ∧ f_X8_isGuest F (mPut w 1 S) x = some 1 ∧ f_X8_canSay F (mPut w 1 S) 1 x = some 1 ∧ f_X8_sayOn F (mPut w 1 S) 1 x = some (mPut w 1 S2) := by
  have := sic_m F (w := mPut w 1 S) (x := x) hF (by rw [mPut_o (by decide)]; exact hN) h5
  rw [mPut_o (by decide), mS_mPut nS] at this
  rcases this with h | ⟨S2, h1, h2, h3, h4⟩
  · exact Or.inl h
  · rw [mPut_mPut] at h4
    exact Or.inr ⟨S2, h1, h2, h3, h4⟩
/-- a fair copy of what the relation says of the table -/
theorem TbR.kd {w : pm_W} {N : Nat} (h : TbR w N) : KdA N (w.1 4 0) := fun g hg => (h.2.2.2.2.2 g hg).1
theorem TbR.agk {w : pm_W} {N : Nat} (h : TbR w N) : Agr N (w.1 4 0) (w.1 20 0) := fun g hg => (h.2.2.2.2.2 g hg).2.1
theorem TbR.agw {w : pm_W} {N : Nat} (h : TbR w N) : Agr N (w.1 5 0) (w.1 21 0) := fun g hg => (h.2.2.2.2.2 g hg).2.2.1
-- a dinner by the seed
def sdN (x : Int64) : Int64 := x * 6364136223846793005 + 1442695040888963407
def sdX (x : Int64) : Int32 := ((x.toUInt64 >>> ((33 : Int32).toInt64.toUInt64 &&& Int64.toUInt64 63)).toInt64 - (x.toUInt64 >>> ((33 : Int32).toInt64.toUInt64 &&& Int64.toUInt64 63)).toInt64 / 6 * 6).toInt32
def dnr (N : Nat) (K : Nat → Int32) : Nat → Int64 → St → Int64 × St
  | 0, x, S => (x, S)
  | m + 1, x, S => dnr N K m (sdN x) ((sic N K S (sdX (sdN x))).getD S)
theorem dnr_rel {N : Nat} {K L : Nat → Int32} (h5 : N ≤ 5) (hK : KdA N K) (hA : Agr N K L) : ∀ (m : Nat) (x : Int64) (S T : St), SR N S T → Nm S → Nm T → (dnr N K m x S).1 = (dnr N L m x T).1 ∧ SR N (dnr N K m x S).2 (dnr N L m x T).2
  | 0, x, S, T, h, _, _ => ⟨rfl, h⟩
  | m + 1, x, S, T, h, nS, nT => by
    unfold dnr
    have o := sic_OR h5 hK hA h nS nT (sdX (sdN x))
    cases h1 : sic N K S (sdX (sdN x)) with
    | none =>
      cases h2 : sic N L T (sdX (sdN x)) with
      | none => exact dnr_rel h5 hK hA m _ S T h nS nT
      | some T2 => rw [h1, h2] at o; exact o.elim
    | some S2 =>
      cases h2 : sic N L T (sdX (sdN x)) with
      | none => rw [h1, h2] at o; exact o.elim
      | some T2 =>
        rw [h1, h2] at o
        exact dnr_rel h5 hK hA m _ S2 T2 o.1 o.2.1 o.2.2
def wJ (w : pm_W) (k : Nat) (x : Int64) : pm_W := pm_setJ w k x
theorem wJ_g {w : pm_W} {k : Nat} {x : Int64} : (wJ w k x).2.1 k = x := by simp [wJ, pm_setJ]
theorem setJ_wJ {w : pm_W} {k : Nat} {x y : Int64} : pm_setJ (wJ w k x) k y = wJ w k y := by
  unfold wJ pm_setJ
  refine Prod.ext rfl (Prod.ext (funext fun q => ?_) rfl)
  by_cases h : q = k
  · simp [h]
  · simp [h]
theorem setJ_cPut {w : pm_W} {k i : Nat} {S : St} {y : Int64} : pm_setJ (cPut w i S) k y = cPut (pm_setJ w k y) i S := Eq.trans rfl rfl
theorem setJ_mPut {w : pm_W} {k i : Nat} {S : St} {y : Int64} : pm_setJ (mPut w i S) k y = mPut (pm_setJ w k y) i S := Eq.trans rfl rfl
theorem wJ_gc {w : pm_W} {k i : Nat} {x : Int64} {S : St} : (cPut (wJ w k x) i S).2.1 k = x := wJ_g
theorem wJ_gm {w : pm_W} {k i : Nat} {x : Int64} {S : St} : (mPut (wJ w k x) i S).2.1 k = x := wJ_g
theorem wlet_e {α : Type} (w : pm_W) (f : pm_W → Option α) : pm_wlet w f = f w := Eq.trans rfl rfl
theorem dstep_c (F n : Nat) {w : pm_W} {x : Int64} {S : St} {v1 v3 : Int32} : f_X7_dinner_L16 F (n + 1) (cPut (wJ w 0 x) 17 S) v1 17 v3 = if v1 ≤ v3 then some (v3, cPut (wJ w 0 x) 17 S) else ((f_X5_speakIfCan F (cPut (wJ w 0 (sdN x)) 17 S) 17 (sdX (sdN x))).bind fun r7 => f_X7_dinner_L16 F n r7.2 v1 17 (v3 + 1)) := by
  rw [f_X7_dinner_L16]
  unfold sdN sdX
  generalize (6364136223846793005 : Int64) = c1
  generalize (1442695040888963407 : Int64) = c2
  generalize ((33 : Int32).toInt64.toUInt64 &&& Int64.toUInt64 63) = c3
  generalize (6 : Int64) = c4
  rw [wlet_e, setJ_cPut, setJ_wJ, wJ_gc, wJ_gc]
theorem dstep_m (F n : Nat) {w : pm_W} {x : Int64} {S : St} {v1 v3 : Int32} : f_X8_dinner_L12 F (n + 1) (mPut (wJ w 19 x) 1 S) v1 v3 = if v1 ≤ v3 then some (v3, mPut (wJ w 19 x) 1 S) else ((f_X8_isGuest F (mPut (wJ w 19 (sdN x)) 1 S) (sdX (sdN x))).bind fun r8 => (if r8 = 0 then f_X8_dinner_L12 F n (mPut (wJ w 19 (sdN x)) 1 S) v1 (v3 + 1) else ((f_X8_canSay F (mPut (wJ w 19 (sdN x)) 1 S) 1 (sdX (sdN x))).bind fun r11 => (if r11 = 0 then f_X8_dinner_L12 F n (mPut (wJ w 19 (sdN x)) 1 S) v1 (v3 + 1) else ((f_X8_sayOn F (mPut (wJ w 19 (sdN x)) 1 S) 1 (sdX (sdN x))).bind fun r14 => f_X8_dinner_L12 F n r14 v1 (v3 + 1)))))) := by
  rw [f_X8_dinner_L12]
  unfold sdN sdX
  generalize (6364136223846793005 : Int64) = c1
  generalize (1442695040888963407 : Int64) = c2
  generalize ((33 : Int32).toInt64.toUInt64 &&& Int64.toUInt64 63) = c3
  generalize (6 : Int64) = c4
  rw [wlet_e, setJ_mPut, setJ_wJ, wJ_gm, wJ_gm]
theorem dinner_cL (F : Nat) {w : pm_W} {N M : Nat} (hF : 9 ≤ F) (hN : w.1 3 0 3 = nI N) (h5 : N ≤ 5) (hK : KdA N (w.1 4 0)) (hM : M ≤ 30) : ∀ (m n j : Nat) (x : Int64) (S : St), j + m = M → m < n → Nm S → f_X7_dinner_L16 F n (cPut (wJ w 0 x) 17 S) (nI M) 17 (nI j) = some (nI M, cPut (wJ w 0 (dnr N (w.1 4 0) m x S).1) 17 (dnr N (w.1 4 0) m x S).2) := by
  intro m
  induction m with
  | zero =>
    intro n j x S hj hn nS
    obtain ⟨n, rfl⟩ : ∃ k, n = k + 1 := ⟨n - 1, by omega⟩
    have : j = M := by omega
    subst this
    rw [dstep_c, if_pos (by rw [nx_le (by omega) (by omega)]; omega)]; rfl
  | succ m ih =>
    intro n j x S hj hn nS
    obtain ⟨n, rfl⟩ : ∃ k, n = k + 1 := ⟨n - 1, by omega⟩
    rw [dstep_c, if_neg (by rw [nx_le (by omega) (by omega)]; omega), nx_s]
    unfold dnr
    generalize sdN x = y
    generalize sdX y = z
    have s1 := sic_ct F (w := wJ w 0 y) (i := 17) (S := S) (x := z) hF hN h5 hK nS
    have e4 : (wJ w 0 y).1 4 0 = w.1 4 0 := rfl
    rw [e4] at s1
    rw [s1, Option.bind_some]
    cases h : sic N (w.1 4 0) S z with
    | none => exact ih n (j + 1) y S (by omega) (by omega) nS
    | some S2 => exact ih n (j + 1) y S2 (by omega) (by omega) (sic_nm h5 nS h)
theorem dinner_mL (F : Nat) {w : pm_W} {N M : Nat} (hF : 9 ≤ F) (hN : w.1 19 0 0 = nI N) (h5 : N ≤ 5) (hM : M ≤ 30) : ∀ (m n j : Nat) (x : Int64) (S : St), j + m = M → m < n → Nm S → f_X8_dinner_L12 F n (mPut (wJ w 19 x) 1 S) (nI M) (nI j) = some (nI M, mPut (wJ w 19 (dnr N (w.1 20 0) m x S).1) 1 (dnr N (w.1 20 0) m x S).2) := by
  intro m
  induction m with
  | zero =>
    intro n j x S hj hn nS
    obtain ⟨n, rfl⟩ : ∃ k, n = k + 1 := ⟨n - 1, by omega⟩
    have : j = M := by omega
    subst this
    rw [dstep_m, if_pos (by rw [nx_le (by omega) (by omega)]; omega)]; rfl
  | succ m ih =>
    intro n j x S hj hn nS
    obtain ⟨n, rfl⟩ : ∃ k, n = k + 1 := ⟨n - 1, by omega⟩
    rw [dstep_m, if_neg (by rw [nx_le (by omega) (by omega)]; omega), nx_s]
    unfold dnr
    generalize sdN x = y
    generalize sdX y = z
    have s1 := sic_mt F (w := wJ w 19 y) (S := S) (x := z) hF hN h5 nS
    have q1 : ¬ (1 : Int32) = 0 := by decide
    have e4 : (wJ w 19 y).1 20 0 = w.1 20 0 := rfl
    rw [e4] at s1
    rcases s1 with ⟨h, hg | ⟨hg, hc⟩⟩ | ⟨S2, h, hg, hc, hs⟩
    · rw [h]
      simp only [hg, Option.bind_some, if_true]
      exact ih n (j + 1) y S (by omega) (by omega) nS
    · rw [h]
      simp only [hg, hc, Option.bind_some, q1, if_false, if_true]
      exact ih n (j + 1) y S (by omega) (by omega) nS
    · rw [h]
      simp only [hg, hc, hs, Option.bind_some, q1, if_false]
      exact ih n (j + 1) y S2 (by omega) (by omega) (sic_nm h5 nS h)
