/-! ===== two hosts by turns: the reference counts up ===== -/
def hR (N : Nat) (K : Nat → Int32) (v : Nat) : Nat → St → Option St
  | 0, S => some S
  | m + 1, S => match stp N K S (sx v m) with
    | none => none
    | some T => hR N K v m T
theorem sx_6 {v c m : Nat} (hc : c < 6) : sx (6 * v + c) (m + 1) = sx v m := by
  unfold sx
  rw [Nat.pow_succ, Nat.mul_comm (6 ^ m) 6, ← Nat.div_div_eq_div_mul, show (6 * v + c) / 6 = v by omega]
theorem sx_60 {v c : Nat} (hc : c < 6) : sx (6 * v + c) 0 = c := by
  unfold sx
  rw [Nat.pow_zero, Nat.div_one]
  omega
theorem hR_s {N : Nat} {K : Nat → Int32} {v c : Nat} (hc : c < 6) : ∀ (m : Nat) (S : St), hR N K (6 * v + c) (m + 1) S = (hR N K v m S).bind fun T => stp N K T c
  | 0, S => by
    show (match stp N K S (sx (6 * v + c) 0) with | none => none | some T => some T) = stp N K S c
    rw [sx_60 hc]
    cases stp N K S c <;> rfl
  | m + 1, S => by
    rw [show hR N K (6 * v + c) (m + 1 + 1) S = match stp N K S (sx (6 * v + c) (m + 1)) with | none => none | some T => hR N K (6 * v + c) (m + 1) T from rfl, sx_6 hc]
    conv => rhs; unfold hR
    cases e : stp N K S (sx v m) with
    | none => rfl
    | some T => exact hR_s hc m T
def lnO : Option St → Nat
  | none => 0
  | some T => ln T
def mmv (N : Nat) (K : Nat → Int32) (n : Nat) (S : St) (t v : Nat) : Nat := match hR N K v t S with
  | none => 0
  | some T => mm N K (n - t) (decide (t % 2 = 0)) T
theorem mmv_s {N : Nat} {K : Nat → Int32} {n t v : Nat} {S : St} (ht : t < n) : mmv N K n S t v = (bcF (decide (t % 2 = 0)) (fun c => mmv N K n S (t + 1) (6 * v + c)) 6 0 none).elim 0 (·.2) := by
  have cg : ∀ (lg : Bool) (f g : Nat → Nat), (∀ c, c < 6 → f c = g c) → ∀ (m i : Nat) (b : Option (Nat × Nat)), i + m = 6 → bcF lg f m i b = bcF lg g m i b := by
    intro lg f g h m
    induction m with
    | zero => intro i b _; rfl
    | succ m ih =>
      intro i b hi
      unfold bcF
      rw [h i (by omega), ih _ _ (by omega)]
  have par2 : decide ((t + 1) % 2 = 0) = !decide (t % 2 = 0) := by
    rcases Nat.mod_two_eq_zero_or_one t with h | h
    · have : (t + 1) % 2 = 1 := by omega
      rw [h, this]; rfl
    · have : (t + 1) % 2 = 0 := by omega
      rw [h, this]; rfl
  unfold mmv
  cases e : hR N K v t S with
  | none =>
    rw [bcF_cut]
    · rfl
    · intro j _ hj
      rw [hR_s (by omega), e]; rfl
  | some T =>
    dsimp only
    obtain ⟨k, hk⟩ : ∃ k, n - t = k + 1 := ⟨n - t - 1, by omega⟩
    rw [hk, mm_s]
    unfold rt
    refine congrArg (fun z : Option (Nat × Nat) => z.elim 0 (·.2)) (cg _ _ _ (fun c hc => ?_) 6 0 none (by omega)).symm
    rw [hR_s hc, e, par2, show n - (t + 1) = k by omega]; rfl
theorem mmv_r {N : Nat} {K : Nat → Int32} {n : Nat} {S : St} (hn : 1 ≤ n) : bcF true (fun c => mmv N K n S 1 c) 6 0 none = rt N K (n - 1) true S := by
  unfold rt
  have cg : ∀ (f g : Nat → Nat), (∀ c, c < 6 → f c = g c) → ∀ (m i : Nat) (b : Option (Nat × Nat)), i + m = 6 → bcF true f m i b = bcF true g m i b := by
    intro f g h m
    induction m with
    | zero => intro i b _; rfl
    | succ m ih =>
      intro i b hi
      unfold bcF
      rw [h i (by omega), ih _ _ (by omega)]
  refine cg _ _ (fun c hc => ?_) 6 0 none (by omega)
  rw [show mmv N K n S 1 c = mmv N K n S (0 + 1) (6 * 0 + c) by rw [Nat.mul_zero, Nat.zero_add, Nat.zero_add]]
  unfold mmv
  rw [hR_s hc]; rfl
theorem hR_iv {N : Nat} {K : Nat → Int32} {v : Nat} (h5 : N ≤ 5) (hK : KdA N K) : ∀ (m : Nat) (S T : St), Iv N S → hR N K v m S = some T → Iv N T
  | 0, S, T, h, e => by cases e; exact h
  | m + 1, S, T, h, e => by
    unfold hR at e
    cases e2 : stp N K S (sx v m) with
    | none => rw [e2] at e; cases e
    | some Q => rw [e2] at e; exact hR_iv h5 hK m Q T (stp_iv h5 hK h e2) e
theorem hR_nm {N : Nat} {K : Nat → Int32} {v : Nat} (h5 : N ≤ 5) : ∀ (m : Nat) (S T : St), Nm S → hR N K v m S = some T → Nm T
  | 0, S, T, h, e => by cases e; exact h
  | m + 1, S, T, h, e => by
    unfold hR at e
    cases e2 : stp N K S (sx v m) with
    | none => rw [e2] at e; cases e
    | some Q => rw [e2] at e; exact hR_nm h5 m Q T (stp_nm h5 h e2) e
theorem mmv_60 {N : Nat} {K : Nat → Int32} {n t v : Nat} {S : St} (h5 : N ≤ 5) (hK : KdA N K) (iv : Iv N S) : mmv N K n S t v ≤ 60 := by
  unfold mmv
  cases e : hR N K v t S with
  | none => exact Nat.zero_le _
  | some T => exact (mm_bd h5 hK _ _ T (hR_iv h5 hK t S T iv e)).2
-- the length behind a row
theorem lenB_L (F : Nat) {w : pm_W} {N v k : Nat} (hF : 101 ≤ F) (hN : w.1 19 0 0 = nI N) (h5 : N ≤ 5) (hv : v < 2147483648) (hk : k ≤ 6) : ∀ (m n j : Nat) (S : St), j + m = k → m < n → Nm S → ∃ T, ((f_X8_lengthBy_L4 F n (mPut w 1 S) (nI v) (nI k) (nI j)).bind fun x15 => Sum.elim (fun ex15 => some (ex15.2.1 23 0 14, ex15.2)) (fun rx15 => some rx15) x15) = some ((match hR N (w.1 20 0) v m S with | none => 0 | some Q => Q 5), mPut w 1 T) := by
  intro m
  induction m with
  | zero =>
    intro n j S hj hn nS
    obtain ⟨n, rfl⟩ : ∃ q, n = q + 1 := ⟨n - 1, by omega⟩
    refine ⟨S, ?_⟩
    rw [f_X8_lengthBy_L4, if_pos (by rw [nx_le (by omega) (by omega)]; omega)]
    show some ((mPut w 1 S).1 23 0 14, mPut w 1 S) = some (S 5, mPut w 1 S)
    rw [show (mPut w 1 S).1 23 0 14 = S 5 from mPut_g (v := 1) (n := 5) (by omega)]
  | succ m ih =>
    intro n j S hj hn nS
    obtain ⟨n, rfl⟩ : ∃ q, n = q + 1 := ⟨n - 1, by omega⟩
    have q1 : ¬ (1 : Int32) = 0 := by decide
    rw [f_X8_lengthBy_L4, if_neg (by rw [nx_le (by omega) (by omega)]; omega), figOf_e F hF hv hk (by omega), Option.bind_some, show k - 1 - j = m by omega, nx_s]
    unfold hR stp
    have l6 := sx_lt v m
    by_cases c : sx v m = 0
    · rw [if_pos c, c, if_pos (by decide)]
      exact ih n (j + 1) S (by omega) (by omega) nS
    · rw [if_neg c, show nI (sx v m) - 1 = nI (sx v m - 1) from nI_sb (b := 1) (by omega), if_neg (nI_pos (by omega))]
      rcases sic_mt F (w := w) (S := S) (x := nI (sx v m - 1)) (by omega) hN h5 nS with ⟨h, hg | ⟨hg, hc⟩⟩ | ⟨S2, h, hg, hc, hs⟩
      · rw [h, hg, Option.bind_some, if_pos rfl]
        exact ⟨S, rfl⟩
      · rw [h, hg, Option.bind_some, if_neg q1, hc, Option.bind_some, if_pos rfl]
        exact ⟨S, rfl⟩
      · rw [h, hg, Option.bind_some, if_neg q1, hc, Option.bind_some, if_neg q1, hs, Option.bind_some]
        exact ih n (j + 1) S2 (by omega) (by omega) (sic_nm h5 nS h)
theorem lenB_e (F : Nat) {w : pm_W} {N v k : Nat} (hF : 101 ≤ F) (hN : w.1 19 0 0 = nI N) (h5 : N ≤ 5) (hv : v < 2147483648) (hk : k ≤ 6) (hK : KdA N (w.1 20 0)) (iv : Iv N (mS w 0)) : ∃ T, f_X8_lengthBy F w (nI v) (nI k) = some (nI (mmv N (w.1 20 0) k (mS w 0) k v), mPut w 1 T) := by
  unfold f_X8_lengthBy
  obtain ⟨T, h⟩ := lenB_L F (w := w) hF hN h5 hv hk k F 0 (mS w 0) (by omega) (by omega) (mS_nm w 0)
  rw [show nI 0 = (0 : Int32) from rfl] at h
  refine ⟨T, ?_⟩
  rw [layTrial_e F (by omega), Option.bind_some, h]
  unfold mmv
  cases e : hR N (w.1 20 0) v k (mS w 0) with
  | none => rfl
  | some Q =>
    have := (ln_e (hR_iv h5 hK k _ Q iv e)).1
    dsimp only
    rw [this, Nat.sub_self]; rfl
theorem hst_L10 (F : Nat) {w : pm_W} {N k : Nat} {z2 : Int32} (hF : 2000 ≤ F) (hN : w.1 19 0 0 = nI N) (h5 : N ≤ 5) (hk : k ≤ 4) (hK : KdA N (w.1 20 0)) (iv : Iv N (mS w 0)) : ∀ (m q v : Nat) (u : pm_W), v + m = 6 ^ k → m < q → Fr w u → (∀ j, j < v → u.1 33 0 j = nI (mmv N (w.1 20 0) k (mS w 0) k j)) → ∃ u' y, f_X8_hosts_L10 F q u (nI k) z2 (nI v) = some (y, u') ∧ Fr w u' ∧ ∀ j, j < 6 ^ k → u'.1 33 0 j = nI (mmv N (w.1 20 0) k (mS w 0) k j) := by
  intro m
  obtain ⟨x1, x2, x3⟩ := six_e k (by omega)
  have x4 : 6 ^ k ≤ 6 ^ 4 := Nat.pow_le_pow_right (by omega) hk
  induction m with
  | zero =>
    intro q v u hv hq fr hu
    obtain ⟨q, rfl⟩ : ∃ z, q = z + 1 := ⟨q - 1, by omega⟩
    have : v = 6 ^ k := by omega
    subst this
    exact ⟨u, _, by rw [f_X8_hosts_L10, power_e F (by omega) (by omega), Option.bind_some, x1, if_pos (by rw [nx_le (by omega) (by omega)]; omega)], fr, hu⟩
  | succ m ih =>
    intro q v u hv hq fr hu
    obtain ⟨q, rfl⟩ : ∃ z, q = z + 1 := ⟨q - 1, by omega⟩
    have e0 : mS u 0 = mS w 0 := mS_of (fun n hn => fr.1 23 0 _ (by unfold sFr; omega))
    have e20 : u.1 20 0 = w.1 20 0 := funext fun c => fr.1 20 0 c (by unfold sFr; omega)
    have e19 : u.1 19 0 0 = nI N := by rw [fr.1 19 0 0 (by unfold sFr; omega)]; exact hN
    obtain ⟨T, h⟩ := lenB_e F (w := u) (v := v) (k := k) (by omega) e19 h5 (by omega) (by omega) (by rw [e20]; exact hK) (by rw [e0]; exact iv)
    rw [e20, e0] at h
    rw [f_X8_hosts_L10, power_e F (by omega) (by omega), Option.bind_some, x1, if_neg (by rw [nx_le (by omega) (by omega)]; omega), h, Option.bind_some, nx_in (show v < 1296 by omega) (by omega), if_pos rfl, nx_cl (by omega), wlet_e, nx_s]
    refine ih q (v + 1) _ (by omega) (by omega) ?_ ?_
    · exact (fr.trans Fr_mPut).trans ⟨fun a b c s => setI_ne (by unfold sFr at s; omega), rfl⟩
    · intro j hj
      by_cases e : j = v
      · subst e; rw [pm_gI_s]
      · rw [setI_ne (by omega), mPut_o (by decide)]
        exact hu j (by omega)
def eI : Option (Nat × Nat) → Int32
  | none => -9
  | some p => nI p.1
/-- what is known of the best so far: its own worth -/
def Bw (f : Nat → Nat) (b : Option (Nat × Nat)) : Prop := ∀ p, b = some p → p.2 = f p.1 ∧ p.1 < 6
theorem cho_L (F : Nat) {u : pm_W} {v : Nat} {lg : Bool} {f : Nat → Nat} (hv : 6 * v + 6 ≤ 1296) (hf : ∀ c, f c ≤ 60) (hu : ∀ c, c < 6 → u.1 33 0 (6 * v + c) = nI (f c)) : ∀ (m q i : Nat) (b : Option (Nat × Nat)), i + m = 6 → m < q → Bw f b → f_X8_choice_L4 F u q (nI (6 * v)) (bi lg) (eI b) (nI i) = some (eI (bcF lg f m i b), nI 6) ∧ Bw f (bcF lg f m i b) := by
  intro m
  induction m with
  | zero =>
    intro q i b hi hq hb
    obtain ⟨q, rfl⟩ : ∃ z, q = z + 1 := ⟨q - 1, by omega⟩
    have : i = 6 := by omega
    subst this
    exact ⟨by rw [f_X8_choice_L4, if_pos (by decide)]; rfl, hb⟩
  | succ m ih =>
    intro q i b hi hq hb
    obtain ⟨q, rfl⟩ : ∃ z, q = z + 1 := ⟨q - 1, by omega⟩
    have hfi := hf i
    rw [f_X8_choice_L4, if_neg (show ¬ 6 ≤ nI i by rw [show (6 : Int32) = nI 6 from rfl, nx_le (by omega) (by omega)]; omega), nI_add, nx_in (show 6 * v + i < 1296 by omega) (by omega), if_pos rfl, nx_cl (by omega), hu i (by omega), nx_s]
    unfold bcF
    by_cases c : f i = 0
    · rw [if_pos c, if_pos (by rw [c]; decide)]
      exact ih q (i + 1) b (by omega) (by omega) hb
    · rw [if_neg c, if_neg (show ¬ nI (f i) ≤ 0 by rw [show (0 : Int32) = nI 0 from rfl, nx_le (by omega) (by omega)]; omega)]
      cases b with
      | none =>
        rw [if_pos (show eI none = -9 from rfl)]
        exact ih q (i + 1) (some (i, f i)) (by omega) (by omega) (fun p hp => by cases hp; exact ⟨rfl, by show i < 6; omega⟩)
      | some p =>
        obtain ⟨p2, p1⟩ := hb p rfl
        have hfp := hf p.1
        have bi1 : Bw f (some (i, f i)) := fun p hp => by cases hp; exact ⟨rfl, by show i < 6; omega⟩
        rw [show eI (some p) = nI p.1 from rfl, if_neg (enc_ne9 (by omega)), nI_add, nx_in (show 6 * v + p.1 < 1296 by omega) (by omega), if_pos rfl, if_pos rfl, nx_cl (by omega), hu p.1 p1]
        cases lg with
        | false =>
          rw [if_pos (show bi false = 0 from rfl), show bup false (some p) i (f i) = if f i < p.2 then some (i, f i) else some p from rfl]
          by_cases d : f i < p.2
          · rw [if_pos d, if_neg (show ¬ nI (f p.1) ≤ nI (f i) by rw [nx_le (by omega) (by omega)]; omega), if_neg (by decide)]
            exact ih q (i + 1) (some (i, f i)) (by omega) (by omega) bi1
          · rw [if_neg d, if_pos (show nI (f p.1) ≤ nI (f i) by rw [nx_le (by omega) (by omega)]; omega), if_pos rfl]
            exact ih q (i + 1) (some p) (by omega) (by omega) hb
        | true =>
          rw [if_neg (show ¬ bi true = 0 by decide), show bup true (some p) i (f i) = if p.2 < f i then some (i, f i) else some p from rfl]
          by_cases d : p.2 < f i
          · rw [if_pos d, if_neg (show ¬ nI (f i) ≤ nI (f p.1) by rw [nx_le (by omega) (by omega)]; omega), if_neg (by decide)]
            exact ih q (i + 1) (some (i, f i)) (by omega) (by omega) bi1
          · rw [if_neg d, if_pos (show nI (f i) ≤ nI (f p.1) by rw [nx_le (by omega) (by omega)]; omega), if_pos rfl]
            exact ih q (i + 1) (some p) (by omega) (by omega) hb
