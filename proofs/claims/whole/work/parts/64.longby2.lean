/-! ===== both look for the fewest sayings ===== -/
theorem rnR_OR {N : Nat} {K L : Nat → Int32} {v : Nat} (h5 : N ≤ 5) (hK : KdA N K) (hA : Agr N K L) : ∀ (m : Nat) (S T : St), SR N S T → Nm S → Nm T → OR N (rnR N K v m S) (rnR N L v m T)
  | 0, S, T, h, nS, nT => ⟨h, nS, nT⟩
  | m + 1, S, T, h, nS, nT => by
    unfold rnR
    have o := sic_OR h5 hK hA h nS nT (nI (sx v m))
    cases h1 : sic N K S (nI (sx v m)) with
    | none =>
      cases h2 : sic N L T (nI (sx v m)) with
      | none => trivial
      | some T2 => rw [h1, h2] at o; exact o.elim
    | some S2 =>
      cases h2 : sic N L T (nI (sx v m)) with
      | none => rw [h1, h2] at o; exact o.elim
      | some T2 =>
        rw [h1, h2] at o
        exact rnR_OR h5 hK hA m S2 T2 o.1 o.2.1 o.2.2
theorem okR_eq {N gl k : Nat} {K L : Nat → Int32} {rc : Int32} {S T : St} (h5 : N ≤ 5) (hK : KdA N K) (hA : Agr N K L) (h : SR N S T) (nS : Nm S) (nT : Nm T) : okR N K (rch N rc gl) k S = okR N L (rch N rc gl) k T := by
  funext v
  unfold okR
  have o := rnR_OR (v := v) h5 hK hA k S T h nS nT
  cases h1 : rnR N K v k S with
  | none =>
    cases h2 : rnR N L v k T with
    | none => rfl
    | some T2 => rw [h1, h2] at o; exact o.elim
  | some S2 =>
    cases h2 : rnR N L v k T with
    | none => rw [h1, h2] at o; exact o.elim
    | some T2 =>
      rw [h1, h2] at o
      show rch N rc gl S2 = rch N rc gl T2
      unfold rch
      rw [eqN_hear o.1.1, o.1.1 5 (Or.inr ⟨by omega, by omega⟩)]
def frs (A : Nat → Option Nat) : Nat → Nat → Option (Nat × Nat)
  | 0, _ => none
  | m + 1, j => match A j with
    | some r => some (j, r)
    | none => frs A m (j + 1)
theorem frs_lt {A : Nat → Option Nat} {k r : Nat} : ∀ (m j : Nat), frs A m j = some (k, r) → k < j + m
  | 0, _, h => by cases h
  | m + 1, j, h => by
    unfold frs at h
    cases e : A j with
    | some q => rw [e] at h; cases h; omega
    | none => rw [e] at h; have := frs_lt m (j + 1) h; omega
def eR : Option (Nat × Nat) → Int32
  | none => -9
  | some (k, r) => nI (tld r k 0)
theorem fewC (F : Nat) {w : pm_W} {N gl : Nat} (hF : 9 ≤ F) (hN : w.1 3 0 3 = nI N) (h5 : N ≤ 5) (hK : KdA N (w.1 4 0)) (hgl : gl ≤ 60) (S : St) (iv : Iv N S) : ∀ (m n j : Nat) (u : pm_W), j + m = 5 → m < n → Fr w u → cS u 17 = S → ∃ v, ((f_X3_fewestSayings_L6 F n u 0 (nI gl) (nI j)).bind fun x7 => Sum.elim (fun ex7 => some ((-9), ex7.2)) (fun rx7 => some rx7) x7) = some (eR (frs (fun k => fv (okR N (w.1 4 0) (rch N (w.1 3 0 5) gl) k S) (6 ^ k) 0) m j), v) ∧ Fr w v := by
  intro m
  induction m with
  | zero =>
    intro n j u hj hn fr hS
    obtain ⟨n, rfl⟩ : ∃ q, n = q + 1 := ⟨n - 1, by omega⟩
    have : j = 5 := by omega
    subst this
    exact ⟨u, by rw [f_X3_fewestSayings_L6, if_pos (by decide)]; rfl, fr⟩
  | succ m ih =>
    intro n j u hj hn fr hS
    obtain ⟨n, rfl⟩ : ∃ q, n = q + 1 := ⟨n - 1, by omega⟩
    obtain ⟨v, hv, fv', sv⟩ := tryS F (w := w) (N := N) (s := j) (gl := gl) hF hN h5 hK (by omega) hgl j 8 0 0 u (by omega) (by omega) (by omega) fr (by rw [show 17 + 0 = 17 from rfl, hS]; exact iv)
    rw [show 17 + 0 = 17 from rfl, hS, srch_fv h5, show nI 0 = (0 : Int32) from rfl] at hv
    have s17 : cS v 17 = S := by rw [← hS]; exact sv 0 (Nat.le_refl _)
    rw [f_X3_fewestSayings_L6, if_neg (show ¬ 4 < nI j by rw [show (4 : Int32) = nI 4 from rfl, nx_lt (by omega) (by omega)]; omega), hv, Option.bind_some, nx_s]
    unfold frs
    cases e : fv (okR N (w.1 4 0) (rch N (w.1 3 0 5) gl) j S) (6 ^ j) 0 with
    | none =>
      dsimp only
      rw [if_pos (show enc (Option.map (fun v => tld v j 0) none) = -9 from rfl)]
      exact ih n (j + 1) v (by omega) (by omega) (fr.trans fv') s17
    | some r =>
      have t := (tld_k (v := r) (k := j)).1
      have p : 10 ^ j ≤ 10 ^ 5 := Nat.pow_le_pow_right (by omega) (by omega)
      dsimp only
      rw [if_neg (show ¬ enc (Option.map (fun v => tld v j 0) (some r)) = -9 from enc_ne9 (r := tld r j 0) (by omega))]
      exact ⟨v, rfl, fr.trans fv'⟩
def eM (flag : Int32) : Option (Nat × Nat) → Int32
  | none => -9
  | some (k, r) => if flag = 0 then nI k else nI (tld r k 0)
theorem fewM (F : Nat) {w : pm_W} {N gl : Nat} {flag : Int32} (hF : 2000 ≤ F) (hN : w.1 19 0 0 = nI N) (h5 : N ≤ 5) (hgl : gl ≤ 60) : ∀ (m n j : Nat) (S : St), j + m = 5 → m < n → Nm S → ∃ T, ((f_X8_fewest_L2 F n (mPut w 1 S) (glM gl) flag (nI j)).bind fun x25 => Sum.elim (fun ex25 => some ((-9), ex25.2)) (fun rx25 => some rx25) x25) = some (eM flag (frs (fun k => fv (okR N (w.1 20 0) (rch N (w.1 19 0 2) gl) k (mS w 0)) (6 ^ k) 0) m j), mPut w 1 T) := by
  intro m
  induction m with
  | zero =>
    intro n j S hj hn nS
    obtain ⟨n, rfl⟩ : ∃ q, n = q + 1 := ⟨n - 1, by omega⟩
    have : j = 5 := by omega
    subst this
    exact ⟨S, by rw [f_X8_fewest_L2, if_pos (by decide)]; rfl⟩
  | succ m ih =>
    intro n j S hj hn nS
    obtain ⟨n, rfl⟩ : ∃ q, n = q + 1 := ⟨n - 1, by omega⟩
    have p : 6 ^ j ≤ 6 ^ 4 := Nat.pow_le_pow_right (by omega) (by omega)
    obtain ⟨T, nT, hT⟩ := few_L F (w := w) (N := N) (k := j) (gl := gl) (flag := flag) (by omega) hN h5 (by omega) hgl (6 ^ j) F 0 S (by omega) (by omega) nS
    rw [show nI 0 = (0 : Int32) from rfl] at hT
    rw [f_X8_fewest_L2, if_neg (show ¬ 5 ≤ nI j by rw [show (5 : Int32) = nI 5 from rfl, nx_le (by omega) (by omega)]; omega), hT, Option.bind_some, nx_s]
    unfold frs
    cases e : fv (okR N (w.1 20 0) (rch N (w.1 19 0 2) gl) j (mS w 0)) (6 ^ j) 0 with
    | none => exact ih n (j + 1) T (by omega) (by omega) nT
    | some r => exact ⟨T, rfl⟩
theorem few_k (F : Nat) (hF : 2000 ≤ F) {w : pm_W} (H : Rel w) (gl : Nat) (hgl : gl ≤ 60) (flag : Int32) : ∃ r x w1 w2, f_X3_fewestSayings F w 0 (nI gl) = some (x, w1) ∧ f_X7_told F w1 x flag = some r ∧ f_X8_fewest F w1 (glM gl) flag = some (r, w2) ∧ Rel w2 := by
  obtain ⟨n, N, A, X, D, HP⟩ := H
  have H1 := HP
  obtain ⟨h1, hb, h3, h4, h5, h6, h7⟩ := H1
  unfold f_X3_fewestSayings
  rw [trialFrom_e F (by omega), Option.bind_some]
  obtain ⟨v, hv, fr⟩ := fewC F (w := w) (N := N) (gl := gl) (by omega) hb.2.1 hb.1 hb.kd hgl (cS w 0) h3.2 5 F 0 (cPut w 17 (cS w 0)) (by omega) (by omega) (Fr_cPut (by omega)) (cS_cPut (cS_nm w 0))
  rw [show nI 0 = (0 : Int32) from rfl] at hv
  have HV := RelP_Fr fr HP
  obtain ⟨_, vb, v3, _⟩ := HV
  obtain ⟨S0, nS0, eS0⟩ : ∃ S, Nm S ∧ v = mPut v 1 S := by
    refine ⟨mS v 1, mS_nm v 1, W_ext (fun a b c => ?_) rfl⟩
    unfold mPut rowP
    by_cases h : a = 23 ∧ b = 0
    · obtain ⟨rfl, rfl⟩ := h
      simp only [and_self, if_true]
      by_cases h2 : 9 * 1 ≤ c ∧ c < 9 * 1 + 9
      · rw [if_pos h2]
        unfold mS
        rw [if_pos (by omega), show 9 * 1 + (c - 9 * 1) = c by omega]
      · rw [if_neg h2]
    · simp only [if_neg h]
  obtain ⟨T, hT⟩ := fewM F (w := v) (N := N) (gl := gl) (flag := flag) hF vb.2.2.1 vb.1 hgl 5 F 0 S0 (by omega) (by omega) nS0
  rw [← eS0, show nI 0 = (0 : Int32) from rfl] at hT
  have e20 : v.1 20 0 = w.1 20 0 := funext fun c => fr.1 20 0 c (by unfold sFr; omega)
  have e19 : v.1 19 0 2 = w.1 19 0 2 := fr.1 19 0 2 (by unfold sFr; omega)
  have em : mS v 0 = mS w 0 := mS_of (fun n hn => fr.1 23 0 _ (by unfold sFr; omega))
  have eA : (fun k => fv (okR N (w.1 4 0) (rch N (w.1 3 0 5) gl) k (cS w 0)) (6 ^ k) 0) = fun k => fv (okR N (v.1 20 0) (rch N (v.1 19 0 2) gl) k (mS v 0)) (6 ^ k) 0 := by
    funext k
    rw [e20, e19, em, hb.2.2.2.2.1, okR_eq hb.1 hb.kd hb.agk h3 (cS_nm w 0) (mS_nm w 0)]
  rw [eA] at hv
  unfold f_X8_fewest f_X7_told
  have lt := fun k r => frs_lt (A := fun k => fv (okR N (v.1 20 0) (rch N (v.1 19 0 2) gl) k (mS v 0)) (6 ^ k) 0) (k := k) (r := r) 5 0
  generalize frs (fun k => fv (okR N (v.1 20 0) (rch N (v.1 19 0 2) gl) k (mS v 0)) (6 ^ k) 0) 5 0 = R at hv hT lt
  refine ⟨eM flag R, eR R, v, mPut v 1 T, hv, ?_, hT, n, N, A, X, D, RelP_Fr Fr_mPut (RelP_Fr fr HP)⟩
  by_cases c : flag = 0
  · rw [if_pos c]
    cases R with
    | none => rfl
    | some q =>
      obtain ⟨k, r⟩ := q
      have hk := lt k r rfl
      have t := (tld_k (v := r) (k := k)).1
      have p : 10 ^ k ≤ 10 ^ 5 := Nat.pow_le_pow_right (by omega) (by omega)
      rw [if_neg (show ¬ eR (some (k, r)) = -9 from enc_ne9 (r := tld r k 0) (by omega))]
      show ((f_X7_figuresOf F v (nI (tld r k 0))).bind fun r3 => some r3) = some (if flag = 0 then nI k else nI (tld r k 0))
      rw [figs_k F (by omega) (by omega), if_pos c]; rfl
  · rw [if_neg c]
    cases R with
    | none => rfl
    | some q =>
      obtain ⟨k, r⟩ := q
      show some (nI (tld r k 0)) = some (if flag = 0 then nI k else nI (tld r k 0))
      rw [if_neg c]
theorem k_together (F : Nat) (hF : 2000 ≤ F) {w : pm_W} (H : Rel w) (flag : Int32) : ∃ r w1 w2, f_X7_together F w flag = some (r, w1) ∧ f_X8_together F w1 flag = some (r, w2) ∧ Rel w2 := by
  obtain ⟨r, x, w1, w2, h1, h2, h3, h4⟩ := few_k F hF H 0 (by omega) flag
  unfold f_X7_together f_X8_together
  rw [show nI 0 = (0 : Int32) from rfl] at h1
  refine ⟨r, w1, w2, ?_, ?_, h4⟩
  · rw [h1, Option.bind_some]
    dsimp only
    rw [h2]; rfl
  · rw [show f_X8_fewest F w1 (-9) flag = _ from h3]; rfl
theorem k_longBy (F : Nat) (hF : 2000 ≤ F) {w : pm_W} (H : Rel w) (y flag : Int32) : ∃ r w1 w2, f_X7_longBy F w y flag = some (r, w1) ∧ f_X8_longBy F w1 y flag = some (r, w2) ∧ Rel w2 := by
  unfold f_X7_longBy f_X8_longBy
  have q1 : ¬ (1 : Int32) = 0 := by decide
  simp only [in_lit F _ y (lo := 1) (hi := 60) 1 60 rfl rfl, Option.bind_some]
  by_cases c3 : y < 1
  · exact ⟨-2, w, w, by rw [if_pos c3], by rw [if_pos c3, if_pos rfl], H⟩
  by_cases c4 : y ≤ 60
  · have c5 : ¬ 60 < y := Int32.not_lt.mpr c4
    obtain ⟨L, hL, rfl⟩ : ∃ m : Nat, m < 2147483648 ∧ y = nI m := nI_gt (fun h => c3 (Int32.lt_trans h (by decide)))
    have l60 : L ≤ 60 := by rw [show (60 : Int32) = nI 60 from rfl, nx_le (by omega) (by omega)] at c4; exact c4
    have l1 : L ≠ 0 := fun z => c3 (by rw [z]; decide)
    simp only [c3, c4, c5, if_false, if_true, q1]
    obtain ⟨r, x, w1, w2, h1, h2, h3, h4⟩ := few_k F hF H L l60 flag
    rw [show glM L = nI L from if_neg l1] at h3
    refine ⟨r, w1, w2, ?_, ?_, h4⟩
    · rw [h1, Option.bind_some]
      dsimp only
      rw [h2]; rfl
    · rw [h3]; rfl
  · have c5 : 60 < y := Int32.not_le.mp c4
    exact ⟨-2, w, w, by rw [if_neg c3, if_neg c4], by rw [if_neg c3, if_pos c5, if_pos rfl], H⟩
