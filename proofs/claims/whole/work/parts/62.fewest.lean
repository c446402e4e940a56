/-! ===== the reference counts up ===== -/
theorem enc_ne9 {r : Nat} (h : r < 2147483648) : ¬ nI r = -9 := fun z => by
  have h1 : ¬ nI r < 0 := nI_pos (by omega)
  rw [z] at h1
  exact h1 (by decide)
def glM (gl : Nat) : Int32 := if gl = 0 then -9 else nI gl
theorem few_L (F : Nat) {w : pm_W} {N k gl : Nat} {flag : Int32} (hF : 101 ≤ F) (hN : w.1 19 0 0 = nI N) (h5 : N ≤ 5) (hk : k ≤ 5) (hgl : gl ≤ 60) : ∀ (m q v : Nat) (S : St), v + m = 6 ^ k → m < q → Nm S → ∃ T, Nm T ∧ f_X8_fewest_L7 F q (mPut w 1 S) (glM gl) flag (nI k) (nI v) = some (match fv (okR N (w.1 20 0) (rch N (w.1 19 0 2) gl) k (mS w 0)) m v with | none => Sum.inl (nI (6 ^ k), mPut w 1 T) | some r => Sum.inr ((if flag = 0 then nI k else nI (tld r k 0)), mPut w 1 T)) := by
  intro m
  obtain ⟨x1, x2, x3⟩ := six_e k hk
  induction m with
  | zero =>
    intro q v S hv hq nS
    obtain ⟨q, rfl⟩ : ∃ z, q = z + 1 := ⟨q - 1, by omega⟩
    have : v = 6 ^ k := by omega
    refine ⟨S, nS, ?_⟩
    rw [f_X8_fewest_L7, power_e F (by omega) (by omega), Option.bind_some, x1, if_pos (by rw [nx_le (by omega) (by omega)]; omega), this]; rfl
  | succ m ih =>
    intro q v S hv hq nS
    obtain ⟨q, rfl⟩ : ∃ z, q = z + 1 := ⟨q - 1, by omega⟩
    obtain ⟨T, hT, nT, sT⟩ := sayR_e F (w := w) (N := N) (v := v) (k := k) (S := S) hF hN h5 (by omega) (by omega)
    have I := ih q (v + 1) T (by omega) (by omega) nT
    have q1 : ¬ (1 : Int32) = 0 := by decide
    rw [f_X8_fewest_L7, power_e F (by omega) (by omega), Option.bind_some, x1, if_neg (by rw [nx_le (by omega) (by omega)]; omega), hT, Option.bind_some, nx_s]
    have hw : (mPut w 1 T).1 19 0 = w.1 19 0 := mPut_o (by decide)
    rw [show fv (okR N (w.1 20 0) (rch N (w.1 19 0 2) gl) k (mS w 0)) (m + 1) v = if okR N (w.1 20 0) (rch N (w.1 19 0 2) gl) k (mS w 0) v = true then some v else fv (okR N (w.1 20 0) (rch N (w.1 19 0 2) gl) k (mS w 0)) m (v + 1) from rfl]
    cases e : rnR N (w.1 20 0) v k (mS w 0) with
    | none =>
      have eo : okR N (w.1 20 0) (rch N (w.1 19 0 2) gl) k (mS w 0) v = false := by unfold okR; rw [e]
      rw [eo, if_neg (show ¬ false = true by decide)]
      dsimp only
      rw [if_pos (show bi (none : Option St).isSome = 0 from rfl)]
      exact I
    | some Q =>
      have := sT Q e
      subst this
      have eo : okR N (w.1 20 0) (rch N (w.1 19 0 2) gl) k (mS w 0) v = rch N (w.1 19 0 2) gl T := by unfold okR; rw [e]
      rw [eo]
      dsimp only
      rw [if_neg (show ¬ bi (some T).isSome = 0 from q1), tld_e F hF (by omega) (by omega), Option.bind_some]
      unfold rch glM at *
      by_cases g0 : gl = 0
      · rw [if_pos g0, if_pos g0, if_pos rfl]
        have hh := hears_e F (w := mPut w 1 T) (N := N) (v := 1) (by omega) (by rw [hw]; exact hN) h5 (by omega)
        rw [hw, mS_mPut nT, show nI 1 = (1 : Int32) from rfl] at hh
        rw [hh, Option.bind_some, ones_e F (by omega), Option.bind_some, hw, hN]
        simp only [g0, if_true] at I
        by_cases c : hearM N (w.1 19 0 2) T = nI (2 ^ N - 1)
        · rw [if_pos ((all_on h5).mpr c), if_neg q1, decide_eq_true c, if_pos rfl]
          refine ⟨T, nT, ?_⟩
          by_cases f : flag = 0
          · rw [if_pos f]; simp only [f, if_true]
          · rw [if_neg f]; simp only [f, if_false]
        · rw [if_neg (fun z => c ((all_on h5).mp z)), if_pos rfl, decide_eq_false c, if_neg (by decide)]
          simp only [g0, if_true]
          exact I
      · have ng : ¬ nI gl = -9 := enc_ne9 (by omega)
        rw [if_neg g0, if_neg g0, if_neg ng]
        simp only [g0, if_false] at I
        have e14 : (mPut w 1 T).1 23 0 14 = T 5 := mPut_g (v := 1) (n := 5) (by omega)
        rw [e14]
        by_cases c : T 5 = nI gl
        · rw [if_pos c, if_neg q1, decide_eq_true c, if_pos rfl]
          refine ⟨T, nT, ?_⟩
          by_cases f : flag = 0
          · rw [if_pos f]; simp only [f, if_true]
          · rw [if_neg f]; simp only [f, if_false]
        · rw [if_neg c, if_pos rfl, decide_eq_false c, if_neg (by decide)]
          simp only [g0, if_false]
          exact I
