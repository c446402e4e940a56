/-! ===== the set of those who hear, as a number ===== -/
theorem or_in {N m g : Nat} (h5 : N ≤ 5) (hm : m < 2 ^ N) (hg : g < N) : (nI m ||| ((1 : Int32) <<< (nI g &&& 31))) = nI (m ||| 2 ^ g) ∧ (m ||| 2 ^ g) < 2 ^ N := by
  have p2 := p2_le h5
  refine ⟨(or32 ⟨m, by omega⟩ ⟨g, by omega⟩).1, Nat.or_lt_two_pow hm (Nat.pow_lt_pow_right (by omega) hg)⟩
theorem pc_all : ∀ N : Fin 6, ∀ m : Fin 32, m.val < 2 ^ N.val → (pc m.val = N.val ↔ m.val = 2 ^ N.val - 1) := by decide +kernel
theorem hrL_in {N : Nat} {rc : Int32} {S : St} (h5 : N ≤ 5) : ∀ (k : Nat) (m : Nat) (fr : Int32) (o : Option Nat), m < 2 ^ N → (∀ g, o = some g → g < N) → ∃ q, q < 2 ^ N ∧ hrL N rc S k (nI m) fr o = nI q
  | 0, m, fr, o, hm, _ => ⟨m, hm, by cases o <;> rfl⟩
  | k + 1, m, fr, none, hm, _ => ⟨m, hm, rfl⟩
  | k + 1, m, fr, some g, hm, ho => by
    unfold hrL
    split
    · obtain ⟨e, l⟩ := or_in h5 hm (ho g rfl)
      rw [e]
      exact hrL_in h5 k _ _ _ l (fun j hj => (nxt_spec hj).1)
    · exact ⟨m, hm, rfl⟩
theorem hear_in {N : Nat} {rc : Int32} {S : St} (h5 : N ≤ 5) : ∃ q, q < 2 ^ N ∧ hearM N rc S = nI q :=
  hrL_in h5 N 0 0 _ (Nat.pow_pos (by omega)) (fun j hj => (nxt_spec hj).1)
theorem all_on {N : Nat} {rc : Int32} {S : St} (h5 : N ≤ 5) : (onV (hearM N rc S) = nI N ↔ hearM N rc S = nI (2 ^ N - 1)) := by
  obtain ⟨q, hq, e⟩ := hear_in (rc := rc) (S := S) h5
  have p2 := p2_le h5
  have := pc_le q
  rw [e, show onV (nI q) = nI (pc q) from onV_e ⟨q, by omega⟩, nx_eq (by omega) (by omega), nx_eq (by omega) (by omega)]
  exact pc_all ⟨N, by omega⟩ ⟨q, by omega⟩ hq
-- a row of sayings on the reference's side
theorem sayR_0 (F : Nat) {w : pm_W} {a b c : Int32} {n : Nat} (hn : 0 < n) : f_X8_sayRow_L6 F n w a b 0 c = some (0, c, w) := by
  obtain ⟨n, rfl⟩ : ∃ q, n = q + 1 := ⟨n - 1, by omega⟩
  rw [f_X8_sayRow_L6]
  by_cases h : b ≤ c
  · rw [if_pos h]
  · rw [if_neg h, if_pos rfl]
theorem sayR_L (F : Nat) {w : pm_W} {N v k : Nat} (hF : 101 ≤ F) (hN : w.1 19 0 0 = nI N) (h5 : N ≤ 5) (hv : v < 2147483648) (hk : k ≤ 6) : ∀ (m n j : Nat) (S : St), j + m = k → m + 1 < n → Nm S → ∃ T y, f_X8_sayRow_L6 F n (mPut w 1 S) (nI v) (nI k) 1 (nI j) = some (bi (rnR N (w.1 20 0) v m S).isSome, y, mPut w 1 T) ∧ Nm T ∧ ∀ Q, rnR N (w.1 20 0) v m S = some Q → T = Q := by
  intro m
  induction m with
  | zero =>
    intro n j S hj hn nS
    obtain ⟨n, rfl⟩ : ∃ q, n = q + 1 := ⟨n - 1, by omega⟩
    refine ⟨S, _, by rw [f_X8_sayRow_L6, if_pos (by rw [nx_le (by omega) (by omega)]; omega)]; rfl, nS, fun Q h => by cases h; rfl⟩
  | succ m ih =>
    intro n j S hj hn nS
    obtain ⟨n, rfl⟩ : ∃ q, n = q + 1 := ⟨n - 1, by omega⟩
    have q1 : ¬ (1 : Int32) = 0 := by decide
    rw [f_X8_sayRow_L6, if_neg (by rw [nx_le (by omega) (by omega)]; omega), if_neg q1, figOf_e F hF hv hk (by omega), Option.bind_some, show k - 1 - j = m by omega, nx_s]
    unfold rnR
    rcases sic_mt F (w := w) (S := S) (x := nI (sx v m)) (by omega) hN h5 nS with ⟨h, hg | ⟨hg, hc⟩⟩ | ⟨S2, h, hg, hc, hs⟩
    · rw [h, hg, Option.bind_some, if_pos rfl, sayR_0 F (by omega)]
      exact ⟨S, _, rfl, nS, fun Q z => by cases z⟩
    · rw [h, hg, Option.bind_some, if_neg q1, hc, Option.bind_some]
      simp only [if_true]
      rw [sayR_0 F (by omega)]
      exact ⟨S, _, rfl, nS, fun Q z => by cases z⟩
    · rw [h, hg, Option.bind_some, if_neg q1, hc, Option.bind_some]
      simp only [q1, if_false]
      rw [hs, Option.bind_some]
      exact ih n (j + 1) S2 (by omega) (by omega) (sic_nm h5 nS h)
theorem sayR_e (F : Nat) {w : pm_W} {N v k : Nat} {S : St} (hF : 101 ≤ F) (hN : w.1 19 0 0 = nI N) (h5 : N ≤ 5) (hv : v < 2147483648) (hk : k ≤ 6) : ∃ T, f_X8_sayRow F (mPut w 1 S) (nI v) (nI k) = some (bi (rnR N (w.1 20 0) v k (mS w 0)).isSome, mPut w 1 T) ∧ Nm T ∧ ∀ Q, rnR N (w.1 20 0) v k (mS w 0) = some Q → T = Q := by
  unfold f_X8_sayRow
  obtain ⟨T, y, h, nT, hT⟩ := sayR_L F (w := w) hF hN h5 hv hk k F 0 (mS w 0) (by omega) (by omega) (mS_nm w 0)
  rw [show nI 0 = (0 : Int32) from rfl] at h
  refine ⟨T, ?_, nT, hT⟩
  rw [layTrial_e F (by omega), Option.bind_some, mPut_mPut, mS_mPut_ne (by omega), h, Option.bind_some]
  dsimp only
  rw [isb_bi, if_pos rfl]
