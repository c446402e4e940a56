/-! ===== who hears the head ===== -/
/-- the first on the least leaf beyond x, of the first n -/
def nxt (S : St) (x : Int32) : Nat → Option Nat
  | 0 => none
  | n + 1 => if x < S n then (match nxt S x n with | none => some n | some g => if S g ≤ S n then some g else some n) else nxt S x n
def enc : Option Nat → Int32
  | none => -9
  | some g => nI g
def cnt (S : St) (x : Int32) : Nat → Nat
  | 0 => 0
  | n + 1 => cnt S x n + if x < S n then 1 else 0
theorem nxt_spec {S : St} {x : Int32} : ∀ {n g : Nat}, nxt S x n = some g → g < n ∧ x < S g
  | 0, g, h => by cases h
  | n + 1, g, h => by
    unfold nxt at h
    by_cases hx : x < S n
    · rw [if_pos hx] at h
      cases hb : nxt S x n with
      | none =>
        rw [hb] at h
        cases h
        exact ⟨by omega, hx⟩
      | some b =>
        rw [hb] at h
        have ib := nxt_spec hb
        by_cases hs : S b ≤ S n
        · simp only [hs, if_true] at h
          cases h
          exact ⟨by omega, ib.2⟩
        · simp only [hs, if_false] at h
          cases h
          exact ⟨by omega, hx⟩
    · rw [if_neg hx] at h
      have := nxt_spec h
      exact ⟨by omega, this.2⟩
theorem nxt_none {S : St} {x : Int32} : ∀ {n : Nat}, nxt S x n = none → ∀ g, g < n → ¬ x < S g
  | 0, _, g, hg => by omega
  | n + 1, h, g, hg => by
    unfold nxt at h
    by_cases hx : x < S n
    · rw [if_pos hx] at h
      cases hb : nxt S x n with
      | none => rw [hb] at h; cases h
      | some b =>
        rw [hb] at h
        by_cases hs : S b ≤ S n <;> simp [hs] at h
    · rw [if_neg hx] at h
      by_cases hgn : g = n
      · subst hgn; exact hx
      · exact nxt_none h g (by omega)
theorem cnt_le (S : St) (x : Int32) : ∀ n, cnt S x n ≤ n
  | 0 => Nat.le_refl _
  | n + 1 => by
    have := cnt_le S x n
    unfold cnt
    split <;> omega
theorem cnt_mono {S : St} {x y : Int32} (h : x < y) : ∀ n, cnt S y n ≤ cnt S x n
  | 0 => Nat.le_refl _
  | n + 1 => by
    have := cnt_mono h n (S := S)
    unfold cnt
    by_cases hy : y < S n
    · rw [if_pos hy, if_pos (Int32.lt_trans h hy)]; omega
    · rw [if_neg hy]; omega
theorem cnt_lt {S : St} {x : Int32} {g : Nat} (hx : x < S g) : ∀ n, g < n → cnt S (S g) n < cnt S x n
  | 0, h => by omega
  | n + 1, h => by
    unfold cnt
    by_cases hg : g = n
    · subst hg
      rw [if_pos hx, if_neg Int32.lt_irrefl]
      have := cnt_mono hx g (S := S)
      omega
    · have := cnt_lt hx n (by omega)
      by_cases hy : S g < S n
      · rw [if_pos hy, if_pos (Int32.lt_trans hx hy)]; omega
      · rw [if_neg hy]; omega
def hrL (N : Nat) (rc : Int32) (S : St) : Nat → Int32 → Int32 → Option Nat → Int32
  | 0, set, _, _ => set
  | _ + 1, set, _, none => set
  | k + 1, set, fr, some g => if S g - fr ≤ rc then hrL N rc S k (set ||| (1 <<< (nI g &&& 31))) (S g) (nxt S (S g) N) else set
/-- who hears, as bits -/
def hearM (N : Nat) (rc : Int32) (S : St) : Int32 := hrL N rc S N 0 0 (nxt S (-1) N)
theorem hrL_stable {N : Nat} {rc : Int32} {S : St} : ∀ (k k2 : Nat) (x set fr : Int32), cnt S x N ≤ k → cnt S x N ≤ k2 → hrL N rc S k set fr (nxt S x N) = hrL N rc S k2 set fr (nxt S x N) := by
  intro k
  induction k with
  | zero =>
    intro k2 x set fr h1 h2
    have hz : nxt S x N = none := by
      cases hb : nxt S x N with
      | none => rfl
      | some g =>
        have q := nxt_spec hb
        have := cnt_lt q.2 N q.1
        omega
    rw [hz]
    cases k2 <;> rfl
  | succ k ih =>
    intro k2 x set fr h1 h2
    cases hb : nxt S x N with
    | none => cases k2 <;> rfl
    | some g =>
      have q := nxt_spec hb
      have hl := cnt_lt q.2 N q.1
      obtain ⟨k2, rfl⟩ : ∃ z, k2 = z + 1 := ⟨k2 - 1, by omega⟩
      unfold hrL
      by_cases hr : S g - fr ≤ rc
      · rw [if_pos hr, if_pos hr]
        exact ih k2 (S g) _ _ (by omega) (by omega)
      · rw [if_neg hr, if_neg hr]
/-- the leaves are told by 0 to 59 -/
def Lf (N : Nat) (S : St) : Prop := ∀ j, j < N → ∃ k, k < 60 ∧ S j = nI k
theorem enc_ne (g : Nat) (h : g < 60) : ¬ nI g = -9 := by
  intro z
  have h1 : ¬ nI g < 0 := nI_pos (by omega)
  rw [z] at h1
  exact h1 (by decide)
-- the class
def lst (S : St) : Option Nat → Int32
  | none => 60
  | some g => S g
theorem nextFrom_L (F : Nat) {w : pm_W} {N i : Nat} {x y : Int32} (hN : w.1 3 0 3 = nI N) (h5 : N ≤ 5) (hL : Lf N (cS w i)) (hxy : ∀ j, j < N → (cS w i j < y ↔ cS w i j ≤ x)) : ∀ (m n j : Nat), j + m = N → m < n → f_X5_nextFrom_L6 F w n i y (enc (nxt (cS w i) x j)) (lst (cS w i) (nxt (cS w i) x j)) (nI j) = some (enc (nxt (cS w i) x N), lst (cS w i) (nxt (cS w i) x N), nI N) := by
  intro m
  induction m with
  | zero =>
    intro n j hj hn
    obtain ⟨n, rfl⟩ : ∃ k, n = k + 1 := ⟨n - 1, by omega⟩
    have : j = N := by omega
    subst this
    rw [f_X5_nextFrom_L6, hN, if_pos (by rw [nx_le (by omega) (by omega)]; omega)]
  | succ m ih =>
    intro n j hj hn
    obtain ⟨n, rfl⟩ : ∃ k, n = k + 1 := ⟨n - 1, by omega⟩
    rw [f_X5_nextFrom_L6, hN, if_neg (by rw [nx_le (by omega) (by omega)]; omega), nx_in (show j < 5 by omega) (by omega), if_pos rfl, if_pos rfl, if_pos rfl, nx_cl (by omega), cS_l (by omega), nx_s]
    have ih2 := ih n (j + 1) (by omega) (by omega)
    have e2 : nxt (cS w i) x (j + 1) = if x < cS w i j then (match nxt (cS w i) x j with | none => some j | some g => if cS w i g ≤ cS w i j then some g else some j) else nxt (cS w i) x j := rfl
    rw [e2] at ih2
    by_cases hx : x < cS w i j
    · have h1 : ¬ cS w i j < y := fun z => absurd hx (Int32.not_lt.mpr ((hxy j (by omega)).mp z))
      rw [if_neg h1]
      rw [if_pos hx] at ih2
      cases hb : nxt (cS w i) x j with
      | none =>
        rw [hb] at ih2
        have h2 : ¬ (60 : Int32) ≤ cS w i j := by
          obtain ⟨k, hk, e⟩ := hL j (by omega)
          rw [e, show (60 : Int32) = nI 60 from rfl, nx_le (by omega) (by omega)]; omega
        show (if (60 : Int32) ≤ cS w i j then _ else _) = _
        rw [if_neg h2]
        exact ih2
      | some g =>
        rw [hb] at ih2
        show (if cS w i g ≤ cS w i j then _ else _) = _
        by_cases hs : cS w i g ≤ cS w i j
        · rw [if_pos hs]
          simp only [hs, if_true] at ih2
          exact ih2
        · rw [if_neg hs]
          simp only [hs, if_false] at ih2
          exact ih2
    · have h1 : cS w i j < y := (hxy j (by omega)).mpr (Int32.not_lt.mp hx)
      rw [if_pos h1]
      rw [if_neg hx] at ih2
      exact ih2
theorem nextFrom_e (F : Nat) {w : pm_W} {N i : Nat} {x y : Int32} (hF : 9 ≤ F) (hN : w.1 3 0 3 = nI N) (h5 : N ≤ 5) (hL : Lf N (cS w i)) (hxy : ∀ j, j < N → (cS w i j < y ↔ cS w i j ≤ x)) : f_X5_nextFrom F w i y = some (enc (nxt (cS w i) x N)) := by
  unfold f_X5_nextFrom
  have := nextFrom_L F hN h5 hL hxy N F 0 (by omega) (by omega)
  rw [show enc (nxt (cS w i) x 0) = -9 from rfl, show lst (cS w i) (nxt (cS w i) x 0) = 60 from rfl, show nI 0 = 0 from rfl] at this
  rw [this]; rfl
theorem hearers_L (F : Nat) {w : pm_W} {N i : Nat} (hF : 9 ≤ F) (hN : w.1 3 0 3 = nI N) (h5 : N ≤ 5) (hL : Lf N (cS w i)) : ∀ (m n j : Nat) (set fr x : Int32), j + m = N → m < n → ∃ r, f_X5_hearers_L11 F w n i set fr (enc (nxt (cS w i) x N)) (nI j) = some r ∧ Sum.elim (fun e => e.1) (fun r => r) r = hrL N (w.1 3 0 5) (cS w i) m set fr (nxt (cS w i) x N) := by
  intro m
  induction m with
  | zero =>
    intro n j set fr x hj hn
    obtain ⟨n, rfl⟩ : ∃ k, n = k + 1 := ⟨n - 1, by omega⟩
    have : j = N := by omega
    subst this
    rw [f_X5_hearers_L11, hN, if_pos (by rw [nx_le (by omega) (by omega)]; omega)]
    exact ⟨_, rfl, rfl⟩
  | succ m ih =>
    intro n j set fr x hj hn
    obtain ⟨n, rfl⟩ : ∃ k, n = k + 1 := ⟨n - 1, by omega⟩
    rw [f_X5_hearers_L11, hN, if_neg (by rw [nx_le (by omega) (by omega)]; omega)]
    cases hb : nxt (cS w i) x N with
    | none =>
      rw [if_pos (show enc none = -9 from rfl)]
      exact ⟨_, rfl, rfl⟩
    | some g =>
      have q := nxt_spec hb
      show ∃ r, (if nI g = -9 then _ else _) = some r ∧ _
      rw [if_neg (enc_ne g (by omega)), show enc (some g) = nI g from rfl, nx_in (show g < 5 by omega) (by omega), if_pos rfl, nx_cl (by omega), cS_l (by omega), nx_s]
      obtain ⟨k, hk, ek⟩ := hL g q.1
      have hn2 : f_X5_nextFrom F w i (cS w i g + 1) = some (enc (nxt (cS w i) (cS w i g) N)) := by
        refine nextFrom_e F hF hN h5 hL (fun j hj => ?_)
        obtain ⟨k2, hk2, ek2⟩ := hL j hj
        rw [ek, ek2, nx_s, nx_lt (by omega) (by omega), nx_le (by omega) (by omega)]
        omega
      rw [hn2, Option.bind_some]
      unfold hrL
      by_cases hr : cS w i g - fr ≤ w.1 3 0 5
      · rw [if_pos hr, if_pos hr]
        exact ih n (j + 1) _ _ _ (by omega) (by omega)
      · rw [if_neg hr, if_neg hr]
        exact ⟨_, rfl, rfl⟩
theorem hearers_e (F : Nat) {w : pm_W} {N i : Nat} (hF : 9 ≤ F) (hN : w.1 3 0 3 = nI N) (h5 : N ≤ 5) (hL : Lf N (cS w i)) : f_X5_hearers F w i = some (hearM N (w.1 3 0 5) (cS w i)) := by
  unfold f_X5_hearers
  have h0 : f_X5_nextFrom F w i 0 = some (enc (nxt (cS w i) (-1) N)) := by
    refine nextFrom_e F hF hN h5 hL (fun j hj => ?_)
    obtain ⟨k2, hk2, ek2⟩ := hL j hj
    rw [ek2]
    have h1 : ¬ nI k2 < 0 := nI_pos (by omega)
    have h2 : ¬ nI k2 ≤ -1 := fun z => h1 (Int32.lt_of_le_of_lt z (by decide))
    exact ⟨fun z => absurd z h1, fun z => absurd z h2⟩
  rw [h0, Option.bind_some]
  obtain ⟨r, e1, e2⟩ := hearers_L F hF hN h5 hL N F 0 0 0 (-1) (by omega) (by omega)
  rw [show (0 : Int32) = nI 0 from rfl] at e1 ⊢
  rw [e1, Option.bind_some]
  unfold hearM
  rw [show (0 : Int32) = nI 0 from rfl] at e2 ⊢
  rw [← e2]
  cases r <;> rfl
-- the reference
theorem has31 (F : Nat) (w : pm_W) {g : Nat} (h : g < 5) : f_X8_has F w 31 (nI g) = some 1 := by
  rcases (show g = 0 ∨ g = 1 ∨ g = 2 ∨ g = 3 ∨ g = 4 by omega) with rfl | rfl | rfl | rfl | rfl <;> rfl
theorem nextOf_L (F : Nat) {w : pm_W} {N v : Nat} {x : Int32} (hN : w.1 19 0 0 = nI N) (h5 : N ≤ 5) (hv : v < 2) : ∀ (m n j : Nat), j + m = N → m < n → f_X8_nextOf_L4 F w n (nI v) 31 x (enc (nxt (mS w v) x j)) (nI j) = some (enc (nxt (mS w v) x N), nI N) := by
  intro m
  induction m with
  | zero =>
    intro n j hj hn
    obtain ⟨n, rfl⟩ : ∃ k, n = k + 1 := ⟨n - 1, by omega⟩
    have : j = N := by omega
    subst this
    rw [f_X8_nextOf_L4, hN, if_pos (by rw [nx_le (by omega) (by omega)]; omega)]
  | succ m ih =>
    intro n j hj hn
    obtain ⟨n, rfl⟩ : ∃ k, n = k + 1 := ⟨n - 1, by omega⟩
    have ih2 := ih n (j + 1) (by omega) (by omega)
    have e2 : nxt (mS w v) x (j + 1) = if x < mS w v j then (match nxt (mS w v) x j with | none => some j | some g => if mS w v g ≤ mS w v j then some g else some j) else nxt (mS w v) x j := rfl
    rw [e2] at ih2
    have q1 : ¬ (1 : Int32) = 0 := by decide
    rw [f_X8_nextOf_L4, hN, if_neg (by rw [nx_le (by omega) (by omega)]; omega), has31 F w (by omega), Option.bind_some, if_neg q1]
    simp only [ix9, nx_in (show 9 * v + j < 18 by omega) (show 18 < 2147483648 by omega), if_true, nx_cl (show 9 * v + j < 2147483648 by omega), mS_g (w := w) (show j < 9 by omega), nx_s]
    by_cases hx : x < mS w v j
    · have h1 : ¬ mS w v j ≤ x := Int32.not_le.mpr hx
      simp only [h1, if_false, q1]
      rw [if_pos hx] at ih2
      cases hb : nxt (mS w v) x j with
      | none =>
        rw [hb] at ih2
        rw [if_pos (show enc none = -9 from rfl)]
        exact ih2
      | some g =>
        rw [hb] at ih2
        have q := nxt_spec hb
        show (if nI g = -9 then _ else _) = _
        rw [if_neg (enc_ne g (by omega)), show enc (some g) = nI g from rfl, ix9, nx_in (show 9 * v + g < 18 by omega) (by omega), if_pos rfl, nx_cl (by omega), mS_g (by omega)]
        by_cases hs : mS w v g ≤ mS w v j
        · simp only [hs, if_true] at ih2 ⊢
          exact ih2
        · simp only [hs, if_false] at ih2 ⊢
          exact ih2
    · have h1 : mS w v j ≤ x := Int32.not_lt.mp hx
      simp only [h1, if_true]
      rw [if_neg hx] at ih2
      exact ih2
theorem nextOf_e (F : Nat) {w : pm_W} {N v : Nat} {x : Int32} (hF : 9 ≤ F) (hN : w.1 19 0 0 = nI N) (h5 : N ≤ 5) (hv : v < 2) : f_X8_nextOf F w (nI v) 31 x = some (enc (nxt (mS w v) x N)) := by
  unfold f_X8_nextOf
  have := nextOf_L F (x := x) hN h5 hv N F 0 (by omega) (by omega)
  rw [show enc (nxt (mS w v) x 0) = -9 from rfl, show nI 0 = 0 from rfl] at this
  rw [this]; rfl
theorem hears_L (F : Nat) {w : pm_W} {N v : Nat} (hF : 9 ≤ F) (hN : w.1 19 0 0 = nI N) (h5 : N ≤ 5) (hv : v < 2) : ∀ (n m : Nat) (set fr x : Int32), cnt (mS w v) x N ≤ m → m < n → ∃ r, f_X8_hears_L10 F w n (nI v) set fr (enc (nxt (mS w v) x N)) = some r ∧ r.1 = hrL N (w.1 19 0 2) (mS w v) m set fr (nxt (mS w v) x N) := by
  intro n
  induction n with
  | zero => intro m set fr x h1 h2; omega
  | succ n ih =>
    intro m set fr x hc hm
    rw [f_X8_hears_L10]
    cases hb : nxt (mS w v) x N with
    | none =>
      rw [if_pos (show enc none = -9 from rfl)]
      refine ⟨_, rfl, ?_⟩
      cases m <;> rfl
    | some g =>
      have q := nxt_spec hb
      have hl := cnt_lt q.2 N q.1
      obtain ⟨m, rfl⟩ : ∃ z, m = z + 1 := ⟨m - 1, by omega⟩
      show ∃ r, (if nI g = -9 then _ else _) = some r ∧ _
      rw [if_neg (enc_ne g (by omega)), show enc (some g) = nI g from rfl, ix9, nx_in (show 9 * v + g < 18 by omega) (by omega), if_pos rfl, if_pos rfl, nx_cl (by omega), mS_g (by omega), nextOf_e F hF hN h5 hv, Option.bind_some]
      unfold hrL
      by_cases hr : mS w v g - fr ≤ w.1 19 0 2
      · rw [if_neg (Int32.not_lt.mpr hr), if_pos hr]
        exact ih m _ _ _ (by omega) (by omega)
      · rw [if_pos (Int32.not_le.mp hr), if_neg hr]
        exact ⟨_, rfl, rfl⟩
theorem hears_e (F : Nat) {w : pm_W} {N v : Nat} (hF : 9 ≤ F) (hN : w.1 19 0 0 = nI N) (h5 : N ≤ 5) (hv : v < 2) : f_X8_hears F w (nI v) = some (hearM N (w.1 19 0 2) (mS w v)) := by
  unfold f_X8_hears
  rw [nextOf_e F hF hN h5 hv, Option.bind_some]
  obtain ⟨r, e1, e2⟩ := hears_L F hF hN h5 hv F N 0 0 (-1) (cnt_le _ _ _) (by omega)
  rw [e1, Option.bind_some, e2]; rfl
