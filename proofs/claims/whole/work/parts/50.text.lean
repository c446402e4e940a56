/-! ===== the text: where it is no table ===== -/
/-- the figure a letter stands for -/
def dgt (c : Int32) : Option Nat := if c - 48 < 0 then none else if 9 < c - 48 then none else some (c - 48).toNatClampNeg
theorem dgt_some {c : Int32} {x : Nat} (h : dgt c = some x) : x ≤ 9 ∧ c - 48 = nI x := by
  unfold dgt at h
  by_cases h1 : c - 48 < 0
  · rw [if_pos h1] at h; cases h
  · rw [if_neg h1] at h
    by_cases h2 : 9 < c - 48
    · rw [if_pos h2] at h; cases h
    · rw [if_neg h2] at h
      obtain ⟨m, hm, e⟩ := nI_gt h1
      rw [e, nx_cl hm] at h
      cases h
      rw [e, show (9 : Int32) = nI 9 from rfl, nx_lt (by omega) hm] at h2
      exact ⟨by omega, e⟩
theorem dgt_none {c : Int32} (h : dgt c = none) : c - 48 < 0 ∨ 9 < c - 48 := by
  unfold dgt at h
  by_cases h1 : c - 48 < 0
  · exact Or.inl h1
  · rw [if_neg h1] at h
    by_cases h2 : 9 < c - 48
    · exact Or.inr h2
    · rw [if_neg h2] at h; cases h
/-- the figure at a place of a text of n letters -/
def tD (C : Nat → Int32) (n k : Nat) : Option Nat := if k < n then dgt (C k) else none
def tE : Option Nat → Int32
  | none => -1
  | some x => nI x
theorem tD_9 {C : Nat → Int32} {n k x : Nat} (h : tD C n k = some x) : x ≤ 9 ∧ k < n := by
  unfold tD at h
  by_cases c : k < n
  · rw [if_pos c] at h
    exact ⟨(dgt_some h).1, c⟩
  · rw [if_neg c] at h; cases h
def gD (C : Nat → Int32) (n k : Nat) : Nat := (tD C n k).getD 0
theorem gD_9 (C : Nat → Int32) (n k : Nat) : gD C n k ≤ 9 := by
  unfold gD
  cases h : tD C n k with
  | none => exact Nat.zero_le _
  | some x => exact (tD_9 h).1
def tL (C : Nat → Int32) (n : Nat) : Nat := 10 * gD C n 1 + gD C n 2
def tF (C : Nat → Int32) (n i : Nat) : Nat := 10 * gD C n (5 + 6 * i + 1) + gD C n (5 + 6 * i + 2)
theorem tL_99 (C : Nat → Int32) (n : Nat) : tL C n ≤ 99 := by
  have := gD_9 C n 1
  have := gD_9 C n 2
  unfold tL; omega
theorem tF_99 (C : Nat → Int32) (n i : Nat) : tF C n i ≤ 99 := by
  have := gD_9 C n (5 + 6 * i + 1)
  have := gD_9 C n (5 + 6 * i + 2)
  unfold tF; omega
def nIn (C : Nat → Int32) (n v : Nat) : Nat → Bool
  | 0 => true
  | i + 1 => nIn C n v i && !decide (tF C n i = v)
def fre (C : Nat → Int32) (n g v : Nat) : Bool := decide (v < tL C n) && nIn C n v g
def anF (C : Nat → Int32) (n g v : Nat) : Nat → Bool
  | 0 => false
  | i + 1 => anF C n g v i || fre C n g (v + i)
theorem nIn_t {C : Nat → Int32} {n v : Nat} : ∀ {g i : Nat}, nIn C n v g = true → i < g → tF C n i ≠ v
  | 0, i, _, hi => by omega
  | g + 1, i, h, hi => by
    unfold nIn at h
    rw [Bool.and_eq_true] at h
    by_cases e : i = g
    · subst e
      intro z
      rw [decide_eq_true z] at h
      exact absurd h.2 (by decide)
    · exact nIn_t h.1 (by omega)
theorem anF_t {C : Nat → Int32} {n g v : Nat} : ∀ {m i : Nat}, fre C n g (v + i) = true → i < m → anF C n g v m = true
  | 0, i, _, hi => by omega
  | m + 1, i, h, hi => by
    unfold anF
    by_cases e : i = m
    · subst e; rw [h, Bool.or_true]
    · rw [anF_t h (by omega), Bool.true_or]
/-- whether the letter at a place fits, all ahead of it fitting -/
def fitH (C : Nat → Int32) (n k : Nat) : Bool :=
  if k = 0 then decide (C 0 = 84) else match tD C n k with
    | none => false
    | some x => if k = 1 then decide (x ≤ 3) else if k = 2 then decide (1 ≤ 10 * gD C n 1 + x) && decide (10 * gD C n 1 + x ≤ 30) else decide (1 ≤ x)
def fitG (C : Nat → Int32) (n g r : Nat) : Bool :=
  if r = 0 then decide (C (5 + 6 * g) = 71) && (decide (g < 5) && decide (g < tL C n)) else match tD C n (5 + 6 * g + r) with
    | none => false
    | some x => if r = 1 then anF C n g (10 * x) 10 else if r = 2 then fre C n g (10 * gD C n (5 + 6 * g + 1) + x) else if r = 4 then true else decide (x ≤ 3)
def fit (C : Nat → Int32) (n k : Nat) : Bool := if k < 5 then fitH C n k else fitG C n ((k - 5) / 6) ((k - 5) % 6)
def whl (n : Nat) : Prop := 5 ≤ n ∧ (n - 5) % 6 = 0
/-- where the first fault is -/
def ffs (C : Nat → Int32) (n : Nat) : Nat → Nat → Int32
  | 0, _ => if n < 5 then nI n else if (n - 5) % 6 = 0 then -9 else nI n
  | m + 1, k => if fit C n k = true then ffs C n m (k + 1) else nI k
def AF (C : Nat → Int32) (n k : Nat) : Prop := ∀ j, j < k → fit C n j = true
theorem AF.d {C : Nat → Int32} {n k j : Nat} (h : AF C n k) (hj : j < k) (h0 : j ≠ 0) (h5 : 5 ≤ j → (j - 5) % 6 ≠ 0) : tD C n j = some (gD C n j) := by
  have f := h j hj
  unfold fit at f
  unfold gD
  by_cases c : j < 5
  · rw [if_pos c] at f
    unfold fitH at f
    rw [if_neg h0] at f
    cases e : tD C n j with
    | none => rw [e] at f; cases f
    | some x => rfl
  · rw [if_neg c] at f
    unfold fitG at f
    rw [if_neg (h5 (by omega)), show 5 + 6 * ((j - 5) / 6) + (j - 5) % 6 = j by omega] at f
    cases e : tD C n j with
    | none => rw [e] at f; cases f
    | some x => rfl
theorem told_e (F : Nat) {w : pm_W} {n : Nat} (hn : w.1 1 0 1 = nI n) (h40 : n ≤ 40) {k : Nat} (hk : k < 1000) : f_X6_figureTold F w (nI k) = some (tE (tD (w.1 2 0) n k)) := by
  unfold f_X6_figureTold tD
  rw [if_neg (nI_pos (by omega)), hn]
  by_cases c : k < n
  · rw [if_neg (by rw [nx_le (by omega) (by omega)]; omega), if_pos c, show (40 : Int32) = nI 40 from rfl, if_pos (by rw [nx_lt (by omega) (by omega)]; omega), nx_in (show k < 40 by omega) (by omega), if_pos rfl, nx_cl (by omega)]
    cases e : dgt (w.1 2 0 k) with
    | some x =>
      obtain ⟨h1, h2⟩ := dgt_some e
      rw [h2, if_neg (nI_pos (by omega)), show (9 : Int32) = nI 9 from rfl, if_neg (by rw [nx_lt (by omega) (by omega)]; omega)]; rfl
    | none =>
      rcases dgt_none e with h | h
      · rw [if_pos h]; rfl
      · by_cases h0 : w.1 2 0 k - 48 < 0
        · rw [if_pos h0]; rfl
        · rw [if_neg h0, if_pos h]; rfl
  · rw [if_pos (by rw [nx_le (by omega) (by omega)]; omega), if_neg c]; rfl
theorem lenT_e (F : Nat) {w : pm_W} {n : Nat} (hn : w.1 1 0 1 = nI n) (h40 : n ≤ 40) (h1 : tD (w.1 2 0) n 1 = some (gD (w.1 2 0) n 1)) (h2 : tD (w.1 2 0) n 2 = some (gD (w.1 2 0) n 2)) : f_X6_lengthTold F w = some (nI (tL (w.1 2 0) n)) := by
  unfold f_X6_lengthTold
  have a := told_e F hn h40 (k := 1) (by omega)
  have b := told_e F hn h40 (k := 2) (by omega)
  rw [show nI 1 = (1 : Int32) from rfl, h1] at a
  rw [show nI 2 = (2 : Int32) from rfl, h2] at b
  rw [a, Option.bind_some, b, Option.bind_some]
  show some (10 * nI (gD (w.1 2 0) n 1) + nI (gD (w.1 2 0) n 2)) = _
  rw [show (10 : Int32) = nI 10 from rfl, nI_ml, nI_add]; rfl
theorem leafT_e (F : Nat) {w : pm_W} {n i : Nat} (hn : w.1 1 0 1 = nI n) (h40 : n ≤ 40) (hi : i < 100) (h1 : tD (w.1 2 0) n (5 + 6 * i + 1) = some (gD (w.1 2 0) n (5 + 6 * i + 1))) (h2 : tD (w.1 2 0) n (5 + 6 * i + 2) = some (gD (w.1 2 0) n (5 + 6 * i + 2))) : f_X6_leafTold F w (nI i) = some (nI (tF (w.1 2 0) n i)) := by
  unfold f_X6_leafTold
  have a := told_e F hn h40 (k := 5 + 6 * i + 1) (by omega)
  have b := told_e F hn h40 (k := 5 + 6 * i + 2) (by omega)
  rw [h1] at a
  rw [h2] at b
  have e1 : 5 + 6 * nI i + 1 = nI (5 + 6 * i + 1) := by
    rw [show (5 : Int32) = nI 5 from rfl, show (6 : Int32) = nI 6 from rfl, nI_ml, nI_add, nx_s]
  rw [e1, a, Option.bind_some, nx_s, b, Option.bind_some]
  show some (10 * nI (gD (w.1 2 0) n (5 + 6 * i + 1)) + nI (gD (w.1 2 0) n (5 + 6 * i + 2))) = _
  rw [show (10 : Int32) = nI 10 from rfl, nI_ml, nI_add]; rfl
/-- the class: is a leaf free -/
theorem freC (F : Nat) {w : pm_W} {n g v : Nat} (hF : 9 ≤ F) (hn : w.1 1 0 1 = nI n) (h40 : n ≤ 40) (hg : g < 6) (hv : v < 200) (A : AF (w.1 2 0) n (5 + 6 * g)) : f_X6_isFree F w (nI g) (nI v) = some (bi (fre (w.1 2 0) n g v)) := by
  unfold f_X6_isFree
  have t99 := tL_99 (w.1 2 0) n
  rw [lenT_e F hn h40 (A.d (by omega) (by omega) (by omega)) (A.d (by omega) (by omega) (by omega)), Option.bind_some]
  unfold fre
  by_cases c : v < tL (w.1 2 0) n
  · rw [if_pos (by rw [nx_lt (by omega) (by omega)]; exact c), decide_eq_true c, Bool.true_and]
    have L : ∀ (m k j : Nat), j + m = g → m < k → nIn (w.1 2 0) n v j = true → ((f_X6_isFree_L8 F w k (nI g) (nI v) (nI j)).bind fun x8 => Sum.elim (fun ex8 => some 1) (fun rx8 => some rx8) x8) = some (bi (nIn (w.1 2 0) n v g)) := by
      intro m
      induction m with
      | zero =>
        intro k j hj hk ho
        obtain ⟨k, rfl⟩ : ∃ q, k = q + 1 := ⟨k - 1, by omega⟩
        have : j = g := by omega
        subst this
        rw [f_X6_isFree_L8, if_pos (by rw [nx_le (by omega) (by omega)]; omega), ho]; rfl
      | succ m ih =>
        intro k j hj hk ho
        obtain ⟨k, rfl⟩ : ∃ q, k = q + 1 := ⟨k - 1, by omega⟩
        have f99 := tF_99 (w.1 2 0) n j
        rw [f_X6_isFree_L8, if_neg (by rw [nx_le (by omega) (by omega)]; omega), leafT_e F hn h40 (by omega) (A.d (by omega) (by omega) (by omega)) (A.d (by omega) (by omega) (by omega)), Option.bind_some, nx_s]
        by_cases e : tF (w.1 2 0) n j = v
        · rw [if_pos (by rw [e])]
          have : nIn (w.1 2 0) n v g = false := by
            rw [← Bool.not_eq_true]
            exact fun z => nIn_t z (i := j) (by omega) e
          rw [this]; rfl
        · rw [if_neg (by rw [nx_eq (by omega) (by omega)]; exact e)]
          exact ih k (j + 1) (by omega) (by omega) (by unfold nIn; rw [ho, decide_eq_false e]; rfl)
    have := L g F 0 (by omega) (by omega) rfl
    rw [show nI 0 = (0 : Int32) from rfl] at this
    exact this
  · rw [if_neg (by rw [nx_lt (by omega) (by omega)]; exact c), decide_eq_false c, Bool.false_and]; rfl
theorem anFC (F : Nat) {w : pm_W} {n g v : Nat} (hF : 12 ≤ F) (hn : w.1 1 0 1 = nI n) (h40 : n ≤ 40) (hg : g < 6) (hv : v < 100) (A : AF (w.1 2 0) n (5 + 6 * g)) : f_X6_isAnyFree F w (nI g) (nI v) = some (bi (anF (w.1 2 0) n g v 10)) := by
  unfold f_X6_isAnyFree
  have L : ∀ (m k j : Nat), j + m = 10 → m < k → anF (w.1 2 0) n g v j = false → ((f_X6_isAnyFree_L2 F w k (nI g) (nI v) (nI j)).bind fun x5 => Sum.elim (fun ex5 => some 0) (fun rx5 => some rx5) x5) = some (bi (anF (w.1 2 0) n g v 10)) := by
    intro m
    induction m with
    | zero =>
      intro k j hj hk ho
      obtain ⟨k, rfl⟩ : ∃ q, k = q + 1 := ⟨k - 1, by omega⟩
      have : j = 10 := by omega
      subst this
      rw [f_X6_isAnyFree_L2, if_pos (by decide), ho]; rfl
    | succ m ih =>
      intro k j hj hk ho
      obtain ⟨k, rfl⟩ : ∃ q, k = q + 1 := ⟨k - 1, by omega⟩
      have n10 : ¬ (10 : Int32) ≤ nI j := by rw [show (10 : Int32) = nI 10 from rfl, nx_le (by omega) (by omega)]; omega
      rw [f_X6_isAnyFree_L2, if_neg n10, nI_add, freC F (by omega) hn h40 hg (by omega) A, Option.bind_some, nx_s]
      cases e : fre (w.1 2 0) n g (v + j) with
      | true =>
        rw [if_neg (show ¬ bi true = 0 by decide), anF_t e (by omega)]; rfl
      | false =>
        rw [if_pos (show bi false = 0 from rfl)]
        exact ih k (j + 1) (by omega) (by omega) (by unfold anF; rw [ho, e]; rfl)
  have := L 10 F 0 (by omega) (by omega) rfl
  rw [show nI 0 = (0 : Int32) from rfl] at this
  exact this
