/-! ===== the reference reads ===== -/
theorem setI_self (w : pm_W) (k j f : Nat) : pm_setI w k j f (w.1 k j f) = w := by
  refine W_ext (fun a b c => ?_) rfl
  by_cases h : a = k ∧ b = j ∧ c = f
  · obtain ⟨rfl, rfl, rfl⟩ := h
    rw [pm_gI_s]
  · rw [setI_ne h]
theorem setI_setI (w : pm_W) (k j f : Nat) (x y : Int32) : pm_setI (pm_setI w k j f x) k j f y = pm_setI w k j f y := by
  refine W_ext (fun a b c => ?_) rfl
  by_cases h : a = k ∧ b = j ∧ c = f
  · obtain ⟨rfl, rfl, rfl⟩ := h
    rw [pm_gI_s, pm_gI_s]
  · rw [setI_ne h, setI_ne h, setI_ne h]
theorem m9_in (F : Nat) (w : pm_W) (a b : Nat) (ha : a < 100) : f_X8_in F w ((-9 : Int32).toInt64) (nI a).toInt64 (nI b).toInt64 = some 0 := by
  rw [in_32, if_pos]
  exact Int32.lt_of_lt_of_le (by decide) (Int32.not_lt.mp (nI_pos (n := a) (by omega)))
theorem nf9 {q : Nat} (h : q ≤ 40) : ¬ nI q = -9 := enc_ne q (by omega)
/-- once wrong, nothing is read any more -/
theorem figB (F : Nat) {w : pm_W} {q a b : Nat} (hf : w.1 19 0 18 = nI q) (hq : q ≤ 40) (ha : a < 100) : f_X8_figure F w (nI a) (nI b) = some (nI a, w) := by
  unfold f_X8_figure
  rw [if_neg (by rw [hf]; exact nf9 hq), m9_in F w a b ha, Option.bind_some, if_pos rfl, wlet_e, if_neg (by rw [hf]; exact nf9 hq), setI_self]
theorem leafB (F : Nat) {w : pm_W} {q : Nat} {z : Int32} (hf : w.1 19 0 18 = nI q) (hq : q ≤ 40) : f_X8_leafFigure F w z = some (0, w) := by
  unfold f_X8_leafFigure
  have := m9_in F w 0 9 (by omega)
  rw [show (nI 0).toInt64 = 0 from rfl, show (nI 9).toInt64 = 9 from rfl] at this
  rw [if_neg (by rw [hf]; exact nf9 hq), this, Option.bind_some, if_pos rfl, wlet_e, if_neg (by rw [hf]; exact nf9 hq), setI_self]
theorem in_dg (F : Nat) {w : pm_W} {c : Int32} {a b : Nat} (hb : b ≤ 9) : f_X8_in F w (c - 48).toInt64 (nI a).toInt64 (nI b).toInt64 = some (bi (match dgt c with | none => false | some x => decide (a ≤ x) && decide (x ≤ b))) ∨ 100 ≤ a := by
  by_cases ha : 100 ≤ a
  · exact Or.inr ha
  · refine Or.inl ?_
    rw [in_32]
    cases e : dgt c with
    | none =>
      rcases dgt_none e with h | h
      · rw [if_pos (Int32.lt_of_lt_of_le h (Int32.not_lt.mp (nI_pos (n := a) (by omega))))]; rfl
      · by_cases h2 : c - 48 < nI a
        · rw [if_pos h2]; rfl
        · rw [if_neg h2, if_pos (Int32.lt_of_le_of_lt (show nI b ≤ nI 9 by rw [nx_le (by omega) (by omega)]; exact hb) h)]; rfl
    | some x =>
      obtain ⟨h1, h2⟩ := dgt_some e
      rw [h2]
      show _ = some (bi (decide (a ≤ x) && decide (x ≤ b)))
      by_cases c1 : a ≤ x
      · rw [if_neg (by rw [nx_lt (by omega) (by omega)]; omega), decide_eq_true c1, Bool.true_and]
        by_cases c2 : x ≤ b
        · rw [if_neg (by rw [nx_lt (by omega) (by omega)]; omega), decide_eq_true c2]; rfl
        · rw [if_pos (by rw [nx_lt (by omega) (by omega)]; omega), decide_eq_false c2]; rfl
      · rw [if_pos (by rw [nx_lt (by omega) (by omega)]; omega), decide_eq_false c1, Bool.false_and]; rfl
/-- a figure is read, or here it is wrong -/
theorem figM (F : Nat) {w : pm_W} {n p a b : Nat} (hn : w.1 19 0 16 = nI n) (h40 : n ≤ 40) (hp : w.1 19 0 17 = nI p) (hpn : p ≤ n) (hf : w.1 19 0 18 = -9) (ha : a < 100) (hb : b ≤ 9) :
    (∃ x, tD (w.1 28 0) n p = some x ∧ a ≤ x ∧ x ≤ b ∧ f_X8_figure F w (nI a) (nI b) = some (nI x, pm_setI w 19 0 17 (nI (p + 1)))) ∨ ((∀ x, tD (w.1 28 0) n p = some x → ¬ (a ≤ x ∧ x ≤ b)) ∧ f_X8_figure F w (nI a) (nI b) = some (nI a, pm_setI w 19 0 18 (nI p))) := by
  unfold f_X8_figure tD
  simp only [hf, hn, hp, if_true]
  by_cases c : p < n
  · rw [if_neg (show ¬ nI n ≤ nI p by rw [nx_le (by omega) (by omega)]; omega), nx_in (show p < 40 by omega) (by omega), if_pos rfl, nx_cl (by omega), if_pos c]
    rcases in_dg F (w := w) (c := w.1 28 0 p) (a := a) (b := b) hb with h | h
    · rw [h, Option.bind_some]
      cases e : dgt (w.1 28 0 p) with
      | none =>
        refine Or.inr ⟨fun x hx => (by cases hx), ?_⟩
        rw [if_pos (show bi false = 0 from rfl), wlet_e]
      | some x =>
        obtain ⟨h1, h2⟩ := dgt_some e
        by_cases d : a ≤ x ∧ x ≤ b
        · refine Or.inl ⟨x, rfl, d.1, d.2, ?_⟩
          show (if bi (decide (a ≤ x) && decide (x ≤ b)) = 0 then _ else _) = _
          rw [decide_eq_true d.1, decide_eq_true d.2, if_neg (show ¬ bi (true && true) = 0 by decide), wlet_e, nx_s, h2]
        · refine Or.inr ⟨fun y hy => by cases hy; exact d, ?_⟩
          show (if bi (decide (a ≤ x) && decide (x ≤ b)) = 0 then _ else _) = _
          have : (decide (a ≤ x) && decide (x ≤ b)) = false := by
            rw [← Bool.not_eq_true, Bool.and_eq_true, decide_eq_true_iff, decide_eq_true_iff]; exact d
          rw [this, if_pos (show bi false = 0 from rfl), wlet_e]
    · omega
  · rw [if_pos (show nI n ≤ nI p by rw [nx_le (by omega) (by omega)]; omega), if_neg c, m9_in F w a b ha, Option.bind_some, if_pos rfl, wlet_e]
    exact Or.inr ⟨fun x hx => (by cases hx), rfl⟩
/-- what has been read of the guests -/
def Rd (C : Nat → Int32) (n : Nat) (w : pm_W) (g : Nat) : Prop := w.1 19 0 7 = nI (tL C n) ∧ w.1 19 0 8 = nI (gD C n 3) ∧ w.1 19 0 9 = nI (gD C n 4) ∧ w.1 19 0 10 = nI g ∧ ∀ i, i < g → w.1 24 0 i = nI (tF C n i) ∧ w.1 25 0 i = nI (gD C n (5 + 6 * i + 3)) ∧ w.1 26 0 i = nI (gD C n (5 + 6 * i + 4)) ∧ w.1 27 0 i = nI (gD C n (5 + 6 * i + 5))
theorem freM (F : Nat) {w : pm_W} {C : Nat → Int32} {n g v : Nat} (hF : 9 ≤ F) (R : Rd C n w g) (hg : g ≤ 5) (hv : v < 200) : f_X8_isFree F w (nI v) = some (bi (fre C n g v)) := by
  obtain ⟨r1, r2, r3, r4, r5⟩ := R
  have t99 := tL_99 C n
  have L : ∀ (m k j : Nat), j + m = g → m < k → f_X8_isFree_L10 F w k (nI v) (bi (decide (v < tL C n) && nIn C n v j)) (nI j) = some (bi (fre C n g v), nI g) := by
    intro m
    induction m with
    | zero =>
      intro k j hj hk
      obtain ⟨k, rfl⟩ : ∃ q, k = q + 1 := ⟨k - 1, by omega⟩
      have : j = g := by omega
      subst this
      rw [f_X8_isFree_L10, r4, if_pos (by rw [nx_le (by omega) (by omega)]; omega)]; rfl
    | succ m ih =>
      intro k j hj hk
      obtain ⟨k, rfl⟩ : ∃ q, k = q + 1 := ⟨k - 1, by omega⟩
      have I := ih k (j + 1) (by omega) (by omega)
      have f99 := tF_99 C n j
      rw [f_X8_isFree_L10, r4, if_neg (by rw [nx_le (by omega) (by omega)]; omega), nx_in (show j < 5 by omega) (by omega), if_pos rfl, nx_cl (by omega), (r5 j (by omega)).1, nx_s]
      rw [show nIn C n v (j + 1) = (nIn C n v j && !decide (tF C n j = v)) from rfl, ← Bool.and_assoc] at I
      cases e : (decide (v < tL C n) && nIn C n v j) with
      | false =>
        rw [e, Bool.false_and] at I
        rw [if_pos (show bi false = 0 from rfl)]
        exact I
      | true =>
        rw [e, Bool.true_and] at I
        rw [if_neg (show ¬ bi true = 0 by decide)]
        by_cases d : tF C n j = v
        · rw [if_pos (by rw [d])]
          rw [decide_eq_true d] at I
          exact I
        · rw [if_neg (by rw [nx_eq (by omega) (by omega)]; exact d)]
          rw [decide_eq_false d] at I
          exact I
  unfold f_X8_isFree
  have := L g F 0 (by omega) (by omega)
  rw [show (decide (v < tL C n) && nIn C n v 0) = decide (v < tL C n) by unfold nIn; rw [Bool.and_true], ← leN (a := tL C n) (b := v) (by omega) (by omega), show nI 0 = (0 : Int32) from rfl] at this
  rw [r1, this, Option.bind_some]
  dsimp only
  rw [isb_bi, if_pos rfl]
theorem anFM (F : Nat) {w : pm_W} {C : Nat → Int32} {n g x : Nat} (hF : 12 ≤ F) (R : Rd C n w g) (hg : g ≤ 5) (hx : x ≤ 9) : f_X8_isFreeIn F w (nI x) = some (bi (anF C n g (10 * x) 10)) := by
  have L : ∀ (m k j : Nat), j + m = 10 → m < k → f_X8_isFreeIn_L4 F w k (nI x) (bi (anF C n g (10 * x) j)) (nI j) = some (bi (anF C n g (10 * x) 10), nI 10) := by
    intro m
    induction m with
    | zero =>
      intro k j hj hk
      obtain ⟨k, rfl⟩ : ∃ q, k = q + 1 := ⟨k - 1, by omega⟩
      have : j = 10 := by omega
      subst this
      rw [f_X8_isFreeIn_L4, if_pos (by decide)]
    | succ m ih =>
      intro k j hj hk
      obtain ⟨k, rfl⟩ : ∃ q, k = q + 1 := ⟨k - 1, by omega⟩
      have n10 : ¬ (10 : Int32) ≤ nI j := by rw [show (10 : Int32) = nI 10 from rfl, nx_le (by omega) (by omega)]; omega
      have I := ih k (j + 1) (by omega) (by omega)
      have ev : 10 * nI x + nI j = nI (10 * x + j) := by rw [show (10 : Int32) = nI 10 from rfl, nI_ml, nI_add]
      rw [f_X8_isFreeIn_L4, if_neg n10, ev, freM F (by omega) R hg (by omega), nx_s]
      rw [show anF C n g (10 * x) (j + 1) = (anF C n g (10 * x) j || fre C n g (10 * x + j)) from rfl] at I
      cases e : anF C n g (10 * x) j with
      | true =>
        rw [e, Bool.true_or] at I
        rw [if_neg (show ¬ bi true = 0 by decide)]
        exact I
      | false =>
        rw [e, Bool.false_or] at I
        rw [if_pos (show bi false = 0 from rfl), Option.bind_some]
        cases e2 : fre C n g (10 * x + j) with
        | true => rw [e2] at I; rw [if_neg (show ¬ bi true = 0 by decide)]; exact I
        | false => rw [e2] at I; rw [if_pos (show bi false = 0 from rfl)]; exact I
  unfold f_X8_isFreeIn
  have := L 10 F 0 (by omega) (by omega)
  rw [show bi (anF C n g (10 * x) 0) = (0 : Int32) from rfl, show nI 0 = (0 : Int32) from rfl] at this
  rw [this, Option.bind_some]
  dsimp only
  rw [isb_bi, if_pos rfl]
theorem ifbi (b : Bool) : (if bi b = 0 then 0 else 1 : Int32) = bi b := by cases b <;> rfl
/-- the first figure of a leaf -/
theorem leafM1 (F : Nat) {w : pm_W} {n p g : Nat} (hF : 12 ≤ F) (hn : w.1 19 0 16 = nI n) (h40 : n ≤ 40) (hp : w.1 19 0 17 = nI p) (hpn : p ≤ n) (hf : w.1 19 0 18 = -9) (R : Rd (w.1 28 0) n w g) (hg : g ≤ 5) :
    (∃ x, tD (w.1 28 0) n p = some x ∧ anF (w.1 28 0) n g (10 * x) 10 = true ∧ f_X8_leafFigure F w (-9) = some (nI x, pm_setI w 19 0 17 (nI (p + 1)))) ∨ ((∀ x, tD (w.1 28 0) n p = some x → anF (w.1 28 0) n g (10 * x) 10 = false) ∧ f_X8_leafFigure F w (-9) = some (0, pm_setI w 19 0 18 (nI p))) := by
  unfold f_X8_leafFigure tD
  simp only [hf, hn, hp, if_true]
  by_cases c : p < n
  · rw [if_neg (show ¬ nI n ≤ nI p by rw [nx_le (by omega) (by omega)]; omega), nx_in (show p < 40 by omega) (by omega), if_pos rfl, nx_cl (by omega), if_pos c]
    rcases in_dg F (w := w) (c := w.1 28 0 p) (a := 0) (b := 9) (by omega) with h | h
    · rw [show (nI 0).toInt64 = 0 from rfl, show (nI 9).toInt64 = 9 from rfl] at h
      rw [h, Option.bind_some]
      cases e : dgt (w.1 28 0 p) with
      | none =>
        refine Or.inr ⟨fun x hx => (by cases hx), ?_⟩
        rw [if_pos (show bi false = 0 from rfl), wlet_e]
      | some x =>
        obtain ⟨h1, h2⟩ := dgt_some e
        have e9 : bi (decide (0 ≤ x) && decide (x ≤ 9)) = 1 := by rw [decide_eq_true (Nat.zero_le x), decide_eq_true h1]; rfl
        have q1 : ¬ bi (decide (0 ≤ x) && decide (x ≤ 9)) = 0 := by rw [e9]; decide
        cases d : anF (w.1 28 0) n g (10 * x) 10 with
        | true =>
          refine Or.inl ⟨x, rfl, d, ?_⟩
          show (if bi (decide (0 ≤ x) && decide (x ≤ 9)) = 0 then _ else _) = _
          rw [if_neg q1, h2, anFM F hF R hg h1, Option.bind_some, ifbi, d, if_neg (show ¬ bi true = 0 by decide), wlet_e, nx_s]
        | false =>
          refine Or.inr ⟨fun y hy => by cases hy; exact d, ?_⟩
          show (if bi (decide (0 ≤ x) && decide (x ≤ 9)) = 0 then _ else _) = _
          rw [if_neg q1, h2, anFM F hF R hg h1, Option.bind_some, ifbi, d, if_pos (show bi false = 0 from rfl), wlet_e]
    · omega
  · have m9 := m9_in F w 0 9 (by omega)
    rw [show (nI 0).toInt64 = 0 from rfl, show (nI 9).toInt64 = 9 from rfl] at m9
    rw [if_pos (show nI n ≤ nI p by rw [nx_le (by omega) (by omega)]; omega), if_neg c, m9, Option.bind_some, if_pos rfl, wlet_e]
    exact Or.inr ⟨fun x hx => (by cases hx), rfl⟩
/-- the second figure of a leaf -/
theorem leafM2 (F : Nat) {w : pm_W} {n p g d : Nat} (hF : 12 ≤ F) (hn : w.1 19 0 16 = nI n) (h40 : n ≤ 40) (hp : w.1 19 0 17 = nI p) (hpn : p ≤ n) (hf : w.1 19 0 18 = -9) (R : Rd (w.1 28 0) n w g) (hg : g ≤ 5) (hd : d ≤ 9) :
    (∃ x, tD (w.1 28 0) n p = some x ∧ fre (w.1 28 0) n g (10 * d + x) = true ∧ f_X8_leafFigure F w (nI d) = some (nI x, pm_setI w 19 0 17 (nI (p + 1)))) ∨ ((∀ x, tD (w.1 28 0) n p = some x → fre (w.1 28 0) n g (10 * d + x) = false) ∧ f_X8_leafFigure F w (nI d) = some (0, pm_setI w 19 0 18 (nI p))) := by
  unfold f_X8_leafFigure tD
  simp only [hf, hn, hp, if_true, if_neg (nf9 (q := d) (by omega))]
  by_cases c : p < n
  · rw [if_neg (show ¬ nI n ≤ nI p by rw [nx_le (by omega) (by omega)]; omega), nx_in (show p < 40 by omega) (by omega), if_pos rfl, nx_cl (by omega), if_pos c]
    rcases in_dg F (w := w) (c := w.1 28 0 p) (a := 0) (b := 9) (by omega) with h | h
    · rw [show (nI 0).toInt64 = 0 from rfl, show (nI 9).toInt64 = 9 from rfl] at h
      rw [h, Option.bind_some]
      cases e : dgt (w.1 28 0 p) with
      | none =>
        refine Or.inr ⟨fun x hx => (by cases hx), ?_⟩
        rw [if_pos (show bi false = 0 from rfl), wlet_e]
      | some x =>
        obtain ⟨h1, h2⟩ := dgt_some e
        have e9 : bi (decide (0 ≤ x) && decide (x ≤ 9)) = 1 := by rw [decide_eq_true (Nat.zero_le x), decide_eq_true h1]; rfl
        have q1 : ¬ bi (decide (0 ≤ x) && decide (x ≤ 9)) = 0 := by rw [e9]; decide
        have ev : 10 * nI d + nI x = nI (10 * d + x) := by rw [show (10 : Int32) = nI 10 from rfl, nI_ml, nI_add]
        cases f : fre (w.1 28 0) n g (10 * d + x) with
        | true =>
          refine Or.inl ⟨x, rfl, f, ?_⟩
          show (if bi (decide (0 ≤ x) && decide (x ≤ 9)) = 0 then _ else _) = _
          rw [if_neg q1, h2, ev, freM F (by omega) R hg (by omega), Option.bind_some, ifbi, f, if_neg (show ¬ bi true = 0 by decide), wlet_e, nx_s]
        | false =>
          refine Or.inr ⟨fun y hy => by cases hy; exact f, ?_⟩
          show (if bi (decide (0 ≤ x) && decide (x ≤ 9)) = 0 then _ else _) = _
          rw [if_neg q1, h2, ev, freM F (by omega) R hg (by omega), Option.bind_some, ifbi, f, if_pos (show bi false = 0 from rfl), wlet_e]
    · omega
  · have m9 := m9_in F w 0 9 (by omega)
    rw [show (nI 0).toInt64 = 0 from rfl, show (nI 9).toInt64 = 9 from rfl] at m9
    rw [if_pos (show nI n ≤ nI p by rw [nx_le (by omega) (by omega)]; omega), if_neg c, m9, Option.bind_some, if_pos rfl, wlet_e]
    exact Or.inr ⟨fun x hx => (by cases hx), rfl⟩
