/-! ===== laws: how many, the first, where all agree ===== -/
def wL (w : pm_W) (c f s : Int32) : pm_W := rowP w 13 0 (fun k => if k = 3 then c else if k = 4 then f else if k = 5 then s else w.1 13 0 k)
theorem wL_o {w : pm_W} {c f s : Int32} {a b : Nat} (h : a ≠ 13) : (wL w c f s).1 a b = w.1 a b := rowP_a h
theorem wL_2 {w : pm_W} {c f s : Int32} : (wL w c f s).1 13 0 2 = w.1 13 0 2 := by unfold wL; rw [rowP_s]; rfl
theorem wL_3 {w : pm_W} {c f s : Int32} : (wL w c f s).1 13 0 3 = c := by unfold wL; rw [rowP_s]; rfl
theorem wL_4 {w : pm_W} {c f s : Int32} : (wL w c f s).1 13 0 4 = f := by unfold wL; rw [rowP_s]; rfl
theorem wL_5 {w : pm_W} {c f s : Int32} : (wL w c f s).1 13 0 5 = s := by unfold wL; rw [rowP_s]; rfl
theorem wL_s3 {w : pm_W} {c f s x : Int32} : pm_setI (wL w c f s) 13 0 3 x = wL w x f s := by
  unfold wL
  rw [set_rowP]
  refine rowP_congr fun k => ?_
  unfold upd
  by_cases h : k = 3
  · simp [h]
  · simp [h]
theorem wL_s4 {w : pm_W} {c f s x : Int32} : pm_setI (wL w c f s) 13 0 4 x = wL w c x s := by
  unfold wL
  rw [set_rowP]
  refine rowP_congr fun k => ?_
  unfold upd
  by_cases h : k = 4
  · simp [h]
  · simp [h]
theorem wL_s5 {w : pm_W} {c f s x : Int32} : pm_setI (wL w c f s) 13 0 5 x = wL w c f x := by
  unfold wL
  rw [set_rowP]
  refine rowP_congr fun k => ?_
  unfold upd
  by_cases h : k = 5
  · simp [h]
  · simp [h]
theorem wL_self (w : pm_W) : wL w (w.1 13 0 3) (w.1 13 0 4) (w.1 13 0 5) = w := by
  unfold wL
  conv => rhs; rw [← rowP_self w 13 0]
  refine rowP_congr fun k => ?_
  by_cases h3 : k = 3
  · rw [if_pos h3, h3]
  · rw [if_neg h3]
    by_cases h4 : k = 4
    · rw [if_pos h4, h4]
    · rw [if_neg h4]
      by_cases h5 : k = 5
      · rw [if_pos h5, h5]
      · rw [if_neg h5]
theorem Fr_wL {w : pm_W} {c f s : Int32} : Fr w (wL w c f s) := by
  refine ⟨fun a b k h => ?_, rfl⟩
  unfold sFr at h
  unfold wL rowP
  by_cases e : a = 13 ∧ b = 0
  · obtain ⟨rfl, rfl⟩ := e
    simp only [and_self, if_true]
    rw [if_neg (by omega), if_neg (by omega), if_neg (by omega)]
  · simp only [if_neg e]
/-- which kinds agree with the first law's -/
def smS (l f : Nat) : Nat → Int32 → Int32
  | 0, s => s
  | m + 1, s => smS l f m (if dgL l (3 - m) = dgL f (3 - m) then s else s &&& ((1 <<< (nI (3 - m) &&& 31)) ^^^ (-1)))
theorem smS_15 {l f : Nat} : ∀ (m : Nat) (s : Int32), s &&& 15 = s → smS l f m s &&& 15 = smS l f m s
  | 0, s, h => h
  | m + 1, s, h => by
    unfold smS
    split
    · exact smS_15 m s h
    · refine smS_15 m _ ?_
      rw [Int32.and_assoc, Int32.and_comm _ 15, ← Int32.and_assoc, h]
theorem smS_c (F : Nat) {w : pm_W} {l f : Nat} {c : Int32} : ∀ (m n j : Nat) (s : Int32), j + m = 4 → m < n → f_X2_takeLaw_L17 F n (wL w c (nI (fgs f)) s) (nI (fgs l)) (nI j) = some (nI 4, wL w c (nI (fgs f)) (smS l f m s)) := by
  intro m
  induction m with
  | zero =>
    intro n j s hj hn
    obtain ⟨n, rfl⟩ : ∃ k, n = k + 1 := ⟨n - 1, by omega⟩
    have : j = 4 := by omega
    subst this
    rw [f_X2_takeLaw_L17, if_pos (by decide)]; rfl
  | succ m ih =>
    intro n j s hj hn
    obtain ⟨n, rfl⟩ : ∃ k, n = k + 1 := ⟨n - 1, by omega⟩
    have hj' : j = 3 - m := by omega
    have fc := fun r : Int32 => fig_c F (w := wL w c (nI (fgs f)) s) (M := 4) (k := j) (r := r) (by omega) (by omega)
    rw [show nI 4 = (4 : Int32) from rfl] at fc
    have l1 := dgL_lt l j
    have l2 := dgL_lt f j
    rw [f_X2_takeLaw_L17, if_neg (n4 (by omega)), fc, Option.bind_some, fc, Option.bind_some, wL_4, fgs_fig (by omega), fgs_fig (by omega), wlet_e, wL_5, wL_s5, nx_s]
    unfold smS
    rw [← hj']
    by_cases e : dgL l j = dgL f j
    · rw [if_pos (by rw [e]), if_pos e]
      exact ih n (j + 1) s (by omega) (by omega)
    · rw [if_neg (by rw [nx_eq (by omega) (by omega)]; exact e), if_neg e]
      exact ih n (j + 1) _ (by omega) (by omega)
theorem smS_m (F : Nat) {w : pm_W} {l f : Nat} {z1 z2 : Int32} (hF : 101 ≤ F) (hl : l < 256) (hf : f < 256) : ∀ (m n j : Nat) (s : Int32), j + m = 4 → m < n → s &&& 15 = s → f_X8_laws_L31 F w n z1 z2 (nI f) s (nI l) (nI j) = some (smS l f m s, nI 4) := by
  intro m
  induction m with
  | zero =>
    intro n j s hj hn hs
    obtain ⟨n, rfl⟩ : ∃ k, n = k + 1 := ⟨n - 1, by omega⟩
    have : j = 4 := by omega
    subst this
    rw [f_X8_laws_L31, if_pos (by decide)]; rfl
  | succ m ih =>
    intro n j s hj hn hs
    obtain ⟨n, rfl⟩ : ∃ k, n = k + 1 := ⟨n - 1, by omega⟩
    have hj' : j = 3 - m := by omega
    have l1 := dgL_lt l j
    have l2 := dgL_lt f j
    rw [f_X8_laws_L31, if_neg (n4 (by omega)), chgOf_e F hF hl (by omega), Option.bind_some, chgOf_e F hF hf (by omega), Option.bind_some, nx_s]
    unfold smS
    rw [← hj']
    by_cases e : dgL l j = dgL f j
    · rw [if_pos (by rw [e]), if_pos e, hs]
      exact ih n (j + 1) s (by omega) (by omega) hs
    · rw [if_neg (fun z => e ?_), if_neg e]
      · refine ih n (j + 1) _ (by omega) (by omega) ?_
        rw [Int32.and_assoc, Int32.and_comm _ 15, ← Int32.and_assoc, hs]
      · have : nI (dgL l j) = nI (dgL f j) := by
          have := congrArg (· + 1) z
          simpa using this
        rw [nx_eq (by omega) (by omega)] at this
        exact this
def lwS (ho : Nat → Bool) : Nat → Nat × Nat × Int32
  | 0 => (0, 0, 15)
  | l + 1 => if ho l = true then ((lwS ho l).1 + 1, (if (lwS ho l).1 = 0 then l else (lwS ho l).2.1), smS l (if (lwS ho l).1 = 0 then l else (lwS ho l).2.1) 4 (lwS ho l).2.2) else lwS ho l
theorem lwS_inv (ho : Nat → Bool) : ∀ l, (lwS ho l).1 ≤ l ∧ ((lwS ho l).1 = 0 → (lwS ho l).2 = (0, 15)) ∧ (1 ≤ l → (lwS ho l).2.1 < l) ∧ (lwS ho l).2.2 &&& 15 = (lwS ho l).2.2
  | 0 => ⟨Nat.le_refl _, fun _ => rfl, fun h => by omega, (by decide : (15 : Int32) &&& 15 = 15)⟩
  | l + 1 => by
    obtain ⟨h1, h2, h3, h4⟩ := lwS_inv ho l
    unfold lwS
    by_cases c : ho l = true
    · rw [if_pos c]
      refine ⟨by dsimp only; omega, fun z => by dsimp only at z; omega, fun _ => ?_, smS_15 _ _ h4⟩
      dsimp only
      split
      · omega
      · rename_i z
        have : 1 ≤ l := by
          by_cases hl : l = 0
          · subst hl; exact absurd rfl z
          · omega
        have := h3 this
        omega
    · rw [if_neg c]
      refine ⟨by omega, h2, fun _ => ?_, h4⟩
      by_cases hl : l = 0
      · subst hl; exact Nat.zero_lt_one
      · have := h3 (by omega); omega
def eF (q : Nat × Nat × Int32) : Int32 := if q.1 = 0 then -9 else nI (fgs q.2.1)
def eS (q : Nat × Nat × Int32) : Int32 := if q.1 = 0 then -9 else q.2.2
theorem lw_c (F : Nat) {w : pm_W} {D : Nat} (hF : 101 ≤ F) (hN : w.1 13 0 2 = nI D) (hD : D ≤ 6) : ∀ (m n l : Nat), l + m = 256 → m < n → f_X2_findLaws_L11 F n (wL w (nI (lwS (fun l => holL (w.1 14 0) (w.1 15 0) l D) l).1) (eF (lwS (fun l => holL (w.1 14 0) (w.1 15 0) l D) l)) (eS (lwS (fun l => holL (w.1 14 0) (w.1 15 0) l D) l))) (nI l) = some (nI 256, wL w (nI (lwS (fun l => holL (w.1 14 0) (w.1 15 0) l D) 256).1) (eF (lwS (fun l => holL (w.1 14 0) (w.1 15 0) l D) 256)) (eS (lwS (fun l => holL (w.1 14 0) (w.1 15 0) l D) 256))) := by
  intro m
  induction m with
  | zero =>
    intro n l hj hn
    obtain ⟨n, rfl⟩ : ∃ k, n = k + 1 := ⟨n - 1, by omega⟩
    have : l = 256 := by omega
    subst this
    rw [f_X2_findLaws_L11, if_pos (by decide)]
  | succ m ih =>
    intro n l hj hn
    obtain ⟨n, rfl⟩ : ∃ k, n = k + 1 := ⟨n - 1, by omega⟩
    have I := ih n (l + 1) (by omega) (by omega)
    obtain ⟨v1, v2, v3, v4⟩ := lwS_inv (fun l => holL (w.1 14 0) (w.1 15 0) l D) l
    have n256 : ¬ (256 : Int32) ≤ nI l := by rw [show (256 : Int32) = nI 256 from rfl, nx_le (by omega) (by omega)]; omega
    have ho := fun (c f s : Int32) => holds_e F (w := wL w c f s) (l := l) (D := D) (by omega) (by rw [wL_2]; exact hN) hD
    rw [f_X2_findLaws_L11, if_neg n256, figs_e F (by omega) (by omega), Option.bind_some, ho, Option.bind_some, wL_o (by decide), wL_o (by decide), nx_s]
    rw [show lwS (fun l => holL (w.1 14 0) (w.1 15 0) l D) (l + 1) = _ from rfl] at I
    generalize hq : lwS (fun l => holL (w.1 14 0) (w.1 15 0) l D) l = q at I v1 v2 v3 v4 ⊢
    generalize lwS (fun l => holL (w.1 14 0) (w.1 15 0) l D) 256 = Q at I ⊢
    have eN : lwS (fun l => holL (w.1 14 0) (w.1 15 0) l D) (l + 1) = if holL (w.1 14 0) (w.1 15 0) l D = true then (q.1 + 1, (if q.1 = 0 then l else q.2.1), smS l (if q.1 = 0 then l else q.2.1) 4 q.2.2) else q := by
      conv => lhs; unfold lwS
      rw [hq]
    rw [eN] at I
    cases hh : holL (w.1 14 0) (w.1 15 0) l D with
    | false =>
      rw [hh, if_neg (by decide)] at I
      rw [if_pos (show bi false = 0 from rfl)]
      exact I
    | true =>
      rw [hh, if_pos rfl] at I
      rw [if_neg (show ¬ bi true = 0 by decide)]
      unfold f_X2_takeLaw
      simp only [wlet_e, wL_3, wL_s4, wL_s5, wL_s3]
      obtain ⟨c, f, s⟩ := q
      dsimp only at v1 v2 v3 v4 I ⊢
      by_cases c0 : c = 0
      · have e := v2 c0
        cases e
        subst c0
        have sc := smS_c F (w := w) (l := l) (f := l) (c := nI 1) 4 F 0 15 (by omega) (by omega)
        rw [show nI 0 = (0 : Int32) from rfl] at sc
        rw [if_pos (show nI 0 = 0 from rfl), show nI 0 + 1 = nI 1 from rfl, sc, Option.bind_some, Option.bind_some]
        exact I
      · rw [if_neg (by rw [show (0 : Int32) = nI 0 from rfl, nx_eq (by omega) (by omega)]; exact c0), nx_s]
        rw [if_neg c0] at I
        have sc := smS_c F (w := w) (l := l) (f := f) (c := nI (c + 1)) 4 F 0 s (by omega) (by omega)
        rw [show nI 0 = (0 : Int32) from rfl] at sc
        rw [show eF (c, f, s) = nI (fgs f) from if_neg c0, show eS (c, f, s) = s from if_neg c0, sc, Option.bind_some, Option.bind_some]
        exact I
theorem lw_m (F : Nat) {w : pm_W} {D : Nat} {z : Int32} (hF : 101 ≤ F) (hN : w.1 19 0 24 = nI D) (hD : D ≤ 6) : ∀ (m n l : Nat), l + m = 256 → m < n → f_X8_laws_L16 F w n z (nI (lwS (fun l => holL (w.1 31 0) (w.1 32 0) l D) l).1) (nI (lwS (fun l => holL (w.1 31 0) (w.1 32 0) l D) l).2.1) (lwS (fun l => holL (w.1 31 0) (w.1 32 0) l D) l).2.2 (nI l) = some (nI (lwS (fun l => holL (w.1 31 0) (w.1 32 0) l D) 256).1, nI (lwS (fun l => holL (w.1 31 0) (w.1 32 0) l D) 256).2.1, (lwS (fun l => holL (w.1 31 0) (w.1 32 0) l D) 256).2.2, nI 256) := by
  intro m
  induction m with
  | zero =>
    intro n l hj hn
    obtain ⟨n, rfl⟩ : ∃ k, n = k + 1 := ⟨n - 1, by omega⟩
    have : l = 256 := by omega
    subst this
    rw [f_X8_laws_L16, if_pos (by decide)]
  | succ m ih =>
    intro n l hj hn
    obtain ⟨n, rfl⟩ : ∃ k, n = k + 1 := ⟨n - 1, by omega⟩
    have I := ih n (l + 1) (by omega) (by omega)
    obtain ⟨v1, v2, v3, v4⟩ := lwS_inv (fun l => holL (w.1 31 0) (w.1 32 0) l D) l
    have n256 : ¬ (256 : Int32) ≤ nI l := by rw [show (256 : Int32) = nI 256 from rfl, nx_le (by omega) (by omega)]; omega
    rw [f_X8_laws_L16, if_neg n256, isLaw_e F hF (by omega) hN hD, Option.bind_some, nx_s]
    generalize hq : lwS (fun l => holL (w.1 31 0) (w.1 32 0) l D) l = q at v1 v2 v3 v4 ⊢
    have eN : lwS (fun l => holL (w.1 31 0) (w.1 32 0) l D) (l + 1) = if holL (w.1 31 0) (w.1 32 0) l D = true then (q.1 + 1, (if q.1 = 0 then l else q.2.1), smS l (if q.1 = 0 then l else q.2.1) 4 q.2.2) else q := by
      conv => lhs; unfold lwS
      rw [hq]
    rw [eN] at I
    generalize lwS (fun l => holL (w.1 31 0) (w.1 32 0) l D) 256 = Q at I ⊢
    cases hh : holL (w.1 31 0) (w.1 32 0) l D with
    | false =>
      rw [hh, if_neg (by decide)] at I
      rw [if_pos (show bi false = 0 from rfl)]
      exact I
    | true =>
      rw [hh, if_pos rfl] at I
      rw [if_neg (show ¬ bi true = 0 by decide)]
      obtain ⟨c, f, s⟩ := q
      dsimp only at v1 v2 v3 v4 I ⊢
      have ef : (if nI c = 0 then nI l else nI f) = nI (if c = 0 then l else f) := by
        by_cases c0 : c = 0
        · rw [if_pos c0, c0]; rfl
        · rw [if_neg c0, if_neg (by rw [show (0 : Int32) = nI 0 from rfl, nx_eq (by omega) (by omega)]; exact c0)]
      have hf : (if c = 0 then l else f) < 256 := by
        split
        · omega
        · have : 1 ≤ l := by omega
          have := v3 this
          omega
      rw [ef, nx_s]
      have sm := smS_m F (w := w) (l := l) (z1 := z) (z2 := nI c) hF (by omega) hf 4 F 0 s (by omega) (by omega) v4
      rw [show nI 0 = (0 : Int32) from rfl] at sm
      rw [sm, Option.bind_some]
      exact I
theorem fl_m (F : Nat) {w : pm_W} {f : Nat} {z1 z2 z3 : Int32} (hF : 101 ≤ F) (hf : f < 256) : ∃ y, f_X8_laws_L60 F w F z1 z2 (nI f) z3 0 0 = some (nI (fgs f), y) := by
  have st : ∀ (n a k : Nat), k < 4 → f_X8_laws_L60 F w (n + 1) z1 z2 (nI f) z3 (nI a) (nI k) = f_X8_laws_L60 F w n z1 z2 (nI f) z3 (nI (10 * a + dgL f k)) (nI (k + 1)) := by
    intro n a k hk
    rw [f_X8_laws_L60, if_neg (n4 hk), chgOf_e F hF hf hk, Option.bind_some, nx_s, show (10 : Int32) = nI 10 from rfl, nI_ml]
    congr 1
    rw [← nI_add, Int32.add_assoc, Int32.sub_add_cancel]
  obtain ⟨n, rfl⟩ : ∃ m, F = m + 5 := ⟨F - 5, by omega⟩
  rw [show (0 : Int32) = nI 0 from rfl, st _ _ _ (by omega), st _ _ _ (by omega), st _ _ _ (by omega), st _ _ _ (by omega), f_X8_laws_L60, if_pos (by decide)]
  refine ⟨_, congrArg some (Prod.ext (congrArg nI ?_) rfl)⟩
  show 10 * (10 * (10 * (10 * 0 + f / 64 % 4) + f / 16 % 4) + f / 4 % 4) + f / 1 % 4 = fgs f
  unfold fgs
  rw [Nat.div_one]
  omega
theorem k_laws (F : Nat) (hF : 300 ≤ F) {w : pm_W} (H : Rel w) (x : Int32) : ∃ r w1 w2, f_X7_laws F w x = some (r, w1) ∧ (f_X8_laws F w1 x = some r ∧ w2 = w1) ∧ Rel w2 := by
  have H0 := H
  unfold f_X7_laws f_X8_laws
  have q1 : ¬ (1 : Int32) = 0 := by decide
  obtain ⟨n, N, A, X, D, HP⟩ := H
  have H1 := HP
  obtain ⟨h1, hb, h3, h4, h5, h6, h7⟩ := H1
  obtain ⟨d1, d2, d3, d4⟩ := h6
  simp only [in_lit F _ x (lo := 0) (hi := 2) 0 2 rfl rfl, Option.bind_some]
  by_cases c1 : x < 0
  · exact ⟨-2, w, w, by rw [if_pos c1], ⟨by rw [if_pos c1, if_pos rfl], rfl⟩, H0⟩
  by_cases c2 : x ≤ 2
  · have c3 : ¬ 2 < x := Int32.not_lt.mpr c2
    simp only [c1, c2, c3, if_false, if_true, q1]
    unfold f_X2_findLaws
    have C := lw_c F (w := w) (by omega) d2 d1 256 F 0 (by omega) (by omega)
    rw [show nI 0 = (0 : Int32) from rfl, show (lwS (fun l => holL (w.1 14 0) (w.1 15 0) l D) 0) = (0, 0, 15) from rfl, show eF (0, 0, 15) = -9 from rfl, show eS (0, 0, 15) = -9 from rfl] at C
    have M := fun c f s => lw_m F (w := wL w c f s) (z := x) (by omega) (by rw [wL_o (by decide)]; exact d3) d1 256 F 0 (by omega) (by omega)
    have eh : (fun l => holL (w.1 14 0) (w.1 15 0) l D) = fun l => holL (w.1 31 0) (w.1 32 0) l D := funext fun l => holL_cg d4
    have iv := lwS_inv (fun l => holL (w.1 14 0) (w.1 15 0) l D) 256
    have e1 : pm_setI (pm_setI (pm_setI w 13 0 3 0) 13 0 4 (-9)) 13 0 5 (-9) = wL w (nI 0) (-9) (-9) := by
      conv => lhs; rw [← wL_self w]
      rw [wL_s3, wL_s4, wL_s5]; rfl
    simp only [wlet_e, e1]
    rw [show nI 0 = (0 : Int32) from rfl]
    rw [show f_X2_findLaws_L11 F F (wL w 0 (-9) (-9)) 0 = _ from C, Option.bind_some, Option.bind_some]
    dsimp only
    rw [wL_3, wL_4, wL_5]
    simp only [wL_o (show 31 ≠ 13 by decide), wL_o (show 32 ≠ 13 by decide), ← eh] at M
    generalize lwS (fun l => holL (w.1 14 0) (w.1 15 0) l D) 256 = q at M iv ⊢
    obtain ⟨c, f, s⟩ := q
    dsimp only at M iv ⊢
    obtain ⟨v1, v2, v3, v4⟩ := iv
    refine ⟨(if x = 0 then nI c else if x = 1 then eF (c, f, s) else eS (c, f, s)), wL w (nI c) (eF (c, f, s)) (eS (c, f, s)), _, ?_, ⟨?_, rfl⟩, n, N, A, X, D, RelP_Fr Fr_wL HP⟩
    · by_cases x0 : x = 0
      · rw [if_pos x0, if_pos x0]
      · rw [if_neg x0, if_neg x0]
    · have m := M (nI c) (eF (c, f, s)) (eS (c, f, s))
      rw [show (lwS (fun l => holL (w.1 14 0) (w.1 15 0) l D) 0) = (0, 0, 15) from rfl] at m
      rw [show f_X8_laws_L16 F (wL w (nI c) (eF (c, f, s)) (eS (c, f, s))) F x 0 0 15 0 = _ from m, Option.bind_some]
      dsimp only
      obtain ⟨y, hy⟩ := fl_m F (w := wL w (nI c) (eF (c, f, s)) (eS (c, f, s))) (f := f) (z1 := x) (z2 := nI c) (z3 := s) (by omega) (by have := v3 (by omega); omega)
      rw [hy, Option.bind_some]
      dsimp only
      unfold eF eS
      dsimp only
      by_cases x0 : x = 0
      · rw [if_pos x0, if_pos x0]
      · rw [if_neg x0, if_neg x0]
        by_cases c0 : c = 0
        · rw [if_pos (show nI c = 0 by rw [c0]; rfl), if_pos c0, if_pos c0, ite_self]
        · rw [if_neg (show ¬ nI c = 0 by rw [show (0 : Int32) = nI 0 from rfl, nx_eq (by omega) (by omega)]; exact c0), if_neg c0, if_neg c0]
  · have c3 : 2 < x := Int32.not_le.mp c2
    exact ⟨-2, w, w, by rw [if_neg c1, if_neg c2], ⟨by rw [if_neg c1, if_pos c3, if_pos rfl], rfl⟩, H0⟩
