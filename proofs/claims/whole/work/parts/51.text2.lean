/-! ===== the class finds the first fault ===== -/
theorem isbs {x : Int32} {b : Bool} (h : x = bi b) : (if pm_isb x = true then some x else none) = some (bi b) := by
  rw [h]; cases b <;> rfl
theorem leN {a b : Nat} (ha : a < 2147483648) (hb : b < 2147483648) : (if nI a ≤ nI b then 0 else 1 : Int32) = bi (decide (b < a)) := by
  by_cases c : b < a
  · rw [if_neg (by rw [nx_le ha hb]; omega), decide_eq_true c]; rfl
  · rw [if_pos (by rw [nx_le ha hb]; omega), decide_eq_false c]; rfl
theorem ltN {a b : Nat} (ha : a < 2147483648) (hb : b < 2147483648) : (if nI a < nI b then 0 else 1 : Int32) = bi (decide (b ≤ a)) := by
  by_cases c : b ≤ a
  · rw [if_neg (by rw [nx_lt ha hb]; omega), decide_eq_true c]; rfl
  · rw [if_pos (by rw [nx_lt ha hb]; omega), decide_eq_false c]; rfl
theorem bi_dec {p : Prop} [Decidable p] : (if p then 1 else 0 : Int32) = bi (decide p) := by
  by_cases h : p
  · rw [if_pos h, decide_eq_true h]; rfl
  · rw [if_neg h, decide_eq_false h]; rfl
theorem letC (F : Nat) {w : pm_W} {n k : Nat} {c : Int32} (hn : w.1 1 0 1 = nI n) (h40 : n ≤ 40) (hk : k < n) : f_X6_isLetter F w (nI k) c = some (bi (decide (w.1 2 0 k = c))) := by
  unfold f_X6_isLetter
  rw [if_neg (nI_pos (by omega)), hn, if_neg (by rw [nx_le (by omega) (by omega)]; omega), show (40 : Int32) = nI 40 from rfl, if_neg (by rw [nx_le (by omega) (by omega)]; omega), nx_in (show k < 40 by omega) (by omega), if_pos rfl, nx_cl (by omega), bi_dec, isb_bi, if_pos rfl]
theorem tE_neg {o : Option Nat} (h : ∀ x, o = some x → x ≤ 9) : (tE o < 0 ↔ o = none) := by
  cases o with
  | none => exact ⟨fun _ => rfl, fun _ => by decide⟩
  | some x =>
    refine ⟨fun z => absurd z (nI_pos (by have := h x rfl; omega)), fun z => by cases z⟩
theorem fitHC (F : Nat) {w : pm_W} {n k : Nat} (hn : w.1 1 0 1 = nI n) (h40 : n ≤ 40) (hk : k < n) (h5 : k < 5) (A : AF (w.1 2 0) n k) : f_X6_fitsHead F w (nI k) = some (bi (fit (w.1 2 0) n k)) := by
  unfold f_X6_fitsHead fit fitH
  have nk : ∀ j : Nat, j < 100 → k ≠ j → ¬ nI k = nI j := fun j hj h => by rw [nx_eq (by omega) (by omega)]; exact h
  have hT := told_e F hn h40 (k := k) (by omega)
  rw [hT, Option.bind_some, if_pos h5]
  by_cases k0 : k = 0
  · subst k0
    rw [if_pos (show nI 0 = 0 from rfl), if_pos rfl, letC F hn h40 hk, Option.bind_some, isb_bi, if_pos rfl]
  · rw [if_neg (show ¬ nI k = 0 from nk 0 (by omega) k0), if_neg k0]
    cases e : tD (w.1 2 0) n k with
    | none =>
      have t0 : tE none < 0 := by decide
      have t1 : tE none < 1 := by decide
      by_cases k1 : k = 1
      · subst k1
        rw [if_pos (show nI 1 = 1 from rfl), if_pos t0]; rfl
      · rw [if_neg (show ¬ nI k = 1 from nk 1 (by omega) k1)]
        by_cases k2 : k = 2
        · subst k2
          rw [if_pos (show nI 2 = 2 from rfl), if_pos t0]; rfl
        · rw [if_neg (show ¬ nI k = 2 from nk 2 (by omega) k2), if_pos t1]; rfl
    | some x =>
      obtain ⟨x9, _⟩ := tD_9 e
      have t0 : ¬ tE (some x) < 0 := nI_pos (by omega)
      have ex : tE (some x) = nI x := rfl
      by_cases k1 : k = 1
      · subst k1
        rw [if_pos (show nI 1 = 1 from rfl), if_neg t0, ex, show (10 : Int32) = nI 10 from rfl, show (30 : Int32) = nI 30 from rfl, nI_ml, isbs (ltN (by omega) (by omega))]
        show some (bi (decide (10 * x ≤ 30))) = some (bi (decide (x ≤ 3)))
        by_cases c : x ≤ 3
        · rw [decide_eq_true c, decide_eq_true (by omega)]
        · rw [decide_eq_false c, decide_eq_false (by omega)]
      · rw [if_neg (show ¬ nI k = 1 from nk 1 (by omega) k1)]
        by_cases k2 : k = 2
        · subst k2
          have g2 : gD (w.1 2 0) n 2 = x := by unfold gD; rw [e]; rfl
          have g1 := gD_9 (w.1 2 0) n 1
          have hl := lenT_e F hn h40 (A.d (j := 1) (by omega) (by omega) (by omega)) (by rw [e, g2])
          have et : tL (w.1 2 0) n = 10 * gD (w.1 2 0) n 1 + x := by unfold tL; rw [g2]
          rw [if_pos (show nI 2 = 2 from rfl), if_neg t0, hl, Option.bind_some, et]
          show _ = some (bi (decide (1 ≤ 10 * gD (w.1 2 0) n 1 + x) && decide (10 * gD (w.1 2 0) n 1 + x ≤ 30)))
          by_cases c : 1 ≤ 10 * gD (w.1 2 0) n 1 + x
          · rw [if_neg (show ¬ nI (10 * gD (w.1 2 0) n 1 + x) < 1 by rw [show (1 : Int32) = nI 1 from rfl, nx_lt (by omega) (by omega)]; omega), Option.bind_some, decide_eq_true c, Bool.true_and]
            exact isbs (ltN (a := 30) (b := 10 * gD (w.1 2 0) n 1 + x) (by omega) (by omega))
          · rw [if_pos (show nI (10 * gD (w.1 2 0) n 1 + x) < 1 by rw [show (1 : Int32) = nI 1 from rfl, nx_lt (by omega) (by omega)]; omega), decide_eq_false c, Bool.false_and]; rfl
        · rw [if_neg (show ¬ nI k = 2 from nk 2 (by omega) k2), ex]
          refine Eq.trans (isbs (ltN (a := x) (b := 1) (by omega) (by omega))) ?_
          show _ = some (bi (if k = 1 then _ else if k = 2 then _ else decide (1 ≤ x)))
          rw [if_neg k1, if_neg k2]
theorem AF.mono {C : Nat → Int32} {n k j : Nat} (h : AF C n k) (hj : j ≤ k) : AF C n j := fun i hi => h i (by omega)
theorem fitGC (F : Nat) {w : pm_W} {n g r : Nat} (hF : 12 ≤ F) (hn : w.1 1 0 1 = nI n) (h40 : n ≤ 40) (hk : 5 + 6 * g + r < n) (hr : r < 6) (A : AF (w.1 2 0) n (5 + 6 * g + r)) : f_X6_fitsGuest F w (nI (5 + 6 * g + r)) = some (bi (fitG (w.1 2 0) n g r)) := by
  unfold f_X6_fitsGuest fitG
  have A0 : AF (w.1 2 0) n (5 + 6 * g) := A.mono (by omega)
  have hT := told_e F hn h40 (k := 5 + 6 * g + r) (by omega)
  have e1 : nI (5 + 6 * g + r) - 5 = nI (6 * g + r) := by
    rw [show (5 : Int32) = nI 5 from rfl, nI_sb (by omega)]; congr 1; omega
  have e2 : nI (6 * g + r) / 6 = nI g := by
    rw [show (6 : Int32) = nI 6 from rfl, nI_dv (by omega) (by omega)]; congr 1; omega
  have e3 : nI (6 * g + r) - nI g * 6 = nI r := by
    rw [show (6 : Int32) = nI 6 from rfl, nI_ml, nI_sb (by omega)]; congr 1; omega
  rw [hT, Option.bind_some, e1, e2, e3]
  have nr : ∀ j : Nat, j < 100 → r ≠ j → ¬ nI r = nI j := fun j hj h => by rw [nx_eq (by omega) (by omega)]; exact h
  have t99 := tL_99 (w.1 2 0) n
  have hl := lenT_e F hn h40 (A0.d (j := 1) (by omega) (by omega) (by omega)) (A0.d (j := 2) (by omega) (by omega) (by omega))
  by_cases r0 : r = 0
  · subst r0
    rw [if_pos (show nI 0 = 0 from rfl), if_pos rfl]
    have hlt := letC F (c := 71) hn h40 hk
    rw [hlt, Option.bind_some, show 5 + 6 * g + 0 = 5 + 6 * g from rfl]
    by_cases c : w.1 2 0 (5 + 6 * g) = 71
    · rw [decide_eq_true c, if_neg (show ¬ bi true = 0 by decide), Bool.true_and, show (5 : Int32) = nI 5 from rfl]
      by_cases d : g < 5
      · rw [if_neg (by rw [nx_le (by omega) (by omega)]; omega), hl, Option.bind_some, decide_eq_true d, Bool.true_and, isbs (leN (by omega) (by omega))]
      · rw [if_pos (by rw [nx_le (by omega) (by omega)]; omega), decide_eq_false d, Bool.false_and]; rfl
    · rw [decide_eq_false c, if_pos (show bi false = 0 from rfl), Bool.false_and]; rfl
  · rw [if_neg (show ¬ nI r = 0 from nr 0 (by omega) r0), if_neg r0]
    have tneg : tE none < 0 := by decide
    by_cases r1 : r = 1
    · subst r1
      rw [if_pos (show nI 1 = 1 from rfl)]
      cases e : tD (w.1 2 0) n (5 + 6 * g + 1) with
      | none => rw [if_pos tneg]; rfl
      | some x =>
        obtain ⟨x9, _⟩ := tD_9 e
        have ex : tE (some x) = nI x := rfl
        rw [ex, if_neg (nI_pos (by omega)), show (10 : Int32) = nI 10 from rfl, nI_ml, anFC F hF hn h40 (by omega) (by omega) A0, Option.bind_some]
        show _ = some (bi (anF (w.1 2 0) n g (10 * x) 10))
        cases anF (w.1 2 0) n g (10 * x) 10 <;> rfl
    · rw [if_neg (show ¬ nI r = 1 from nr 1 (by omega) r1)]
      by_cases r2 : r = 2
      · subst r2
        rw [if_pos (show nI 2 = 2 from rfl)]
        cases e : tD (w.1 2 0) n (5 + 6 * g + 2) with
        | none => rw [if_pos tneg]; rfl
        | some x =>
          obtain ⟨x9, _⟩ := tD_9 e
          have ex : tE (some x) = nI x := rfl
          have g2 : gD (w.1 2 0) n (5 + 6 * g + 2) = x := by unfold gD; rw [e]; rfl
          have f99 := tF_99 (w.1 2 0) n g
          rw [ex, if_neg (nI_pos (by omega)), leafT_e F hn h40 (by omega) (A.d (by omega) (by omega) (by omega)) (by rw [e, g2]), Option.bind_some, freC F (by omega) hn h40 (by omega) (by omega) A0, Option.bind_some]
          have et : tF (w.1 2 0) n g = 10 * gD (w.1 2 0) n (5 + 6 * g + 1) + x := by unfold tF; rw [g2]
          rw [et]
          show _ = some (bi (fre (w.1 2 0) n g (10 * gD (w.1 2 0) n (5 + 6 * g + 1) + x)))
          cases fre (w.1 2 0) n g (10 * gD (w.1 2 0) n (5 + 6 * g + 1) + x) <;> rfl
      · rw [if_neg (show ¬ nI r = 2 from nr 2 (by omega) r2)]
        cases e : tD (w.1 2 0) n (5 + 6 * g + r) with
        | none =>
          by_cases r3 : r = 3
          · subst r3; rw [if_pos (show nI 3 = 3 from rfl), if_pos tneg]; rfl
          · rw [if_neg (show ¬ nI r = 3 from nr 3 (by omega) r3)]
            by_cases r4 : r = 4
            · subst r4; rw [if_pos (show nI 4 = 4 from rfl), if_pos tneg]; rfl
            · rw [if_neg (show ¬ nI r = 4 from nr 4 (by omega) r4), if_pos tneg]; rfl
        | some x =>
          obtain ⟨x9, _⟩ := tD_9 e
          have ex : tE (some x) = nI x := rfl
          have fin : some (if nI x < 0 then 0 else if 3 < nI x then 0 else 1 : Int32) = some (bi (decide (x ≤ 3))) := by
            rw [if_neg (nI_pos (by omega)), show (3 : Int32) = nI 3 from rfl]
            by_cases c : x ≤ 3
            · rw [if_neg (by rw [nx_lt (by omega) (by omega)]; omega), decide_eq_true c]; rfl
            · rw [if_pos (by rw [nx_lt (by omega) (by omega)]; omega), decide_eq_false c]; rfl
          have fib : pm_isb (if nI x < 0 then 0 else if 3 < nI x then 0 else 1 : Int32) = true := by
            rw [Option.some.inj fin]; exact isb_bi _
          rw [ex]
          by_cases r3 : r = 3
          · subst r3
            rw [if_pos (show nI 3 = 3 from rfl), fib, if_pos rfl, fin]; rfl
          · rw [if_neg (show ¬ nI r = 3 from nr 3 (by omega) r3)]
            by_cases r4 : r = 4
            · subst r4
              rw [if_pos (show nI 4 = 4 from rfl), if_neg (nI_pos (by omega))]; rfl
            · rw [if_neg (show ¬ nI r = 4 from nr 4 (by omega) r4), fib, if_pos rfl, fin]
              show _ = some (bi (if r = 1 then _ else if r = 2 then _ else if r = 4 then true else decide (x ≤ 3)))
              rw [if_neg r1, if_neg r2, if_neg r4]
theorem ffC_L (F : Nat) {w : pm_W} {n : Nat} (hF : 12 ≤ F) (hn : w.1 1 0 1 = nI n) (h40 : n ≤ 40) : ∀ (m q k : Nat), k + m = n → m < q → AF (w.1 2 0) n k → ((f_X6_firstFault_L2 F w q (nI k)).bind fun x9 => Sum.elim (fun ex9 => (if (w.1 1 0 1) < 5 then some (w.1 1 0 1) else some (if (if (((w.1 1 0 1) - 5) - ((w.1 1 0 1) - 5) / 6 * 6) = 0 then 1 else 0 : Int32) = 0 then w.1 1 0 1 else (-9) : Int32))) (fun rx9 => some rx9) x9) = some (ffs (w.1 2 0) n m k) := by
  intro m
  induction m with
  | zero =>
    intro q k hk hq A
    obtain ⟨q, rfl⟩ : ∃ z, q = z + 1 := ⟨q - 1, by omega⟩
    rw [f_X6_firstFault_L2, hn, if_pos (by rw [nx_le (by omega) (by omega)]; omega)]
    show (if nI n < 5 then some (nI n) else _) = _
    unfold ffs
    rw [show (5 : Int32) = nI 5 from rfl]
    by_cases c : n < 5
    · rw [if_pos (by rw [nx_lt (by omega) (by omega)]; exact c), if_pos c]
    · rw [if_neg (by rw [nx_lt (by omega) (by omega)]; exact c), if_neg c, nI_sb (by omega), show (6 : Int32) = nI 6 from rfl, nI_rm (by omega) (by omega)]
      by_cases d : (n - 5) % 6 = 0
      · rw [if_pos d, d, if_pos (show nI 0 = 0 from rfl), if_neg (by decide)]
      · rw [if_neg d, if_neg (show ¬ nI ((n - 5) % 6) = 0 by rw [show (0 : Int32) = nI 0 from rfl, nx_eq (by omega) (by omega)]; exact d), if_pos rfl]
  | succ m ih =>
    intro q k hk hq A
    obtain ⟨q, rfl⟩ : ∃ z, q = z + 1 := ⟨q - 1, by omega⟩
    rw [f_X6_firstFault_L2, hn, if_neg (by rw [nx_le (by omega) (by omega)]; omega), nx_s]
    unfold ffs
    have nxt : fit (w.1 2 0) n k = true → AF (w.1 2 0) n (k + 1) := fun h j hj => by
      by_cases e : j = k
      · rw [e]; exact h
      · exact A j (by omega)
    have I := ih q (k + 1) (by omega) (by omega)
    rw [hn] at I
    by_cases c : k < 5
    · rw [if_neg (show ¬ 5 ≤ nI k by rw [show (5 : Int32) = nI 5 from rfl, nx_le (by omega) (by omega)]; omega), fitHC F hn h40 (by omega) c A, Option.bind_some]
      cases e : fit (w.1 2 0) n k with
      | true =>
        rw [if_neg (show ¬ bi true = 0 by decide), if_pos rfl]
        exact I (nxt e)
      | false =>
        rw [if_pos (show bi false = 0 from rfl)]; rfl
    · have hx : 5 + 6 * ((k - 5) / 6) + (k - 5) % 6 = k := by omega
      have hG := fitGC F (w := w) (n := n) (g := (k - 5) / 6) (r := (k - 5) % 6) hF hn h40 (by omega) (by omega) (by rw [hx]; exact A)
      rw [hx] at hG
      have ef : fit (w.1 2 0) n k = fitG (w.1 2 0) n ((k - 5) / 6) ((k - 5) % 6) := by unfold fit; rw [if_neg c]
      rw [← ef] at hG
      rw [if_pos (show 5 ≤ nI k by rw [show (5 : Int32) = nI 5 from rfl, nx_le (by omega) (by omega)]; omega), hG, Option.bind_some]
      cases e : fit (w.1 2 0) n k with
      | true =>
        rw [if_neg (show ¬ bi true = 0 by decide), if_pos rfl]
        exact I (nxt e)
      | false =>
        rw [if_pos (show bi false = 0 from rfl)]; rfl
theorem ffC (F : Nat) {w : pm_W} {n : Nat} (hF : 50 ≤ F) (hn : w.1 1 0 1 = nI n) (h40 : n ≤ 40) : f_X6_firstFault F w = some (ffs (w.1 2 0) n n 0) := by
  unfold f_X6_firstFault
  exact ffC_L F (by omega) hn h40 n F 0 (by omega) (by omega) (fun j hj => by omega)
