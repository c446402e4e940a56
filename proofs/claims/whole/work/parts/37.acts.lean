/-! ===== acts: the row of the class, the ring of the reference ===== -/
def wB (w : pm_W) (B : Nat → Nat) : pm_W := (w.1, w.2.1, B)
def shB (B : Nat → Nat) (j : Nat) : Nat → Nat := fun k => if k + 1 < j then B (k + 1) else B k
theorem forget_L (F : Nat) {w : pm_W} {q : Nat} : ∀ (m n j : Nat), 1 ≤ j → j + m = 14 → m < n → f_X0_forgetFirst_L7 F n (wB w (shB w.2.2 j)) q (nI j) = some (nI 14, wB w (shB w.2.2 14)) := by
  intro m
  induction m with
  | zero =>
    intro n j h1 hj hn
    obtain ⟨n, rfl⟩ : ∃ k, n = k + 1 := ⟨n - 1, by omega⟩
    have : j = 14 := by omega
    subst this
    rw [f_X0_forgetFirst_L7, if_pos (by decide)]
  | succ m ih =>
    intro n j h1 hj hn
    obtain ⟨n, rfl⟩ : ∃ k, n = k + 1 := ⟨n - 1, by omega⟩
    obtain ⟨i, rfl⟩ : ∃ i, j = i + 1 := ⟨j - 1, by omega⟩
    rw [f_X0_forgetFirst_L7, if_neg (show ¬ (14 : Int32) ≤ nI (i + 1) by rw [show (14 : Int32) = nI 14 from rfl, nx_le (by omega) (by omega)]; omega), nx_in (show i + 1 < 14 by omega) (by omega), if_pos rfl, nI_pred, nx_in (show i < 14 by omega) (by omega), if_pos rfl, nx_cl (by omega), nx_cl (by omega), nx_s]
    unfold pm_wlet
    have ih2 := ih n (i + 1 + 1) (by omega) (by omega) (by omega)
    have e : pm_setB (wB w (shB w.2.2 (i + 1))) i ((wB w (shB w.2.2 (i + 1))).2.2 (i + 1)) = wB w (shB w.2.2 (i + 1 + 1)) := by
      unfold pm_setB wB
      refine Prod.ext rfl (Prod.ext rfl (funext fun k => ?_))
      simp only [shB]
      by_cases h : k = i
      · subst h
        rw [if_pos rfl, if_neg (by omega), if_pos (by omega)]
      · rw [if_neg h]
        by_cases h2 : k + 1 < i + 1
        · rw [if_pos h2, if_pos (by omega)]
        · rw [if_neg h2, if_neg (by omega)]
    rw [e]; exact ih2
theorem forget_e (F : Nat) {w : pm_W} (hF : 20 ≤ F) : f_X0_forgetFirst F w = some (pm_setI (wB w (fun k => if k = 13 then w.2.2 0 else shB w.2.2 14 k)) 9 0 1 13) := by
  unfold f_X0_forgetFirst
  have hL := forget_L F (w := w) (q := w.2.2 0) 13 F 1 (by omega) (by omega) (by omega)
  rw [show wB w (shB w.2.2 1) = w from Prod.ext rfl (Prod.ext rfl (funext fun k => by show (if k + 1 < 1 then w.2.2 (k + 1) else w.2.2 k) = w.2.2 k; rw [if_neg (by omega)]))] at hL
  rw [show (1 : Int32) = nI 1 from rfl, hL, Option.bind_some]
  rfl
def A1 (A : Nat) : Nat := if A < 14 then A + 1 else 14
theorem rem_spec (F : Nat) {w : pm_W} {A : Nat} (hF : 20 ≤ F) (hA : A ≤ 14) (c3 : w.1 9 0 1 = nI A) (inj : ∀ a b, a < 14 → b < 14 → w.2.2 a = w.2.2 b → a = b) (rng : ∀ a, a < 14 → 1 ≤ w.2.2 a ∧ w.2.2 a ≤ 14) :
    ∃ v, f_X0_remember F w 0 = some v ∧ v.1 9 0 1 = nI (A1 A) ∧ (∀ a b c, ¬ (a = 9 ∧ c = 1) → ¬ ((a = 7 ∨ a = 8) ∧ 1 ≤ b ∧ b ≤ 14) → v.1 a b c = w.1 a b c) ∧ v.2.1 = w.2.1 ∧ (∀ a b, a < 14 → b < 14 → v.2.2 a = v.2.2 b → a = b) ∧ (∀ a, a < 14 → 1 ≤ v.2.2 a ∧ v.2.2 a ≤ 14) ∧ cS v (v.2.2 (A1 A - 1)) = cS w 0 ∧ ∀ j, 1 ≤ j → j < A1 A → cS v (v.2.2 (A1 A - 1 - j)) = cS w (w.2.2 (A - 1 - (j - 1))) := by
  unfold f_X0_remember
  by_cases h : A < 14
  · have e1 : nI A < 14 := by rw [show (14 : Int32) = nI 14 from rfl, nx_lt (by omega) (by omega)]; exact h
    have eA : A1 A = A + 1 := by unfold A1; rw [if_pos h]
    rw [c3, if_pos e1, nx_in h (by omega), if_pos rfl, nx_cl (by omega), become_e F (by omega), Option.bind_some, eA]
    unfold pm_wlet
    have e2 : (cPut w (w.2.2 A) (cS w 0)).1 9 0 1 = nI A := by rw [cPut_o (by decide) (by decide)]; exact c3
    rw [e2, nx_s]
    have hA0 := rng A h
    refine ⟨_, rfl, by rw [pm_gI_s], fun a b c n1 n2 => by rw [setI_ne (by omega), cPut_ne (by omega)], rfl, inj, rng, ?_, fun j h1 h2 => ?_⟩
    · rw [show A + 1 - 1 = A by omega]
      show cS (pm_setI _ 9 0 1 _) (w.2.2 A) = _
      rw [cS_of (w := cPut w (w.2.2 A) (cS w 0)) (fun a c ha => setI_ne (by omega)), cS_cPut (cS_nm w 0)]
    · show cS (pm_setI _ 9 0 1 _) (w.2.2 (A + 1 - 1 - j)) = _
      rw [cS_of (w := cPut w (w.2.2 A) (cS w 0)) (fun a c ha => setI_ne (by omega)), cS_cPut_ne (fun z => by have := inj _ _ (by omega) h z; omega), show A + 1 - 1 - j = A - 1 - (j - 1) by omega]
  · have hA14 : A = 14 := by omega
    subst hA14
    have e1 : ¬ nI 14 < 14 := by decide
    have eA : A1 14 = 14 := rfl
    rw [c3, if_neg e1, forget_e F hF, Option.bind_some, pm_gI_s, show (13 : Int32) = nI 13 from rfl, nx_in (show 13 < 14 by omega) (by omega), if_pos rfl, nx_cl (by omega), become_e F (by omega), Option.bind_some, eA]
    unfold pm_wlet
    obtain ⟨B, hB⟩ : ∃ B, B = fun k => if k = 13 then w.2.2 0 else shB w.2.2 14 k := ⟨_, rfl⟩
    rw [← hB]
    have hB13 : B 13 = w.2.2 0 := by rw [hB]; rfl
    have hBk : ∀ k, k < 13 → B k = w.2.2 (k + 1) := fun k hk => by
      rw [hB]; simp only; rw [if_neg (by omega)]; unfold shB; rw [if_pos (by omega)]
    have eX : (pm_setI (wB w B) 9 0 1 (nI 13)).2.2 = B := rfl
    rw [eX]
    have e2 : (cPut (pm_setI (wB w B) 9 0 1 (nI 13)) (B 13) (cS (pm_setI (wB w B) 9 0 1 (nI 13)) 0)).1 9 0 1 = nI 13 := by rw [cPut_o (by decide) (by decide), pm_gI_s]
    rw [e2, nx_s]
    have ec : ∀ i, cS (pm_setI (wB w B) 9 0 1 (nI 13)) i = cS w i := fun i => cS_of (w := w) (fun a c ha => setI_ne (w := wB w B) (by omega))
    have h0 := rng 0 (by omega)
    refine ⟨_, rfl, by rw [pm_gI_s], fun a b c n1 n2 => ?_, rfl, ?_, ?_, ?_, fun j h1 h2 => ?_⟩
    · rw [setI_ne (by omega), cPut_ne (by rw [hB13]; omega), setI_ne (by omega)]; rfl
    · show ∀ a b, a < 14 → b < 14 → B a = B b → a = b
      intro a b ha hb hab
      by_cases a13 : a = 13
      · by_cases b13 : b = 13
        · omega
        · rw [a13, hB13, hBk b (by omega)] at hab
          have := inj _ _ (by omega) (by omega) hab; omega
      · by_cases b13 : b = 13
        · rw [b13, hB13, hBk a (by omega)] at hab
          have := inj _ _ (by omega) (by omega) hab; omega
        · rw [hBk a (by omega), hBk b (by omega)] at hab
          have := inj _ _ (by omega) (by omega) hab; omega
    · show ∀ a, a < 14 → 1 ≤ B a ∧ B a ≤ 14
      intro a ha
      by_cases a13 : a = 13
      · rw [a13, hB13]; exact h0
      · rw [hBk a (by omega)]; exact rng _ (by omega)
    · show cS (pm_setI _ 9 0 1 _) (B 13) = _
      rw [cS_of (w := cPut (pm_setI (wB w B) 9 0 1 (nI 13)) (B 13) (cS (pm_setI (wB w B) 9 0 1 (nI 13)) 0)) (fun a c ha => setI_ne (by omega)), cS_cPut (cS_nm _ 0), ec]
    · show cS (pm_setI _ 9 0 1 _) (B (14 - 1 - j)) = _
      rw [cS_of (w := cPut (pm_setI (wB w B) 9 0 1 (nI 13)) (B 13) (cS (pm_setI (wB w B) 9 0 1 (nI 13)) 0)) (fun a c ha => setI_ne (by omega)), cS_cPut_ne (fun z => by
        rw [hB13, hBk _ (by omega)] at z
        have := inj _ _ (by omega) (by omega) z; omega), ec, hBk _ (by omega), show 14 - 1 - j + 1 = 14 - 1 - (j - 1) by omega]
-- the reference
theorem rS_g {w : pm_W} {k n : Nat} (h : n < 9) : w.1 29 0 (9 * k + n) = rS w k n := by unfold rS; rw [if_pos h]
def rowJ (w : pm_W) (X j : Nat) : pm_W := rowP w 29 0 (fun c => if 9 * X ≤ c ∧ c < 9 * X + j then w.1 23 0 (c - 9 * X) else w.1 29 0 c)
theorem keepAct_L (F : Nat) {w : pm_W} {X : Nat} (hX : X < 14) (h20 : w.1 19 0 20 = nI X) : ∀ (m n j : Nat), j + m = 9 → m < n → f_X8_keepAct_L2 F n (rowJ w X j) (nI j) = some (nI 9, rowJ w X 9) := by
  intro m
  induction m with
  | zero =>
    intro n j hj hn
    obtain ⟨n, rfl⟩ : ∃ k, n = k + 1 := ⟨n - 1, by omega⟩
    have : j = 9 := by omega
    subst this
    rw [f_X8_keepAct_L2, if_pos (by decide)]
  | succ m ih =>
    intro n j hj hn
    obtain ⟨n, rfl⟩ : ∃ k, n = k + 1 := ⟨n - 1, by omega⟩
    have e1 : (rowJ w X j).1 19 0 20 = nI X := by unfold rowJ; rw [rowP_a (by decide)]; exact h20
    have e2 : (rowJ w X j).1 23 0 = w.1 23 0 := by unfold rowJ; rw [rowP_a (by decide)]
    rw [f_X8_keepAct_L2, if_neg (show ¬ (9 : Int32) ≤ nI j by rw [show (9 : Int32) = nI 9 from rfl, nx_le (by omega) (by omega)]; omega), nx_in (show j < 18 by omega) (by omega), if_pos rfl, e1, e2, ix9, nx_in (show 9 * X + j < 126 by omega) (by omega), if_pos rfl, nx_cl (by omega), nx_cl (by omega), nx_s]
    unfold pm_wlet
    have ih2 := ih n (j + 1) (by omega) (by omega)
    have e : pm_setI (rowJ w X j) 29 0 (9 * X + j) (w.1 23 0 j) = rowJ w X (j + 1) := by
      unfold rowJ
      rw [set_rowP]
      apply rowP_congr
      intro c
      simp only [upd]
      by_cases h : c = 9 * X + j
      · rw [if_pos h, if_pos (by omega), h, show 9 * X + j - 9 * X = j by omega]
      · rw [if_neg h]
        by_cases h2 : 9 * X ≤ c ∧ c < 9 * X + j
        · rw [if_pos h2, if_pos (by omega)]
        · rw [if_neg h2, if_neg (by omega)]
    rw [e]; exact ih2
theorem keep_spec (F : Nat) {w : pm_W} {A X : Nat} (hF : 20 ≤ F) (hA : A ≤ 14) (hX : X < 14) (c4 : w.1 19 0 19 = nI A) (c5 : w.1 19 0 20 = nI X) :
    ∃ v, f_X8_keepAct F w = some v ∧ v.1 19 0 19 = nI (A1 A) ∧ v.1 19 0 20 = nI ((X + 1) % 14) ∧ (∀ a b c, ¬ a = 29 → ¬ (a = 19 ∧ (c = 19 ∨ c = 20)) → v.1 a b c = w.1 a b c) ∧ v.2 = w.2 ∧ rS v X = mS w 0 ∧ ∀ k, k ≠ X → rS v k = rS w k := by
  unfold f_X8_keepAct
  have hL := keepAct_L F hX c5 9 F 0 (by omega) (by omega)
  have e0 : rowJ w X 0 = w := by
    unfold rowJ
    rw [rowP_congr (g := w.1 29 0) (fun c => by rw [if_neg (by omega)]), rowP_self]
  rw [e0] at hL
  rw [show (0 : Int32) = nI 0 from rfl, hL, Option.bind_some]
  have e1 : (rowJ w X 9).1 19 0 20 = nI X := by unfold rowJ; rw [rowP_a (by decide)]; exact c5
  have e2 : ∀ z, (pm_setI (rowJ w X 9) 19 0 20 z).1 19 0 19 = nI A := fun z => by rw [setI_ne (by omega)]; unfold rowJ; rw [rowP_a (by decide)]; exact c4
  have e3 : (nI X + 1) - (nI X + 1) / 14 * 14 = nI ((X + 1) % 14) := by
    rw [nx_s, show (14 : Int32) = nI 14 from rfl, pk_rem (by omega) (by omega) (by omega)]
  have e4 : (if (14 : Int32) ≤ nI A then 14 else nI A + 1) = nI (A1 A) := by
    unfold A1
    by_cases h : A < 14
    · rw [if_neg (show ¬ (14 : Int32) ≤ nI A by rw [show (14 : Int32) = nI 14 from rfl, nx_le (by omega) (by omega)]; omega), if_pos h, nx_s]
    · rw [if_pos (show (14 : Int32) ≤ nI A by rw [show (14 : Int32) = nI 14 from rfl, nx_le (by omega) (by omega)]; omega), if_neg h]; rfl
  simp only [pm_wlet, e1, e3, e2, e4]
  have er : ∀ k n, (pm_setI (pm_setI (rowJ w X 9) 19 0 20 (nI ((X + 1) % 14))) 19 0 19 (nI (A1 A))).1 29 0 (9 * k + n) = if 9 * X ≤ 9 * k + n ∧ 9 * k + n < 9 * X + 9 then w.1 23 0 (9 * k + n - 9 * X) else w.1 29 0 (9 * k + n) := fun k n => by
    rw [setI_ne (by omega), setI_ne (by omega)]; unfold rowJ; rw [rowP_s]
  refine ⟨_, rfl, pm_gI_s, by rw [setI_ne (by omega), pm_gI_s], fun a b c n1 n2 => ?_, rfl, ?_, fun k hk => ?_⟩
  · rw [setI_ne (by omega), setI_ne (by omega)]; unfold rowJ; rw [rowP_a n1]
  · funext n
    unfold rS mS
    by_cases hn : n < 9
    · rw [if_pos hn, if_pos hn, er, if_pos (by omega), show 9 * X + n - 9 * X = 9 * 0 + n by omega]
    · rw [if_neg hn, if_neg hn]
  · funext n
    unfold rS
    by_cases hn : n < 9
    · rw [if_pos hn, if_pos hn, er, if_neg (by omega)]
    · rw [if_neg hn, if_neg hn]
