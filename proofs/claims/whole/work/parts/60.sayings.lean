/-! ===== the class looks for sayings ===== -/
theorem Fr.seat {w v : pm_W} (h : Fr w v) : v.1 3 0 = w.1 3 0 ∧ v.1 4 0 = w.1 4 0 := ⟨funext fun c => h.1 3 0 c (by unfold sFr; omega), funext fun c => h.1 4 0 c (by unfold sFr; omega)⟩
/-- is the goal reached: all hear (0), or so many leaves -/
def rch (N : Nat) (rc : Int32) (gl : Nat) (S : St) : Bool := if gl = 0 then decide (hearM N rc S = nI (2 ^ N - 1)) else decide (S 5 = nI gl)
theorem rch_c (F : Nat) {w : pm_W} {N gl i : Nat} (hF : 9 ≤ F) (hN : w.1 3 0 3 = nI N) (h5 : N ≤ 5) (hL : Lf N (cS w i)) (hg : gl ≤ 60) : f_X3_isReached F w i (nI gl) = some (bi (rch N (w.1 3 0 5) gl (cS w i))) := by
  unfold f_X3_isReached rch
  have p2 := p2_le h5
  by_cases c : gl = 0
  · subst c
    rw [if_pos (show nI 0 = 0 from rfl), if_pos rfl]
    unfold f_X5_doAllHear f_X5_everybody
    rw [hearers_e F hF hN h5 hL, Option.bind_some, Option.bind_some, hN, sh1 h5, show nI (2 ^ N) - 1 = nI (2 ^ N - 1) from nI_sb (b := 1) (by omega), isbs bi_dec, Option.bind_some, isb_bi, if_pos rfl]
  · rw [if_neg (by rw [show (0 : Int32) = nI 0 from rfl, nx_eq (by omega) (by omega)]; exact c), if_neg c]
    have e : w.1 7 i 1 = cS w i 5 := by unfold cS; rw [if_neg (by omega), if_pos (by omega)]
    rw [e, isbs bi_dec]
theorem srch_lt {N : Nat} {K : Nat → Int32} {rc : St → Bool} (h5 : N ≤ 5) : ∀ (k d a r : Nat) (S : St), a < 10 ^ d → srch N K rc k S a = some r → r < 10 ^ (d + k)
  | 0, d, a, r, S, ha, h => by
    unfold srch at h
    split at h
    · cases h; exact ha
    · cases h
  | k + 1, d, a, r, S, ha, h => by
    have L : ∀ (m i : Nat), i + m = N → fstI (fun i => match sic N K S (nI i) with | none => none | some T => srch N K rc k T (10 * a + i + 1)) m i = some r → r < 10 ^ (d + (k + 1)) := by
      intro m
      induction m with
      | zero => intro i _ z; cases z
      | succ m ih =>
        intro i hi z
        unfold fstI at z
        cases e : sic N K S (nI i) with
        | none => rw [e] at z; exact ih (i + 1) (by omega) z
        | some T =>
          rw [e] at z
          simp only at z
          cases e2 : srch N K rc k T (10 * a + i + 1) with
          | none => rw [e2] at z; exact ih (i + 1) (by omega) z
          | some q =>
            rw [e2] at z
            cases z
            have := srch_lt h5 k (d + 1) (10 * a + i + 1) r T (by rw [Nat.pow_succ]; omega) e2
            rw [show d + (k + 1) = d + 1 + k by omega]
            exact this
    exact L N 0 (by omega) h
theorem tryS (F : Nat) {w : pm_W} {N s gl : Nat} (hF : 9 ≤ F) (hN : w.1 3 0 3 = nI N) (h5 : N ≤ 5) (hK : KdA N (w.1 4 0)) (hs : s ≤ 4) (hgl : gl ≤ 60) : ∀ (k D d a : Nat) (u : pm_W), d + k = s → k < D → a < 10 ^ d → Fr w u → Iv N (cS u (17 + d)) → ∃ v, f_X3_trySayings F D u (nI d) (nI s) (nI a) (nI gl) = some (enc (srch N (w.1 4 0) (rch N (w.1 3 0 5) gl) k (cS u (17 + d)) a), v) ∧ Fr u v ∧ ∀ j, j ≤ d → cS v (17 + j) = cS u (17 + j) := by
  intro k
  induction k with
  | zero =>
    intro D d a u hd hD ha fr iv
    obtain ⟨D, rfl⟩ : ∃ q, D = q + 1 := ⟨D - 1, by omega⟩
    have hN' : u.1 3 0 3 = nI N := by rw [fr.seat.1]; exact hN
    refine ⟨u, ?_, Fr.refl u, fun _ _ => rfl⟩
    rw [f_X3_trySayings]
    unfold f_X3_trySayings_B
    rw [if_neg (nI_pos (by omega)), show (5 : Int32) = nI 5 from rfl, if_pos (by rw [nx_le (by omega) (by omega)]; omega), nx_in (show d < 6 by omega) (by omega), if_pos rfl, if_pos (by rw [nx_le (by omega) (by omega)]; omega), nx_cl (by omega), rch_c F hF hN' h5 iv.lf hgl, Option.bind_some, fr.seat.1]
    unfold srch
    cases rch N (w.1 3 0 5) gl (cS u (17 + d)) <;> rfl
  | succ k ih =>
    intro D d a u hd hD ha fr iv
    obtain ⟨D, rfl⟩ : ∃ q, D = q + 1 := ⟨D - 1, by omega⟩
    have L : ∀ (m n i : Nat) (u' : pm_W), i + m = N → m < n → Fr u u' → (∀ j, j ≤ d → cS u' (17 + j) = cS u (17 + j)) → ∃ v, ((f_X3_trySayings_L36 F (f_X3_trySayings F D) n u' (nI d) (nI s) (nI a) (nI gl) (17 + d) (17 + (d + 1)) (nI i)).bind fun x22 => Sum.elim (fun ex22 => some ((-9), ex22.2)) (fun rx22 => some rx22) x22) = some (enc (fstI (fun i => match sic N (w.1 4 0) (cS u (17 + d)) (nI i) with | none => none | some T => srch N (w.1 4 0) (rch N (w.1 3 0 5) gl) k T (10 * a + i + 1)) m i), v) ∧ Fr u v ∧ ∀ j, j ≤ d → cS v (17 + j) = cS u (17 + j) := by
      intro m
      induction m with
      | zero =>
        intro n i u' hi hn fr' sm
        obtain ⟨n, rfl⟩ : ∃ q, n = q + 1 := ⟨n - 1, by omega⟩
        refine ⟨u', ?_, fr', sm⟩
        rw [f_X3_trySayings_L36, (fr.trans fr').seat.1, hN, if_pos (by rw [nx_le (by omega) (by omega)]; omega)]; rfl
      | succ m ih2 =>
        intro n i u' hi hn fr' sm
        obtain ⟨n, rfl⟩ : ∃ q, n = q + 1 := ⟨n - 1, by omega⟩
        have frw := fr.trans fr'
        have hN' : u'.1 3 0 3 = nI N := by rw [frw.seat.1]; exact hN
        have sc := sic_ct F (w := u') (N := N) (i := 17 + (d + 1)) (S := cS u (17 + d)) (x := nI i) hF hN' h5 (by rw [frw.seat.2]; exact hK) (cS_nm u (17 + d))
        rw [frw.seat.2] at sc
        rw [f_X3_trySayings_L36, hN', if_neg (by rw [nx_le (by omega) (by omega)]; omega), become_e F hF, Option.bind_some, sm d (Nat.le_refl _), sc, Option.bind_some, nx_s]
        have fu : ∀ T, Fr u (cPut u' (17 + (d + 1)) T) := fun T => fr'.trans (Fr_cPut (by omega))
        have su : ∀ T j, j ≤ d → cS (cPut u' (17 + (d + 1)) T) (17 + j) = cS u (17 + j) := fun T j hj => by rw [cS_cPut_ne (by omega)]; exact sm j hj
        conv => enter [1, v, 1, 2, 1, 1]; unfold fstI
        cases e : sic N (w.1 4 0) (cS u (17 + d)) (nI i) with
        | none => exact ih2 n (i + 1) _ (by omega) (by omega) (fu _) (su _)
        | some T =>
          have nT := sic_nm h5 (cS_nm u (17 + d)) e
          have iT := sic_iv h5 hK iv e
          obtain ⟨v, hv, fv', sv⟩ := ih D (d + 1) (10 * a + i + 1) (cPut u' (17 + (d + 1)) T) (by omega) (by omega) (by rw [Nat.pow_succ]; omega) (fr.trans (fu T)) (by rw [cS_cPut nT]; exact iT)
          rw [cS_cPut nT] at hv
          have er : nI a * 10 + nI i + 1 = nI (10 * a + i + 1) := by rw [show (10 : Int32) = nI 10 from rfl, nI_ml, nI_add, nx_s, Nat.mul_comm]
          dsimp only
          rw [if_neg (by decide), nx_s, er, hv, Option.bind_some]
          have sv' : ∀ j, j ≤ d → cS v (17 + j) = cS u (17 + j) := fun j hj => by rw [sv j (by omega)]; exact su T j hj
          cases e2 : srch N (w.1 4 0) (rch N (w.1 3 0 5) gl) k T (10 * a + i + 1) with
          | none =>
            rw [if_pos (show enc none = -9 from rfl)]
            exact ih2 n (i + 1) v (by omega) (by omega) ((fu T).trans fv') sv'
          | some r =>
            have hr := srch_lt h5 k (d + 1) _ r T (by rw [Nat.pow_succ]; omega) e2
            have hr2 : r < 10000 := Nat.lt_of_lt_of_le hr (Nat.pow_le_pow_right (by omega) (show d + 1 + k ≤ 4 by omega))
            have nr : ¬ nI r = -9 := fun z => by
              have h1 : ¬ nI r < 0 := nI_pos (by omega)
              rw [z] at h1
              exact h1 (by decide)
            rw [if_neg (show ¬ enc (some r) = -9 from nr)]
            exact ⟨v, rfl, (fu T).trans fv', sv'⟩
    rw [f_X3_trySayings]
    unfold f_X3_trySayings_B
    rw [if_neg (nI_pos (by omega)), show (5 : Int32) = nI 5 from rfl, if_pos (by rw [nx_le (by omega) (by omega)]; omega), nx_in (show d < 6 by omega) (by omega), if_pos rfl, if_neg (by rw [nx_le (by omega) (by omega)]; omega), if_neg (by rw [nx_eq (by omega) (by omega)]; omega), nx_s, nx_in (show d + 1 < 6 by omega) (by omega), if_pos rfl, nx_cl (by omega), nx_cl (by omega)]
    exact L N F 0 u (by omega) (by omega) (Fr.refl u) (fun _ _ => rfl)
