theorem tryT (F : Nat) {w : pm_W} {N n : Nat} (hF : 9 ≤ F) (hN : w.1 3 0 3 = nI N) (h5 : N ≤ 5) (hK : KdA N (w.1 4 0)) (hn : n ≤ 4) : ∀ (k D d : Nat) (u : pm_W), d + k = n → k < D → Fr w u → Iv N (cS u (17 + d)) → ∃ v, f_X3_tryTurn F D u (nI d) (nI n) = some (nI (mm N (w.1 4 0) k (decide (d % 2 = 0)) (cS u (17 + d))), v) ∧ Fr u v ∧ (∀ j, j ≤ d → cS v (17 + j) = cS u (17 + j)) ∧ (1 ≤ d → v.1 16 0 4 = u.1 16 0 4) ∧ (d = 0 → ∀ q p, k = q + 1 → rt N (w.1 4 0) q true (cS u 17) = some p → v.1 16 0 4 = nI p.1) := by
  intro k
  induction k with
  | zero =>
    intro D d u hd hD fr iv
    obtain ⟨D, rfl⟩ : ∃ q, D = q + 1 := ⟨D - 1, by omega⟩
    refine ⟨u, ?_, Fr.refl u, fun _ _ => rfl, fun _ => rfl, fun _ q p h => by omega⟩
    have e : u.1 7 (17 + d) 1 = cS u (17 + d) 5 := cS_f (by omega) (by omega)
    rw [f_X3_tryTurn]
    unfold f_X3_tryTurn_B
    rw [if_neg (nI_pos (by omega)), show (5 : Int32) = nI 5 from rfl, if_pos (by rw [nx_le (by omega) (by omega)]; omega), nx_in (show d < 6 by omega) (by omega), if_pos rfl, if_pos (by rw [nx_le (by omega) (by omega)]; omega), nx_cl (by omega), e, (ln_e iv).1]; rfl
  | succ k ih =>
    intro D d u hd hD fr iv
    obtain ⟨D, rfl⟩ : ∃ q, D = q + 1 := ⟨D - 1, by omega⟩
    generalize hlg : decide (d % 2 = 0) = lg at ih ⊢
    have hlg2 : decide ((d + 1) % 2 = 0) = !lg := by
      rw [← hlg]
      rcases Nat.mod_two_eq_zero_or_one d with h | h
      · have : (d + 1) % 2 = 1 := by omega
        rw [h, this]; rfl
      · have : (d + 1) % 2 = 0 := by omega
        rw [h, this]; rfl
    generalize hf : (fun c => match stp N (w.1 4 0) (cS u (17 + d)) c with | none => 0 | some T => mm N (w.1 4 0) k (!lg) T) = f
    have L : ∀ (m q i : Nat) (u' : pm_W) (b : Option (Nat × Nat)), i + m = N + 1 → m < q → Fr u u' → (∀ j, j ≤ d → cS u' (17 + j) = cS u (17 + j)) → Bdo b → BO d u u' b → ∃ v y, f_X3_tryTurn_L40 F (f_X3_tryTurn F D) q u' (nI d) (nI n) (17 + d) (17 + (d + 1)) (bi lg) (eb b) (nI i) = some (eb (bcF lg f m i b), y, v) ∧ Fr u v ∧ (∀ j, j ≤ d → cS v (17 + j) = cS u (17 + j)) ∧ BO d u v (bcF lg f m i b) := by
      intro m
      induction m with
      | zero =>
        intro q i u' b hi hq fr' sm bd bo
        obtain ⟨q, rfl⟩ : ∃ z, q = z + 1 := ⟨q - 1, by omega⟩
        exact ⟨u', _, by rw [f_X3_tryTurn_L40, (fr.trans fr').seat.1, hN, if_pos (by rw [nx_lt (by omega) (by omega)]; omega)]; rfl, fr', sm, bo⟩
      | succ m ih2 =>
        intro q i u' b hi hq fr' sm bd bo
        obtain ⟨q, rfl⟩ : ∃ z, q = z + 1 := ⟨q - 1, by omega⟩
        have frw := fr.trans fr'
        have hN' : u'.1 3 0 3 = nI N := by rw [frw.seat.1]; exact hN
        have fu : ∀ T, Fr u (cPut u' (17 + (d + 1)) T) := fun T => fr'.trans (Fr_cPut (by omega))
        have su : ∀ T j, j ≤ d → cS (cPut u' (17 + (d + 1)) T) (17 + j) = cS u (17 + j) := fun T j hj => by rw [cS_cPut_ne (by omega)]; exact sm j hj
        have bu : ∀ T, (cPut u' (17 + (d + 1)) T).1 16 0 4 = u'.1 16 0 4 := fun T => cPut_o (by decide) (by decide)
        -- one who can
        have go : ∀ T, stp N (w.1 4 0) (cS u (17 + d)) i = some T → ∃ v y, ((f_X3_tryTurn F D (cPut u' (17 + (d + 1)) T) (nI (d + 1)) (nI n)).bind fun r11 => (if eb b = (-9) then (pm_wlet (pm_setI r11.2 16 0 4 (if nI d = 0 then nI i else r11.2.1 16 0 4 : Int32)) fun w14 => f_X3_tryTurn_L40 F (f_X3_tryTurn F D) q w14 (nI d) (nI n) (17 + d) (17 + (d + 1)) (bi lg) r11.1 (nI (i + 1))) else (if bi lg = 0 then (if eb b ≤ r11.1 then f_X3_tryTurn_L40 F (f_X3_tryTurn F D) q r11.2 (nI d) (nI n) (17 + d) (17 + (d + 1)) (bi lg) (eb b) (nI (i + 1)) else (pm_wlet (pm_setI r11.2 16 0 4 (if nI d = 0 then nI i else r11.2.1 16 0 4 : Int32)) fun w18 => f_X3_tryTurn_L40 F (f_X3_tryTurn F D) q w18 (nI d) (nI n) (17 + d) (17 + (d + 1)) (bi lg) r11.1 (nI (i + 1)))) else (if r11.1 ≤ eb b then f_X3_tryTurn_L40 F (f_X3_tryTurn F D) q r11.2 (nI d) (nI n) (17 + d) (17 + (d + 1)) (bi lg) (eb b) (nI (i + 1)) else (pm_wlet (pm_setI r11.2 16 0 4 (if nI d = 0 then nI i else r11.2.1 16 0 4 : Int32)) fun w21 => f_X3_tryTurn_L40 F (f_X3_tryTurn F D) q w21 (nI d) (nI n) (17 + d) (17 + (d + 1)) (bi lg) r11.1 (nI (i + 1))))))) = some (eb (bcF lg f (m + 1) i b), y, v) ∧ Fr u v ∧ (∀ j, j ≤ d → cS v (17 + j) = cS u (17 + j)) ∧ BO d u v (bcF lg f (m + 1) i b) := by
          intro T hT
          have nT := stp_nm h5 (cS_nm u (17 + d)) hT
          have iT := stp_iv h5 hK iv hT
          have mb := mm_bd h5 hK k (!lg) T iT
          obtain ⟨v1, e1, f1, s1, o1, _⟩ := ih D (d + 1) (cPut u' (17 + (d + 1)) T) (by omega) (by omega) (fr.trans (fu T)) (by rw [cS_cPut nT]; exact iT)
          rw [cS_cPut nT, hlg2] at e1
          have f_i : f i = mm N (w.1 4 0) k (!lg) T := by rw [← hf]; simp only [hT]
          have o2 : v1.1 16 0 4 = u'.1 16 0 4 := (o1 (by omega)).trans (bu T)
          obtain ⟨v2, e2, x2, y2, b2⟩ := aft (fun W y => f_X3_tryTurn_L40 F (f_X3_tryTurn F D) q W (nI d) (nI n) (17 + d) (17 + (d + 1)) (bi lg) y (nI (i + 1))) (u := u) (v := v1) (b := b) (lg := lg) (x := mm N (w.1 4 0) k (!lg) T) (i := i) (d := d) bd mb.2 (by omega) (fun h => by rw [o2]; exact bo.2 h) (fun h p hp => by rw [o2]; exact bo.1 h p hp)
          rw [e1, Option.bind_some]
          have st : bcF lg f (m + 1) i b = bcF lg f m (i + 1) (bup lg b i (mm N (w.1 4 0) k (!lg) T)) := by
            rw [show bcF lg f (m + 1) i b = bcF lg f m (i + 1) (if f i = 0 then b else bup lg b i (f i)) from rfl, if_neg (by omega), f_i]
          rw [st]
          obtain ⟨v3, y3, e3, r3⟩ := ih2 q (i + 1) v2 (bup lg b i (mm N (w.1 4 0) k (!lg) T)) (by omega) (by omega) (Fr_16 ((fu T).trans f1) x2 y2) (fun j hj => by
            rw [cS_of (w := v1) (fun a c ha => x2 a _ c (by omega)), s1 j (by omega)]
            exact su T j hj) (Bdo_up bd (by omega) mb.1 mb.2) b2
          exact ⟨v3, y3, e2.trans e3, r3⟩
        rw [f_X3_tryTurn_L40, hN', if_neg (by rw [nx_lt (by omega) (by omega)]; omega), become_e F hF, Option.bind_some, sm d (Nat.le_refl _), nx_s, nx_s]
        by_cases c0 : i = 0
        · subst c0
          rw [if_pos (show nI 0 = 0 from rfl)]
          exact go (cS u (17 + d)) rfl
        · rw [if_neg (by rw [show (0 : Int32) = nI 0 from rfl, nx_eq (by omega) (by omega)]; exact c0), show nI i - 1 = nI (i - 1) from nI_sb (b := 1) (by omega)]
          have sc := sic_ct F (w := u') (N := N) (i := 17 + (d + 1)) (S := cS u (17 + d)) (x := nI (i - 1)) hF hN' h5 (by rw [frw.seat.2]; exact hK) (cS_nm u (17 + d))
          rw [frw.seat.2] at sc
          have es : stp N (w.1 4 0) (cS u (17 + d)) i = sic N (w.1 4 0) (cS u (17 + d)) (nI (i - 1)) := if_neg c0
          rw [sc, Option.bind_some]
          cases e : sic N (w.1 4 0) (cS u (17 + d)) (nI (i - 1)) with
          | none =>
            dsimp only
            rw [if_pos rfl]
            have f_i : f i = 0 := by rw [← hf]; simp only [es, e]
            have st : bcF lg f (m + 1) i b = bcF lg f m (i + 1) b := by
              rw [show bcF lg f (m + 1) i b = bcF lg f m (i + 1) (if f i = 0 then b else bup lg b i (f i)) from rfl, if_pos f_i]
            rw [st]
            exact ih2 q (i + 1) _ b (by omega) (by omega) (fu _) (su _) bd ⟨fun h p hp => by rw [bu]; exact bo.1 h p hp, fun h => by rw [bu]; exact bo.2 h⟩
          | some T =>
            dsimp only
            rw [if_neg (by decide)]
            exact go T (by rw [es, e])
    obtain ⟨v, y, e, g1, g2, g3⟩ := L (N + 1) F 0 u none (by omega) (by omega) (Fr.refl u) (fun _ _ => rfl) Bdo_none ⟨fun _ p h => (by cases h), fun _ => rfl⟩
    have er : bcF lg f (N + 1) 0 none = rt N (w.1 4 0) k lg (cS u (17 + d)) := by rw [← hf]; exact rt_cut h5
    rw [er] at e g3
    obtain ⟨p, hp⟩ := rt_some h5 hK (k := k) (lg := lg) iv
    refine ⟨v, ?_, g1, g2, g3.2, fun h q p' hq hp' => ?_⟩
    · rw [f_X3_tryTurn]
      unfold f_X3_tryTurn_B
      rw [show eb none = -9 from rfl, show nI 0 = (0 : Int32) from rfl] at e
      have pr := par ⟨d, by omega⟩
      rw [if_neg (nI_pos (by omega)), show (5 : Int32) = nI 5 from rfl, if_pos (by rw [nx_le (by omega) (by omega)]; omega), nx_in (show d < 6 by omega) (by omega), if_pos rfl, if_neg (by rw [nx_le (by omega) (by omega)]; omega), if_neg (by rw [nx_eq (by omega) (by omega)]; omega), nx_s, nx_in (show d + 1 < 6 by omega) (by omega), if_pos rfl, nx_cl (by omega), nx_cl (by omega), show (if nI d - nI d / 2 * 2 = 0 then 1 else 0 : Int32) = bi lg from by rw [← hlg]; exact pr, e, Option.bind_some, mm_s, hp]; rfl
    · have : q = k := by omega
      subst this
      subst h
      have : lg = true := by rw [← hlg]; rfl
      subst this
      exact g3.1 rfl p' hp'
