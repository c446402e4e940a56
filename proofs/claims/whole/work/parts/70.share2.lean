/-! ===== share ===== -/
theorem k_share (F : Nat) (hF : 8000 ≤ F) {w : pm_W} (H : Rel w) (x u : Int32) : ∃ r w1 w2, f_X7_share F w x u = some (r, w1) ∧ f_X8_share F w1 x u = some (r, w2) ∧ Rel w2 := by
  have H0 := H
  obtain ⟨n, N, A, X, D, HP⟩ := H
  have hb := HP.2.1
  have h5 := hb.1
  have p2 := p2_le h5
  have q1 : ¬ (1 : Int32) = 0 := by decide
  unfold f_X7_share f_X8_share
  cases hf : fnd N x with
  | none =>
    rw [knows_out F hb.2.1 h5 (fnd_none hf), Option.bind_some, if_pos rfl]
    exact ⟨-1, w, w, rfl, by rw [isGuest_out F hb.2.2.1 h5 (fnd_none hf), Option.bind_some, if_pos rfl], H0⟩
  | some g =>
    obtain ⟨hg, rfl⟩ := fnd_some hf
    rw [knows_in F hb.2.1 h5 hg, Option.bind_some, if_neg q1]
    unfold f_X1_shareOf f_J9_min
    obtain ⟨v, y, e1, f1⟩ := sho_L F (by omega) (g := g) (z3 := u) HP hg (2 ^ N) F 0 w (by omega) (by omega) (Fr.refl w)
    rw [show nI 0 = (0 : Int32) from rfl, show shr N g (mcw w N) 0 = 0 from rfl] at e1
    rw [e1, Option.bind_some]
    dsimp only
    have v3 : v.1 3 0 3 = nI N := by rw [f1.seat.1]; exact hb.2.1
    have hmn : (if (5 : Int32) < nI N then 5 else nI N) = nI N := if_neg (by rw [show (5 : Int32) = nI 5 from rfl, nx_lt (by omega) (by omega)]; omega)
    obtain ⟨fe1, fe2, fe3⟩ := fac_e ⟨N, by omega⟩
    have fe1 : pm_st 38 N = nI (fac N) := fe1
    have fe2 : 1 ≤ fac N := fe2
    have fe3 : fac N ≤ 120 := fe3
    obtain ⟨a, b, es, ba, bb⟩ := sh_bd (mc := mcw w N) h5 hg (fun p hp => bst_5 F (by omega) HP hp) (2 ^ N) (Nat.le_refl _)
    obtain ⟨c, hc, ec⟩ := ab_sub (a := a) (b := b) (by omega) (by omega)
    rw [← es] at ec
    rw [Option.bind_some, v3, hmn, nx_in (show N < 6 by omega) (by omega), if_pos rfl, nx_cl (by omega), fe1, ltm_c F (by omega) ec (by omega) (by omega) (by omega), Option.bind_some]
    have g19 : v.1 19 0 0 = nI N := by rw [f1.1 19 0 0 (by unfold sFr; omega)]; exact hb.2.2.1
    obtain ⟨v2, y2, e2, f2, hv2⟩ := shm_L8 F hF (z1 := nI g) (z2 := u) HP (2 ^ N) F 0 v (by omega) (by omega) f1 (fun j hj => by omega)
    have k19 : v2.1 19 0 0 = nI N := by rw [f2.1 19 0 0 (by unfold sFr; omega)]; exact hb.2.2.1
    obtain ⟨y3, e3⟩ := shm_L28 F (by omega) (v := v2) (z2 := u) h5 k19 hg hv2 (2 ^ N) F 0 (by omega) (by omega)
    rw [show nI 0 = (0 : Int32) from rfl] at e2 e3
    rw [show shr N g (mcw w N) 0 = 0 from rfl] at e3
    refine ⟨_, v, v2, rfl, ?_, n, N, A, X, D, RelP_Fr f2 HP⟩
    rw [isGuest_in F g19 h5 hg, Option.bind_some, if_neg q1, e2, Option.bind_some]
    dsimp only
    rw [e3, Option.bind_some]
    dsimp only
    have hgc : Nat.gcd c (fac N) ≤ fac N := Nat.gcd_le_right _ (by omega)
    have hg0 : Nat.gcd c (fac N) ≠ 0 := fun z => by have := (Nat.gcd_eq_zero_iff.mp z).2; omega
    obtain ⟨z1, z2⟩ := nz_nI hg0 (by omega)
    rw [k19, fac_m F (by omega) h5, Option.bind_some, gdv_m F (by omega) ec hc (by omega), Option.bind_some, Option.bind_some, z2]
    unfold ltm
    by_cases d : u = 0
    · rw [if_pos d, if_pos d]; rfl
    · rw [if_neg d, if_neg d]; rfl
