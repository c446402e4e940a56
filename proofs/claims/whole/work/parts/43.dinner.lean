/-! ===== dinner ===== -/
theorem nI_gt {x : Int32} (h : ¬ x < 0) : ∃ m : Nat, m < 2147483648 ∧ x = nI m := by
  refine ⟨x.toNatClampNeg, ?_, ?_⟩
  · have := x.toInt_lt
    unfold Int32.toNatClampNeg
    omega
  · unfold nI
    apply Int32.toInt_inj.mp
    have h1 : 0 ≤ x.toInt := by
      have := Int32.not_lt.mp h
      rw [Int32.le_iff_toInt_le] at this
      exact this
    have h2 := x.toInt_lt
    rw [Int32.toInt_ofNat']
    unfold Int32.toNatClampNeg
    rw [Int.bmod_def, show Int32.size = 4294967296 from rfl]
    omega
theorem RelP_Fr0 {w v : pm_W} {n N A X D : Nat} (h : Pt sFr w v) (h2 : v.2.2 = w.2.2) (hs : v.2.1 0 = v.2.1 19) (H : RelP w n N A X D) : RelP v n N A X D := by
  obtain ⟨h1, hb, h3, h4, h5, h6, h7⟩ := H
  refine ⟨TxR_of (fun a b c s => h a b c ?_) h1, TbR_of (fun a b c s => h a b c ?_) hb, NwR_of (fun a b c s => h a b c ?_) h3, AcR_of (fun a b c s => h a b c ?_) h2 h4, KpR_of (fun a b c s => h a b c ?_) h5, DnR_of (fun a b c s => h a b c ?_) h6, hs⟩
  · unfold sTx at s; unfold sFr; omega
  · unfold sTb at s; unfold sFr; omega
  · unfold sNw at s; unfold sFr; omega
  · unfold sAc at s; unfold sFr; omega
  · unfold sKp at s; unfold sFr; omega
  · unfold sDn at s; unfold sFr; omega
theorem wJ_self (w : pm_W) (k : Nat) : wJ w k (w.2.1 k) = w := by
  unfold wJ pm_setJ
  refine Prod.ext rfl (Prod.ext (funext fun q => ?_) rfl)
  by_cases h : q = k
  · simp [h]
  · simp [h]
theorem dnr_nm {N : Nat} {K : Nat → Int32} (h5 : N ≤ 5) : ∀ (m : Nat) (x : Int64) (S : St), Nm S → Nm (dnr N K m x S).2
  | 0, _, _, h => h
  | m + 1, x, S, h => by
    unfold dnr
    cases h1 : sic N K S (sdX (sdN x)) with
    | none => exact dnr_nm h5 m _ S h
    | some S2 => exact dnr_nm h5 m _ S2 (sic_nm h5 h h1)
theorem k_dinner (F : Nat) (hF : 40 ≤ F) {w : pm_W} (H : Rel w) (x : Int32) : ∃ r w1 w2, f_X7_dinner F w x = some (r, w1) ∧ f_X8_dinner F w1 x = some (r, w2) ∧ Rel w2 := by
  unfold f_X7_dinner f_X8_dinner
  have H0 := H
  simp only [in_lit F _ x (lo := 1) (hi := 30) 1 30 rfl rfl, Option.bind_some]
  by_cases a1 : x < 1
  · exact ⟨-2, w, w, by rw [if_pos a1], by rw [if_pos a1, if_pos rfl], H0⟩
  · by_cases a2 : x ≤ 30
    · have a3 : ¬ 30 < x := Int32.not_lt.mpr a2
      have q1 : ¬ (1 : Int32) = 0 := by decide
      obtain ⟨n, N, A, X, D, HP⟩ := H
      have H1 := HP
      obtain ⟨h1, hb, h3, h4, h5, h6, h7⟩ := H1
      obtain ⟨M, hM, rfl⟩ : ∃ m : Nat, m < 2147483648 ∧ x = nI m := nI_gt (fun h => a1 (Int32.lt_trans h (by decide)))
      have hM2 : M ≤ 30 := by rw [show (30 : Int32) = nI 30 from rfl, nx_le (by omega) (by omega)] at a2; exact a2
      simp only [a1, a2, a3, if_false, if_true, q1, trialFrom_e F (w := w) (k := 0) (by omega), Option.bind_some]
      have e1 := dinner_cL F (w := w) (N := N) (M := M) (by omega) hb.2.1 hb.1 hb.kd hM2 M F 0 (w.2.1 0) (cS w 0) (by omega) (by omega) (cS_nm w 0)
      rw [wJ_self] at e1
      rw [show (0 : Int32) = nI 0 from rfl, e1, Option.bind_some]
      have R := dnr_rel hb.1 hb.kd hb.agk M (w.2.1 0) (cS w 0) (mS w 0) h3 (cS_nm w 0) (mS_nm w 0)
      have nm1 := dnr_nm (K := w.1 4 0) hb.1 M (w.2.1 0) (cS w 0) (cS_nm w 0)
      have nm2 := dnr_nm (K := w.1 20 0) hb.1 M (w.2.1 0) (mS w 0) (mS_nm w 0)
      generalize hp : dnr N (w.1 4 0) M (w.2.1 0) (cS w 0) = p at R nm1
      generalize hq : dnr N (w.1 20 0) M (w.2.1 0) (mS w 0) = q at R nm2
      obtain ⟨x1, S1⟩ := p
      obtain ⟨x2, S2⟩ := q
      obtain ⟨R1, R2⟩ := R
      dsimp only at R1 R2 nm1 nm2
      subst R1
      generalize hW : cPut (wJ w 0 x1) 17 S1 = W
      have w1 : ∀ a b c, ¬ ((a = 7 ∨ a = 8) ∧ b = 17) → W.1 a b c = w.1 a b c := fun a b c h => by rw [← hW, cPut_ne h]; rfl
      have w2 : W.2.1 19 = w.2.1 0 := by rw [← hW]; exact h7.symm
      have w20 : W.1 20 0 = w.1 20 0 := funext fun c => w1 20 0 c (by omega)
      have wm : mS W 0 = mS w 0 := mS_of (fun n hn => w1 23 0 _ (by omega))
      have e2 := dinner_mL F (w := W) (N := N) (M := M) (by omega) (by rw [w1 19 0 0 (by omega)]; exact hb.2.2.1) hb.1 hM2 M F 0 (W.2.1 19) (mS W 0) (by omega) (by omega) (mS_nm W 0)
      rw [wJ_self, w20, w2, wm, hq] at e2
      refine ⟨_, _, mPut (wJ W 19 x1) 1 S2, rfl, ?_, n, N, A, X, D, RelP_Fr0 (w := w) (fun a b c s => ?_) ?_ ?_ HP⟩
      · rw [layTrial_e F (by omega), Option.bind_some]
        dsimp only at e2 ⊢
        rw [wm, e2, Option.bind_some]
        have c1 : W.1 7 17 1 = S1 5 := by
          rw [← hW]; simp [cPut]
        have c2 : (mPut (wJ W 19 x1) 1 S2).1 23 0 14 = S2 5 := mPut_g (v := 1) (n := 5) (by omega)
        dsimp only
        rw [c1, c2, R2.1 5 (Or.inr ⟨by omega, by omega⟩)]
      · rw [mPut_ne (by unfold sFr at s; omega)]
        exact w1 a b c (by unfold sFr at s; omega)
      · rw [← hW]; rfl
      · show (wJ W 19 x1).2.1 0 = (wJ W 19 x1).2.1 19
        rw [wJ_g, ← hW]
        show (wJ w 0 x1).2.1 0 = x1
        exact wJ_g
    · have a3 : 30 < x := Int32.not_le.mp a2
      exact ⟨-2, w, w, by rw [if_neg a1, if_neg a2], by rw [if_neg a1, if_pos a3, if_pos rfl], H0⟩
