theorem Iv_eq {N : Nat} {S T : St} (h : eqN N S T) (iv : Iv N S) : Iv N T := by
  obtain ⟨l, h1, h2, h3, h4, m, hm, h8⟩ := iv
  exact ⟨l, h1, h2, by rw [← h 5 (Or.inr ⟨by omega, by omega⟩)]; exact h3, fun j hj => by rw [← h j (Or.inl hj)]; exact h4 j hj, m, hm, by rw [← h 8 (Or.inr ⟨by omega, by omega⟩)]; exact h8⟩
theorem rt_eq {N : Nat} {K L : Nat → Int32} {k : Nat} {lg : Bool} {S T : St} (h5 : N ≤ 5) (hK : KdA N K) (hA : Agr N K L) (h : SR N S T) (nS : Nm S) (nT : Nm T) : rt N K k lg S = rt N L k lg T := by
  unfold rt
  refine congrArg (fun f => bcF lg f 6 0 none) (funext fun c => ?_)
  have o := stp_OR h5 hK hA h nS nT c
  cases h1 : stp N K S c with
  | none =>
    cases h2 : stp N L T c with
    | none => rfl
    | some T2 => rw [h1, h2] at o; exact o.elim
  | some S2 =>
    cases h2 : stp N L T c with
    | none => rw [h1, h2] at o; exact o.elim
    | some T2 =>
      rw [h1, h2] at o
      exact mm_eq h5 hK hA k (!lg) S2 T2 o.1 o.2.1 o.2.2
theorem k_hosts (F : Nat) (hF : 8000 ≤ F) {w : pm_W} (H : Rel w) (y flag : Int32) : ∃ r w1 w2, f_X7_hosts F w y flag = some (r, w1) ∧ f_X8_hosts F w1 y flag = some (r, w2) ∧ Rel w2 := by
  unfold f_X7_hosts f_X8_hosts
  have q1 : ¬ (1 : Int32) = 0 := by decide
  simp only [in_lit F _ y (lo := 1) (hi := 4) 1 4 rfl rfl, Option.bind_some]
  by_cases c3 : y < 1
  · exact ⟨-2, w, w, by rw [if_pos c3], by rw [if_pos c3, if_pos rfl], H⟩
  by_cases c4 : y ≤ 4
  · have c5 : ¬ 4 < y := Int32.not_lt.mpr c4
    obtain ⟨L, hL, rfl⟩ : ∃ m : Nat, m < 2147483648 ∧ y = nI m := nI_gt (fun h => c3 (Int32.lt_trans h (by decide)))
    have l4 : L ≤ 4 := by rw [show (4 : Int32) = nI 4 from rfl, nx_le (by omega) (by omega)] at c4; exact c4
    have l1 : L ≠ 0 := fun z => c3 (by rw [z]; decide)
    simp only [c3, c4, c5, if_false, if_true, q1]
    obtain ⟨n, N, A, X, D, HP⟩ := H
    have hb := HP.2.1
    have h3 := HP.2.2.1
    have h5 := hb.1
    unfold f_X3_lengthByTurns
    rw [trialFrom_e F (by omega), Option.bind_some, wlet_e]
    have c17 : cS (pm_setI (cPut w 17 (cS w 0)) 16 0 4 0) 17 = cS w 0 := by
      rw [cS_of (w := cPut w 17 (cS w 0)) (fun a c ha => setI_ne (by omega))]
      exact cS_cPut (cS_nm w 0)
    have frU : Fr w (pm_setI (cPut w 17 (cS w 0)) 16 0 4 0) := (Fr_cPut (by omega)).trans ⟨fun a b c s => setI_ne (by unfold sFr at s; omega), rfl⟩
    obtain ⟨v, e1, f1, _, _, o1⟩ := tryT F (w := w) (N := N) (n := L) (by omega) hb.2.1 h5 hb.kd l4 L 8 0 _ (by omega) (by omega) frU (by rw [show 17 + 0 = 17 from rfl, c17]; exact h3.2)
    rw [show 17 + 0 = 17 from rfl, c17, show nI 0 = (0 : Int32) from rfl, show decide (0 % 2 = 0) = true from rfl] at e1
    rw [c17] at o1
    obtain ⟨k, hk⟩ : ∃ k, L = k + 1 := ⟨L - 1, by omega⟩
    obtain ⟨p, hp⟩ := rt_some h5 hb.kd (k := k) (lg := true) h3.2
    have o2 := o1 rfl k p hk hp
    rw [e1, Option.bind_some, Option.bind_some]
    dsimp only
    have fr := frU.trans f1
    have e0 : mS v 0 = mS w 0 := mS_of (fun n hn => fr.1 23 0 _ (by unfold sFr; omega))
    have e20 : v.1 20 0 = w.1 20 0 := funext fun c => fr.1 20 0 c (by unfold sFr; omega)
    have e19 : v.1 19 0 0 = nI N := by rw [fr.1 19 0 0 (by unfold sFr; omega)]; exact hb.2.2.1
    have kd2 : KdA N (w.1 20 0) := fun g hg => by rw [← hb.agk g hg]; exact hb.kd g hg
    have iv2 : Iv N (mS w 0) := Iv_eq h3.1 h3.2
    obtain ⟨x1, x2, x3⟩ := six_e L (by omega)
    obtain ⟨u1, y1, g1, g2, g3⟩ := hst_L10 F (w := v) (N := N) (k := L) (z2 := flag) (by omega) e19 h5 l4 (by rw [e20]; exact kd2) (by rw [e0]; exact iv2) (6 ^ L) F 0 v (by omega) (by omega) (Fr.refl v) (fun j hj => by omega)
    rw [e20, e0] at g3
    rw [show nI 0 = (0 : Int32) from rfl] at g1
    obtain ⟨u2, x', y2, k1, k2, k3, k4⟩ := hst_L31 F (w := v) (N := N) (n := L) (K := w.1 20 0) (S := mS w 0) (z1 := nI L) (z2 := flag) (by omega) h5 kd2 iv2 l4 L F u1 0 (by omega) (by omega) g2 g3
    have m0 : mmv N (w.1 20 0) L (mS w 0) 0 0 = mm N (w.1 4 0) L true (cS w 0) := by
      rw [mm_eq h5 hb.kd hb.agk L true (cS w 0) (mS w 0) h3 (cS_nm w 0) (mS_nm w 0)]; rfl
    have r0 : rt N (w.1 20 0) (L - 1) true (mS w 0) = some p := by
      rw [show L - 1 = k by omega, ← rt_eq h5 hb.kd hb.agk h3 (cS_nm w 0) (mS_nm w 0)]; exact hp
    refine ⟨_, v, u2, rfl, ?_, n, N, A, X, D, RelP_Fr k2 (RelP_Fr fr HP)⟩
    rw [g1, Option.bind_some]
    dsimp only
    rw [k1, Option.bind_some]
    dsimp only
    rw [k3, k4 (by omega), r0, m0, o2]
    by_cases d : flag = 0
    · rw [if_pos d, if_pos d]
    · rw [if_neg d, if_neg d]; rfl
  · have c5 : 4 < y := Int32.not_le.mp c4
    exact ⟨-2, w, w, by rw [if_neg c3, if_neg c4], by rw [if_neg c3, if_pos c5, if_pos rfl], H⟩
