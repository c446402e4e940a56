/-! ===== say, pass, fetch, undo, keep, again ===== -/
/-- behind an act of both: the class has remembered, its seat is S; the reference has kept, its seat is T -/
theorem act_rel {w v u : pm_W} {n N A X D : Nat} (H : RelP w n N A X D) {S T : St} (nS : Nm S) (nT : Nm T) (hST : SR N S T)
    (v1 : v.1 9 0 1 = nI (A1 A)) (v2 : ∀ a b c, ¬ (a = 9 ∧ c = 1) → ¬ ((a = 7 ∨ a = 8) ∧ 1 ≤ b ∧ b ≤ 14) → v.1 a b c = w.1 a b c) (v3 : v.2.1 = w.2.1) (v4 : ∀ a b, a < 14 → b < 14 → v.2.2 a = v.2.2 b → a = b) (v5 : ∀ a, a < 14 → 1 ≤ v.2.2 a ∧ v.2.2 a ≤ 14) (v6 : cS v (v.2.2 (A1 A - 1)) = cS w 0) (v7 : ∀ j, 1 ≤ j → j < A1 A → cS v (v.2.2 (A1 A - 1 - j)) = cS w (w.2.2 (A - 1 - (j - 1))))
    (u1 : u.1 19 0 19 = nI (A1 A)) (u2 : u.1 19 0 20 = nI ((X + 1) % 14)) (u3 : ∀ a b c, ¬ a = 29 → ¬ (a = 19 ∧ (c = 19 ∨ c = 20)) → u.1 a b c = (cPut v 0 S).1 a b c) (u4 : u.2 = v.2) (u5 : rS u X = mS w 0) (u6 : ∀ k, k ≠ X → rS u k = rS w k) : RelP (mPut u 0 T) n N (A1 A) ((X + 1) % 14) D := by
  obtain ⟨h1, h2, h3, ⟨a1, a2, a3, a4, a5, a6, a7, a8⟩, h5, h6, h7⟩ := H
  have hA1 : A1 A ≤ 14 := by unfold A1; split <;> omega
  have hA2 : A1 A ≤ A + 1 := by unfold A1; split <;> omega
  have hA3 : 1 ≤ A1 A := by unfold A1; split <;> omega
  have all : ∀ a b c, ¬ (a = 23 ∧ c < 9) → ¬ a = 29 → ¬ (a = 19 ∧ (c = 19 ∨ c = 20)) → ¬ ((a = 7 ∨ a = 8) ∧ b = 0) → ¬ (a = 9 ∧ c = 1) → ¬ ((a = 7 ∨ a = 8) ∧ 1 ≤ b ∧ b ≤ 14) → (mPut u 0 T).1 a b c = w.1 a b c := by
    intro a b c n1 n2 n3 n4 n5 n6
    rw [mPut_ne (by omega), u3 a b c n2 n3, cPut_ne (by omega), v2 a b c n5 n6]
  have csu : ∀ i, cS (mPut u 0 T) i = cS (cPut v 0 S) i := fun i => cS_of (w := cPut v 0 S) (fun a c ha => by rw [mPut_ne (by omega), u3 a i c (by omega) (by omega)])
  refine ⟨TxR_of (fun a b c s => all a b c ?_ ?_ ?_ ?_ ?_ ?_) h1, TbR_of (fun a b c s => all a b c ?_ ?_ ?_ ?_ ?_ ?_) h2, ?_, ⟨hA1, by omega, ?_, ?_, ?_, fun j hj => ?_, ?_, ?_⟩, KpR_of (fun a b c s => all a b c ?_ ?_ ?_ ?_ ?_ ?_) h5, DnR_of (fun a b c s => all a b c ?_ ?_ ?_ ?_ ?_ ?_) h6, ?_⟩
  any_goals (unfold sTx at s; omega)
  any_goals (unfold sTb at s; omega)
  any_goals (unfold sKp at s; omega)
  any_goals (unfold sDn at s; omega)
  · unfold NwR
    rw [csu, cS_cPut nS, mS_mPut nT]
    exact hST
  · rw [mPut_ne (by omega), u3 _ _ _ (by omega) (by omega), cPut_ne (by omega)]; exact v1
  · rw [mPut_ne (by omega)]; exact u1
  · rw [mPut_ne (by omega)]; exact u2
  · show SR N (cS (mPut u 0 T) (u.2.2 (A1 A - 1 - j))) (rS (mPut u 0 T) (((X + 1) % 14 + 13 - j) % 14))
    have hb := v5 (A1 A - 1 - j) (by omega)
    rw [u4, csu, cS_cPut_ne (by omega), rS_of (w := u) (fun c => mPut_ne (by omega))]
    by_cases hj0 : j = 0
    · subst hj0
      rw [show A1 A - 1 - 0 = A1 A - 1 by omega, v6, show ((X + 1) % 14 + 13 - 0) % 14 = X by omega, u5]
      exact h3
    · rw [v7 j (by omega) hj, u6 _ (by omega), show ((X + 1) % 14 + 13 - j) % 14 = (X + 13 - (j - 1)) % 14 by omega]
      exact a6 (j - 1) (by omega)
  · show ∀ a b, a < 14 → b < 14 → u.2.2 a = u.2.2 b → a = b
    rw [u4]; exact v4
  · show ∀ a, a < 14 → 1 ≤ u.2.2 a ∧ u.2.2 a ≤ 14
    rw [u4]; exact v5
  · show u.2.1 0 = u.2.1 19
    rw [u4, v3]; exact h7
