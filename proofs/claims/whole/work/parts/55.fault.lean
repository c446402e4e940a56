/-! ===== fault ===== -/
theorem tD_cg {C E : Nat → Int32} {n : Nat} (h : ∀ k, k < n → C k = E k) (k : Nat) : tD C n k = tD E n k := by
  unfold tD
  by_cases c : k < n
  · rw [if_pos c, if_pos c, h k c]
  · rw [if_neg c, if_neg c]
theorem gD_cg {C E : Nat → Int32} {n : Nat} (h : ∀ k, k < n → C k = E k) (k : Nat) : gD C n k = gD E n k := by
  unfold gD; rw [tD_cg h]
theorem tL_cg {C E : Nat → Int32} {n : Nat} (h : ∀ k, k < n → C k = E k) : tL C n = tL E n := by
  unfold tL; rw [gD_cg h, gD_cg h]
theorem tF_cg {C E : Nat → Int32} {n : Nat} (h : ∀ k, k < n → C k = E k) (i : Nat) : tF C n i = tF E n i := by
  unfold tF; rw [gD_cg h, gD_cg h]
theorem nIn_cg {C E : Nat → Int32} {n v : Nat} (h : ∀ k, k < n → C k = E k) : ∀ g, nIn C n v g = nIn E n v g
  | 0 => rfl
  | g + 1 => by unfold nIn; rw [nIn_cg h g, tF_cg h]
theorem fre_cg {C E : Nat → Int32} {n g v : Nat} (h : ∀ k, k < n → C k = E k) : fre C n g v = fre E n g v := by
  unfold fre; rw [tL_cg h, nIn_cg h]
theorem anF_cg {C E : Nat → Int32} {n g v : Nat} (h : ∀ k, k < n → C k = E k) : ∀ m, anF C n g v m = anF E n g v m
  | 0 => rfl
  | m + 1 => by unfold anF; rw [anF_cg h m, fre_cg h]
theorem fit_cg {C E : Nat → Int32} {n k : Nat} (h : ∀ k, k < n → C k = E k) (hk : k < n) : fit C n k = fit E n k := by
  unfold fit
  by_cases c : k < 5
  · rw [if_pos c, if_pos c]
    unfold fitH
    rw [tD_cg h, gD_cg h, h 0 (by omega)]
  · rw [if_neg c, if_neg c]
    unfold fitG
    by_cases d : (k - 5) % 6 = 0
    · rw [if_pos d, if_pos d, tL_cg h, h (5 + 6 * ((k - 5) / 6)) (by omega)]
    · rw [if_neg d, if_neg d, tD_cg h]
      cases tD E n (5 + 6 * ((k - 5) / 6) + (k - 5) % 6) with
      | none => rfl
      | some x =>
        show (if (k - 5) % 6 = 1 then anF C n ((k - 5) / 6) (10 * x) 10 else if (k - 5) % 6 = 2 then fre C n ((k - 5) / 6) (10 * gD C n (5 + 6 * ((k - 5) / 6) + 1) + x) else _) = (if (k - 5) % 6 = 1 then anF E n ((k - 5) / 6) (10 * x) 10 else if (k - 5) % 6 = 2 then fre E n ((k - 5) / 6) (10 * gD E n (5 + 6 * ((k - 5) / 6) + 1) + x) else _)
        rw [anF_cg h, gD_cg h, fre_cg h]
theorem ffs_cg {C E : Nat → Int32} {n : Nat} (h : ∀ k, k < n → C k = E k) : ∀ (m k : Nat), k + m = n → ffs C n m k = ffs E n m k
  | 0, _, _ => rfl
  | m + 1, k, hk => by
    unfold ffs
    rw [fit_cg h (by omega), ffs_cg h m (k + 1) (by omega)]
theorem AF_cg {C E : Nat → Int32} {n k : Nat} (h : ∀ k, k < n → C k = E k) (hk : k ≤ n) (A : AF C n k) : AF E n k := fun j hj => by
  rw [← fit_cg h (by omega)]; exact A j hj
theorem k_fault (F : Nat) (hF : 50 ≤ F) {w : pm_W} (H : Rel w) : ∃ r w2, f_X7_fault F w = some r ∧ f_X8_fault F w = some (r, w2) ∧ Rel w2 := by
  obtain ⟨n, N, A, X, D, HP⟩ := H
  obtain ⟨t1, t2, t3, t4⟩ := HP.1
  unfold f_X7_fault f_X8_fault
  obtain ⟨v, hv, fr, _⟩ := readT F (w := w) (by omega) t1 t3
  rw [← ffs_cg t4 n 0 (by omega)] at hv
  exact ⟨_, v, by rw [ffC F hF t2 t1]; rfl, by rw [hv]; rfl, n, N, A, X, D, RelP_Fr fr HP⟩
