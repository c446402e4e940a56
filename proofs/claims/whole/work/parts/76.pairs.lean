/-! ===== each call, class and reference ===== -/
theorem g_write {w : pm_W} (H : Rel w) (a1 : Int32) : ∃ (r : Int32) (w1 w2 : pm_W), RT 16 56 [.inr (.inr (0, 0)), .inl a1] w (some (.inl r)) w1 ∧ RT 16 91 [.inr (.inr (19, 0)), .inl a1] w1 (some (.inl r)) w2 ∧ Rel w2 := by
  obtain ⟨r, w1, w2, h1, h2, h3⟩ := k_write 8000 H a1
  exact ⟨r, w1, w2, a_X7_write 8000 w a1 (r, w1) 16 (by omega) h1, a_X8_write 8000 w1 a1 (r, w2) 16 (by omega) h2, h3⟩
theorem g_wipe {w : pm_W} (H : Rel w) : ∃ (r : Int32) (w1 w2 : pm_W), RT 16 57 [.inr (.inr (0, 0))] w (some (.inl r)) w1 ∧ RT 16 92 [.inr (.inr (19, 0))] w1 (some (.inl r)) w2 ∧ Rel w2 := by
  obtain ⟨r, w1, w2, h1, h2, h3⟩ := k_wipe 8000 H
  exact ⟨r, w1, w2, a_X7_wipe 8000 w (r, w1) 16 (by omega) h1, a_X8_wipe 8000 w1 (r, w2) 16 (by omega) h2, h3⟩
theorem g_fault {w : pm_W} (H : Rel w) : ∃ (r : Int32) (w1 w2 : pm_W), RT 16 58 [.inr (.inr (0, 0))] w (some (.inl r)) w1 ∧ RT 16 99 [.inr (.inr (19, 0))] w1 (some (.inl r)) w2 ∧ Rel w2 := by
  obtain ⟨r, w2, h1, h2, h3⟩ := k_fault 8000 (by omega) H
  exact ⟨r, w, w2, a_X7_fault 8000 w r 16 (by omega) h1, a_X8_fault 8000 w (r, w2) 16 (by omega) h2, h3⟩
theorem g_lay {w : pm_W} (H : Rel w) : ∃ (r : Int32) (w1 w2 : pm_W), RT 16 59 [.inr (.inr (0, 0))] w (some (.inl r)) w1 ∧ RT 16 100 [.inr (.inr (19, 0))] w1 (some (.inl r)) w2 ∧ Rel w2 := by
  obtain ⟨r, w1, w2, h1, h2, h3⟩ := k_lay 8000 (by omega) H
  exact ⟨r, w1, w2, a_X7_lay 8000 w (r, w1) 16 (by omega) h1, a_X8_lay 8000 w1 (r, w2) 16 (by omega) h2, h3⟩
theorem g_guest {w : pm_W} (H : Rel w) (a1 : Int32) (a2 : Int32) : ∃ (r : Int32) (w1 w2 : pm_W), RT 16 60 [.inr (.inr (0, 0)), .inl a1, .inl a2] w (some (.inl r)) w1 ∧ RT 16 104 [.inr (.inr (19, 0)), .inl a1, .inl a2] w1 (some (.inl r)) w2 ∧ Rel w2 := by
  obtain ⟨r, h1, h2⟩ := k_guest 8000 (by omega) H a1 a2
  exact ⟨r, w, w, a_X7_guest 8000 w a1 a2 r 16 (by omega) h1, a_X8_guest 8000 w a1 a2 r 16 (by omega) h2, H⟩
theorem g_say {w : pm_W} (H : Rel w) (a1 : Int32) : ∃ (r : Int32) (w1 w2 : pm_W), RT 16 61 [.inr (.inr (0, 0)), .inl a1] w (some (.inl r)) w1 ∧ RT 16 112 [.inr (.inr (19, 0)), .inl a1] w1 (some (.inl r)) w2 ∧ Rel w2 := by
  obtain ⟨r, w1, w2, h1, h2, h3⟩ := k_say 8000 (by omega) H a1
  exact ⟨r, w1, w2, a_X7_say 8000 w a1 (r, w1) 16 (by omega) h1, a_X8_say 8000 w1 a1 (r, w2) 16 (by omega) h2, h3⟩
theorem g_pass {w : pm_W} (H : Rel w) (a1 : Int32) : ∃ (r : Int32) (w1 w2 : pm_W), RT 16 62 [.inr (.inr (0, 0)), .inl a1] w (some (.inl r)) w1 ∧ RT 16 113 [.inr (.inr (19, 0)), .inl a1] w1 (some (.inl r)) w2 ∧ Rel w2 := by
  obtain ⟨r, w1, w2, h1, h2, h3⟩ := k_pass 8000 (by omega) H a1
  exact ⟨r, w1, w2, a_X7_pass 8000 w a1 (r, w1) 16 (by omega) h1, a_X8_pass 8000 w1 a1 (r, w2) 16 (by omega) h2, h3⟩
theorem g_fetch {w : pm_W} (H : Rel w) : ∃ (r : Int32) (w1 w2 : pm_W), RT 16 63 [.inr (.inr (0, 0))] w (some (.inl r)) w1 ∧ RT 16 114 [.inr (.inr (19, 0))] w1 (some (.inl r)) w2 ∧ Rel w2 := by
  obtain ⟨r, w1, w2, h1, h2, h3⟩ := k_fetch 8000 (by omega) H
  exact ⟨r, w1, w2, a_X7_fetch 8000 w (r, w1) 16 (by omega) h1, a_X8_fetch 8000 w1 (r, w2) 16 (by omega) h2, h3⟩
theorem g_undo {w : pm_W} (H : Rel w) : ∃ (r : Int32) (w1 w2 : pm_W), RT 16 64 [.inr (.inr (0, 0))] w (some (.inl r)) w1 ∧ RT 16 115 [.inr (.inr (19, 0))] w1 (some (.inl r)) w2 ∧ Rel w2 := by
  obtain ⟨r, w1, w2, h1, h2, h3⟩ := k_undo 8000 (by omega) H
  exact ⟨r, w1, w2, a_X7_undo 8000 w (r, w1) 16 (by omega) h1, a_X8_undo 8000 w1 (r, w2) 16 (by omega) h2, h3⟩
theorem g_passes {w : pm_W} (H : Rel w) (a1 : Int32) : ∃ (r : Int32) (w1 w2 : pm_W), RT 16 65 [.inr (.inr (0, 0)), .inl a1] w (some (.inl r)) w1 ∧ RT 16 121 [.inr (.inr (19, 0)), .inl a1] w1 (some (.inl r)) w2 ∧ Rel w2 := by
  obtain ⟨r, w1, w2, h1, h2, h3⟩ := k_passes 8000 (by omega) H a1
  exact ⟨r, w1, w2, a_X7_passes 8000 w a1 (r, w1) 16 (by omega) h1, a_X8_passes 8000 w1 a1 (r, w2) 16 (by omega) h2, h3⟩
theorem g_longBy {w : pm_W} (H : Rel w) (a1 : Int32) (a2 : Int32) : ∃ (r : Int32) (w1 w2 : pm_W), RT 16 66 [.inr (.inr (0, 0)), .inl a1, .inl a2] w (some (.inl r)) w1 ∧ RT 16 124 [.inr (.inr (19, 0)), .inl a1, .inl a2] w1 (some (.inl r)) w2 ∧ Rel w2 := by
  obtain ⟨r, w1, w2, h1, h2, h3⟩ := k_longBy 8000 (by omega) H a1 a2
  exact ⟨r, w1, w2, a_X7_longBy 8000 w a1 a2 (r, w1) 16 (by omega) h1, a_X8_longBy 8000 w1 a1 a2 (r, w2) 16 (by omega) h2, h3⟩
theorem g_together {w : pm_W} (H : Rel w) (a1 : Int32) : ∃ (r : Int32) (w1 w2 : pm_W), RT 16 67 [.inr (.inr (0, 0)), .inl a1] w (some (.inl r)) w1 ∧ RT 16 125 [.inr (.inr (19, 0)), .inl a1] w1 (some (.inl r)) w2 ∧ Rel w2 := by
  obtain ⟨r, w1, w2, h1, h2, h3⟩ := k_together 8000 (by omega) H a1
  exact ⟨r, w1, w2, a_X7_together 8000 w a1 (r, w1) 16 (by omega) h1, a_X8_together 8000 w1 a1 (r, w2) 16 (by omega) h2, h3⟩
theorem g_judge {w : pm_W} (H : Rel w) (a1 : Int32) (a2 : Int32) : ∃ (r : Int32) (w1 w2 : pm_W), RT 16 68 [.inr (.inr (0, 0)), .inl a1, .inl a2] w (some (.inl r)) w1 ∧ RT 16 128 [.inr (.inr (19, 0)), .inl a1, .inl a2] w1 (some (.inl r)) w2 ∧ Rel w2 := by
  obtain ⟨r, w1, w2, h1, h2, h3⟩ := k_judge 8000 (by omega) H a1 a2
  exact ⟨r, w1, w2, a_X7_judge 8000 w a1 a2 (r, w1) 16 (by omega) h1, a_X8_judge 8000 w1 a1 a2 (r, w2) 16 (by omega) h2, h3⟩
theorem g_share {w : pm_W} (H : Rel w) (a1 : Int32) (a2 : Int32) : ∃ (r : Int32) (w1 w2 : pm_W), RT 16 69 [.inr (.inr (0, 0)), .inl a1, .inl a2] w (some (.inl r)) w1 ∧ RT 16 131 [.inr (.inr (19, 0)), .inl a1, .inl a2] w1 (some (.inl r)) w2 ∧ Rel w2 := by
  obtain ⟨r, w1, w2, h1, h2, h3⟩ := k_share 8000 (by omega) H a1 a2
  exact ⟨r, w1, w2, a_X7_share 8000 w a1 a2 (r, w1) 16 (by omega) h1, a_X8_share 8000 w1 a1 a2 (r, w2) 16 (by omega) h2, h3⟩
theorem g_comes {w : pm_W} (H : Rel w) (a1 : Int32) (a2 : Int32) : ∃ (r : Int32) (w1 w2 : pm_W), RT 16 70 [.inr (.inr (0, 0)), .inl a1, .inl a2] w (some (.inl r)) w1 ∧ RT 16 135 [.inr (.inr (19, 0)), .inl a1, .inl a2] w1 (some (.inl r)) w2 ∧ Rel w2 := by
  obtain ⟨r, h1, h2⟩ := k_comes 8000 (by omega) H a1 a2
  exact ⟨r, w, w, a_X7_comes 8000 w a1 a2 r 16 (by omega) h1, a_X8_comes 8000 w a1 a2 r 16 (by omega) h2, H⟩
theorem g_spoken {w : pm_W} (H : Rel w) (a1 : Int32) (a2 : Int32) : ∃ (r : Int32) (w1 w2 : pm_W), RT 16 71 [.inr (.inr (0, 0)), .inl a1, .inl a2] w (some (.inl r)) w1 ∧ RT 16 136 [.inr (.inr (19, 0)), .inl a1, .inl a2] w1 (some (.inl r)) w2 ∧ Rel w2 := by
  obtain ⟨r, h1, h2⟩ := k_spoken 8000 (by omega) H a1 a2
  exact ⟨r, w, w, a_X7_spoken 8000 w a1 a2 r 16 (by omega) h1, a_X8_spoken 8000 w a1 a2 r 16 (by omega) h2, H⟩
theorem g_dine {w : pm_W} (H : Rel w) (a1 : Int32) (a2 : Int32) : ∃ (r : Int32) (w1 w2 : pm_W), RT 16 72 [.inr (.inr (0, 0)), .inl a1, .inl a2] w (some (.inl r)) w1 ∧ RT 16 137 [.inr (.inr (19, 0)), .inl a1, .inl a2] w1 (some (.inl r)) w2 ∧ Rel w2 := by
  obtain ⟨r, w1, w2, h1, h2, h3⟩ := k_dine 8000 H a1 a2
  exact ⟨r, w1, w2, a_X7_dine 8000 w a1 a2 (r, w1) 16 (by omega) h1, a_X8_dine 8000 w1 a1 a2 (r, w2) 16 (by omega) h2, h3⟩
theorem g_clear {w : pm_W} (H : Rel w) : ∃ (r : Int32) (w1 w2 : pm_W), RT 16 73 [.inr (.inr (0, 0))] w (some (.inl r)) w1 ∧ RT 16 138 [.inr (.inr (19, 0))] w1 (some (.inl r)) w2 ∧ Rel w2 := by
  obtain ⟨r, w1, w2, h1, h2, h3⟩ := k_clear 8000 H
  exact ⟨r, w1, w2, a_X7_clear 8000 w (r, w1) 16 (by omega) h1, a_X8_clear 8000 w1 (r, w2) 16 (by omega) h2, h3⟩
theorem g_laws {w : pm_W} (H : Rel w) (a1 : Int32) : ∃ (r : Int32) (w1 w2 : pm_W), RT 16 74 [.inr (.inr (0, 0)), .inl a1] w (some (.inl r)) w1 ∧ RT 16 141 [.inr (.inr (19, 0)), .inl a1] w1 (some (.inl r)) w2 ∧ Rel w2 := by
  obtain ⟨r, w1, w2, h1, ⟨h2, e⟩, h3⟩ := k_laws 8000 (by omega) H a1
  subst e
  exact ⟨r, w2, w2, a_X7_laws 8000 w a1 (r, w2) 16 (by omega) h1, a_X8_laws 8000 w2 a1 r 16 (by omega) h2, h3⟩
theorem g_hosts {w : pm_W} (H : Rel w) (a1 : Int32) (a2 : Int32) : ∃ (r : Int32) (w1 w2 : pm_W), RT 16 75 [.inr (.inr (0, 0)), .inl a1, .inl a2] w (some (.inl r)) w1 ∧ RT 16 144 [.inr (.inr (19, 0)), .inl a1, .inl a2] w1 (some (.inl r)) w2 ∧ Rel w2 := by
  obtain ⟨r, w1, w2, h1, h2, h3⟩ := k_hosts 8000 (by omega) H a1 a2
  exact ⟨r, w1, w2, a_X7_hosts 8000 w a1 a2 (r, w1) 16 (by omega) h1, a_X8_hosts 8000 w1 a1 a2 (r, w2) 16 (by omega) h2, h3⟩
theorem g_come {w : pm_W} (H : Rel w) (a1 : Int32) (a2 : Int32) (a3 : Int32) : ∃ (r : Int32) (w1 w2 : pm_W), RT 16 76 [.inr (.inr (0, 0)), .inl a1, .inl a2, .inl a3] w (some (.inl r)) w1 ∧ RT 16 145 [.inr (.inr (19, 0)), .inl a1, .inl a2, .inl a3] w1 (some (.inl r)) w2 ∧ Rel w2 := by
  obtain ⟨r, w1, w2, h1, h2, h3⟩ := k_come 8000 (by omega) H a1 a2 a3
  exact ⟨r, w1, w2, a_X7_come 8000 w a1 a2 a3 (r, w1) 16 (by omega) h1, a_X8_come 8000 w1 a1 a2 a3 (r, w2) 16 (by omega) h2, h3⟩
theorem g_seed {w : pm_W} (H : Rel w) (a1 : Int64) : ∃ (r : Int64) (w1 w2 : pm_W), RT 16 77 [.inr (.inr (0, 0)), .inr (.inl a1)] w (some (.inr (.inl r))) w1 ∧ RT 16 146 [.inr (.inr (19, 0)), .inr (.inl a1)] w1 (some (.inr (.inl r))) w2 ∧ Rel w2 := by
  obtain ⟨r, w1, w2, h1, h2, h3⟩ := k_seed 8000 H a1
  exact ⟨r, w1, w2, a_X7_seed 8000 w a1 (r, w1) 16 (by omega) h1, a_X8_seed 8000 w1 a1 (r, w2) 16 (by omega) h2, h3⟩
theorem g_dinner {w : pm_W} (H : Rel w) (a1 : Int32) : ∃ (r : Int32) (w1 w2 : pm_W), RT 16 78 [.inr (.inr (0, 0)), .inl a1] w (some (.inl r)) w1 ∧ RT 16 147 [.inr (.inr (19, 0)), .inl a1] w1 (some (.inl r)) w2 ∧ Rel w2 := by
  obtain ⟨r, w1, w2, h1, h2, h3⟩ := k_dinner 8000 (by omega) H a1
  exact ⟨r, w1, w2, a_X7_dinner 8000 w a1 (r, w1) 16 (by omega) h1, a_X8_dinner 8000 w1 a1 (r, w2) 16 (by omega) h2, h3⟩
theorem g_keep {w : pm_W} (H : Rel w) (a1 : Int32) : ∃ (r : Int32) (w1 w2 : pm_W), RT 16 79 [.inr (.inr (0, 0)), .inl a1] w (some (.inl r)) w1 ∧ RT 16 148 [.inr (.inr (19, 0)), .inl a1] w1 (some (.inl r)) w2 ∧ Rel w2 := by
  obtain ⟨r, w1, w2, h1, h2, h3⟩ := k_keep 8000 (by omega) H a1
  exact ⟨r, w1, w2, a_X7_keep 8000 w a1 (r, w1) 16 (by omega) h1, a_X8_keep 8000 w1 a1 (r, w2) 16 (by omega) h2, h3⟩
theorem g_again {w : pm_W} (H : Rel w) (a1 : Int32) : ∃ (r : Int32) (w1 w2 : pm_W), RT 16 80 [.inr (.inr (0, 0)), .inl a1] w (some (.inl r)) w1 ∧ RT 16 149 [.inr (.inr (19, 0)), .inl a1] w1 (some (.inl r)) w2 ∧ Rel w2 := by
  obtain ⟨r, w1, w2, h1, h2, h3⟩ := k_again 8000 (by omega) H a1
  exact ⟨r, w1, w2, a_X7_again 8000 w a1 (r, w1) 16 (by omega) h1, a_X8_again 8000 w1 a1 (r, w2) 16 (by omega) h2, h3⟩
theorem g_count {w : pm_W} (H : Rel w) (a1 : Int32) : ∃ (r : Int32) (w1 w2 : pm_W), RT 16 81 [.inr (.inr (0, 0)), .inl a1] w (some (.inl r)) w1 ∧ RT 16 150 [.inr (.inr (19, 0)), .inl a1] w1 (some (.inl r)) w2 ∧ Rel w2 := by
  obtain ⟨r, h1, h2⟩ := k_count 8000 (by omega) H a1
  exact ⟨r, w, w, a_X7_count 8000 w a1 r 16 (by omega) h1, a_X8_count 8000 w a1 r 16 (by omega) h2, H⟩
