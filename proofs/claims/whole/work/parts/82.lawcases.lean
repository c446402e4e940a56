/-! ===== the law: its cases ===== -/
theorem lg_cmp_self {r : Int64} : lg_cmp r r = 0 := by
  unfold lg_cmp
  rw [if_neg Int64.lt_irrefl, if_pos rfl]
set_option maxRecDepth 20000 in
set_option maxHeartbeats 4000000 in
theorem lc_write {L : Nat} {xs : Nat → Int32} {w : pm_W} {v3 : Int32} {Q : pm_Q} (H : Rel w) (h1 : vp_in (v3 + 1) L) (h2 : vp_in (v3 + 2) L) (h3 : vp_in (v3 + 3) L) (ih : ∀ w2, Rel w2 → pm_Gx (RT 16) (co_law L xs) 577 [some (.inr (.inr (39, 0))), some (.inr (.inr (0, 0))), some (.inr (.inr (19, 0))), some (.inl v3)] [] w2 Q) : pm_Gx (RT 16) (co_law L xs) 22 [some (.inr (.inr (39, 0))), some (.inr (.inr (0, 0))), some (.inr (.inr (19, 0))), some (.inl v3)] [] w Q := by
  refine pm_go (i2 := 28) (ls2 := [some (.inr (.inr (39, 0))), some (.inr (.inr (0, 0))), some (.inr (.inr (19, 0))), some (.inl v3)]) (st2 := [.inl (xs ((v3 + 1).toNatClampNeg)), .inr (.inr (0, 0))]) (w2 := w) 6 (fun F h => ⟨h1, h⟩) ?_
  obtain ⟨r, w1, w2, e1, e2, H2⟩ := g_write H (xs ((v3 + 1).toNatClampNeg))
  refine pm_ca (y := 56) (as := [.inr (.inr (0, 0)), .inl (xs ((v3 + 1).toNatClampNeg))]) (r := some (.inl r)) (w2 := w) (w1 := w1) (t := []) (i2 := 29) (ls2 := [some (.inr (.inr (39, 0))), some (.inr (.inr (0, 0))), some (.inr (.inr (19, 0))), some (.inl v3)]) 1 e1 (fun F h => h) ?_
  show pm_Gx (RT 16) (co_law L xs) 29 [some (.inr (.inr (39, 0))), some (.inr (.inr (0, 0))), some (.inr (.inr (19, 0))), some (.inl v3)] [.inl r] w1 Q
  refine pm_go (i2 := 35) (ls2 := [some (.inr (.inr (39, 0))), some (.inr (.inr (0, 0))), some (.inr (.inr (19, 0))), some (.inl v3)]) (st2 := [.inl (xs ((v3 + 1).toNatClampNeg)), .inr (.inr (19, 0)), .inl r]) (w2 := w1) 6 (fun F h => ⟨h1, h⟩) ?_
  refine pm_ca (y := 91) (as := [.inr (.inr (19, 0)), .inl (xs ((v3 + 1).toNatClampNeg))]) (r := some (.inl r)) (w2 := w1) (w1 := w2) (t := [.inl r]) (i2 := 36) (ls2 := [some (.inr (.inr (39, 0))), some (.inr (.inr (0, 0))), some (.inr (.inr (19, 0))), some (.inl v3)]) 1 e2 (fun F h => h) ?_
  show pm_Gx (RT 16) (co_law L xs) 36 [some (.inr (.inr (39, 0))), some (.inr (.inr (0, 0))), some (.inr (.inr (19, 0))), some (.inl v3)] [.inl r, .inl r] w2 Q
  refine pm_ift (P := r = r) (i2 := 577) (i3 := 37) (ls2 := [some (.inr (.inr (39, 0))), some (.inr (.inr (0, 0))), some (.inr (.inr (19, 0))), some (.inl v3)]) (st2 := []) (w2 := w2) 1 (fun F h => h) rfl ?_
  exact ih w2 H2
set_option maxRecDepth 20000 in
set_option maxHeartbeats 4000000 in
theorem lc_wipe {L : Nat} {xs : Nat → Int32} {w : pm_W} {v3 : Int32} {Q : pm_Q} (H : Rel w) (h1 : vp_in (v3 + 1) L) (h2 : vp_in (v3 + 2) L) (h3 : vp_in (v3 + 3) L) (ih : ∀ w2, Rel w2 → pm_Gx (RT 16) (co_law L xs) 577 [some (.inr (.inr (39, 0))), some (.inr (.inr (0, 0))), some (.inr (.inr (19, 0))), some (.inl v3)] [] w2 Q) : pm_Gx (RT 16) (co_law L xs) 39 [some (.inr (.inr (39, 0))), some (.inr (.inr (0, 0))), some (.inr (.inr (19, 0))), some (.inl v3)] [] w Q := by
  refine pm_go (i2 := 40) (ls2 := [some (.inr (.inr (39, 0))), some (.inr (.inr (0, 0))), some (.inr (.inr (19, 0))), some (.inl v3)]) (st2 := [.inr (.inr (0, 0))]) (w2 := w) 1 (fun F h => h) ?_
  obtain ⟨r, w1, w2, e1, e2, H2⟩ := g_wipe H
  refine pm_ca (y := 57) (as := [.inr (.inr (0, 0))]) (r := some (.inl r)) (w2 := w) (w1 := w1) (t := []) (i2 := 41) (ls2 := [some (.inr (.inr (39, 0))), some (.inr (.inr (0, 0))), some (.inr (.inr (19, 0))), some (.inl v3)]) 1 e1 (fun F h => h) ?_
  show pm_Gx (RT 16) (co_law L xs) 41 [some (.inr (.inr (39, 0))), some (.inr (.inr (0, 0))), some (.inr (.inr (19, 0))), some (.inl v3)] [.inl r] w1 Q
  refine pm_go (i2 := 42) (ls2 := [some (.inr (.inr (39, 0))), some (.inr (.inr (0, 0))), some (.inr (.inr (19, 0))), some (.inl v3)]) (st2 := [.inr (.inr (19, 0)), .inl r]) (w2 := w1) 1 (fun F h => h) ?_
  refine pm_ca (y := 92) (as := [.inr (.inr (19, 0))]) (r := some (.inl r)) (w2 := w1) (w1 := w2) (t := [.inl r]) (i2 := 43) (ls2 := [some (.inr (.inr (39, 0))), some (.inr (.inr (0, 0))), some (.inr (.inr (19, 0))), some (.inl v3)]) 1 e2 (fun F h => h) ?_
  show pm_Gx (RT 16) (co_law L xs) 43 [some (.inr (.inr (39, 0))), some (.inr (.inr (0, 0))), some (.inr (.inr (19, 0))), some (.inl v3)] [.inl r, .inl r] w2 Q
  refine pm_ift (P := r = r) (i2 := 577) (i3 := 44) (ls2 := [some (.inr (.inr (39, 0))), some (.inr (.inr (0, 0))), some (.inr (.inr (19, 0))), some (.inl v3)]) (st2 := []) (w2 := w2) 1 (fun F h => h) rfl ?_
  exact ih w2 H2
set_option maxRecDepth 20000 in
set_option maxHeartbeats 4000000 in
theorem lc_fault {L : Nat} {xs : Nat → Int32} {w : pm_W} {v3 : Int32} {Q : pm_Q} (H : Rel w) (h1 : vp_in (v3 + 1) L) (h2 : vp_in (v3 + 2) L) (h3 : vp_in (v3 + 3) L) (ih : ∀ w2, Rel w2 → pm_Gx (RT 16) (co_law L xs) 577 [some (.inr (.inr (39, 0))), some (.inr (.inr (0, 0))), some (.inr (.inr (19, 0))), some (.inl v3)] [] w2 Q) : pm_Gx (RT 16) (co_law L xs) 46 [some (.inr (.inr (39, 0))), some (.inr (.inr (0, 0))), some (.inr (.inr (19, 0))), some (.inl v3)] [] w Q := by
  refine pm_go (i2 := 47) (ls2 := [some (.inr (.inr (39, 0))), some (.inr (.inr (0, 0))), some (.inr (.inr (19, 0))), some (.inl v3)]) (st2 := [.inr (.inr (0, 0))]) (w2 := w) 1 (fun F h => h) ?_
  obtain ⟨r, w1, w2, e1, e2, H2⟩ := g_fault H
  refine pm_ca (y := 58) (as := [.inr (.inr (0, 0))]) (r := some (.inl r)) (w2 := w) (w1 := w1) (t := []) (i2 := 48) (ls2 := [some (.inr (.inr (39, 0))), some (.inr (.inr (0, 0))), some (.inr (.inr (19, 0))), some (.inl v3)]) 1 e1 (fun F h => h) ?_
  show pm_Gx (RT 16) (co_law L xs) 48 [some (.inr (.inr (39, 0))), some (.inr (.inr (0, 0))), some (.inr (.inr (19, 0))), some (.inl v3)] [.inl r] w1 Q
  refine pm_go (i2 := 49) (ls2 := [some (.inr (.inr (39, 0))), some (.inr (.inr (0, 0))), some (.inr (.inr (19, 0))), some (.inl v3)]) (st2 := [.inr (.inr (19, 0)), .inl r]) (w2 := w1) 1 (fun F h => h) ?_
  refine pm_ca (y := 99) (as := [.inr (.inr (19, 0))]) (r := some (.inl r)) (w2 := w1) (w1 := w2) (t := [.inl r]) (i2 := 50) (ls2 := [some (.inr (.inr (39, 0))), some (.inr (.inr (0, 0))), some (.inr (.inr (19, 0))), some (.inl v3)]) 1 e2 (fun F h => h) ?_
  show pm_Gx (RT 16) (co_law L xs) 50 [some (.inr (.inr (39, 0))), some (.inr (.inr (0, 0))), some (.inr (.inr (19, 0))), some (.inl v3)] [.inl r, .inl r] w2 Q
  refine pm_ift (P := r = r) (i2 := 577) (i3 := 51) (ls2 := [some (.inr (.inr (39, 0))), some (.inr (.inr (0, 0))), some (.inr (.inr (19, 0))), some (.inl v3)]) (st2 := []) (w2 := w2) 1 (fun F h => h) rfl ?_
  exact ih w2 H2
set_option maxRecDepth 20000 in
set_option maxHeartbeats 4000000 in
theorem lc_lay {L : Nat} {xs : Nat → Int32} {w : pm_W} {v3 : Int32} {Q : pm_Q} (H : Rel w) (h1 : vp_in (v3 + 1) L) (h2 : vp_in (v3 + 2) L) (h3 : vp_in (v3 + 3) L) (ih : ∀ w2, Rel w2 → pm_Gx (RT 16) (co_law L xs) 577 [some (.inr (.inr (39, 0))), some (.inr (.inr (0, 0))), some (.inr (.inr (19, 0))), some (.inl v3)] [] w2 Q) : pm_Gx (RT 16) (co_law L xs) 53 [some (.inr (.inr (39, 0))), some (.inr (.inr (0, 0))), some (.inr (.inr (19, 0))), some (.inl v3)] [] w Q := by
  refine pm_go (i2 := 54) (ls2 := [some (.inr (.inr (39, 0))), some (.inr (.inr (0, 0))), some (.inr (.inr (19, 0))), some (.inl v3)]) (st2 := [.inr (.inr (0, 0))]) (w2 := w) 1 (fun F h => h) ?_
  obtain ⟨r, w1, w2, e1, e2, H2⟩ := g_lay H
  refine pm_ca (y := 59) (as := [.inr (.inr (0, 0))]) (r := some (.inl r)) (w2 := w) (w1 := w1) (t := []) (i2 := 55) (ls2 := [some (.inr (.inr (39, 0))), some (.inr (.inr (0, 0))), some (.inr (.inr (19, 0))), some (.inl v3)]) 1 e1 (fun F h => h) ?_
  show pm_Gx (RT 16) (co_law L xs) 55 [some (.inr (.inr (39, 0))), some (.inr (.inr (0, 0))), some (.inr (.inr (19, 0))), some (.inl v3)] [.inl r] w1 Q
  refine pm_go (i2 := 56) (ls2 := [some (.inr (.inr (39, 0))), some (.inr (.inr (0, 0))), some (.inr (.inr (19, 0))), some (.inl v3)]) (st2 := [.inr (.inr (19, 0)), .inl r]) (w2 := w1) 1 (fun F h => h) ?_
  refine pm_ca (y := 100) (as := [.inr (.inr (19, 0))]) (r := some (.inl r)) (w2 := w1) (w1 := w2) (t := [.inl r]) (i2 := 57) (ls2 := [some (.inr (.inr (39, 0))), some (.inr (.inr (0, 0))), some (.inr (.inr (19, 0))), some (.inl v3)]) 1 e2 (fun F h => h) ?_
  show pm_Gx (RT 16) (co_law L xs) 57 [some (.inr (.inr (39, 0))), some (.inr (.inr (0, 0))), some (.inr (.inr (19, 0))), some (.inl v3)] [.inl r, .inl r] w2 Q
  refine pm_ift (P := r = r) (i2 := 577) (i3 := 58) (ls2 := [some (.inr (.inr (39, 0))), some (.inr (.inr (0, 0))), some (.inr (.inr (19, 0))), some (.inl v3)]) (st2 := []) (w2 := w2) 1 (fun F h => h) rfl ?_
  exact ih w2 H2
set_option maxRecDepth 20000 in
set_option maxHeartbeats 4000000 in
theorem lc_guest {L : Nat} {xs : Nat → Int32} {w : pm_W} {v3 : Int32} {Q : pm_Q} (H : Rel w) (h1 : vp_in (v3 + 1) L) (h2 : vp_in (v3 + 2) L) (h3 : vp_in (v3 + 3) L) (ih : ∀ w2, Rel w2 → pm_Gx (RT 16) (co_law L xs) 577 [some (.inr (.inr (39, 0))), some (.inr (.inr (0, 0))), some (.inr (.inr (19, 0))), some (.inl v3)] [] w2 Q) : pm_Gx (RT 16) (co_law L xs) 60 [some (.inr (.inr (39, 0))), some (.inr (.inr (0, 0))), some (.inr (.inr (19, 0))), some (.inl v3)] [] w Q := by
  refine pm_go (i2 := 71) (ls2 := [some (.inr (.inr (39, 0))), some (.inr (.inr (0, 0))), some (.inr (.inr (19, 0))), some (.inl v3)]) (st2 := [.inl (xs ((v3 + 2).toNatClampNeg)), .inl (xs ((v3 + 1).toNatClampNeg)), .inr (.inr (0, 0))]) (w2 := w) 11 (fun F h => ⟨h1, h2, h⟩) ?_
  obtain ⟨r, w1, w2, e1, e2, H2⟩ := g_guest H (xs ((v3 + 1).toNatClampNeg)) (xs ((v3 + 2).toNatClampNeg))
  refine pm_ca (y := 60) (as := [.inr (.inr (0, 0)), .inl (xs ((v3 + 1).toNatClampNeg)), .inl (xs ((v3 + 2).toNatClampNeg))]) (r := some (.inl r)) (w2 := w) (w1 := w1) (t := []) (i2 := 72) (ls2 := [some (.inr (.inr (39, 0))), some (.inr (.inr (0, 0))), some (.inr (.inr (19, 0))), some (.inl v3)]) 1 e1 (fun F h => h) ?_
  show pm_Gx (RT 16) (co_law L xs) 72 [some (.inr (.inr (39, 0))), some (.inr (.inr (0, 0))), some (.inr (.inr (19, 0))), some (.inl v3)] [.inl r] w1 Q
  refine pm_go (i2 := 83) (ls2 := [some (.inr (.inr (39, 0))), some (.inr (.inr (0, 0))), some (.inr (.inr (19, 0))), some (.inl v3)]) (st2 := [.inl (xs ((v3 + 2).toNatClampNeg)), .inl (xs ((v3 + 1).toNatClampNeg)), .inr (.inr (19, 0)), .inl r]) (w2 := w1) 11 (fun F h => ⟨h1, h2, h⟩) ?_
  refine pm_ca (y := 104) (as := [.inr (.inr (19, 0)), .inl (xs ((v3 + 1).toNatClampNeg)), .inl (xs ((v3 + 2).toNatClampNeg))]) (r := some (.inl r)) (w2 := w1) (w1 := w2) (t := [.inl r]) (i2 := 84) (ls2 := [some (.inr (.inr (39, 0))), some (.inr (.inr (0, 0))), some (.inr (.inr (19, 0))), some (.inl v3)]) 1 e2 (fun F h => h) ?_
  show pm_Gx (RT 16) (co_law L xs) 84 [some (.inr (.inr (39, 0))), some (.inr (.inr (0, 0))), some (.inr (.inr (19, 0))), some (.inl v3)] [.inl r, .inl r] w2 Q
  refine pm_ift (P := r = r) (i2 := 577) (i3 := 85) (ls2 := [some (.inr (.inr (39, 0))), some (.inr (.inr (0, 0))), some (.inr (.inr (19, 0))), some (.inl v3)]) (st2 := []) (w2 := w2) 1 (fun F h => h) rfl ?_
  exact ih w2 H2
set_option maxRecDepth 20000 in
set_option maxHeartbeats 4000000 in
theorem lc_say {L : Nat} {xs : Nat → Int32} {w : pm_W} {v3 : Int32} {Q : pm_Q} (H : Rel w) (h1 : vp_in (v3 + 1) L) (h2 : vp_in (v3 + 2) L) (h3 : vp_in (v3 + 3) L) (ih : ∀ w2, Rel w2 → pm_Gx (RT 16) (co_law L xs) 577 [some (.inr (.inr (39, 0))), some (.inr (.inr (0, 0))), some (.inr (.inr (19, 0))), some (.inl v3)] [] w2 Q) : pm_Gx (RT 16) (co_law L xs) 87 [some (.inr (.inr (39, 0))), some (.inr (.inr (0, 0))), some (.inr (.inr (19, 0))), some (.inl v3)] [] w Q := by
  refine pm_go (i2 := 93) (ls2 := [some (.inr (.inr (39, 0))), some (.inr (.inr (0, 0))), some (.inr (.inr (19, 0))), some (.inl v3)]) (st2 := [.inl (xs ((v3 + 1).toNatClampNeg)), .inr (.inr (0, 0))]) (w2 := w) 6 (fun F h => ⟨h1, h⟩) ?_
  obtain ⟨r, w1, w2, e1, e2, H2⟩ := g_say H (xs ((v3 + 1).toNatClampNeg))
  refine pm_ca (y := 61) (as := [.inr (.inr (0, 0)), .inl (xs ((v3 + 1).toNatClampNeg))]) (r := some (.inl r)) (w2 := w) (w1 := w1) (t := []) (i2 := 94) (ls2 := [some (.inr (.inr (39, 0))), some (.inr (.inr (0, 0))), some (.inr (.inr (19, 0))), some (.inl v3)]) 1 e1 (fun F h => h) ?_
  show pm_Gx (RT 16) (co_law L xs) 94 [some (.inr (.inr (39, 0))), some (.inr (.inr (0, 0))), some (.inr (.inr (19, 0))), some (.inl v3)] [.inl r] w1 Q
  refine pm_go (i2 := 100) (ls2 := [some (.inr (.inr (39, 0))), some (.inr (.inr (0, 0))), some (.inr (.inr (19, 0))), some (.inl v3)]) (st2 := [.inl (xs ((v3 + 1).toNatClampNeg)), .inr (.inr (19, 0)), .inl r]) (w2 := w1) 6 (fun F h => ⟨h1, h⟩) ?_
  refine pm_ca (y := 112) (as := [.inr (.inr (19, 0)), .inl (xs ((v3 + 1).toNatClampNeg))]) (r := some (.inl r)) (w2 := w1) (w1 := w2) (t := [.inl r]) (i2 := 101) (ls2 := [some (.inr (.inr (39, 0))), some (.inr (.inr (0, 0))), some (.inr (.inr (19, 0))), some (.inl v3)]) 1 e2 (fun F h => h) ?_
  show pm_Gx (RT 16) (co_law L xs) 101 [some (.inr (.inr (39, 0))), some (.inr (.inr (0, 0))), some (.inr (.inr (19, 0))), some (.inl v3)] [.inl r, .inl r] w2 Q
  refine pm_ift (P := r = r) (i2 := 577) (i3 := 102) (ls2 := [some (.inr (.inr (39, 0))), some (.inr (.inr (0, 0))), some (.inr (.inr (19, 0))), some (.inl v3)]) (st2 := []) (w2 := w2) 1 (fun F h => h) rfl ?_
  exact ih w2 H2
set_option maxRecDepth 20000 in
set_option maxHeartbeats 4000000 in
theorem lc_pass {L : Nat} {xs : Nat → Int32} {w : pm_W} {v3 : Int32} {Q : pm_Q} (H : Rel w) (h1 : vp_in (v3 + 1) L) (h2 : vp_in (v3 + 2) L) (h3 : vp_in (v3 + 3) L) (ih : ∀ w2, Rel w2 → pm_Gx (RT 16) (co_law L xs) 577 [some (.inr (.inr (39, 0))), some (.inr (.inr (0, 0))), some (.inr (.inr (19, 0))), some (.inl v3)] [] w2 Q) : pm_Gx (RT 16) (co_law L xs) 104 [some (.inr (.inr (39, 0))), some (.inr (.inr (0, 0))), some (.inr (.inr (19, 0))), some (.inl v3)] [] w Q := by
  refine pm_go (i2 := 110) (ls2 := [some (.inr (.inr (39, 0))), some (.inr (.inr (0, 0))), some (.inr (.inr (19, 0))), some (.inl v3)]) (st2 := [.inl (xs ((v3 + 1).toNatClampNeg)), .inr (.inr (0, 0))]) (w2 := w) 6 (fun F h => ⟨h1, h⟩) ?_
  obtain ⟨r, w1, w2, e1, e2, H2⟩ := g_pass H (xs ((v3 + 1).toNatClampNeg))
  refine pm_ca (y := 62) (as := [.inr (.inr (0, 0)), .inl (xs ((v3 + 1).toNatClampNeg))]) (r := some (.inl r)) (w2 := w) (w1 := w1) (t := []) (i2 := 111) (ls2 := [some (.inr (.inr (39, 0))), some (.inr (.inr (0, 0))), some (.inr (.inr (19, 0))), some (.inl v3)]) 1 e1 (fun F h => h) ?_
  show pm_Gx (RT 16) (co_law L xs) 111 [some (.inr (.inr (39, 0))), some (.inr (.inr (0, 0))), some (.inr (.inr (19, 0))), some (.inl v3)] [.inl r] w1 Q
  refine pm_go (i2 := 117) (ls2 := [some (.inr (.inr (39, 0))), some (.inr (.inr (0, 0))), some (.inr (.inr (19, 0))), some (.inl v3)]) (st2 := [.inl (xs ((v3 + 1).toNatClampNeg)), .inr (.inr (19, 0)), .inl r]) (w2 := w1) 6 (fun F h => ⟨h1, h⟩) ?_
  refine pm_ca (y := 113) (as := [.inr (.inr (19, 0)), .inl (xs ((v3 + 1).toNatClampNeg))]) (r := some (.inl r)) (w2 := w1) (w1 := w2) (t := [.inl r]) (i2 := 118) (ls2 := [some (.inr (.inr (39, 0))), some (.inr (.inr (0, 0))), some (.inr (.inr (19, 0))), some (.inl v3)]) 1 e2 (fun F h => h) ?_
  show pm_Gx (RT 16) (co_law L xs) 118 [some (.inr (.inr (39, 0))), some (.inr (.inr (0, 0))), some (.inr (.inr (19, 0))), some (.inl v3)] [.inl r, .inl r] w2 Q
  refine pm_ift (P := r = r) (i2 := 577) (i3 := 119) (ls2 := [some (.inr (.inr (39, 0))), some (.inr (.inr (0, 0))), some (.inr (.inr (19, 0))), some (.inl v3)]) (st2 := []) (w2 := w2) 1 (fun F h => h) rfl ?_
  exact ih w2 H2
set_option maxRecDepth 20000 in
set_option maxHeartbeats 4000000 in
theorem lc_fetch {L : Nat} {xs : Nat → Int32} {w : pm_W} {v3 : Int32} {Q : pm_Q} (H : Rel w) (h1 : vp_in (v3 + 1) L) (h2 : vp_in (v3 + 2) L) (h3 : vp_in (v3 + 3) L) (ih : ∀ w2, Rel w2 → pm_Gx (RT 16) (co_law L xs) 577 [some (.inr (.inr (39, 0))), some (.inr (.inr (0, 0))), some (.inr (.inr (19, 0))), some (.inl v3)] [] w2 Q) : pm_Gx (RT 16) (co_law L xs) 121 [some (.inr (.inr (39, 0))), some (.inr (.inr (0, 0))), some (.inr (.inr (19, 0))), some (.inl v3)] [] w Q := by
  refine pm_go (i2 := 122) (ls2 := [some (.inr (.inr (39, 0))), some (.inr (.inr (0, 0))), some (.inr (.inr (19, 0))), some (.inl v3)]) (st2 := [.inr (.inr (0, 0))]) (w2 := w) 1 (fun F h => h) ?_
  obtain ⟨r, w1, w2, e1, e2, H2⟩ := g_fetch H
  refine pm_ca (y := 63) (as := [.inr (.inr (0, 0))]) (r := some (.inl r)) (w2 := w) (w1 := w1) (t := []) (i2 := 123) (ls2 := [some (.inr (.inr (39, 0))), some (.inr (.inr (0, 0))), some (.inr (.inr (19, 0))), some (.inl v3)]) 1 e1 (fun F h => h) ?_
  show pm_Gx (RT 16) (co_law L xs) 123 [some (.inr (.inr (39, 0))), some (.inr (.inr (0, 0))), some (.inr (.inr (19, 0))), some (.inl v3)] [.inl r] w1 Q
  refine pm_go (i2 := 124) (ls2 := [some (.inr (.inr (39, 0))), some (.inr (.inr (0, 0))), some (.inr (.inr (19, 0))), some (.inl v3)]) (st2 := [.inr (.inr (19, 0)), .inl r]) (w2 := w1) 1 (fun F h => h) ?_
  refine pm_ca (y := 114) (as := [.inr (.inr (19, 0))]) (r := some (.inl r)) (w2 := w1) (w1 := w2) (t := [.inl r]) (i2 := 125) (ls2 := [some (.inr (.inr (39, 0))), some (.inr (.inr (0, 0))), some (.inr (.inr (19, 0))), some (.inl v3)]) 1 e2 (fun F h => h) ?_
  show pm_Gx (RT 16) (co_law L xs) 125 [some (.inr (.inr (39, 0))), some (.inr (.inr (0, 0))), some (.inr (.inr (19, 0))), some (.inl v3)] [.inl r, .inl r] w2 Q
  refine pm_ift (P := r = r) (i2 := 577) (i3 := 126) (ls2 := [some (.inr (.inr (39, 0))), some (.inr (.inr (0, 0))), some (.inr (.inr (19, 0))), some (.inl v3)]) (st2 := []) (w2 := w2) 1 (fun F h => h) rfl ?_
  exact ih w2 H2
set_option maxRecDepth 20000 in
set_option maxHeartbeats 4000000 in
theorem lc_undo {L : Nat} {xs : Nat → Int32} {w : pm_W} {v3 : Int32} {Q : pm_Q} (H : Rel w) (h1 : vp_in (v3 + 1) L) (h2 : vp_in (v3 + 2) L) (h3 : vp_in (v3 + 3) L) (ih : ∀ w2, Rel w2 → pm_Gx (RT 16) (co_law L xs) 577 [some (.inr (.inr (39, 0))), some (.inr (.inr (0, 0))), some (.inr (.inr (19, 0))), some (.inl v3)] [] w2 Q) : pm_Gx (RT 16) (co_law L xs) 128 [some (.inr (.inr (39, 0))), some (.inr (.inr (0, 0))), some (.inr (.inr (19, 0))), some (.inl v3)] [] w Q := by
  refine pm_go (i2 := 129) (ls2 := [some (.inr (.inr (39, 0))), some (.inr (.inr (0, 0))), some (.inr (.inr (19, 0))), some (.inl v3)]) (st2 := [.inr (.inr (0, 0))]) (w2 := w) 1 (fun F h => h) ?_
  obtain ⟨r, w1, w2, e1, e2, H2⟩ := g_undo H
  refine pm_ca (y := 64) (as := [.inr (.inr (0, 0))]) (r := some (.inl r)) (w2 := w) (w1 := w1) (t := []) (i2 := 130) (ls2 := [some (.inr (.inr (39, 0))), some (.inr (.inr (0, 0))), some (.inr (.inr (19, 0))), some (.inl v3)]) 1 e1 (fun F h => h) ?_
  show pm_Gx (RT 16) (co_law L xs) 130 [some (.inr (.inr (39, 0))), some (.inr (.inr (0, 0))), some (.inr (.inr (19, 0))), some (.inl v3)] [.inl r] w1 Q
  refine pm_go (i2 := 131) (ls2 := [some (.inr (.inr (39, 0))), some (.inr (.inr (0, 0))), some (.inr (.inr (19, 0))), some (.inl v3)]) (st2 := [.inr (.inr (19, 0)), .inl r]) (w2 := w1) 1 (fun F h => h) ?_
  refine pm_ca (y := 115) (as := [.inr (.inr (19, 0))]) (r := some (.inl r)) (w2 := w1) (w1 := w2) (t := [.inl r]) (i2 := 132) (ls2 := [some (.inr (.inr (39, 0))), some (.inr (.inr (0, 0))), some (.inr (.inr (19, 0))), some (.inl v3)]) 1 e2 (fun F h => h) ?_
  show pm_Gx (RT 16) (co_law L xs) 132 [some (.inr (.inr (39, 0))), some (.inr (.inr (0, 0))), some (.inr (.inr (19, 0))), some (.inl v3)] [.inl r, .inl r] w2 Q
  refine pm_ift (P := r = r) (i2 := 577) (i3 := 133) (ls2 := [some (.inr (.inr (39, 0))), some (.inr (.inr (0, 0))), some (.inr (.inr (19, 0))), some (.inl v3)]) (st2 := []) (w2 := w2) 1 (fun F h => h) rfl ?_
  exact ih w2 H2
set_option maxRecDepth 20000 in
set_option maxHeartbeats 4000000 in
theorem lc_passes {L : Nat} {xs : Nat → Int32} {w : pm_W} {v3 : Int32} {Q : pm_Q} (H : Rel w) (h1 : vp_in (v3 + 1) L) (h2 : vp_in (v3 + 2) L) (h3 : vp_in (v3 + 3) L) (ih : ∀ w2, Rel w2 → pm_Gx (RT 16) (co_law L xs) 577 [some (.inr (.inr (39, 0))), some (.inr (.inr (0, 0))), some (.inr (.inr (19, 0))), some (.inl v3)] [] w2 Q) : pm_Gx (RT 16) (co_law L xs) 135 [some (.inr (.inr (39, 0))), some (.inr (.inr (0, 0))), some (.inr (.inr (19, 0))), some (.inl v3)] [] w Q := by
  by_cases c0 : xs ((v3 + 1).toNatClampNeg) = 0
  · refine pm_go (i2 := 141) (ls2 := [some (.inr (.inr (39, 0))), some (.inr (.inr (0, 0))), some (.inr (.inr (19, 0))), some (.inl v3)]) (st2 := [.inl (xs ((v3 + 1).toNatClampNeg)), .inr (.inr (0, 0))]) (w2 := w) 6 (fun F h => ⟨h1, h⟩) ?_
    refine pm_ift (P := (xs ((v3 + 1).toNatClampNeg)) = 0) (i2 := 144) (i3 := 142) (ls2 := [some (.inr (.inr (39, 0))), some (.inr (.inr (0, 0))), some (.inr (.inr (19, 0))), some (.inl v3)]) (st2 := [.inr (.inr (0, 0))]) (w2 := w) 1 (fun F h => h) c0 ?_
    refine pm_go (i2 := 145) (ls2 := [some (.inr (.inr (39, 0))), some (.inr (.inr (0, 0))), some (.inr (.inr (19, 0))), some (.inl v3)]) (st2 := [.inl 0, .inr (.inr (0, 0))]) (w2 := w) 1 (fun F h => h) ?_
    obtain ⟨r, w1, w2, e1, e2, H2⟩ := g_passes H 0
    refine pm_ca (y := 65) (as := [.inr (.inr (0, 0)), .inl 0]) (r := some (.inl r)) (w2 := w) (w1 := w1) (t := []) (i2 := 146) (ls2 := [some (.inr (.inr (39, 0))), some (.inr (.inr (0, 0))), some (.inr (.inr (19, 0))), some (.inl v3)]) 1 e1 (fun F h => h) ?_
    show pm_Gx (RT 16) (co_law L xs) 146 [some (.inr (.inr (39, 0))), some (.inr (.inr (0, 0))), some (.inr (.inr (19, 0))), some (.inl v3)] [.inl r] w1 Q
    refine pm_go (i2 := 152) (ls2 := [some (.inr (.inr (39, 0))), some (.inr (.inr (0, 0))), some (.inr (.inr (19, 0))), some (.inl v3)]) (st2 := [.inl (xs ((v3 + 1).toNatClampNeg)), .inr (.inr (19, 0)), .inl r]) (w2 := w1) 6 (fun F h => ⟨h1, h⟩) ?_
    refine pm_ift (P := (xs ((v3 + 1).toNatClampNeg)) = 0) (i2 := 155) (i3 := 153) (ls2 := [some (.inr (.inr (39, 0))), some (.inr (.inr (0, 0))), some (.inr (.inr (19, 0))), some (.inl v3)]) (st2 := [.inr (.inr (19, 0)), .inl r]) (w2 := w1) 1 (fun F h => h) c0 ?_
    refine pm_go (i2 := 156) (ls2 := [some (.inr (.inr (39, 0))), some (.inr (.inr (0, 0))), some (.inr (.inr (19, 0))), some (.inl v3)]) (st2 := [.inl 0, .inr (.inr (19, 0)), .inl r]) (w2 := w1) 1 (fun F h => h) ?_
    refine pm_ca (y := 121) (as := [.inr (.inr (19, 0)), .inl 0]) (r := some (.inl r)) (w2 := w1) (w1 := w2) (t := [.inl r]) (i2 := 157) (ls2 := [some (.inr (.inr (39, 0))), some (.inr (.inr (0, 0))), some (.inr (.inr (19, 0))), some (.inl v3)]) 1 e2 (fun F h => h) ?_
    show pm_Gx (RT 16) (co_law L xs) 157 [some (.inr (.inr (39, 0))), some (.inr (.inr (0, 0))), some (.inr (.inr (19, 0))), some (.inl v3)] [.inl r, .inl r] w2 Q
    refine pm_ift (P := r = r) (i2 := 577) (i3 := 158) (ls2 := [some (.inr (.inr (39, 0))), some (.inr (.inr (0, 0))), some (.inr (.inr (19, 0))), some (.inl v3)]) (st2 := []) (w2 := w2) 1 (fun F h => h) rfl ?_
    exact ih w2 H2
  · refine pm_go (i2 := 141) (ls2 := [some (.inr (.inr (39, 0))), some (.inr (.inr (0, 0))), some (.inr (.inr (19, 0))), some (.inl v3)]) (st2 := [.inl (xs ((v3 + 1).toNatClampNeg)), .inr (.inr (0, 0))]) (w2 := w) 6 (fun F h => ⟨h1, h⟩) ?_
    refine pm_iff (P := (xs ((v3 + 1).toNatClampNeg)) = 0) (i2 := 144) (i3 := 142) (ls2 := [some (.inr (.inr (39, 0))), some (.inr (.inr (0, 0))), some (.inr (.inr (19, 0))), some (.inl v3)]) (st2 := [.inr (.inr (0, 0))]) (w2 := w) 1 (fun F h => h) c0 ?_
    refine pm_go (i2 := 145) (ls2 := [some (.inr (.inr (39, 0))), some (.inr (.inr (0, 0))), some (.inr (.inr (19, 0))), some (.inl v3)]) (st2 := [.inl 1, .inr (.inr (0, 0))]) (w2 := w) 2 (fun F h => h) ?_
    obtain ⟨r, w1, w2, e1, e2, H2⟩ := g_passes H 1
    refine pm_ca (y := 65) (as := [.inr (.inr (0, 0)), .inl 1]) (r := some (.inl r)) (w2 := w) (w1 := w1) (t := []) (i2 := 146) (ls2 := [some (.inr (.inr (39, 0))), some (.inr (.inr (0, 0))), some (.inr (.inr (19, 0))), some (.inl v3)]) 1 e1 (fun F h => h) ?_
    show pm_Gx (RT 16) (co_law L xs) 146 [some (.inr (.inr (39, 0))), some (.inr (.inr (0, 0))), some (.inr (.inr (19, 0))), some (.inl v3)] [.inl r] w1 Q
    refine pm_go (i2 := 152) (ls2 := [some (.inr (.inr (39, 0))), some (.inr (.inr (0, 0))), some (.inr (.inr (19, 0))), some (.inl v3)]) (st2 := [.inl (xs ((v3 + 1).toNatClampNeg)), .inr (.inr (19, 0)), .inl r]) (w2 := w1) 6 (fun F h => ⟨h1, h⟩) ?_
    refine pm_iff (P := (xs ((v3 + 1).toNatClampNeg)) = 0) (i2 := 155) (i3 := 153) (ls2 := [some (.inr (.inr (39, 0))), some (.inr (.inr (0, 0))), some (.inr (.inr (19, 0))), some (.inl v3)]) (st2 := [.inr (.inr (19, 0)), .inl r]) (w2 := w1) 1 (fun F h => h) c0 ?_
    refine pm_go (i2 := 156) (ls2 := [some (.inr (.inr (39, 0))), some (.inr (.inr (0, 0))), some (.inr (.inr (19, 0))), some (.inl v3)]) (st2 := [.inl 1, .inr (.inr (19, 0)), .inl r]) (w2 := w1) 2 (fun F h => h) ?_
    refine pm_ca (y := 121) (as := [.inr (.inr (19, 0)), .inl 1]) (r := some (.inl r)) (w2 := w1) (w1 := w2) (t := [.inl r]) (i2 := 157) (ls2 := [some (.inr (.inr (39, 0))), some (.inr (.inr (0, 0))), some (.inr (.inr (19, 0))), some (.inl v3)]) 1 e2 (fun F h => h) ?_
    show pm_Gx (RT 16) (co_law L xs) 157 [some (.inr (.inr (39, 0))), some (.inr (.inr (0, 0))), some (.inr (.inr (19, 0))), some (.inl v3)] [.inl r, .inl r] w2 Q
    refine pm_ift (P := r = r) (i2 := 577) (i3 := 158) (ls2 := [some (.inr (.inr (39, 0))), some (.inr (.inr (0, 0))), some (.inr (.inr (19, 0))), some (.inl v3)]) (st2 := []) (w2 := w2) 1 (fun F h => h) rfl ?_
    exact ih w2 H2
set_option maxRecDepth 20000 in
set_option maxHeartbeats 4000000 in
theorem lc_longBy {L : Nat} {xs : Nat → Int32} {w : pm_W} {v3 : Int32} {Q : pm_Q} (H : Rel w) (h1 : vp_in (v3 + 1) L) (h2 : vp_in (v3 + 2) L) (h3 : vp_in (v3 + 3) L) (ih : ∀ w2, Rel w2 → pm_Gx (RT 16) (co_law L xs) 577 [some (.inr (.inr (39, 0))), some (.inr (.inr (0, 0))), some (.inr (.inr (19, 0))), some (.inl v3)] [] w2 Q) : pm_Gx (RT 16) (co_law L xs) 160 [some (.inr (.inr (39, 0))), some (.inr (.inr (0, 0))), some (.inr (.inr (19, 0))), some (.inl v3)] [] w Q := by
  by_cases c0 : xs ((v3 + 2).toNatClampNeg) = 0
  · refine pm_go (i2 := 171) (ls2 := [some (.inr (.inr (39, 0))), some (.inr (.inr (0, 0))), some (.inr (.inr (19, 0))), some (.inl v3)]) (st2 := [.inl (xs ((v3 + 2).toNatClampNeg)), .inl (xs ((v3 + 1).toNatClampNeg)), .inr (.inr (0, 0))]) (w2 := w) 11 (fun F h => ⟨h1, h2, h⟩) ?_
    refine pm_ift (P := (xs ((v3 + 2).toNatClampNeg)) = 0) (i2 := 174) (i3 := 172) (ls2 := [some (.inr (.inr (39, 0))), some (.inr (.inr (0, 0))), some (.inr (.inr (19, 0))), some (.inl v3)]) (st2 := [.inl (xs ((v3 + 1).toNatClampNeg)), .inr (.inr (0, 0))]) (w2 := w) 1 (fun F h => h) c0 ?_
    refine pm_go (i2 := 175) (ls2 := [some (.inr (.inr (39, 0))), some (.inr (.inr (0, 0))), some (.inr (.inr (19, 0))), some (.inl v3)]) (st2 := [.inl 0, .inl (xs ((v3 + 1).toNatClampNeg)), .inr (.inr (0, 0))]) (w2 := w) 1 (fun F h => h) ?_
    obtain ⟨r, w1, w2, e1, e2, H2⟩ := g_longBy H (xs ((v3 + 1).toNatClampNeg)) 0
    refine pm_ca (y := 66) (as := [.inr (.inr (0, 0)), .inl (xs ((v3 + 1).toNatClampNeg)), .inl 0]) (r := some (.inl r)) (w2 := w) (w1 := w1) (t := []) (i2 := 176) (ls2 := [some (.inr (.inr (39, 0))), some (.inr (.inr (0, 0))), some (.inr (.inr (19, 0))), some (.inl v3)]) 1 e1 (fun F h => h) ?_
    show pm_Gx (RT 16) (co_law L xs) 176 [some (.inr (.inr (39, 0))), some (.inr (.inr (0, 0))), some (.inr (.inr (19, 0))), some (.inl v3)] [.inl r] w1 Q
    refine pm_go (i2 := 187) (ls2 := [some (.inr (.inr (39, 0))), some (.inr (.inr (0, 0))), some (.inr (.inr (19, 0))), some (.inl v3)]) (st2 := [.inl (xs ((v3 + 2).toNatClampNeg)), .inl (xs ((v3 + 1).toNatClampNeg)), .inr (.inr (19, 0)), .inl r]) (w2 := w1) 11 (fun F h => ⟨h1, h2, h⟩) ?_
    refine pm_ift (P := (xs ((v3 + 2).toNatClampNeg)) = 0) (i2 := 190) (i3 := 188) (ls2 := [some (.inr (.inr (39, 0))), some (.inr (.inr (0, 0))), some (.inr (.inr (19, 0))), some (.inl v3)]) (st2 := [.inl (xs ((v3 + 1).toNatClampNeg)), .inr (.inr (19, 0)), .inl r]) (w2 := w1) 1 (fun F h => h) c0 ?_
    refine pm_go (i2 := 191) (ls2 := [some (.inr (.inr (39, 0))), some (.inr (.inr (0, 0))), some (.inr (.inr (19, 0))), some (.inl v3)]) (st2 := [.inl 0, .inl (xs ((v3 + 1).toNatClampNeg)), .inr (.inr (19, 0)), .inl r]) (w2 := w1) 1 (fun F h => h) ?_
    refine pm_ca (y := 124) (as := [.inr (.inr (19, 0)), .inl (xs ((v3 + 1).toNatClampNeg)), .inl 0]) (r := some (.inl r)) (w2 := w1) (w1 := w2) (t := [.inl r]) (i2 := 192) (ls2 := [some (.inr (.inr (39, 0))), some (.inr (.inr (0, 0))), some (.inr (.inr (19, 0))), some (.inl v3)]) 1 e2 (fun F h => h) ?_
    show pm_Gx (RT 16) (co_law L xs) 192 [some (.inr (.inr (39, 0))), some (.inr (.inr (0, 0))), some (.inr (.inr (19, 0))), some (.inl v3)] [.inl r, .inl r] w2 Q
    refine pm_ift (P := r = r) (i2 := 577) (i3 := 193) (ls2 := [some (.inr (.inr (39, 0))), some (.inr (.inr (0, 0))), some (.inr (.inr (19, 0))), some (.inl v3)]) (st2 := []) (w2 := w2) 1 (fun F h => h) rfl ?_
    exact ih w2 H2
  · refine pm_go (i2 := 171) (ls2 := [some (.inr (.inr (39, 0))), some (.inr (.inr (0, 0))), some (.inr (.inr (19, 0))), some (.inl v3)]) (st2 := [.inl (xs ((v3 + 2).toNatClampNeg)), .inl (xs ((v3 + 1).toNatClampNeg)), .inr (.inr (0, 0))]) (w2 := w) 11 (fun F h => ⟨h1, h2, h⟩) ?_
    refine pm_iff (P := (xs ((v3 + 2).toNatClampNeg)) = 0) (i2 := 174) (i3 := 172) (ls2 := [some (.inr (.inr (39, 0))), some (.inr (.inr (0, 0))), some (.inr (.inr (19, 0))), some (.inl v3)]) (st2 := [.inl (xs ((v3 + 1).toNatClampNeg)), .inr (.inr (0, 0))]) (w2 := w) 1 (fun F h => h) c0 ?_
    refine pm_go (i2 := 175) (ls2 := [some (.inr (.inr (39, 0))), some (.inr (.inr (0, 0))), some (.inr (.inr (19, 0))), some (.inl v3)]) (st2 := [.inl 1, .inl (xs ((v3 + 1).toNatClampNeg)), .inr (.inr (0, 0))]) (w2 := w) 2 (fun F h => h) ?_
    obtain ⟨r, w1, w2, e1, e2, H2⟩ := g_longBy H (xs ((v3 + 1).toNatClampNeg)) 1
    refine pm_ca (y := 66) (as := [.inr (.inr (0, 0)), .inl (xs ((v3 + 1).toNatClampNeg)), .inl 1]) (r := some (.inl r)) (w2 := w) (w1 := w1) (t := []) (i2 := 176) (ls2 := [some (.inr (.inr (39, 0))), some (.inr (.inr (0, 0))), some (.inr (.inr (19, 0))), some (.inl v3)]) 1 e1 (fun F h => h) ?_
    show pm_Gx (RT 16) (co_law L xs) 176 [some (.inr (.inr (39, 0))), some (.inr (.inr (0, 0))), some (.inr (.inr (19, 0))), some (.inl v3)] [.inl r] w1 Q
    refine pm_go (i2 := 187) (ls2 := [some (.inr (.inr (39, 0))), some (.inr (.inr (0, 0))), some (.inr (.inr (19, 0))), some (.inl v3)]) (st2 := [.inl (xs ((v3 + 2).toNatClampNeg)), .inl (xs ((v3 + 1).toNatClampNeg)), .inr (.inr (19, 0)), .inl r]) (w2 := w1) 11 (fun F h => ⟨h1, h2, h⟩) ?_
    refine pm_iff (P := (xs ((v3 + 2).toNatClampNeg)) = 0) (i2 := 190) (i3 := 188) (ls2 := [some (.inr (.inr (39, 0))), some (.inr (.inr (0, 0))), some (.inr (.inr (19, 0))), some (.inl v3)]) (st2 := [.inl (xs ((v3 + 1).toNatClampNeg)), .inr (.inr (19, 0)), .inl r]) (w2 := w1) 1 (fun F h => h) c0 ?_
    refine pm_go (i2 := 191) (ls2 := [some (.inr (.inr (39, 0))), some (.inr (.inr (0, 0))), some (.inr (.inr (19, 0))), some (.inl v3)]) (st2 := [.inl 1, .inl (xs ((v3 + 1).toNatClampNeg)), .inr (.inr (19, 0)), .inl r]) (w2 := w1) 2 (fun F h => h) ?_
    refine pm_ca (y := 124) (as := [.inr (.inr (19, 0)), .inl (xs ((v3 + 1).toNatClampNeg)), .inl 1]) (r := some (.inl r)) (w2 := w1) (w1 := w2) (t := [.inl r]) (i2 := 192) (ls2 := [some (.inr (.inr (39, 0))), some (.inr (.inr (0, 0))), some (.inr (.inr (19, 0))), some (.inl v3)]) 1 e2 (fun F h => h) ?_
    show pm_Gx (RT 16) (co_law L xs) 192 [some (.inr (.inr (39, 0))), some (.inr (.inr (0, 0))), some (.inr (.inr (19, 0))), some (.inl v3)] [.inl r, .inl r] w2 Q
    refine pm_ift (P := r = r) (i2 := 577) (i3 := 193) (ls2 := [some (.inr (.inr (39, 0))), some (.inr (.inr (0, 0))), some (.inr (.inr (19, 0))), some (.inl v3)]) (st2 := []) (w2 := w2) 1 (fun F h => h) rfl ?_
    exact ih w2 H2
set_option maxRecDepth 20000 in
set_option maxHeartbeats 4000000 in
theorem lc_together {L : Nat} {xs : Nat → Int32} {w : pm_W} {v3 : Int32} {Q : pm_Q} (H : Rel w) (h1 : vp_in (v3 + 1) L) (h2 : vp_in (v3 + 2) L) (h3 : vp_in (v3 + 3) L) (ih : ∀ w2, Rel w2 → pm_Gx (RT 16) (co_law L xs) 577 [some (.inr (.inr (39, 0))), some (.inr (.inr (0, 0))), some (.inr (.inr (19, 0))), some (.inl v3)] [] w2 Q) : pm_Gx (RT 16) (co_law L xs) 195 [some (.inr (.inr (39, 0))), some (.inr (.inr (0, 0))), some (.inr (.inr (19, 0))), some (.inl v3)] [] w Q := by
  by_cases c0 : xs ((v3 + 1).toNatClampNeg) = 0
  · refine pm_go (i2 := 201) (ls2 := [some (.inr (.inr (39, 0))), some (.inr (.inr (0, 0))), some (.inr (.inr (19, 0))), some (.inl v3)]) (st2 := [.inl (xs ((v3 + 1).toNatClampNeg)), .inr (.inr (0, 0))]) (w2 := w) 6 (fun F h => ⟨h1, h⟩) ?_
    refine pm_ift (P := (xs ((v3 + 1).toNatClampNeg)) = 0) (i2 := 204) (i3 := 202) (ls2 := [some (.inr (.inr (39, 0))), some (.inr (.inr (0, 0))), some (.inr (.inr (19, 0))), some (.inl v3)]) (st2 := [.inr (.inr (0, 0))]) (w2 := w) 1 (fun F h => h) c0 ?_
    refine pm_go (i2 := 205) (ls2 := [some (.inr (.inr (39, 0))), some (.inr (.inr (0, 0))), some (.inr (.inr (19, 0))), some (.inl v3)]) (st2 := [.inl 0, .inr (.inr (0, 0))]) (w2 := w) 1 (fun F h => h) ?_
    obtain ⟨r, w1, w2, e1, e2, H2⟩ := g_together H 0
    refine pm_ca (y := 67) (as := [.inr (.inr (0, 0)), .inl 0]) (r := some (.inl r)) (w2 := w) (w1 := w1) (t := []) (i2 := 206) (ls2 := [some (.inr (.inr (39, 0))), some (.inr (.inr (0, 0))), some (.inr (.inr (19, 0))), some (.inl v3)]) 1 e1 (fun F h => h) ?_
    show pm_Gx (RT 16) (co_law L xs) 206 [some (.inr (.inr (39, 0))), some (.inr (.inr (0, 0))), some (.inr (.inr (19, 0))), some (.inl v3)] [.inl r] w1 Q
    refine pm_go (i2 := 212) (ls2 := [some (.inr (.inr (39, 0))), some (.inr (.inr (0, 0))), some (.inr (.inr (19, 0))), some (.inl v3)]) (st2 := [.inl (xs ((v3 + 1).toNatClampNeg)), .inr (.inr (19, 0)), .inl r]) (w2 := w1) 6 (fun F h => ⟨h1, h⟩) ?_
    refine pm_ift (P := (xs ((v3 + 1).toNatClampNeg)) = 0) (i2 := 215) (i3 := 213) (ls2 := [some (.inr (.inr (39, 0))), some (.inr (.inr (0, 0))), some (.inr (.inr (19, 0))), some (.inl v3)]) (st2 := [.inr (.inr (19, 0)), .inl r]) (w2 := w1) 1 (fun F h => h) c0 ?_
    refine pm_go (i2 := 216) (ls2 := [some (.inr (.inr (39, 0))), some (.inr (.inr (0, 0))), some (.inr (.inr (19, 0))), some (.inl v3)]) (st2 := [.inl 0, .inr (.inr (19, 0)), .inl r]) (w2 := w1) 1 (fun F h => h) ?_
    refine pm_ca (y := 125) (as := [.inr (.inr (19, 0)), .inl 0]) (r := some (.inl r)) (w2 := w1) (w1 := w2) (t := [.inl r]) (i2 := 217) (ls2 := [some (.inr (.inr (39, 0))), some (.inr (.inr (0, 0))), some (.inr (.inr (19, 0))), some (.inl v3)]) 1 e2 (fun F h => h) ?_
    show pm_Gx (RT 16) (co_law L xs) 217 [some (.inr (.inr (39, 0))), some (.inr (.inr (0, 0))), some (.inr (.inr (19, 0))), some (.inl v3)] [.inl r, .inl r] w2 Q
    refine pm_ift (P := r = r) (i2 := 577) (i3 := 218) (ls2 := [some (.inr (.inr (39, 0))), some (.inr (.inr (0, 0))), some (.inr (.inr (19, 0))), some (.inl v3)]) (st2 := []) (w2 := w2) 1 (fun F h => h) rfl ?_
    exact ih w2 H2
  · refine pm_go (i2 := 201) (ls2 := [some (.inr (.inr (39, 0))), some (.inr (.inr (0, 0))), some (.inr (.inr (19, 0))), some (.inl v3)]) (st2 := [.inl (xs ((v3 + 1).toNatClampNeg)), .inr (.inr (0, 0))]) (w2 := w) 6 (fun F h => ⟨h1, h⟩) ?_
    refine pm_iff (P := (xs ((v3 + 1).toNatClampNeg)) = 0) (i2 := 204) (i3 := 202) (ls2 := [some (.inr (.inr (39, 0))), some (.inr (.inr (0, 0))), some (.inr (.inr (19, 0))), some (.inl v3)]) (st2 := [.inr (.inr (0, 0))]) (w2 := w) 1 (fun F h => h) c0 ?_
    refine pm_go (i2 := 205) (ls2 := [some (.inr (.inr (39, 0))), some (.inr (.inr (0, 0))), some (.inr (.inr (19, 0))), some (.inl v3)]) (st2 := [.inl 1, .inr (.inr (0, 0))]) (w2 := w) 2 (fun F h => h) ?_
    obtain ⟨r, w1, w2, e1, e2, H2⟩ := g_together H 1
    refine pm_ca (y := 67) (as := [.inr (.inr (0, 0)), .inl 1]) (r := some (.inl r)) (w2 := w) (w1 := w1) (t := []) (i2 := 206) (ls2 := [some (.inr (.inr (39, 0))), some (.inr (.inr (0, 0))), some (.inr (.inr (19, 0))), some (.inl v3)]) 1 e1 (fun F h => h) ?_
    show pm_Gx (RT 16) (co_law L xs) 206 [some (.inr (.inr (39, 0))), some (.inr (.inr (0, 0))), some (.inr (.inr (19, 0))), some (.inl v3)] [.inl r] w1 Q
    refine pm_go (i2 := 212) (ls2 := [some (.inr (.inr (39, 0))), some (.inr (.inr (0, 0))), some (.inr (.inr (19, 0))), some (.inl v3)]) (st2 := [.inl (xs ((v3 + 1).toNatClampNeg)), .inr (.inr (19, 0)), .inl r]) (w2 := w1) 6 (fun F h => ⟨h1, h⟩) ?_
    refine pm_iff (P := (xs ((v3 + 1).toNatClampNeg)) = 0) (i2 := 215) (i3 := 213) (ls2 := [some (.inr (.inr (39, 0))), some (.inr (.inr (0, 0))), some (.inr (.inr (19, 0))), some (.inl v3)]) (st2 := [.inr (.inr (19, 0)), .inl r]) (w2 := w1) 1 (fun F h => h) c0 ?_
    refine pm_go (i2 := 216) (ls2 := [some (.inr (.inr (39, 0))), some (.inr (.inr (0, 0))), some (.inr (.inr (19, 0))), some (.inl v3)]) (st2 := [.inl 1, .inr (.inr (19, 0)), .inl r]) (w2 := w1) 2 (fun F h => h) ?_
    refine pm_ca (y := 125) (as := [.inr (.inr (19, 0)), .inl 1]) (r := some (.inl r)) (w2 := w1) (w1 := w2) (t := [.inl r]) (i2 := 217) (ls2 := [some (.inr (.inr (39, 0))), some (.inr (.inr (0, 0))), some (.inr (.inr (19, 0))), some (.inl v3)]) 1 e2 (fun F h => h) ?_
    show pm_Gx (RT 16) (co_law L xs) 217 [some (.inr (.inr (39, 0))), some (.inr (.inr (0, 0))), some (.inr (.inr (19, 0))), some (.inl v3)] [.inl r, .inl r] w2 Q
    refine pm_ift (P := r = r) (i2 := 577) (i3 := 218) (ls2 := [some (.inr (.inr (39, 0))), some (.inr (.inr (0, 0))), some (.inr (.inr (19, 0))), some (.inl v3)]) (st2 := []) (w2 := w2) 1 (fun F h => h) rfl ?_
    exact ih w2 H2
set_option maxRecDepth 20000 in
set_option maxHeartbeats 4000000 in
theorem lc_judge {L : Nat} {xs : Nat → Int32} {w : pm_W} {v3 : Int32} {Q : pm_Q} (H : Rel w) (h1 : vp_in (v3 + 1) L) (h2 : vp_in (v3 + 2) L) (h3 : vp_in (v3 + 3) L) (ih : ∀ w2, Rel w2 → pm_Gx (RT 16) (co_law L xs) 577 [some (.inr (.inr (39, 0))), some (.inr (.inr (0, 0))), some (.inr (.inr (19, 0))), some (.inl v3)] [] w2 Q) : pm_Gx (RT 16) (co_law L xs) 220 [some (.inr (.inr (39, 0))), some (.inr (.inr (0, 0))), some (.inr (.inr (19, 0))), some (.inl v3)] [] w Q := by
  refine pm_go (i2 := 231) (ls2 := [some (.inr (.inr (39, 0))), some (.inr (.inr (0, 0))), some (.inr (.inr (19, 0))), some (.inl v3)]) (st2 := [.inl (xs ((v3 + 2).toNatClampNeg)), .inl (xs ((v3 + 1).toNatClampNeg)), .inr (.inr (0, 0))]) (w2 := w) 11 (fun F h => ⟨h1, h2, h⟩) ?_
  obtain ⟨r, w1, w2, e1, e2, H2⟩ := g_judge H (xs ((v3 + 1).toNatClampNeg)) (xs ((v3 + 2).toNatClampNeg))
  refine pm_ca (y := 68) (as := [.inr (.inr (0, 0)), .inl (xs ((v3 + 1).toNatClampNeg)), .inl (xs ((v3 + 2).toNatClampNeg))]) (r := some (.inl r)) (w2 := w) (w1 := w1) (t := []) (i2 := 232) (ls2 := [some (.inr (.inr (39, 0))), some (.inr (.inr (0, 0))), some (.inr (.inr (19, 0))), some (.inl v3)]) 1 e1 (fun F h => h) ?_
  show pm_Gx (RT 16) (co_law L xs) 232 [some (.inr (.inr (39, 0))), some (.inr (.inr (0, 0))), some (.inr (.inr (19, 0))), some (.inl v3)] [.inl r] w1 Q
  refine pm_go (i2 := 243) (ls2 := [some (.inr (.inr (39, 0))), some (.inr (.inr (0, 0))), some (.inr (.inr (19, 0))), some (.inl v3)]) (st2 := [.inl (xs ((v3 + 2).toNatClampNeg)), .inl (xs ((v3 + 1).toNatClampNeg)), .inr (.inr (19, 0)), .inl r]) (w2 := w1) 11 (fun F h => ⟨h1, h2, h⟩) ?_
  refine pm_ca (y := 128) (as := [.inr (.inr (19, 0)), .inl (xs ((v3 + 1).toNatClampNeg)), .inl (xs ((v3 + 2).toNatClampNeg))]) (r := some (.inl r)) (w2 := w1) (w1 := w2) (t := [.inl r]) (i2 := 244) (ls2 := [some (.inr (.inr (39, 0))), some (.inr (.inr (0, 0))), some (.inr (.inr (19, 0))), some (.inl v3)]) 1 e2 (fun F h => h) ?_
  show pm_Gx (RT 16) (co_law L xs) 244 [some (.inr (.inr (39, 0))), some (.inr (.inr (0, 0))), some (.inr (.inr (19, 0))), some (.inl v3)] [.inl r, .inl r] w2 Q
  refine pm_ift (P := r = r) (i2 := 577) (i3 := 245) (ls2 := [some (.inr (.inr (39, 0))), some (.inr (.inr (0, 0))), some (.inr (.inr (19, 0))), some (.inl v3)]) (st2 := []) (w2 := w2) 1 (fun F h => h) rfl ?_
  exact ih w2 H2
set_option maxRecDepth 20000 in
set_option maxHeartbeats 4000000 in
theorem lc_share {L : Nat} {xs : Nat → Int32} {w : pm_W} {v3 : Int32} {Q : pm_Q} (H : Rel w) (h1 : vp_in (v3 + 1) L) (h2 : vp_in (v3 + 2) L) (h3 : vp_in (v3 + 3) L) (ih : ∀ w2, Rel w2 → pm_Gx (RT 16) (co_law L xs) 577 [some (.inr (.inr (39, 0))), some (.inr (.inr (0, 0))), some (.inr (.inr (19, 0))), some (.inl v3)] [] w2 Q) : pm_Gx (RT 16) (co_law L xs) 247 [some (.inr (.inr (39, 0))), some (.inr (.inr (0, 0))), some (.inr (.inr (19, 0))), some (.inl v3)] [] w Q := by
  by_cases c0 : xs ((v3 + 2).toNatClampNeg) = 0
  · refine pm_go (i2 := 258) (ls2 := [some (.inr (.inr (39, 0))), some (.inr (.inr (0, 0))), some (.inr (.inr (19, 0))), some (.inl v3)]) (st2 := [.inl (xs ((v3 + 2).toNatClampNeg)), .inl (xs ((v3 + 1).toNatClampNeg)), .inr (.inr (0, 0))]) (w2 := w) 11 (fun F h => ⟨h1, h2, h⟩) ?_
    refine pm_ift (P := (xs ((v3 + 2).toNatClampNeg)) = 0) (i2 := 261) (i3 := 259) (ls2 := [some (.inr (.inr (39, 0))), some (.inr (.inr (0, 0))), some (.inr (.inr (19, 0))), some (.inl v3)]) (st2 := [.inl (xs ((v3 + 1).toNatClampNeg)), .inr (.inr (0, 0))]) (w2 := w) 1 (fun F h => h) c0 ?_
    refine pm_go (i2 := 262) (ls2 := [some (.inr (.inr (39, 0))), some (.inr (.inr (0, 0))), some (.inr (.inr (19, 0))), some (.inl v3)]) (st2 := [.inl 0, .inl (xs ((v3 + 1).toNatClampNeg)), .inr (.inr (0, 0))]) (w2 := w) 1 (fun F h => h) ?_
    obtain ⟨r, w1, w2, e1, e2, H2⟩ := g_share H (xs ((v3 + 1).toNatClampNeg)) 0
    refine pm_ca (y := 69) (as := [.inr (.inr (0, 0)), .inl (xs ((v3 + 1).toNatClampNeg)), .inl 0]) (r := some (.inl r)) (w2 := w) (w1 := w1) (t := []) (i2 := 263) (ls2 := [some (.inr (.inr (39, 0))), some (.inr (.inr (0, 0))), some (.inr (.inr (19, 0))), some (.inl v3)]) 1 e1 (fun F h => h) ?_
    show pm_Gx (RT 16) (co_law L xs) 263 [some (.inr (.inr (39, 0))), some (.inr (.inr (0, 0))), some (.inr (.inr (19, 0))), some (.inl v3)] [.inl r] w1 Q
    refine pm_go (i2 := 274) (ls2 := [some (.inr (.inr (39, 0))), some (.inr (.inr (0, 0))), some (.inr (.inr (19, 0))), some (.inl v3)]) (st2 := [.inl (xs ((v3 + 2).toNatClampNeg)), .inl (xs ((v3 + 1).toNatClampNeg)), .inr (.inr (19, 0)), .inl r]) (w2 := w1) 11 (fun F h => ⟨h1, h2, h⟩) ?_
    refine pm_ift (P := (xs ((v3 + 2).toNatClampNeg)) = 0) (i2 := 277) (i3 := 275) (ls2 := [some (.inr (.inr (39, 0))), some (.inr (.inr (0, 0))), some (.inr (.inr (19, 0))), some (.inl v3)]) (st2 := [.inl (xs ((v3 + 1).toNatClampNeg)), .inr (.inr (19, 0)), .inl r]) (w2 := w1) 1 (fun F h => h) c0 ?_
    refine pm_go (i2 := 278) (ls2 := [some (.inr (.inr (39, 0))), some (.inr (.inr (0, 0))), some (.inr (.inr (19, 0))), some (.inl v3)]) (st2 := [.inl 0, .inl (xs ((v3 + 1).toNatClampNeg)), .inr (.inr (19, 0)), .inl r]) (w2 := w1) 1 (fun F h => h) ?_
    refine pm_ca (y := 131) (as := [.inr (.inr (19, 0)), .inl (xs ((v3 + 1).toNatClampNeg)), .inl 0]) (r := some (.inl r)) (w2 := w1) (w1 := w2) (t := [.inl r]) (i2 := 279) (ls2 := [some (.inr (.inr (39, 0))), some (.inr (.inr (0, 0))), some (.inr (.inr (19, 0))), some (.inl v3)]) 1 e2 (fun F h => h) ?_
    show pm_Gx (RT 16) (co_law L xs) 279 [some (.inr (.inr (39, 0))), some (.inr (.inr (0, 0))), some (.inr (.inr (19, 0))), some (.inl v3)] [.inl r, .inl r] w2 Q
    refine pm_ift (P := r = r) (i2 := 577) (i3 := 280) (ls2 := [some (.inr (.inr (39, 0))), some (.inr (.inr (0, 0))), some (.inr (.inr (19, 0))), some (.inl v3)]) (st2 := []) (w2 := w2) 1 (fun F h => h) rfl ?_
    exact ih w2 H2
  · refine pm_go (i2 := 258) (ls2 := [some (.inr (.inr (39, 0))), some (.inr (.inr (0, 0))), some (.inr (.inr (19, 0))), some (.inl v3)]) (st2 := [.inl (xs ((v3 + 2).toNatClampNeg)), .inl (xs ((v3 + 1).toNatClampNeg)), .inr (.inr (0, 0))]) (w2 := w) 11 (fun F h => ⟨h1, h2, h⟩) ?_
    refine pm_iff (P := (xs ((v3 + 2).toNatClampNeg)) = 0) (i2 := 261) (i3 := 259) (ls2 := [some (.inr (.inr (39, 0))), some (.inr (.inr (0, 0))), some (.inr (.inr (19, 0))), some (.inl v3)]) (st2 := [.inl (xs ((v3 + 1).toNatClampNeg)), .inr (.inr (0, 0))]) (w2 := w) 1 (fun F h => h) c0 ?_
    refine pm_go (i2 := 262) (ls2 := [some (.inr (.inr (39, 0))), some (.inr (.inr (0, 0))), some (.inr (.inr (19, 0))), some (.inl v3)]) (st2 := [.inl 1, .inl (xs ((v3 + 1).toNatClampNeg)), .inr (.inr (0, 0))]) (w2 := w) 2 (fun F h => h) ?_
    obtain ⟨r, w1, w2, e1, e2, H2⟩ := g_share H (xs ((v3 + 1).toNatClampNeg)) 1
    refine pm_ca (y := 69) (as := [.inr (.inr (0, 0)), .inl (xs ((v3 + 1).toNatClampNeg)), .inl 1]) (r := some (.inl r)) (w2 := w) (w1 := w1) (t := []) (i2 := 263) (ls2 := [some (.inr (.inr (39, 0))), some (.inr (.inr (0, 0))), some (.inr (.inr (19, 0))), some (.inl v3)]) 1 e1 (fun F h => h) ?_
    show pm_Gx (RT 16) (co_law L xs) 263 [some (.inr (.inr (39, 0))), some (.inr (.inr (0, 0))), some (.inr (.inr (19, 0))), some (.inl v3)] [.inl r] w1 Q
    refine pm_go (i2 := 274) (ls2 := [some (.inr (.inr (39, 0))), some (.inr (.inr (0, 0))), some (.inr (.inr (19, 0))), some (.inl v3)]) (st2 := [.inl (xs ((v3 + 2).toNatClampNeg)), .inl (xs ((v3 + 1).toNatClampNeg)), .inr (.inr (19, 0)), .inl r]) (w2 := w1) 11 (fun F h => ⟨h1, h2, h⟩) ?_
    refine pm_iff (P := (xs ((v3 + 2).toNatClampNeg)) = 0) (i2 := 277) (i3 := 275) (ls2 := [some (.inr (.inr (39, 0))), some (.inr (.inr (0, 0))), some (.inr (.inr (19, 0))), some (.inl v3)]) (st2 := [.inl (xs ((v3 + 1).toNatClampNeg)), .inr (.inr (19, 0)), .inl r]) (w2 := w1) 1 (fun F h => h) c0 ?_
    refine pm_go (i2 := 278) (ls2 := [some (.inr (.inr (39, 0))), some (.inr (.inr (0, 0))), some (.inr (.inr (19, 0))), some (.inl v3)]) (st2 := [.inl 1, .inl (xs ((v3 + 1).toNatClampNeg)), .inr (.inr (19, 0)), .inl r]) (w2 := w1) 2 (fun F h => h) ?_
    refine pm_ca (y := 131) (as := [.inr (.inr (19, 0)), .inl (xs ((v3 + 1).toNatClampNeg)), .inl 1]) (r := some (.inl r)) (w2 := w1) (w1 := w2) (t := [.inl r]) (i2 := 279) (ls2 := [some (.inr (.inr (39, 0))), some (.inr (.inr (0, 0))), some (.inr (.inr (19, 0))), some (.inl v3)]) 1 e2 (fun F h => h) ?_
    show pm_Gx (RT 16) (co_law L xs) 279 [some (.inr (.inr (39, 0))), some (.inr (.inr (0, 0))), some (.inr (.inr (19, 0))), some (.inl v3)] [.inl r, .inl r] w2 Q
    refine pm_ift (P := r = r) (i2 := 577) (i3 := 280) (ls2 := [some (.inr (.inr (39, 0))), some (.inr (.inr (0, 0))), some (.inr (.inr (19, 0))), some (.inl v3)]) (st2 := []) (w2 := w2) 1 (fun F h => h) rfl ?_
    exact ih w2 H2
set_option maxRecDepth 20000 in
set_option maxHeartbeats 4000000 in
theorem lc_comes {L : Nat} {xs : Nat → Int32} {w : pm_W} {v3 : Int32} {Q : pm_Q} (H : Rel w) (h1 : vp_in (v3 + 1) L) (h2 : vp_in (v3 + 2) L) (h3 : vp_in (v3 + 3) L) (ih : ∀ w2, Rel w2 → pm_Gx (RT 16) (co_law L xs) 577 [some (.inr (.inr (39, 0))), some (.inr (.inr (0, 0))), some (.inr (.inr (19, 0))), some (.inl v3)] [] w2 Q) : pm_Gx (RT 16) (co_law L xs) 282 [some (.inr (.inr (39, 0))), some (.inr (.inr (0, 0))), some (.inr (.inr (19, 0))), some (.inl v3)] [] w Q := by
  refine pm_go (i2 := 293) (ls2 := [some (.inr (.inr (39, 0))), some (.inr (.inr (0, 0))), some (.inr (.inr (19, 0))), some (.inl v3)]) (st2 := [.inl (xs ((v3 + 2).toNatClampNeg)), .inl (xs ((v3 + 1).toNatClampNeg)), .inr (.inr (0, 0))]) (w2 := w) 11 (fun F h => ⟨h1, h2, h⟩) ?_
  obtain ⟨r, w1, w2, e1, e2, H2⟩ := g_comes H (xs ((v3 + 1).toNatClampNeg)) (xs ((v3 + 2).toNatClampNeg))
  refine pm_ca (y := 70) (as := [.inr (.inr (0, 0)), .inl (xs ((v3 + 1).toNatClampNeg)), .inl (xs ((v3 + 2).toNatClampNeg))]) (r := some (.inl r)) (w2 := w) (w1 := w1) (t := []) (i2 := 294) (ls2 := [some (.inr (.inr (39, 0))), some (.inr (.inr (0, 0))), some (.inr (.inr (19, 0))), some (.inl v3)]) 1 e1 (fun F h => h) ?_
  show pm_Gx (RT 16) (co_law L xs) 294 [some (.inr (.inr (39, 0))), some (.inr (.inr (0, 0))), some (.inr (.inr (19, 0))), some (.inl v3)] [.inl r] w1 Q
  refine pm_go (i2 := 305) (ls2 := [some (.inr (.inr (39, 0))), some (.inr (.inr (0, 0))), some (.inr (.inr (19, 0))), some (.inl v3)]) (st2 := [.inl (xs ((v3 + 2).toNatClampNeg)), .inl (xs ((v3 + 1).toNatClampNeg)), .inr (.inr (19, 0)), .inl r]) (w2 := w1) 11 (fun F h => ⟨h1, h2, h⟩) ?_
  refine pm_ca (y := 135) (as := [.inr (.inr (19, 0)), .inl (xs ((v3 + 1).toNatClampNeg)), .inl (xs ((v3 + 2).toNatClampNeg))]) (r := some (.inl r)) (w2 := w1) (w1 := w2) (t := [.inl r]) (i2 := 306) (ls2 := [some (.inr (.inr (39, 0))), some (.inr (.inr (0, 0))), some (.inr (.inr (19, 0))), some (.inl v3)]) 1 e2 (fun F h => h) ?_
  show pm_Gx (RT 16) (co_law L xs) 306 [some (.inr (.inr (39, 0))), some (.inr (.inr (0, 0))), some (.inr (.inr (19, 0))), some (.inl v3)] [.inl r, .inl r] w2 Q
  refine pm_ift (P := r = r) (i2 := 577) (i3 := 307) (ls2 := [some (.inr (.inr (39, 0))), some (.inr (.inr (0, 0))), some (.inr (.inr (19, 0))), some (.inl v3)]) (st2 := []) (w2 := w2) 1 (fun F h => h) rfl ?_
  exact ih w2 H2
set_option maxRecDepth 20000 in
set_option maxHeartbeats 4000000 in
theorem lc_spoken {L : Nat} {xs : Nat → Int32} {w : pm_W} {v3 : Int32} {Q : pm_Q} (H : Rel w) (h1 : vp_in (v3 + 1) L) (h2 : vp_in (v3 + 2) L) (h3 : vp_in (v3 + 3) L) (ih : ∀ w2, Rel w2 → pm_Gx (RT 16) (co_law L xs) 577 [some (.inr (.inr (39, 0))), some (.inr (.inr (0, 0))), some (.inr (.inr (19, 0))), some (.inl v3)] [] w2 Q) : pm_Gx (RT 16) (co_law L xs) 309 [some (.inr (.inr (39, 0))), some (.inr (.inr (0, 0))), some (.inr (.inr (19, 0))), some (.inl v3)] [] w Q := by
  refine pm_go (i2 := 320) (ls2 := [some (.inr (.inr (39, 0))), some (.inr (.inr (0, 0))), some (.inr (.inr (19, 0))), some (.inl v3)]) (st2 := [.inl (xs ((v3 + 2).toNatClampNeg)), .inl (xs ((v3 + 1).toNatClampNeg)), .inr (.inr (0, 0))]) (w2 := w) 11 (fun F h => ⟨h1, h2, h⟩) ?_
  obtain ⟨r, w1, w2, e1, e2, H2⟩ := g_spoken H (xs ((v3 + 1).toNatClampNeg)) (xs ((v3 + 2).toNatClampNeg))
  refine pm_ca (y := 71) (as := [.inr (.inr (0, 0)), .inl (xs ((v3 + 1).toNatClampNeg)), .inl (xs ((v3 + 2).toNatClampNeg))]) (r := some (.inl r)) (w2 := w) (w1 := w1) (t := []) (i2 := 321) (ls2 := [some (.inr (.inr (39, 0))), some (.inr (.inr (0, 0))), some (.inr (.inr (19, 0))), some (.inl v3)]) 1 e1 (fun F h => h) ?_
  show pm_Gx (RT 16) (co_law L xs) 321 [some (.inr (.inr (39, 0))), some (.inr (.inr (0, 0))), some (.inr (.inr (19, 0))), some (.inl v3)] [.inl r] w1 Q
  refine pm_go (i2 := 332) (ls2 := [some (.inr (.inr (39, 0))), some (.inr (.inr (0, 0))), some (.inr (.inr (19, 0))), some (.inl v3)]) (st2 := [.inl (xs ((v3 + 2).toNatClampNeg)), .inl (xs ((v3 + 1).toNatClampNeg)), .inr (.inr (19, 0)), .inl r]) (w2 := w1) 11 (fun F h => ⟨h1, h2, h⟩) ?_
  refine pm_ca (y := 136) (as := [.inr (.inr (19, 0)), .inl (xs ((v3 + 1).toNatClampNeg)), .inl (xs ((v3 + 2).toNatClampNeg))]) (r := some (.inl r)) (w2 := w1) (w1 := w2) (t := [.inl r]) (i2 := 333) (ls2 := [some (.inr (.inr (39, 0))), some (.inr (.inr (0, 0))), some (.inr (.inr (19, 0))), some (.inl v3)]) 1 e2 (fun F h => h) ?_
  show pm_Gx (RT 16) (co_law L xs) 333 [some (.inr (.inr (39, 0))), some (.inr (.inr (0, 0))), some (.inr (.inr (19, 0))), some (.inl v3)] [.inl r, .inl r] w2 Q
  refine pm_ift (P := r = r) (i2 := 577) (i3 := 334) (ls2 := [some (.inr (.inr (39, 0))), some (.inr (.inr (0, 0))), some (.inr (.inr (19, 0))), some (.inl v3)]) (st2 := []) (w2 := w2) 1 (fun F h => h) rfl ?_
  exact ih w2 H2
set_option maxRecDepth 20000 in
set_option maxHeartbeats 4000000 in
theorem lc_dine {L : Nat} {xs : Nat → Int32} {w : pm_W} {v3 : Int32} {Q : pm_Q} (H : Rel w) (h1 : vp_in (v3 + 1) L) (h2 : vp_in (v3 + 2) L) (h3 : vp_in (v3 + 3) L) (ih : ∀ w2, Rel w2 → pm_Gx (RT 16) (co_law L xs) 577 [some (.inr (.inr (39, 0))), some (.inr (.inr (0, 0))), some (.inr (.inr (19, 0))), some (.inl v3)] [] w2 Q) : pm_Gx (RT 16) (co_law L xs) 336 [some (.inr (.inr (39, 0))), some (.inr (.inr (0, 0))), some (.inr (.inr (19, 0))), some (.inl v3)] [] w Q := by
  refine pm_go (i2 := 347) (ls2 := [some (.inr (.inr (39, 0))), some (.inr (.inr (0, 0))), some (.inr (.inr (19, 0))), some (.inl v3)]) (st2 := [.inl (xs ((v3 + 2).toNatClampNeg)), .inl (xs ((v3 + 1).toNatClampNeg)), .inr (.inr (0, 0))]) (w2 := w) 11 (fun F h => ⟨h1, h2, h⟩) ?_
  obtain ⟨r, w1, w2, e1, e2, H2⟩ := g_dine H (xs ((v3 + 1).toNatClampNeg)) (xs ((v3 + 2).toNatClampNeg))
  refine pm_ca (y := 72) (as := [.inr (.inr (0, 0)), .inl (xs ((v3 + 1).toNatClampNeg)), .inl (xs ((v3 + 2).toNatClampNeg))]) (r := some (.inl r)) (w2 := w) (w1 := w1) (t := []) (i2 := 348) (ls2 := [some (.inr (.inr (39, 0))), some (.inr (.inr (0, 0))), some (.inr (.inr (19, 0))), some (.inl v3)]) 1 e1 (fun F h => h) ?_
  show pm_Gx (RT 16) (co_law L xs) 348 [some (.inr (.inr (39, 0))), some (.inr (.inr (0, 0))), some (.inr (.inr (19, 0))), some (.inl v3)] [.inl r] w1 Q
  refine pm_go (i2 := 359) (ls2 := [some (.inr (.inr (39, 0))), some (.inr (.inr (0, 0))), some (.inr (.inr (19, 0))), some (.inl v3)]) (st2 := [.inl (xs ((v3 + 2).toNatClampNeg)), .inl (xs ((v3 + 1).toNatClampNeg)), .inr (.inr (19, 0)), .inl r]) (w2 := w1) 11 (fun F h => ⟨h1, h2, h⟩) ?_
  refine pm_ca (y := 137) (as := [.inr (.inr (19, 0)), .inl (xs ((v3 + 1).toNatClampNeg)), .inl (xs ((v3 + 2).toNatClampNeg))]) (r := some (.inl r)) (w2 := w1) (w1 := w2) (t := [.inl r]) (i2 := 360) (ls2 := [some (.inr (.inr (39, 0))), some (.inr (.inr (0, 0))), some (.inr (.inr (19, 0))), some (.inl v3)]) 1 e2 (fun F h => h) ?_
  show pm_Gx (RT 16) (co_law L xs) 360 [some (.inr (.inr (39, 0))), some (.inr (.inr (0, 0))), some (.inr (.inr (19, 0))), some (.inl v3)] [.inl r, .inl r] w2 Q
  refine pm_ift (P := r = r) (i2 := 577) (i3 := 361) (ls2 := [some (.inr (.inr (39, 0))), some (.inr (.inr (0, 0))), some (.inr (.inr (19, 0))), some (.inl v3)]) (st2 := []) (w2 := w2) 1 (fun F h => h) rfl ?_
  exact ih w2 H2
set_option maxRecDepth 20000 in
set_option maxHeartbeats 4000000 in
theorem lc_clear {L : Nat} {xs : Nat → Int32} {w : pm_W} {v3 : Int32} {Q : pm_Q} (H : Rel w) (h1 : vp_in (v3 + 1) L) (h2 : vp_in (v3 + 2) L) (h3 : vp_in (v3 + 3) L) (ih : ∀ w2, Rel w2 → pm_Gx (RT 16) (co_law L xs) 577 [some (.inr (.inr (39, 0))), some (.inr (.inr (0, 0))), some (.inr (.inr (19, 0))), some (.inl v3)] [] w2 Q) : pm_Gx (RT 16) (co_law L xs) 363 [some (.inr (.inr (39, 0))), some (.inr (.inr (0, 0))), some (.inr (.inr (19, 0))), some (.inl v3)] [] w Q := by
  refine pm_go (i2 := 364) (ls2 := [some (.inr (.inr (39, 0))), some (.inr (.inr (0, 0))), some (.inr (.inr (19, 0))), some (.inl v3)]) (st2 := [.inr (.inr (0, 0))]) (w2 := w) 1 (fun F h => h) ?_
  obtain ⟨r, w1, w2, e1, e2, H2⟩ := g_clear H
  refine pm_ca (y := 73) (as := [.inr (.inr (0, 0))]) (r := some (.inl r)) (w2 := w) (w1 := w1) (t := []) (i2 := 365) (ls2 := [some (.inr (.inr (39, 0))), some (.inr (.inr (0, 0))), some (.inr (.inr (19, 0))), some (.inl v3)]) 1 e1 (fun F h => h) ?_
  show pm_Gx (RT 16) (co_law L xs) 365 [some (.inr (.inr (39, 0))), some (.inr (.inr (0, 0))), some (.inr (.inr (19, 0))), some (.inl v3)] [.inl r] w1 Q
  refine pm_go (i2 := 366) (ls2 := [some (.inr (.inr (39, 0))), some (.inr (.inr (0, 0))), some (.inr (.inr (19, 0))), some (.inl v3)]) (st2 := [.inr (.inr (19, 0)), .inl r]) (w2 := w1) 1 (fun F h => h) ?_
  refine pm_ca (y := 138) (as := [.inr (.inr (19, 0))]) (r := some (.inl r)) (w2 := w1) (w1 := w2) (t := [.inl r]) (i2 := 367) (ls2 := [some (.inr (.inr (39, 0))), some (.inr (.inr (0, 0))), some (.inr (.inr (19, 0))), some (.inl v3)]) 1 e2 (fun F h => h) ?_
  show pm_Gx (RT 16) (co_law L xs) 367 [some (.inr (.inr (39, 0))), some (.inr (.inr (0, 0))), some (.inr (.inr (19, 0))), some (.inl v3)] [.inl r, .inl r] w2 Q
  refine pm_ift (P := r = r) (i2 := 577) (i3 := 368) (ls2 := [some (.inr (.inr (39, 0))), some (.inr (.inr (0, 0))), some (.inr (.inr (19, 0))), some (.inl v3)]) (st2 := []) (w2 := w2) 1 (fun F h => h) rfl ?_
  exact ih w2 H2
set_option maxRecDepth 20000 in
set_option maxHeartbeats 4000000 in
theorem lc_laws {L : Nat} {xs : Nat → Int32} {w : pm_W} {v3 : Int32} {Q : pm_Q} (H : Rel w) (h1 : vp_in (v3 + 1) L) (h2 : vp_in (v3 + 2) L) (h3 : vp_in (v3 + 3) L) (ih : ∀ w2, Rel w2 → pm_Gx (RT 16) (co_law L xs) 577 [some (.inr (.inr (39, 0))), some (.inr (.inr (0, 0))), some (.inr (.inr (19, 0))), some (.inl v3)] [] w2 Q) : pm_Gx (RT 16) (co_law L xs) 370 [some (.inr (.inr (39, 0))), some (.inr (.inr (0, 0))), some (.inr (.inr (19, 0))), some (.inl v3)] [] w Q := by
  refine pm_go (i2 := 376) (ls2 := [some (.inr (.inr (39, 0))), some (.inr (.inr (0, 0))), some (.inr (.inr (19, 0))), some (.inl v3)]) (st2 := [.inl (xs ((v3 + 1).toNatClampNeg)), .inr (.inr (0, 0))]) (w2 := w) 6 (fun F h => ⟨h1, h⟩) ?_
  obtain ⟨r, w1, w2, e1, e2, H2⟩ := g_laws H (xs ((v3 + 1).toNatClampNeg))
  refine pm_ca (y := 74) (as := [.inr (.inr (0, 0)), .inl (xs ((v3 + 1).toNatClampNeg))]) (r := some (.inl r)) (w2 := w) (w1 := w1) (t := []) (i2 := 377) (ls2 := [some (.inr (.inr (39, 0))), some (.inr (.inr (0, 0))), some (.inr (.inr (19, 0))), some (.inl v3)]) 1 e1 (fun F h => h) ?_
  show pm_Gx (RT 16) (co_law L xs) 377 [some (.inr (.inr (39, 0))), some (.inr (.inr (0, 0))), some (.inr (.inr (19, 0))), some (.inl v3)] [.inl r] w1 Q
  refine pm_go (i2 := 383) (ls2 := [some (.inr (.inr (39, 0))), some (.inr (.inr (0, 0))), some (.inr (.inr (19, 0))), some (.inl v3)]) (st2 := [.inl (xs ((v3 + 1).toNatClampNeg)), .inr (.inr (19, 0)), .inl r]) (w2 := w1) 6 (fun F h => ⟨h1, h⟩) ?_
  refine pm_ca (y := 141) (as := [.inr (.inr (19, 0)), .inl (xs ((v3 + 1).toNatClampNeg))]) (r := some (.inl r)) (w2 := w1) (w1 := w2) (t := [.inl r]) (i2 := 384) (ls2 := [some (.inr (.inr (39, 0))), some (.inr (.inr (0, 0))), some (.inr (.inr (19, 0))), some (.inl v3)]) 1 e2 (fun F h => h) ?_
  show pm_Gx (RT 16) (co_law L xs) 384 [some (.inr (.inr (39, 0))), some (.inr (.inr (0, 0))), some (.inr (.inr (19, 0))), some (.inl v3)] [.inl r, .inl r] w2 Q
  refine pm_ift (P := r = r) (i2 := 577) (i3 := 385) (ls2 := [some (.inr (.inr (39, 0))), some (.inr (.inr (0, 0))), some (.inr (.inr (19, 0))), some (.inl v3)]) (st2 := []) (w2 := w2) 1 (fun F h => h) rfl ?_
  exact ih w2 H2
set_option maxRecDepth 20000 in
set_option maxHeartbeats 4000000 in
theorem lc_hosts {L : Nat} {xs : Nat → Int32} {w : pm_W} {v3 : Int32} {Q : pm_Q} (H : Rel w) (h1 : vp_in (v3 + 1) L) (h2 : vp_in (v3 + 2) L) (h3 : vp_in (v3 + 3) L) (ih : ∀ w2, Rel w2 → pm_Gx (RT 16) (co_law L xs) 577 [some (.inr (.inr (39, 0))), some (.inr (.inr (0, 0))), some (.inr (.inr (19, 0))), some (.inl v3)] [] w2 Q) : pm_Gx (RT 16) (co_law L xs) 387 [some (.inr (.inr (39, 0))), some (.inr (.inr (0, 0))), some (.inr (.inr (19, 0))), some (.inl v3)] [] w Q := by
  by_cases c0 : xs ((v3 + 2).toNatClampNeg) = 0
  · refine pm_go (i2 := 398) (ls2 := [some (.inr (.inr (39, 0))), some (.inr (.inr (0, 0))), some (.inr (.inr (19, 0))), some (.inl v3)]) (st2 := [.inl (xs ((v3 + 2).toNatClampNeg)), .inl (xs ((v3 + 1).toNatClampNeg)), .inr (.inr (0, 0))]) (w2 := w) 11 (fun F h => ⟨h1, h2, h⟩) ?_
    refine pm_ift (P := (xs ((v3 + 2).toNatClampNeg)) = 0) (i2 := 401) (i3 := 399) (ls2 := [some (.inr (.inr (39, 0))), some (.inr (.inr (0, 0))), some (.inr (.inr (19, 0))), some (.inl v3)]) (st2 := [.inl (xs ((v3 + 1).toNatClampNeg)), .inr (.inr (0, 0))]) (w2 := w) 1 (fun F h => h) c0 ?_
    refine pm_go (i2 := 402) (ls2 := [some (.inr (.inr (39, 0))), some (.inr (.inr (0, 0))), some (.inr (.inr (19, 0))), some (.inl v3)]) (st2 := [.inl 0, .inl (xs ((v3 + 1).toNatClampNeg)), .inr (.inr (0, 0))]) (w2 := w) 1 (fun F h => h) ?_
    obtain ⟨r, w1, w2, e1, e2, H2⟩ := g_hosts H (xs ((v3 + 1).toNatClampNeg)) 0
    refine pm_ca (y := 75) (as := [.inr (.inr (0, 0)), .inl (xs ((v3 + 1).toNatClampNeg)), .inl 0]) (r := some (.inl r)) (w2 := w) (w1 := w1) (t := []) (i2 := 403) (ls2 := [some (.inr (.inr (39, 0))), some (.inr (.inr (0, 0))), some (.inr (.inr (19, 0))), some (.inl v3)]) 1 e1 (fun F h => h) ?_
    show pm_Gx (RT 16) (co_law L xs) 403 [some (.inr (.inr (39, 0))), some (.inr (.inr (0, 0))), some (.inr (.inr (19, 0))), some (.inl v3)] [.inl r] w1 Q
    refine pm_go (i2 := 414) (ls2 := [some (.inr (.inr (39, 0))), some (.inr (.inr (0, 0))), some (.inr (.inr (19, 0))), some (.inl v3)]) (st2 := [.inl (xs ((v3 + 2).toNatClampNeg)), .inl (xs ((v3 + 1).toNatClampNeg)), .inr (.inr (19, 0)), .inl r]) (w2 := w1) 11 (fun F h => ⟨h1, h2, h⟩) ?_
    refine pm_ift (P := (xs ((v3 + 2).toNatClampNeg)) = 0) (i2 := 417) (i3 := 415) (ls2 := [some (.inr (.inr (39, 0))), some (.inr (.inr (0, 0))), some (.inr (.inr (19, 0))), some (.inl v3)]) (st2 := [.inl (xs ((v3 + 1).toNatClampNeg)), .inr (.inr (19, 0)), .inl r]) (w2 := w1) 1 (fun F h => h) c0 ?_
    refine pm_go (i2 := 418) (ls2 := [some (.inr (.inr (39, 0))), some (.inr (.inr (0, 0))), some (.inr (.inr (19, 0))), some (.inl v3)]) (st2 := [.inl 0, .inl (xs ((v3 + 1).toNatClampNeg)), .inr (.inr (19, 0)), .inl r]) (w2 := w1) 1 (fun F h => h) ?_
    refine pm_ca (y := 144) (as := [.inr (.inr (19, 0)), .inl (xs ((v3 + 1).toNatClampNeg)), .inl 0]) (r := some (.inl r)) (w2 := w1) (w1 := w2) (t := [.inl r]) (i2 := 419) (ls2 := [some (.inr (.inr (39, 0))), some (.inr (.inr (0, 0))), some (.inr (.inr (19, 0))), some (.inl v3)]) 1 e2 (fun F h => h) ?_
    show pm_Gx (RT 16) (co_law L xs) 419 [some (.inr (.inr (39, 0))), some (.inr (.inr (0, 0))), some (.inr (.inr (19, 0))), some (.inl v3)] [.inl r, .inl r] w2 Q
    refine pm_ift (P := r = r) (i2 := 577) (i3 := 420) (ls2 := [some (.inr (.inr (39, 0))), some (.inr (.inr (0, 0))), some (.inr (.inr (19, 0))), some (.inl v3)]) (st2 := []) (w2 := w2) 1 (fun F h => h) rfl ?_
    exact ih w2 H2
  · refine pm_go (i2 := 398) (ls2 := [some (.inr (.inr (39, 0))), some (.inr (.inr (0, 0))), some (.inr (.inr (19, 0))), some (.inl v3)]) (st2 := [.inl (xs ((v3 + 2).toNatClampNeg)), .inl (xs ((v3 + 1).toNatClampNeg)), .inr (.inr (0, 0))]) (w2 := w) 11 (fun F h => ⟨h1, h2, h⟩) ?_
    refine pm_iff (P := (xs ((v3 + 2).toNatClampNeg)) = 0) (i2 := 401) (i3 := 399) (ls2 := [some (.inr (.inr (39, 0))), some (.inr (.inr (0, 0))), some (.inr (.inr (19, 0))), some (.inl v3)]) (st2 := [.inl (xs ((v3 + 1).toNatClampNeg)), .inr (.inr (0, 0))]) (w2 := w) 1 (fun F h => h) c0 ?_
    refine pm_go (i2 := 402) (ls2 := [some (.inr (.inr (39, 0))), some (.inr (.inr (0, 0))), some (.inr (.inr (19, 0))), some (.inl v3)]) (st2 := [.inl 1, .inl (xs ((v3 + 1).toNatClampNeg)), .inr (.inr (0, 0))]) (w2 := w) 2 (fun F h => h) ?_
    obtain ⟨r, w1, w2, e1, e2, H2⟩ := g_hosts H (xs ((v3 + 1).toNatClampNeg)) 1
    refine pm_ca (y := 75) (as := [.inr (.inr (0, 0)), .inl (xs ((v3 + 1).toNatClampNeg)), .inl 1]) (r := some (.inl r)) (w2 := w) (w1 := w1) (t := []) (i2 := 403) (ls2 := [some (.inr (.inr (39, 0))), some (.inr (.inr (0, 0))), some (.inr (.inr (19, 0))), some (.inl v3)]) 1 e1 (fun F h => h) ?_
    show pm_Gx (RT 16) (co_law L xs) 403 [some (.inr (.inr (39, 0))), some (.inr (.inr (0, 0))), some (.inr (.inr (19, 0))), some (.inl v3)] [.inl r] w1 Q
    refine pm_go (i2 := 414) (ls2 := [some (.inr (.inr (39, 0))), some (.inr (.inr (0, 0))), some (.inr (.inr (19, 0))), some (.inl v3)]) (st2 := [.inl (xs ((v3 + 2).toNatClampNeg)), .inl (xs ((v3 + 1).toNatClampNeg)), .inr (.inr (19, 0)), .inl r]) (w2 := w1) 11 (fun F h => ⟨h1, h2, h⟩) ?_
    refine pm_iff (P := (xs ((v3 + 2).toNatClampNeg)) = 0) (i2 := 417) (i3 := 415) (ls2 := [some (.inr (.inr (39, 0))), some (.inr (.inr (0, 0))), some (.inr (.inr (19, 0))), some (.inl v3)]) (st2 := [.inl (xs ((v3 + 1).toNatClampNeg)), .inr (.inr (19, 0)), .inl r]) (w2 := w1) 1 (fun F h => h) c0 ?_
    refine pm_go (i2 := 418) (ls2 := [some (.inr (.inr (39, 0))), some (.inr (.inr (0, 0))), some (.inr (.inr (19, 0))), some (.inl v3)]) (st2 := [.inl 1, .inl (xs ((v3 + 1).toNatClampNeg)), .inr (.inr (19, 0)), .inl r]) (w2 := w1) 2 (fun F h => h) ?_
    refine pm_ca (y := 144) (as := [.inr (.inr (19, 0)), .inl (xs ((v3 + 1).toNatClampNeg)), .inl 1]) (r := some (.inl r)) (w2 := w1) (w1 := w2) (t := [.inl r]) (i2 := 419) (ls2 := [some (.inr (.inr (39, 0))), some (.inr (.inr (0, 0))), some (.inr (.inr (19, 0))), some (.inl v3)]) 1 e2 (fun F h => h) ?_
    show pm_Gx (RT 16) (co_law L xs) 419 [some (.inr (.inr (39, 0))), some (.inr (.inr (0, 0))), some (.inr (.inr (19, 0))), some (.inl v3)] [.inl r, .inl r] w2 Q
    refine pm_ift (P := r = r) (i2 := 577) (i3 := 420) (ls2 := [some (.inr (.inr (39, 0))), some (.inr (.inr (0, 0))), some (.inr (.inr (19, 0))), some (.inl v3)]) (st2 := []) (w2 := w2) 1 (fun F h => h) rfl ?_
    exact ih w2 H2
set_option maxRecDepth 20000 in
set_option maxHeartbeats 4000000 in
theorem lc_come {L : Nat} {xs : Nat → Int32} {w : pm_W} {v3 : Int32} {Q : pm_Q} (H : Rel w) (h1 : vp_in (v3 + 1) L) (h2 : vp_in (v3 + 2) L) (h3 : vp_in (v3 + 3) L) (ih : ∀ w2, Rel w2 → pm_Gx (RT 16) (co_law L xs) 577 [some (.inr (.inr (39, 0))), some (.inr (.inr (0, 0))), some (.inr (.inr (19, 0))), some (.inl v3)] [] w2 Q) : pm_Gx (RT 16) (co_law L xs) 422 [some (.inr (.inr (39, 0))), some (.inr (.inr (0, 0))), some (.inr (.inr (19, 0))), some (.inl v3)] [] w Q := by
  by_cases c0 : xs ((v3 + 3).toNatClampNeg) = 0
  · refine pm_go (i2 := 438) (ls2 := [some (.inr (.inr (39, 0))), some (.inr (.inr (0, 0))), some (.inr (.inr (19, 0))), some (.inl v3)]) (st2 := [.inl (xs ((v3 + 3).toNatClampNeg)), .inl (xs ((v3 + 2).toNatClampNeg)), .inl (xs ((v3 + 1).toNatClampNeg)), .inr (.inr (0, 0))]) (w2 := w) 16 (fun F h => ⟨h1, h2, h3, h⟩) ?_
    refine pm_ift (P := (xs ((v3 + 3).toNatClampNeg)) = 0) (i2 := 441) (i3 := 439) (ls2 := [some (.inr (.inr (39, 0))), some (.inr (.inr (0, 0))), some (.inr (.inr (19, 0))), some (.inl v3)]) (st2 := [.inl (xs ((v3 + 2).toNatClampNeg)), .inl (xs ((v3 + 1).toNatClampNeg)), .inr (.inr (0, 0))]) (w2 := w) 1 (fun F h => h) c0 ?_
    refine pm_go (i2 := 442) (ls2 := [some (.inr (.inr (39, 0))), some (.inr (.inr (0, 0))), some (.inr (.inr (19, 0))), some (.inl v3)]) (st2 := [.inl 0, .inl (xs ((v3 + 2).toNatClampNeg)), .inl (xs ((v3 + 1).toNatClampNeg)), .inr (.inr (0, 0))]) (w2 := w) 1 (fun F h => h) ?_
    obtain ⟨r, w1, w2, e1, e2, H2⟩ := g_come H (xs ((v3 + 1).toNatClampNeg)) (xs ((v3 + 2).toNatClampNeg)) 0
    refine pm_ca (y := 76) (as := [.inr (.inr (0, 0)), .inl (xs ((v3 + 1).toNatClampNeg)), .inl (xs ((v3 + 2).toNatClampNeg)), .inl 0]) (r := some (.inl r)) (w2 := w) (w1 := w1) (t := []) (i2 := 443) (ls2 := [some (.inr (.inr (39, 0))), some (.inr (.inr (0, 0))), some (.inr (.inr (19, 0))), some (.inl v3)]) 1 e1 (fun F h => h) ?_
    show pm_Gx (RT 16) (co_law L xs) 443 [some (.inr (.inr (39, 0))), some (.inr (.inr (0, 0))), some (.inr (.inr (19, 0))), some (.inl v3)] [.inl r] w1 Q
    refine pm_go (i2 := 459) (ls2 := [some (.inr (.inr (39, 0))), some (.inr (.inr (0, 0))), some (.inr (.inr (19, 0))), some (.inl v3)]) (st2 := [.inl (xs ((v3 + 3).toNatClampNeg)), .inl (xs ((v3 + 2).toNatClampNeg)), .inl (xs ((v3 + 1).toNatClampNeg)), .inr (.inr (19, 0)), .inl r]) (w2 := w1) 16 (fun F h => ⟨h1, h2, h3, h⟩) ?_
    refine pm_ift (P := (xs ((v3 + 3).toNatClampNeg)) = 0) (i2 := 462) (i3 := 460) (ls2 := [some (.inr (.inr (39, 0))), some (.inr (.inr (0, 0))), some (.inr (.inr (19, 0))), some (.inl v3)]) (st2 := [.inl (xs ((v3 + 2).toNatClampNeg)), .inl (xs ((v3 + 1).toNatClampNeg)), .inr (.inr (19, 0)), .inl r]) (w2 := w1) 1 (fun F h => h) c0 ?_
    refine pm_go (i2 := 463) (ls2 := [some (.inr (.inr (39, 0))), some (.inr (.inr (0, 0))), some (.inr (.inr (19, 0))), some (.inl v3)]) (st2 := [.inl 0, .inl (xs ((v3 + 2).toNatClampNeg)), .inl (xs ((v3 + 1).toNatClampNeg)), .inr (.inr (19, 0)), .inl r]) (w2 := w1) 1 (fun F h => h) ?_
    refine pm_ca (y := 145) (as := [.inr (.inr (19, 0)), .inl (xs ((v3 + 1).toNatClampNeg)), .inl (xs ((v3 + 2).toNatClampNeg)), .inl 0]) (r := some (.inl r)) (w2 := w1) (w1 := w2) (t := [.inl r]) (i2 := 464) (ls2 := [some (.inr (.inr (39, 0))), some (.inr (.inr (0, 0))), some (.inr (.inr (19, 0))), some (.inl v3)]) 1 e2 (fun F h => h) ?_
    show pm_Gx (RT 16) (co_law L xs) 464 [some (.inr (.inr (39, 0))), some (.inr (.inr (0, 0))), some (.inr (.inr (19, 0))), some (.inl v3)] [.inl r, .inl r] w2 Q
    refine pm_ift (P := r = r) (i2 := 577) (i3 := 465) (ls2 := [some (.inr (.inr (39, 0))), some (.inr (.inr (0, 0))), some (.inr (.inr (19, 0))), some (.inl v3)]) (st2 := []) (w2 := w2) 1 (fun F h => h) rfl ?_
    exact ih w2 H2
  · refine pm_go (i2 := 438) (ls2 := [some (.inr (.inr (39, 0))), some (.inr (.inr (0, 0))), some (.inr (.inr (19, 0))), some (.inl v3)]) (st2 := [.inl (xs ((v3 + 3).toNatClampNeg)), .inl (xs ((v3 + 2).toNatClampNeg)), .inl (xs ((v3 + 1).toNatClampNeg)), .inr (.inr (0, 0))]) (w2 := w) 16 (fun F h => ⟨h1, h2, h3, h⟩) ?_
    refine pm_iff (P := (xs ((v3 + 3).toNatClampNeg)) = 0) (i2 := 441) (i3 := 439) (ls2 := [some (.inr (.inr (39, 0))), some (.inr (.inr (0, 0))), some (.inr (.inr (19, 0))), some (.inl v3)]) (st2 := [.inl (xs ((v3 + 2).toNatClampNeg)), .inl (xs ((v3 + 1).toNatClampNeg)), .inr (.inr (0, 0))]) (w2 := w) 1 (fun F h => h) c0 ?_
    refine pm_go (i2 := 442) (ls2 := [some (.inr (.inr (39, 0))), some (.inr (.inr (0, 0))), some (.inr (.inr (19, 0))), some (.inl v3)]) (st2 := [.inl 1, .inl (xs ((v3 + 2).toNatClampNeg)), .inl (xs ((v3 + 1).toNatClampNeg)), .inr (.inr (0, 0))]) (w2 := w) 2 (fun F h => h) ?_
    obtain ⟨r, w1, w2, e1, e2, H2⟩ := g_come H (xs ((v3 + 1).toNatClampNeg)) (xs ((v3 + 2).toNatClampNeg)) 1
    refine pm_ca (y := 76) (as := [.inr (.inr (0, 0)), .inl (xs ((v3 + 1).toNatClampNeg)), .inl (xs ((v3 + 2).toNatClampNeg)), .inl 1]) (r := some (.inl r)) (w2 := w) (w1 := w1) (t := []) (i2 := 443) (ls2 := [some (.inr (.inr (39, 0))), some (.inr (.inr (0, 0))), some (.inr (.inr (19, 0))), some (.inl v3)]) 1 e1 (fun F h => h) ?_
    show pm_Gx (RT 16) (co_law L xs) 443 [some (.inr (.inr (39, 0))), some (.inr (.inr (0, 0))), some (.inr (.inr (19, 0))), some (.inl v3)] [.inl r] w1 Q
    refine pm_go (i2 := 459) (ls2 := [some (.inr (.inr (39, 0))), some (.inr (.inr (0, 0))), some (.inr (.inr (19, 0))), some (.inl v3)]) (st2 := [.inl (xs ((v3 + 3).toNatClampNeg)), .inl (xs ((v3 + 2).toNatClampNeg)), .inl (xs ((v3 + 1).toNatClampNeg)), .inr (.inr (19, 0)), .inl r]) (w2 := w1) 16 (fun F h => ⟨h1, h2, h3, h⟩) ?_
    refine pm_iff (P := (xs ((v3 + 3).toNatClampNeg)) = 0) (i2 := 462) (i3 := 460) (ls2 := [some (.inr (.inr (39, 0))), some (.inr (.inr (0, 0))), some (.inr (.inr (19, 0))), some (.inl v3)]) (st2 := [.inl (xs ((v3 + 2).toNatClampNeg)), .inl (xs ((v3 + 1).toNatClampNeg)), .inr (.inr (19, 0)), .inl r]) (w2 := w1) 1 (fun F h => h) c0 ?_
    refine pm_go (i2 := 463) (ls2 := [some (.inr (.inr (39, 0))), some (.inr (.inr (0, 0))), some (.inr (.inr (19, 0))), some (.inl v3)]) (st2 := [.inl 1, .inl (xs ((v3 + 2).toNatClampNeg)), .inl (xs ((v3 + 1).toNatClampNeg)), .inr (.inr (19, 0)), .inl r]) (w2 := w1) 2 (fun F h => h) ?_
    refine pm_ca (y := 145) (as := [.inr (.inr (19, 0)), .inl (xs ((v3 + 1).toNatClampNeg)), .inl (xs ((v3 + 2).toNatClampNeg)), .inl 1]) (r := some (.inl r)) (w2 := w1) (w1 := w2) (t := [.inl r]) (i2 := 464) (ls2 := [some (.inr (.inr (39, 0))), some (.inr (.inr (0, 0))), some (.inr (.inr (19, 0))), some (.inl v3)]) 1 e2 (fun F h => h) ?_
    show pm_Gx (RT 16) (co_law L xs) 464 [some (.inr (.inr (39, 0))), some (.inr (.inr (0, 0))), some (.inr (.inr (19, 0))), some (.inl v3)] [.inl r, .inl r] w2 Q
    refine pm_ift (P := r = r) (i2 := 577) (i3 := 465) (ls2 := [some (.inr (.inr (39, 0))), some (.inr (.inr (0, 0))), some (.inr (.inr (19, 0))), some (.inl v3)]) (st2 := []) (w2 := w2) 1 (fun F h => h) rfl ?_
    exact ih w2 H2
set_option maxRecDepth 20000 in
set_option maxHeartbeats 4000000 in
theorem lc_seed {L : Nat} {xs : Nat → Int32} {w : pm_W} {v3 : Int32} {Q : pm_Q} (H : Rel w) (h1 : vp_in (v3 + 1) L) (h2 : vp_in (v3 + 2) L) (h3 : vp_in (v3 + 3) L) (ih : ∀ w2, Rel w2 → pm_Gx (RT 16) (co_law L xs) 577 [some (.inr (.inr (39, 0))), some (.inr (.inr (0, 0))), some (.inr (.inr (19, 0))), some (.inl v3)] [] w2 Q) : pm_Gx (RT 16) (co_law L xs) 467 [some (.inr (.inr (39, 0))), some (.inr (.inr (0, 0))), some (.inr (.inr (19, 0))), some (.inl v3)] [] w Q := by
  refine pm_go (i2 := 485) (ls2 := [some (.inr (.inr (39, 0))), some (.inr (.inr (0, 0))), some (.inr (.inr (19, 0))), some (.inl v3)]) (st2 := [.inr (.inl ((((xs ((v3 + 1).toNatClampNeg)).toInt64) <<< ((32 : Int32).toInt64 &&& 63)) ||| (((xs ((v3 + 2).toNatClampNeg)).toInt64) &&& 4294967295))), .inr (.inr (0, 0))]) (w2 := w) 18 (fun F h => ⟨h1, h2, h⟩) ?_
  obtain ⟨r, w1, w2, e1, e2, H2⟩ := g_seed H ((((xs ((v3 + 1).toNatClampNeg)).toInt64) <<< ((32 : Int32).toInt64 &&& 63)) ||| (((xs ((v3 + 2).toNatClampNeg)).toInt64) &&& 4294967295))
  refine pm_ca (y := 77) (as := [.inr (.inr (0, 0)), .inr (.inl ((((xs ((v3 + 1).toNatClampNeg)).toInt64) <<< ((32 : Int32).toInt64 &&& 63)) ||| (((xs ((v3 + 2).toNatClampNeg)).toInt64) &&& 4294967295)))]) (r := some (.inr (.inl r))) (w2 := w) (w1 := w1) (t := []) (i2 := 486) (ls2 := [some (.inr (.inr (39, 0))), some (.inr (.inr (0, 0))), some (.inr (.inr (19, 0))), some (.inl v3)]) 1 e1 (fun F h => h) ?_
  show pm_Gx (RT 16) (co_law L xs) 486 [some (.inr (.inr (39, 0))), some (.inr (.inr (0, 0))), some (.inr (.inr (19, 0))), some (.inl v3)] [.inr (.inl r)] w1 Q
  refine pm_go (i2 := 504) (ls2 := [some (.inr (.inr (39, 0))), some (.inr (.inr (0, 0))), some (.inr (.inr (19, 0))), some (.inl v3)]) (st2 := [.inr (.inl ((((xs ((v3 + 1).toNatClampNeg)).toInt64) <<< ((32 : Int32).toInt64 &&& 63)) ||| (((xs ((v3 + 2).toNatClampNeg)).toInt64) &&& 4294967295))), .inr (.inr (19, 0)), .inr (.inl r)]) (w2 := w1) 18 (fun F h => ⟨h1, h2, h⟩) ?_
  refine pm_ca (y := 146) (as := [.inr (.inr (19, 0)), .inr (.inl ((((xs ((v3 + 1).toNatClampNeg)).toInt64) <<< ((32 : Int32).toInt64 &&& 63)) ||| (((xs ((v3 + 2).toNatClampNeg)).toInt64) &&& 4294967295)))]) (r := some (.inr (.inl r))) (w2 := w1) (w1 := w2) (t := [.inr (.inl r)]) (i2 := 505) (ls2 := [some (.inr (.inr (39, 0))), some (.inr (.inr (0, 0))), some (.inr (.inr (19, 0))), some (.inl v3)]) 1 e2 (fun F h => h) ?_
  show pm_Gx (RT 16) (co_law L xs) 505 [some (.inr (.inr (39, 0))), some (.inr (.inr (0, 0))), some (.inr (.inr (19, 0))), some (.inl v3)] [.inr (.inl r), .inr (.inl r)] w2 Q
  refine pm_go (i2 := 506) (ls2 := [some (.inr (.inr (39, 0))), some (.inr (.inr (0, 0))), some (.inr (.inr (19, 0))), some (.inl v3)]) (st2 := [.inl (lg_cmp r r)]) (w2 := w2) 1 (fun F h => h) ?_
  refine pm_ift (P := lg_cmp r r = 0) (i2 := 577) (i3 := 507) (ls2 := [some (.inr (.inr (39, 0))), some (.inr (.inr (0, 0))), some (.inr (.inr (19, 0))), some (.inl v3)]) (st2 := []) (w2 := w2) 1 (fun F h => h) lg_cmp_self ?_
  exact ih w2 H2
set_option maxRecDepth 20000 in
set_option maxHeartbeats 4000000 in
theorem lc_dinner {L : Nat} {xs : Nat → Int32} {w : pm_W} {v3 : Int32} {Q : pm_Q} (H : Rel w) (h1 : vp_in (v3 + 1) L) (h2 : vp_in (v3 + 2) L) (h3 : vp_in (v3 + 3) L) (ih : ∀ w2, Rel w2 → pm_Gx (RT 16) (co_law L xs) 577 [some (.inr (.inr (39, 0))), some (.inr (.inr (0, 0))), some (.inr (.inr (19, 0))), some (.inl v3)] [] w2 Q) : pm_Gx (RT 16) (co_law L xs) 509 [some (.inr (.inr (39, 0))), some (.inr (.inr (0, 0))), some (.inr (.inr (19, 0))), some (.inl v3)] [] w Q := by
  refine pm_go (i2 := 515) (ls2 := [some (.inr (.inr (39, 0))), some (.inr (.inr (0, 0))), some (.inr (.inr (19, 0))), some (.inl v3)]) (st2 := [.inl (xs ((v3 + 1).toNatClampNeg)), .inr (.inr (0, 0))]) (w2 := w) 6 (fun F h => ⟨h1, h⟩) ?_
  obtain ⟨r, w1, w2, e1, e2, H2⟩ := g_dinner H (xs ((v3 + 1).toNatClampNeg))
  refine pm_ca (y := 78) (as := [.inr (.inr (0, 0)), .inl (xs ((v3 + 1).toNatClampNeg))]) (r := some (.inl r)) (w2 := w) (w1 := w1) (t := []) (i2 := 516) (ls2 := [some (.inr (.inr (39, 0))), some (.inr (.inr (0, 0))), some (.inr (.inr (19, 0))), some (.inl v3)]) 1 e1 (fun F h => h) ?_
  show pm_Gx (RT 16) (co_law L xs) 516 [some (.inr (.inr (39, 0))), some (.inr (.inr (0, 0))), some (.inr (.inr (19, 0))), some (.inl v3)] [.inl r] w1 Q
  refine pm_go (i2 := 522) (ls2 := [some (.inr (.inr (39, 0))), some (.inr (.inr (0, 0))), some (.inr (.inr (19, 0))), some (.inl v3)]) (st2 := [.inl (xs ((v3 + 1).toNatClampNeg)), .inr (.inr (19, 0)), .inl r]) (w2 := w1) 6 (fun F h => ⟨h1, h⟩) ?_
  refine pm_ca (y := 147) (as := [.inr (.inr (19, 0)), .inl (xs ((v3 + 1).toNatClampNeg))]) (r := some (.inl r)) (w2 := w1) (w1 := w2) (t := [.inl r]) (i2 := 523) (ls2 := [some (.inr (.inr (39, 0))), some (.inr (.inr (0, 0))), some (.inr (.inr (19, 0))), some (.inl v3)]) 1 e2 (fun F h => h) ?_
  show pm_Gx (RT 16) (co_law L xs) 523 [some (.inr (.inr (39, 0))), some (.inr (.inr (0, 0))), some (.inr (.inr (19, 0))), some (.inl v3)] [.inl r, .inl r] w2 Q
  refine pm_ift (P := r = r) (i2 := 577) (i3 := 524) (ls2 := [some (.inr (.inr (39, 0))), some (.inr (.inr (0, 0))), some (.inr (.inr (19, 0))), some (.inl v3)]) (st2 := []) (w2 := w2) 1 (fun F h => h) rfl ?_
  exact ih w2 H2
set_option maxRecDepth 20000 in
set_option maxHeartbeats 4000000 in
theorem lc_keep {L : Nat} {xs : Nat → Int32} {w : pm_W} {v3 : Int32} {Q : pm_Q} (H : Rel w) (h1 : vp_in (v3 + 1) L) (h2 : vp_in (v3 + 2) L) (h3 : vp_in (v3 + 3) L) (ih : ∀ w2, Rel w2 → pm_Gx (RT 16) (co_law L xs) 577 [some (.inr (.inr (39, 0))), some (.inr (.inr (0, 0))), some (.inr (.inr (19, 0))), some (.inl v3)] [] w2 Q) : pm_Gx (RT 16) (co_law L xs) 526 [some (.inr (.inr (39, 0))), some (.inr (.inr (0, 0))), some (.inr (.inr (19, 0))), some (.inl v3)] [] w Q := by
  refine pm_go (i2 := 532) (ls2 := [some (.inr (.inr (39, 0))), some (.inr (.inr (0, 0))), some (.inr (.inr (19, 0))), some (.inl v3)]) (st2 := [.inl (xs ((v3 + 1).toNatClampNeg)), .inr (.inr (0, 0))]) (w2 := w) 6 (fun F h => ⟨h1, h⟩) ?_
  obtain ⟨r, w1, w2, e1, e2, H2⟩ := g_keep H (xs ((v3 + 1).toNatClampNeg))
  refine pm_ca (y := 79) (as := [.inr (.inr (0, 0)), .inl (xs ((v3 + 1).toNatClampNeg))]) (r := some (.inl r)) (w2 := w) (w1 := w1) (t := []) (i2 := 533) (ls2 := [some (.inr (.inr (39, 0))), some (.inr (.inr (0, 0))), some (.inr (.inr (19, 0))), some (.inl v3)]) 1 e1 (fun F h => h) ?_
  show pm_Gx (RT 16) (co_law L xs) 533 [some (.inr (.inr (39, 0))), some (.inr (.inr (0, 0))), some (.inr (.inr (19, 0))), some (.inl v3)] [.inl r] w1 Q
  refine pm_go (i2 := 539) (ls2 := [some (.inr (.inr (39, 0))), some (.inr (.inr (0, 0))), some (.inr (.inr (19, 0))), some (.inl v3)]) (st2 := [.inl (xs ((v3 + 1).toNatClampNeg)), .inr (.inr (19, 0)), .inl r]) (w2 := w1) 6 (fun F h => ⟨h1, h⟩) ?_
  refine pm_ca (y := 148) (as := [.inr (.inr (19, 0)), .inl (xs ((v3 + 1).toNatClampNeg))]) (r := some (.inl r)) (w2 := w1) (w1 := w2) (t := [.inl r]) (i2 := 540) (ls2 := [some (.inr (.inr (39, 0))), some (.inr (.inr (0, 0))), some (.inr (.inr (19, 0))), some (.inl v3)]) 1 e2 (fun F h => h) ?_
  show pm_Gx (RT 16) (co_law L xs) 540 [some (.inr (.inr (39, 0))), some (.inr (.inr (0, 0))), some (.inr (.inr (19, 0))), some (.inl v3)] [.inl r, .inl r] w2 Q
  refine pm_ift (P := r = r) (i2 := 577) (i3 := 541) (ls2 := [some (.inr (.inr (39, 0))), some (.inr (.inr (0, 0))), some (.inr (.inr (19, 0))), some (.inl v3)]) (st2 := []) (w2 := w2) 1 (fun F h => h) rfl ?_
  exact ih w2 H2
set_option maxRecDepth 20000 in
set_option maxHeartbeats 4000000 in
theorem lc_again {L : Nat} {xs : Nat → Int32} {w : pm_W} {v3 : Int32} {Q : pm_Q} (H : Rel w) (h1 : vp_in (v3 + 1) L) (h2 : vp_in (v3 + 2) L) (h3 : vp_in (v3 + 3) L) (ih : ∀ w2, Rel w2 → pm_Gx (RT 16) (co_law L xs) 577 [some (.inr (.inr (39, 0))), some (.inr (.inr (0, 0))), some (.inr (.inr (19, 0))), some (.inl v3)] [] w2 Q) : pm_Gx (RT 16) (co_law L xs) 543 [some (.inr (.inr (39, 0))), some (.inr (.inr (0, 0))), some (.inr (.inr (19, 0))), some (.inl v3)] [] w Q := by
  refine pm_go (i2 := 549) (ls2 := [some (.inr (.inr (39, 0))), some (.inr (.inr (0, 0))), some (.inr (.inr (19, 0))), some (.inl v3)]) (st2 := [.inl (xs ((v3 + 1).toNatClampNeg)), .inr (.inr (0, 0))]) (w2 := w) 6 (fun F h => ⟨h1, h⟩) ?_
  obtain ⟨r, w1, w2, e1, e2, H2⟩ := g_again H (xs ((v3 + 1).toNatClampNeg))
  refine pm_ca (y := 80) (as := [.inr (.inr (0, 0)), .inl (xs ((v3 + 1).toNatClampNeg))]) (r := some (.inl r)) (w2 := w) (w1 := w1) (t := []) (i2 := 550) (ls2 := [some (.inr (.inr (39, 0))), some (.inr (.inr (0, 0))), some (.inr (.inr (19, 0))), some (.inl v3)]) 1 e1 (fun F h => h) ?_
  show pm_Gx (RT 16) (co_law L xs) 550 [some (.inr (.inr (39, 0))), some (.inr (.inr (0, 0))), some (.inr (.inr (19, 0))), some (.inl v3)] [.inl r] w1 Q
  refine pm_go (i2 := 556) (ls2 := [some (.inr (.inr (39, 0))), some (.inr (.inr (0, 0))), some (.inr (.inr (19, 0))), some (.inl v3)]) (st2 := [.inl (xs ((v3 + 1).toNatClampNeg)), .inr (.inr (19, 0)), .inl r]) (w2 := w1) 6 (fun F h => ⟨h1, h⟩) ?_
  refine pm_ca (y := 149) (as := [.inr (.inr (19, 0)), .inl (xs ((v3 + 1).toNatClampNeg))]) (r := some (.inl r)) (w2 := w1) (w1 := w2) (t := [.inl r]) (i2 := 557) (ls2 := [some (.inr (.inr (39, 0))), some (.inr (.inr (0, 0))), some (.inr (.inr (19, 0))), some (.inl v3)]) 1 e2 (fun F h => h) ?_
  show pm_Gx (RT 16) (co_law L xs) 557 [some (.inr (.inr (39, 0))), some (.inr (.inr (0, 0))), some (.inr (.inr (19, 0))), some (.inl v3)] [.inl r, .inl r] w2 Q
  refine pm_ift (P := r = r) (i2 := 577) (i3 := 558) (ls2 := [some (.inr (.inr (39, 0))), some (.inr (.inr (0, 0))), some (.inr (.inr (19, 0))), some (.inl v3)]) (st2 := []) (w2 := w2) 1 (fun F h => h) rfl ?_
  exact ih w2 H2
set_option maxRecDepth 20000 in
set_option maxHeartbeats 4000000 in
theorem lc_count {L : Nat} {xs : Nat → Int32} {w : pm_W} {v3 : Int32} {Q : pm_Q} (H : Rel w) (h1 : vp_in (v3 + 1) L) (h2 : vp_in (v3 + 2) L) (h3 : vp_in (v3 + 3) L) (ih : ∀ w2, Rel w2 → pm_Gx (RT 16) (co_law L xs) 577 [some (.inr (.inr (39, 0))), some (.inr (.inr (0, 0))), some (.inr (.inr (19, 0))), some (.inl v3)] [] w2 Q) : pm_Gx (RT 16) (co_law L xs) 560 [some (.inr (.inr (39, 0))), some (.inr (.inr (0, 0))), some (.inr (.inr (19, 0))), some (.inl v3)] [] w Q := by
  refine pm_go (i2 := 566) (ls2 := [some (.inr (.inr (39, 0))), some (.inr (.inr (0, 0))), some (.inr (.inr (19, 0))), some (.inl v3)]) (st2 := [.inl (xs ((v3 + 1).toNatClampNeg)), .inr (.inr (0, 0))]) (w2 := w) 6 (fun F h => ⟨h1, h⟩) ?_
  obtain ⟨r, w1, w2, e1, e2, H2⟩ := g_count H (xs ((v3 + 1).toNatClampNeg))
  refine pm_ca (y := 81) (as := [.inr (.inr (0, 0)), .inl (xs ((v3 + 1).toNatClampNeg))]) (r := some (.inl r)) (w2 := w) (w1 := w1) (t := []) (i2 := 567) (ls2 := [some (.inr (.inr (39, 0))), some (.inr (.inr (0, 0))), some (.inr (.inr (19, 0))), some (.inl v3)]) 1 e1 (fun F h => h) ?_
  show pm_Gx (RT 16) (co_law L xs) 567 [some (.inr (.inr (39, 0))), some (.inr (.inr (0, 0))), some (.inr (.inr (19, 0))), some (.inl v3)] [.inl r] w1 Q
  refine pm_go (i2 := 573) (ls2 := [some (.inr (.inr (39, 0))), some (.inr (.inr (0, 0))), some (.inr (.inr (19, 0))), some (.inl v3)]) (st2 := [.inl (xs ((v3 + 1).toNatClampNeg)), .inr (.inr (19, 0)), .inl r]) (w2 := w1) 6 (fun F h => ⟨h1, h⟩) ?_
  refine pm_ca (y := 150) (as := [.inr (.inr (19, 0)), .inl (xs ((v3 + 1).toNatClampNeg))]) (r := some (.inl r)) (w2 := w1) (w1 := w2) (t := [.inl r]) (i2 := 574) (ls2 := [some (.inr (.inr (39, 0))), some (.inr (.inr (0, 0))), some (.inr (.inr (19, 0))), some (.inl v3)]) 1 e2 (fun F h => h) ?_
  show pm_Gx (RT 16) (co_law L xs) 574 [some (.inr (.inr (39, 0))), some (.inr (.inr (0, 0))), some (.inr (.inr (19, 0))), some (.inl v3)] [.inl r, .inl r] w2 Q
  refine pm_ift (P := r = r) (i2 := 577) (i3 := 575) (ls2 := [some (.inr (.inr (39, 0))), some (.inr (.inr (0, 0))), some (.inr (.inr (19, 0))), some (.inl v3)]) (st2 := []) (w2 := w2) 1 (fun F h => h) rfl ?_
  exact ih w2 H2
