/-! ===== the law: its loop ===== -/
theorem law_cnd {L j : Nat} (hL : L ≤ 256) (hj : j ≤ 400) : (Int32.ofNat L - 4 < nI j) ↔ L < j + 4 := by
  rw [Int32.lt_iff_toInt_lt, show Int32.ofNat L - 4 = nI L - nI 4 from rfl, pk_sub_toInt (by omega) (by omega), nI_toInt (by omega)]
  omega
set_option maxRecDepth 20000 in
set_option maxHeartbeats 4000000 in
theorem law_loop {L : Nat} {xs : Nat → Int32} (hL : L ≤ 256) {Q : pm_Q} (hq : ∀ w, Rel w → Q (some (.inl 1)) w) : ∀ (n j : Nat) (v3 : Int32) (w : pm_W), j ≤ L → L < j + n → v3 = nI j → Rel w → pm_Gx (RT 16) (co_law L xs) 10 [some (.inr (.inr (39, 0))), some (.inr (.inr (0, 0))), some (.inr (.inr (19, 0))), some (.inl v3)] [] w Q := by
  intro n
  induction n with
  | zero =>
    intro j v3 w hj hn hv H
    omega
  | succ n ih =>
    intro j v3 w hj hn hv H
    refine pm_go (i2 := 15) (ls2 := [some (.inr (.inr (39, 0))), some (.inr (.inr (0, 0))), some (.inr (.inr (19, 0))), some (.inl v3)]) (st2 := [.inl ((Int32.ofNat L) - 4), .inl v3]) (w2 := w) 5 (fun F h => h) ?_
    refine pm_if (P := Int32.ofNat L - 4 < v3) (i2 := 579) (i3 := 16) (ls2 := [some (.inr (.inr (39, 0))), some (.inr (.inr (0, 0))), some (.inr (.inr (19, 0))), some (.inl v3)]) (st2 := []) (w2 := w) 1 (fun F h => h) (fun hc => ?_) (fun hc => ?_)
    · refine pm_go (i2 := 580) (ls2 := [some (.inr (.inr (39, 0))), some (.inr (.inr (0, 0))), some (.inr (.inr (19, 0))), some (.inl v3)]) (st2 := [.inl 1]) (w2 := w) 1 (fun F h => h) ?_
      exact pm_re (r := some (.inl 1)) (w2 := w) 1 (fun F h => ⟨rfl, h⟩) (hq w H)
    · have hin : ∀ q, q < 4 → vp_in (nI (j + q)) L := fun q hq => vp_in_nI (by rw [hv, law_cnd hL (by omega)] at hc; omega) (by omega)
      have h0 : vp_in v3 L := by rw [hv]; exact hin 0 (by omega)
      have h1 : vp_in (v3 + 1) L := by rw [hv, show nI j + 1 = nI (j + 1) from nI_add j 1]; exact hin 1 (by omega)
      have h2 : vp_in (v3 + 2) L := by rw [hv, show nI j + 2 = nI (j + 2) from nI_add j 2]; exact hin 2 (by omega)
      have h3 : vp_in (v3 + 3) L := by rw [hv, show nI j + 3 = nI (j + 3) from nI_add j 3]; exact hin 3 (by omega)
      refine pm_go (i2 := 21) (ls2 := [some (.inr (.inr (39, 0))), some (.inr (.inr (0, 0))), some (.inr (.inr (19, 0))), some (.inl v3)]) (st2 := [.inl ((xs v3.toNatClampNeg) &&& 31)]) (w2 := w) 5 (fun F h => ⟨h0, h⟩) ?_
      have nx : ∀ w2, Rel w2 → pm_Gx (RT 16) (co_law L xs) 577 [some (.inr (.inr (39, 0))), some (.inr (.inr (0, 0))), some (.inr (.inr (19, 0))), some (.inl v3)] [] w2 Q := by
        intro w2 H2
        refine pm_go (i2 := 578) (ls2 := [some (.inr (.inr (39, 0))), some (.inr (.inr (0, 0))), some (.inr (.inr (19, 0))), some (.inl (v3 + 4))]) (st2 := []) (w2 := w2) 1 (fun F h => h) ?_
        refine pm_go (i2 := 10) (ls2 := [some (.inr (.inr (39, 0))), some (.inr (.inr (0, 0))), some (.inr (.inr (19, 0))), some (.inl (v3 + 4))]) (st2 := []) (w2 := w2) 1 (fun F h => h) ?_
        exact ih (j + 4) (v3 + 4) w2 (by rw [hv, law_cnd hL (by omega)] at hc; omega) (by omega) (by rw [hv, show nI j + 4 = nI (j + 4) from nI_add j 4]) H2
      refine pm_swx (x := ((xs v3.toNatClampNeg) &&& 31)) (d := 577) (cs := [(0, 22), (1, 39), (2, 46), (3, 53), (4, 60), (5, 87), (6, 104), (7, 121), (8, 128), (9, 135), (10, 160), (11, 195), (12, 220), (13, 247), (14, 282), (15, 309), (16, 336), (17, 363), (18, 370), (19, 387), (20, 422), (21, 467), (22, 509), (23, 526), (24, 543), (25, 560)]) (ls2 := [some (.inr (.inr (39, 0))), some (.inr (.inr (0, 0))), some (.inr (.inr (19, 0))), some (.inl v3)]) (st2 := []) (w2 := w) 1 (fun F h => h) ?_
      refine pm_swc (fun _ => lc_write H h1 h2 h3 nx) (fun _ => ?_)
      refine pm_swc (fun _ => lc_wipe H h1 h2 h3 nx) (fun _ => ?_)
      refine pm_swc (fun _ => lc_fault H h1 h2 h3 nx) (fun _ => ?_)
      refine pm_swc (fun _ => lc_lay H h1 h2 h3 nx) (fun _ => ?_)
      refine pm_swc (fun _ => lc_guest H h1 h2 h3 nx) (fun _ => ?_)
      refine pm_swc (fun _ => lc_say H h1 h2 h3 nx) (fun _ => ?_)
      refine pm_swc (fun _ => lc_pass H h1 h2 h3 nx) (fun _ => ?_)
      refine pm_swc (fun _ => lc_fetch H h1 h2 h3 nx) (fun _ => ?_)
      refine pm_swc (fun _ => lc_undo H h1 h2 h3 nx) (fun _ => ?_)
      refine pm_swc (fun _ => lc_passes H h1 h2 h3 nx) (fun _ => ?_)
      refine pm_swc (fun _ => lc_longBy H h1 h2 h3 nx) (fun _ => ?_)
      refine pm_swc (fun _ => lc_together H h1 h2 h3 nx) (fun _ => ?_)
      refine pm_swc (fun _ => lc_judge H h1 h2 h3 nx) (fun _ => ?_)
      refine pm_swc (fun _ => lc_share H h1 h2 h3 nx) (fun _ => ?_)
      refine pm_swc (fun _ => lc_comes H h1 h2 h3 nx) (fun _ => ?_)
      refine pm_swc (fun _ => lc_spoken H h1 h2 h3 nx) (fun _ => ?_)
      refine pm_swc (fun _ => lc_dine H h1 h2 h3 nx) (fun _ => ?_)
      refine pm_swc (fun _ => lc_clear H h1 h2 h3 nx) (fun _ => ?_)
      refine pm_swc (fun _ => lc_laws H h1 h2 h3 nx) (fun _ => ?_)
      refine pm_swc (fun _ => lc_hosts H h1 h2 h3 nx) (fun _ => ?_)
      refine pm_swc (fun _ => lc_come H h1 h2 h3 nx) (fun _ => ?_)
      refine pm_swc (fun _ => lc_seed H h1 h2 h3 nx) (fun _ => ?_)
      refine pm_swc (fun _ => lc_dinner H h1 h2 h3 nx) (fun _ => ?_)
      refine pm_swc (fun _ => lc_keep H h1 h2 h3 nx) (fun _ => ?_)
      refine pm_swc (fun _ => lc_again H h1 h2 h3 nx) (fun _ => ?_)
      refine pm_swc (fun _ => lc_count H h1 h2 h3 nx) (fun _ => ?_)
      exact pm_swd (nx w H)
