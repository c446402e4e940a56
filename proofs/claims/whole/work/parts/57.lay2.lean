/-! ===== lay: the reference, and both ===== -/
def sLm (a b c : Nat) : Prop := a = 20 ∨ a = 21 ∨ a = 22 ∨ (a = 23 ∧ c < 9) ∨ (a = 19 ∧ (c ≤ 2 ∨ c = 19)) ∨ a = 34
def LM (v0 v : pm_W) (j : Nat) : Prop := Un sLm v0 v ∧ (∀ c, c ≤ 2 → v.1 19 0 c = v0.1 19 0 c) ∧ ∀ i, i < j → v.1 20 0 i = v0.1 25 0 i ∧ v.1 21 0 i = v0.1 26 0 i ∧ v.1 22 0 i = v0.1 27 0 i ∧ v.1 23 0 i = v0.1 24 0 i
theorem layM1 (F : Nat) {v0 : pm_W} : ∀ (m k j : Nat) (v : pm_W), j + m = 5 → m < k → LM v0 v j → ∃ v', f_X8_lay_L20 F k v (nI j) = some (nI 5, v') ∧ LM v0 v' 5 := by
  intro m
  induction m with
  | zero =>
    intro k j v hj hk L
    obtain ⟨k, rfl⟩ : ∃ q, k = q + 1 := ⟨k - 1, by omega⟩
    have : j = 5 := by omega
    subst this
    exact ⟨v, by rw [f_X8_lay_L20, if_pos (by decide)], L⟩
  | succ m ih =>
    intro k j v hj hk L
    obtain ⟨k, rfl⟩ : ∃ q, k = q + 1 := ⟨k - 1, by omega⟩
    obtain ⟨U, l0, li⟩ := L
    have n5 : ¬ (5 : Int32) ≤ nI j := by rw [show (5 : Int32) = nI 5 from rfl, nx_le (by omega) (by omega)]; omega
    have i5 : pm_inb (nI j) 5 = true := nx_in (by omega) (by omega)
    have i18 : pm_inb (nI j) 18 = true := nx_in (by omega) (by omega)
    have cj : (nI j).toNatClampNeg = j := nx_cl (by omega)
    rw [f_X8_lay_L20, if_neg n5]
    simp only [i5, i18, cj, if_true, wlet_e, nx_s]
    have u25 : v.1 25 0 j = v0.1 25 0 j := U.1 25 0 j (by unfold sLm; omega)
    have u26 : v.1 26 0 j = v0.1 26 0 j := U.1 26 0 j (by unfold sLm; omega)
    have u27 : v.1 27 0 j = v0.1 27 0 j := U.1 27 0 j (by unfold sLm; omega)
    have u24 : v.1 24 0 j = v0.1 24 0 j := U.1 24 0 j (by unfold sLm; omega)
    rw [setI_ne (show ¬ (26 = 20 ∧ 0 = 0 ∧ j = j) by omega), setI_ne (show ¬ (27 = 21 ∧ 0 = 0 ∧ j = j) by omega), setI_ne (show ¬ (27 = 20 ∧ 0 = 0 ∧ j = j) by omega), setI_ne (show ¬ (24 = 22 ∧ 0 = 0 ∧ j = j) by omega), setI_ne (show ¬ (24 = 21 ∧ 0 = 0 ∧ j = j) by omega), setI_ne (show ¬ (24 = 20 ∧ 0 = 0 ∧ j = j) by omega), u24, u25, u26, u27]
    refine ih k (j + 1) _ (by omega) (by omega) ⟨(((U.set ?_).set ?_).set ?_).set ?_, fun c hc => ?_, fun i hi => ?_⟩
    · unfold sLm; omega
    · unfold sLm; omega
    · unfold sLm; omega
    · unfold sLm; omega
    · rw [setI_ne (by omega), setI_ne (by omega), setI_ne (by omega), setI_ne (by omega)]; exact l0 c hc
    · by_cases e : i = j
      · subst e
        refine ⟨?_, ?_, ?_, pm_gI_s⟩
        · rw [setI_ne (by omega), setI_ne (by omega), setI_ne (by omega), pm_gI_s]
        · rw [setI_ne (by omega), setI_ne (by omega), pm_gI_s]
        · rw [setI_ne (by omega), pm_gI_s]
      · obtain ⟨a1, a2, a3, a4⟩ := li i (by omega)
        refine ⟨?_, ?_, ?_, ?_⟩
        · rw [setI_ne (by omega), setI_ne (by omega), setI_ne (by omega), setI_ne (by omega)]; exact a1
        · rw [setI_ne (by omega), setI_ne (by omega), setI_ne (by omega), setI_ne (by omega)]; exact a2
        · rw [setI_ne (by omega), setI_ne (by omega), setI_ne (by omega), setI_ne (by omega)]; exact a3
        · rw [setI_ne (by omega), setI_ne (by omega), setI_ne (by omega), setI_ne (by omega)]; exact a4
def LN (C : Nat → Int32) (n g : Nat) (w0 v : pm_W) : Prop := Un sLm w0 v ∧ v.1 19 0 0 = nI g ∧ v.1 19 0 1 = nI (gD C n 3) ∧ v.1 19 0 2 = nI (gD C n 4) ∧ (∀ i, i < g → v.1 20 0 i = nI (gD C n (5 + 6 * i + 3)) ∧ v.1 21 0 i = nI (gD C n (5 + 6 * i + 4)) ∧ v.1 22 0 i = nI (gD C n (5 + 6 * i + 5)) ∧ v.1 23 0 i = nI (tF C n i)) ∧ v.1 23 0 5 = nI (tL C n) ∧ v.1 23 0 6 = 0 ∧ v.1 23 0 7 = nI (gD C n 3) ∧ v.1 23 0 8 = 0 ∧ v.1 19 0 19 = 0 ∧ v.1 34 0 0 = 0 ∧ v.1 34 0 1 = 0
theorem layM (F : Nat) {w u : pm_W} {C : Nat → Int32} {n g : Nat} (hF : 50 ≤ F) (hr : f_X8_readText F w = some (-9, u)) (R : Rd C n u g) (hg : g ≤ 5) : ∃ v, f_X8_lay F w = some (nI g, v) ∧ LN C n g u v := by
  unfold f_X8_lay
  obtain ⟨r1, r2, r3, r4, r5⟩ := R
  rw [hr, Option.bind_some]
  dsimp only
  rw [if_pos rfl, r4, wlet_e]
  have e1 : (pm_setI u 19 0 0 (nI g)).1 19 0 8 = nI (gD C n 3) := by rw [setI_ne (by omega)]; exact r2
  rw [e1, wlet_e]
  have e2 : (pm_setI (pm_setI u 19 0 0 (nI g)) 19 0 1 (nI (gD C n 3))).1 19 0 9 = nI (gD C n 4) := by rw [setI_ne (by omega), setI_ne (by omega)]; exact r3
  rw [e2, wlet_e]
  generalize hv : pm_setI (pm_setI (pm_setI u 19 0 0 (nI g)) 19 0 1 (nI (gD C n 3))) 19 0 2 (nI (gD C n 4)) = v0
  have U0 : Un sLm u v0 := by rw [← hv]; exact (((Un.refl u).set (by unfold sLm; omega)).set (by unfold sLm; omega)).set (by unfold sLm; omega)
  obtain ⟨v1, h1, U1, l0, li⟩ := layM1 F (v0 := v0) 5 F 0 v0 (by omega) (by omega) ⟨Un.refl v0, fun _ _ => rfl, fun i hi => by omega⟩
  rw [show nI 0 = (0 : Int32) from rfl] at h1
  rw [h1, Option.bind_some]
  dsimp only
  have z0 : v1.1 19 0 0 = nI g := by rw [l0 0 (by omega), ← hv, setI_ne (by omega), setI_ne (by omega), pm_gI_s]
  have z1 : v1.1 19 0 1 = nI (gD C n 3) := by rw [l0 1 (by omega), ← hv, setI_ne (by omega), pm_gI_s]
  have z2 : v1.1 19 0 2 = nI (gD C n 4) := by rw [l0 2 (by omega), ← hv, pm_gI_s]
  have z7 : v1.1 19 0 7 = nI (tL C n) := by rw [U1.1 19 0 7 (by unfold sLm; omega), U0.1 19 0 7 (by unfold sLm; omega)]; exact r1
  simp only [wlet_e]
  rw [z7]
  have e3 : (pm_setI (pm_setI v1 23 0 5 (nI (tL C n))) 23 0 6 0).1 19 0 1 = nI (gD C n 3) := by rw [setI_ne (by omega), setI_ne (by omega)]; exact z1
  rw [e3, show vp_nar .boolean 0 = (0 : Int32) from rfl]
  have U2 : Un sLm u v1 := ⟨fun a b c h => (U1.1 a b c h).trans (U0.1 a b c h), U1.2.trans U0.2⟩
  refine ⟨_, congrArg some (Prod.ext ?_ rfl), ?_, ?_, ?_, ?_, fun i hi => ?_, ?_, ?_, ?_, ?_, ?_, ?_, ?_⟩
  · dsimp only
    rw [setI_ne (by omega), setI_ne (by omega), setI_ne (by omega), setI_ne (by omega), setI_ne (by omega), setI_ne (by omega), setI_ne (by omega)]; exact z0
  · exact ((((((U2.set (by unfold sLm; omega)).set (by unfold sLm; omega)).set (by unfold sLm; omega)).set (by unfold sLm; omega)).set (by unfold sLm; omega)).set (by unfold sLm; omega)).set (by unfold sLm; omega)
  · rw [setI_ne (by omega), setI_ne (by omega), setI_ne (by omega), setI_ne (by omega), setI_ne (by omega), setI_ne (by omega), setI_ne (by omega)]; exact z0
  · rw [setI_ne (by omega), setI_ne (by omega), setI_ne (by omega), setI_ne (by omega), setI_ne (by omega), setI_ne (by omega), setI_ne (by omega)]; exact z1
  · rw [setI_ne (by omega), setI_ne (by omega), setI_ne (by omega), setI_ne (by omega), setI_ne (by omega), setI_ne (by omega), setI_ne (by omega)]; exact z2
  · obtain ⟨a1, a2, a3, a4⟩ := li i (by omega)
    obtain ⟨b1, b2, b3, b4⟩ := r5 i hi
    refine ⟨?_, ?_, ?_, ?_⟩
    · rw [setI_ne (by omega), setI_ne (by omega), setI_ne (by omega), setI_ne (by omega), setI_ne (by omega), setI_ne (by omega), setI_ne (by omega), a1, U0.1 25 0 i (by unfold sLm; omega)]; exact b2
    · rw [setI_ne (by omega), setI_ne (by omega), setI_ne (by omega), setI_ne (by omega), setI_ne (by omega), setI_ne (by omega), setI_ne (by omega), a2, U0.1 26 0 i (by unfold sLm; omega)]; exact b3
    · rw [setI_ne (by omega), setI_ne (by omega), setI_ne (by omega), setI_ne (by omega), setI_ne (by omega), setI_ne (by omega), setI_ne (by omega), a3, U0.1 27 0 i (by unfold sLm; omega)]; exact b4
    · rw [setI_ne (by omega), setI_ne (by omega), setI_ne (by omega), setI_ne (by omega), setI_ne (by omega), setI_ne (by omega), setI_ne (by omega), a4, U0.1 24 0 i (by unfold sLm; omega)]; exact b1
  · rw [setI_ne (by omega), setI_ne (by omega), setI_ne (by omega), setI_ne (by omega), setI_ne (by omega), setI_ne (by omega), pm_gI_s]
  · rw [setI_ne (by omega), setI_ne (by omega), setI_ne (by omega), setI_ne (by omega), setI_ne (by omega), pm_gI_s]
  · rw [setI_ne (by omega), setI_ne (by omega), setI_ne (by omega), setI_ne (by omega), pm_gI_s]
  · rw [setI_ne (by omega), setI_ne (by omega), setI_ne (by omega), pm_gI_s]
  · rw [setI_ne (by omega), setI_ne (by omega), pm_gI_s]
  · rw [setI_ne (by omega), pm_gI_s]
  · rw [pm_gI_s]
theorem AF.k3 {C : Nat → Int32} {n k i r : Nat} (A : AF C n k) (hk : 5 + 6 * i + r < k) (hr : r = 3 ∨ r = 5) : gD C n (5 + 6 * i + r) ≤ 3 := by
  have f := A _ hk
  have d := A.d hk (by omega) (by omega)
  rw [fit_g (by omega)] at f
  unfold fitG at f
  rw [if_neg (by omega), d] at f
  have f : (if r = 1 then _ else if r = 2 then _ else if r = 4 then true else decide (gD C n (5 + 6 * i + r) ≤ 3)) = true := f
  rw [if_neg (by omega), if_neg (by omega), if_neg (by omega)] at f
  exact of_decide_eq_true f
theorem AF.len {C : Nat → Int32} {n k : Nat} (A : AF C n k) (hk : 2 < k) : 1 ≤ tL C n ∧ tL C n ≤ 30 := by
  have f := A 2 hk
  have d := A.d hk (by omega) (by omega)
  unfold fit at f
  rw [if_pos (by omega)] at f
  unfold fitH at f
  rw [if_neg (by omega), d] at f
  have f : (decide (1 ≤ 10 * gD C n 1 + gD C n 2) && decide (10 * gD C n 1 + gD C n 2 ≤ 30)) = true := f
  rw [Bool.and_eq_true] at f
  exact ⟨of_decide_eq_true f.1, of_decide_eq_true f.2⟩
theorem AF.leaf {C : Nat → Int32} {n k i : Nat} (A : AF C n k) (hk : 5 + 6 * i + 2 < k) : tF C n i < tL C n := by
  have f := A _ hk
  have d := A.d hk (by omega) (by omega)
  rw [fit_g (by omega)] at f
  unfold fitG at f
  rw [if_neg (by omega), d] at f
  have f : fre C n i (10 * gD C n (5 + 6 * i + 1) + gD C n (5 + 6 * i + 2)) = true := f
  unfold fre at f
  rw [Bool.and_eq_true] at f
  exact of_decide_eq_true f.1
theorem Kd_3 {x : Nat} (h : x ≤ 3) : Kd (nI x) := by
  match x, h with
  | 0, _ => exact Or.inl rfl
  | 1, _ => exact Or.inr (Or.inl rfl)
  | 2, _ => exact Or.inr (Or.inr (Or.inl rfl))
  | 3, _ => exact Or.inr (Or.inr (Or.inr rfl))
  | n + 4, h => omega
theorem k_lay (F : Nat) (hF : 50 ≤ F) {w : pm_W} (H : Rel w) : ∃ r w1 w2, f_X7_lay F w = some (r, w1) ∧ f_X8_lay F w1 = some (r, w2) ∧ Rel w2 := by
  obtain ⟨n, N, A, X, D, HP⟩ := H
  have H1 := HP
  obtain ⟨⟨t1, t2, t3, t4⟩, hb, h3, h4, h5, h6, h7⟩ := H1
  obtain ⟨u, hu, fr, fin⟩ := readT F (w := w) (n := n) (by omega) t1 t3
  have ec := ffs_cg t4 n 0 (by omega)
  by_cases c : ffs (w.1 28 0) n n 0 = -9
  · obtain ⟨g, ⟨_, _, _, _, Ag, _⟩, eg, g5⟩ := fin c
    rw [eg] at Ag
    have AC : AF (w.1 2 0) n n := AF_cg (fun k hk => (t4 k hk).symm) (Nat.le_refl _) Ag
    obtain ⟨w1, hw1, ⟨⟨⟨U, l3, l4, l5, li⟩, l7, l8⟩, s2, s3, s4, s9, s12, s13⟩⟩ := layC F hF t2 t1 eg g5 AC
    have u28 : w1.1 28 0 = w.1 28 0 := funext fun k => U.1 28 0 k (by unfold sLc; omega)
    obtain ⟨v, hv, fr2, fin2⟩ := readT F (w := w1) (n := n) (by omega) t1 (by rw [U.1 19 0 16 (by unfold sLc; omega)]; exact t3)
    rw [u28] at hv fin2
    obtain ⟨g2, ⟨_, _, _, R, _, _⟩, eg2, _⟩ := fin2 c
    have : g2 = g := by omega
    subst this
    rw [c] at hv
    obtain ⟨w2, hw2, U2, m0, m1, m2, mi, m5, m6, m7, m8, m19, m34, m35⟩ := layM F hF hv R g5
    rw [u28] at m1 m2 mi m5 m7
    have gg := fun k => gD_cg (C := w.1 2 0) (E := w.1 28 0) (n := n) t4 k
    have ff := fun i => tF_cg (C := w.1 2 0) (E := w.1 28 0) (n := n) t4 i
    have ll := tL_cg (C := w.1 2 0) (E := w.1 28 0) (n := n) t4
    -- slots of the class that the reference leaves as they are
    have cc : ∀ a b k, ((1 ≤ a ∧ a ≤ 15 ∧ (a = 13 → k = 2)) ∧ ¬ ((a = 7 ∨ a = 8) ∧ 17 ≤ b)) → w2.1 a b k = w1.1 a b k := fun a b k h => by
      rw [U2.1 a b k (by unfold sLm; omega)]
      exact fr2.1 a b k (by unfold sFr; omega)
    have pp : ∀ a b k, ¬ sLc a b k → ¬ sLm a b k → sFr a b k → w2.1 a b k = w.1 a b k := fun a b k h1 h2 h3 => by
      rw [U2.1 a b k h2, fr2.1 a b k h3, U.1 a b k h1]
    have e2 : w2.2 = w.2 := by rw [U2.2, fr2.2, U.2]
    have hl := AF.len AC (by omega)
    refine ⟨_, w1, w2, hw1, hw2, n, g2, 0, X, D, TxR_of (fun a b k s => pp a b k ?_ ?_ ?_) ⟨t1, t2, t3, t4⟩, ?_, ?_, ?_, ?_, DnR_of (fun a b k s => pp a b k ?_ ?_ ?_) h6, by rw [e2]; exact h7⟩
    · unfold sTx at s; unfold sLc; omega
    · unfold sTx at s; unfold sLm; omega
    · unfold sTx at s; unfold sFr; omega
    · refine ⟨g5, by rw [cc 3 0 3 (by omega)]; exact l3, m0, by rw [cc 3 0 4 (by omega), l4, m1, gg], by rw [cc 3 0 5 (by omega), l5, m2, gg], fun i hi => ?_⟩
      obtain ⟨a1, a2, a3⟩ := li i hi
      obtain ⟨b1, b2, b3, b4⟩ := mi i hi
      rw [cc 4 0 i (by omega), cc 5 0 i (by omega), cc 6 0 i (by omega), a1, a2, a3, b1, b2, b3, gg, gg, gg]
      refine ⟨?_, rfl, rfl, rfl, ?_⟩
      · rw [← gg]; exact Kd_3 (AC.k3 (by omega) (by omega))
      · rw [← gg]; exact Kd_3 (AC.k3 (by omega) (by omega))
    · have cl : ∀ i, i < g2 → cS w2 0 i = nI (tF (w.1 2 0) n i) := fun i hi => by
        rw [← cS_l (by omega), cc 8 0 i (by omega)]
        exact l8 i (by omega) hi
      have c5 : ∀ k, 5 ≤ k → k < 9 → cS w2 0 k = w1.1 7 0 (k - 4) := fun k h1 h2 => by
        unfold cS
        rw [if_neg (by omega), if_pos h2, cc 7 0 (k - 4) (by omega)]
      have ml : ∀ k, k < 9 → mS w2 0 k = w2.1 23 0 k := fun k hk => by
        have := mS_g (w := w2) (v := 0) hk
        rw [show 9 * 0 + k = k by omega] at this
        exact this.symm
      refine ⟨fun k hk => ?_, tL (w.1 2 0) n, hl.1, by omega, by rw [c5 5 (by omega) (by omega)]; exact l7, fun j hj => ⟨_, AC.leaf (by omega), cl j hj⟩, 0, by omega, by rw [c5 8 (by omega) (by omega)]; exact s4⟩
      rcases hk with hk | ⟨hk1, hk2⟩
      · rw [cl k hk, ml k (by omega), (mi k hk).2.2.2, ff]
      · rw [c5 k hk1 hk2, ml k hk2]
        match k, hk1, hk2 with
        | 5, _, _ => show w1.1 7 0 1 = _; rw [l7, m5, ll]
        | 6, _, _ => show w1.1 7 0 2 = _; rw [s2, m6]
        | 7, _, _ => show w1.1 7 0 3 = _; rw [s3, m7, gg]
        | 8, _, _ => show w1.1 7 0 4 = _; rw [s4, m8]
        | q + 9, _, h => omega
    · obtain ⟨a1, a2, a3, a4, a5, a6, a7, a8⟩ := h4
      refine ⟨by omega, a2, by rw [cc 9 0 1 (by omega)]; exact s9, m19, ?_, fun j hj => by omega, by rw [e2]; exact a7, by rw [e2]; exact a8⟩
      rw [pp 19 0 20 (by unfold sLc; omega) (by unfold sLm; omega) (by unfold sFr; omega)]; exact a5
    · intro s hs
      match s, hs with
      | 0, _ => exact ⟨by rw [cc 12 0 0 (by omega), s12, m34], Or.inl (by rw [cc 12 0 0 (by omega)]; exact s12)⟩
      | 1, _ => exact ⟨by rw [cc 12 0 1 (by omega), s13, m35], Or.inl (by rw [cc 12 0 1 (by omega)]; exact s13)⟩
      | q + 2, h => omega
    · unfold sDn at s; unfold sLc; omega
    · unfold sDn at s; unfold sLm; omega
    · unfold sDn at s; unfold sFr; omega
  · refine ⟨-3, w, u, ?_, ?_, n, N, A, X, D, RelP_Fr fr HP⟩
    · unfold f_X7_lay
      rw [ffC F hF t2 t1, Option.bind_some, ec, if_neg c]
    · unfold f_X8_lay
      rw [hu, Option.bind_some]
      dsimp only
      rw [if_neg c]
