/-! ===== lay: the class ===== -/
def Un (s : Nat → Nat → Nat → Prop) (w v : pm_W) : Prop := (∀ a b c, ¬ s a b c → v.1 a b c = w.1 a b c) ∧ v.2 = w.2
theorem Un.refl {s : Nat → Nat → Nat → Prop} (w : pm_W) : Un s w w := ⟨fun _ _ _ _ => rfl, rfl⟩
theorem Un.set {s : Nat → Nat → Nat → Prop} {w v : pm_W} (h : Un s w v) {a b c : Nat} {x : Int32} (hs : s a b c) : Un s w (pm_setI v a b c x) := by
  refine ⟨fun a' b' c' hn => ?_, h.2⟩
  rw [setI_ne (fun z => hn ?_)]
  · exact h.1 a' b' c' hn
  · obtain ⟨rfl, rfl, rfl⟩ := z; exact hs
def sLc (a b c : Nat) : Prop := a = 3 ∨ a = 4 ∨ a = 5 ∨ a = 6 ∨ ((a = 7 ∨ a = 8) ∧ b = 0) ∨ (a = 9 ∧ c = 1) ∨ a = 12
def LT (C : Nat → Int32) (n g : Nat) (w v : pm_W) (j : Nat) : Prop := Un sLc w v ∧ v.1 3 0 3 = nI g ∧ v.1 3 0 4 = nI (gD C n 3) ∧ v.1 3 0 5 = nI (gD C n 4) ∧ ∀ i, i < j → v.1 4 0 i = nI (gD C n (5 + 6 * i + 3)) ∧ v.1 5 0 i = nI (gD C n (5 + 6 * i + 4)) ∧ v.1 6 0 i = nI (gD C n (5 + 6 * i + 5))
theorem Un.t1 {w v : pm_W} (h : Un sLc w v) : v.1 1 0 1 = w.1 1 0 1 := h.1 1 0 1 (by unfold sLc; omega)
theorem Un.t2 {w v : pm_W} (h : Un sLc w v) : v.1 2 0 = w.1 2 0 := funext fun c => h.1 2 0 c (by unfold sLc; omega)
theorem partT_e (F : Nat) {w v : pm_W} {n g j r : Nat} (U : Un sLc w v) (hn : w.1 1 0 1 = nI n) (h40 : n ≤ 40) (hg : 5 + 6 * g = n) (hj : j < g) (hr : 1 ≤ r ∧ r < 6) (A : AF (w.1 2 0) n n) : f_X6_partTold F v (nI j) (nI r) = some (nI (gD (w.1 2 0) n (5 + 6 * j + r))) := by
  unfold f_X6_partTold
  have t := told_e F (w := v) (k := 5 + 6 * j + r) (by rw [U.t1]; exact hn) h40 (by omega)
  rw [U.t2, A.d (j := 5 + 6 * j + r) (by omega) (by omega) (by omega)] at t
  have e : 5 + 6 * nI j + nI r = nI (5 + 6 * j + r) := by
    rw [show (5 : Int32) = nI 5 from rfl, show (6 : Int32) = nI 6 from rfl, nI_ml, nI_add, nI_add]
  rw [e, t]; rfl
theorem layC1 (F : Nat) {w : pm_W} {n g : Nat} (hn : w.1 1 0 1 = nI n) (h40 : n ≤ 40) (hg : 5 + 6 * g = n) (h5 : g ≤ 5) (A : AF (w.1 2 0) n n) : ∀ (m k j : Nat) (v : pm_W), j + m = g → m < k → LT (w.1 2 0) n g w v j → ∃ v', f_X5_readFrom_L16 F k v (nI j) = some (nI g, v') ∧ LT (w.1 2 0) n g w v' g := by
  intro m
  induction m with
  | zero =>
    intro k j v hj hk L
    obtain ⟨k, rfl⟩ : ∃ q, k = q + 1 := ⟨k - 1, by omega⟩
    have : j = g := by omega
    subst this
    exact ⟨v, by rw [f_X5_readFrom_L16, L.2.1, if_pos (by rw [nx_le (by omega) (by omega)]; omega)], L⟩
  | succ m ih =>
    intro k j v hj hk L
    obtain ⟨k, rfl⟩ : ∃ q, k = q + 1 := ⟨k - 1, by omega⟩
    obtain ⟨U, l3, l4, l5, li⟩ := L
    have P := fun (v : pm_W) (U : Un sLc w v) (r : Nat) (hr : 1 ≤ r ∧ r < 6) => partT_e F U hn h40 hg (show j < g by omega) hr A
    have U1 := U.set (a := 4) (b := 0) (c := j) (x := nI (gD (w.1 2 0) n (5 + 6 * j + 3))) (by unfold sLc; omega)
    have U2 := U1.set (a := 5) (b := 0) (c := j) (x := nI (gD (w.1 2 0) n (5 + 6 * j + 4))) (by unfold sLc; omega)
    have U3 := U2.set (a := 6) (b := 0) (c := j) (x := nI (gD (w.1 2 0) n (5 + 6 * j + 5))) (by unfold sLc; omega)
    rw [f_X5_readFrom_L16, l3, if_neg (by rw [nx_le (by omega) (by omega)]; omega), show f_X6_partTold F v (nI j) 3 = _ from P v U 3 (by omega), Option.bind_some, nx_in (show j < 5 by omega) (by omega), if_pos rfl, wlet_e, nx_cl (by omega), show f_X6_partTold F _ (nI j) 4 = _ from P _ U1 4 (by omega), Option.bind_some, if_pos rfl, wlet_e, show f_X6_partTold F _ (nI j) 5 = _ from P _ U2 5 (by omega), Option.bind_some, if_pos rfl, wlet_e, nx_s]
    refine ih k (j + 1) _ (by omega) (by omega) ⟨U3, ?_, ?_, ?_, fun i hi => ?_⟩
    · rw [setI_ne (by omega), setI_ne (by omega), setI_ne (by omega)]; exact l3
    · rw [setI_ne (by omega), setI_ne (by omega), setI_ne (by omega)]; exact l4
    · rw [setI_ne (by omega), setI_ne (by omega), setI_ne (by omega)]; exact l5
    · by_cases e : i = j
      · subst e
        refine ⟨?_, ?_, pm_gI_s⟩
        · rw [setI_ne (by omega), setI_ne (by omega), pm_gI_s]
        · rw [setI_ne (by omega), pm_gI_s]
      · rw [setI_ne (by omega), setI_ne (by omega), setI_ne (by omega), setI_ne (by omega), setI_ne (by omega), setI_ne (by omega), setI_ne (by omega), setI_ne (by omega), setI_ne (by omega)]
        exact li i (by omega)
theorem layC2 (F : Nat) {w : pm_W} {n g : Nat} (hF : 9 ≤ F) (hn : w.1 1 0 1 = nI n) (h40 : n ≤ 40) (hg : 5 + 6 * g = n) (h5 : g ≤ 5) (A : AF (w.1 2 0) n n) : ∃ v, f_X5_readFrom F w = some v ∧ LT (w.1 2 0) n g w v g := by
  unfold f_X5_readFrom
  have U0 := Un.refl (s := sLc) w
  have T := fun (v : pm_W) (U : Un sLc w v) (k : Nat) (hk : 1 ≤ k ∧ k < 5) => (by
    have t := told_e F (w := v) (k := k) (by rw [U.t1]; exact hn) h40 (by omega)
    rw [U.t2, A.d (j := k) (by omega) (by omega) (by omega)] at t
    exact t : f_X6_figureTold F v (nI k) = some (nI (gD (w.1 2 0) n k)))
  have U1 := U0.set (a := 3) (b := 0) (c := 4) (x := nI (gD (w.1 2 0) n 3)) (by unfold sLc; omega)
  have U2 := U1.set (a := 3) (b := 0) (c := 5) (x := nI (gD (w.1 2 0) n 4)) (by unfold sLc; omega)
  have U3 := U2.set (a := 3) (b := 0) (c := 3) (x := nI g) (by unfold sLc; omega)
  rw [show f_X6_figureTold F w 3 = _ from T w U0 3 (by omega), Option.bind_some, wlet_e, show f_X6_figureTold F _ 4 = _ from T _ U1 4 (by omega), Option.bind_some, wlet_e]
  unfold f_X6_guestsTold f_J9_min
  rw [U2.t1, hn]
  have e1 : (nI n - 5) / 6 = nI g := by
    rw [show (5 : Int32) = nI 5 from rfl, show (6 : Int32) = nI 6 from rfl, nI_sb (by omega), nI_dv (by omega) (by omega)]; congr 1; omega
  rw [if_pos (show 5 ≤ nI n by rw [show (5 : Int32) = nI 5 from rfl, nx_le (by omega) (by omega)]; omega), e1, Option.bind_some, Option.bind_some, if_neg (show ¬ 5 < nI g by rw [show (5 : Int32) = nI 5 from rfl, nx_lt (by omega) (by omega)]; omega), wlet_e]
  obtain ⟨v', hv, L⟩ := layC1 F hn h40 hg h5 A g F 0 _ (by omega) (by omega) (show LT (w.1 2 0) n g w _ 0 from ⟨U3, pm_gI_s, by rw [setI_ne (by omega), setI_ne (by omega), pm_gI_s], by rw [setI_ne (by omega), pm_gI_s], fun i hi => by omega⟩)
  rw [show nI 0 = (0 : Int32) from rfl] at hv
  exact ⟨v', by rw [hv]; rfl, L⟩
/-- the seats as they are laid -/
def LSs (C : Nat → Int32) (n g : Nat) (w v : pm_W) (j : Nat) : Prop := LT C n g w v g ∧ v.1 7 0 1 = nI (tL C n) ∧ ∀ i, i < j → i < g → v.1 8 0 i = nI (tF C n i)
theorem LT_set {C : Nat → Int32} {n g a b c : Nat} {w v : pm_W} {x : Int32} (h : ((a = 7 ∨ a = 8) ∧ b = 0) ∨ (a = 9 ∧ c = 1) ∨ a = 12) (L : LT C n g w v g) : LT C n g w (pm_setI v a b c x) g := by
  obtain ⟨U, l3, l4, l5, li⟩ := L
  refine ⟨U.set (by unfold sLc; omega), by rw [setI_ne (by omega)]; exact l3, by rw [setI_ne (by omega)]; exact l4, by rw [setI_ne (by omega)]; exact l5, fun i hi => ?_⟩
  rw [setI_ne (by omega), setI_ne (by omega), setI_ne (by omega)]
  exact li i hi
theorem layC3 (F : Nat) {w : pm_W} {n g : Nat} (hn : w.1 1 0 1 = nI n) (h40 : n ≤ 40) (hg : 5 + 6 * g = n) (h5 : g ≤ 5) (A : AF (w.1 2 0) n n) : ∀ (m k j : Nat) (v : pm_W), j + m = 5 → m < k → LSs (w.1 2 0) n g w v j → ∃ v', f_X4_readFrom_L6 F k v 0 (nI j) = some (nI 5, v') ∧ LSs (w.1 2 0) n g w v' 5 := by
  intro m
  induction m with
  | zero =>
    intro k j v hj hk L
    obtain ⟨k, rfl⟩ : ∃ q, k = q + 1 := ⟨k - 1, by omega⟩
    have : j = 5 := by omega
    subst this
    exact ⟨v, by rw [f_X4_readFrom_L6, if_pos (by decide)], L⟩
  | succ m ih =>
    intro k j v hj hk L
    obtain ⟨k, rfl⟩ : ∃ q, k = q + 1 := ⟨k - 1, by omega⟩
    obtain ⟨L0, l7, l8⟩ := L
    have n5 : ¬ (5 : Int32) ≤ nI j := by rw [show (5 : Int32) = nI 5 from rfl, nx_le (by omega) (by omega)]; omega
    rw [f_X4_readFrom_L6, if_neg n5, L0.2.1, nx_in (show j < 5 by omega) (by omega), if_pos rfl, nx_cl (by omega), nx_s, wlet_e]
    by_cases c : g ≤ j
    · rw [if_pos (by rw [nx_le (by omega) (by omega)]; exact c)]
      refine ih k (j + 1) _ (by omega) (by omega) ⟨LT_set (by omega) L0, by rw [setI_ne (by omega)]; exact l7, fun i hi hig => ?_⟩
      rw [setI_ne (by omega)]
      exact l8 i (by omega) hig
    · have U := L0.1
      have lf := leafT_e F (w := v) (n := n) (i := j) (by rw [U.t1]; exact hn) h40 (by omega) (by rw [U.t2]; exact A.d (by omega) (by omega) (by omega)) (by rw [U.t2]; exact A.d (by omega) (by omega) (by omega))
      rw [U.t2] at lf
      rw [if_neg (by rw [nx_le (by omega) (by omega)]; exact c), lf, Option.bind_some, if_pos rfl, wlet_e]
      refine ih k (j + 1) _ (by omega) (by omega) ⟨LT_set (by omega) L0, by rw [setI_ne (by omega)]; exact l7, fun i hi hig => ?_⟩
      by_cases e : i = j
      · subst e; exact pm_gI_s
      · rw [setI_ne (by omega)]
        exact l8 i (by omega) hig
def LW (C : Nat → Int32) (n g : Nat) (w v : pm_W) : Prop := LSs C n g w v 5 ∧ v.1 7 0 2 = 0 ∧ v.1 7 0 3 = nI (gD C n 3) ∧ v.1 7 0 4 = 0 ∧ v.1 9 0 1 = 0 ∧ v.1 12 0 0 = 0 ∧ v.1 12 0 1 = 0
theorem layC (F : Nat) {w : pm_W} {n g : Nat} (hF : 50 ≤ F) (hn : w.1 1 0 1 = nI n) (h40 : n ≤ 40) (hg : 5 + 6 * g = n) (h5 : g ≤ 5) (A : AF (w.1 2 0) n n) : ∃ v, f_X7_lay F w = some (nI g, v) ∧ LW (w.1 2 0) n g w v := by
  unfold f_X7_lay
  have ef : ffs (w.1 2 0) n n 0 = -9 := by rw [ffs_end n 0 (by omega) A, if_neg (by omega), if_pos (by omega)]
  rw [ffC F hF hn h40, ef, Option.bind_some, if_pos rfl]
  obtain ⟨v1, h1, L1⟩ := layC2 F (by omega) hn h40 hg h5 A
  rw [h1, Option.bind_some]
  unfold f_X4_readFrom
  have U := L1.1
  have hl := lenT_e F (w := v1) (n := n) (by rw [U.t1]; exact hn) h40 (by rw [U.t2]; exact A.d (by omega) (by omega) (by omega)) (by rw [U.t2]; exact A.d (by omega) (by omega) (by omega))
  rw [U.t2] at hl
  rw [hl, Option.bind_some, wlet_e]
  obtain ⟨v2, h2, L2⟩ := layC3 F hn h40 hg h5 A 5 F 0 _ (by omega) (by omega) (show LSs (w.1 2 0) n g w (pm_setI v1 7 0 1 (nI (tL (w.1 2 0) n))) 0 from ⟨LT_set (by omega) L1, pm_gI_s, fun i hi => by omega⟩)
  rw [show nI 0 = (0 : Int32) from rfl] at h2
  rw [h2, Option.bind_some]
  dsimp only
  rw [wlet_e, wlet_e, wlet_e, Option.bind_some, wlet_e]
  obtain ⟨L2a, l7, l8⟩ := L2
  have e4 : (pm_setI v2 7 0 2 0).1 3 0 4 = nI (gD (w.1 2 0) n 3) := by rw [setI_ne (by omega)]; exact L2a.2.2.1
  rw [e4]
  generalize hv3 : pm_setI (pm_setI (pm_setI (pm_setI v2 7 0 2 0) 7 0 3 (nI (gD (w.1 2 0) n 3))) 7 0 4 0) 9 0 1 0 = v3
  have L3 : LT (w.1 2 0) n g w v3 g := by rw [← hv3]; exact LT_set (by omega) (LT_set (by omega) (LT_set (by omega) (LT_set (by omega) L2a)))
  have s : ∀ (k : Nat) (v : pm_W), f_X7_lay_L25 F (k + 3) v 0 = some (2, pm_setI (pm_setI v 12 0 0 0) 12 0 1 0) := by
    intro k v
    rw [f_X7_lay_L25, if_neg (by decide), if_pos (by decide), wlet_e, f_X7_lay_L25, if_neg (by decide), if_pos (by decide), wlet_e, f_X7_lay_L25, if_pos (by decide)]
    rfl
  obtain ⟨k, rfl⟩ : ∃ q, F = q + 3 := ⟨F - 3, by omega⟩
  rw [s, Option.bind_some]
  have L4 : LT (w.1 2 0) n g w (pm_setI (pm_setI v3 12 0 0 0) 12 0 1 0) g := LT_set (by omega) (LT_set (by omega) L3)
  refine ⟨pm_setI (pm_setI v3 12 0 0 0) 12 0 1 0, by dsimp only; rw [L4.2.1], ⟨L4, ?_, fun i hi hig => ?_⟩, ?_, ?_, ?_, ?_, ?_, pm_gI_s⟩
  · rw [setI_ne (by omega), setI_ne (by omega), ← hv3, setI_ne (by omega), setI_ne (by omega), setI_ne (by omega), setI_ne (by omega)]; exact l7
  · rw [setI_ne (by omega), setI_ne (by omega), ← hv3, setI_ne (by omega), setI_ne (by omega), setI_ne (by omega), setI_ne (by omega)]; exact l8 i hi hig
  · rw [setI_ne (by omega), setI_ne (by omega), ← hv3, setI_ne (by omega), setI_ne (by omega), setI_ne (by omega), pm_gI_s]
  · rw [setI_ne (by omega), setI_ne (by omega), ← hv3, setI_ne (by omega), setI_ne (by omega), pm_gI_s]
  · rw [setI_ne (by omega), setI_ne (by omega), ← hv3, setI_ne (by omega), pm_gI_s]
  · rw [setI_ne (by omega), setI_ne (by omega), ← hv3, pm_gI_s]
  · rw [setI_ne (by omega), pm_gI_s]
