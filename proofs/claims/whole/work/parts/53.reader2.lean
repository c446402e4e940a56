/-! ===== the reference reads guests, and the whole text ===== -/
theorem Fr_setI {w : pm_W} {a b c : Nat} {x : Int32} (h : ¬ sFr a b c) : Fr w (pm_setI w a b c x) := by
  refine ⟨fun a' b' c' s => setI_ne (fun z => ?_), rfl⟩
  obtain ⟨rfl, rfl, rfl⟩ := z
  exact h s
def Bd (w0 w : pm_W) (n q : Nat) : Prop := Fr w0 w ∧ w.1 19 0 18 = nI q ∧ q ≤ n ∧ AF (w0.1 28 0) n q ∧ (q < n → fit (w0.1 28 0) n q = false) ∧ (q = n → ¬ whl n)
def Gd (w0 w : pm_W) (n g : Nat) : Prop := Fr w0 w ∧ w.1 19 0 17 = nI (5 + 6 * g) ∧ w.1 19 0 18 = -9 ∧ Rd (w0.1 28 0) n w g ∧ AF (w0.1 28 0) n (5 + 6 * g) ∧ 5 + 6 * g ≤ n
theorem Fr.c28 {w0 w : pm_W} (h : Fr w0 w) : w.1 28 0 = w0.1 28 0 := funext fun c => h.1 28 0 c (by unfold sFr; omega)
theorem Fr.n16 {w0 w : pm_W} (h : Fr w0 w) : w.1 19 0 16 = w0.1 19 0 16 := h.1 19 0 16 (by unfold sFr; omega)
theorem fit_g {C : Nat → Int32} {n g r : Nat} (hr : r < 6) : fit C n (5 + 6 * g + r) = fitG C n g r := by
  unfold fit
  rw [if_neg (by omega), show (5 + 6 * g + r - 5) / 6 = g by omega, show (5 + 6 * g + r - 5) % 6 = r by omega]
theorem AF_s {C : Nat → Int32} {n k : Nat} (A : AF C n k) (h : fit C n k = true) : AF C n (k + 1) := fun j hj => by
  by_cases e : j = k
  · rw [e]; exact h
  · exact A j (by omega)
theorem Rd_set {C : Nat → Int32} {n g a b c : Nat} {w : pm_W} {x : Int32} (h : a = 19 ∧ (c = 17 ∨ c = 18)) (R : Rd C n w g) : Rd C n (pm_setI w a b c x) g := by
  obtain ⟨r1, r2, r3, r4, r5⟩ := R
  refine ⟨by rw [setI_ne (by omega)]; exact r1, by rw [setI_ne (by omega)]; exact r2, by rw [setI_ne (by omega)]; exact r3, by rw [setI_ne (by omega)]; exact r4, fun i hi => ?_⟩
  rw [setI_ne (by omega), setI_ne (by omega), setI_ne (by omega), setI_ne (by omega)]
  exact r5 i hi
def atP (w : pm_W) (g r : Nat) : pm_W := pm_setI w 19 0 17 (nI (5 + 6 * g + r))
theorem atP_s {w : pm_W} {g r : Nat} : pm_setI (atP w g r) 19 0 17 (nI (5 + 6 * g + r + 1)) = atP w g (r + 1) := by
  unfold atP
  rw [setI_setI]; rfl
theorem sFr17 : ¬ sFr 19 0 17 := by unfold sFr; omega
theorem sFr18 : ¬ sFr 19 0 18 := by unfold sFr; omega
theorem atP_b {w0 w : pm_W} {n g r : Nat} (fr : Fr w0 w) (hr : 1 ≤ r ∧ r < 6) (hn : 5 + 6 * g + r ≤ n) (A : AF (w0.1 28 0) n (5 + 6 * g + r)) (hf : fitG (w0.1 28 0) n g r = false) : Bd w0 (pm_setI (atP w g r) 19 0 18 (nI (5 + 6 * g + r))) n (5 + 6 * g + r) := by
  refine ⟨(fr.trans (Fr_setI sFr17)).trans (Fr_setI sFr18), pm_gI_s, hn, A, fun _ => by rw [fit_g hr.2]; exact hf, fun e z => ?_⟩
  have := z.2
  omega
theorem readG (F : Nat) {w0 w : pm_W} {n g : Nat} (hF : 12 ≤ F) (h40 : n ≤ 40) (hn : w0.1 19 0 16 = nI n) (G : Gd w0 w n g) (hg : g < 5) (hlt : 5 + 6 * g < n) (hfit : fit (w0.1 28 0) n (5 + 6 * g) = true) : ∃ w', f_X8_readGuest F w = some w' ∧ (Gd w0 w' n (g + 1) ∨ ∃ q, Bd w0 w' n q) := by
  obtain ⟨fr, hp, hf, R, A, _⟩ := G
  have A1 := AF_s A hfit
  have frP : ∀ r, Fr w0 (atP w g r) := fun r => fr.trans (Fr_setI sFr17)
  have c28 : ∀ r, (atP w g r).1 28 0 = w0.1 28 0 := fun r => (frP r).c28
  have n16 : ∀ r, (atP w g r).1 19 0 16 = nI n := fun r => by rw [(frP r).n16]; exact hn
  have p17 : ∀ r, (atP w g r).1 19 0 17 = nI (5 + 6 * g + r) := fun r => pm_gI_s
  have p18 : ∀ r, (atP w g r).1 19 0 18 = -9 := fun r => by unfold atP; rw [setI_ne (by omega)]; exact hf
  have RP : ∀ r, Rd (w0.1 28 0) n (atP w g r) g := fun r => Rd_set (by omega) R
  have e1 : pm_setI w 19 0 17 (w.1 19 0 17 + 1) = atP w g 1 := by rw [hp, nx_s]; rfl
  unfold f_X8_readGuest
  rw [wlet_e, e1]
  have bad : ∀ {v : pm_W} {q : Nat}, Bd w0 v n q → ¬ v.1 19 0 18 = -9 := fun b => by rw [b.2.1]; exact nf9 (by have := b.2.2.1; omega)
  have q40 : ∀ {v : pm_W} {q : Nat}, Bd w0 v n q → q ≤ 40 := fun b => by have := b.2.2.1; omega
  have fB3 : ∀ {v : pm_W} {q : Nat}, Bd w0 v n q → f_X8_figure F v 0 3 = some (0, v) := fun h => figB F (a := 0) (b := 3) h.2.1 (q40 h) (by omega)
  have fB9 : ∀ {v : pm_W} {q : Nat}, Bd w0 v n q → f_X8_figure F v 0 9 = some (0, v) := fun h => figB F (a := 0) (b := 9) h.2.1 (q40 h) (by omega)
  have lf1 := leafM1 F (w := atP w g 1) hF (n16 1) h40 (p17 1) (by omega) (p18 1) (by rw [c28]; exact RP 1) (by omega)
  rw [c28] at lf1
  rcases lf1 with ⟨x1, d1, a1, l1⟩ | ⟨no, l1⟩
  case inr =>
    have B := atP_b (w0 := w0) (w := w) (n := n) (g := g) (r := 1) fr (by omega) (by omega) A1 (by
      unfold fitG
      rw [if_neg (by omega)]
      cases e : tD (w0.1 28 0) n (5 + 6 * g + 1) with
      | none => rfl
      | some x => exact no x e)
    refine ⟨_, ?_, Or.inr ⟨_, B⟩⟩
    rw [l1, Option.bind_some]
    dsimp only
    rw [leafB F B.2.1 (q40 B), Option.bind_some]
    dsimp only
    rw [fB3 B, Option.bind_some]
    dsimp only
    rw [fB9 B, Option.bind_some]
    dsimp only
    rw [fB3 B, Option.bind_some]
    dsimp only
    rw [if_neg (bad B)]
  have k1 := tD_9 d1
  have g1 : gD (w0.1 28 0) n (5 + 6 * g + 1) = x1 := by unfold gD; rw [d1]; rfl
  have A2 : AF (w0.1 28 0) n (5 + 6 * g + 2) := AF_s (k := 5 + 6 * g + 1) A1 (by
    rw [fit_g (by omega)]
    unfold fitG
    rw [if_neg (by omega), d1]
    exact a1)
  rw [atP_s] at l1
  rw [l1, Option.bind_some]
  dsimp only
  have lf2 := leafM2 F (w := atP w g 2) (d := x1) hF (n16 2) h40 (p17 2) (by omega) (p18 2) (by rw [c28]; exact RP 2) (by omega) k1.1
  rw [c28] at lf2
  rcases lf2 with ⟨x2, d2, a2, l2⟩ | ⟨no, l2⟩
  case inr =>
    have B := atP_b (w0 := w0) (w := w) (n := n) (g := g) (r := 2) fr (by omega) (by omega) A2 (by
      unfold fitG
      rw [if_neg (by omega)]
      cases e : tD (w0.1 28 0) n (5 + 6 * g + 2) with
      | none => rfl
      | some x =>
        show fre (w0.1 28 0) n g (10 * gD (w0.1 28 0) n (5 + 6 * g + 1) + x) = false
        rw [g1]; exact no x e)
    refine ⟨_, ?_, Or.inr ⟨_, B⟩⟩
    rw [l2, Option.bind_some]
    dsimp only
    rw [fB3 B, Option.bind_some]
    dsimp only
    rw [fB9 B, Option.bind_some]
    dsimp only
    rw [fB3 B, Option.bind_some]
    dsimp only
    rw [if_neg (bad B)]
  have k2 := tD_9 d2
  have g2 : gD (w0.1 28 0) n (5 + 6 * g + 2) = x2 := by unfold gD; rw [d2]; rfl
  have A3 : AF (w0.1 28 0) n (5 + 6 * g + 3) := AF_s (k := 5 + 6 * g + 2) A2 (by
    rw [fit_g (by omega)]
    unfold fitG
    rw [if_neg (by omega), d2]
    show fre (w0.1 28 0) n g (10 * gD (w0.1 28 0) n (5 + 6 * g + 1) + x2) = true
    rw [g1]; exact a2)
  rw [atP_s] at l2
  rw [l2, Option.bind_some]
  dsimp only
  have lf3 := figM F (w := atP w g 3) (a := 0) (b := 3) (n16 3) h40 (p17 3) (by omega) (p18 3) (by omega) (by omega)
  rw [c28, show nI 0 = (0 : Int32) from rfl, show nI 3 = (3 : Int32) from rfl] at lf3
  rcases lf3 with ⟨x3, d3, _, a3, l3⟩ | ⟨no, l3⟩
  case inr =>
    have B := atP_b (w0 := w0) (w := w) (n := n) (g := g) (r := 3) fr (by omega) (by omega) A3 (by
      unfold fitG
      rw [if_neg (by omega)]
      cases e : tD (w0.1 28 0) n (5 + 6 * g + 3) with
      | none => rfl
      | some x => exact decide_eq_false (fun z => no x e ⟨Nat.zero_le _, z⟩))
    refine ⟨_, ?_, Or.inr ⟨_, B⟩⟩
    rw [l3, Option.bind_some]
    dsimp only
    rw [fB9 B, Option.bind_some]
    dsimp only
    rw [fB3 B, Option.bind_some]
    dsimp only
    rw [if_neg (bad B)]
  have k3 := tD_9 d3
  have g3 : gD (w0.1 28 0) n (5 + 6 * g + 3) = x3 := by unfold gD; rw [d3]; rfl
  have A4 : AF (w0.1 28 0) n (5 + 6 * g + 4) := AF_s (k := 5 + 6 * g + 3) A3 (by
    rw [fit_g (by omega)]
    unfold fitG
    rw [if_neg (by omega), d3]
    exact decide_eq_true a3)
  rw [atP_s] at l3
  rw [l3, Option.bind_some]
  dsimp only
  have lf4 := figM F (w := atP w g 4) (a := 0) (b := 9) (n16 4) h40 (p17 4) (by omega) (p18 4) (by omega) (by omega)
  rw [c28, show nI 0 = (0 : Int32) from rfl, show nI 9 = (9 : Int32) from rfl] at lf4
  rcases lf4 with ⟨x4, d4, _, a4, l4⟩ | ⟨no, l4⟩
  case inr =>
    have B := atP_b (w0 := w0) (w := w) (n := n) (g := g) (r := 4) fr (by omega) (by omega) A4 (by
      unfold fitG
      rw [if_neg (by omega)]
      cases e : tD (w0.1 28 0) n (5 + 6 * g + 4) with
      | none => rfl
      | some x => exact absurd ⟨Nat.zero_le _, (tD_9 e).1⟩ (no x e))
    refine ⟨_, ?_, Or.inr ⟨_, B⟩⟩
    rw [l4, Option.bind_some]
    dsimp only
    rw [fB3 B, Option.bind_some]
    dsimp only
    rw [if_neg (bad B)]
  have k4 := tD_9 d4
  have g4 : gD (w0.1 28 0) n (5 + 6 * g + 4) = x4 := by unfold gD; rw [d4]; rfl
  have A5 : AF (w0.1 28 0) n (5 + 6 * g + 5) := AF_s (k := 5 + 6 * g + 4) A4 (by
    rw [fit_g (by omega)]
    unfold fitG
    rw [if_neg (by omega), d4]
    rfl)
  rw [atP_s] at l4
  rw [l4, Option.bind_some]
  dsimp only
  have lf5 := figM F (w := atP w g 5) (a := 0) (b := 3) (n16 5) h40 (p17 5) (by omega) (p18 5) (by omega) (by omega)
  rw [c28, show nI 0 = (0 : Int32) from rfl, show nI 3 = (3 : Int32) from rfl] at lf5
  rcases lf5 with ⟨x5, d5, _, a5, l5⟩ | ⟨no, l5⟩
  case inr =>
    have B := atP_b (w0 := w0) (w := w) (n := n) (g := g) (r := 5) fr (by omega) (by omega) A5 (by
      unfold fitG
      rw [if_neg (by omega)]
      cases e : tD (w0.1 28 0) n (5 + 6 * g + 5) with
      | none => rfl
      | some x => exact decide_eq_false (fun z => no x e ⟨Nat.zero_le _, z⟩))
    refine ⟨_, ?_, Or.inr ⟨_, B⟩⟩
    rw [l5, Option.bind_some]
    dsimp only
    rw [if_neg (bad B)]
  have k5 := tD_9 d5
  have g5 : gD (w0.1 28 0) n (5 + 6 * g + 5) = x5 := by unfold gD; rw [d5]; rfl
  have A6 : AF (w0.1 28 0) n (5 + 6 * g + 6) := AF_s (k := 5 + 6 * g + 5) A5 (by
    rw [fit_g (by omega)]
    unfold fitG
    rw [if_neg (by omega), d5]
    exact decide_eq_true a5)
  rw [atP_s] at l5
  rw [l5, Option.bind_some]
  dsimp only
  obtain ⟨r1, r2, r3, r4, r5⟩ := RP 6
  have i5 : pm_inb (nI g) 5 = true := nx_in (by omega) (by omega)
  have cg : (nI g).toNatClampNeg = g := nx_cl (by omega)
  have ev : 10 * nI x1 + nI x2 = nI (tF (w0.1 28 0) n g) := by
    rw [show (10 : Int32) = nI 10 from rfl, nI_ml, nI_add]
    unfold tF
    rw [g1, g2]
  generalize hW : atP w g 6 = W at r1 r2 r3 r4 r5
  have frW : Fr w0 W := by rw [← hW]; exact frP 6
  have s18 : W.1 19 0 18 = -9 := by rw [← hW]; exact p18 6
  have s17 : W.1 19 0 17 = nI (5 + 6 * g + 6) := by rw [← hW]; exact p17 6
  rw [show W.1 19 0 18 = -9 from s18, if_pos rfl, r4, i5, if_pos rfl, wlet_e, cg, ev]
  have z1 : (pm_setI W 24 0 g (nI (tF (w0.1 28 0) n g))).1 19 0 10 = nI g := by rw [setI_ne (by omega)]; exact r4
  rw [z1, i5, if_pos rfl, wlet_e, cg]
  have z2 : (pm_setI (pm_setI W 24 0 g (nI (tF (w0.1 28 0) n g))) 25 0 g (nI x3)).1 19 0 10 = nI g := by rw [setI_ne (by omega)]; exact z1
  rw [z2, i5, if_pos rfl, wlet_e, cg]
  have z3 : (pm_setI (pm_setI (pm_setI W 24 0 g (nI (tF (w0.1 28 0) n g))) 25 0 g (nI x3)) 26 0 g (nI x4)).1 19 0 10 = nI g := by rw [setI_ne (by omega)]; exact z2
  rw [z3, i5, if_pos rfl, wlet_e, cg]
  have z4 : (pm_setI (pm_setI (pm_setI (pm_setI W 24 0 g (nI (tF (w0.1 28 0) n g))) 25 0 g (nI x3)) 26 0 g (nI x4)) 27 0 g (nI x5)).1 19 0 10 = nI g := by rw [setI_ne (by omega)]; exact z3
  rw [z4, wlet_e, nx_s]
  refine ⟨_, rfl, Or.inl ⟨?_, ?_, ?_, ⟨?_, ?_, ?_, pm_gI_s, fun i hi => ?_⟩, ?_, by omega⟩⟩
  · exact ((((frW.trans (Fr_setI (by unfold sFr; omega))).trans (Fr_setI (by unfold sFr; omega))).trans (Fr_setI (by unfold sFr; omega))).trans (Fr_setI (by unfold sFr; omega))).trans (Fr_setI (by unfold sFr; omega))
  · rw [setI_ne (by omega), setI_ne (by omega), setI_ne (by omega), setI_ne (by omega), setI_ne (by omega), s17]; rfl
  · rw [setI_ne (by omega), setI_ne (by omega), setI_ne (by omega), setI_ne (by omega), setI_ne (by omega), s18]
  · rw [setI_ne (by omega), setI_ne (by omega), setI_ne (by omega), setI_ne (by omega), setI_ne (by omega), r1]
  · rw [setI_ne (by omega), setI_ne (by omega), setI_ne (by omega), setI_ne (by omega), setI_ne (by omega), r2]
  · rw [setI_ne (by omega), setI_ne (by omega), setI_ne (by omega), setI_ne (by omega), setI_ne (by omega), r3]
  · by_cases e : i = g
    · subst e
      refine ⟨?_, ?_, ?_, ?_⟩
      · rw [setI_ne (by omega), setI_ne (by omega), setI_ne (by omega), setI_ne (by omega), pm_gI_s]
      · rw [setI_ne (by omega), setI_ne (by omega), setI_ne (by omega), pm_gI_s, g3]
      · rw [setI_ne (by omega), setI_ne (by omega), pm_gI_s, g4]
      · rw [setI_ne (by omega), pm_gI_s, g5]
    · obtain ⟨u1, u2, u3, u4⟩ := r5 i (by omega)
      refine ⟨?_, ?_, ?_, ?_⟩
      · rw [setI_ne (by omega), setI_ne (by omega), setI_ne (by omega), setI_ne (by omega), setI_ne (by omega), u1]
      · rw [setI_ne (by omega), setI_ne (by omega), setI_ne (by omega), setI_ne (by omega), setI_ne (by omega), u2]
      · rw [setI_ne (by omega), setI_ne (by omega), setI_ne (by omega), setI_ne (by omega), setI_ne (by omega), u3]
      · rw [setI_ne (by omega), setI_ne (by omega), setI_ne (by omega), setI_ne (by omega), setI_ne (by omega), u4]
  · exact A6
