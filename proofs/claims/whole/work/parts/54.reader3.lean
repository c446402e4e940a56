/-! ===== the reference reads the whole text ===== -/
theorem ffs_bad {C : Nat → Int32} {n q : Nat} (hf : fit C n q = false) : ∀ (m k : Nat), k + m = n → k ≤ q → q < n → AF C n q → ffs C n m k = nI q
  | 0, k, hk, hkq, hq, _ => by omega
  | m + 1, k, hk, hkq, hq, A => by
    unfold ffs
    by_cases e : k = q
    · subst e
      rw [if_neg (by rw [hf]; decide)]
    · rw [if_pos (A k (by omega))]
      exact ffs_bad hf m (k + 1) (by omega) (by omega) hq A
theorem ffs_end {C : Nat → Int32} {n : Nat} : ∀ (m k : Nat), k + m = n → AF C n n → ffs C n m k = if n < 5 then nI n else if (n - 5) % 6 = 0 then -9 else nI n
  | 0, k, hk, _ => rfl
  | m + 1, k, hk, A => by
    unfold ffs
    rw [if_pos (A k (by omega))]
    exact ffs_end m (k + 1) (by omega) A
def FinT (w0 w : pm_W) (n : Nat) : Prop := ∃ g, Gd w0 w n g ∧ 5 + 6 * g = n ∧ g ≤ 5
def Res (w0 : pm_W) (n : Nat) (o : Option (Int32 × pm_W)) : Prop := ∃ v, o = some (ffs (w0.1 28 0) n n 0, v) ∧ Fr w0 v ∧ (ffs (w0.1 28 0) n n 0 = -9 → FinT w0 v n)
theorem Bd.ffs {w0 w : pm_W} {n q : Nat} (h : Bd w0 w n q) : ffs (w0.1 28 0) n n 0 = nI q := by
  obtain ⟨_, _, h3, h4, h5, h6⟩ := h
  by_cases c : q < n
  · exact ffs_bad (h5 c) n 0 (by omega) (by omega) c h4
  · have e : q = n := by omega
    subst e
    rw [ffs_end q 0 (by omega) h4]
    by_cases d : q < 5
    · rw [if_pos d]
    · rw [if_neg d]
      by_cases f : (q - 5) % 6 = 0
      · exact absurd ⟨by omega, f⟩ (h6 rfl)
      · rw [if_neg f]
theorem Res_bad {w0 w : pm_W} {n q : Nat} (h40 : n ≤ 40) (h : Bd w0 w n q) : Res w0 n (some (w.1 19 0 18, w)) := by
  refine ⟨w, by rw [h.ffs, h.2.1], h.1, fun z => ?_⟩
  rw [h.ffs] at z
  exact absurd z (nf9 (by have := h.2.2.1; omega))
theorem L59_bad (F : Nat) {w0 w : pm_W} {n q k : Nat} {v : Int32} (h40 : n ≤ 40) (hk : 0 < k) (h : Bd w0 w n q) : f_X8_readText_L59 F k w v = some w := by
  obtain ⟨k, rfl⟩ : ∃ z, k = z + 1 := ⟨k - 1, by omega⟩
  rw [f_X8_readText_L59, if_neg (by rw [h.2.1]; exact nf9 (by have := h.2.2.1; omega))]
theorem L59 (F : Nat) {w0 : pm_W} {n : Nat} {v : Int32} (hF : 12 ≤ F) (h40 : n ≤ 40) (hn : w0.1 19 0 16 = nI n) : ∀ (m g k : Nat) (w : pm_W), g + m = 5 → m + 1 < k → Gd w0 w n g → ∃ w', f_X8_readText_L59 F k w v = some w' ∧ (FinT w0 w' n ∨ ∃ q, Bd w0 w' n q) := by
  intro m
  induction m with
  | zero =>
    intro g k w hg hk G
    have G0 := G
    obtain ⟨fr, hp, hf, R, A, hle⟩ := G
    obtain ⟨k, rfl⟩ : ∃ z, k = z + 1 := ⟨k - 1, by omega⟩
    rw [f_X8_readText_L59, if_pos hf, fr.n16, hn, hp]
    by_cases c : n ≤ 5 + 6 * g
    · exact ⟨w, by rw [if_pos (by rw [nx_le (by omega) (by omega)]; exact c)], Or.inl ⟨g, G0, by omega, by omega⟩⟩
    · have B : Bd w0 (pm_setI w 19 0 18 (nI (5 + 6 * g))) n (5 + 6 * g) := by
        refine ⟨fr.trans (Fr_setI sFr18), pm_gI_s, hle, A, fun _ => ?_, fun e => by omega⟩
        have := fit_g (C := w0.1 28 0) (n := n) (g := g) (r := 0) (by omega)
        rw [show 5 + 6 * g = 5 + 6 * g + 0 from rfl, this]
        unfold fitG
        rw [if_pos rfl, decide_eq_false (show ¬ g < 5 by omega), Bool.false_and, Bool.and_false]
      refine ⟨_, ?_, Or.inr ⟨_, B⟩⟩
      rw [if_neg (by rw [nx_le (by omega) (by omega)]; exact c), nx_in (show 5 + 6 * g < 40 by omega) (by omega), if_pos rfl, nx_cl (by omega), R.2.2.2.1, show (5 : Int32) = nI 5 from rfl, wlet_e]
      have lb := L59_bad F (k := k) (v := v) h40 (by omega) B
      rw [lb]
      by_cases d : w.1 28 0 (5 + 6 * g) = 71
      · rw [if_pos d, if_pos (by rw [nx_le (by omega) (by omega)]; omega)]
      · rw [if_neg d]
  | succ m ih =>
    intro g k w hg hk G
    have G0 := G
    obtain ⟨fr, hp, hf, R, A, hle⟩ := G
    obtain ⟨k, rfl⟩ : ∃ z, k = z + 1 := ⟨k - 1, by omega⟩
    have t99 := tL_99 (w0.1 28 0) n
    rw [f_X8_readText_L59, if_pos hf, fr.n16, hn, hp]
    by_cases c : n ≤ 5 + 6 * g
    · exact ⟨w, by rw [if_pos (by rw [nx_le (by omega) (by omega)]; exact c)], Or.inl ⟨g, G0, by omega, by omega⟩⟩
    · have fg := fit_g (C := w0.1 28 0) (n := n) (g := g) (r := 0) (by omega)
      rw [show 5 + 6 * g + 0 = 5 + 6 * g from rfl] at fg
      rw [if_neg (by rw [nx_le (by omega) (by omega)]; exact c), nx_in (show 5 + 6 * g < 40 by omega) (by omega), if_pos rfl, nx_cl (by omega), R.2.2.2.1, R.1, show (5 : Int32) = nI 5 from rfl, if_neg (show ¬ nI 5 ≤ nI g by rw [nx_le (by omega) (by omega)]; omega), wlet_e, fr.c28]
      cases e : fit (w0.1 28 0) n (5 + 6 * g) with
      | false =>
        have B : Bd w0 (pm_setI w 19 0 18 (nI (5 + 6 * g))) n (5 + 6 * g) := ⟨fr.trans (Fr_setI sFr18), pm_gI_s, hle, A, fun _ => e, fun e => by omega⟩
        refine ⟨_, ?_, Or.inr ⟨_, B⟩⟩
        have lb := L59_bad F (k := k) (v := v) h40 (by omega) B
        rw [lb]
        rw [fg] at e
        unfold fitG at e
        rw [if_pos rfl, decide_eq_true (show g < 5 by omega), Bool.true_and] at e
        by_cases d : w0.1 28 0 (5 + 6 * g) = 71
        · rw [decide_eq_true d, Bool.true_and] at e
          have e := of_decide_eq_false e
          rw [if_pos d, if_pos (by rw [nx_le (by omega) (by omega)]; omega)]
        · rw [if_neg d]
      | true =>
        obtain ⟨w', hw, o⟩ := readG F hF h40 hn G0 (by omega) (by omega) e
        rw [fg] at e
        unfold fitG at e
        rw [if_pos rfl, Bool.and_eq_true, Bool.and_eq_true] at e
        have d1 := of_decide_eq_true e.1
        have d2 := of_decide_eq_true e.2.2
        rw [if_pos d1, if_neg (by rw [nx_le (by omega) (by omega)]; omega), hw, Option.bind_some]
        rcases o with o | ⟨q, o⟩
        · exact ih (g + 1) k w' (by omega) (by omega) o
        · exact ⟨w', L59_bad F h40 (by omega) o, Or.inr ⟨q, o⟩⟩
theorem Bd_set {w0 w : pm_W} {n q c : Nat} {x : Int32} (h : Bd w0 w n q) (hc : c = 7 ∨ c = 8 ∨ c = 9) : Bd w0 (pm_setI w 19 0 c x) n q := by
  obtain ⟨h1, h2, h3⟩ := h
  exact ⟨h1.trans (Fr_setI (by unfold sFr; omega)), by rw [setI_ne (by omega)]; exact h2, h3⟩
def rs4 (F : Nat) (v : pm_W) (a : Int32) : Option (Int32 × pm_W) := (f_X8_figure F v 1 9).bind fun r15 => (pm_wlet (pm_setI r15.2 19 0 9 r15.1) fun w17 => ((f_X8_readText_L59 F F w17 a).bind fun x29 => some (x29.1 19 0 18, x29)))
def rs3 (F : Nat) (v : pm_W) (a : Int32) : Option (Int32 × pm_W) := (f_X8_figure F v 1 9).bind fun r12 => (pm_wlet (pm_setI r12.2 19 0 8 r12.1) fun w14 => rs4 F w14 a)
def rs2 (F : Nat) (v : pm_W) (a : Int32) : Option (Int32 × pm_W) := (f_X8_figure F v (if a = 0 then 1 else 0 : Int32) (if a = 3 then 0 else 9 : Int32)).bind fun r9 => (pm_wlet (pm_setI r9.2 19 0 7 ((10 * a) + r9.1)) fun w11 => rs3 F w11 a)
theorem rs4_bad (F : Nat) {w0 v : pm_W} {n q : Nat} {a : Int32} (hF : 12 ≤ F) (h40 : n ≤ 40) (h : Bd w0 v n q) : Res w0 n (rs4 F v a) := by
  unfold rs4
  have q40 : q ≤ 40 := by have := h.2.2.1; omega
  have B := Bd_set (c := 9) (x := 1) h (by omega)
  rw [show f_X8_figure F v 1 9 = some (1, v) from figB F (a := 1) (b := 9) h.2.1 q40 (by omega), Option.bind_some]
  dsimp only
  rw [wlet_e, L59_bad F h40 (by omega) B, Option.bind_some]
  exact Res_bad h40 B
theorem rs3_bad (F : Nat) {w0 v : pm_W} {n q : Nat} {a : Int32} (hF : 12 ≤ F) (h40 : n ≤ 40) (h : Bd w0 v n q) : Res w0 n (rs3 F v a) := by
  unfold rs3
  have q40 : q ≤ 40 := by have := h.2.2.1; omega
  rw [show f_X8_figure F v 1 9 = some (1, v) from figB F (a := 1) (b := 9) h.2.1 q40 (by omega), Option.bind_some]
  dsimp only
  rw [wlet_e]
  exact rs4_bad F hF h40 (Bd_set h (by omega))
theorem rs2_bad (F : Nat) {w0 v : pm_W} {n q : Nat} (hF : 12 ≤ F) (h40 : n ≤ 40) (h : Bd w0 v n q) : Res w0 n (rs2 F v 0) := by
  unfold rs2
  have q40 : q ≤ 40 := by have := h.2.2.1; omega
  rw [if_pos rfl, if_neg (by decide), show f_X8_figure F v 1 9 = some (1, v) from figB F (a := 1) (b := 9) h.2.1 q40 (by omega), Option.bind_some]
  dsimp only
  rw [wlet_e]
  exact rs3_bad F hF h40 (Bd_set h (by omega))
theorem hd_bad {w0 v : pm_W} {n p : Nat} (fr : Fr w0 v) (hp : 1 ≤ p ∧ p < 5) (hpn : p ≤ n) (A : AF (w0.1 28 0) n p) (hf : fitH (w0.1 28 0) n p = false) : Bd w0 (pm_setI v 19 0 18 (nI p)) n p := by
  refine ⟨fr.trans (Fr_setI sFr18), pm_gI_s, hpn, A, fun _ => by unfold fit; rw [if_pos hp.2]; exact hf, fun e z => ?_⟩
  have := z.1
  omega
theorem fitH_s {C : Nat → Int32} {n p : Nat} (h5 : p < 5) (A : AF C n p) (h : fitH C n p = true) : AF C n (p + 1) := AF_s A (by unfold fit; rw [if_pos h5]; exact h)
theorem rs4_ok (F : Nat) {w0 v : pm_W} {n : Nat} {a : Int32} (hF : 12 ≤ F) (h40 : n ≤ 40) (hn : w0.1 19 0 16 = nI n) (fr : Fr w0 v) (hp : v.1 19 0 17 = nI 4) (hf : v.1 19 0 18 = -9) (h4 : 4 ≤ n) (A : AF (w0.1 28 0) n 4) (r1 : v.1 19 0 7 = nI (tL (w0.1 28 0) n)) (r2 : v.1 19 0 8 = nI (gD (w0.1 28 0) n 3)) (r4 : v.1 19 0 10 = nI 0) : Res w0 n (rs4 F v a) := by
  have fm := figM F (w := v) (a := 1) (b := 9) (by rw [fr.n16]; exact hn) h40 hp h4 hf (by omega) (by omega)
  rw [fr.c28] at fm
  rcases fm with ⟨x, d, a1, a9, l⟩ | ⟨no, l⟩
  · unfold rs4
    have k := tD_9 d
    have g : gD (w0.1 28 0) n 4 = x := by unfold gD; rw [d]; rfl
    have A5 : AF (w0.1 28 0) n 5 := fitH_s (p := 4) (by omega) A (by
      unfold fitH
      rw [if_neg (by omega), d]
      exact decide_eq_true a1)
    rw [show f_X8_figure F v 1 9 = _ from l, Option.bind_some]
    dsimp only
    rw [wlet_e]
    have G : Gd w0 (pm_setI (pm_setI v 19 0 17 (nI (4 + 1))) 19 0 9 (nI x)) n 0 := by
      refine ⟨(fr.trans (Fr_setI sFr17)).trans (Fr_setI (by unfold sFr; omega)), by rw [setI_ne (by omega), pm_gI_s], by rw [setI_ne (by omega), setI_ne (by omega)]; exact hf, ⟨by rw [setI_ne (by omega), setI_ne (by omega)]; exact r1, by rw [setI_ne (by omega), setI_ne (by omega)]; exact r2, by rw [pm_gI_s, g], by rw [setI_ne (by omega), setI_ne (by omega)]; exact r4, fun i hi => by omega⟩, A5, by omega⟩
    obtain ⟨w', hw, o⟩ := L59 F (v := a) hF h40 hn 5 0 F _ (by omega) (by omega) G
    rw [hw, Option.bind_some]
    rcases o with ⟨g', G', e, l5⟩ | ⟨q, B⟩
    · obtain ⟨f1, f2, f3, f4, f5, f6⟩ := G'
      have ef : ffs (w0.1 28 0) n n 0 = -9 := by
        rw [ffs_end n 0 (by omega) (by rw [← e]; rw [e]; exact e ▸ f5), if_neg (by omega), if_pos (by omega)]
      exact ⟨w', by rw [ef, f3], f1, fun _ => ⟨g', ⟨f1, f2, f3, f4, f5, f6⟩, e, l5⟩⟩
    · exact Res_bad h40 B
  · have B := hd_bad (p := 4) fr (by omega) h4 A (by
      unfold fitH
      rw [if_neg (by omega)]
      cases e : tD (w0.1 28 0) n 4 with
      | none => rfl
      | some x => exact decide_eq_false (fun z => no x e ⟨z, (tD_9 e).1⟩))
    unfold rs4
    rw [show f_X8_figure F v 1 9 = _ from l, Option.bind_some]
    dsimp only
    have B2 := Bd_set (c := 9) (x := nI 1) B (by omega)
    rw [wlet_e, L59_bad F h40 (by omega) B2, Option.bind_some]
    exact Res_bad h40 B2
theorem rs3_ok (F : Nat) {w0 v : pm_W} {n : Nat} {a : Int32} (hF : 12 ≤ F) (h40 : n ≤ 40) (hn : w0.1 19 0 16 = nI n) (fr : Fr w0 v) (hp : v.1 19 0 17 = nI 3) (hf : v.1 19 0 18 = -9) (h3 : 3 ≤ n) (A : AF (w0.1 28 0) n 3) (r1 : v.1 19 0 7 = nI (tL (w0.1 28 0) n)) (r4 : v.1 19 0 10 = nI 0) : Res w0 n (rs3 F v a) := by
  have fm := figM F (w := v) (a := 1) (b := 9) (by rw [fr.n16]; exact hn) h40 hp h3 hf (by omega) (by omega)
  rw [fr.c28] at fm
  unfold rs3
  rcases fm with ⟨x, d, a1, a9, l⟩ | ⟨no, l⟩
  · have k := tD_9 d
    have g : gD (w0.1 28 0) n 3 = x := by unfold gD; rw [d]; rfl
    have A4 : AF (w0.1 28 0) n 4 := fitH_s (p := 3) (by omega) A (by
      unfold fitH
      rw [if_neg (by omega), d]
      exact decide_eq_true a1)
    rw [show f_X8_figure F v 1 9 = _ from l, Option.bind_some]
    dsimp only
    rw [wlet_e]
    exact rs4_ok F hF h40 hn ((fr.trans (Fr_setI sFr17)).trans (Fr_setI (by unfold sFr; omega))) (by rw [setI_ne (by omega), pm_gI_s]) (by rw [setI_ne (by omega), setI_ne (by omega)]; exact hf) (by omega) A4 (by rw [setI_ne (by omega), setI_ne (by omega)]; exact r1) (by rw [pm_gI_s, g]) (by rw [setI_ne (by omega), setI_ne (by omega)]; exact r4)
  · have B := hd_bad (p := 3) fr (by omega) h3 A (by
      unfold fitH
      rw [if_neg (by omega)]
      cases e : tD (w0.1 28 0) n 3 with
      | none => rfl
      | some x => exact decide_eq_false (fun z => no x e ⟨z, (tD_9 e).1⟩))
    rw [show f_X8_figure F v 1 9 = _ from l, Option.bind_some]
    dsimp only
    rw [wlet_e]
    exact rs4_bad F hF h40 (Bd_set B (by omega))
theorem rs2_ok (F : Nat) {w0 v : pm_W} {n a : Nat} (hF : 12 ≤ F) (h40 : n ≤ 40) (hn : w0.1 19 0 16 = nI n) (fr : Fr w0 v) (hp : v.1 19 0 17 = nI 2) (hf : v.1 19 0 18 = -9) (h2 : 2 ≤ n) (A : AF (w0.1 28 0) n 2) (ha : a ≤ 3) (ga : gD (w0.1 28 0) n 1 = a) (r4 : v.1 19 0 10 = nI 0) : Res w0 n (rs2 F v (nI a)) := by
  have fm := figM F (w := v) (a := if a = 0 then 1 else 0) (b := if a = 3 then 0 else 9) (by rw [fr.n16]; exact hn) h40 hp h2 hf (by split <;> omega) (by split <;> omega)
  rw [fr.c28] at fm
  have ea : (if nI a = 0 then 1 else 0 : Int32) = nI (if a = 0 then 1 else 0) := by
    by_cases c : a = 0
    · rw [if_pos c, c]; rfl
    · rw [if_neg c, if_neg (by rw [show (0 : Int32) = nI 0 from rfl, nx_eq (by omega) (by omega)]; exact c)]; rfl
  have eb : (if nI a = 3 then 0 else 9 : Int32) = nI (if a = 3 then 0 else 9) := by
    by_cases c : a = 3
    · rw [if_pos c, c]; rfl
    · rw [if_neg c, if_neg (by rw [show (3 : Int32) = nI 3 from rfl, nx_eq (by omega) (by omega)]; exact c)]; rfl
  unfold rs2
  rw [ea, eb]
  rcases fm with ⟨x, d, a1, a9, l⟩ | ⟨no, l⟩
  · have k := tD_9 d
    have g : gD (w0.1 28 0) n 2 = x := by unfold gD; rw [d]; rfl
    have A3 : AF (w0.1 28 0) n 3 := fitH_s (p := 2) (by omega) A (by
      unfold fitH
      rw [if_neg (by omega), d]
      show (decide (1 ≤ 10 * gD (w0.1 28 0) n 1 + x) && decide (10 * gD (w0.1 28 0) n 1 + x ≤ 30)) = true
      rw [ga, Bool.and_eq_true]
      refine ⟨decide_eq_true ?_, decide_eq_true ?_⟩
      · split at a1 <;> omega
      · split at a9 <;> omega)
    rw [l, Option.bind_some]
    dsimp only
    rw [wlet_e]
    exact rs3_ok F hF h40 hn ((fr.trans (Fr_setI sFr17)).trans (Fr_setI (by unfold sFr; omega))) (by rw [setI_ne (by omega), pm_gI_s]) (by rw [setI_ne (by omega), setI_ne (by omega)]; exact hf) (by omega) A3 (by rw [pm_gI_s, show (10 : Int32) = nI 10 from rfl, nI_ml, nI_add]; unfold tL; rw [g, ga]) (by rw [setI_ne (by omega), setI_ne (by omega)]; exact r4)
  · have B := hd_bad (p := 2) fr (by omega) h2 A (by
      unfold fitH
      rw [if_neg (by omega)]
      cases e : tD (w0.1 28 0) n 2 with
      | none => rfl
      | some x =>
        have k := tD_9 e
        have nx := no x e
        show (decide (1 ≤ 10 * gD (w0.1 28 0) n 1 + x) && decide (10 * gD (w0.1 28 0) n 1 + x ≤ 30)) = false
        rw [ga, ← Bool.not_eq_true, Bool.and_eq_true, decide_eq_true_iff, decide_eq_true_iff]
        intro z
        refine nx ⟨?_, ?_⟩
        · split <;> omega
        · split <;> omega)
    rw [l, Option.bind_some]
    dsimp only
    rw [wlet_e]
    exact rs3_bad F hF h40 (Bd_set B (by omega))
theorem readT (F : Nat) {w : pm_W} {n : Nat} (hF : 12 ≤ F) (h40 : n ≤ 40) (hn : w.1 19 0 16 = nI n) : Res w n (f_X8_readText F w) := by
  unfold f_X8_readText
  rw [wlet_e, wlet_e, wlet_e]
  generalize hv : pm_setI (pm_setI (pm_setI w 19 0 17 0) 19 0 18 (-9)) 19 0 10 0 = v
  have fr : Fr w v := by rw [← hv]; exact ((Fr_setI sFr17).trans (Fr_setI sFr18)).trans (Fr_setI (by unfold sFr; omega))
  have v18 : v.1 19 0 18 = -9 := by rw [← hv, setI_ne (by omega), pm_gI_s]
  have v10 : v.1 19 0 10 = nI 0 := by rw [← hv, pm_gI_s]; rfl
  rw [fr.n16, hn, fr.c28]
  have stop : n = 0 ∨ (0 < n ∧ fit (w.1 28 0) n 0 = false) → Res w n (some (0, v)) := fun h => by
    have ef : ffs (w.1 28 0) n n 0 = nI 0 := by
      rcases h with h | ⟨h1, h2⟩
      · subst h; rfl
      · exact ffs_bad h2 n 0 (by omega) (by omega) h1 (fun j hj => by omega)
    refine ⟨v, by rw [ef]; rfl, fr, fun z => ?_⟩
    rw [ef] at z
    exact absurd z (nf9 (by omega))
  by_cases n0 : n = 0
  · rw [if_pos (by rw [n0]; rfl)]
    exact stop (Or.inl n0)
  · rw [if_neg (by rw [show (0 : Int32) = nI 0 from rfl, nx_eq (by omega) (by omega)]; exact n0)]
    by_cases c : w.1 28 0 0 = 84
    · rw [if_pos c, wlet_e]
      have A1 : AF (w.1 28 0) n 1 := fitH_s (p := 0) (by omega) (fun j hj => by omega) (by unfold fitH; rw [if_pos rfl]; exact decide_eq_true c)
      have fr1 : Fr w (pm_setI v 19 0 17 1) := fr.trans (Fr_setI sFr17)
      have u18 : (pm_setI v 19 0 17 1).1 19 0 18 = -9 := by rw [setI_ne (by omega)]; exact v18
      have fm := figM F (w := pm_setI v 19 0 17 1) (n := n) (p := 1) (a := 0) (b := 3) (by rw [fr1.n16]; exact hn) h40 (by rw [pm_gI_s]; rfl) (by omega) u18 (by omega) (by omega)
      rw [fr1.c28] at fm
      rcases fm with ⟨x, d, a1, a3, l⟩ | ⟨no, l⟩
      · have k := tD_9 d
        have g : gD (w.1 28 0) n 1 = x := by unfold gD; rw [d]; rfl
        have A2 : AF (w.1 28 0) n 2 := fitH_s (p := 1) (by omega) A1 (by
          unfold fitH
          rw [if_neg (by omega), d]
          exact decide_eq_true a3)
        rw [show f_X8_figure F (pm_setI v 19 0 17 1) 0 3 = _ from l, Option.bind_some]
        exact rs2_ok F hF h40 hn (fr1.trans (Fr_setI sFr17)) pm_gI_s (by rw [setI_ne (by omega)]; exact u18) (by omega) A2 a3 g (by rw [setI_ne (by omega), setI_ne (by omega)]; exact v10)
      · have B := hd_bad (p := 1) fr1 (by omega) (by omega) A1 (by
          unfold fitH
          rw [if_neg (by omega)]
          cases e : tD (w.1 28 0) n 1 with
          | none => rfl
          | some x => exact decide_eq_false (fun z => no x e ⟨Nat.zero_le _, z⟩))
        rw [show f_X8_figure F (pm_setI v 19 0 17 1) 0 3 = _ from l, Option.bind_some]
        exact rs2_bad F hF h40 B
    · rw [if_neg c]
      refine stop (Or.inr ⟨by omega, ?_⟩)
      unfold fit fitH
      rw [if_pos (by omega), if_pos rfl]
      exact decide_eq_false c
