/-! ===== passes: both have the best ===== -/
theorem pR_eq {N : Nat} {K L : Nat → Int32} {v : Nat} (h5 : N ≤ 5) (hA : Agr N K L) : ∀ (m : Nat) (S T S2 : St) (M : Nat), eqN N S T → M < 2 ^ N → pR K v m S M = some S2 → ∃ T2, pR L v m T M = some T2 ∧ eqN N S2 T2
  | 0, S, T, S2, M, h, _, e => by cases e; exact ⟨T, rfl, h⟩
  | m + 1, S, T, S2, M, h, hM, e => by
    unfold pR at e ⊢
    by_cases c : bt (nI M) (sx v m) = true
    · rw [if_pos c] at e ⊢
      have p2 := p2_le h5
      have hg := ms_in h5 hM (sx_lt v m) c
      have l : lsN M (sx v m) ≤ M := msk_lt ⟨M, by omega⟩ ⟨sx v m, by omega⟩
      exact pR_eq h5 hA m _ _ S2 _ (eqN_hnd h hg (hA _ hg)) (by omega) e
    · rw [if_neg c] at e; cases e
theorem eqN.symm {N : Nat} {S T : St} (h : eqN N S T) : eqN N T S := fun n hn => (h n hn).symm
theorem eqN_svd {N : Nat} {S T : St} (h : eqN N S T) : svd S = svd T := by
  unfold svd; rw [h 8 (Or.inr ⟨by omega, by omega⟩)]
theorem eqN_8 {N : Nat} {S T : St} {x : Int32} (h : eqN N S T) : eqN N (upd S 8 x) (upd T 8 x) := fun n hn => by
  unfold upd
  split
  · rfl
  · exact h n hn
theorem PB_Rch {N : Nat} {K L : Nat → Int32} {S T : St} {M c r : Nat} (h5 : N ≤ 5) (hA : Agr N K L) (h : eqN N S T) (hM : M < 2 ^ N) : Rch N K 5 S M 0 c r ↔ PB L T M (pc M + 1) 0 c r := by
  have p2 := p2_le h5
  rw [Rch_iff h5 5 S M 0 c r hM]
  constructor
  · rintro ⟨k, v, S2, h1, h2, h3, h4, h6⟩
    obtain ⟨T2, e, q⟩ := pR_eq h5 hA k S T S2 M h hM h3
    have := pR_pc k S S2 M (by omega) h3
    exact ⟨k, v, T2, Or.inl ⟨by omega, h2⟩, e, by rw [← eqN_svd q]; exact h4, h6⟩
  · rintro ⟨k, v, T2, h1, h3, h4, h6⟩
    have := pc_le M
    have h1 : k < pc M + 1 ∧ v < 6 ^ k := by omega
    obtain ⟨S2, e, q⟩ := pR_eq h5 (fun g hg => (hA g hg).symm) k T S T2 M h.symm hM h3
    exact ⟨k, v, S2, by omega, h1.2, e, by rw [← eqN_svd q]; exact h4, h6⟩
def bst (N : Nat) (Wn : Nat → Int32) (S : St) (M : Nat) : Nat × Nat := (dfs N Wn 5 S (nI M) 0 none).getD (0, 0)
theorem bst_e {N : Nat} {Wn : Nat → Int32} {S : St} {M : Nat} (h5 : N ≤ 5) (hM : M < 32) : dfs N Wn 5 S (nI M) 0 none = some (bst N Wn S M) ∧ Best (Rch N Wn 5 S M 0) (some (bst N Wn S M)) := by
  have b := (dfs_best (Wn := Wn) h5 5 S M 0 none (fun _ _ => False) hM (fun _ _ z => z)).cg (Q := Rch N Wn 5 S M 0) (fun c r => ⟨fun z => z.elim False.elim id, Or.inr⟩)
  unfold bst
  cases e : dfs N Wn 5 S (nI M) 0 none with
  | none => rw [e] at b; exact absurd (Or.inl ⟨rfl, rfl⟩) (b (svd S) 0)
  | some x => rw [e] at b; exact ⟨rfl, b⟩
theorem plan_k (F : Nat) (hF : 9 ≤ F) {w u : pm_W} {n N A X D : Nat} (HP : RelP w n N A X D) {M s : Nat} (hM : M < 2 ^ N) (hs : s < 32) (fr : Fr w u) : ∃ v, f_X3_planPasses F u 0 (nI s) (nI M) = some v ∧ Fr w v ∧ (bst N (w.1 5 0) (upd (cS w 0) 8 (nI s)) M).1 ≤ 5 ∧ (bst N (w.1 5 0) (upd (cS w 0) 8 (nI s)) M).2 < 100000 ∧ v.1 16 0 2 = nI (bst N (w.1 5 0) (upd (cS w 0) 8 (nI s)) M).1 ∧ v.1 16 0 3 = nI (bst N (w.1 5 0) (upd (cS w 0) 8 (nI s)) M).2 := by
  obtain ⟨h1, hb, h3, _⟩ := HP
  have p2 := p2_le hb.1
  unfold f_X3_planPasses
  have e0 : cS u 0 = cS w 0 := cS_of (fun a c ha => fr.1 a 0 c (by unfold sFr; omega))
  rw [trialFrom_e F hF, Option.bind_some, wlet_e, wlet_e, wlet_e, cPut_set7 (by omega) (by omega), e0]
  have nS : Nm (upd (cS w 0) 8 (nI s)) := fun q hq => by rw [upd_n (by omega)]; exact cS_nm w 0 q hq
  have iS : Iv N (upd (cS w 0) 8 (nI s)) := by
    obtain ⟨l, i1, i2, i3, i4, _⟩ := h3.2
    have hN5 := hb.1
    exact ⟨l, i1, i2, by rw [upd_n (by omega)]; exact i3, fun j hj => by rw [upd_n (by omega)]; exact i4 j hj, s, hs, upd_s⟩
  have c17 : cS (pm_setI (pm_setI (cPut u 17 (upd (cS w 0) 8 (nI s))) 16 0 2 (-1)) 16 0 3 0) 17 = upd (cS w 0) 8 (nI s) := by
    rw [cS_of (w := cPut u 17 (upd (cS w 0) 8 (nI s))) (fun a c ha => by rw [setI_ne (by omega), setI_ne (by omega)])]
    exact cS_cPut nS
  have frU : Fr w (pm_setI (pm_setI (cPut u 17 (upd (cS w 0) 8 (nI s))) 16 0 2 (-1)) 16 0 3 0) := ⟨fun a b c z => by
    have z' := z
    unfold sFr at z
    rw [setI_ne (by omega), setI_ne (by omega), cPut_ne (by omega)]
    exact fr.1 a b c z', fr.2⟩
  obtain ⟨v, hv, f1, b1, _⟩ := tryP F (w := w) (N := N) hF hb.2.1 hb.1 5 8 0 0 _ (nI M) none (by omega) (by omega) (by omega) frU (by rw [show 17 + 0 = 17 from rfl, c17]; exact iS) ⟨by rw [setI_ne (by omega), pm_gI_s], pm_gI_s⟩
  rw [show 17 + 0 = 17 from rfl, c17, (bst_e hb.1 (by omega)).1] at b1
  rw [show nI 0 = (0 : Int32) from rfl] at hv
  exact ⟨v, by rw [show (4 : Nat) + 4 = 8 from rfl, hv]; rfl, frU.trans f1, b1.1, b1.2.1, b1.2.2.1, b1.2.2.2⟩
theorem most_m (F : Nat) (hF : 8000 ≤ F) {w u : pm_W} {n N A X D : Nat} (HP : RelP w n N A X D) {M s : Nat} (hM : M < 2 ^ N) (hs : s < 32) (fr : Fr w u) : ∃ v, f_X8_mostBy F u (nI M) (nI s) = some (nI (bst N (w.1 5 0) (upd (cS w 0) 8 (nI s)) M).1, v) ∧ Mo u v ∧ v.1 19 0 22 = nI (bst N (w.1 5 0) (upd (cS w 0) 8 (nI s)) M).2 := by
  obtain ⟨h1, hb, h3, _⟩ := HP
  have p2 := p2_le hb.1
  unfold f_X8_mostBy
  obtain ⟨u', mst', b', y, g1, g2, g3, g4⟩ := mb_L4 F (w := u) (M := M) (s := s) hF (by omega) hs (pc M + 1) F 0 u (-9) none (by omega) (by have := pc_le M; omega) (Mo.refl u) rfl (fun c r ⟨k', v', T, h, _⟩ => by omega)
  have e0 : mS u 0 = mS w 0 := mS_of (fun n hn => fr.1 23 0 _ (by unfold sFr; omega))
  have e21 : u.1 21 0 = w.1 21 0 := funext fun c => fr.1 21 0 c (by unfold sFr; omega)
  rw [e0, e21] at g4
  have g5 := g4.cg (Q := Rch N (w.1 5 0) 5 (upd (cS w 0) 8 (nI s)) M 0) (fun c r => (PB_Rch hb.1 hb.agw (eqN_8 h3.1) hM).symm)
  have := g5.uniq (bst_e hb.1 (by omega)).2
  subst this
  rw [show nI 0 = (0 : Int32) from rfl] at g1
  rw [g1, Option.bind_some]
  exact ⟨u', by rw [g3.2.2.1], g2, g3.2.2.2⟩
theorem k_passes (F : Nat) (hF : 8000 ≤ F) {w : pm_W} (H : Rel w) (flag : Int32) : ∃ r w1 w2, f_X7_passes F w flag = some (r, w1) ∧ f_X8_passes F w1 flag = some (r, w2) ∧ Rel w2 := by
  obtain ⟨n, N, A, X, D, HP⟩ := H
  have H1 := HP
  obtain ⟨h1, hb, h3, h4, h5, h6, h7⟩ := H1
  have p2 := p2_le hb.1
  obtain ⟨l, i1, i2, i3, i4, s, hs, es⟩ := h3.2
  have e8 : w.1 7 0 4 = nI s := by rw [show w.1 7 0 4 = cS w 0 8 from cS_f (by omega) (by omega), es]
  unfold f_X7_passes f_X5_everybody f_X8_passes
  rw [Option.bind_some, hb.2.1, sh1 hb.1, show (1 : Int32) = nI 1 from rfl, nI_sb (by omega), e8]
  obtain ⟨v, g1, g2, b1, b2, b3, b4⟩ := plan_k F (by omega) HP (M := 2 ^ N - 1) (s := s) (by omega) hs (Fr.refl w)
  rw [g1, Option.bind_some]
  have em : v.1 23 0 8 = nI s := by
    rw [g2.1 23 0 8 (by unfold sFr; omega), show w.1 23 0 8 = mS w 0 8 from mS_g (v := 0) (n := 8) (by omega), ← h3.1 8 (Or.inr ⟨by omega, by omega⟩), es]
  have e19 : v.1 19 0 0 = nI N := by rw [g2.1 19 0 0 (by unfold sFr; omega)]; exact hb.2.2.1
  obtain ⟨v2, k1, k2, k3⟩ := most_m F hF HP (M := 2 ^ N - 1) (s := s) (by omega) hs g2
  refine ⟨_, v, v2, rfl, ?_, n, N, A, X, D, RelP_Fr k2.fr (RelP_Fr g2 HP)⟩
  rw [e19, show nI 1 = (1 : Int32) from rfl, sh1 hb.1, show (1 : Int32) = nI 1 from rfl, nI_sb (by omega), em, k1, Option.bind_some]
  dsimp only
  rw [k3, b3, b4]
