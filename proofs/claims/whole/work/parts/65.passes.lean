/-! ===== passes: the class goes down ===== -/
def updO : Option (Nat × Nat) → Nat × Nat → Option (Nat × Nat)
  | none, x => some x
  | some b, x => if b.1 < x.1 then some x else if x.1 = b.1 then (if b.2 ≤ x.2 then some b else some x) else some b
def lss (m : Int32) (i : Nat) : Int32 := m &&& (((1 : Int32) <<< (nI i &&& 31)) ^^^ (-1))
/-- how many are served -/
def svd (S : St) : Nat := pc (S 8).toNatClampNeg
def foldI (f : Nat → Option (Nat × Nat) → Option (Nat × Nat)) : Nat → Nat → Option (Nat × Nat) → Option (Nat × Nat)
  | 0, _, b => b
  | m + 1, i, b => foldI f m (i + 1) (f i b)
def dfs (N : Nat) (Wn : Nat → Int32) : Nat → St → Int32 → Nat → Option (Nat × Nat) → Option (Nat × Nat)
  | 0, S, _, a, b => updO b (svd S, a)
  | k + 1, S, m, a, b => foldI (fun i b => if bt m i = true then dfs N Wn k (hnd Wn S i) (lss m i) (10 * a + i + 1) b else b) N 0 (updO b (svd S, a))
def BE (v : pm_W) : Option (Nat × Nat) → Prop
  | none => v.1 16 0 2 = -1 ∧ v.1 16 0 3 = 0
  | some b => b.1 ≤ 5 ∧ b.2 < 100000 ∧ v.1 16 0 2 = nI b.1 ∧ v.1 16 0 3 = nI b.2
theorem take_e (F : Nat) {v : pm_W} {b : Option (Nat × Nat)} {c r : Nat} (hb : BE v b) (hc : c ≤ 5) (hr : r < 100000) : ∃ v', f_X3_takePasses F v (nI c) (nI r) = some v' ∧ BE v' (updO b (c, r)) ∧ (∀ x y z, x ≠ 16 → v'.1 x y z = v.1 x y z) ∧ v'.2 = v.2 := by
  unfold f_X3_takePasses
  have set : BE (pm_setI (pm_setI v 16 0 2 (nI c)) 16 0 3 (nI r)) (some (c, r)) := ⟨hc, hr, by rw [setI_ne (by omega), pm_gI_s], pm_gI_s⟩
  have oth : ∀ x y z, x ≠ 16 → (pm_setI (pm_setI v 16 0 2 (nI c)) 16 0 3 (nI r)).1 x y z = v.1 x y z := fun x y z h => by rw [setI_ne (by omega), setI_ne (by omega)]
  cases b with
  | none =>
    obtain ⟨b1, b2⟩ := hb
    rw [b1, if_pos (Int32.lt_of_lt_of_le (by decide) (Int32.not_lt.mp (nI_pos (n := c) (by omega)))), wlet_e, wlet_e]
    exact ⟨_, rfl, set, oth, rfl⟩
  | some p =>
    obtain ⟨b0, b00, b1, b2⟩ := hb
    rw [show updO (some p) (c, r) = if p.1 < c then some (c, r) else if c = p.1 then (if p.2 ≤ r then some p else some (c, r)) else some p from rfl, b1, b2]
    by_cases h1 : p.1 < c
    · rw [if_pos (by rw [nx_lt (by omega) (by omega)]; exact h1), if_pos h1, wlet_e, wlet_e]
      exact ⟨_, rfl, set, oth, rfl⟩
    · rw [if_neg (by rw [nx_lt (by omega) (by omega)]; exact h1), if_neg h1]
      by_cases h2 : c = p.1
      · rw [if_pos (by rw [h2]), if_pos h2]
        by_cases h3 : p.2 ≤ r
        · rw [if_pos (by rw [nx_le (by omega) (by omega)]; exact h3), if_pos h3]
          exact ⟨v, rfl, ⟨b0, b00, b1, b2⟩, fun _ _ _ _ => rfl, rfl⟩
        · rw [if_neg (by rw [nx_le (by omega) (by omega)]; exact h3), if_neg h3, wlet_e, wlet_e]
          exact ⟨_, rfl, set, oth, rfl⟩
      · rw [if_neg (by rw [nx_eq (by omega) (by omega)]; exact h2), if_neg h2]
        exact ⟨v, rfl, ⟨b0, b00, b1, b2⟩, fun _ _ _ _ => rfl, rfl⟩
theorem Fr.w5 {w v : pm_W} (h : Fr w v) : v.1 5 0 = w.1 5 0 := funext fun c => h.1 5 0 c (by unfold sFr; omega)
theorem tryP (F : Nat) {w : pm_W} {N : Nat} (hF : 9 ≤ F) (hN : w.1 3 0 3 = nI N) (h5 : N ≤ 5) : ∀ (k D d a : Nat) (u : pm_W) (m : Int32) (b : Option (Nat × Nat)), d + k = 5 → k < D → a < 10 ^ d → Fr w u → Iv N (cS u (17 + d)) → BE u b → ∃ v, f_X3_tryPasses F D u (nI d) (nI a) m = some v ∧ Fr u v ∧ BE v (dfs N (w.1 5 0) k (cS u (17 + d)) m a b) ∧ ∀ j, j ≤ d → cS v (17 + j) = cS u (17 + j) := by
  intro k
  induction k with
  | zero =>
    intro D d a u m b hd hD ha fr iv hb
    obtain ⟨D, rfl⟩ : ∃ q, D = q + 1 := ⟨D - 1, by omega⟩
    obtain ⟨l, i1, i2, i3, i4, s, hs, es⟩ := iv
    have a5 : a < 100000 := Nat.lt_of_lt_of_le ha (show 10 ^ d ≤ 10 ^ 5 from Nat.pow_le_pow_right (by omega) (by omega))
    have e8 : u.1 7 (17 + d) 4 = nI s := by
      have : u.1 7 (17 + d) 4 = cS u (17 + d) 8 := by unfold cS; rw [if_neg (by omega), if_pos (by omega)]
      rw [this, es]
    have esv : svd (cS u (17 + d)) = pc s := by unfold svd; rw [es, nx_cl (by omega)]
    obtain ⟨v, hv, bv, ov, o2⟩ := take_e F (c := pc s) (r := a) hb (pc_le s) a5
    refine ⟨v, ?_, ⟨fun x y z h => ov x y z (by unfold sFr at h; omega), o2⟩, ?_, fun j _ => cS_of (fun x z hx => ov x _ z (by omega))⟩
    · rw [f_X3_tryPasses]
      unfold f_X3_tryPasses_B
      rw [if_neg (nI_pos (by omega)), show (5 : Int32) = nI 5 from rfl, if_pos (by rw [nx_le (by omega) (by omega)]; omega), nx_in (show d < 6 by omega) (by omega), if_pos rfl, nx_cl (by omega), e8, bitC_e F hs, Option.bind_some, hv, Option.bind_some, if_pos (by rw [nx_eq (by omega) (by omega)]; omega)]
    · show BE v (updO b (svd (cS u (17 + d)), a))
      rw [esv]; exact bv
  | succ k ih =>
    intro D d a u m b hd hD ha fr iv hb
    obtain ⟨D, rfl⟩ : ∃ q, D = q + 1 := ⟨D - 1, by omega⟩
    have iv0 := iv
    obtain ⟨l, i1, i2, i3, i4, s, hs, es⟩ := iv
    have a5 : a < 100000 := Nat.lt_of_lt_of_le ha (show 10 ^ d ≤ 10 ^ 5 from Nat.pow_le_pow_right (by omega) (by omega))
    have e8 : u.1 7 (17 + d) 4 = nI s := by
      have : u.1 7 (17 + d) 4 = cS u (17 + d) 8 := by unfold cS; rw [if_neg (by omega), if_pos (by omega)]
      rw [this, es]
    have esv : svd (cS u (17 + d)) = pc s := by unfold svd; rw [es, nx_cl (by omega)]
    obtain ⟨v, hv, bv, ov, o2⟩ := take_e F (c := pc s) (r := a) hb (pc_le s) a5
    have frv : Fr u v := ⟨fun x y z h => ov x y z (by unfold sFr at h; omega), o2⟩
    have smv : ∀ j, j ≤ d → cS v (17 + j) = cS u (17 + j) := fun j _ => cS_of (fun x z hx => ov x _ z (by omega))
    have L : ∀ (q n i : Nat) (u' : pm_W) (b' : Option (Nat × Nat)), i + q = N → q < n → Fr u u' → (∀ j, j ≤ d → cS u' (17 + j) = cS u (17 + j)) → BE u' b' → ∃ v', (f_X3_tryPasses_L30 F (f_X3_tryPasses F D) n u' (nI d) (nI a) m (17 + d) (17 + (d + 1)) (nI i)) = some (nI N, v') ∧ Fr u v' ∧ BE v' (foldI (fun i b => if bt m i = true then dfs N (w.1 5 0) k (hnd (w.1 5 0) (cS u (17 + d)) i) (lss m i) (10 * a + i + 1) b else b) q i b') ∧ ∀ j, j ≤ d → cS v' (17 + j) = cS u (17 + j) := by
      intro q
      induction q with
      | zero =>
        intro n i u' b' hi hn fr' sm be
        obtain ⟨n, rfl⟩ : ∃ q, n = q + 1 := ⟨n - 1, by omega⟩
        have : i = N := by omega
        subst this
        exact ⟨u', by rw [f_X3_tryPasses_L30, (fr.trans fr').seat.1, hN, if_pos (by rw [nx_le (by omega) (by omega)]; omega)], fr', be, sm⟩
      | succ q ih2 =>
        intro n i u' b' hi hn fr' sm be
        obtain ⟨n, rfl⟩ : ∃ q, n = q + 1 := ⟨n - 1, by omega⟩
        have frw := fr.trans fr'
        have hN' : u'.1 3 0 3 = nI N := by rw [frw.seat.1]; exact hN
        rw [f_X3_tryPasses_L30, hN', if_neg (by rw [nx_le (by omega) (by omega)]; omega), nx_s]
        unfold foldI
        by_cases c : bt m i = true
        · rw [if_pos (bt_t c), if_pos c, become_e F hF, Option.bind_some, sm d (Nat.le_refl _)]
          have hh := hand_e F (w := cPut u' (17 + (d + 1)) (cS u (17 + d))) (N := N) (i := 17 + (d + 1)) (g := i) (by rw [cPut_o (by decide) (by decide)]; exact hN') h5 (by omega)
          rw [cS_cPut (cS_nm u (17 + d)), cPut_or (by decide) (by decide), frw.w5, cPut_cPut] at hh
          rw [hh, Option.bind_some]
          generalize hT : hnd (w.1 5 0) (cS u (17 + d)) i = T
          have nT : Nm T := by rw [← hT]; exact hnd_nm (cS_nm u (17 + d))
          have iT : Iv N T := by rw [← hT]; exact Iv_hnd h5 (by omega) iv0
          have fu : Fr u (cPut u' (17 + (d + 1)) T) := fr'.trans (Fr_cPut (by omega))
          have su : ∀ j, j ≤ d → cS (cPut u' (17 + (d + 1)) T) (17 + j) = cS u (17 + j) := fun j hj => by rw [cS_cPut_ne (by omega)]; exact sm j hj
          have bu : BE (cPut u' (17 + (d + 1)) T) b' := by
            cases b' with
            | none => exact ⟨by rw [cPut_o (by decide) (by decide)]; exact be.1, by rw [cPut_o (by decide) (by decide)]; exact be.2⟩
            | some p => exact ⟨be.1, be.2.1, by rw [cPut_o (by decide) (by decide)]; exact be.2.2.1, by rw [cPut_o (by decide) (by decide)]; exact be.2.2.2⟩
          obtain ⟨v1, h1, f1, b1, s1⟩ := ih D (d + 1) (10 * a + i + 1) (cPut u' (17 + (d + 1)) T) (lss m i) b' (by omega) (by omega) (by rw [Nat.pow_succ]; omega) (fr.trans fu) (by rw [cS_cPut nT]; exact iT) bu
          rw [cS_cPut nT] at b1
          have er : nI a * 10 + nI i + 1 = nI (10 * a + i + 1) := by rw [show (10 : Int32) = nI 10 from rfl, nI_ml, nI_add, nx_s, Nat.mul_comm]
          rw [nx_s, er, show m &&& (1 <<< (nI i &&& 31) ^^^ -1) = lss m i from rfl, h1, Option.bind_some]
          exact ih2 n (i + 1) v1 _ (by omega) (by omega) (fu.trans f1) (fun j hj => by rw [s1 j (by omega)]; exact su j hj) b1
        · rw [if_neg (bt_f c), if_neg c, nx_s]
          exact ih2 n (i + 1) u' b' (by omega) (by omega) fr' sm be
    obtain ⟨v2, h2, f2, b2, s2⟩ := L N F 0 v _ (by omega) (by omega) frv smv bv
    refine ⟨v2, ?_, f2, ?_, s2⟩
    · rw [f_X3_tryPasses]
      unfold f_X3_tryPasses_B
      rw [show nI 0 = (0 : Int32) from rfl] at h2
      rw [if_neg (nI_pos (by omega)), show (5 : Int32) = nI 5 from rfl, if_pos (by rw [nx_le (by omega) (by omega)]; omega), nx_in (show d < 6 by omega) (by omega), if_pos rfl, nx_cl (by omega), e8, bitC_e F hs, Option.bind_some, hv, Option.bind_some, if_neg (by rw [nx_eq (by omega) (by omega)]; omega), nx_s, nx_in (show d + 1 < 6 by omega) (by omega), if_pos rfl, nx_cl (by omega), h2]; rfl
    · show BE v2 (foldI _ N 0 (updO b (svd (cS u (17 + d)), a)))
      rw [esv]; exact b2
