theorem cho_e (F : Nat) {u : pm_W} {v : Nat} {lg : Bool} {f : Nat → Nat} (hF : 101 ≤ F) (hv : 6 * v + 6 ≤ 1296) (hf : ∀ c, f c ≤ 60) (hu : ∀ c, c < 6 → u.1 33 0 (6 * v + c) = nI (f c)) : f_X8_choice F u (nI (6 * v)) (bi lg) = some (eI (bcF lg f 6 0 none)) ∧ Bw f (bcF lg f 6 0 none) := by
  unfold f_X8_choice
  obtain ⟨h1, h2⟩ := cho_L F (lg := lg) hv hf hu 6 F 0 none (by omega) (by omega) (fun p hp => (by cases hp))
  rw [show eI none = -9 from rfl, show nI 0 = (0 : Int32) from rfl] at h1
  rw [h1]
  exact ⟨rfl, h2⟩
theorem hst_L35 (F : Nat) {w : pm_W} {N n t : Nat} {K : Nat → Int32} {S : St} {z1 z2 : Int32} (hF : 2000 ≤ F) (h5 : N ≤ 5) (hK : KdA N K) (iv : Iv N S) (hn : n ≤ 4) (ht : t < n) : ∀ (m q v : Nat) (u : pm_W) (x : Int32), v + m = 6 ^ t → m < q → Fr w u → (∀ j, v ≤ j → j < 6 ^ (t + 1) → u.1 33 0 j = nI (mmv N K n S (t + 1) j)) → (∀ j, j < v → u.1 33 0 j = nI (mmv N K n S t j)) → ∃ u' x' y, f_X8_hosts_L35 F q u z1 z2 x (nI t) (nI v) = some (x', y, u') ∧ Fr w u' ∧ (∀ j, j < 6 ^ t → u'.1 33 0 j = nI (mmv N K n S t j)) ∧ (m = 1 → x' = eI (bcF (decide (t % 2 = 0)) (fun c => mmv N K n S (t + 1) (6 * v + c)) 6 0 none)) := by
  intro m
  obtain ⟨x1, x2, x3⟩ := six_e t (by omega)
  have x4 : 6 ^ (t + 1) ≤ 6 ^ 4 := Nat.pow_le_pow_right (by omega) (by omega)
  have x5 : 6 ^ (t + 1) = 6 * 6 ^ t := by rw [Nat.pow_succ, Nat.mul_comm]
  induction m with
  | zero =>
    intro q v u x hv hq fr h1 h2
    obtain ⟨q, rfl⟩ : ∃ z, q = z + 1 := ⟨q - 1, by omega⟩
    have : v = 6 ^ t := by omega
    subst this
    exact ⟨u, x, _, by rw [f_X8_hosts_L35, power_e F (by omega) (by omega), Option.bind_some, x1, if_pos (by rw [nx_le (by omega) (by omega)]; omega)], fr, h2, fun z => by omega⟩
  | succ m ih =>
    intro q v u x hv hq fr h1 h2
    obtain ⟨q, rfl⟩ : ∃ z, q = z + 1 := ⟨q - 1, by omega⟩
    obtain ⟨c1, c2⟩ := cho_e F (u := u) (v := v) (lg := decide (t % 2 = 0)) (f := fun c => mmv N K n S (t + 1) (6 * v + c)) (by omega) (by omega) (fun c => mmv_60 h5 hK iv) (fun c hc => h1 (6 * v + c) (by omega) (by omega))
    have pr : (if nI t - nI t / 2 * 2 = 0 then 1 else 0 : Int32) = bi (decide (t % 2 = 0)) := par ⟨t, by omega⟩
    rw [f_X8_hosts_L35, power_e F (by omega) (by omega), Option.bind_some, x1, if_neg (by rw [nx_le (by omega) (by omega)]; omega), show (6 : Int32) * nI v = nI (6 * v) from nI_ml 6 v, pr, c1, Option.bind_some, nx_in (show v < 1296 by omega) (by omega), if_pos rfl, if_pos rfl, wlet_e, wlet_e, nx_cl (show v < 2147483648 by omega), nx_s]
    have val := mmv_s (N := N) (K := K) (n := n) (t := t) (v := v) (S := S) ht
    have step : ∀ y : Int32, y = nI (mmv N K n S t v) → ∃ u' x' z, f_X8_hosts_L35 F q (pm_setI u 33 0 v y) z1 z2 (eI (bcF (decide (t % 2 = 0)) (fun c => mmv N K n S (t + 1) (6 * v + c)) 6 0 none)) (nI t) (nI (v + 1)) = some (x', z, u') ∧ Fr w u' ∧ (∀ j, j < 6 ^ t → u'.1 33 0 j = nI (mmv N K n S t j)) ∧ (m + 1 = 1 → x' = eI (bcF (decide (t % 2 = 0)) (fun c => mmv N K n S (t + 1) (6 * v + c)) 6 0 none)) := by
      intro y hy
      obtain ⟨u', x', z, e1, e2, e3, e4⟩ := ih q (v + 1) (pm_setI u 33 0 v y) (eI (bcF (decide (t % 2 = 0)) (fun c => mmv N K n S (t + 1) (6 * v + c)) 6 0 none)) (by omega) (by omega) (fr.trans ⟨fun a b c s => setI_ne (by unfold sFr at s; omega), rfl⟩) (fun j h3 h4 => by rw [setI_ne (by omega)]; exact h1 j (by omega) h4) (fun j hj => by
        by_cases e : j = v
        · subst e; rw [pm_gI_s, hy]
        · rw [setI_ne (by omega)]; exact h2 j (by omega))
      refine ⟨u', x', z, e1, e2, e3, fun hm => ?_⟩
      have hm0 : m = 0 := by omega
      subst hm0
      obtain ⟨q, rfl⟩ : ∃ z, q = z + 1 := ⟨q - 1, by omega⟩
      rw [f_X8_hosts_L35, power_e F (by omega) (by omega), Option.bind_some, x1, if_pos (by rw [nx_le (by omega) (by omega)]; omega)] at e1
      injection e1 with e1
      exact (Prod.mk.inj e1).1.symm
    cases e : bcF (decide (t % 2 = 0)) (fun c => mmv N K n S (t + 1) (6 * v + c)) 6 0 none with
    | none =>
      rw [e] at val step
      rw [if_pos (show eI none = -9 from rfl)]
      exact step 0 (by rw [val]; rfl)
    | some p =>
      rw [e] at val step
      obtain ⟨p2, p1⟩ := c2 p e
      rw [show eI (some p) = nI p.1 from rfl, if_neg (enc_ne9 (by omega)), nI_add, nx_in (show 6 * v + p.1 < 1296 by omega) (by omega), if_pos rfl, nx_cl (by omega)]
      rw [show eI (some p) = nI p.1 from rfl] at step
      exact step _ (by rw [val, h1 (6 * v + p.1) (by omega) (by omega)]; show _ = nI p.2; rw [p2])
theorem hst_L31 (F : Nat) {w : pm_W} {N n : Nat} {K : Nat → Int32} {S : St} {z1 z2 : Int32} (hF : 2000 ≤ F) (h5 : N ≤ 5) (hK : KdA N K) (iv : Iv N S) (hn : n ≤ 4) : ∀ (t q : Nat) (u : pm_W) (x : Int32), t ≤ n → t < q → Fr w u → (∀ j, j < 6 ^ t → u.1 33 0 j = nI (mmv N K n S t j)) → ∃ u' x' y, f_X8_hosts_L31 F q u z1 z2 x (nI t - 1) = some (x', y, u') ∧ Fr w u' ∧ u'.1 33 0 0 = nI (mmv N K n S 0 0) ∧ (1 ≤ t → x' = eI (rt N K (n - 1) true S)) := by
  intro t
  induction t with
  | zero =>
    intro q u x ht hq fr hu
    obtain ⟨q, rfl⟩ : ∃ z, q = z + 1 := ⟨q - 1, by omega⟩
    exact ⟨u, x, _, by rw [f_X8_hosts_L31, if_pos (by decide)], fr, hu 0 (by omega), fun z => by omega⟩
  | succ t ih =>
    intro q u x ht hq fr hu
    obtain ⟨q, rfl⟩ : ∃ z, q = z + 1 := ⟨q - 1, by omega⟩
    obtain ⟨x1, x2, x3⟩ := six_e t (by omega)
    have x4 : 6 ^ t ≤ 6 ^ 3 := Nat.pow_le_pow_right (by omega) (by omega)
    obtain ⟨u', x', y, e1, e2, e3, e4⟩ := hst_L35 F (w := w) (N := N) (n := n) (t := t) (K := K) (S := S) (z1 := z1) (z2 := z2) hF h5 hK iv hn (by omega) (6 ^ t) F 0 u x (by omega) (by omega) fr (fun j _ hj => hu j hj) (fun j hj => by omega)
    rw [show nI 0 = (0 : Int32) from rfl] at e1
    have es : nI (t + 1) - 1 = nI t := by
      have : nI (t + 1) - nI 1 = nI (t + 1 - 1) := nI_sb (by omega)
      exact this
    obtain ⟨u2, x2', y2, g1, g2, g3, g4⟩ := ih q u' x' (by omega) (by omega) e2 e3
    refine ⟨u2, x2', y2, ?_, g2, g3, fun _ => ?_⟩
    · rw [f_X8_hosts_L31, es, if_neg (nI_pos (by omega)), e1, Option.bind_some]
      dsimp only
      rw [← g1, show nI t + -1 = nI t - 1 from by rw [Int32.sub_eq_add_neg]]
    · by_cases h0 : t = 0
      · subst h0
        obtain ⟨q, rfl⟩ : ∃ z, q = z + 1 := ⟨q - 1, by omega⟩
        rw [f_X8_hosts_L31, if_pos (by decide)] at g1
        injection g1 with g1
        rw [← (Prod.mk.inj g1).1, e4 (by decide), ← mmv_r (by omega)]
        show eI (bcF true (fun c => mmv N K n S 1 (6 * 0 + c)) 6 0 none) = _
        rw [show (fun c => mmv N K n S 1 (6 * 0 + c)) = fun c => mmv N K n S 1 c from funext fun c => by rw [Nat.mul_zero, Nat.zero_add]]
      · exact g4 (by omega)
theorem stp_OR {N : Nat} {K L : Nat → Int32} {S T : St} (h5 : N ≤ 5) (hK : KdA N K) (hA : Agr N K L) (h : SR N S T) (nS : Nm S) (nT : Nm T) (c : Nat) : OR N (stp N K S c) (stp N L T c) := by
  unfold stp
  by_cases e : c = 0
  · rw [if_pos e, if_pos e]; exact ⟨h, nS, nT⟩
  · rw [if_neg e, if_neg e]; exact sic_OR h5 hK hA h nS nT _
theorem mm_eq {N : Nat} {K L : Nat → Int32} (h5 : N ≤ 5) (hK : KdA N K) (hA : Agr N K L) : ∀ (k : Nat) (lg : Bool) (S T : St), SR N S T → Nm S → Nm T → mm N K k lg S = mm N L k lg T
  | 0, _, S, T, h, _, _ => by
    show ln S = ln T
    unfold ln
    rw [h.1 5 (Or.inr ⟨by omega, by omega⟩)]
  | k + 1, lg, S, T, h, nS, nT => by
    unfold mm
    refine congrArg (fun f => (bcF lg f 6 0 none).elim 0 (·.2)) (funext fun c => ?_)
    have o := stp_OR h5 hK hA h nS nT c
    cases h1 : stp N K S c with
    | none =>
      cases h2 : stp N L T c with
      | none => rfl
      | some T2 => rw [h1, h2] at o; exact o.elim
    | some S2 =>
      cases h2 : stp N L T c with
      | none => rw [h1, h2] at o; exact o.elim
      | some T2 =>
        rw [h1, h2] at o
        exact mm_eq h5 hK hA k (!lg) S2 T2 o.1 o.2.1 o.2.2
