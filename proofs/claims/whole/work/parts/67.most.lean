/-! ===== the reference counts the rows of passes up ===== -/
def Sv (S : St) : Prop := ∃ m, m < 32 ∧ S 8 = nI m
theorem Sv_hnd {K : Nat → Int32} {S : St} {g : Nat} (hg : g < 5) (h : Sv S) : Sv (hnd K S g) := by
  obtain ⟨m, hm, h8⟩ := h
  unfold Sv hnd
  rw [if_neg (by omega), if_neg (by omega), if_pos rfl]
  split
  · exact ⟨m, hm, h8⟩
  · have := or32 ⟨m, hm⟩ ⟨g, hg⟩
    exact ⟨m ||| 2 ^ g, this.2, by rw [h8]; exact this.1⟩
theorem svd_e {S : St} (h : Sv S) : ∃ m, m < 32 ∧ S 8 = nI m ∧ svd S = pc m := by
  obtain ⟨m, hm, e⟩ := h
  exact ⟨m, hm, e, by unfold svd; rw [e, nx_cl (by omega)]⟩
theorem pRL_0 (F : Nat) {w : pm_W} {z1 z2 z3 z4 z5 a c : Int32} {n : Nat} (hn : 0 < n) : f_X8_mostBy_L28 F n w z1 z2 z3 z4 z5 a 0 c = some (a, 0, c, w) := by
  obtain ⟨n, rfl⟩ : ∃ q, n = q + 1 := ⟨n - 1, by omega⟩
  rw [f_X8_mostBy_L28]
  by_cases h : z4 ≤ c
  · rw [if_pos h]
  · rw [if_neg h, if_pos rfl]
theorem pR_L (F : Nat) {w : pm_W} {v k : Nat} {z1 z2 z3 : Int32} (hF : 101 ≤ F) (hv : v < 2147483648) (hk : k ≤ 6) : ∀ (m n j M : Nat) (S : St), j + m = k → m + 1 < n → Nm S → M < 32 → Sv S → ∃ T x y, f_X8_mostBy_L28 F n (mPut w 1 S) z1 z2 z3 (nI k) (nI v) (nI M) 1 (nI j) = some (x, bi (pR (w.1 21 0) v m S M).isSome, y, mPut w 1 T) ∧ Nm T ∧ Sv T ∧ ∀ Q, pR (w.1 21 0) v m S M = some Q → T = Q := by
  intro m
  induction m with
  | zero =>
    intro n j M S hj hn nS hM sS
    obtain ⟨n, rfl⟩ : ∃ q, n = q + 1 := ⟨n - 1, by omega⟩
    exact ⟨S, _, _, by rw [f_X8_mostBy_L28, if_pos (by rw [nx_le (by omega) (by omega)]; omega)]; rfl, nS, sS, fun Q h => by cases h; rfl⟩
  | succ m ih =>
    intro n j M S hj hn nS hM sS
    obtain ⟨n, rfl⟩ : ∃ q, n = q + 1 := ⟨n - 1, by omega⟩
    have q1 : ¬ (1 : Int32) = 0 := by decide
    rw [f_X8_mostBy_L28, if_neg (by rw [nx_le (by omega) (by omega)]; omega), if_neg q1, figOf_e F hF hv hk (by omega), Option.bind_some, show k - 1 - j = m by omega, has_e, Option.bind_some, nx_s]
    unfold pR
    by_cases c : bt (nI M) (sx v m) = true
    · have h6 := ms_in (N := 5) (by omega) hM (sx_lt v m) c
      have l : lsN M (sx v m) ≤ M := msk_lt ⟨M, hM⟩ ⟨sx v m, h6⟩
      have e := msk ⟨M, hM⟩ ⟨sx v m, h6⟩
      have p := passOn_e F (w := mPut w 1 S) (v := 1) (g := sx v m) h6 (by omega)
      rw [mS_mPut nS, mPut_o (by decide), mPut_mPut, show nI 1 = (1 : Int32) from rfl] at p
      rw [if_pos c, if_pos c, if_neg q1, p, Option.bind_some, show nI M &&& (1 <<< (nI (sx v m) &&& 31) ^^^ -1) = nI (lsN M (sx v m)) from e]
      exact ih n (j + 1) _ _ (by omega) (by omega) (hnd_nm nS) (by omega) (Sv_hnd h6 sS)
    · rw [if_neg c, if_neg c, if_pos rfl, pRL_0 F (by omega)]
      exact ⟨S, _, _, rfl, nS, sS, fun Q z => by cases z⟩
/-- the rows that stand ahead of the v-th of length k -/
def PB (Wn : Nat → Int32) (S : St) (M k v : Nat) (c r : Nat) : Prop := ∃ k' v' T, ((k' < k ∧ v' < 6 ^ k') ∨ (k' = k ∧ v' < v)) ∧ pR Wn v' k' S M = some T ∧ c = svd T ∧ r = tld v' k' 0
theorem PB_lt {Wn : Nat → Int32} {S : St} {M k v c r : Nat} (hv : v < 6 ^ k) (h : PB Wn S M k v c r) : r < tld v k 0 := by
  obtain ⟨k', v', T, h1, _, _, h4⟩ := h
  rcases h1 with ⟨h1, h2⟩ | ⟨h1, h2⟩
  · have a := (tld_k (v := v') (k := k')).1
    have b := (tld_k (v := v) (k := k)).2 (by omega)
    have : 10 ^ k' ≤ 10 ^ (k - 1) := Nat.pow_le_pow_right (by omega) (by omega)
    omega
  · subst h1
    rw [h4]
    exact tld_mono k' v' v 0 h2 hv
theorem PB_s {Wn : Nat → Int32} {S : St} {M k v c r : Nat} : PB Wn S M k (v + 1) c r ↔ PB Wn S M k v c r ∨ ∃ T, pR Wn v k S M = some T ∧ c = svd T ∧ r = tld v k 0 := by
  constructor
  · rintro ⟨k', v', T, h1, h2, h3, h4⟩
    by_cases e : k' = k ∧ v' = v
    · obtain ⟨rfl, rfl⟩ := e
      exact Or.inr ⟨T, h2, h3, h4⟩
    · exact Or.inl ⟨k', v', T, by omega, h2, h3, h4⟩
  · rintro (⟨k', v', T, h1, h2, h3, h4⟩ | ⟨T, h2, h3, h4⟩)
    · exact ⟨k', v', T, by omega, h2, h3, h4⟩
    · exact ⟨k, v, T, Or.inr ⟨rfl, by omega⟩, h2, h3, h4⟩
theorem PB_k {Wn : Nat → Int32} {S : St} {M k c r : Nat} : PB Wn S M k (6 ^ k) c r ↔ PB Wn S M (k + 1) 0 c r := by
  constructor
  · rintro ⟨k', v', T, h1, h2, h3, h4⟩
    refine ⟨k', v', T, Or.inl ?_, h2, h3, h4⟩
    rcases h1 with h1 | ⟨h1, h5⟩
    · exact ⟨by omega, h1.2⟩
    · subst h1; exact ⟨by omega, h5⟩
  · rintro ⟨k', v', T, h1, h2, h3, h4⟩
    refine ⟨k', v', T, ?_, h2, h3, h4⟩
    rcases h1 with ⟨h1, h5⟩ | ⟨h1, h5⟩
    · by_cases e : k' = k
      · subst e; exact Or.inr ⟨rfl, h5⟩
      · exact Or.inl ⟨by omega, h5⟩
    · omega
def ME (u : pm_W) (mst : Int32) : Option (Nat × Nat) → Prop
  | none => mst = -9
  | some b => b.1 ≤ 5 ∧ b.2 < 100000 ∧ mst = nI b.1 ∧ u.1 19 0 22 = nI b.2
/-- nothing but the trial and the first row anew -/
def Mo (w u : pm_W) : Prop := (∀ a b c, ¬ (a = 19 ∧ c = 22) → ¬ (a = 23 ∧ 9 ≤ c) → u.1 a b c = w.1 a b c) ∧ u.2 = w.2
theorem Mo.refl (w : pm_W) : Mo w w := ⟨fun _ _ _ _ _ => rfl, rfl⟩
theorem Mo.trans {a b c : pm_W} (h : Mo a b) (g : Mo b c) : Mo a c := ⟨fun x y z p q => (g.1 x y z p q).trans (h.1 x y z p q), g.2.trans h.2⟩
theorem Mo.fr {w u : pm_W} (h : Mo w u) : Fr w u := ⟨fun a b c s => h.1 a b c (by unfold sFr at s; omega) (by unfold sFr at s; omega), h.2⟩
theorem Mo_mPut {w : pm_W} {S : St} : Mo w (mPut w 1 S) := ⟨fun a b c p q => mPut_ne (by omega), rfl⟩
theorem Mo_22 {w : pm_W} {x : Int32} : Mo w (pm_setI w 19 0 22 x) := ⟨fun a b c p q => setI_ne (by omega), rfl⟩
theorem Mo.m0 {w u : pm_W} (h : Mo w u) : mS u 0 = mS w 0 := mS_of (fun n hn => h.1 23 0 _ (by omega) (by omega))
theorem Mo.r21 {w u : pm_W} (h : Mo w u) : u.1 21 0 = w.1 21 0 := funext fun c => h.1 21 0 c (by omega) (by omega)
theorem mb_L10 (F : Nat) {w : pm_W} {k M s : Nat} (hF : 101 ≤ F) (hk : k ≤ 5) (hM : M < 32) (hs : s < 32) : ∀ (m n v : Nat) (u : pm_W) (mst : Int32) (b : Option (Nat × Nat)), v + m = 6 ^ k → m < n → Mo w u → ME u mst b → Best (PB (w.1 21 0) (upd (mS w 0) 8 (nI s)) M k v) b → ∃ u' mst' b' y, f_X8_mostBy_L10 F n u (nI M) (nI s) mst (nI k) (nI v) = some (mst', y, u') ∧ Mo w u' ∧ ME u' mst' b' ∧ Best (PB (w.1 21 0) (upd (mS w 0) 8 (nI s)) M k (6 ^ k)) b' := by
  intro m
  obtain ⟨x1, x2, x3⟩ := six_e k hk
  induction m with
  | zero =>
    intro n v u mst b hv hn mo me be
    obtain ⟨n, rfl⟩ : ∃ q, n = q + 1 := ⟨n - 1, by omega⟩
    have : v = 6 ^ k := by omega
    refine ⟨u, mst, b, _, by rw [f_X8_mostBy_L10, power_e F (by omega) (by omega), Option.bind_some, x1, if_pos (by rw [nx_le (by omega) (by omega)]; omega)], mo, me, ?_⟩
    rw [← this]; exact be
  | succ m ih =>
    intro n v u mst b hv hn mo me be
    obtain ⟨n, rfl⟩ : ∃ q, n = q + 1 := ⟨n - 1, by omega⟩
    rw [f_X8_mostBy_L10, power_e F (by omega) (by omega), Option.bind_some, x1, if_neg (by rw [nx_le (by omega) (by omega)]; omega), layTrial_e F (by omega), Option.bind_some, wlet_e]
    rw [show pm_setI (mPut u 1 (mS u 0)) 23 0 17 (nI s) = mPut u 1 (upd (mS u 0) 8 (nI s)) from mPut_set (v := 1) (n := 8) (by omega), mo.m0]
    have nS : Nm (upd (mS w 0) 8 (nI s)) := fun q hq => by rw [upd_n (by omega)]; exact mS_nm w 0 q hq
    obtain ⟨T, x, y, hT, nT, sT, eT⟩ := pR_L F (w := u) (v := v) (k := k) (z1 := nI M) (z2 := nI s) (z3 := mst) hF (by omega) (by omega) k F 0 M (upd (mS w 0) 8 (nI s)) (by omega) (by omega) nS hM ⟨s, hs, upd_s⟩
    rw [show nI 0 = (0 : Int32) from rfl, mo.r21] at hT
    rw [mo.r21] at eT
    rw [hT, Option.bind_some, nx_s]
    dsimp only
    have mo1 : Mo w (mPut u 1 T) := mo.trans Mo_mPut
    have e22 : (mPut u 1 T).1 19 0 22 = u.1 19 0 22 := by rw [mPut_o (by decide)]
    have me1 : ME (mPut u 1 T) mst b := by
      cases b with
      | none => exact me
      | some b => exact ⟨me.1, me.2.1, me.2.2.1, by rw [e22]; exact me.2.2.2⟩
    rw [setI_self, wlet_e]
    cases e : pR (w.1 21 0) v k (upd (mS w 0) 8 (nI s)) M with
    | none =>
      rw [if_pos (show bi (none : Option St).isSome = 0 from rfl)]
      refine ih n (v + 1) _ mst b (by omega) (by omega) mo1 me1 (be.cg (fun c r => ?_))
      rw [PB_s]
      exact ⟨Or.inl, fun z => z.elim id (fun ⟨T, h, _⟩ => by rw [e] at h; cases h)⟩
    | some Q =>
      have := eT Q e
      subst this
      have q1 : ¬ (1 : Int32) = 0 := by decide
      rw [if_neg (show ¬ bi (some T).isSome = 0 from q1)]
      obtain ⟨t, ht, e8, es⟩ := svd_e sT
      have g17 : (mPut u 1 T).1 23 0 17 = nI t := by rw [show (mPut u 1 T).1 23 0 17 = T 8 from mPut_g (v := 1) (n := 8) (by omega), e8]
      have p5 := pc_le t
      rw [g17, onM_e F (by omega) ht, Option.bind_some, wlet_e, g17, onM_e F (by omega) ht, Option.bind_some, tld_e F hF (by omega) (by omega), Option.bind_some, wlet_e]
      have g17' : (pm_setI (mPut u 1 T) 19 0 22 (nI (tld v k 0))).1 23 0 17 = nI t := by rw [setI_ne (by omega)]; exact g17
      rw [g17', onM_e F (by omega) ht, Option.bind_some]
      have tk := (tld_k (v := v) (k := k)).1
      have p : 10 ^ k ≤ 10 ^ 5 := Nat.pow_le_pow_right (by omega) hk
      have setM : ME (pm_setI (mPut u 1 T) 19 0 22 (nI (tld v k 0))) (nI (pc t)) (some (pc t, tld v k 0)) := ⟨p5, (show tld v k 0 < 100000 by omega), rfl, pm_gI_s⟩
      have moM : Mo w (pm_setI (mPut u 1 T) 19 0 22 (nI (tld v k 0))) := mo1.trans Mo_22
      have ba := (be.add (x := pc t) (y := tld v k 0)).cg (Q := PB (w.1 21 0) (upd (mS w 0) 8 (nI s)) M k (v + 1)) (fun c r => by
        rw [PB_s, ← es]
        exact ⟨fun z => z.elim Or.inl (fun z => Or.inr ⟨T, e, z.1, z.2⟩), fun z => z.elim Or.inl (fun ⟨T2, h, z1, z2⟩ => by rw [e] at h; cases h; exact Or.inr ⟨z1, z2⟩)⟩)
      cases b with
      | none =>
        have hm : mst = -9 := me
        have ng : ¬ nI (pc t) ≤ mst := by
          rw [hm]
          intro z
          exact nI_pos (n := pc t) (by omega) (Int32.lt_of_le_of_lt z (by decide))
        simp only [ng, if_false, q1]
        exact ih n (v + 1) _ _ _ (by omega) (by omega) moM setM ba
      | some b =>
        obtain ⟨m1, m2, m3, m4⟩ := me
        by_cases g : pc t ≤ b.1
        · have ng : nI (pc t) ≤ mst := by rw [m3, nx_le (by omega) (by omega)]; exact g
          simp only [ng, if_true]
          refine ih n (v + 1) _ mst (some b) (by omega) (by omega) mo1 me1 ?_
          have lt := PB_lt (by omega) be.1
          have : updO (some b) (pc t, tld v k 0) = some b := by
            show (if b.1 < pc t then some (pc t, tld v k 0) else if pc t = b.1 then (if b.2 ≤ tld v k 0 then some b else some (pc t, tld v k 0)) else some b) = some b
            rw [if_neg (by omega)]
            by_cases h : pc t = b.1
            · rw [if_pos h, if_pos (by omega)]
            · rw [if_neg h]
          rw [this] at ba
          exact ba
        · have ng : ¬ nI (pc t) ≤ mst := by rw [m3, nx_le (by omega) (by omega)]; exact g
          simp only [ng, if_false, q1]
          refine ih n (v + 1) _ _ (some (pc t, tld v k 0)) (by omega) (by omega) moM setM ?_
          have : updO (some b) (pc t, tld v k 0) = some (pc t, tld v k 0) := if_pos (by omega)
          rw [this] at ba
          exact ba
theorem mb_L4 (F : Nat) {w : pm_W} {M s : Nat} (hF : 8000 ≤ F) (hM : M < 32) (hs : s < 32) : ∀ (m n k : Nat) (u : pm_W) (mst : Int32) (b : Option (Nat × Nat)), k + m = pc M + 1 → m < n → Mo w u → ME u mst b → Best (PB (w.1 21 0) (upd (mS w 0) 8 (nI s)) M k 0) b → ∃ u' mst' b' y, f_X8_mostBy_L4 F n u (nI M) (nI s) mst (nI k) = some (mst', y, u') ∧ Mo w u' ∧ ME u' mst' b' ∧ Best (PB (w.1 21 0) (upd (mS w 0) 8 (nI s)) M (pc M + 1) 0) b' := by
  intro m
  have p5 := pc_le M
  induction m with
  | zero =>
    intro n k u mst b hk hn mo me be
    obtain ⟨n, rfl⟩ : ∃ q, n = q + 1 := ⟨n - 1, by omega⟩
    have : k = pc M + 1 := by omega
    subst this
    exact ⟨u, mst, b, _, by rw [f_X8_mostBy_L4, onM_e F (by omega) hM, Option.bind_some, if_pos (by rw [nx_lt (by omega) (by omega)]; omega)], mo, me, be⟩
  | succ m ih =>
    intro n k u mst b hk hn mo me be
    obtain ⟨n, rfl⟩ : ∃ q, n = q + 1 := ⟨n - 1, by omega⟩
    obtain ⟨x1, x2, x3⟩ := six_e k (by omega)
    obtain ⟨u', mst', b', y, h1, h2, h3, h4⟩ := mb_L10 F (w := w) (k := k) (M := M) (s := s) (by omega) (by omega) hM hs (6 ^ k) F 0 u mst b (by omega) (by omega) mo me be
    rw [show nI 0 = (0 : Int32) from rfl] at h1
    rw [f_X8_mostBy_L4, onM_e F (by omega) hM, Option.bind_some, if_neg (by rw [nx_lt (by omega) (by omega)]; omega), h1, Option.bind_some, nx_s]
    exact ih n (k + 1) u' mst' b' (by omega) (by omega) h2 h3 (h4.cg (fun c r => PB_k))
