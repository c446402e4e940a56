/-! ===== shares of guests ===== -/
def fac : Nat → Nat
  | 0 => 1
  | n + 1 => fac n * (n + 1)
theorem fac_e : ∀ k : Fin 6, pm_st 38 k.val = nI (fac k.val) ∧ 1 ≤ fac k.val ∧ fac k.val ≤ 120 := by decide +kernel
theorem fac_m (F : Nat) {w : pm_W} {k : Nat} (hF : 101 ≤ F) (hk : k ≤ 5) : f_X8_factorial F w (nI k) = some (nI (fac k)) := by
  unfold f_X8_factorial
  obtain ⟨n, rfl⟩ : ∃ n, F = n + 7 := ⟨F - 7, by omega⟩
  match k, hk with
  | 0, _ => rfl
  | 1, _ => rfl
  | 2, _ => rfl
  | 3, _ => rfl
  | 4, _ => rfl
  | 5, _ => rfl
  | n + 6, h => omega
theorem own_0 : ∀ p : Fin 32, ∀ g : Fin 5, ((nI p.val &&& ((1 : Int32) <<< (nI g.val &&& 31))) = 0 ↔ bt (nI p.val) g.val = false) := by decide +kernel
theorem pc_lt : ∀ N : Fin 6, ∀ p : Fin 32, ∀ g : Fin 5, p.val < 2 ^ N.val → g.val < N.val → bt (nI p.val) g.val = false → pc p.val + 1 ≤ N.val := by decide +kernel
def ords (N p : Nat) : Nat := fac (pc p) * fac (N - 1 - pc p)
def shr (N g : Nat) (mc : Nat → Nat) : Nat → Int32
  | 0 => 0
  | p + 1 => if bt (nI p) g = true then shr N g mc p else shr N g mc p + (nI (mc (p ||| 2 ^ g)) - nI (mc p)) * nI (ords N p)
theorem sh_bd {N g : Nat} {mc : Nat → Nat} (h5 : N ≤ 5) (hg : g < N) (hm : ∀ p, p < 2 ^ N → mc p ≤ 5) : ∀ p, p ≤ 2 ^ N → ∃ a b, shr N g mc p = nI a - nI b ∧ a ≤ 72000 * p ∧ b ≤ 72000 * p
  | 0, _ => ⟨0, 0, rfl, by omega, by omega⟩
  | p + 1, hp => by
    have p2 := p2_le h5
    obtain ⟨a, b, e, h1, h2⟩ := sh_bd h5 hg hm p (by omega)
    unfold shr
    by_cases c : bt (nI p) g = true
    · rw [if_pos c]
      exact ⟨a, b, e, by omega, by omega⟩
    · rw [if_neg c, e]
      have c' : bt (nI p) g = false := by simpa using c
      have q := pc_lt ⟨N, by omega⟩ ⟨p, by omega⟩ ⟨g, by omega⟩ (by show p < 2 ^ N; omega) hg c'
      have q' : pc p + 1 ≤ N := q
      have f1 := fac_e ⟨pc p, by omega⟩
      have f2 := fac_e ⟨N - 1 - pc p, by omega⟩
      have o : ords N p ≤ 120 * 120 := Nat.mul_le_mul f1.2.2 f2.2.2
      have m1 := hm p (by omega)
      have m2 := hm (p ||| 2 ^ g) (or_in h5 (by omega) hg).2
      have k1 : mc (p ||| 2 ^ g) * ords N p ≤ 5 * (120 * 120) := Nat.mul_le_mul m2 o
      have k2 : mc p * ords N p ≤ 5 * (120 * 120) := Nat.mul_le_mul m1 o
      refine ⟨a + mc (p ||| 2 ^ g) * ords N p, b + mc p * ords N p, ?_, by omega, by omega⟩
      rw [← nI_add, ← nI_add, ← nI_ml, ← nI_ml]
      generalize nI a = a
      generalize nI b = b
      generalize nI (mc (p ||| 2 ^ g)) = x
      generalize nI (mc p) = y
      generalize nI (ords N p) = z
      grind
theorem ab_sub {a b : Nat} (ha : a < 1000000000) (hb : b < 1000000000) : ∃ c, c < 2147483648 ∧ ab32 (nI a - nI b) = nI c := by
  unfold ab32
  by_cases h : b ≤ a
  · rw [nI_sb h, if_pos (Int32.not_lt.mp (nI_pos (by omega)))]
    exact ⟨a - b, by omega, rfl⟩
  · have e : nI a - nI b = -(nI (b - a)) := by
      rw [← nI_sb (show a ≤ b by omega)]
      generalize nI a = a
      generalize nI b = b
      grind
    rw [if_neg ?_, e]
    · exact ⟨b - a, by omega, by grind⟩
    · rw [Int32.le_iff_toInt_le, pk_sub_toInt (by omega) (by omega)]
      show ¬ (0 : Int) ≤ _
      omega
theorem mostOf_e (F : Nat) (hF : 9 ≤ F) {w u : pm_W} {n N A X D : Nat} (HP : RelP w n N A X D) {M : Nat} (hM : M < 2 ^ N) (fr : Fr w u) : ∃ v, f_X1_mostOf F u 0 (nI M) = some (nI (bst N (w.1 5 0) (upd (cS w 0) 8 (nI 0)) M).1, v) ∧ Fr w v := by
  unfold f_X1_mostOf
  obtain ⟨v, g1, g2, b1, b2, b3, b4⟩ := plan_k F hF HP (M := M) (s := 0) hM (by omega) fr
  rw [show nI 0 = (0 : Int32) from rfl] at g1
  rw [g1, Option.bind_some, b3]
  exact ⟨v, rfl, g2⟩
theorem bst_5 (F : Nat) (hF : 9 ≤ F) {w : pm_W} {n N A X D : Nat} (HP : RelP w n N A X D) {M : Nat} (hM : M < 2 ^ N) : (bst N (w.1 5 0) (upd (cS w 0) 8 (nI 0)) M).1 ≤ 5 := by
  obtain ⟨v, g1, g2, b1, _⟩ := plan_k F hF HP (M := M) (s := 0) hM (by omega) (Fr.refl w)
  exact b1
def mcw (w : pm_W) (N M : Nat) : Nat := (bst N (w.1 5 0) (upd (cS w 0) 8 (nI 0)) M).1
theorem sho_L (F : Nat) (hF : 101 ≤ F) {w : pm_W} {n N A X D g : Nat} {z3 : Int32} (HP : RelP w n N A X D) (hg : g < N) : ∀ (m q p : Nat) (u : pm_W), p + m = 2 ^ N → m < q → Fr w u → ∃ v y, f_X1_shareOf_L8 F q u 0 (nI g) z3 (shr N g (mcw w N) p) (1 <<< (nI g &&& 31)) (nI p) = some (shr N g (mcw w N) (2 ^ N), y, v) ∧ Fr w v := by
  intro m
  have hb := HP.2.1
  have h5 := hb.1
  have p2 := p2_le h5
  have ev : ∀ u, Fr w u → u.1 3 0 3 = nI N := fun u fr => by rw [fr.seat.1]; exact hb.2.1
  induction m with
  | zero =>
    intro q p u hp hq fr
    obtain ⟨q, rfl⟩ : ∃ k, q = k + 1 := ⟨q - 1, by omega⟩
    have : p = 2 ^ N := by omega
    subst this
    rw [f_X1_shareOf_L8]
    unfold f_X5_everybody
    rw [Option.bind_some, ev u fr, sh1 h5, show nI (2 ^ N) - 1 = nI (2 ^ N - 1) from nI_sb (b := 1) (by omega), if_pos (by rw [nx_lt (by omega) (by omega)]; omega)]
    exact ⟨u, _, rfl, fr⟩
  | succ m ih =>
    intro q p u hp hq fr
    obtain ⟨q, rfl⟩ : ∃ k, q = k + 1 := ⟨q - 1, by omega⟩
    rw [f_X1_shareOf_L8]
    unfold f_X5_everybody
    rw [Option.bind_some, ev u fr, sh1 h5, show nI (2 ^ N) - 1 = nI (2 ^ N - 1) from nI_sb (b := 1) (by omega), if_neg (by rw [nx_lt (by omega) (by omega)]; omega)]
    have o := own_0 ⟨p, by omega⟩ ⟨g, by omega⟩
    have st : shr N g (mcw w N) (p + 1) = if bt (nI p) g = true then shr N g (mcw w N) p else shr N g (mcw w N) p + (nI (mcw w N (p ||| 2 ^ g)) - nI (mcw w N p)) * nI (ords N p) := rfl
    by_cases c : bt (nI p) g = true
    · rw [if_neg (fun z => by rw [o.mp z] at c; cases c), show nI p + 1 = nI (p + 1) from nx_s p]
      rw [if_pos c] at st
      rw [← st]
      exact ih q (p + 1) u (by omega) (by omega) fr
    · have c' : bt (nI p) g = false := by simpa using c
      rw [if_neg c] at st
      have oi := or_in h5 (show p < 2 ^ N by omega) hg
      have q' : pc p + 1 ≤ N := pc_lt ⟨N, by omega⟩ ⟨p, by omega⟩ ⟨g, by omega⟩ (by show p < 2 ^ N; omega) hg c'
      obtain ⟨v1, e1, f1⟩ := mostOf_e F (by omega) HP oi.2 fr
      obtain ⟨v2, e2, f2⟩ := mostOf_e F (by omega) HP (show p < 2 ^ N by omega) f1
      have or : f_X1_ordersWith F v2 (nI (pc p)) = some (nI (ords N p)) := by
        unfold f_X1_ordersWith
        have f1 := fac_e ⟨pc p, by omega⟩
        have f2' := fac_e ⟨N - 1 - pc p, by omega⟩
        rw [ev v2 f2, show nI N - 1 = nI (N - 1) from nI_sb (b := 1) (by omega), nI_sb (show pc p ≤ N - 1 by omega)]
        rw [if_neg (nI_pos (n := pc p) (by omega)), if_neg (show ¬ 5 < nI (pc p) by rw [show (5 : Int32) = nI 5 from rfl, nx_lt (by omega) (by omega)]; omega), if_neg (nI_pos (n := N - 1 - pc p) (by omega)), if_neg (show ¬ 5 < nI (N - 1 - pc p) by rw [show (5 : Int32) = nI 5 from rfl, nx_lt (by omega) (by omega)]; omega), if_neg (by decide), nx_in (show pc p < 6 by omega) (by omega), if_pos rfl, nx_in (show N - 1 - pc p < 6 by omega) (by omega), if_pos rfl, nx_cl (by omega), nx_cl (by omega)]
        rw [show pm_st 38 (pc p) = nI (fac (pc p)) from f1.1, show pm_st 38 (N - 1 - pc p) = nI (fac (N - 1 - pc p)) from f2'.1, nI_ml]; rfl
      rw [if_pos (o.mpr c'), oi.1, e1, Option.bind_some]
      dsimp only
      rw [e2, Option.bind_some]
      dsimp only
      rw [bitC_e F (by omega), Option.bind_some, or, Option.bind_some, show nI p + 1 = nI (p + 1) from nx_s p]
      have := ih q (p + 1) v2 (by omega) (by omega) f2
      rw [st] at this
      exact this
theorem shm_L8 (F : Nat) (hF : 8000 ≤ F) {w : pm_W} {n N A X D : Nat} {z1 z2 : Int32} (HP : RelP w n N A X D) : ∀ (m q p : Nat) (u : pm_W), p + m = 2 ^ N → m < q → Fr w u → (∀ j, j < p → u.1 30 0 j = nI (mcw w N j)) → ∃ v y, f_X8_share_L8 F q u z1 z2 (nI p) = some (y, v) ∧ Fr w v ∧ ∀ j, j < 2 ^ N → v.1 30 0 j = nI (mcw w N j) := by
  intro m
  have hb := HP.2.1
  have h5 := hb.1
  have p2 := p2_le h5
  have ev : ∀ u, Fr w u → u.1 19 0 0 = nI N := fun u fr => by rw [fr.1 19 0 0 (by unfold sFr; omega)]; exact hb.2.2.1
  induction m with
  | zero =>
    intro q p u hp hq fr hu
    obtain ⟨q, rfl⟩ : ∃ k, q = k + 1 := ⟨q - 1, by omega⟩
    have : p = 2 ^ N := by omega
    subst this
    exact ⟨u, _, by rw [f_X8_share_L8, ev u fr, sh1 h5, if_pos (by rw [nx_le (by omega) (by omega)]; omega)], fr, hu⟩
  | succ m ih =>
    intro q p u hp hq fr hu
    obtain ⟨q, rfl⟩ : ∃ k, q = k + 1 := ⟨q - 1, by omega⟩
    obtain ⟨v, e, mo, _⟩ := most_m F hF HP (M := p) (s := 0) (by omega) (by omega) fr
    rw [show nI 0 = (0 : Int32) from rfl] at e
    rw [f_X8_share_L8, ev u fr, sh1 h5, if_neg (by rw [nx_le (by omega) (by omega)]; omega), e, Option.bind_some, nx_in (show p < 32 by omega) (by omega), if_pos rfl, nx_cl (by omega), wlet_e, show nI p + 1 = nI (p + 1) from nx_s p]
    refine ih q (p + 1) _ (by omega) (by omega) ?_ ?_
    · refine (fr.trans mo.fr).trans ⟨fun a b c s => setI_ne (by unfold sFr at s; omega), rfl⟩
    · intro j hj
      by_cases h : j = p
      · subst h; rw [pm_gI_s]; rfl
      · rw [setI_ne (by omega), mo.1 30 0 j (by omega) (by omega)]
        exact hu j (by omega)
theorem shm_L28 (F : Nat) (hF : 101 ≤ F) {v : pm_W} {N g : Nat} {mc : Nat → Nat} {z2 : Int32} (h5 : N ≤ 5) (hN : v.1 19 0 0 = nI N) (hg : g < N) (hv : ∀ j, j < 2 ^ N → v.1 30 0 j = nI (mc j)) : ∀ (m q p : Nat), p + m = 2 ^ N → m < q → ∃ y, f_X8_share_L28 F v q (nI g) z2 (shr N g mc p) (nI p) = some (shr N g mc (2 ^ N), y) := by
  intro m
  have p2 := p2_le h5
  induction m with
  | zero =>
    intro q p hp hq
    obtain ⟨q, rfl⟩ : ∃ k, q = k + 1 := ⟨q - 1, by omega⟩
    have : p = 2 ^ N := by omega
    subst this
    exact ⟨_, by rw [f_X8_share_L28, hN, sh1 h5, if_pos (by rw [nx_le (by omega) (by omega)]; omega)]⟩
  | succ m ih =>
    intro q p hp hq
    obtain ⟨q, rfl⟩ : ∃ k, q = k + 1 := ⟨q - 1, by omega⟩
    have st : shr N g mc (p + 1) = if bt (nI p) g = true then shr N g mc p else shr N g mc p + (nI (mc (p ||| 2 ^ g)) - nI (mc p)) * nI (ords N p) := rfl
    rw [f_X8_share_L28, hN, sh1 h5, if_neg (by rw [nx_le (by omega) (by omega)]; omega), has_e, Option.bind_some, show nI p + 1 = nI (p + 1) from nx_s p]
    have I := ih q (p + 1) (by omega) (by omega)
    rw [st] at I
    by_cases c : bt (nI p) g = true
    · rw [if_pos c] at I ⊢
      rw [if_neg (by decide)]
      exact I
    · have c' : bt (nI p) g = false := by simpa using c
      rw [if_neg c] at I ⊢
      have oi := or_in h5 (show p < 2 ^ N by omega) hg
      have q' : pc p + 1 ≤ N := pc_lt ⟨N, by omega⟩ ⟨p, by omega⟩ ⟨g, by omega⟩ (by show p < 2 ^ N; omega) hg c'
      rw [if_pos rfl, onM_e F (by omega) (by omega), Option.bind_some, fac_m F hF (by omega), Option.bind_some, Option.bind_some, show nI N - 1 = nI (N - 1) from nI_sb (b := 1) (by omega), nI_sb (show pc p ≤ N - 1 by omega), fac_m F hF (by omega), Option.bind_some, oi.1, nx_in (show (p ||| 2 ^ g) < 32 by omega) (by omega), if_pos rfl, nx_in (show p < 32 by omega) (by omega), if_pos rfl, nx_cl (by omega), nx_cl (by omega), hv _ oi.2, hv p (by omega), nI_ml, Int32.mul_comm]
      exact I
