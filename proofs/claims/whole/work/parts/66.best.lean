/-! ===== passes: the best of a set; the reference counts up ===== -/
def lsN (M i : Nat) : Nat := if bt (nI M) i = true then M - 2 ^ i else M
theorem msk : ∀ M : Fin 32, ∀ i : Fin 5, lss (nI M.val) i.val = nI (lsN M.val i.val) := by decide +kernel
theorem msk_lt : ∀ M : Fin 32, ∀ i : Fin 5, lsN M.val i.val ≤ M.val := by decide +kernel
theorem msk_pc : ∀ M : Fin 32, ∀ i : Fin 5, bt (nI M.val) i.val = true → pc (lsN M.val i.val) + 1 = pc M.val := by decide +kernel
theorem msk_in : ∀ N : Fin 6, ∀ M : Fin 32, ∀ i : Fin 6, M.val < 2 ^ N.val → bt (nI M.val) i.val = true → i.val < N.val := by decide +kernel
theorem ms_in {N M i : Nat} (h5 : N ≤ 5) (hM : M < 2 ^ N) (hi : i < 6) (h : bt (nI M) i = true) : i < N := by
  have := p2_le h5
  exact msk_in ⟨N, by omega⟩ ⟨M, by omega⟩ ⟨i, hi⟩ hM h
def Best (P : Nat → Nat → Prop) : Option (Nat × Nat) → Prop
  | none => ∀ c r, ¬ P c r
  | some b => P b.1 b.2 ∧ ∀ c r, P c r → c < b.1 ∨ (c = b.1 ∧ b.2 ≤ r)
theorem Best.uniq {P : Nat → Nat → Prop} {a b : Option (Nat × Nat)} (ha : Best P a) (hb : Best P b) : a = b := by
  cases a with
  | none =>
    cases b with
    | none => rfl
    | some b => exact absurd hb.1 (ha _ _)
  | some a =>
    cases b with
    | none => exact absurd ha.1 (hb _ _)
    | some b =>
      have h1 := ha.2 _ _ hb.1
      have h2 := hb.2 _ _ ha.1
      have e1 : a.1 = b.1 := by omega
      have e2 : a.2 = b.2 := by omega
      rw [Prod.ext e1 e2]
theorem Best.cg {P Q : Nat → Nat → Prop} {b : Option (Nat × Nat)} (h : ∀ c r, P c r ↔ Q c r) (hb : Best P b) : Best Q b := by
  cases b with
  | none => exact fun c r z => hb c r ((h c r).mpr z)
  | some b => exact ⟨(h _ _).mp hb.1, fun c r z => hb.2 c r ((h c r).mpr z)⟩
theorem Best.add {P : Nat → Nat → Prop} {b : Option (Nat × Nat)} {x y : Nat} (hb : Best P b) : Best (fun c r => P c r ∨ (c = x ∧ r = y)) (updO b (x, y)) := by
  cases b with
  | none => exact ⟨Or.inr ⟨rfl, rfl⟩, fun c r z => z.elim (fun z => absurd z (hb c r)) (fun z => Or.inr ⟨z.1, Nat.le_of_eq z.2.symm⟩)⟩
  | some b =>
    show Best _ (if b.1 < x then some (x, y) else if x = b.1 then (if b.2 ≤ y then some b else some (x, y)) else some b)
    by_cases h1 : b.1 < x
    · rw [if_pos h1]
      refine ⟨Or.inr ⟨rfl, rfl⟩, fun c r z => ?_⟩
      rcases z with z | z
      · have := hb.2 c r z
        exact Or.inl (show c < x by omega)
      · exact Or.inr ⟨z.1, Nat.le_of_eq z.2.symm⟩
    · rw [if_neg h1]
      by_cases h2 : x = b.1
      · rw [if_pos h2]
        by_cases h3 : b.2 ≤ y
        · rw [if_pos h3]
          refine ⟨Or.inl hb.1, fun c r z => ?_⟩
          rcases z with z | z
          · exact hb.2 c r z
          · exact Or.inr ⟨by omega, by omega⟩
        · rw [if_neg h3]
          refine ⟨Or.inr ⟨rfl, rfl⟩, fun c r z => ?_⟩
          rcases z with z | z
          · have := hb.2 c r z
            show c < x ∨ (c = x ∧ y ≤ r)
            omega
          · exact Or.inr ⟨z.1, Nat.le_of_eq z.2.symm⟩
      · rw [if_neg h2]
        refine ⟨Or.inl hb.1, fun c r z => ?_⟩
        rcases z with z | z
        · exact hb.2 c r z
        · exact Or.inl (by omega)
/-- a row passed to its end -/
def pR (Wn : Nat → Int32) (v : Nat) : Nat → St → Nat → Option St
  | 0, S, _ => some S
  | m + 1, S, M => if bt (nI M) (sx v m) = true then pR Wn v m (hnd Wn S (sx v m)) (lsN M (sx v m)) else none
def Rch (N : Nat) (Wn : Nat → Int32) : Nat → St → Nat → Nat → Nat → Nat → Prop
  | 0, S, _, a, c, r => c = svd S ∧ r = a
  | k + 1, S, M, a, c, r => (c = svd S ∧ r = a) ∨ ∃ i, i < N ∧ bt (nI M) i = true ∧ Rch N Wn k (hnd Wn S i) (lsN M i) (10 * a + i + 1) c r
theorem dfs_best {N : Nat} {Wn : Nat → Int32} (h5 : N ≤ 5) : ∀ (k : Nat) (S : St) (M a : Nat) (b : Option (Nat × Nat)) (P : Nat → Nat → Prop), M < 32 → Best P b → Best (fun c r => P c r ∨ Rch N Wn k S M a c r) (dfs N Wn k S (nI M) a b)
  | 0, S, M, a, b, P, _, hb => hb.add
  | k + 1, S, M, a, b, P, hM, hb => by
    have L : ∀ (q i : Nat) (b' : Option (Nat × Nat)) (Q : Nat → Nat → Prop), i + q = N → Best Q b' → Best (fun c r => Q c r ∨ ∃ j, i ≤ j ∧ j < N ∧ bt (nI M) j = true ∧ Rch N Wn k (hnd Wn S j) (lsN M j) (10 * a + j + 1) c r) (foldI (fun i b => if bt (nI M) i = true then dfs N Wn k (hnd Wn S i) (lss (nI M) i) (10 * a + i + 1) b else b) q i b') := by
      intro q
      induction q with
      | zero =>
        intro i b' Q hi hb'
        exact hb'.cg (fun c r => ⟨Or.inl, fun z => z.elim id (fun ⟨j, h1, h2, _⟩ => by omega)⟩)
      | succ q ih =>
        intro i b' Q hi hb'
        unfold foldI
        by_cases c : bt (nI M) i = true
        · rw [if_pos c, msk ⟨M, hM⟩ ⟨i, by omega⟩]
          have l := msk_lt ⟨M, hM⟩ ⟨i, by omega⟩
          have s := dfs_best (Wn := Wn) h5 k (hnd Wn S i) (lsN M i) (10 * a + i + 1) b' Q (Nat.lt_of_le_of_lt l hM) hb'
          refine (ih (i + 1) _ _ (by omega) s).cg (fun x r => ⟨fun z => ?_, fun z => ?_⟩)
          · rcases z with (z | z) | ⟨j, h1, h2, h3⟩
            · exact Or.inl z
            · exact Or.inr ⟨i, Nat.le_refl _, by omega, c, z⟩
            · exact Or.inr ⟨j, by omega, h2, h3⟩
          · rcases z with z | ⟨j, h1, h2, h3, h4⟩
            · exact Or.inl (Or.inl z)
            · by_cases e : j = i
              · subst e; exact Or.inl (Or.inr h4)
              · exact Or.inr ⟨j, by omega, h2, h3, h4⟩
        · rw [if_neg c]
          refine (ih (i + 1) _ _ (by omega) hb').cg (fun x r => ⟨fun z => ?_, fun z => ?_⟩)
          · rcases z with z | ⟨j, h1, h2, h3⟩
            · exact Or.inl z
            · exact Or.inr ⟨j, by omega, h2, h3⟩
          · rcases z with z | ⟨j, h1, h2, h3, h4⟩
            · exact Or.inl z
            · by_cases e : j = i
              · subst e; exact absurd h3 c
              · exact Or.inr ⟨j, by omega, h2, h3, h4⟩
    refine (L N 0 _ _ (by omega) (hb.add (x := svd S) (y := a))).cg (fun c r => ⟨fun z => ?_, fun z => ?_⟩)
    · rcases z with (z | z) | ⟨j, h1, h2, h3, h4⟩
      · exact Or.inl z
      · exact Or.inr (Or.inl z)
      · exact Or.inr (Or.inr ⟨j, h2, h3, h4⟩)
    · rcases z with z | z | ⟨j, h2, h3, h4⟩
      · exact Or.inl (Or.inl z)
      · exact Or.inl (Or.inr z)
      · exact Or.inr ⟨j, by omega, h2, h3, h4⟩
theorem pR_lo {Wn : Nat → Int32} {i v k : Nat} : ∀ (m : Nat) (S : St) (M : Nat), m ≤ k → pR Wn (i * 6 ^ k + v) m S M = pR Wn v m S M
  | 0, _, _, _ => rfl
  | m + 1, S, M, h => by
    unfold pR
    rw [sx_lo (by omega)]
    by_cases c : bt (nI M) (sx v m) = true
    · rw [if_pos c, if_pos c]; exact pR_lo m _ _ (by omega)
    · rw [if_neg c, if_neg c]
theorem pR_pc {Wn : Nat → Int32} {v : Nat} : ∀ (m : Nat) (S T : St) (M : Nat), M < 32 → pR Wn v m S M = some T → m ≤ pc M
  | 0, _, _, _, _, _ => Nat.zero_le _
  | m + 1, S, T, M, hM, h => by
    unfold pR at h
    by_cases c : bt (nI M) (sx v m) = true
    · rw [if_pos c] at h
      have h6 := ms_in (N := 5) (by omega) hM (sx_lt v m) c
      have l : lsN M (sx v m) ≤ M := msk_lt ⟨M, hM⟩ ⟨sx v m, h6⟩
      have p : pc (lsN M (sx v m)) + 1 = pc M := msk_pc ⟨M, hM⟩ ⟨sx v m, h6⟩ c
      have := pR_pc m _ T _ (Nat.lt_of_le_of_lt l hM) h
      omega
    · rw [if_neg c] at h; cases h
/-- going down reaches what the rows reach -/
theorem Rch_iff {N : Nat} {Wn : Nat → Int32} (h5 : N ≤ 5) : ∀ (K : Nat) (S : St) (M a c r : Nat), M < 2 ^ N → (Rch N Wn K S M a c r ↔ ∃ k v T, k ≤ K ∧ v < 6 ^ k ∧ pR Wn v k S M = some T ∧ c = svd T ∧ r = tld v k a)
  | 0, S, M, a, c, r, hM => by
    refine ⟨fun z => ⟨0, 0, S, Nat.le_refl _, by omega, rfl, z.1, z.2⟩, fun ⟨k, v, T, h1, h2, h3, h4, h5⟩ => ?_⟩
    have : k = 0 := by omega
    subst this
    cases h3
    exact ⟨h4, h5⟩
  | K + 1, S, M, a, c, r, hM => by
    have p2 := p2_le h5
    refine ⟨fun z => ?_, fun ⟨k, v, T, h1, h2, h3, h4, h6⟩ => ?_⟩
    · rcases z with z | ⟨i, hi, hb, z⟩
      · exact ⟨0, 0, S, by omega, by omega, rfl, z.1, z.2⟩
      · have l := msk_lt ⟨M, by omega⟩ ⟨i, by omega⟩
        obtain ⟨k, v, T, h1, h2, h3, h4, h6⟩ := (Rch_iff h5 K _ _ _ c r (Nat.lt_of_le_of_lt l hM)).mp z
        refine ⟨k + 1, i * 6 ^ k + v, T, by omega, ?_, ?_, h4, ?_⟩
        · rw [Nat.pow_succ]
          have : i * 6 ^ k ≤ 5 * 6 ^ k := Nat.mul_le_mul_right _ (by omega)
          omega
        · unfold pR
          rw [sx_hi (by omega) h2, if_pos hb, pR_lo k _ _ (Nat.le_refl _)]
          exact h3
        · unfold tld
          rw [sx_hi (by omega) h2, tld_lo k _ (Nat.le_refl _)]
          exact h6
    · cases k with
      | zero => cases h3; exact Or.inl ⟨h4, h6⟩
      | succ k =>
        have hp : 0 < 6 ^ k := Nat.pow_pos (by omega)
        obtain ⟨i, u, e, hu⟩ : ∃ i u, v = i * 6 ^ k + u ∧ u < 6 ^ k := ⟨v / 6 ^ k, v % 6 ^ k, by rw [Nat.mul_comm]; exact (Nat.div_add_mod v (6 ^ k)).symm, Nat.mod_lt _ hp⟩
        subst e
        have hi : i < 6 := by
          apply Decidable.byContradiction
          intro q
          have : 6 * 6 ^ k ≤ i * 6 ^ k := Nat.mul_le_mul_right _ (by omega)
          rw [Nat.pow_succ] at h2
          omega
        unfold pR at h3
        rw [sx_hi hi hu] at h3
        unfold tld at h6
        rw [sx_hi hi hu, tld_lo k _ (Nat.le_refl _)] at h6
        by_cases cb : bt (nI M) i = true
        · rw [if_pos cb, pR_lo k _ _ (Nat.le_refl _)] at h3
          have hN := ms_in h5 hM hi cb
          have l := msk_lt ⟨M, by omega⟩ ⟨i, by omega⟩
          exact Or.inr ⟨i, hN, cb, (Rch_iff h5 K _ _ _ c r (Nat.lt_of_le_of_lt l hM)).mpr ⟨k, u, T, by omega, hu, h3, h4, h6⟩⟩
        · rw [if_neg cb] at h3; cases h3
theorem tld_mono : ∀ (k v u a : Nat), v < u → u < 6 ^ k → tld v k a < tld u k a
  | 0, v, u, a, h1, h2 => by omega
  | k + 1, v, u, a, h1, h2 => by
    have hp : 0 < 6 ^ k := Nat.pow_pos (by omega)
    have cut : ∀ v, v < 6 ^ (k + 1) → ∃ i x, v = i * 6 ^ k + x ∧ x < 6 ^ k ∧ i < 6 := by
      intro v hv
      refine ⟨v / 6 ^ k, v % 6 ^ k, by rw [Nat.mul_comm]; exact (Nat.div_add_mod v (6 ^ k)).symm, Nat.mod_lt _ hp, ?_⟩
      rw [Nat.pow_succ] at hv
      exact (Nat.div_lt_iff_lt_mul hp).mpr (by rw [Nat.mul_comm]; exact hv)
    obtain ⟨i, x, e1, hx, hi⟩ := cut v (by omega)
    obtain ⟨j, y, e2, hy, hj⟩ := cut u h2
    subst e1; subst e2
    unfold tld
    rw [sx_hi hi hx, sx_hi hj hy, tld_lo k _ (Nat.le_refl _), tld_lo k _ (Nat.le_refl _)]
    by_cases e : i = j
    · subst e
      exact tld_mono k x y _ (by omega) hy
    · have hij : i < j := by
        apply Decidable.byContradiction
        intro q
        have : (j + 1) * 6 ^ k ≤ i * 6 ^ k := Nat.mul_le_mul_right _ (by omega)
        rw [Nat.succ_mul] at this
        omega
      have t1 := (tld_ge (v := x) k (10 * a + i + 1)).2
      have t2 := (tld_ge (v := y) k (10 * a + j + 1)).1
      have t3 : 10 ^ k * (10 * a + i + 1 + 1) ≤ 10 ^ k * (10 * a + j + 1) := Nat.mul_le_mul_left _ (by omega)
      omega
