/-! ===== the first row, by going down and by counting up ===== -/
def fstI (f : Nat → Option Nat) : Nat → Nat → Option Nat
  | 0, _ => none
  | m + 1, i => match f i with
    | some r => some r
    | none => fstI f m (i + 1)
def srch (N : Nat) (K : Nat → Int32) (rch : St → Bool) : Nat → St → Nat → Option Nat
  | 0, S, a => if rch S = true then some a else none
  | k + 1, S, a => fstI (fun i => match sic N K S (nI i) with | none => none | some T => srch N K rch k T (10 * a + i + 1)) N 0
/-- a row said to its end -/
def rnR (N : Nat) (K : Nat → Int32) (v : Nat) : Nat → St → Option St
  | 0, S => some S
  | m + 1, S => match sic N K S (nI (sx v m)) with
    | none => none
    | some T => rnR N K v m T
def okR (N : Nat) (K : Nat → Int32) (rch : St → Bool) (k : Nat) (S : St) (v : Nat) : Bool := match rnR N K v k S with
  | none => false
  | some T => rch T
def fv (p : Nat → Bool) : Nat → Nat → Option Nat
  | 0, _ => none
  | m + 1, v => if p v = true then some v else fv p m (v + 1)
theorem fv_split (p : Nat → Bool) : ∀ (a b v : Nat), fv p (a + b) v = match fv p a v with | some r => some r | none => fv p b (v + a)
  | 0, b, v => by rw [Nat.zero_add]; rfl
  | a + 1, b, v => by
    rw [show a + 1 + b = (a + b) + 1 by omega]
    have e1 : ∀ q, fv p (q + 1) v = if p v = true then some v else fv p q (v + 1) := fun q => rfl
    rw [e1, e1]
    by_cases h : p v = true
    · rw [if_pos h, if_pos h]
    · rw [if_neg h, if_neg h, fv_split p a b (v + 1), show v + 1 + a = v + (a + 1) by omega]
theorem fv_cg {p q : Nat → Bool} {c : Nat} : ∀ (m v u : Nat), (∀ j, j < m → p (v + j) = q (u + j)) → v = u + c → fv p m v = (fv q m u).map (· + c)
  | 0, _, _, _, _ => rfl
  | m + 1, v, u, h, e => by
    unfold fv
    have h0 := h 0 (by omega)
    rw [Nat.add_zero, Nat.add_zero] at h0
    rw [h0]
    by_cases d : q u = true
    · rw [if_pos d, if_pos d, e]; rfl
    · rw [if_neg d, if_neg d]
      exact fv_cg m (v + 1) (u + 1) (fun j hj => by rw [show v + 1 + j = v + (j + 1) by omega, show u + 1 + j = u + (j + 1) by omega]; exact h (j + 1) (by omega)) (by omega)
theorem fv_none {p : Nat → Bool} : ∀ (m v : Nat), (∀ j, j < m → p (v + j) = false) → fv p m v = none
  | 0, _, _ => rfl
  | m + 1, v, h => by
    unfold fv
    have h0 := h 0 (by omega)
    rw [Nat.add_zero] at h0
    rw [if_neg (by rw [h0]; decide)]
    exact fv_none m (v + 1) (fun j hj => by rw [show v + 1 + j = v + (j + 1) by omega]; exact h (j + 1) (by omega))
theorem fv_lt {p : Nat → Bool} {r : Nat} : ∀ (m v : Nat), fv p m v = some r → v ≤ r ∧ r < v + m ∧ p r = true
  | 0, _, h => by cases h
  | m + 1, v, h => by
    unfold fv at h
    by_cases d : p v = true
    · rw [if_pos d] at h; cases h; exact ⟨by omega, by omega, d⟩
    · rw [if_neg d] at h
      have := fv_lt m (v + 1) h
      exact ⟨by omega, by omega, this.2.2⟩
theorem sx_hi {i v k : Nat} (hi : i < 6) (hv : v < 6 ^ k) : sx (i * 6 ^ k + v) k = i := by
  unfold sx
  have hp : 0 < 6 ^ k := Nat.pow_pos (by omega)
  rw [Nat.mul_comm, Nat.mul_add_div hp, Nat.div_eq_of_lt hv, Nat.add_zero]
  exact Nat.mod_eq_of_lt hi
theorem sx_lo {i v k m : Nat} (hm : m < k) : sx (i * 6 ^ k + v) m = sx v m := by
  unfold sx
  obtain ⟨d, rfl⟩ : ∃ d, k = m + 1 + d := ⟨k - (m + 1), by omega⟩
  have hp : 0 < 6 ^ m := Nat.pow_pos (by omega)
  rw [Nat.pow_add, Nat.pow_succ, show i * (6 ^ m * 6 * 6 ^ d) = 6 ^ m * (6 * (i * 6 ^ d)) by
    rw [Nat.mul_assoc, Nat.mul_left_comm, Nat.mul_left_comm i 6], Nat.mul_add_div hp, Nat.mul_add_mod]
theorem rnR_lo {N : Nat} {K : Nat → Int32} {i v k : Nat} : ∀ (m : Nat) (S : St), m ≤ k → rnR N K (i * 6 ^ k + v) m S = rnR N K v m S
  | 0, _, _ => rfl
  | m + 1, S, h => by
    unfold rnR
    rw [sx_lo (by omega)]
    cases sic N K S (nI (sx v m)) with
    | none => rfl
    | some T => exact rnR_lo m T (by omega)
theorem tld_lo {i v k : Nat} : ∀ (m a : Nat), m ≤ k → tld (i * 6 ^ k + v) m a = tld v m a
  | 0, _, _ => rfl
  | m + 1, a, h => by
    unfold tld
    rw [sx_lo (by omega)]
    exact tld_lo m _ (by omega)
theorem okR_s {N : Nat} {K : Nat → Int32} {rch : St → Bool} {k i v : Nat} {S : St} (hi : i < 6) (hv : v < 6 ^ k) : okR N K rch (k + 1) S (i * 6 ^ k + v) = match sic N K S (nI i) with | none => false | some T => okR N K rch k T v := by
  unfold okR
  conv => lhs; unfold rnR
  rw [sx_hi hi hv]
  cases sic N K S (nI i) with
  | none => rfl
  | some T =>
    show (match rnR N K (i * 6 ^ k + v) k T with | none => false | some T => rch T) = _
    rw [rnR_lo k T (Nat.le_refl _)]
theorem sic_out {N : Nat} {K : Nat → Int32} {S : St} {i : Nat} (hN : N ≤ 5) (hi : N ≤ i) (h9 : i < 100) : sic N K S (nI i) = none := by
  unfold sic
  cases h : fnd N (nI i) with
  | none => rfl
  | some g =>
    have := fnd_some h
    rw [nx_eq (by omega) (by omega)] at this
    omega
/-- going down finds what counting up finds -/
theorem srch_fv {N : Nat} {K : Nat → Int32} {rch : St → Bool} (hN : N ≤ 5) : ∀ (k : Nat) (S : St) (a : Nat), srch N K rch k S a = (fv (okR N K rch k S) (6 ^ k) 0).map (fun v => tld v k a)
  | 0, S, a => by
    show (if rch S = true then some a else none) = Option.map (fun v => tld v 0 a) (if rch S = true then some 0 else none)
    by_cases h : rch S = true
    · rw [if_pos h, if_pos h]; rfl
    · rw [if_neg h, if_neg h]; rfl
  | k + 1, S, a => by
    have blk : ∀ i, i < 6 → (fv (okR N K rch (k + 1) S) (6 ^ k) (i * 6 ^ k)).map (fun v => tld v (k + 1) a) = match sic N K S (nI i) with | none => none | some T => srch N K rch k T (10 * a + i + 1) := by
      intro i hi
      cases h : sic N K S (nI i) with
      | none =>
        rw [fv_none (6 ^ k) (i * 6 ^ k) (fun j hj => by rw [okR_s hi hj, h])]; rfl
      | some T =>
        rw [fv_cg (q := okR N K rch k T) (c := i * 6 ^ k) (6 ^ k) (i * 6 ^ k) 0 (fun j hj => by rw [okR_s hi hj, h, Nat.zero_add]) (by omega), Option.map_map]
        show _ = srch N K rch k T (10 * a + i + 1)
        rw [srch_fv hN k T (10 * a + i + 1)]
        cases e : fv (okR N K rch k T) (6 ^ k) 0 with
        | none => rfl
        | some v =>
          have hv := fv_lt _ _ e
          show some (tld (v + i * 6 ^ k) (k + 1) a) = some (tld v k (10 * a + i + 1))
          congr 1
          rw [Nat.add_comm]
          conv => lhs; unfold tld
          rw [sx_hi hi (by omega), tld_lo k _ (Nat.le_refl _)]
    have go : ∀ (m i : Nat), i + m = 6 → (fv (okR N K rch (k + 1) S) (m * 6 ^ k) (i * 6 ^ k)).map (fun v => tld v (k + 1) a) = fstI (fun i => match sic N K S (nI i) with | none => none | some T => srch N K rch k T (10 * a + i + 1)) m i := by
      intro m
      induction m with
      | zero => intro i hi; rw [Nat.zero_mul]; rfl
      | succ m ih =>
        intro i hi
        rw [show (m + 1) * 6 ^ k = 6 ^ k + m * 6 ^ k by rw [Nat.succ_mul, Nat.add_comm], fv_split]
        have b := blk i (by omega)
        conv => rhs; unfold fstI
        rw [← b]
        cases fv (okR N K rch (k + 1) S) (6 ^ k) (i * 6 ^ k) with
        | some r => rfl
        | none =>
          have := ih (i + 1) (by omega)
          rw [Nat.succ_mul] at this
          exact this
    have cut : ∀ (m j i : Nat), i + m = N → fstI (fun i => match sic N K S (nI i) with | none => none | some T => srch N K rch k T (10 * a + i + 1)) (m + j) i = fstI (fun i => match sic N K S (nI i) with | none => none | some T => srch N K rch k T (10 * a + i + 1)) m i ∨ 90 < i + m + j := by
      intro m
      induction m with
      | zero =>
        intro j
        induction j with
        | zero => intro i hi; exact Or.inl rfl
        | succ j ih =>
          intro i hi
          by_cases big : 90 < i + 0 + (j + 1)
          · exact Or.inr big
          · refine Or.inl ?_
            have all : ∀ (q i : Nat), N ≤ i → i + q < 95 → fstI (fun i => match sic N K S (nI i) with | none => none | some T => srch N K rch k T (10 * a + i + 1)) q i = none := by
              intro q
              induction q with
              | zero => intro i _ _; rfl
              | succ q iq =>
                intro i h1 h2
                unfold fstI
                rw [sic_out hN h1 (by omega)]
                exact iq (i + 1) (by omega) (by omega)
            rw [all (0 + (j + 1)) i (by omega) (by omega)]; rfl
      | succ m ih =>
        intro j i hi
        rcases ih j (i + 1) (by omega) with h | h
        · refine Or.inl ?_
          rw [show m + 1 + j = (m + j) + 1 by omega]
          conv => lhs; unfold fstI
          conv => rhs; unfold fstI
          rw [h]
        · exact Or.inr (by omega)
    have g := go 6 0 (by omega)
    rw [Nat.zero_mul] at g
    conv => lhs; unfold srch
    rw [show 6 ^ (k + 1) = 6 * 6 ^ k by rw [Nat.pow_succ, Nat.mul_comm], g]
    rcases cut N (6 - N) 0 (by omega) with h | h
    · rw [show N + (6 - N) = 6 by omega] at h
      exact h.symm
    · omega
