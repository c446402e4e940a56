/-! ===== passes: the class goes down ===== -/
def updO : Option (Nat × Nat) → Nat × Nat → Option (Nat × Nat)
  | none, x => some x
  | some b, x => if b.1 < x.1 then some x else if x.1 = b.1 then (if b.2 ≤ x.2 then some b else some x) else some b
def lss (m : Int32) (i : Nat) : Int32 := m &&& (((1 : Int32) <<< (nI i &&& 31)) ^^^ (-1))
/-- how many are served -/
def svd (S : St) : Nat := pc (S 8).toNatClampNeg
def foldI (f : Nat → Option (Nat × Nat) → Option (Nat × Nat)) : Nat → Nat → Option (Nat × Nat) → Option (Nat × Nat)
  | 0, _, b => b
  | m + 1, i, b => foldI f m (i + 1) (f i b)
def dfs (N : Nat) (Wn : Nat → Int32) : Nat → St → Int32 → Nat → Option (Nat × Nat) → Option (Nat × Nat)
  | 0, S, _, a, b => updO b (svd S, a)
  | k + 1, S, m, a, b => foldI (fun i b => if bt m i = true then dfs N Wn k (hnd Wn S i) (lss m i) (10 * a + i + 1) b else b) N 0 (updO b (svd S, a))
def BE (v : pm_W) : Option (Nat × Nat) → Prop
  | none => v.1 16 0 2 = -1 ∧ v.1 16 0 3 = 0
  | some b => b.1 ≤ 5 ∧ b.2 < 100000 ∧ v.1 16 0 2 = nI b.1 ∧ v.1 16 0 3 = nI b.2
theorem take_e (F : Nat) {v : pm_W} {b : Option (Nat × Nat)} {c r : Nat} (hb : BE v b) (hc : c ≤ 5) (hr : r < 100000) : ∃ v', f_X3_takePasses F v (nI c) (nI r) = some v' ∧ BE v' (updO b (c, r)) ∧ (∀ x y z, x ≠ 16 → v'.1 x y z = v.1 x y z) ∧ v'.2 = v.2 := by
  unfold f_X3_takePasses
  have set : BE (pm_setI (pm_setI v 16 0 2 (nI c)) 16 0 3 (nI r)) (some (c, r)) := ⟨hc, hr, by rw [setI_ne (by omega), pm_gI_s], pm_gI_s⟩
  have oth : ∀ x y z, x ≠ 16 → (pm_setI (pm_setI v 16 0 2 (nI c)) 16 0 3 (nI r)).1 x y z = v.1 x y z := fun x y z h => by rw [setI_ne (by omega), setI_ne (by omega)]
  cases b with
  | none =>
    obtain ⟨b1, b2⟩ := hb
    rw [b1, if_pos (Int32.lt_of_lt_of_le (by decide) (Int32.not_lt.mp (nI_pos (n := c) (by omega)))), wlet_e, wlet_e]
    exact ⟨_, rfl, set, oth, rfl⟩
  | some p =>
    obtain ⟨b0, b00, b1, b2⟩ := hb
    rw [show updO (some p) (c, r) = if p.1 < c then some (c, r) else if c = p.1 then (if p.2 ≤ r then some p else some (c, r)) else some p from rfl, b1, b2]
    by_cases h1 : p.1 < c
    · rw [if_pos (by rw [nx_lt (by omega) (by omega)]; exact h1), if_pos h1, wlet_e, wlet_e]
      exact ⟨_, rfl, set, oth, rfl⟩
    · rw [if_neg (by rw [nx_lt (by omega) (by omega)]; exact h1), if_neg h1]
      by_cases h2 : c = p.1
      · rw [if_pos (by rw [h2]), if_pos h2]
        by_cases h3 : p.2 ≤ r
        · rw [if_pos (by rw [nx_le (by omega) (by omega)]; exact h3), if_pos h3]
          exact ⟨v, rfl, ⟨b0, b00, b1, b2⟩, fun _ _ _ _ => rfl, rfl⟩
        · rw [if_neg (by rw [nx_le (by omega) (by omega)]; exact h3), if_neg h3, wlet_e, wlet_e]
          exact ⟨_, rfl, set, oth, rfl⟩
      · rw [if_neg (by rw [nx_eq (by omega) (by omega)]; exact h2), if_neg h2]
        exact ⟨v, rfl, ⟨b0, b00, b1, b2⟩, fun _ _ _ _ => rfl, rfl⟩
