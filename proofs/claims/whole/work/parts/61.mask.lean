/-! ===== the set of those who hear, as a number ===== -/
theorem or_in {N m g : Nat} (h5 : N ≤ 5) (hm : m < 2 ^ N) (hg : g < N) : (nI m ||| ((1 : Int32) <<< (nI g &&& 31))) = nI (m ||| 2 ^ g) ∧ (m ||| 2 ^ g) < 2 ^ N := by
  have p2 := p2_le h5
  refine ⟨(or32 ⟨m, by omega⟩ ⟨g, by omega⟩).1, Nat.or_lt_two_pow hm (Nat.pow_lt_pow_right (by omega) hg)⟩
theorem pc_all : ∀ N : Fin 6, ∀ m : Fin 32, m.val < 2 ^ N.val → (pc m.val = N.val ↔ m.val = 2 ^ N.val - 1) := by decide +kernel
