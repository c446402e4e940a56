/-! ===== rows for decompiled methods ===== -/
def pm_inb (x : Int32) (n : Nat) : Bool := !(decide (x < 0)) && decide (x.toNatClampNeg < n)
def pm_nz (x : Int32) : Bool := !(decide (x = 0))
def pm_isb (x : Int32) : Bool := decide (x = 0) || decide (x = 1)
theorem pm_inb_in {x : Int32} {n : Nat} (h : pm_inb x n = true) : vp_in x n := by
  unfold pm_inb at h
  simp only [Bool.and_eq_true, Bool.not_eq_true', decide_eq_false_iff_not, decide_eq_true_eq] at h
  rintro (z | z)
  · exact h.1 z
  · omega
theorem pm_nz_ne {x : Int32} (h : pm_nz x = true) : ¬ x = 0 := by
  unfold pm_nz at h
  simpa using h
theorem pm_isb_nar {x : Int32} (h : pm_isb x = true) : narrow .boolean (.int x) = .int x := by
  unfold pm_isb at h
  simp only [Bool.or_eq_true, decide_eq_true_eq] at h
  rcases h with rfl | rfl <;> rfl
theorem pm_itn {α : Type} {c : Prop} [Decidable c] {a : Option α} {r : α} (h : (if c then a else none) = some r) : c ∧ a = some r := by
  by_cases z : c
  · rw [if_pos z] at h; exact ⟨z, h⟩
  · rw [if_neg z] at h; cases h
def pm_wlet {α : Type} (w : pm_W) (f : pm_W → α) : α := f w
theorem pm_wlet_un {α : Type} {w : pm_W} {f : pm_W → Option α} {r : α} (h : pm_wlet w f = some r) : f w = some r := h
