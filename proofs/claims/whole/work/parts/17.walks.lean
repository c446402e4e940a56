/-! ===== rows for walks ===== -/
theorem pm_ift {K : pm_C} {c : List pm_Op} {i i2 i3 : Nat} {ls ls2 : pm_L} {st st2 : List pm_V} {w w2 : pm_W} {Q : pm_Q} {P : Prop} [Decidable P] (k : Nat) (h : ∀ F : pm_K, (if P then F i2 ls2 st2 w2 else F i3 ls2 st2 w2) → pm_Gn K c Q F k i ls st w) (hp : P) (ht : pm_Gx K c i2 ls2 st2 w2 Q) : pm_Gx K c i ls st w Q := pm_if k h (fun _ => ht) (fun z => absurd hp z)
theorem pm_iff {K : pm_C} {c : List pm_Op} {i i2 i3 : Nat} {ls ls2 : pm_L} {st st2 : List pm_V} {w w2 : pm_W} {Q : pm_Q} {P : Prop} [Decidable P] (k : Nat) (h : ∀ F : pm_K, (if P then F i2 ls2 st2 w2 else F i3 ls2 st2 w2) → pm_Gn K c Q F k i ls st w) (hp : ¬ P) (hf : pm_Gx K c i3 ls2 st2 w2 Q) : pm_Gx K c i ls st w Q := pm_if k h (fun z => absurd z hp) (fun _ => hf)
def pm_Gs (K : pm_C) (c : List pm_Op) (x : Int32) (d : Nat) (cs : List (Int32 × Nat)) (ls : pm_L) (st : List pm_V) (w : pm_W) (Q : pm_Q) : Prop := ∀ F : pm_K, (∀ n i ls st w, pm_Gn K c Q F n i ls st w → F i ls st w) → (∀ i ls ls2 st w, pm_le ls ls2 → F i ls st w → F i ls2 st w) → pm_sw x (fun g => F g ls st w) d cs
theorem pm_swx {K : pm_C} {c : List pm_Op} {i : Nat} {ls ls2 : pm_L} {st st2 : List pm_V} {w w2 : pm_W} {Q : pm_Q} {x : Int32} {d : Nat} {cs : List (Int32 × Nat)} (k : Nat) (h : ∀ F : pm_K, pm_sw x (fun g => F g ls2 st2 w2) d cs → pm_Gn K c Q F k i ls st w) (g : pm_Gs K c x d cs ls2 st2 w2 Q) : pm_Gx K c i ls st w Q := fun F hF hM => hF k i ls st w (h F (g F hF hM))
theorem pm_swc {K : pm_C} {c : List pm_Op} {ls : pm_L} {st : List pm_V} {w : pm_W} {Q : pm_Q} {x v : Int32} {d g : Nat} {cs : List (Int32 × Nat)} (ht : x = v → pm_Gx K c g ls st w Q) (hf : ¬ x = v → pm_Gs K c x d cs ls st w Q) : pm_Gs K c x d ((v, g) :: cs) ls st w Q := by
  intro F hF hM
  unfold pm_sw
  by_cases p : x = v
  · rw [if_pos p]; exact ht p F hF hM
  · rw [if_neg p]; exact hf p F hF hM
theorem pm_swd {K : pm_C} {c : List pm_Op} {ls : pm_L} {st : List pm_V} {w : pm_W} {Q : pm_Q} {x : Int32} {d : Nat} (h : pm_Gx K c d ls st w Q) : pm_Gs K c x d [] ls st w Q := h
theorem pm_gI_s {w : pm_W} {k j f : Nat} {x : Int32} : (pm_setI w k j f x).1 k j f = x := by simp [pm_setI]
theorem pm_gI_k {w : pm_W} {k j f a b c : Nat} {x : Int32} (h : a ≠ k) : (pm_setI w k j f x).1 a b c = w.1 a b c := by simp [pm_setI, h]
theorem pm_gI_f {w : pm_W} {k j f a b c : Nat} {x : Int32} (h : c ≠ f) : (pm_setI w k j f x).1 a b c = w.1 a b c := by simp [pm_setI, h]
theorem pm_gI_j {w : pm_W} {k j f a b c : Nat} {x : Int32} (h : b ≠ j) : (pm_setI w k j f x).1 a b c = w.1 a b c := by simp [pm_setI, h]
theorem pm_dep {d k : Nat} (h : k + 1 ≤ d) : ∃ d2, d = d2 + 1 ∧ k ≤ d2 := ⟨d - 1, by omega, by omega⟩
def bi (b : Bool) : Int32 := cond b 1 0
theorem bi_nar (b : Bool) : narrow .boolean (.int (bi b)) = .int (bi b) := by cases b <;> rfl
theorem bi_0 {b : Bool} : bi b = 0 ↔ b = false := by cases b <;> decide
theorem bi_1 {b : Bool} : ¬ bi b = 0 ↔ b = true := by cases b <;> decide
set_option maxRecDepth 20000 in
theorem pm_codes_len : pm_codes.length = 156 := rfl
theorem pm_start {y d nL : Nat} {co : List pm_Op} {as : List pm_V} {w w1 : pm_W} {r : Option pm_V} (hy : y < 156) (hc : pm_nth [] pm_codes y = co) (hn : (pm_m y).2.2.1 = nL) (hf : (pm_ents as).length ≤ nL) (h : pm_Gx (RT d) co 0 (pm_ent nL as) [] w (fun r1 w2 => r1 = r ∧ w2 = w1)) : RT (d + 1) y as w r w1 := by
  subst hc
  subst hn
  exact ⟨by rw [pm_codes_len]; exact hy, hf, h⟩
