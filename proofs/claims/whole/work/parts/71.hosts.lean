/-! ===== two hosts by turns: the class goes down ===== -/
def ln (S : St) : Nat := (S 5).toNatClampNeg
theorem ln_e {N : Nat} {S : St} (h : Iv N S) : S 5 = nI (ln S) ∧ 1 ≤ ln S ∧ ln S ≤ 60 := by
  obtain ⟨l, h1, h2, h3, _⟩ := h
  have : ln S = l := by unfold ln; rw [h3, nx_cl (by omega)]
  rw [this]
  exact ⟨h3, h1, h2⟩
def stp (N : Nat) (K : Nat → Int32) (S : St) (c : Nat) : Option St := if c = 0 then some S else sic N K S (nI (c - 1))
/-- one more who might be better -/
def bup (lg : Bool) (b : Option (Nat × Nat)) (i x : Nat) : Option (Nat × Nat) := match b with
  | none => some (i, x)
  | some p => if (if lg = true then p.2 < x else x < p.2) then some (i, x) else some p
def bcF (lg : Bool) (f : Nat → Nat) : Nat → Nat → Option (Nat × Nat) → Option (Nat × Nat)
  | 0, _, b => b
  | m + 1, i, b => bcF lg f m (i + 1) (if f i = 0 then b else bup lg b i (f i))
def mm (N : Nat) (K : Nat → Int32) : Nat → Bool → St → Nat
  | 0, _, S => ln S
  | k + 1, lg, S => (bcF lg (fun c => match stp N K S c with | none => 0 | some T => mm N K k (!lg) T) 6 0 none).elim 0 (·.2)
/-- the best for whom it is to choose -/
def rt (N : Nat) (K : Nat → Int32) (k : Nat) (lg : Bool) (S : St) : Option (Nat × Nat) := bcF lg (fun c => match stp N K S c with | none => 0 | some T => mm N K k (!lg) T) 6 0 none
theorem mm_s {N : Nat} {K : Nat → Int32} {k : Nat} {lg : Bool} {S : St} : mm N K (k + 1) lg S = (rt N K k lg S).elim 0 (·.2) := rfl
def Bdo (b : Option (Nat × Nat)) : Prop := ∀ p, b = some p → 1 ≤ p.2 ∧ p.2 ≤ 60 ∧ p.1 ≤ 9
theorem Bdo_none : Bdo none := fun p h => by cases h
theorem Bdo_up {lg : Bool} {b : Option (Nat × Nat)} {i x : Nat} (hb : Bdo b) (hi : i ≤ 9) (h1 : 1 ≤ x) (h2 : x ≤ 60) : Bdo (bup lg b i x) := by
  intro p h
  unfold bup at h
  cases b with
  | none => cases h; exact ⟨h1, h2, hi⟩
  | some q =>
    simp only at h
    split at h <;> split at h
    · cases h; exact ⟨h1, h2, hi⟩
    · cases h; exact hb _ rfl
    · cases h; exact ⟨h1, h2, hi⟩
    · cases h; exact hb _ rfl
theorem bup_some {lg : Bool} {b : Option (Nat × Nat)} {i x : Nat} : (bup lg b i x).isSome = true := by
  unfold bup
  cases b with
  | none => rfl
  | some q => simp only; split <;> split <;> rfl
theorem bcF_some {lg : Bool} {f : Nat → Nat} : ∀ (m i : Nat) (b : Option (Nat × Nat)), b.isSome = true → (bcF lg f m i b).isSome = true
  | 0, _, _, h => h
  | m + 1, i, b, h => by
    unfold bcF
    refine bcF_some m _ _ ?_
    split
    · exact h
    · exact bup_some
theorem bcF_bd {lg : Bool} {f : Nat → Nat} (hf : ∀ c, f c ≤ 60) : ∀ (m i : Nat) (b : Option (Nat × Nat)), i + m ≤ 9 → Bdo b → Bdo (bcF lg f m i b)
  | 0, _, _, _, h => h
  | m + 1, i, b, hi, h => by
    unfold bcF
    refine bcF_bd hf m _ _ (by omega) ?_
    split
    · exact h
    · exact Bdo_up h (by omega) (by omega) (hf i)
theorem stp_iv {N : Nat} {K : Nat → Int32} {S T : St} {c : Nat} (h5 : N ≤ 5) (hK : KdA N K) (hS : Iv N S) (h : stp N K S c = some T) : Iv N T := by
  unfold stp at h
  by_cases e : c = 0
  · rw [if_pos e] at h; cases h; exact hS
  · rw [if_neg e] at h; exact sic_iv h5 hK hS h
theorem stp_nm {N : Nat} {K : Nat → Int32} {S T : St} {c : Nat} (h5 : N ≤ 5) (hS : Nm S) (h : stp N K S c = some T) : Nm T := by
  unfold stp at h
  by_cases e : c = 0
  · rw [if_pos e] at h; cases h; exact hS
  · rw [if_neg e] at h; exact sic_nm h5 hS h
theorem mm_bd {N : Nat} {K : Nat → Int32} (h5 : N ≤ 5) (hK : KdA N K) : ∀ (k : Nat) (lg : Bool) (S : St), Iv N S → 1 ≤ mm N K k lg S ∧ mm N K k lg S ≤ 60
  | 0, _, S, h => (ln_e h).2
  | k + 1, lg, S, h => by
    have hf : ∀ c, (match stp N K S c with | none => 0 | some T => mm N K k (!lg) T) ≤ 60 := by
      intro c
      cases e : stp N K S c with
      | none => exact Nat.zero_le _
      | some T => exact (mm_bd h5 hK k _ T (stp_iv h5 hK h e)).2
    have bd := bcF_bd (lg := lg) hf 6 0 none (by omega) Bdo_none
    have m0 := (mm_bd h5 hK k (!lg) S h).1
    have sm : (bcF lg (fun c => match stp N K S c with | none => 0 | some T => mm N K k (!lg) T) 6 0 none).isSome = true := by
      unfold bcF
      refine bcF_some _ _ _ ?_
      rw [show stp N K S 0 = some S from rfl]
      dsimp only
      rw [if_neg (show ¬ mm N K k (!lg) S = 0 by omega)]
      exact bup_some
    unfold mm
    cases e : bcF lg (fun c => match stp N K S c with | none => 0 | some T => mm N K k (!lg) T) 6 0 none with
    | none => rw [e] at sm; cases sm
    | some p =>
      have := bd p e
      exact ⟨this.1, this.2.1⟩
theorem rt_some {N : Nat} {K : Nat → Int32} (h5 : N ≤ 5) (hK : KdA N K) {k : Nat} {lg : Bool} {S : St} (h : Iv N S) : ∃ p, rt N K k lg S = some p := by
  have m0 := (mm_bd h5 hK k (!lg) S h).1
  have sm : (rt N K k lg S).isSome = true := by
    unfold rt bcF
    refine bcF_some _ _ _ ?_
    rw [show stp N K S 0 = some S from rfl]
    dsimp only
    rw [if_neg (show ¬ mm N K k (!lg) S = 0 by omega)]
    exact bup_some
  exact Option.isSome_iff_exists.mp sm
/-- those who are not there make no difference -/
theorem bcF_cut {lg : Bool} {f : Nat → Nat} : ∀ (q i : Nat) (b : Option (Nat × Nat)), (∀ j, i ≤ j → j < i + q → f j = 0) → bcF lg f q i b = b
  | 0, _, _, _ => rfl
  | q + 1, i, b, h => by
    unfold bcF
    rw [if_pos (h i (Nat.le_refl _) (by omega))]
    exact bcF_cut q (i + 1) b (fun j h1 h2 => h j (by omega) (by omega))
theorem bcF_app {lg : Bool} {f : Nat → Nat} : ∀ (m q i : Nat) (b : Option (Nat × Nat)), bcF lg f (m + q) i b = bcF lg f q (i + m) (bcF lg f m i b)
  | 0, q, i, b => by rw [Nat.zero_add]; rfl
  | m + 1, q, i, b => by
    rw [show m + 1 + q = (m + q) + 1 by omega]
    conv => lhs; unfold bcF
    conv => rhs; rw [show bcF lg f (m + 1) i b = bcF lg f m (i + 1) (if f i = 0 then b else bup lg b i (f i)) from rfl]
    rw [bcF_app m q (i + 1) _, show i + 1 + m = i + (m + 1) by omega]
theorem rt_cut {N : Nat} {K : Nat → Int32} {k : Nat} {lg : Bool} {S : St} (h5 : N ≤ 5) : bcF lg (fun c => match stp N K S c with | none => 0 | some T => mm N K k (!lg) T) (N + 1) 0 none = rt N K k lg S := by
  unfold rt
  have := bcF_app (lg := lg) (f := fun c => match stp N K S c with | none => 0 | some T => mm N K k (!lg) T) (N + 1) (5 - N) 0 none
  rw [show N + 1 + (5 - N) = 6 by omega] at this
  rw [this, bcF_cut (5 - N) (0 + (N + 1))]
  intro j h1 h2
  have : stp N K S j = none := by
    unfold stp
    rw [if_neg (by omega)]
    exact sic_out h5 (by omega) (by omega)
  simp only [this]
def eb : Option (Nat × Nat) → Int32
  | none => -9
  | some p => nI p.2
/-- whom the first host makes speak -/
def BO (d : Nat) (u v : pm_W) (b : Option (Nat × Nat)) : Prop := (d = 0 → ∀ p, b = some p → v.1 16 0 4 = nI p.1) ∧ (1 ≤ d → v.1 16 0 4 = u.1 16 0 4)
theorem aft {α : Type} (g : pm_W → Int32 → Option α) {u v : pm_W} {b : Option (Nat × Nat)} {lg : Bool} {x i d : Nat} (hb : Bdo b) (hx : x ≤ 60) (hd : d ≤ 5) (h1 : 1 ≤ d → v.1 16 0 4 = u.1 16 0 4) (h0 : d = 0 → ∀ p, b = some p → v.1 16 0 4 = nI p.1) : ∃ v', (if eb b = -9 then pm_wlet (pm_setI v 16 0 4 (if nI d = 0 then nI i else v.1 16 0 4)) fun W => g W (nI x) else if bi lg = 0 then (if eb b ≤ nI x then g v (eb b) else pm_wlet (pm_setI v 16 0 4 (if nI d = 0 then nI i else v.1 16 0 4)) fun W => g W (nI x)) else if nI x ≤ eb b then g v (eb b) else pm_wlet (pm_setI v 16 0 4 (if nI d = 0 then nI i else v.1 16 0 4)) fun W => g W (nI x)) = g v' (eb (bup lg b i x)) ∧ (∀ a y z, a ≠ 16 → v'.1 a y z = v.1 a y z) ∧ v'.2 = v.2 ∧ BO d u v' (bup lg b i x) := by
  have S : (∀ a y z, a ≠ 16 → (pm_setI v 16 0 4 (if nI d = 0 then nI i else v.1 16 0 4)).1 a y z = v.1 a y z) ∧ (pm_setI v 16 0 4 (if nI d = 0 then nI i else v.1 16 0 4)).2 = v.2 ∧ BO d u (pm_setI v 16 0 4 (if nI d = 0 then nI i else v.1 16 0 4)) (some (i, x)) := by
    refine ⟨fun a y z h => setI_ne (by omega), rfl, fun h p hp => ?_, fun h => ?_⟩
    · cases hp
      rw [pm_gI_s, if_pos (by rw [h]; rfl)]
    · rw [pm_gI_s, if_neg (by rw [show (0 : Int32) = nI 0 from rfl, nx_eq (by omega) (by omega)]; omega)]
      exact h1 h
  simp only [wlet_e]
  cases b with
  | none =>
    rw [if_pos (show eb none = -9 from rfl)]
    exact ⟨_, rfl, S⟩
  | some p =>
    have bp := hb p rfl
    have K : BO d u v (some p) := ⟨h0, h1⟩
    rw [show eb (some p) = nI p.2 from rfl, if_neg (enc_ne9 (by omega))]
    cases lg with
    | false =>
      rw [if_pos (show bi false = 0 from rfl), show bup false (some p) i x = if x < p.2 then some (i, x) else some p from rfl]
      by_cases c : x < p.2
      · rw [if_neg (by rw [nx_le (by omega) (by omega)]; omega), if_pos c]
        exact ⟨_, rfl, S⟩
      · rw [if_pos (by rw [nx_le (by omega) (by omega)]; omega), if_neg c]
        exact ⟨v, rfl, fun _ _ _ _ => rfl, rfl, K⟩
    | true =>
      rw [if_neg (show ¬ bi true = 0 by decide), show bup true (some p) i x = if p.2 < x then some (i, x) else some p from rfl]
      by_cases c : p.2 < x
      · rw [if_neg (by rw [nx_le (by omega) (by omega)]; omega), if_pos c]
        exact ⟨_, rfl, S⟩
      · rw [if_pos (by rw [nx_le (by omega) (by omega)]; omega), if_neg c]
        exact ⟨v, rfl, fun _ _ _ _ => rfl, rfl, K⟩
theorem par : ∀ d : Fin 6, (if (nI d.val - nI d.val / 2 * 2) = 0 then 1 else 0 : Int32) = bi (decide (d.val % 2 = 0)) := by decide +kernel
theorem Fr_16 {u v v' : pm_W} (h : Fr u v) (h1 : ∀ a y z, a ≠ 16 → v'.1 a y z = v.1 a y z) (h2 : v'.2 = v.2) : Fr u v' := ⟨fun a b c s => by rw [h1 a b c (by unfold sFr at s; omega)]; exact h.1 a b c s, h2.trans h.2⟩
