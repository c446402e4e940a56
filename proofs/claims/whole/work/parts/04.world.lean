/-! ===== the pure world in the machine's heap ===== -/
def pm_tv (ad : Nat → Nat → Nat) : pm_V → Value
  | .inl x => .int x
  | .inr (.inl x) => .long x
  | .inr (.inr q) => .ref (ad q.1 q.2)
def pm_keys : List (Nat × Nat) := (List.range 36).flatMap (fun k => (List.range (pm_cnt k)).map (fun j => (k, j)))
def pm_fs (ad : Nat → Nat → Nat) (w : pm_W) (k j : Nat) : List Value := (List.range (pm_ftl k).length).map (fun f => pm_tv ad (pm_fv w k j f))
abbrev pm_Cs : Type := ClassId × (ClassId × ClassId)
def pm_cellt (ad : Nat → Nat → Nat) (cs : pm_Cs) (w : pm_W) (k j : Nat) : Nat → va_E
  | 0 => .inr (pm_kc k - 1, pm_fs ad w k j)
  | 1 => .inl (cs.1, pm_al k, .inl (fun n => w.1 k j n))
  | 2 => .inl (cs.2.1, pm_al k, .inl (fun n => w.1 k j n))
  | _ => .inl (cs.2.2, pm_al k, .inr (.inr (.inr (.inr (fun n => some (ad 7 (pm_ri w k n)))))))
def pm_cell (ad : Nat → Nat → Nat) (cs : pm_Cs) (w : pm_W) (k j : Nat) : va_E := pm_cellt ad cs w k j (pm_at k)
def pm_wl (ad : Nat → Nat → Nat) (cs : pm_Cs) (w : pm_W) : va_W := pm_keys.map (fun q => (ad q.1 q.2, pm_cell ad cs w q.1 q.2))
def pm_okv : pm_V → Prop
  | .inr (.inr q) => q.2 < pm_cnt q.1
  | _ => True
def pm_okS (st : List pm_V) : Prop := ∀ v ∈ st, pm_okv v
def pm_okL (ls : pm_L) : Prop := ∀ v, some v ∈ ls → pm_okv v
def pm_okR (r : Option pm_V) : Prop := ∀ v, r = some v → pm_okv v
def pm_wok (w : pm_W) : Prop := ∀ n, n < 14 → w.2.2 n < 23
theorem pm_key_iff (k j : Nat) : (k, j) ∈ pm_keys ↔ k < 36 ∧ j < pm_cnt k := by
  simp [pm_keys, List.mem_flatMap, List.mem_map, List.mem_range]
theorem pm_keys_nd : pm_keys.Nodup := by decide +kernel
theorem pm_inj_pos {a b : Nat} {q : Nat × Nat} (ha : pm_keys[a]? = some q) (hb : pm_keys[b]? = some q) : a = b := by
  obtain ⟨h1, e1⟩ := List.getElem?_eq_some_iff.mp ha
  exact (List.getElem?_inj h1 pm_keys_nd).mp (ha.trans hb.symm)
theorem pm_wl_at {ad : Nat → Nat → Nat} {cs : pm_Cs} {w : pm_W} {k j : Nat} (hk : k < 36) (hj : j < pm_cnt k) : ∃ q0 : Nat, pm_keys[q0]? = some (k, j) ∧ (pm_wl ad cs w)[q0]? = some (ad k j, pm_cell ad cs w k j) := by
  obtain ⟨q0, h⟩ := List.getElem?_of_mem ((pm_key_iff k j).mpr ⟨hk, hj⟩)
  exact ⟨q0, h, by simp [pm_wl, List.getElem?_map, h]⟩
/-- one cell changes -/
theorem pm_wl_set {ad : Nat → Nat → Nat} {cs : pm_Cs} {w w2 : pm_W} {k j q0 : Nat} (hq : pm_keys[q0]? = some (k, j)) (ho : ∀ a b, b < pm_cnt a → ¬ (a = k ∧ b = j) → pm_cell ad cs w2 a b = pm_cell ad cs w a b) : (pm_wl ad cs w).set q0 (ad k j, pm_cell ad cs w2 k j) = pm_wl ad cs w2 := by
  apply List.ext_getElem?
  intro n
  have hl : q0 < (pm_wl ad cs w).length := by
    have := (List.getElem?_eq_some_iff.mp hq).1
    simpa [pm_wl] using this
  by_cases hn : n = q0
  · subst hn
    rw [List.getElem?_set_self hl]
    simp [pm_wl, List.getElem?_map, hq]
  · rw [List.getElem?_set_ne (Ne.symm hn)]
    simp only [pm_wl, List.getElem?_map]
    cases hk : pm_keys[n]? with
    | none => rfl
    | some q =>
      obtain ⟨a, b⟩ := q
      have hne : ¬ (a = k ∧ b = j) := by
        rintro ⟨rfl, rfl⟩
        exact hn (pm_inj_pos hk hq)
      simp [ho a b ((pm_key_iff a b).mp (List.mem_of_getElem? hk)).2 hne]
def pm_GA (ad : Nat → Nat → Nat) (sz : Nat) : Prop := (∀ a ∈ pm_keys, ∀ b ∈ pm_keys, ad a.1 a.2 = ad b.1 b.2 → a = b) ∧ ∀ a ∈ pm_keys, sz ≤ ad a.1 a.2
def pm_A (sz : Nat) : Nat → Prop := fun q => sz ≤ q
theorem pm_wl_D {ad : Nat → Nat → Nat} {sz : Nat} {cs : pm_Cs} (G : pm_GA ad sz) (w : pm_W) : va_D (pm_A sz) (pm_wl ad cs w) := by
  have key : ∀ (n : Nat) (x : Nat × va_E), (pm_wl ad cs w)[n]? = some x → ∃ q, pm_keys[n]? = some q ∧ x.1 = ad q.1 q.2 := by
    intro n x h
    simp only [pm_wl, List.getElem?_map] at h
    cases hk : pm_keys[n]? with
    | none => rw [hk] at h; cases h
    | some q =>
      rw [hk] at h
      cases h
      exact ⟨q, rfl, rfl⟩
  refine ⟨fun a b x y hx hy hxy => ?_, fun n x hx => ?_⟩
  · obtain ⟨q1, h1, e1⟩ := key a x hx
    obtain ⟨q2, h2, e2⟩ := key b y hy
    have := G.1 q1 (List.mem_of_getElem? h1) q2 (List.mem_of_getElem? h2) (by rw [← e1, ← e2]; exact hxy)
    subst this
    exact pm_inj_pos h1 h2
  · obtain ⟨q1, h1, e1⟩ := key n x hx
    rw [e1]
    exact G.2 q1 (List.mem_of_getElem? h1)
-- what a change leaves as it was
theorem pm_fvt_I {w : pm_W} {k j f a b c t : Nat} {x : Int32} (h : ¬ (a = k ∧ b = j ∧ c = f)) : pm_fvt (pm_setI w k j f x) a b c t = pm_fvt w a b c t := by
  match t with
  | 0 => simp [pm_fvt, pm_setI, h]
  | 1 => rfl
  | t + 2 => rfl
theorem pm_cell_I {ad : Nat → Nat → Nat} {cs : pm_Cs} {w : pm_W} {k j f : Nat} {x : Int32} (a b : Nat) (h : ¬ (a = k ∧ b = j)) : pm_cell ad cs (pm_setI w k j f x) a b = pm_cell ad cs w a b := by
  have e1 : ∀ n, (pm_setI w k j f x).1 a b n = w.1 a b n := fun n => by
    simp only [pm_setI]
    rw [if_neg (fun z => h ⟨z.1, z.2.1⟩)]
  have e2 : pm_fs ad (pm_setI w k j f x) a b = pm_fs ad w a b := by
    unfold pm_fs
    apply List.map_congr_left
    intro c _
    show pm_tv ad (pm_fvt _ _ _ _ _) = pm_tv ad (pm_fvt _ _ _ _ _)
    rw [pm_fvt_I (fun z => h ⟨z.1, z.2.1⟩)]
  unfold pm_cell
  match pm_at a with
  | 0 => simp [pm_cellt, e2]
  | 1 => simp [pm_cellt, e1]
  | 2 => simp [pm_cellt, e1]
  | n + 3 => rfl
theorem pm_fvt_J {w : pm_W} {k a b c t : Nat} {x : Int64} (h : ¬ a = k) : pm_fvt (pm_setJ w k x) a b c t = pm_fvt w a b c t := by
  match t with
  | 0 => rfl
  | 1 => simp [pm_fvt, pm_setJ, h]
  | t + 2 => rfl
theorem pm_cell_J {ad : Nat → Nat → Nat} {cs : pm_Cs} {w : pm_W} {k : Nat} {x : Int64} (a b : Nat) (h : ¬ a = k) : pm_cell ad cs (pm_setJ w k x) a b = pm_cell ad cs w a b := by
  have e2 : pm_fs ad (pm_setJ w k x) a b = pm_fs ad w a b := by
    unfold pm_fs
    apply List.map_congr_left
    intro c _
    show pm_tv ad (pm_fvt _ _ _ _ _) = pm_tv ad (pm_fvt _ _ _ _ _)
    rw [pm_fvt_J h]
  unfold pm_cell
  match pm_at a with
  | 0 => simp [pm_cellt, e2]
  | 1 => rfl
  | 2 => rfl
  | n + 3 => rfl
theorem pm_cell_B {ad : Nat → Nat → Nat} {cs : pm_Cs} {w : pm_W} {n q : Nat} (a b : Nat) (h : ¬ a = 10) : pm_cell ad cs (pm_setB w n q) a b = pm_cell ad cs w a b := by
  have e2 : pm_fs ad (pm_setB w n q) a b = pm_fs ad w a b := by
    unfold pm_fs
    apply List.map_congr_left
    intro c _
    show pm_tv ad (pm_fvt _ _ _ _ _) = pm_tv ad (pm_fvt _ _ _ _ _)
    match pm_ft a c with
    | 0 => rfl
    | 1 => rfl
    | t + 2 => rfl
  have e3 : ∀ z, pm_ri (pm_setB w n q) a z = pm_ri w a z := fun z => by
    unfold pm_ri
    rw [show Nat.beq a 10 = false from Bool.eq_false_iff.mpr (fun y => h (Nat.eq_of_beq_eq_true y))]
    rfl
  unfold pm_cell
  match pm_at a with
  | 0 => simp [pm_cellt, e2]
  | 1 => rfl
  | 2 => rfl
  | n + 3 => simp [pm_cellt, e3]
-- locals
theorem pm_nth_set {α : Type} (d : α) (l : List α) (i : Nat) (a : α) (k : Nat) : pm_nth d (l.set i a) k = if k = i ∧ i < l.length then a else pm_nth d l k := by
  induction l generalizing i k with
  | nil => simp [pm_nth]
  | cons b t ih =>
    cases i with
    | zero =>
      cases k with
      | zero => simp [pm_nth]
      | succ k => simp [pm_nth]
    | succ i =>
      cases k with
      | zero => simp [pm_nth]
      | succ k =>
        simp only [List.set_cons_succ, pm_nth, ih, List.length_cons]
        by_cases h : k = i ∧ i < t.length
        · rw [if_pos h, if_pos ⟨by omega, by omega⟩]
        · rw [if_neg h, if_neg (fun z => h ⟨by omega, by omega⟩)]
theorem pm_nth_mem {l : pm_L} {k : Nat} {v : pm_V} (h : pm_nth none l k = some v) : some v ∈ l := by
  induction l generalizing k with
  | nil => cases h
  | cons a t ih =>
    cases k with
    | zero =>
      have h : a = some v := h
      rw [h]; exact List.mem_cons_self
    | succ k => exact List.mem_cons_of_mem _ (ih h)
theorem pm_nth_lt {l : pm_L} {k : Nat} {v : pm_V} (h : pm_nth none l k = some v) : k < l.length := by
  induction l generalizing k with
  | nil => cases h
  | cons a t ih =>
    cases k with
    | zero => simp
    | succ k => have := ih h; simp; omega
def pm_lv (ad : Nat → Nat → Nat) (ls : pm_L) : List (Nat × Value) := (List.range ls.length).filterMap (fun k => (pm_nth none ls k).map (fun v => (k, pm_tv ad v)))
theorem pm_lv_mem {ad : Nat → Nat → Nat} {ls : pm_L} {q : Nat × Value} : q ∈ pm_lv ad ls ↔ ∃ v, pm_nth none ls q.1 = some v ∧ q.2 = pm_tv ad v := by
  unfold pm_lv
  rw [List.mem_filterMap]
  constructor
  · rintro ⟨k, -, hk⟩
    cases h : pm_nth none ls k with
    | none => rw [h] at hk; cases hk
    | some v =>
      rw [h] at hk
      cases hk
      exact ⟨v, h, rfl⟩
  · rintro ⟨v, h1, h2⟩
    refine ⟨q.1, List.mem_range.mpr (pm_nth_lt h1), ?_⟩
    rw [h1, Option.map_some, ← h2]
theorem pm_lv_get {ad : Nat → Nat → Nat} {ls : pm_L} {lsM : Array Slot} {nL k : Nat} {v : pm_V} (h : lv_has lsM nL (pm_lv ad ls)) (hv : pm_nth none ls k = some v) : lsM[k]? = some (.val (pm_tv ad v)) := h.2.2 (k, pm_tv ad v) (pm_lv_mem.mpr ⟨v, hv, rfl⟩)
theorem pm_tv_cat (ad : Nat → Nat → Nat) (v : pm_V) : (pm_tv ad v).category = pm_cat1 v := by
  rcases v with x | x | x <;> rfl
theorem pm_isl_cat {ad : Nat → Nat → Nat} {v : pm_V} (h : pm_isl (some v) = false) : ¬ (pm_tv ad v).category = 2 := by
  rw [pm_tv_cat]
  unfold pm_cat1
  rw [h]
  decide
theorem pm_okst_spec {ls : pm_L} {k : Nat} (h : pm_okst ls k = true) : k < ls.length ∧ ∀ j, j + 1 = k → pm_isl (pm_nth none ls j) = false := by
  unfold pm_okst at h
  simp only [Bool.and_eq_true, Bool.or_eq_true, Nat.blt_eq, Bool.not_eq_true'] at h
  refine ⟨h.1, fun j hj => ?_⟩
  rcases h.2 with z | z
  · have := Nat.eq_of_beq_eq_true z; omega
  · rw [show j = k - 1 by omega]; exact z
theorem pm_lv_store {ad : Nat → Nat → Nat} {ls : pm_L} {lsM : Array Slot} {nL k : Nat} {v : pm_V} (hok : pm_okst ls k = true) (h : lv_has lsM nL ((k, pm_tv ad v) :: (pm_lv ad ls).filter (fun q => !(q.1 == k) && !(q.1 + 1 == k && q.2.category == 2)))) : lv_has lsM nL (pm_lv ad (ls.set k (some v))) := by
  obtain ⟨h0, h1⟩ := pm_okst_spec hok
  refine ⟨h.1, h.2.1, fun q hq => h.2.2 q ?_⟩
  obtain ⟨u, e1, e2⟩ := pm_lv_mem.mp hq
  rw [pm_nth_set] at e1
  by_cases hk : q.1 = k
  · rw [if_pos ⟨hk, h0⟩] at e1
    cases e1
    refine List.mem_cons.mpr (Or.inl ?_)
    rw [← e2, ← hk]
  · rw [if_neg (fun z => hk z.1)] at e1
    refine List.mem_cons_of_mem _ (List.mem_filter.mpr ⟨pm_lv_mem.mpr ⟨u, e1, e2⟩, ?_⟩)
    simp only [Bool.and_eq_true, Bool.not_eq_true', beq_eq_false_iff_ne, ne_eq, Bool.and_eq_false_iff]
    refine ⟨hk, ?_⟩
    by_cases z : q.1 + 1 = k
    · right
      rw [e2]
      have := h1 q.1 z
      rw [e1] at this
      exact pm_isl_cat this
    · left; exact z
theorem pm_lv_store2 {ad : Nat → Nat → Nat} {ls : pm_L} {lsM : Array Slot} {nL k : Nat} {v : pm_V} (hok : pm_okst ls k = true) (h : lv_has lsM nL ((k, pm_tv ad v) :: (pm_lv ad ls).filter (fun q => !(q.1 == k) && (!(q.1 == k + 1) && !(q.1 + 1 == k && q.2.category == 2))))) : lv_has lsM nL (pm_lv ad ((ls.set k (some v)).set (k + 1) none)) := by
  obtain ⟨h0, h1⟩ := pm_okst_spec hok
  refine ⟨h.1, h.2.1, fun q hq => h.2.2 q ?_⟩
  obtain ⟨u, e1, e2⟩ := pm_lv_mem.mp hq
  rw [pm_nth_set] at e1
  by_cases hz : q.1 = k + 1 ∧ k + 1 < (ls.set k (some v)).length
  · rw [if_pos hz] at e1; cases e1
  rw [if_neg hz, pm_nth_set] at e1
  by_cases hk : q.1 = k
  · rw [if_pos ⟨hk, h0⟩] at e1
    cases e1
    refine List.mem_cons.mpr (Or.inl ?_)
    rw [← e2, ← hk]
  · rw [if_neg (fun z => hk z.1)] at e1
    refine List.mem_cons_of_mem _ (List.mem_filter.mpr ⟨pm_lv_mem.mpr ⟨u, e1, e2⟩, ?_⟩)
    simp only [Bool.and_eq_true, Bool.not_eq_true', beq_eq_false_iff_ne, ne_eq, Bool.and_eq_false_iff]
    refine ⟨hk, ?_, ?_⟩
    · intro z
      refine hz ⟨z, ?_⟩
      have := pm_nth_lt e1
      rw [List.length_set]; omega
    by_cases z : q.1 + 1 = k
    · right
      rw [e2]
      have := h1 q.1 z
      rw [e1] at this
      exact pm_isl_cat this
    · left; exact z
theorem pm_okL_set {ls : pm_L} {k : Nat} {a : Option pm_V} (h : pm_okL ls) (ha : pm_okR a) : pm_okL (ls.set k a) := by
  intro v hv
  rcases List.mem_or_eq_of_mem_set hv with z | z
  · exact h v z
  · exact ha v z.symm
theorem pm_okR_i (x : Int32) : pm_okR (some (.inl x)) := fun v h => by cases h; trivial
theorem pm_okR_l (x : Int64) : pm_okR (some (.inr (.inl x))) := fun v h => by cases h; trivial
theorem pm_okR_n : pm_okR none := fun v h => by cases h
theorem pm_okS_c {v : pm_V} {t : List pm_V} (h : pm_okv v) (ht : pm_okS t) : pm_okS (v :: t) := fun u hu => by
  rcases List.mem_cons.mp hu with z | z
  · rw [z]; exact h
  · exact ht u z
theorem pm_okS_h {v : pm_V} {t : List pm_V} (h : pm_okS (v :: t)) : pm_okv v := h v List.mem_cons_self
theorem pm_okS_t {v : pm_V} {t : List pm_V} (h : pm_okS (v :: t)) : pm_okS t := fun u hu => h u (List.mem_cons_of_mem _ hu)
