/-! ===== soundness: fields, arrays, statics, switches, calls, returns ===== -/
theorem pm_nth_ge {α : Type} (d : α) (l : List α) (k : Nat) (h : l.length ≤ k) : pm_nth d l k = d := by
  induction l generalizing k with
  | nil => rfl
  | cons a t ih =>
    cases k with
    | zero => simp at h
    | succ k => exact ih k (by simp at h; omega)
def pm_ns : List Nat := [2, 2, 6, 5, 5, 6, 2, 10, 31]
theorem pm_kc_d : ∀ k, k < 20 → ∀ ci, ci < 9 → pm_kc k = ci + 1 → pm_at k = 0 ∧ (pm_ftl k).length = pm_nth 0 pm_ns ci := by decide +kernel
theorem pm_kc_le : ∀ k, k < 20 → pm_kc k ≤ 9 := by decide +kernel
theorem pm_kc_spec {k ci : Nat} (h : Nat.beq (pm_kc k) (ci + 1) = true) : k < 36 ∧ pm_at k = 0 ∧ pm_kc k - 1 = ci ∧ (pm_ftl k).length = pm_nth 0 pm_ns ci := by
  have h := Nat.eq_of_beq_eq_true h
  by_cases hk : k < 20
  · have h9 := pm_kc_le k hk
    obtain ⟨h1, h2⟩ := pm_kc_d k hk ci (by omega) h
    exact ⟨by omega, h1, by omega, h2⟩
  · have : pm_kc k = 0 := pm_nth_ge 0 pm_kcs k (show 20 ≤ k by omega)
    omega
theorem pm_at_lt {k n : Nat} (h : pm_at k = n + 1) : k < 39 := by
  by_cases hk : k < 39
  · exact hk
  · exfalso
    by_cases h2 : k = 39
    · rw [h2] at h; cases h
    · have : pm_at k = 0 := pm_nth_ge 0 pm_ats k (show 40 ≤ k by omega)
      omega
theorem pm_fs_at {ad : Nat → Nat → Nat} {w : pm_W} {k j f : Nat} (h : f < (pm_ftl k).length) : (pm_fs ad w k j)[f]? = some (pm_tv ad (pm_fv w k j f)) := by
  simp [pm_fs, List.getElem?_map, List.getElem?_range h]
theorem pm_fs_len {ad : Nat → Nat → Nat} {w : pm_W} {k j : Nat} : (pm_fs ad w k j).length = (pm_ftl k).length := by simp [pm_fs]
theorem pm_fs_I {ad : Nat → Nat → Nat} {w : pm_W} {k j f : Nat} {x : Int32} (h : f < (pm_ftl k).length) (h0 : pm_ft k f = 0) : (pm_fs ad w k j).set f (.int x) = pm_fs ad (pm_setI w k j f x) k j := by
  apply List.ext_getElem?
  intro n
  by_cases hn : n = f
  · subst hn
    rw [List.getElem?_set_self (by rw [pm_fs_len]; exact h), pm_fs_at h]
    unfold pm_fv
    rw [h0]
    simp [pm_fvt, pm_tv, pm_setI]
  · rw [List.getElem?_set_ne (Ne.symm hn)]
    by_cases hl : n < (pm_ftl k).length
    · rw [pm_fs_at hl, pm_fs_at hl]
      unfold pm_fv
      rw [pm_fvt_I (fun z => hn z.2.2)]
    · rw [List.getElem?_eq_none (by rw [pm_fs_len]; omega), List.getElem?_eq_none (by rw [pm_fs_len]; omega)]
theorem pm_ft_J : ∀ k, k < 20 → ∀ f, f < 31 → ∀ g, g < 31 → pm_ft k f = 1 → pm_ft k g = 1 → f = g := by decide +kernel
theorem pm_ftl_le : ∀ k, k < 20 → (pm_ftl k).length ≤ 31 := by decide +kernel
theorem pm_fs_J {ad : Nat → Nat → Nat} {w : pm_W} {k j f : Nat} {x : Int64} (hk : k < 20) (h : f < (pm_ftl k).length) (h0 : pm_ft k f = 1) : (pm_fs ad w k j).set f (.long x) = pm_fs ad (pm_setJ w k x) k j := by
  have hle := pm_ftl_le k hk
  apply List.ext_getElem?
  intro n
  by_cases hn : n = f
  · subst hn
    rw [List.getElem?_set_self (by rw [pm_fs_len]; exact h), pm_fs_at h]
    unfold pm_fv
    rw [h0]
    simp [pm_fvt, pm_tv, pm_setJ]
  · rw [List.getElem?_set_ne (Ne.symm hn)]
    by_cases hl : n < (pm_ftl k).length
    · rw [pm_fs_at hl, pm_fs_at hl]
      unfold pm_fv
      have hne : ¬ pm_ft k n = 1 := fun z => hn (pm_ft_J k hk n (by omega) f (by omega) z h0)
      match ht : pm_ft k n with
      | 0 => rfl
      | 1 => exact absurd ht hne
      | t + 2 => rfl
    · rw [List.getElem?_eq_none (by rw [pm_fs_len]; omega), List.getElem?_eq_none (by rw [pm_fs_len]; omega)]
theorem pm_cell0 {ad : Nat → Nat → Nat} {cs : pm_Cs} {w : pm_W} {k j ci : Nat} (h : pm_at k = 0) (hc : pm_kc k - 1 = ci) : pm_cell ad cs w k j = .inr (ci, pm_fs ad w k j) := by
  unfold pm_cell; rw [h, ← hc]; rfl
theorem pm_cell1 {ad : Nat → Nat → Nat} {cs : pm_Cs} {w : pm_W} {k j : Nat} (h : pm_at k = 1) : pm_cell ad cs w k j = .inl (cs.1, pm_al k, .inl (fun n => w.1 k j n)) := by
  unfold pm_cell; rw [h]; rfl
theorem pm_cell2 {ad : Nat → Nat → Nat} {cs : pm_Cs} {w : pm_W} {k j : Nat} (h : pm_at k = 2) : pm_cell ad cs w k j = .inl (cs.2.1, pm_al k, .inl (fun n => w.1 k j n)) := by
  unfold pm_cell; rw [h]; rfl
theorem pm_cell3 {ad : Nat → Nat → Nat} {cs : pm_Cs} {w : pm_W} {k j : Nat} (h : pm_at k = 3) : pm_cell ad cs w k j = .inl (cs.2.2, pm_al k, .inr (.inr (.inr (.inr (fun n => some (ad 7 (pm_ri w k n))))))) := by
  unfold pm_cell; rw [h]; rfl
theorem pm_fv_ok {w : pm_W} {k j f : Nat} (hk : k < 20) (hj : j < pm_cnt k) (hf : f < (pm_ftl k).length) : pm_okv (pm_fv w k j f) := by
  have key : ∀ k, k < 20 → ∀ f, f < (pm_ftl k).length → 2 ≤ pm_ft k f → pm_cnt k ≤ pm_cnt (pm_ft k f - 2) := by decide +kernel
  unfold pm_fv
  match ht : pm_ft k f with
  | 0 => trivial
  | 1 => trivial
  | t + 2 =>
    have := key k hk f hf (by omega)
    rw [ht] at this
    show j < pm_cnt t
    exact Nat.lt_of_lt_of_le hj this
theorem pm_kc_20 {k ci : Nat} (h : Nat.beq (pm_kc k) (ci + 1) = true) : k < 20 := by
  have h := Nat.eq_of_beq_eq_true h
  by_cases hk : k < 20
  · exact hk
  · have : pm_kc k = 0 := pm_nth_ge 0 pm_kcs k (show 20 ≤ k by omega)
    omega
section PMH
variable {p : Program} {l : Launch} {e : Env} {R : Room} {s : State} {m : MethodId} {args : Array Value} {below : List Frame} {meth : Method} {c : Code} {cells slots : Nat} {Qm : State → Prop} {D : va_G} {cs : pm_Cs} {ad : Nat → Nat → Nat} {sz nL : Nat} {own : String} {cc : ByteArray} {bp : List Nat} {HQ : pm_Q → Prop} {HK : pm_C → Prop}
set_option maxHeartbeats 1000000 in
theorem pm_s_getf (C : pm_X p s m args c D cs ad sz own cc nL) {i : Nat} {n ci f : Nat} {C0 : String} {T0 : u_T} {N : Nat} (hc : vwCl[ci]? = some (C0, T0, N)) (hN : pm_nth 0 pm_ns ci = N) (hin : ∀ w ∈ u_ws C0 T0 N, w ∈ wAll) (hf : f < N) (hd : decode cc (pm_nth 0 bp i) = .ok (.getfield n, 3)) (hlk : Cond.fieldLink own n (T0 f).1 (T0 f).2.1 (T0 f).2.2.1 ∈ wAll) (hn : pm_nth 0 bp (i + 1) = pm_nth 0 bp i + 3) : pm_S (pm_F p l e R s m args below meth c cells slots Qm D cs ad sz nL bp) HQ HK i (pm_getf ci f) := by
  intro ls st w X Q K h hX hQ hK hw hoL hoS hl H locs lsM hP hS hlv
  obtain ⟨hx, hb, hml, hown, hts, hE, hG⟩ := C
  unfold pm_getf at h
  split at h
  · rename_i k j t
    cases hcnd : Nat.beq (pm_kc k) (ci + 1) with
    | false => rw [hcnd] at h; exact h.elim
    | true =>
      rw [hcnd] at h
      obtain ⟨a1, a2, a3, a4⟩ := pm_kc_spec hcnd
      have hj : j < pm_cnt k := pm_okS_h hoS
      have hfl : f < (pm_ftl k).length := by rw [a4, hN]; exact hf
      obtain ⟨q0, -, he⟩ := pm_wl_at (ad := ad) (cs := cs) (w := w) a1 hj
      rw [pm_cell0 a2 a3] at he
      have g := hX _ _ _ _ h hw hoL (pm_okS_c (pm_fv_ok (pm_kc_20 hcnd) hj hfl) (pm_okS_t hoS)) hl H locs lsM hP hS hlv
      rw [hn] at g
      exact va_get (C := C0) (T := T0) (N := N) hx hb hts hin hown hE.2.1 hP q0 he hc f hf (hts _ hlk) (fun _ h9 => h9) (pm_fs_at hfl) hd g
  · exact h.elim
set_option maxHeartbeats 1000000 in
theorem pm_s_getfN (C : pm_X p s m args c D cs ad sz own cc nL) {i : Nat} {n ci f : Nat} {C0 : String} {T0 : u_T} {N : Nat} (hc : vwCl[ci]? = some (C0, T0, N)) (hN : pm_nth 0 pm_ns ci = N) (hin : ∀ w ∈ u_ws C0 T0 N, w ∈ wAll) (hf : f < N) (hd : decode cc (pm_nth 0 bp i) = .ok (.getfield n, 3)) {host : String} (hlk : (own, n, (T0 f).1, (T0 f).2.1, (T0 f).2.2.1, host) ∈ pm_nF) (hn : pm_nth 0 bp (i + 1) = pm_nth 0 bp i + 3) : pm_S (pm_F p l e R s m args below meth c cells slots Qm D cs ad sz nL bp) HQ HK i (pm_getf ci f) := by
  intro ls st w X Q K h hX hQ hK hw hoL hoS hl H locs lsM hP hS hlv
  obtain ⟨hx, hb, hml, hown, hts, hE, hG⟩ := C
  unfold pm_getf at h
  split at h
  · rename_i k j t
    cases hcnd : Nat.beq (pm_kc k) (ci + 1) with
    | false => rw [hcnd] at h; exact h.elim
    | true =>
      rw [hcnd] at h
      obtain ⟨a1, a2, a3, a4⟩ := pm_kc_spec hcnd
      have hj : j < pm_cnt k := pm_okS_h hoS
      have hfl : f < (pm_ftl k).length := by rw [a4, hN]; exact hf
      obtain ⟨q0, -, he⟩ := pm_wl_at (ad := ad) (cs := cs) (w := w) a1 hj
      rw [pm_cell0 a2 a3] at he
      have g := hX _ _ _ _ h hw hoL (pm_okS_c (pm_fv_ok (pm_kc_20 hcnd) hj hfl) (pm_okS_t hoS)) hl H locs lsM hP hS hlv
      rw [hn] at g
      exact va_getN (C := C0) (T := T0) (N := N) hx hb hts hin hown hE.2.1 hP q0 he hc f hf (va_Nw.use rfl (hE.2.2.1 _ hlk)) (fun _ h9 => h9) (pm_fs_at hfl) hd g
  · exact h.elim
set_option maxHeartbeats 1000000 in
theorem pm_s_putf (C : pm_X p s m args c D cs ad sz own cc nL) {i : Nat} {n ci f : Nat} {C0 : String} {T0 : u_T} {N : Nat} (hc : vwCl[ci]? = some (C0, T0, N)) (hN : pm_nth 0 pm_ns ci = N) (hin : ∀ w ∈ u_ws C0 T0 N, w ∈ wAll) (hf : f < N) (ty0 : Nat → FieldType) (hty : ∀ k, k < N → parseFieldDescriptor (T0 k).2.2.1 = some (ty0 k)) (hnm : ∀ a, a < N → ∀ b, b < N → a ≠ b → (T0 a).2.1 ≠ (T0 b).2.1) (hfin : (T0 f).2.2.2 = false) (hpd : parseFieldDescriptor (T0 f).2.2.1 = some .int) (hd : decode cc (pm_nth 0 bp i) = .ok (.putfield n, 3)) (hlk : Cond.fieldLink own n (T0 f).1 (T0 f).2.1 (T0 f).2.2.1 ∈ wAll) (hn : pm_nth 0 bp (i + 1) = pm_nth 0 bp i + 3) : pm_S (pm_F p l e R s m args below meth c cells slots Qm D cs ad sz nL bp) HQ HK i (pm_putf ci f) := by
  intro ls st w X Q K h hX hQ hK hw hoL hoS hl H locs lsM hP hS hlv
  obtain ⟨hx, hb, hml, hown, hts, hE, hG⟩ := C
  unfold pm_putf at h
  split at h
  · rename_i x k j t
    cases hcnd : Nat.beq (pm_kc k) (ci + 1) && Nat.beq (pm_ft k f) 0 with
    | false => rw [hcnd] at h; exact h.elim
    | true =>
      rw [hcnd] at h
      rw [Bool.and_eq_true] at hcnd
      obtain ⟨a1, a2, a3, a4⟩ := pm_kc_spec hcnd.1
      have hj : j < pm_cnt k := pm_okS_h (pm_okS_t hoS)
      have hfl : f < (pm_ftl k).length := by rw [a4, hN]; exact hf
      obtain ⟨q0, hq0, he⟩ := pm_wl_at (ad := ad) (cs := cs) (w := w) a1 hj
      rw [pm_cell0 a2 a3] at he
      refine va_put (v := .int x) (C := C0) (T := T0) (N := N) hx hb hts hin ty0 hty hnm hown hE.2.1 hP (pm_wl_D hG w) hS q0 he hc f hf (hts _ hlk) (fun _ h9 => h9) hfin hpd rfl rfl (by rw [pm_fs_len]; exact hfl) hd (fun H1 locs1 hP1 _ hS1 => ?_)
      rw [pm_fs_I hfl (Nat.eq_of_beq_eq_true hcnd.2), ← pm_cell0 (cs := cs) a2 a3, pm_wl_set hq0 (fun a b _ z => pm_cell_I a b z)] at hP1
      have g := hX _ _ _ _ h hw hoL (pm_okS_t (pm_okS_t hoS)) hl H1 locs1 lsM hP1 hS1 hlv
      rw [hn] at g
      exact g
  · exact h.elim
set_option maxHeartbeats 1000000 in
theorem pm_s_putfN (C : pm_X p s m args c D cs ad sz own cc nL) {i : Nat} {n ci f : Nat} {C0 : String} {T0 : u_T} {N : Nat} (hc : vwCl[ci]? = some (C0, T0, N)) (hN : pm_nth 0 pm_ns ci = N) (hin : ∀ w ∈ u_ws C0 T0 N, w ∈ wAll) (hf : f < N) (ty0 : Nat → FieldType) (hty : ∀ k, k < N → parseFieldDescriptor (T0 k).2.2.1 = some (ty0 k)) (hnm : ∀ a, a < N → ∀ b, b < N → a ≠ b → (T0 a).2.1 ≠ (T0 b).2.1) (hfin : (T0 f).2.2.2 = false) (hpd : parseFieldDescriptor (T0 f).2.2.1 = some .int) (hd : decode cc (pm_nth 0 bp i) = .ok (.putfield n, 3)) {host : String} (hlk : (own, n, (T0 f).1, (T0 f).2.1, (T0 f).2.2.1, host) ∈ pm_nF) (hn : pm_nth 0 bp (i + 1) = pm_nth 0 bp i + 3) : pm_S (pm_F p l e R s m args below meth c cells slots Qm D cs ad sz nL bp) HQ HK i (pm_putf ci f) := by
  intro ls st w X Q K h hX hQ hK hw hoL hoS hl H locs lsM hP hS hlv
  obtain ⟨hx, hb, hml, hown, hts, hE, hG⟩ := C
  unfold pm_putf at h
  split at h
  · rename_i x k j t
    cases hcnd : Nat.beq (pm_kc k) (ci + 1) && Nat.beq (pm_ft k f) 0 with
    | false => rw [hcnd] at h; exact h.elim
    | true =>
      rw [hcnd] at h
      rw [Bool.and_eq_true] at hcnd
      obtain ⟨a1, a2, a3, a4⟩ := pm_kc_spec hcnd.1
      have hj : j < pm_cnt k := pm_okS_h (pm_okS_t hoS)
      have hfl : f < (pm_ftl k).length := by rw [a4, hN]; exact hf
      obtain ⟨q0, hq0, he⟩ := pm_wl_at (ad := ad) (cs := cs) (w := w) a1 hj
      rw [pm_cell0 a2 a3] at he
      refine va_putN (v := .int x) (C := C0) (T := T0) (N := N) hx hb hts hin ty0 hty hnm hown hE.2.1 hP (pm_wl_D hG w) hS q0 he hc f hf (va_Nw.use rfl (hE.2.2.1 _ hlk)) (fun _ h9 => h9) hfin hpd rfl rfl (by rw [pm_fs_len]; exact hfl) hd (fun H1 locs1 hP1 _ hS1 => ?_)
      rw [pm_fs_I hfl (Nat.eq_of_beq_eq_true hcnd.2), ← pm_cell0 (cs := cs) a2 a3, pm_wl_set hq0 (fun a b _ z => pm_cell_I a b z)] at hP1
      have g := hX _ _ _ _ h hw hoL (pm_okS_t (pm_okS_t hoS)) hl H1 locs1 lsM hP1 hS1 hlv
      rw [hn] at g
      exact g
  · exact h.elim
set_option maxHeartbeats 1000000 in
theorem pm_s_putj (C : pm_X p s m args c D cs ad sz own cc nL) {i : Nat} {n ci f : Nat} {C0 : String} {T0 : u_T} {N : Nat} (hc : vwCl[ci]? = some (C0, T0, N)) (hN : pm_nth 0 pm_ns ci = N) (hin : ∀ w ∈ u_ws C0 T0 N, w ∈ wAll) (hf : f < N) (ty0 : Nat → FieldType) (hty : ∀ k, k < N → parseFieldDescriptor (T0 k).2.2.1 = some (ty0 k)) (hnm : ∀ a, a < N → ∀ b, b < N → a ≠ b → (T0 a).2.1 ≠ (T0 b).2.1) (hfin : (T0 f).2.2.2 = false) (hpd : parseFieldDescriptor (T0 f).2.2.1 = some .long) (hd : decode cc (pm_nth 0 bp i) = .ok (.putfield n, 3)) (hlk : Cond.fieldLink own n (T0 f).1 (T0 f).2.1 (T0 f).2.2.1 ∈ wAll) (hn : pm_nth 0 bp (i + 1) = pm_nth 0 bp i + 3) : pm_S (pm_F p l e R s m args below meth c cells slots Qm D cs ad sz nL bp) HQ HK i (pm_putj ci f) := by
  intro ls st w X Q K h hX hQ hK hw hoL hoS hl H locs lsM hP hS hlv
  obtain ⟨hx, hb, hml, hown, hts, hE, hG⟩ := C
  unfold pm_putj at h
  split at h
  · rename_i x k j t
    cases hcnd : Nat.beq (pm_kc k) (ci + 1) && Nat.beq (pm_ft k f) 1 with
    | false => rw [hcnd] at h; exact h.elim
    | true =>
      rw [hcnd] at h
      rw [Bool.and_eq_true] at hcnd
      obtain ⟨a1, a2, a3, a4⟩ := pm_kc_spec hcnd.1
      have hj : j < pm_cnt k := pm_okS_h (pm_okS_t hoS)
      have hk1 : pm_cnt k = 1 := by
        have key : ∀ k, k < 20 → ∀ f, f < (pm_ftl k).length → pm_ft k f = 1 → pm_cnt k = 1 := by decide +kernel
        exact key k (pm_kc_20 hcnd.1) f (by rw [a4, hN]; exact hf) (Nat.eq_of_beq_eq_true hcnd.2)
      have hfl : f < (pm_ftl k).length := by rw [a4, hN]; exact hf
      obtain ⟨q0, hq0, he⟩ := pm_wl_at (ad := ad) (cs := cs) (w := w) a1 hj
      rw [pm_cell0 a2 a3] at he
      refine va_put (v := .long x) (C := C0) (T := T0) (N := N) hx hb hts hin ty0 hty hnm hown hE.2.1 hP (pm_wl_D hG w) hS q0 he hc f hf (hts _ hlk) (fun _ h9 => h9) hfin hpd rfl rfl (by rw [pm_fs_len]; exact hfl) hd (fun H1 locs1 hP1 _ hS1 => ?_)
      rw [pm_fs_J (pm_kc_20 hcnd.1) hfl (Nat.eq_of_beq_eq_true hcnd.2), ← pm_cell0 (cs := cs) a2 a3, pm_wl_set hq0 (fun a b hab z => pm_cell_J a b (fun y => z ⟨y, by subst y; omega⟩))] at hP1
      have g := hX _ _ _ _ h hw hoL (pm_okS_t (pm_okS_t hoS)) hl H1 locs1 lsM hP1 hS1 hlv
      rw [hn] at g
      exact g
  · exact h.elim
set_option maxHeartbeats 1000000 in
theorem pm_s_gets (C : pm_X p s m args c D cs ad sz own cc nL) {i : Nat} {n k : Nat} (h1 : 36 ≤ k) (h2 : k < 39) (hd : decode cc (pm_nth 0 bp i) = .ok (.getstatic n, 3)) (hlk : Cond.fieldLink own n "LeafTable" (pm_sn k) "[I" ∈ wAll) (hn : pm_nth 0 bp (i + 1) = pm_nth 0 bp i + 3) : pm_S (pm_F p l e R s m args below meth c cells slots Qm D cs ad sz nL bp) HQ HK i (pm_gets k) := by
  intro ls st w X Q K h hX hQ hK hw hoL hoS hl H locs lsM hP hS hlv
  obtain ⟨hx, hb, hml, hown, hts, hE, hG⟩ := C
  have key : ∀ k, 36 ≤ k → k < 39 → pm_cnt k = 1 := fun k a b => by
    rcases (show k = 36 ∨ k = 37 ∨ k = 38 by omega) with rfl | rfl | rfl <;> rfl
  have g := hX _ _ _ _ h hw hoL (pm_okS_c (show 0 < pm_cnt k by rw [key k h1 h2]; decide) hoS) hl H locs lsM hP hS hlv
  rw [hn] at g
  exact va_gets hx hb (hE.2.2.2.2 k h1 h2).1 hS hown (hts _ hlk) (fun _ h9 => h9) hd g
set_option maxHeartbeats 1000000 in
theorem pm_s_getsN (C : pm_X p s m args c D cs ad sz own cc nL) {i : Nat} {n k : Nat} (h1 : 36 ≤ k) (h2 : k < 39) (hd : decode cc (pm_nth 0 bp i) = .ok (.getstatic n, 3)) {host : String} (hlk : (own, n, "LeafTable", pm_sn k, "[I", host) ∈ pm_nF) (hn : pm_nth 0 bp (i + 1) = pm_nth 0 bp i + 3) : pm_S (pm_F p l e R s m args below meth c cells slots Qm D cs ad sz nL bp) HQ HK i (pm_gets k) := by
  intro ls st w X Q K h hX hQ hK hw hoL hoS hl H locs lsM hP hS hlv
  obtain ⟨hx, hb, hml, hown, hts, hE, hG⟩ := C
  have key : ∀ k, 36 ≤ k → k < 39 → pm_cnt k = 1 := fun k a b => by
    rcases (show k = 36 ∨ k = 37 ∨ k = 38 by omega) with rfl | rfl | rfl <;> rfl
  have g := hX _ _ _ _ h hw hoL (pm_okS_c (show 0 < pm_cnt k by rw [key k h1 h2]; decide) hoS) hl H locs lsM hP hS hlv
  rw [hn] at g
  exact va_getsN hx hb (hE.2.2.2.2 k h1 h2).1 hS hown (va_Nw.use rfl (hE.2.2.1 _ hlk)) (fun _ h9 => h9) hd g
set_option maxHeartbeats 1000000 in
theorem pm_s_iald (C : pm_X p s m args c D cs ad sz own cc nL) {i : Nat} (hd : decode cc (pm_nth 0 bp i) = .ok (.iaload, 1)) (hn : pm_nth 0 bp (i + 1) = pm_nth 0 bp i + 1) : pm_S (pm_F p l e R s m args below meth c cells slots Qm D cs ad sz nL bp) HQ HK i pm_iald := by
  intro ls st w X Q K h hX hQ hK hw hoL hoS hl H locs lsM hP hS hlv
  obtain ⟨hx, hb, hml, hown, hts, hE, hG⟩ := C
  unfold pm_iald at h
  split at h
  · rename_i x k j t
    cases hcnd : Nat.beq (pm_at k) 1 with
    | false => rw [hcnd] at h; exact h.elim
    | true =>
      rw [hcnd] at h
      obtain ⟨hi, h⟩ := h
      have ha := Nat.eq_of_beq_eq_true hcnd
      have hk9 := pm_at_lt ha
      have hj : j < pm_cnt k := pm_okS_h (pm_okS_t hoS)
      have g := hX _ _ _ _ h hw hoL (pm_okS_c trivial (pm_okS_t (pm_okS_t hoS))) hl H locs lsM hP hS hlv
      rw [hn] at g
      by_cases hk : k < 36
      · obtain ⟨q0, -, he⟩ := pm_wl_at (ad := ad) (cs := cs) (w := w) hk hj
        rw [pm_cell1 ha] at he
        have e9 : pm_rd w k j x.toNatClampNeg = w.1 k j x.toNatClampNeg := by
          unfold pm_rd
          rw [show Nat.ble 36 k = false from Bool.eq_false_iff.mpr (fun z => by have := Nat.le_of_ble_eq_true z; omega)]
          rfl
        rw [e9] at g
        exact va_iald hx hb hE.2.1 hP q0 0 he rfl hi hd g
      · have hj0 : j = 0 := by
          rcases (show k = 36 ∨ k = 37 ∨ k = 38 by omega) with rfl | rfl | rfl <;> exact Nat.lt_one_iff.mp hj
        subst hj0
        have e9 : pm_rd w k 0 x.toNatClampNeg = pm_st k x.toNatClampNeg := by
          unfold pm_rd
          rw [Nat.ble_eq_true_of_le (show 36 ≤ k by omega)]
          rfl
        rw [e9] at g
        exact va_ti hx hb (hE.2.2.2.2 k (by omega) hk9).2 hS hi rfl hd g
  · exact h.elim
set_option maxHeartbeats 1000000 in
theorem pm_s_iast (C : pm_X p s m args c D cs ad sz own cc nL) {i : Nat} (hd : decode cc (pm_nth 0 bp i) = .ok (.iastore, 1)) (hn : pm_nth 0 bp (i + 1) = pm_nth 0 bp i + 1) : pm_S (pm_F p l e R s m args below meth c cells slots Qm D cs ad sz nL bp) HQ HK i pm_iast := by
  intro ls st w X Q K h hX hQ hK hw hoL hoS hl H locs lsM hP hS hlv
  obtain ⟨hx, hb, hml, hown, hts, hE, hG⟩ := C
  unfold pm_iast at h
  split at h
  · rename_i v x k j t
    cases hcnd : Nat.beq (pm_at k) 1 && Nat.blt k 36 with
    | false => rw [hcnd] at h; exact h.elim
    | true =>
      rw [hcnd] at h
      obtain ⟨hi, h⟩ := h
      simp only [Bool.and_eq_true, Nat.blt_eq] at hcnd
      have ha := Nat.eq_of_beq_eq_true hcnd.1
      have hj : j < pm_cnt k := pm_okS_h (pm_okS_t (pm_okS_t hoS))
      obtain ⟨q0, hq0, he⟩ := pm_wl_at (ad := ad) (cs := cs) (w := w) hcnd.2 hj
      rw [pm_cell1 ha] at he
      refine va_iast hx hb hE.2.1 hP (pm_wl_D hG w) hS q0 0 he rfl hi hd (fun H1 locs1 hP1 _ hS1 => ?_)
      have e9 : upd (fun n => w.1 k j n) x.toNatClampNeg v = fun n => (pm_setI w k j x.toNatClampNeg v).1 k j n := by
        funext n
        simp [upd, pm_setI]
      rw [e9, ← pm_cell1 (ad := ad) (cs := cs) ha, pm_wl_set hq0 (fun a b _ z => pm_cell_I a b z)] at hP1
      have g := hX _ _ _ _ h hw hoL (pm_okS_t (pm_okS_t (pm_okS_t hoS))) hl H1 locs1 lsM hP1 hS1 hlv
      rw [hn] at g
      exact g
  · exact h.elim
set_option maxHeartbeats 1000000 in
theorem pm_s_zald (C : pm_X p s m args c D cs ad sz own cc nL) {i : Nat} (hd : decode cc (pm_nth 0 bp i) = .ok (.baload, 1)) (hn : pm_nth 0 bp (i + 1) = pm_nth 0 bp i + 1) : pm_S (pm_F p l e R s m args below meth c cells slots Qm D cs ad sz nL bp) HQ HK i pm_zald := by
  intro ls st w X Q K h hX hQ hK hw hoL hoS hl H locs lsM hP hS hlv
  obtain ⟨hx, hb, hml, hown, hts, hE, hG⟩ := C
  unfold pm_zald at h
  split at h
  · rename_i x k j t
    cases hcnd : Nat.beq (pm_at k) 2 with
    | false => rw [hcnd] at h; exact h.elim
    | true =>
      rw [hcnd] at h
      obtain ⟨hi, h⟩ := h
      have ha := Nat.eq_of_beq_eq_true hcnd
      have hk9 : k < 36 := by
        have := pm_at_lt ha
        rcases (show k < 36 ∨ k = 36 ∨ k = 37 ∨ k = 38 by omega) with z | rfl | rfl | rfl
        · exact z
        all_goals cases ha
      have hj : j < pm_cnt k := pm_okS_h (pm_okS_t hoS)
      have g := hX _ _ _ _ h hw hoL (pm_okS_c trivial (pm_okS_t (pm_okS_t hoS))) hl H locs lsM hP hS hlv
      rw [hn] at g
      obtain ⟨q0, -, he⟩ := pm_wl_at (ad := ad) (cs := cs) (w := w) hk9 hj
      rw [pm_cell2 ha] at he
      exact va_zald hx hb hE.2.1 hP q0 1 he rfl hi hd g
  · exact h.elim
set_option maxHeartbeats 1000000 in
theorem pm_s_zast (C : pm_X p s m args c D cs ad sz own cc nL) {i : Nat} (hd : decode cc (pm_nth 0 bp i) = .ok (.bastore, 1)) (hn : pm_nth 0 bp (i + 1) = pm_nth 0 bp i + 1) : pm_S (pm_F p l e R s m args below meth c cells slots Qm D cs ad sz nL bp) HQ HK i pm_zast := by
  intro ls st w X Q K h hX hQ hK hw hoL hoS hl H locs lsM hP hS hlv
  obtain ⟨hx, hb, hml, hown, hts, hE, hG⟩ := C
  unfold pm_zast at h
  split at h
  · rename_i v x k j t
    cases hcnd : Nat.beq (pm_at k) 2 with
    | false => rw [hcnd] at h; exact h.elim
    | true =>
      rw [hcnd] at h
      obtain ⟨hi, h⟩ := h
      have ha := Nat.eq_of_beq_eq_true hcnd
      have hk9 : k < 36 := by
        have := pm_at_lt ha
        rcases (show k < 36 ∨ k = 36 ∨ k = 37 ∨ k = 38 by omega) with z | rfl | rfl | rfl
        · exact z
        all_goals cases ha
      have hj : j < pm_cnt k := pm_okS_h (pm_okS_t (pm_okS_t hoS))
      obtain ⟨q0, hq0, he⟩ := pm_wl_at (ad := ad) (cs := cs) (w := w) hk9 hj
      rw [pm_cell2 ha] at he
      refine va_zast hx hb hE.2.1 hP (pm_wl_D hG w) hS q0 1 he rfl hi hd (fun H1 locs1 hP1 _ hS1 => ?_)
      have e9 : upd (fun n => w.1 k j n) x.toNatClampNeg (vp_nar .boolean v) = fun n => (pm_setI w k j x.toNatClampNeg (vp_nar .boolean v)).1 k j n := by
        funext n
        simp [upd, pm_setI]
      rw [e9, ← pm_cell2 (ad := ad) (cs := cs) ha, pm_wl_set hq0 (fun a b _ z => pm_cell_I a b z)] at hP1
      have g := hX _ _ _ _ h hw hoL (pm_okS_t (pm_okS_t (pm_okS_t hoS))) hl H1 locs1 lsM hP1 hS1 hlv
      rw [hn] at g
      exact g
  · exact h.elim
theorem pm_in_lt {x : Int32} {n : Nat} (h : vp_in x n) : x.toNatClampNeg < n := Nat.not_le.mp fun q => h (Or.inr q)
theorem pm_at3 : ∀ k, k < 40 → pm_at k = 3 → k = 10 ∨ k = 11 ∨ k = 17 := by decide +kernel
set_option maxHeartbeats 1000000 in
theorem pm_s_aald (C : pm_X p s m args c D cs ad sz own cc nL) {i : Nat} (hd : decode cc (pm_nth 0 bp i) = .ok (.aaload, 1)) (hn : pm_nth 0 bp (i + 1) = pm_nth 0 bp i + 1) : pm_S (pm_F p l e R s m args below meth c cells slots Qm D cs ad sz nL bp) HQ HK i pm_aald := by
  intro ls st w X Q K h hX hQ hK hw hoL hoS hl H locs lsM hP hS hlv
  obtain ⟨hx, hb, hml, hown, hts, hE, hG⟩ := C
  unfold pm_aald at h
  split at h
  · rename_i x k j t
    cases hcnd : Nat.beq (pm_at k) 3 with
    | false => rw [hcnd] at h; exact h.elim
    | true =>
      rw [hcnd] at h
      obtain ⟨hi, h⟩ := h
      have ha := Nat.eq_of_beq_eq_true hcnd
      have hk9 := pm_at3 k (by have := pm_at_lt ha; omega) ha
      have hk36 : k < 36 := by omega
      have hj : j < pm_cnt k := pm_okS_h (pm_okS_t hoS)
      have hlt := pm_in_lt hi
      have hv : pm_okv (.inr (.inr (7, pm_ri w k x.toNatClampNeg))) := by
        show pm_ri w k x.toNatClampNeg < 23
        rcases hk9 with rfl | rfl | rfl
        · exact hw _ hlt
        · have hlt : x.toNatClampNeg < 2 := hlt
          show 15 + x.toNatClampNeg < 23
          omega
        · have hlt : x.toNatClampNeg < 6 := hlt
          show 17 + x.toNatClampNeg < 23
          omega
      have g := hX _ _ _ _ h hw hoL (pm_okS_c hv (pm_okS_t (pm_okS_t hoS))) hl H locs lsM hP hS hlv
      rw [hn] at g
      obtain ⟨q0, -, he⟩ := pm_wl_at (ad := ad) (cs := cs) (w := w) hk36 hj
      rw [pm_cell3 ha] at he
      exact va_aldq (C := "LeafTable$Seats") hx hb hE.2.1 hP q0 2 he rfl hi hd g
  · exact h.elim
set_option maxHeartbeats 1000000 in
theorem pm_s_aast (C : pm_X p s m args c D cs ad sz own cc nL) {i : Nat} (hd : decode cc (pm_nth 0 bp i) = .ok (.aastore, 1)) (hn : pm_nth 0 bp (i + 1) = pm_nth 0 bp i + 1) : pm_S (pm_F p l e R s m args below meth c cells slots Qm D cs ad sz nL bp) HQ HK i pm_aast := by
  intro ls st w X Q K h hX hQ hK hw hoL hoS hl H locs lsM hP hS hlv
  obtain ⟨hx, hb, hml, hown, hts, hE, hG⟩ := C
  unfold pm_aast at h
  split at h
  · rename_i q qn x k j t
    cases hcnd : Nat.beq k 10 && Nat.beq q 7 with
    | false => rw [hcnd] at h; exact h.elim
    | true =>
      rw [hcnd] at h
      obtain ⟨hi, h⟩ := h
      rw [Bool.and_eq_true] at hcnd
      have e1 := Nat.eq_of_beq_eq_true hcnd.1
      have e2 := Nat.eq_of_beq_eq_true hcnd.2
      subst e1
      subst e2
      have hj : j < 1 := pm_okS_h (pm_okS_t (pm_okS_t hoS))
      have hqn : qn < 23 := pm_okS_h hoS
      have hj0 : j = 0 := by omega
      subst hj0
      obtain ⟨q0, hq0, he⟩ := pm_wl_at (ad := ad) (cs := cs) (w := w) (k := 10) (j := 0) (by decide) (by decide)
      rw [pm_cell3 rfl] at he
      obtain ⟨q1, -, hv⟩ := pm_wl_at (ad := ad) (cs := cs) (w := w) (k := 7) (j := qn) (by decide) hqn
      rw [pm_cell0 (ci := 4) rfl rfl] at hv
      refine va_astq hx hb hE.2.1 hP (pm_wl_D hG w) hS q0 2 q1 4 (r := (RX4, TX4, 5)) he rfl hv rfl hi hd (fun H1 locs1 hP1 _ hS1 => ?_)
      have e9 : va_up (fun n => some (ad 7 (pm_ri w 10 n))) x.toNatClampNeg (some (ad 7 qn)) = fun n => some (ad 7 (pm_ri (pm_setB w x.toNatClampNeg qn) 10 n)) := by
        funext n
        show (if n = x.toNatClampNeg then some (ad 7 qn) else some (ad 7 (w.2.2 n))) = some (ad 7 (if n = x.toNatClampNeg then qn else w.2.2 n))
        by_cases z : n = x.toNatClampNeg
        · rw [if_pos z, if_pos z]
        · rw [if_neg z, if_neg z]
      rw [e9, ← pm_cell3 (ad := ad) (cs := cs) (k := 10) (j := 0) rfl, pm_wl_set hq0 (fun a b hab z => pm_cell_B a b (fun y => z ⟨y, by subst y; have hab : b < 1 := hab; omega⟩))] at hP1
      · have hw1 : pm_wok (pm_setB w x.toNatClampNeg qn) := fun n hn9 => by
          show (if n = x.toNatClampNeg then qn else w.2.2 n) < 23
          by_cases z : n = x.toNatClampNeg
          · rw [if_pos z]; exact hqn
          · rw [if_neg z]; exact hw n hn9
        have g := hX _ _ _ _ h hw1 hoL (pm_okS_t (pm_okS_t (pm_okS_t hoS))) hl H1 locs1 lsM hP1 hS1 hlv
        rw [hn] at g
        exact g
  · exact h.elim
end PMH
