/-! ===== soundness: the script, switches, calls, returns; Go; methods ===== -/
def pm_Pc (D : va_G) (cs : pm_Cs) (ad : Nat → Nat → Nat) (sz : Nat) (as : List pm_V) (w : pm_W) : Array Value → State → Prop := fun v U => v = (as.map (pm_tv ad)).toArray ∧ pm_E D cs ad sz U ∧ va_P D vwCl (pm_wl ad cs w) U.heap
def pm_Qc (D : va_G) (cs : pm_Cs) (ad : Nat → Nat → Nat) (sz : Nat) (r : Option pm_V) (w : pm_W) : Array Value → State → Outcome → State → Prop := fun _ st oc t => oc = .returned (r.map (pm_tv ad)) ∧ pm_wok w ∧ pm_okR r ∧ va_P D vwCl (pm_wl ad cs w) t.heap ∧ va_F (pm_A sz) st t
def pm_mw (y : Nat) : List Cond := Cond.code (pm_m y).1 (pm_m y).2.1 (pm_m y).2.2.1 (pm_m y).2.2.2 :: wAll
def pm_rm (d : Nat) : Room := { frames := d, cells := 0, slots := 0, locals := 60 * d }
/-- what a call's relation says of the machine -/
def pm_HK (l : Launch) (D : va_G) (cs : pm_Cs) (ad : Nat → Nat → Nat) (sz d : Nat) (K : pm_C) : Prop := ∀ (y : Nat) (as : List pm_V) (w : pm_W) (r : Option pm_V) (w1 : pm_W), K y as w r w1 → pm_wok w → pm_okS as → Met l (pm_m y).1 (pm_mw y) (pm_rm d) (pm_Pc D cs ad sz as w) (pm_Qc D cs ad sz r w1) 0 0 (pm_A sz)
theorem pm_E_call {D : va_G} {cs : pm_Cs} {ad : Nat → Nat → Nat} {sz : Nat} {U : State} {g : JFrame} {mk : MethodId} {a : Array Value} (h : pm_E D cs ad sz U) : pm_E D cs ad sz (U.calling g mk a) := by
  obtain ⟨h1, h2, h3, h4, h5⟩ := h
  refine ⟨h1, va_K.moved (u := U) (U := U.calling g mk a) (Vm.Alike.refl U.vm) h2, fun q hq => va_Nw.same rfl (u := U) (U := U.calling g mk a) rfl (h3 q hq), fun q hq => va_Nw.same rfl (u := U) (U := U.calling g mk a) rfl (h4 q hq), fun k a1 a2 => ?_⟩
  obtain ⟨z1, z2⟩ := h5 k a1 a2
  exact ⟨va_Z.moved (u := U) (U := U.calling g mk a) (Vm.Alike.refl U.vm) z1, va_T.moved (u := U) (U := U.calling g mk a) (Vm.Alike.refl U.vm) z2⟩
theorem pm_E_warm {D : va_G} {cs : pm_Cs} {ad : Nat → Nat → Nat} {sz : Nat} {s U : State} {locs : List Loc} (h : pm_E D cs ad sz s) (hW : s.WarmedH U.vm) (hS : va_S (pm_A sz) s.heap U.heap locs) : pm_E D cs ad sz U := by
  obtain ⟨h1, h2, h3, h4, h5⟩ := h
  refine ⟨Nat.le_trans h1 hS.1, va_K.moved hW.alike h2, fun q hq => va_Nw.warmF hW (h3 q hq), fun q hq => va_Nw.warmM hW (h4 q hq), fun k a1 a2 => ?_⟩
  obtain ⟨z1, z2⟩ := h5 k a1 a2
  exact ⟨(z1.moved hW.alike).kept hS.2.1, (z2.moved hW.alike).kept hS.2.1⟩
theorem pm_blind {D : va_G} {cs : pm_Cs} {ad : Nat → Nat → Nat} {sz : Nat} {as : List pm_V} {w : pm_W} : FrameBlind (pm_Pc D cs ad sz as w) := fun _ _ _ _ q => ⟨q.1, pm_E_call q.2.1, q.2.2⟩
theorem pm_popn_spec : ∀ (n : Nat) (st a as t : List pm_V), pm_popn n st a = some (as, t) → ∃ pre, pre.length = n ∧ st = pre ++ t ∧ as = pre.reverse ++ a
  | 0, st, a, as, t, h => by
    have h := Option.some.inj h
    cases h
    exact ⟨[], rfl, rfl, rfl⟩
  | n + 1, [], a, as, t, h => by cases h
  | n + 1, v :: st, a, as, t, h => by
    obtain ⟨pre, h1, h2, h3⟩ := pm_popn_spec n st (v :: a) as t h
    exact ⟨v :: pre, by simp [h1], by simp [h2], by simp [h3]⟩
theorem pm_cat_sum (ad : Nat → Nat → Nat) (t : List pm_V) : ((t.map (pm_tv ad)).map fun v => v.category).sum = pm_cat t := by
  induction t with
  | nil => rfl
  | cons v t ih => simp only [List.map_cons, List.sum_cons, ih, pm_tv_cat]; rfl
theorem pm_rets_map (ad : Nat → Nat → Nat) (r : Option pm_V) (t : List pm_V) : (pm_rets r t).map (pm_tv ad) = (r.map (pm_tv ad)).toList ++ t.map (pm_tv ad) := by
  cases r <;> rfl
theorem pm_rets_ok {r : Option pm_V} {t : List pm_V} (h : pm_okR r) (ht : pm_okS t) : pm_okS (pm_rets r t) := by
  cases r with
  | none => exact ht
  | some v => exact pm_okS_c (h v rfl) ht
def pm_swok (b : Nat) (bp : List Nat) : Int → List Int → List (Int32 × Nat) → Bool
  | _, [], [] => true
  | lo, o :: os, (c, g) :: r => decide (c.toInt = lo) && (decide ((b : Int) + o = ((pm_nth 0 bp g : Nat) : Int)) && pm_swok b bp (lo + 1) os r)
  | _, _, _ => false
theorem pm_sw_spec {b : Nat} {bp : List Nat} {x : Int32} {Y : Nat → Prop} {d : Nat} : ∀ (lo : Int) (os : List Int) (cs : List (Int32 × Nat)), pm_swok b bp lo os cs = true → pm_sw x Y d cs → ((x.toInt < lo ∨ lo + os.length ≤ x.toInt) ∧ Y d) ∨ ∃ (t : Nat) (o : Int) (g : Nat), x.toInt = lo + t ∧ os[t]? = some o ∧ (b : Int) + o = ((pm_nth 0 bp g : Nat) : Int) ∧ Y g
  | lo, [], [], _, h => Or.inl ⟨by rcases Int.lt_or_le x.toInt lo with z | z; exact Or.inl z; right; simpa using z, h⟩
  | lo, o :: os, (c, g) :: r, hk, h => by
    unfold pm_swok at hk
    simp only [Bool.and_eq_true, decide_eq_true_eq] at hk
    unfold pm_sw at h
    by_cases hx : x = c
    · rw [if_pos hx] at h
      exact Or.inr ⟨0, o, g, by rw [hx, hk.1]; simp, rfl, hk.2.1, h⟩
    · rw [if_neg hx] at h
      have hne : x.toInt ≠ lo := fun z => hx (Int32.toInt_inj.mp (z.trans hk.1.symm))
      rcases pm_sw_spec (lo + 1) os r hk.2.2 h with ⟨h1, h2⟩ | ⟨t, o2, g2, h1, h2, h3, h4⟩
      · refine Or.inl ⟨?_, h2⟩
        simp only [List.length_cons]
        rcases h1 with z | z
        · left; omega
        · right; omega
      · exact Or.inr ⟨t + 1, o2, g2, by rw [h1]; omega, by simpa using h2, h3, h4⟩
  | _, [], _ :: _, hk, _ => by unfold pm_swok at hk; cases hk
  | _, _ :: _, [], hk, _ => by unfold pm_swok at hk; cases hk
section PMT
variable {p : Program} {l : Launch} {e : Env} {R : Room} {s : State} {m : MethodId} {args : Array Value} {below : List Frame} {meth : Method} {c : Code} {cells slots : Nat} {Qm : State → Prop} {D : va_G} {cs : pm_Cs} {ad : Nat → Nat → Nat} {sz nL : Nat} {own : String} {cc : ByteArray} {bp : List Nat} {HQ : pm_Q → Prop} {HK : pm_C → Prop}
set_option maxHeartbeats 1000000 in
theorem pm_s_tsw (C : pm_X p s m args c D cs ad sz own cc nL) {i : Nat} {g : Nat} {dflt lo hi : Int} {offs : Array Int} {len : Nat} {ks : List (Int32 × Nat)} (hd : decode cc (pm_nth 0 bp i) = .ok (.tableswitch dflt lo hi offs, len)) (ht : ((pm_nth 0 bp i : Nat) : Int) + dflt = ((pm_nth 0 bp g : Nat) : Int)) (hk : pm_swok (pm_nth 0 bp i) bp lo offs.toList ks = true) (hh : lo + offs.toList.length = hi + 1) : pm_S (pm_F p l e R s m args below meth c cells slots Qm D cs ad sz nL bp) HQ HK i (pm_tsw g ks) := by
  intro ls st w X Q K h hX hQ hK hw hoL hoS hl H locs lsM hP hS hlv
  obtain ⟨hx, hb, hml, hown, hts, hE, hG⟩ := C
  unfold pm_tsw at h
  split at h
  · rename_i x t
    rcases pm_sw_spec lo offs.toList ks hk h with ⟨h1, h2⟩ | ⟨t2, o, g2, h1, h2, h3, h4⟩
    · have g9 := hX _ _ _ _ h2 hw hoL (pm_okS_t hoS) hl H locs lsM hP hS hlv
      refine lv_tableOut hx hb hd ?_ ht g9
      rcases h1 with z | z
      · exact Or.inl z
      · right; omega
    · have g9 := hX _ _ _ _ h4 hw hoL (pm_okS_t hoS) hl H locs lsM hP hS hlv
      have hlt := (List.getElem?_eq_some_iff.mp h2).1
      refine lv_tableIn hx hb hd (by omega) (by omega) ?_ h3 g9
      rw [show (x.toInt - lo).toNat = t2 by omega, ← Array.getElem?_toList]
      exact h2
  · exact h.elim
set_option maxHeartbeats 1000000 in
theorem pm_s_slen (C : pm_X p s m args c D cs ad sz own cc nL) {i : Nat} {L : Nat} {xs : Nat → Int32} (hXs : va_X (ad 39 0) L xs s s.heap) (hbl : ad 39 0 < s.heap.size) (hbA : ¬ pm_A sz (ad 39 0)) (hd : decode cc (pm_nth 0 bp i) = .ok (.arraylength, 1)) (hn : pm_nth 0 bp (i + 1) = pm_nth 0 bp i + 1) : pm_S (pm_F p l e R s m args below meth c cells slots Qm D cs ad sz nL bp) HQ HK i (pm_slen L) := by
  intro ls st w X Q K h hX hQ hK hw hoL hoS hl H locs lsM hP hS hlv
  obtain ⟨hx, hb, hml, hown, hts, hE, hG⟩ := C
  unfold pm_slen at h
  split at h
  · rename_i k j t
    cases hcnd : Nat.beq k 39 with
    | false => rw [hcnd] at h; exact h.elim
    | true =>
      rw [hcnd] at h
      have e1 := Nat.eq_of_beq_eq_true hcnd
      subst e1
      have hj : j < 1 := pm_okS_h hoS
      have e2 : j = 0 := by omega
      subst e2
      have g := hX _ _ _ _ h hw hoL (pm_okS_c trivial (pm_okS_t hoS)) hl H locs lsM hP hS hlv
      rw [hn] at g
      exact va_slen hx hb hXs hbl hbA hS hd g
  · exact h.elim
set_option maxHeartbeats 1000000 in
theorem pm_s_sald (C : pm_X p s m args c D cs ad sz own cc nL) {i : Nat} {L : Nat} {xs : Nat → Int32} (hXs : va_X (ad 39 0) L xs s s.heap) (hbl : ad 39 0 < s.heap.size) (hbA : ¬ pm_A sz (ad 39 0)) (hd : decode cc (pm_nth 0 bp i) = .ok (.iaload, 1)) (hn : pm_nth 0 bp (i + 1) = pm_nth 0 bp i + 1) : pm_S (pm_F p l e R s m args below meth c cells slots Qm D cs ad sz nL bp) HQ HK i (pm_sald L xs) := by
  intro ls st w X Q K h hX hQ hK hw hoL hoS hl H locs lsM hP hS hlv
  obtain ⟨hx, hb, hml, hown, hts, hE, hG⟩ := C
  unfold pm_sald at h
  split at h
  · rename_i x k j t
    cases hcnd : Nat.beq k 39 with
    | false => rw [hcnd] at h; exact h.elim
    | true =>
      rw [hcnd] at h
      obtain ⟨hi, h⟩ := h
      have e1 := Nat.eq_of_beq_eq_true hcnd
      subst e1
      have hj : j < 1 := pm_okS_h (pm_okS_t hoS)
      have e2 : j = 0 := by omega
      subst e2
      have g := hX _ _ _ _ h hw hoL (pm_okS_c trivial (pm_okS_t (pm_okS_t hoS))) hl H locs lsM hP hS hlv
      rw [hn] at g
      exact va_sld hx hb hXs hbl hbA hS hi hd g
  · exact h.elim
end PMT
section PMC
variable {p : Program} {l : Launch} {e : Env} {R : Room} {s : State} {m : MethodId} {args : Array Value} {below : List Frame} {meth : Method} {c : Code} {cells slots : Nat} {Qm : State → Prop} {D : va_G} {cs : pm_Cs} {ad : Nat → Nat → Nat} {sz : Nat} {H H0 : Heap} {locs : List Loc} {pc : Nat} {ls : Array Slot} {st0 rest : List Value} {r : Option pm_V} {w1 : pm_W} {a : Array Value}
theorem pm_callg (hr : va_Run p l e R s m args below meth c H locs cells slots 0 0 (F0 m pc ls st0) rest (pm_Qc D cs ad sz r w1 a) (pm_A sz)) (hS : va_S (pm_A sz) H0 H locs)
    (kk : pm_wok w1 → pm_okR r → ∀ (H1 : Heap) (locs1 : List Loc), va_P D vwCl (pm_wl ad cs w1) H1 → va_S (pm_A sz) H0 H1 locs1 → W p l e R s m args below meth c H1 locs1 cells slots Qm (F0 m (pc + 3) ls ((r.map (pm_tv ad)).toList ++ rest))) : W p l e R s m args below meth c H locs cells slots Qm (F0 m pc ls st0) := by
  intro T hT X
  obtain ⟨v, st₀, t, T', L, h0, X', hL, e1, e2, ⟨hv, hwok, hrok, hp, hz, hk⟩, st⟩ := hr T hT X
  cases hv
  rw [h0] at hz hk
  obtain ⟨t2, a1, b1⟩ := kk hwok hrok T'.heap (locs ++ L) (by rw [e1]; exact hp)
    ⟨Nat.le_trans hS.1 (by rw [e1]; exact hz), fun q h1 h2 => by rw [e1, hk q (Nat.lt_of_lt_of_le h1 hS.1) h2]; exact hS.2.1 q h1 h2, fun q hq => by
      rcases List.mem_append.mp hq with h | h
      · exact hS.2.2 q h
      · exact hL q h⟩ T' rfl X'
  exact ⟨t2, st t2 a1, b1⟩
end PMC
section PMV
variable {p : Program} {l : Launch} {e : Env} {R : Room} {s : State} {m : MethodId} {args : Array Value} {below : List Frame} {meth : Method} {c : Code} {cells slots : Nat} {Qm : State → Prop} {D : va_G} {cs : pm_Cs} {ad : Nat → Nat → Nat} {sz nL : Nat} {own : String} {cc : ByteArray} {bp : List Nat} {HQ : pm_Q → Prop}
set_option maxHeartbeats 1000000 in
theorem pm_s_callS {d : Nat} (C : pm_X p s m args c D cs ad sz own cc nL) (hR : d + 1 ≤ R.frames ∧ 60 * (d + 1) ≤ R.locals ∧ cells ≤ R.cells ∧ slots ≤ R.slots) {i : Nat} {y na n : Nat} (hd : decode cc (pm_nth 0 bp i) = .ok (.invokestatic n, 3)) (hlk : Cond.methodLink own n (pm_m y).1 ∈ wAll) (hst : Cond.static (pm_m y).1 ∈ wAll) (hini : Cond.initialized (pm_m y).1.cls ∈ wAll) (hcw : Cond.code (pm_m y).1 (pm_m y).2.1 (pm_m y).2.2.1 (pm_m y).2.2.2 ∈ wAll) (hdd : (pm_m y).1.cls ≠ "java/lang/invoke/MethodHandle" ∧ (pm_m y).1.cls ≠ "java/lang/invoke/VarHandle" ∧ (parseMethodDescriptor (pm_m y).1.desc).map (fun d => d.parameters.length) = some na) (hmx : (pm_m y).2.2.1 ≤ 41) (hn : pm_nth 0 bp (i + 1) = pm_nth 0 bp i + 3) : pm_S (pm_F p l e R s m args below meth c cells slots Qm D cs ad sz nL bp) HQ (pm_HK l D cs ad sz d) i (pm_callS y na) := by
  intro ls st w X Q K h hX hQ hK hw hoL hoS hl H locs lsM hP hS hlv
  obtain ⟨hx, hb, hml, hown, hts, hE, hG⟩ := C
  unfold pm_callS at h
  split at h
  · rename_i as t hpop
    cases hcnd : Nat.ble (pm_cat t) 8 with
    | false => rw [hcnd] at h; exact h.elim
    | true =>
      rw [hcnd] at h
      obtain ⟨r, w1, hK1, h⟩ := h
      obtain ⟨pre, h1, h2, h3⟩ := pm_popn_spec na st [] as t hpop
      rw [List.append_nil] at h3
      have hoa : pm_okS as := fun v hv => hoS v (by rw [h2]; rw [h3] at hv; exact List.mem_append_left _ (List.mem_reverse.mp hv))
      have hot : pm_okS t := fun v hv => hoS v (by rw [h2]; exact List.mem_append_right _ hv)
      have hgood : GoodIn wAll (pm_mw y) := fun z hz => by
        rcases List.mem_cons.mp hz with e9 | e9
        · rw [e9]; exact ⟨hcw, wAll_good _ hcw⟩
        · exact ⟨e9, wAll_good _ e9⟩
      have hM := hK y as w r w1 hK1 hw hoa
      refine pm_callg (va_runS (As := as.map (pm_tv ad)) (rest := t.map (pm_tv ad)) (bytes := (pm_m y).2.1) (maxL := (pm_m y).2.2.1) (ret := (pm_m y).2.2.2) ⟨hx, hb, hml, hown, hts⟩ hM ⟨callB_of na hts hgood rfl rfl rfl (hts _ hini) (hts _ hlk) hdd ⟨hR.1, by show 8 + ((pm_m y).2.2.1 + 11) + 60 * d ≤ R.locals; omega⟩, hts _ hst⟩ ⟨pm_blind, fun U hU hW => ⟨rfl, pm_E_warm hE hW (by rw [hU]; exact hS), by rw [hU]; exact hP⟩⟩ rfl (by simp [h3, h1]) hlv.1 (by rw [h2, h3]; simp) (lv_room (by rw [pm_cat_sum]; exact Nat.le_of_ble_eq_true hcnd)) hd ⟨hR.2.2.1, hR.2.2.2⟩) hS (fun hw1 hr1 H1 locs1 hP1 hS1 => ?_)
      have g := hX _ _ _ _ h hw1 hoL (pm_rets_ok hr1 hot) hl H1 locs1 lsM hP1 hS1 hlv
      rw [hn, pm_rets_map] at g
      exact g
  · exact h.elim
set_option maxHeartbeats 1000000 in
theorem pm_s_callSN {d : Nat} (C : pm_X p s m args c D cs ad sz own cc nL) (hR : d + 1 ≤ R.frames ∧ 60 * (d + 1) ≤ R.locals ∧ cells ≤ R.cells ∧ slots ≤ R.slots) {i : Nat} {y na n : Nat} (hd : decode cc (pm_nth 0 bp i) = .ok (.invokestatic n, 3)) {host : String} (hlk : (own, n, (pm_m y).1, host) ∈ pm_nM) (hst : Cond.static (pm_m y).1 ∈ wAll) (hini : Cond.initialized (pm_m y).1.cls ∈ wAll) (hcw : Cond.code (pm_m y).1 (pm_m y).2.1 (pm_m y).2.2.1 (pm_m y).2.2.2 ∈ wAll) (hdd : (pm_m y).1.cls ≠ "java/lang/invoke/MethodHandle" ∧ (pm_m y).1.cls ≠ "java/lang/invoke/VarHandle" ∧ (parseMethodDescriptor (pm_m y).1.desc).map (fun d => d.parameters.length) = some na) (hmx : (pm_m y).2.2.1 ≤ 41) (hn : pm_nth 0 bp (i + 1) = pm_nth 0 bp i + 3) : pm_S (pm_F p l e R s m args below meth c cells slots Qm D cs ad sz nL bp) HQ (pm_HK l D cs ad sz d) i (pm_callS y na) := by
  intro ls st w X Q K h hX hQ hK hw hoL hoS hl H locs lsM hP hS hlv
  obtain ⟨hx, hb, hml, hown, hts, hE, hG⟩ := C
  unfold pm_callS at h
  split at h
  · rename_i as t hpop
    cases hcnd : Nat.ble (pm_cat t) 8 with
    | false => rw [hcnd] at h; exact h.elim
    | true =>
      rw [hcnd] at h
      obtain ⟨r, w1, hK1, h⟩ := h
      obtain ⟨pre, h1, h2, h3⟩ := pm_popn_spec na st [] as t hpop
      rw [List.append_nil] at h3
      have hoa : pm_okS as := fun v hv => hoS v (by rw [h2]; rw [h3] at hv; exact List.mem_append_left _ (List.mem_reverse.mp hv))
      have hot : pm_okS t := fun v hv => hoS v (by rw [h2]; exact List.mem_append_right _ hv)
      have hgood : GoodIn wAll (pm_mw y) := fun z hz => by
        rcases List.mem_cons.mp hz with e9 | e9
        · rw [e9]; exact ⟨hcw, wAll_good _ hcw⟩
        · exact ⟨e9, wAll_good _ e9⟩
      have hM := hK y as w r w1 hK1 hw hoa
      refine pm_callg (va_runSN (As := as.map (pm_tv ad)) (rest := t.map (pm_tv ad)) (bytes := (pm_m y).2.1) (maxL := (pm_m y).2.2.1) (ret := (pm_m y).2.2.2) ⟨hx, hb, hml, hown, hts⟩ hM ⟨va_cnB (na) hts hgood rfl rfl rfl (hE.2.2.2.1 _ hlk) (hts _ hini) hdd ⟨hR.1, by show 8 + ((pm_m y).2.2.1 + 11) + 60 * d ≤ R.locals; omega⟩, hts _ hst, trivial⟩ ⟨pm_blind, fun U hU hW => ⟨rfl, pm_E_warm hE hW (by rw [hU]; exact hS), by rw [hU]; exact hP⟩⟩ rfl (by simp [h3, h1]) hlv.1 (by rw [h2, h3]; simp) (lv_room (by rw [pm_cat_sum]; exact Nat.le_of_ble_eq_true hcnd)) hd ⟨hR.2.2.1, hR.2.2.2⟩) hS (fun hw1 hr1 H1 locs1 hP1 hS1 => ?_)
      have g := hX _ _ _ _ h hw1 hoL (pm_rets_ok hr1 hot) hl H1 locs1 lsM hP1 hS1 hlv
      rw [hn, pm_rets_map] at g
      exact g
  · exact h.elim
set_option maxHeartbeats 1000000 in
theorem pm_s_callV {d : Nat} (C : pm_X p s m args c D cs ad sz own cc nL) (hR : d + 1 ≤ R.frames ∧ 60 * (d + 1) ≤ R.locals ∧ cells ≤ R.cells ∧ slots ≤ R.slots) {i : Nat} {ci y na n : Nat} {C0 : String} {T0 : u_T} {N : Nat} (hc : vwCl[ci]? = some (C0, T0, N)) (hd : decode cc (pm_nth 0 bp i) = .ok (.invokevirtual n, 3)) (hlk : Cond.methodLink own n (pm_m y).1 ∈ wAll) (hin : Cond.instanceMethod (pm_m y).1 ∈ wAll) (hse : Cond.selects C0 (pm_m y).1 (pm_m y).1 ∈ wAll) (hini : Cond.initialized (pm_m y).1.cls ∈ wAll) (hcw : Cond.code (pm_m y).1 (pm_m y).2.1 (pm_m y).2.2.1 (pm_m y).2.2.2 ∈ wAll) (hdd : (pm_m y).1.cls ≠ "java/lang/invoke/MethodHandle" ∧ (pm_m y).1.cls ≠ "java/lang/invoke/VarHandle" ∧ (parseMethodDescriptor (pm_m y).1.desc).map (fun d => d.parameters.length) = some na) (hmx : (pm_m y).2.2.1 ≤ 41) (hn : pm_nth 0 bp (i + 1) = pm_nth 0 bp i + 3) : pm_S (pm_F p l e R s m args below meth c cells slots Qm D cs ad sz nL bp) HQ (pm_HK l D cs ad sz d) i (pm_callV ci y (na + 1)) := by
  intro ls st w X Q K h hX hQ hK hw hoL hoS hl H locs lsM hP hS hlv
  obtain ⟨hx, hb, hml, hown, hts, hE, hG⟩ := C
  unfold pm_callV at h
  split at h
  · rename_i as t hpop
    cases hcnd : pm_hd ci as && Nat.ble (pm_cat t) 8 with
    | false => rw [hcnd] at h; exact h.elim
    | true =>
      rw [hcnd] at h
      rw [Bool.and_eq_true] at hcnd
      obtain ⟨r, w1, hK1, h⟩ := h
      obtain ⟨pre, h1, h2, h3⟩ := pm_popn_spec (na + 1) st [] as t hpop
      rw [List.append_nil] at h3
      have hoa : pm_okS as := fun v hv => hoS v (by rw [h2]; rw [h3] at hv; exact List.mem_append_left _ (List.mem_reverse.mp hv))
      have hot : pm_okS t := fun v hv => hoS v (by rw [h2]; exact List.mem_append_right _ hv)
      have hgood : GoodIn wAll (pm_mw y) := fun z hz => by
        rcases List.mem_cons.mp hz with e9 | e9
        · rw [e9]; exact ⟨hcw, wAll_good _ hcw⟩
        · exact ⟨e9, wAll_good _ e9⟩
      have hM := hK y as w r w1 hK1 hw hoa
      have hpre : pre = as.reverse := by rw [h3, List.reverse_reverse]
      obtain ⟨k, j, as2, has, hkc⟩ : ∃ k j as2, as = .inr (.inr (k, j)) :: as2 ∧ Nat.beq (pm_kc k) (ci + 1) = true := by
        rcases as with _ | ⟨v | v | ⟨k, j⟩, as2⟩
        · exact absurd hcnd.1 (by simp [pm_hd])
        · exact absurd hcnd.1 (by simp [pm_hd])
        · exact absurd hcnd.1 (by simp [pm_hd])
        · exact ⟨k, j, as2, rfl, hcnd.1⟩
      obtain ⟨a1, a2, a3, a4⟩ := pm_kc_spec hkc
      have hj : j < pm_cnt k := hoa (.inr (.inr (k, j))) (by rw [has]; exact List.mem_cons_self)
      obtain ⟨q0, -, he⟩ := pm_wl_at (ad := ad) (cs := cs) (w := w) a1 hj
      rw [pm_cell0 a2 a3] at he
      have hlen : as2.length = na := by
        have := h1
        rw [hpre, List.length_reverse, has, List.length_cons] at this
        omega
      rw [has] at hM
      refine pm_callg (va_runV (C := C0) (b := ad k j) (As := as2.map (pm_tv ad)) (rest := t.map (pm_tv ad)) (bytes := (pm_m y).2.1) (maxL := (pm_m y).2.2.1) (ret := (pm_m y).2.2.2) ⟨hx, hb, hml, hown, hts⟩ hM ⟨callB_of na hts hgood rfl rfl rfl (hts _ hini) (hts _ hlk) hdd ⟨hR.1, by show 8 + ((pm_m y).2.2.1 + 11) + 60 * d ≤ R.locals; omega⟩, hts _ hin, hts _ hse⟩ ⟨pm_blind, va_recv hE.2.1 hP hc he, fun U hU hW => ⟨rfl, pm_E_warm hE hW (by rw [hU]; exact hS), by rw [hU]; exact hP⟩⟩ rfl (by rw [List.length_map]; exact hlen) hlv.1 (by rw [h2, hpre, has]; simp [pm_tv]) (lv_room (by rw [pm_cat_sum]; exact Nat.le_of_ble_eq_true hcnd.2)) hd ⟨hR.2.2.1, hR.2.2.2⟩) hS (fun hw1 hr1 H1 locs1 hP1 hS1 => ?_)
      have g := hX _ _ _ _ h hw1 hoL (pm_rets_ok hr1 hot) hl H1 locs1 lsM hP1 hS1 hlv
      rw [hn, pm_rets_map] at g
      exact g
  · exact h.elim
end PMV
