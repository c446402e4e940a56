/-! ===== soundness: returns, runs, methods by depth ===== -/
def pm_HQ (F : pm_K) (cc : ByteArray) (bp : List Nat) (ret : Option FieldType) (Q : pm_Q) : Prop :=
  (∀ i ls x w, decode cc (pm_nth 0 bp i) = .ok (.ireturn, 1) → (∃ ty, ret = some ty ∧ narrow ty (.int x) = .int x) → Q (some (.inl x)) w → F i ls [.inl x] w) ∧
  (∀ i ls x w, decode cc (pm_nth 0 bp i) = .ok (.lreturn, 1) → ret = some .long → Q (some (.inr (.inl x))) w → F i ls [.inr (.inl x)] w) ∧
  (∀ i ls x w, decode cc (pm_nth 0 bp i) = .ok (.areturn, 1) → (∃ n, ret = some (.object n)) → Q (some (.inr (.inr x))) w → F i ls [.inr (.inr x)] w) ∧
  ∀ i ls w, decode cc (pm_nth 0 bp i) = .ok (.return_, 1) → ret = none → Q none w → F i ls [] w
section PMR
variable {F : pm_K} {cc : ByteArray} {bp : List Nat} {ret : Option FieldType} {HK : pm_C → Prop} {i : Nat}
theorem pm_s_iret (hd : decode cc (pm_nth 0 bp i) = .ok (.ireturn, 1)) (hr : ret = some .int) : pm_S F (pm_HQ F cc bp ret) HK i pm_iret := by
  intro ls st w X Q K h hX hQ hK
  unfold pm_iret at h
  split at h
  · exact hQ.1 i ls _ w hd ⟨.int, hr, rfl⟩ h
  · exact h.elim
theorem pm_s_zret (hd : decode cc (pm_nth 0 bp i) = .ok (.ireturn, 1)) (hr : ret = some .boolean) : pm_S F (pm_HQ F cc bp ret) HK i pm_zret := by
  intro ls st w X Q K h hX hQ hK
  unfold pm_zret at h
  split at h
  · exact hQ.1 i ls _ w hd ⟨.boolean, hr, h.1⟩ h.2
  · exact h.elim
theorem pm_s_lret (hd : decode cc (pm_nth 0 bp i) = .ok (.lreturn, 1)) (hr : ret = some .long) : pm_S F (pm_HQ F cc bp ret) HK i pm_lret := by
  intro ls st w X Q K h hX hQ hK
  unfold pm_lret at h
  split at h
  · exact hQ.2.1 i ls _ w hd hr h
  · exact h.elim
theorem pm_s_aret {n : String} (hd : decode cc (pm_nth 0 bp i) = .ok (.areturn, 1)) (hr : ret = some (.object n)) : pm_S F (pm_HQ F cc bp ret) HK i pm_aret := by
  intro ls st w X Q K h hX hQ hK
  unfold pm_aret at h
  split at h
  · exact hQ.2.2.1 i ls _ w hd ⟨n, hr⟩ h
  · exact h.elim
theorem pm_s_vret (hd : decode cc (pm_nth 0 bp i) = .ok (.return_, 1)) (hr : ret = none) : pm_S F (pm_HQ F cc bp ret) HK i pm_vret := by
  intro ls st w X Q K h hX hQ hK
  unfold pm_vret at h
  split at h
  · exact hQ.2.2.2 i ls w hd hr h
  · exact h.elim
end PMR
def pm_All (P : Nat → pm_Op → Prop) : Nat → List pm_Op → Prop
  | _, [] => True
  | k, o :: t => P k o ∧ pm_All P (k + 1) t
theorem pm_All_nth {P : Nat → pm_Op → Prop} : ∀ (k : Nat) (c : List pm_Op), pm_All P k c → ∀ i, i < c.length → P (k + i) (pm_nth pm_bad c i)
  | _, [], _, i, h => absurd h (by simp)
  | k, o :: t, ha, 0, _ => ha.1
  | k, o :: t, ha, i + 1, h => by
    have := pm_All_nth (k + 1) t ha.2 i (by simp at h; omega)
    rw [show k + 1 + i = k + (i + 1) by omega] at this
    exact this
theorem pm_Gn_F {F : pm_K} {HQ : pm_Q → Prop} {HK : pm_C → Prop} {c : List pm_Op} (ha : pm_All (pm_S F HQ HK) 0 c) {K : pm_C} {Q : pm_Q} (hQ : HQ Q) (hK : HK K) : ∀ (n i : Nat) (ls : pm_L) (st : List pm_V) (w : pm_W), pm_Gn K c Q F n i ls st w → F i ls st w := by
  intro n
  induction n with
  | zero => intro i ls st w h; exact h
  | succ n ih =>
    intro i ls st w h
    by_cases hi : i < c.length
    · have hs := pm_All_nth 0 c ha i hi
      rw [Nat.zero_add] at hs
      exact hs ls st w _ Q K h (fun i2 ls2 st2 w2 h2 => ih i2 ls2 st2 w2 h2) hQ hK
    · unfold pm_Gn at h
      rw [pm_nth_ge pm_bad c i (by omega)] at h
      exact h.elim
theorem pm_le_nth : ∀ (ls ls2 : pm_L), pm_le ls ls2 → ls.length = ls2.length ∧ ∀ k v, pm_nth none ls k = some v → pm_nth none ls2 k = some v
  | [], [], _ => ⟨rfl, fun _ _ h => h⟩
  | a :: t, b :: u, h => by
    obtain ⟨h1, h2⟩ := pm_le_nth t u h.2
    refine ⟨by simp [h1], fun k v hv => ?_⟩
    cases k with
    | zero =>
      have hv : a = some v := hv
      rcases h.1 with z | z
      · rw [z] at hv; cases hv
      · show b = some v
        rw [← z]; exact hv
    | succ k => exact h2 k v hv
  | [], _ :: _, h => h.elim
  | _ :: _, [], h => h.elim
theorem pm_F_mono {p : Program} {l : Launch} {e : Env} {R : Room} {s : State} {m : MethodId} {args : Array Value} {below : List Frame} {meth : Method} {c : Code} {cells slots : Nat} {Qm : State → Prop} {D : va_G} {cs : pm_Cs} {ad : Nat → Nat → Nat} {sz nL : Nat} {bp : List Nat} (i : Nat) (ls ls2 : pm_L) (st : List pm_V) (w : pm_W) (h : pm_le ls ls2) (hF : pm_F p l e R s m args below meth c cells slots Qm D cs ad sz nL bp i ls st w) : pm_F p l e R s m args below meth c cells slots Qm D cs ad sz nL bp i ls2 st w := by
  obtain ⟨h1, h2⟩ := pm_le_nth ls ls2 h
  intro hw hoL hoS hl H locs lsM hP hS hlv
  refine hF hw (fun v hv => ?_) hoS (h1.trans hl) H locs lsM hP hS ⟨hlv.1, hlv.2.1, fun q hq => hlv.2.2 q ?_⟩
  · obtain ⟨k, hk⟩ : ∃ k, pm_nth none ls k = some v := by
      clear hF h2 h1 hoL hl hlv h
      induction ls with
      | nil => cases hv
      | cons a t ih =>
        rcases List.mem_cons.mp hv with z | z
        · exact ⟨0, z.symm⟩
        · obtain ⟨k, hk⟩ := ih z
          exact ⟨k + 1, hk⟩
    exact hoL v (pm_nth_mem (h2 k v hk))
  · obtain ⟨v, e1, e2⟩ := pm_lv_mem.mp hq
    exact pm_lv_mem.mpr ⟨v, h2 _ v e1, e2⟩
def pm_MS (y : Nat) (own : String) (bp : List Nat) (code : List pm_Op) : Prop :=
  ∀ (p : Program) (l : Launch) (e : Env) (R : Room) (s : State) (m : MethodId) (args : Array Value) (below : List Frame) (meth : Method) (c : Code) (cells slots : Nat) (Qm : State → Prop) (D : va_G) (cs : pm_Cs) (ad : Nat → Nat → Nat) (sz d : Nat), pm_X p s m args c D cs ad sz own (pm_m y).2.1 (pm_m y).2.2.1 → (d + 1 ≤ R.frames ∧ 60 * (d + 1) ≤ R.locals ∧ cells ≤ R.cells ∧ slots ≤ R.slots) →
    pm_All (pm_S (pm_F p l e R s m args below meth c cells slots Qm D cs ad sz (pm_m y).2.2.1 bp) (pm_HQ (pm_F p l e R s m args below meth c cells slots Qm D cs ad sz (pm_m y).2.2.1 bp) (pm_m y).2.1 bp (pm_m y).2.2.2) (pm_HK l D cs ad sz d)) 0 code
-- the start
theorem pm_pad_nth : ∀ (n : Nat) (l : pm_L) (k : Nat), pm_nth none (pm_pad n l) k = pm_nth none l k
  | 0, l, k => rfl
  | n + 1, [], 0 => rfl
  | n + 1, [], k + 1 => by
    show pm_nth none (pm_pad n []) k = none
    rw [pm_pad_nth n [] k]; rfl
  | n + 1, a :: t, 0 => rfl
  | n + 1, a :: t, k + 1 => pm_pad_nth n t k
theorem pm_pad_len : ∀ (n : Nat) (l : pm_L), l.length ≤ n → (pm_pad n l).length = n
  | 0, l, h => by simpa [pm_pad] using h
  | n + 1, [], _ => by
    show (pm_pad n []).length + 1 = n + 1
    rw [pm_pad_len n [] (by simp)]
  | n + 1, a :: t, h => by
    show (pm_pad n t).length + 1 = n + 1
    rw [pm_pad_len n t (by simpa using h)]
theorem pm_nth_of_mem {l : pm_L} {v : pm_V} (h : some v ∈ l) : ∃ k, pm_nth none l k = some v := by
  induction l with
  | nil => cases h
  | cons a t ih =>
    rcases List.mem_cons.mp h with z | z
    · exact ⟨0, z.symm⟩
    · obtain ⟨k, hk⟩ := ih z
      exact ⟨k + 1, hk⟩
theorem pm_ents_nth (ad : Nat → Nat → Nat) : ∀ (as : List pm_V) (o k : Nat) (v : pm_V), pm_nth none (pm_ents as) k = some v → v ∈ as ∧ (o + k, pm_tv ad v) ∈ lv_args o (as.map (pm_tv ad))
  | [], _, _, _, h => by cases h
  | .inl x :: t, o, 0, v, h => by
    cases h
    exact ⟨List.mem_cons_self, List.mem_cons_self⟩
  | .inl x :: t, o, k + 1, v, h => by
    obtain ⟨h1, h2⟩ := pm_ents_nth ad t (o + 1) k v h
    refine ⟨List.mem_cons_of_mem _ h1, List.mem_cons_of_mem _ ?_⟩
    rw [show o + (k + 1) = o + 1 + k by omega]
    exact h2
  | .inr (.inr x) :: t, o, 0, v, h => by
    cases h
    exact ⟨List.mem_cons_self, List.mem_cons_self⟩
  | .inr (.inr x) :: t, o, k + 1, v, h => by
    obtain ⟨h1, h2⟩ := pm_ents_nth ad t (o + 1) k v h
    refine ⟨List.mem_cons_of_mem _ h1, List.mem_cons_of_mem _ ?_⟩
    rw [show o + (k + 1) = o + 1 + k by omega]
    exact h2
  | .inr (.inl x) :: t, o, 0, v, h => by
    cases h
    exact ⟨List.mem_cons_self, List.mem_cons_self⟩
  | .inr (.inl x) :: t, o, 1, v, h => by cases h
  | .inr (.inl x) :: t, o, k + 2, v, h => by
    obtain ⟨h1, h2⟩ := pm_ents_nth ad t (o + 2) k v h
    refine ⟨List.mem_cons_of_mem _ h1, List.mem_cons_of_mem _ ?_⟩
    rw [show o + (k + 2) = o + 2 + k by omega]
    exact h2
theorem pm_ents_len (ad : Nat → Nat → Nat) : ∀ (as : List pm_V), (lg_sl (as.map (pm_tv ad))).length = (pm_ents as).length
  | [] => rfl
  | .inl x :: t => by
    have := pm_ents_len ad t
    simp only [lg_sl, List.map_cons, List.flatMap_cons] at this ⊢
    simp [pm_ents, pm_tv, Value.category, ← this]
  | .inr (.inr x) :: t => by
    have := pm_ents_len ad t
    simp only [lg_sl, List.map_cons, List.flatMap_cons] at this ⊢
    simp [pm_ents, pm_tv, Value.category, ← this]
  | .inr (.inl x) :: t => by
    have := pm_ents_len ad t
    simp only [lg_sl, List.map_cons, List.flatMap_cons] at this ⊢
    simp [pm_ents, pm_tv, Value.category, ← this]
set_option maxHeartbeats 1000000 in
theorem pm_met {y : Nat} {own : String} {bp : List Nat} {code : List pm_Op} {d : Nat} (hms : pm_MS y own bp code) (hcls : (pm_m y).1.cls = own) (hb0 : pm_nth 0 bp 0 = 0) (hpl : plainName (pm_m y).1.cls = true ∨ plainFor (pm_m y).1 = true) {l : Launch} {D : va_G} {cs : pm_Cs} {ad : Nat → Nat → Nat} {sz : Nat} (hG : pm_GA ad sz) {K : pm_C} (hK : pm_HK l D cs ad sz d K) {as : List pm_V} {w w1 : pm_W} {r : Option pm_V} (hfit : (pm_ents as).length ≤ (pm_m y).2.2.1) (hgo : pm_Gx K code 0 (pm_ent (pm_m y).2.2.1 as) [] w (fun r1 w2 => r1 = r ∧ w2 = w1)) (hw : pm_wok w) (hoa : pm_okS as) :
    Met l (pm_m y).1 (pm_mw y) (pm_rm (d + 1)) (pm_Pc D cs ad sz as w) (pm_Qc D cs ad sz r w1) 0 0 (pm_A sz) := by
  refine hpl.elim (fun h9 => Met.ofW (cc := (pm_m y).2.1) (maxL := (pm_m y).2.2.1) (ret := (pm_m y).2.2.2) h9 rfl ?_) (fun h9 => va_MetF (cc := (pm_m y).2.1) (maxL := (pm_m y).2.2.1) (ret := (pm_m y).2.2.2) h9 rfl ?_)
  all_goals
    intro p e s m args below meth c s₁ B hml hv
    obtain ⟨rfl, hE, hP⟩ := hv
    have hx := B.exec
    have hb := B.bytes
    have hr := B.returns
    have hts := atoms_spec (ws := pm_mw y) B.pre
    have hown : s.vm.findClass own = some m.cls := by rw [← hcls]; exact findClass_of_methodNamed B.named
    have hlocks := B.notSynchronized
    have hall := hms p l e (headSpec (pm_mw y) (pm_rm (d + 1))).room s m ((as.map (pm_tv ad)).toArray) below meth c 0 0 (MQ below (pm_Qc D cs ad sz r w1) ((as.map (pm_tv ad)).toArray) s 0 0 (pm_A sz)) D cs ad sz d ⟨hx, hb, hml, hown, fun z hz => hts z (List.mem_cons_of_mem _ hz), hE, hG⟩ ⟨Nat.le_refl _, Nat.le_refl _, Nat.le_refl _, Nat.le_refl _⟩
    have hQ : pm_HQ (pm_F p l e (headSpec (pm_mw y) (pm_rm (d + 1))).room s m ((as.map (pm_tv ad)).toArray) below meth c 0 0 (MQ below (pm_Qc D cs ad sz r w1) ((as.map (pm_tv ad)).toArray) s 0 0 (pm_A sz)) D cs ad sz (pm_m y).2.2.1 bp) (pm_m y).2.1 bp (pm_m y).2.2.2 (fun r1 w2 => r1 = r ∧ w2 = w1) := by
      refine ⟨?_, ?_, ?_, ?_⟩
      · rintro i ls x w2 hd ⟨ty, ht, hnar⟩ ⟨rfl, rfl⟩ hw2 hoL hoS hl H locs lsM hP2 hS hlv
        exact W.zret hx hb (hr.trans ht) hnar (fun t hth _ => ⟨rfl, hw2, fun v hv => by cases hv; trivial, by rw [hth]; exact hP2, hS.F hth⟩) hS.2.2 hd
      · rintro i ls x w2 hd ht ⟨rfl, rfl⟩ hw2 hoL hoS hl H locs lsM hP2 hS hlv
        exact W.lret hx hb (hr.trans ht) (fun t hth _ => ⟨rfl, hw2, fun v hv => by cases hv; trivial, by rw [hth]; exact hP2, hS.F hth⟩) hS.2.2 hd
      · rintro i ls x w2 hd ⟨nm, ht⟩ ⟨rfl, rfl⟩ hw2 hoL hoS hl H locs lsM hP2 hS hlv
        exact W.aret hx hb (hr.trans ht) (Or.inl ⟨nm, rfl⟩) (Or.inr ⟨_, rfl⟩) (fun t hth _ => ⟨rfl, hw2, fun v hv => by cases hv; exact pm_okS_h hoS, by rw [hth]; exact hP2, hS.F hth⟩) hS.2.2 hd
      · rintro i ls w2 hd ht ⟨rfl, rfl⟩ hw2 hoL hoS hl H locs lsM hP2 hS hlv
        exact W.vret hx hb (hr.trans ht) (fun t hth _ => ⟨rfl, hw2, pm_okR_n, by rw [hth]; exact hP2, hS.F hth⟩) hS.2.2 hd
    have hF := hgo _ (pm_Gn_F hall hQ hK) pm_F_mono
    rw [lg_entry_eq]
    have hl := lv_entry (as.map (pm_tv ad)) (n := (pm_m y).2.2.1) (by rw [pm_ents_len]; exact hfit)
    generalize (lg_sl (as.map (pm_tv ad)) ++ List.replicate ((pm_m y).2.2.1 - (lg_sl (as.map (pm_tv ad))).length) Slot.unset).toArray = lsM at hl ⊢
    have hlv : lv_has lsM (pm_m y).2.2.1 (pm_lv ad (pm_ent (pm_m y).2.2.1 as)) := by
      refine ⟨hl.1, hl.2.1, fun q hq => hl.2.2 q ?_⟩
      obtain ⟨v, e1, e2⟩ := pm_lv_mem.mp hq
      have e3 := (pm_pad_nth (pm_m y).2.2.1 (pm_ents as) q.1).symm.trans e1
      have := (pm_ents_nth ad as 0 q.1 v e3).2
      rw [Nat.zero_add, ← e2] at this
      exact this
    have hoL : pm_okL (pm_ent (pm_m y).2.2.1 as) := by
      intro v hv
      obtain ⟨k, hk⟩ := pm_nth_of_mem hv
      have e3 := (pm_pad_nth (pm_m y).2.2.1 (pm_ents as) k).symm.trans hk
      exact hoa v (pm_ents_nth ad as 0 k v e3).1
    have := hF hw hoL (fun v hv => by cases hv) (pm_pad_len _ _ hfit) s.heap [] lsM hP va_S.rf hlv
    rw [hb0] at this
    exact this
/-- what a method does, calls going d deep -/
def pm_Rt (codes : List (List pm_Op)) : Nat → pm_C
  | 0 => fun _ _ _ _ _ => False
  | d + 1 => fun y as w r w1 => y < codes.length ∧ (pm_ents as).length ≤ (pm_m y).2.2.1 ∧ pm_Gx (pm_Rt codes d) (pm_nth [] codes y) 0 (pm_ent (pm_m y).2.2.1 as) [] w (fun r1 w2 => r1 = r ∧ w2 = w1)
theorem pm_sound {codes : List (List pm_Op)} (hco : ∀ y, y < codes.length → ∃ own bp, pm_MS y own bp (pm_nth [] codes y) ∧ (pm_m y).1.cls = own ∧ pm_nth 0 bp 0 = 0 ∧ (plainName (pm_m y).1.cls = true ∨ plainFor (pm_m y).1 = true)) {l : Launch} {D : va_G} {cs : pm_Cs} {ad : Nat → Nat → Nat} {sz : Nat} (hG : pm_GA ad sz) : ∀ d, pm_HK l D cs ad sz d (pm_Rt codes d) := by
  intro d
  induction d with
  | zero => intro y as w r w1 h; exact h.elim
  | succ d ih =>
    rintro y as w r w1 ⟨h1, h2, h3⟩ hw hoa
    obtain ⟨own, bp, a1, a2, a3, a4⟩ := hco y h1
    exact pm_met a1 a2 a3 a4 hG ih h2 h3 hw hoa
