/-! ===== soundness, an instruction at a time ===== -/
def pm_sn (k : Nat) : String := pm_nth "" ["GROWTH", "TENS", "FACTORIALS"] (k - 36)
def pm_tys (cs : pm_Cs) : List (ClassId × FieldType) := [(cs.1, .int), (cs.2.1, .boolean), (cs.2.2, .object "LeafTable$Seats")]
/-- what a state's tables and statics are -/
def pm_E (D : va_G) (cs : pm_Cs) (ad : Nat → Nat → Nat) (sz : Nat) (U : State) : Prop :=
  sz ≤ U.heap.size ∧ va_K D vwCl (pm_tys cs) U ∧ (∀ q ∈ pm_nF, va_Nw (.fieldLinkNest q.1 q.2.1 q.2.2.1 q.2.2.2.1 q.2.2.2.2.1 q.2.2.2.2.2) U) ∧ (∀ q ∈ pm_nM, va_Nw (.methodLinkNest q.1 q.2.1 q.2.2.1 q.2.2.2) U) ∧
  ∀ k, 36 ≤ k → k < 39 → va_Z "LeafTable" (pm_sn k) "[I" (.ref (ad k 0)) (pm_A sz) U U.heap ∧ va_T .int (ad k 0) (pm_al k) (fun n => .int (pm_st k n)) (pm_A sz) U U.heap
/-- what holds of a method's frame -/
def pm_X (p : Program) (s : State) (m : MethodId) (args : Array Value) (c : Code) (D : va_G) (cs : pm_Cs) (ad : Nat → Nat → Nat) (sz : Nat) (own : String) (cc : ByteArray) (nL : Nat) : Prop :=
  p.tables.exec = Jvm.exec ∧ c.code = cc ∧ c.maxLocals = nL ∧ s.vm.findClass own = some m.cls ∧ (∀ w ∈ wAll, w.before args s = true) ∧ pm_E D cs ad sz s ∧ pm_GA ad sz
/-- the machine comes to its end from here -/
def pm_F (p : Program) (l : Launch) (e : Env) (R : Room) (s : State) (m : MethodId) (args : Array Value) (below : List Frame) (meth : Method) (c : Code) (cells slots : Nat) (Qm : State → Prop) (D : va_G) (cs : pm_Cs) (ad : Nat → Nat → Nat) (sz nL : Nat) (bp : List Nat) : pm_K := fun i ls st w =>
  pm_wok w → pm_okL ls → pm_okS st → ls.length = nL → ∀ (H : Heap) (locs : List Loc) (lsM : Array Slot), va_P D vwCl (pm_wl ad cs w) H → va_S (pm_A sz) s.heap H locs → lv_has lsM nL (pm_lv ad ls) →
    W p l e R s m args below meth c H locs cells slots Qm (F0 m (pm_nth 0 bp i) lsM (st.map (pm_tv ad)))
def pm_S (F : pm_K) (HQ : pm_Q → Prop) (HK : pm_C → Prop) (i : Nat) (op : pm_Op) : Prop := ∀ (ls : pm_L) (st : List pm_V) (w : pm_W) (X : pm_K) (Q : pm_Q) (K : pm_C), op i ls st w X Q K → (∀ i' ls' st' w', X i' ls' st' w' → F i' ls' st' w') → HQ Q → HK K → F i ls st w
section PMS
variable {p : Program} {l : Launch} {e : Env} {R : Room} {s : State} {m : MethodId} {args : Array Value} {below : List Frame} {meth : Method} {c : Code} {cells slots : Nat} {Qm : State → Prop} {D : va_G} {cs : pm_Cs} {ad : Nat → Nat → Nat} {sz nL : Nat} {own : String} {cc : ByteArray} {bp : List Nat} {HQ : pm_Q → Prop} {HK : pm_C → Prop}
set_option maxHeartbeats 1000000 in
theorem pm_s_iconst (C : pm_X p s m args c D cs ad sz own cc nL) {i : Nat} {n : Int} {v : Int32} (hd : decode cc (pm_nth 0 bp i) = .ok (.iconst n, 1)) (hv : Int32.ofInt n = v) (hn : pm_nth 0 bp (i + 1) = pm_nth 0 bp i + 1) : pm_S (pm_F p l e R s m args below meth c cells slots Qm D cs ad sz nL bp) HQ HK i (pm_push v) := by
  intro ls st w X Q K h hX hQ hK hw hoL hoS hl H locs lsM hP hS hlv
  obtain ⟨hx, hb, hml, hown, hts, hE, hG⟩ := C
  have g := hX _ _ _ _ h hw hoL (pm_okS_c trivial hoS) hl H locs lsM hP hS hlv
  rw [hn] at g
  exact lv_iconst hx hb hd hv g
set_option maxHeartbeats 1000000 in
theorem pm_s_bipush (C : pm_X p s m args c D cs ad sz own cc nL) {i : Nat} {n : Int} {v : Int32} (hd : decode cc (pm_nth 0 bp i) = .ok (.bipush n, 2)) (hv : (Int8.ofInt n).toInt32 = v) (hn : pm_nth 0 bp (i + 1) = pm_nth 0 bp i + 2) : pm_S (pm_F p l e R s m args below meth c cells slots Qm D cs ad sz nL bp) HQ HK i (pm_push v) := by
  intro ls st w X Q K h hX hQ hK hw hoL hoS hl H locs lsM hP hS hlv
  obtain ⟨hx, hb, hml, hown, hts, hE, hG⟩ := C
  have g := hX _ _ _ _ h hw hoL (pm_okS_c trivial hoS) hl H locs lsM hP hS hlv
  rw [hn] at g
  exact lv_bipush hx hb hd hv g
set_option maxHeartbeats 1000000 in
theorem pm_s_sipush (C : pm_X p s m args c D cs ad sz own cc nL) {i : Nat} {n : Int} {v : Int32} (hd : decode cc (pm_nth 0 bp i) = .ok (.sipush n, 3)) (hv : (Int16.ofInt n).toInt32 = v) (hn : pm_nth 0 bp (i + 1) = pm_nth 0 bp i + 3) : pm_S (pm_F p l e R s m args below meth c cells slots Qm D cs ad sz nL bp) HQ HK i (pm_push v) := by
  intro ls st w X Q K h hX hQ hK hw hoL hoS hl H locs lsM hP hS hlv
  obtain ⟨hx, hb, hml, hown, hts, hE, hG⟩ := C
  have g := hX _ _ _ _ h hw hoL (pm_okS_c trivial hoS) hl H locs lsM hP hS hlv
  rw [hn] at g
  exact lv_sipush hx hb hd hv g
set_option maxHeartbeats 1000000 in
theorem pm_s_ldcw (C : pm_X p s m args c D cs ad sz own cc nL) {i : Nat} {n : Nat} {v : Int32} (hd : decode cc (pm_nth 0 bp i) = .ok (.ldc_w n, 3)) (hv : Cond.constant own n v ∈ wAll) (hn : pm_nth 0 bp (i + 1) = pm_nth 0 bp i + 3) : pm_S (pm_F p l e R s m args below meth c cells slots Qm D cs ad sz nL bp) HQ HK i (pm_push v) := by
  intro ls st w X Q K h hX hQ hK hw hoL hoS hl H locs lsM hP hS hlv
  obtain ⟨hx, hb, hml, hown, hts, hE, hG⟩ := C
  have g := hX _ _ _ _ h hw hoL (pm_okS_c trivial hoS) hl H locs lsM hP hS hlv
  rw [hn] at g
  exact lv_ldcw hx hb hown (hts _ hv) hd g
set_option maxHeartbeats 1000000 in
theorem pm_s_lconst (C : pm_X p s m args c D cs ad sz own cc nL) {i : Nat} {n : Fin 2} {v : Int64} (hd : decode cc (pm_nth 0 bp i) = .ok (.lconst n, 1)) (hv : Int64.ofNat (n : Nat) = v) (hn : pm_nth 0 bp (i + 1) = pm_nth 0 bp i + 1) : pm_S (pm_F p l e R s m args below meth c cells slots Qm D cs ad sz nL bp) HQ HK i (pm_pushl v) := by
  intro ls st w X Q K h hX hQ hK hw hoL hoS hl H locs lsM hP hS hlv
  obtain ⟨hx, hb, hml, hown, hts, hE, hG⟩ := C
  have g := hX _ _ _ _ h hw hoL (pm_okS_c trivial hoS) hl H locs lsM hP hS hlv
  rw [hn] at g
  exact lv_lconst hx hb hd hv g
set_option maxHeartbeats 1000000 in
theorem pm_s_ldc2 (C : pm_X p s m args c D cs ad sz own cc nL) {i : Nat} {n : Nat} {v : Int64} (hd : decode cc (pm_nth 0 bp i) = .ok (.ldc2_w n, 3)) (hv : Cond.constantLong own n v ∈ wAll) (hn : pm_nth 0 bp (i + 1) = pm_nth 0 bp i + 3) : pm_S (pm_F p l e R s m args below meth c cells slots Qm D cs ad sz nL bp) HQ HK i (pm_pushl v) := by
  intro ls st w X Q K h hX hQ hK hw hoL hoS hl H locs lsM hP hS hlv
  obtain ⟨hx, hb, hml, hown, hts, hE, hG⟩ := C
  have g := hX _ _ _ _ h hw hoL (pm_okS_c trivial hoS) hl H locs lsM hP hS hlv
  rw [hn] at g
  exact lv_ldc2 hx hb hown (hts _ hv) hd g
set_option maxHeartbeats 1000000 in
theorem pm_s_iload_n (C : pm_X p s m args c D cs ad sz own cc nL) {i : Nat} {n : Fin 4} {k : Nat} (hd : decode cc (pm_nth 0 bp i) = .ok (.iload_n n, 1)) (hk : (n : Nat) = k) (hn : pm_nth 0 bp (i + 1) = pm_nth 0 bp i + 1) : pm_S (pm_F p l e R s m args below meth c cells slots Qm D cs ad sz nL bp) HQ HK i (pm_iload k) := by
  intro ls st w X Q K h hX hQ hK hw hoL hoS hl H locs lsM hP hS hlv
  obtain ⟨hx, hb, hml, hown, hts, hE, hG⟩ := C
  unfold pm_iload at h
  split at h
  · rename_i x z
    have g := hX _ _ _ _ h hw hoL (pm_okS_c trivial hoS) hl H locs lsM hP hS hlv
    rw [hn] at g
    exact lv_iload_n hx hb hd hk (pm_lv_get hlv z) g
  · exact h.elim
set_option maxHeartbeats 1000000 in
theorem pm_s_iload (C : pm_X p s m args c D cs ad sz own cc nL) {i : Nat} {k : Nat} (hd : decode cc (pm_nth 0 bp i) = .ok (.iload k, 2)) (hn : pm_nth 0 bp (i + 1) = pm_nth 0 bp i + 2) : pm_S (pm_F p l e R s m args below meth c cells slots Qm D cs ad sz nL bp) HQ HK i (pm_iload k) := by
  intro ls st w X Q K h hX hQ hK hw hoL hoS hl H locs lsM hP hS hlv
  obtain ⟨hx, hb, hml, hown, hts, hE, hG⟩ := C
  unfold pm_iload at h
  split at h
  · rename_i x z
    have g := hX _ _ _ _ h hw hoL (pm_okS_c trivial hoS) hl H locs lsM hP hS hlv
    rw [hn] at g
    exact lv_iload hx hb hd (pm_lv_get hlv z) g
  · exact h.elim
set_option maxHeartbeats 1000000 in
theorem pm_s_lload_n (C : pm_X p s m args c D cs ad sz own cc nL) {i : Nat} {n : Fin 4} {k : Nat} (hd : decode cc (pm_nth 0 bp i) = .ok (.lload_n n, 1)) (hk : (n : Nat) = k) (hn : pm_nth 0 bp (i + 1) = pm_nth 0 bp i + 1) : pm_S (pm_F p l e R s m args below meth c cells slots Qm D cs ad sz nL bp) HQ HK i (pm_lload k) := by
  intro ls st w X Q K h hX hQ hK hw hoL hoS hl H locs lsM hP hS hlv
  obtain ⟨hx, hb, hml, hown, hts, hE, hG⟩ := C
  unfold pm_lload at h
  split at h
  · rename_i x z
    have g := hX _ _ _ _ h hw hoL (pm_okS_c trivial hoS) hl H locs lsM hP hS hlv
    rw [hn] at g
    exact lv_lload_n hx hb hd hk (pm_lv_get hlv z) g
  · exact h.elim
set_option maxHeartbeats 1000000 in
theorem pm_s_lload (C : pm_X p s m args c D cs ad sz own cc nL) {i : Nat} {k : Nat} (hd : decode cc (pm_nth 0 bp i) = .ok (.lload k, 2)) (hn : pm_nth 0 bp (i + 1) = pm_nth 0 bp i + 2) : pm_S (pm_F p l e R s m args below meth c cells slots Qm D cs ad sz nL bp) HQ HK i (pm_lload k) := by
  intro ls st w X Q K h hX hQ hK hw hoL hoS hl H locs lsM hP hS hlv
  obtain ⟨hx, hb, hml, hown, hts, hE, hG⟩ := C
  unfold pm_lload at h
  split at h
  · rename_i x z
    have g := hX _ _ _ _ h hw hoL (pm_okS_c trivial hoS) hl H locs lsM hP hS hlv
    rw [hn] at g
    exact lv_lload hx hb hd (pm_lv_get hlv z) g
  · exact h.elim
set_option maxHeartbeats 1000000 in
theorem pm_s_aload_n (C : pm_X p s m args c D cs ad sz own cc nL) {i : Nat} {n : Fin 4} {k : Nat} (hd : decode cc (pm_nth 0 bp i) = .ok (.aload_n n, 1)) (hk : (n : Nat) = k) (hn : pm_nth 0 bp (i + 1) = pm_nth 0 bp i + 1) : pm_S (pm_F p l e R s m args below meth c cells slots Qm D cs ad sz nL bp) HQ HK i (pm_aload k) := by
  intro ls st w X Q K h hX hQ hK hw hoL hoS hl H locs lsM hP hS hlv
  obtain ⟨hx, hb, hml, hown, hts, hE, hG⟩ := C
  unfold pm_aload at h
  split at h
  · rename_i x z
    have g := hX _ _ _ _ h hw hoL (pm_okS_c (hoL _ (pm_nth_mem z)) hoS) hl H locs lsM hP hS hlv
    rw [hn] at g
    exact lv_aload_n hx hb hd hk (pm_lv_get hlv z) g
  · exact h.elim
set_option maxHeartbeats 1000000 in
theorem pm_s_aload (C : pm_X p s m args c D cs ad sz own cc nL) {i : Nat} {k : Nat} (hd : decode cc (pm_nth 0 bp i) = .ok (.aload k, 2)) (hn : pm_nth 0 bp (i + 1) = pm_nth 0 bp i + 2) : pm_S (pm_F p l e R s m args below meth c cells slots Qm D cs ad sz nL bp) HQ HK i (pm_aload k) := by
  intro ls st w X Q K h hX hQ hK hw hoL hoS hl H locs lsM hP hS hlv
  obtain ⟨hx, hb, hml, hown, hts, hE, hG⟩ := C
  unfold pm_aload at h
  split at h
  · rename_i x z
    have g := hX _ _ _ _ h hw hoL (pm_okS_c (hoL _ (pm_nth_mem z)) hoS) hl H locs lsM hP hS hlv
    rw [hn] at g
    exact lv_aload hx hb hd (pm_lv_get hlv z) g
  · exact h.elim
set_option maxHeartbeats 1000000 in
theorem pm_s_istore_n (C : pm_X p s m args c D cs ad sz own cc nL) {i : Nat} {n : Fin 4} {k : Nat} (hd : decode cc (pm_nth 0 bp i) = .ok (.istore_n n, 1)) (hk : (n : Nat) = k) (hn : pm_nth 0 bp (i + 1) = pm_nth 0 bp i + 1) : pm_S (pm_F p l e R s m args below meth c cells slots Qm D cs ad sz nL bp) HQ HK i (pm_istore k) := by
  intro ls st w X Q K h hX hQ hK hw hoL hoS hl H locs lsM hP hS hlv
  obtain ⟨hx, hb, hml, hown, hts, hE, hG⟩ := C
  unfold pm_istore at h
  split at h
  · rename_i x t
    cases hc : pm_okst ls k with
    | false => rw [hc] at h; exact h.elim
    | true =>
      rw [hc] at h
      refine lv_istore_n hx hb hd hk hlv (by have := (pm_okst_spec hc).1; omega) rfl (fun ls2 hl2 => ?_)
      have g := hX _ _ _ _ h hw (pm_okL_set hoL (pm_okR_i x)) (pm_okS_t hoS) (by rw [List.length_set]; exact hl) H locs ls2 hP hS (pm_lv_store hc hl2)
      rw [hn] at g
      exact g
  · exact h.elim
set_option maxHeartbeats 1000000 in
theorem pm_s_istore (C : pm_X p s m args c D cs ad sz own cc nL) {i : Nat} {k : Nat} (hd : decode cc (pm_nth 0 bp i) = .ok (.istore k, 2)) (hn : pm_nth 0 bp (i + 1) = pm_nth 0 bp i + 2) : pm_S (pm_F p l e R s m args below meth c cells slots Qm D cs ad sz nL bp) HQ HK i (pm_istore k) := by
  intro ls st w X Q K h hX hQ hK hw hoL hoS hl H locs lsM hP hS hlv
  obtain ⟨hx, hb, hml, hown, hts, hE, hG⟩ := C
  unfold pm_istore at h
  split at h
  · rename_i x t
    cases hc : pm_okst ls k with
    | false => rw [hc] at h; exact h.elim
    | true =>
      rw [hc] at h
      refine lv_istore hx hb hd hlv (by have := (pm_okst_spec hc).1; omega) rfl (fun ls2 hl2 => ?_)
      have g := hX _ _ _ _ h hw (pm_okL_set hoL (pm_okR_i x)) (pm_okS_t hoS) (by rw [List.length_set]; exact hl) H locs ls2 hP hS (pm_lv_store hc hl2)
      rw [hn] at g
      exact g
  · exact h.elim
set_option maxHeartbeats 1000000 in
theorem pm_s_astore_n (C : pm_X p s m args c D cs ad sz own cc nL) {i : Nat} {n : Fin 4} {k : Nat} (hd : decode cc (pm_nth 0 bp i) = .ok (.astore_n n, 1)) (hk : (n : Nat) = k) (hn : pm_nth 0 bp (i + 1) = pm_nth 0 bp i + 1) : pm_S (pm_F p l e R s m args below meth c cells slots Qm D cs ad sz nL bp) HQ HK i (pm_astore k) := by
  intro ls st w X Q K h hX hQ hK hw hoL hoS hl H locs lsM hP hS hlv
  obtain ⟨hx, hb, hml, hown, hts, hE, hG⟩ := C
  unfold pm_astore at h
  split at h
  · rename_i x t
    cases hc : pm_okst ls k with
    | false => rw [hc] at h; exact h.elim
    | true =>
      rw [hc] at h
      refine lv_astore_n hx hb hd hk hlv (by have := (pm_okst_spec hc).1; omega) rfl (fun ls2 hl2 => ?_)
      have g := hX _ _ _ _ h hw (pm_okL_set hoL (fun v hv => by cases hv; exact pm_okS_h hoS)) (pm_okS_t hoS) (by rw [List.length_set]; exact hl) H locs ls2 hP hS (pm_lv_store hc hl2)
      rw [hn] at g
      exact g
  · exact h.elim
set_option maxHeartbeats 1000000 in
theorem pm_s_astore (C : pm_X p s m args c D cs ad sz own cc nL) {i : Nat} {k : Nat} (hd : decode cc (pm_nth 0 bp i) = .ok (.astore k, 2)) (hn : pm_nth 0 bp (i + 1) = pm_nth 0 bp i + 2) : pm_S (pm_F p l e R s m args below meth c cells slots Qm D cs ad sz nL bp) HQ HK i (pm_astore k) := by
  intro ls st w X Q K h hX hQ hK hw hoL hoS hl H locs lsM hP hS hlv
  obtain ⟨hx, hb, hml, hown, hts, hE, hG⟩ := C
  unfold pm_astore at h
  split at h
  · rename_i x t
    cases hc : pm_okst ls k with
    | false => rw [hc] at h; exact h.elim
    | true =>
      rw [hc] at h
      refine lv_astore hx hb hd hlv (by have := (pm_okst_spec hc).1; omega) rfl (fun ls2 hl2 => ?_)
      have g := hX _ _ _ _ h hw (pm_okL_set hoL (fun v hv => by cases hv; exact pm_okS_h hoS)) (pm_okS_t hoS) (by rw [List.length_set]; exact hl) H locs ls2 hP hS (pm_lv_store hc hl2)
      rw [hn] at g
      exact g
  · exact h.elim
set_option maxHeartbeats 1000000 in
theorem pm_s_lstore_n (C : pm_X p s m args c D cs ad sz own cc nL) {i : Nat} {n : Fin 4} {k : Nat} (hd : decode cc (pm_nth 0 bp i) = .ok (.lstore_n n, 1)) (hk : (n : Nat) = k) (hn : pm_nth 0 bp (i + 1) = pm_nth 0 bp i + 1) : pm_S (pm_F p l e R s m args below meth c cells slots Qm D cs ad sz nL bp) HQ HK i (pm_lstore k) := by
  intro ls st w X Q K h hX hQ hK hw hoL hoS hl H locs lsM hP hS hlv
  obtain ⟨hx, hb, hml, hown, hts, hE, hG⟩ := C
  unfold pm_lstore at h
  split at h
  · rename_i x t
    cases hc : pm_okst ls k && Nat.blt (k + 1) ls.length with
    | false => rw [hc] at h; exact h.elim
    | true =>
      rw [hc] at h
      simp only [Bool.and_eq_true, Nat.blt_eq] at hc
      refine lv_lstore_n hx hb hd hk hlv (by omega) rfl (fun ls2 hl2 => ?_)
      have g := hX _ _ _ _ h hw (pm_okL_set (pm_okL_set hoL (pm_okR_l x)) pm_okR_n) (pm_okS_t hoS) (by rw [List.length_set, List.length_set]; exact hl) H locs ls2 hP hS (pm_lv_store2 hc.1 hl2)
      rw [hn] at g
      exact g
  · exact h.elim
set_option maxHeartbeats 1000000 in
theorem pm_s_iinc (C : pm_X p s m args c D cs ad sz own cc nL) {i : Nat} {k : Nat} {n : Int} {v : Int32} (hd : decode cc (pm_nth 0 bp i) = .ok (.iinc k n, 3)) (hv : Int32.ofInt n = v) (hn : pm_nth 0 bp (i + 1) = pm_nth 0 bp i + 3) : pm_S (pm_F p l e R s m args below meth c cells slots Qm D cs ad sz nL bp) HQ HK i (pm_iinc k v) := by
  intro ls st w X Q K h hX hQ hK hw hoL hoS hl H locs lsM hP hS hlv
  obtain ⟨hx, hb, hml, hown, hts, hE, hG⟩ := C
  unfold pm_iinc at h
  split at h
  · rename_i x z
    cases hc : pm_okst ls k with
    | false => rw [hc] at h; exact h.elim
    | true =>
      rw [hc] at h
      obtain ⟨kk, hkk⟩ := List.getElem?_of_mem (pm_lv_mem (ad := ad) (q := (k, .int x)).mpr ⟨_, z, rfl⟩)
      refine lv_iinc hx hb hd hlv hkk (by rw [hv]) (by have := (pm_okst_spec hc).1; omega) rfl (fun ls2 hl2 => ?_)
      have g := hX _ _ _ _ h hw (pm_okL_set hoL (pm_okR_i _)) hoS (by rw [List.length_set]; exact hl) H locs ls2 hP hS (pm_lv_store hc hl2)
      rw [hn] at g
      exact g
  · exact h.elim
set_option maxHeartbeats 1000000 in
theorem pm_s_iadd (C : pm_X p s m args c D cs ad sz own cc nL) {i : Nat} (hd : decode cc (pm_nth 0 bp i) = .ok (.iadd, 1)) (hn : pm_nth 0 bp (i + 1) = pm_nth 0 bp i + 1) : pm_S (pm_F p l e R s m args below meth c cells slots Qm D cs ad sz nL bp) HQ HK i (pm_bin (fun x y => x + y)) := by
  intro ls st w X Q K h hX hQ hK hw hoL hoS hl H locs lsM hP hS hlv
  obtain ⟨hx, hb, hml, hown, hts, hE, hG⟩ := C
  unfold pm_bin at h
  split at h
  · have g := hX _ _ _ _ h hw hoL (pm_okS_c trivial (pm_okS_t (pm_okS_t hoS))) hl H locs lsM hP hS hlv
    rw [hn] at g
    exact lv_iadd hx hb hd g
  · exact h.elim
set_option maxHeartbeats 1000000 in
theorem pm_s_isub (C : pm_X p s m args c D cs ad sz own cc nL) {i : Nat} (hd : decode cc (pm_nth 0 bp i) = .ok (.isub, 1)) (hn : pm_nth 0 bp (i + 1) = pm_nth 0 bp i + 1) : pm_S (pm_F p l e R s m args below meth c cells slots Qm D cs ad sz nL bp) HQ HK i (pm_bin (fun x y => x - y)) := by
  intro ls st w X Q K h hX hQ hK hw hoL hoS hl H locs lsM hP hS hlv
  obtain ⟨hx, hb, hml, hown, hts, hE, hG⟩ := C
  unfold pm_bin at h
  split at h
  · have g := hX _ _ _ _ h hw hoL (pm_okS_c trivial (pm_okS_t (pm_okS_t hoS))) hl H locs lsM hP hS hlv
    rw [hn] at g
    exact lv_isub hx hb hd g
  · exact h.elim
set_option maxHeartbeats 1000000 in
theorem pm_s_imul (C : pm_X p s m args c D cs ad sz own cc nL) {i : Nat} (hd : decode cc (pm_nth 0 bp i) = .ok (.imul, 1)) (hn : pm_nth 0 bp (i + 1) = pm_nth 0 bp i + 1) : pm_S (pm_F p l e R s m args below meth c cells slots Qm D cs ad sz nL bp) HQ HK i (pm_bin (fun x y => x * y)) := by
  intro ls st w X Q K h hX hQ hK hw hoL hoS hl H locs lsM hP hS hlv
  obtain ⟨hx, hb, hml, hown, hts, hE, hG⟩ := C
  unfold pm_bin at h
  split at h
  · have g := hX _ _ _ _ h hw hoL (pm_okS_c trivial (pm_okS_t (pm_okS_t hoS))) hl H locs lsM hP hS hlv
    rw [hn] at g
    exact lv_imul hx hb hd g
  · exact h.elim
set_option maxHeartbeats 1000000 in
theorem pm_s_iand (C : pm_X p s m args c D cs ad sz own cc nL) {i : Nat} (hd : decode cc (pm_nth 0 bp i) = .ok (.iand, 1)) (hn : pm_nth 0 bp (i + 1) = pm_nth 0 bp i + 1) : pm_S (pm_F p l e R s m args below meth c cells slots Qm D cs ad sz nL bp) HQ HK i (pm_bin (fun x y => x &&& y)) := by
  intro ls st w X Q K h hX hQ hK hw hoL hoS hl H locs lsM hP hS hlv
  obtain ⟨hx, hb, hml, hown, hts, hE, hG⟩ := C
  unfold pm_bin at h
  split at h
  · have g := hX _ _ _ _ h hw hoL (pm_okS_c trivial (pm_okS_t (pm_okS_t hoS))) hl H locs lsM hP hS hlv
    rw [hn] at g
    exact lv_iand hx hb hd g
  · exact h.elim
set_option maxHeartbeats 1000000 in
theorem pm_s_ior (C : pm_X p s m args c D cs ad sz own cc nL) {i : Nat} (hd : decode cc (pm_nth 0 bp i) = .ok (.ior, 1)) (hn : pm_nth 0 bp (i + 1) = pm_nth 0 bp i + 1) : pm_S (pm_F p l e R s m args below meth c cells slots Qm D cs ad sz nL bp) HQ HK i (pm_bin (fun x y => x ||| y)) := by
  intro ls st w X Q K h hX hQ hK hw hoL hoS hl H locs lsM hP hS hlv
  obtain ⟨hx, hb, hml, hown, hts, hE, hG⟩ := C
  unfold pm_bin at h
  split at h
  · have g := hX _ _ _ _ h hw hoL (pm_okS_c trivial (pm_okS_t (pm_okS_t hoS))) hl H locs lsM hP hS hlv
    rw [hn] at g
    exact lv_ior hx hb hd g
  · exact h.elim
set_option maxHeartbeats 1000000 in
theorem pm_s_ixor (C : pm_X p s m args c D cs ad sz own cc nL) {i : Nat} (hd : decode cc (pm_nth 0 bp i) = .ok (.ixor, 1)) (hn : pm_nth 0 bp (i + 1) = pm_nth 0 bp i + 1) : pm_S (pm_F p l e R s m args below meth c cells slots Qm D cs ad sz nL bp) HQ HK i (pm_bin (fun x y => x ^^^ y)) := by
  intro ls st w X Q K h hX hQ hK hw hoL hoS hl H locs lsM hP hS hlv
  obtain ⟨hx, hb, hml, hown, hts, hE, hG⟩ := C
  unfold pm_bin at h
  split at h
  · have g := hX _ _ _ _ h hw hoL (pm_okS_c trivial (pm_okS_t (pm_okS_t hoS))) hl H locs lsM hP hS hlv
    rw [hn] at g
    exact lv_ixor hx hb hd g
  · exact h.elim
set_option maxHeartbeats 1000000 in
theorem pm_s_ishl (C : pm_X p s m args c D cs ad sz own cc nL) {i : Nat} (hd : decode cc (pm_nth 0 bp i) = .ok (.ishl, 1)) (hn : pm_nth 0 bp (i + 1) = pm_nth 0 bp i + 1) : pm_S (pm_F p l e R s m args below meth c cells slots Qm D cs ad sz nL bp) HQ HK i (pm_bin (fun x y => x <<< (y &&& 31))) := by
  intro ls st w X Q K h hX hQ hK hw hoL hoS hl H locs lsM hP hS hlv
  obtain ⟨hx, hb, hml, hown, hts, hE, hG⟩ := C
  unfold pm_bin at h
  split at h
  · have g := hX _ _ _ _ h hw hoL (pm_okS_c trivial (pm_okS_t (pm_okS_t hoS))) hl H locs lsM hP hS hlv
    rw [hn] at g
    exact lv_ishl hx hb hd g
  · exact h.elim
set_option maxHeartbeats 1000000 in
theorem pm_s_ishr (C : pm_X p s m args c D cs ad sz own cc nL) {i : Nat} (hd : decode cc (pm_nth 0 bp i) = .ok (.ishr, 1)) (hn : pm_nth 0 bp (i + 1) = pm_nth 0 bp i + 1) : pm_S (pm_F p l e R s m args below meth c cells slots Qm D cs ad sz nL bp) HQ HK i (pm_bin (fun x y => x >>> (y &&& 31))) := by
  intro ls st w X Q K h hX hQ hK hw hoL hoS hl H locs lsM hP hS hlv
  obtain ⟨hx, hb, hml, hown, hts, hE, hG⟩ := C
  unfold pm_bin at h
  split at h
  · have g := hX _ _ _ _ h hw hoL (pm_okS_c trivial (pm_okS_t (pm_okS_t hoS))) hl H locs lsM hP hS hlv
    rw [hn] at g
    exact lv_ishr hx hb hd g
  · exact h.elim
set_option maxHeartbeats 1000000 in
theorem pm_s_iushr (C : pm_X p s m args c D cs ad sz own cc nL) {i : Nat} (hd : decode cc (pm_nth 0 bp i) = .ok (.iushr, 1)) (hn : pm_nth 0 bp (i + 1) = pm_nth 0 bp i + 1) : pm_S (pm_F p l e R s m args below meth c cells slots Qm D cs ad sz nL bp) HQ HK i (pm_bin (fun x y => (x.toUInt32 >>> (y.toUInt32 &&& Int32.toUInt32 31)).toInt32)) := by
  intro ls st w X Q K h hX hQ hK hw hoL hoS hl H locs lsM hP hS hlv
  obtain ⟨hx, hb, hml, hown, hts, hE, hG⟩ := C
  unfold pm_bin at h
  split at h
  · have g := hX _ _ _ _ h hw hoL (pm_okS_c trivial (pm_okS_t (pm_okS_t hoS))) hl H locs lsM hP hS hlv
    rw [hn] at g
    exact lv_iushr hx hb hd rfl g
  · exact h.elim
set_option maxHeartbeats 1000000 in
theorem pm_s_idiv (C : pm_X p s m args c D cs ad sz own cc nL) {i : Nat} (hd : decode cc (pm_nth 0 bp i) = .ok (.idiv, 1)) (hn : pm_nth 0 bp (i + 1) = pm_nth 0 bp i + 1) : pm_S (pm_F p l e R s m args below meth c cells slots Qm D cs ad sz nL bp) HQ HK i pm_idiv := by
  intro ls st w X Q K h hX hQ hK hw hoL hoS hl H locs lsM hP hS hlv
  obtain ⟨hx, hb, hml, hown, hts, hE, hG⟩ := C
  unfold pm_idiv at h
  split at h
  · have g := hX _ _ _ _ h.2 hw hoL (pm_okS_c trivial (pm_okS_t (pm_okS_t hoS))) hl H locs lsM hP hS hlv
    rw [hn] at g
    exact lv_idiv hx hb hd h.1 g
  · exact h.elim
set_option maxHeartbeats 1000000 in
theorem pm_s_irem (C : pm_X p s m args c D cs ad sz own cc nL) {i : Nat} (hd : decode cc (pm_nth 0 bp i) = .ok (.irem, 1)) (hn : pm_nth 0 bp (i + 1) = pm_nth 0 bp i + 1) : pm_S (pm_F p l e R s m args below meth c cells slots Qm D cs ad sz nL bp) HQ HK i pm_irem := by
  intro ls st w X Q K h hX hQ hK hw hoL hoS hl H locs lsM hP hS hlv
  obtain ⟨hx, hb, hml, hown, hts, hE, hG⟩ := C
  unfold pm_irem at h
  split at h
  · have g := hX _ _ _ _ h.2 hw hoL (pm_okS_c trivial (pm_okS_t (pm_okS_t hoS))) hl H locs lsM hP hS hlv
    rw [hn] at g
    exact lv_irem hx hb hd h.1 g
  · exact h.elim
set_option maxHeartbeats 1000000 in
theorem pm_s_ineg (C : pm_X p s m args c D cs ad sz own cc nL) {i : Nat} (hd : decode cc (pm_nth 0 bp i) = .ok (.ineg, 1)) (hn : pm_nth 0 bp (i + 1) = pm_nth 0 bp i + 1) : pm_S (pm_F p l e R s m args below meth c cells slots Qm D cs ad sz nL bp) HQ HK i pm_ineg := by
  intro ls st w X Q K h hX hQ hK hw hoL hoS hl H locs lsM hP hS hlv
  obtain ⟨hx, hb, hml, hown, hts, hE, hG⟩ := C
  unfold pm_ineg at h
  split at h
  · have g := hX _ _ _ _ h hw hoL (pm_okS_c trivial (pm_okS_t hoS)) hl H locs lsM hP hS hlv
    rw [hn] at g
    exact lv_ineg hx hb hd g
  · exact h.elim
set_option maxHeartbeats 1000000 in
theorem pm_s_ladd (C : pm_X p s m args c D cs ad sz own cc nL) {i : Nat} (hd : decode cc (pm_nth 0 bp i) = .ok (.ladd, 1)) (hn : pm_nth 0 bp (i + 1) = pm_nth 0 bp i + 1) : pm_S (pm_F p l e R s m args below meth c cells slots Qm D cs ad sz nL bp) HQ HK i (pm_bil (fun x y => x + y)) := by
  intro ls st w X Q K h hX hQ hK hw hoL hoS hl H locs lsM hP hS hlv
  obtain ⟨hx, hb, hml, hown, hts, hE, hG⟩ := C
  unfold pm_bil at h
  split at h
  · have g := hX _ _ _ _ h hw hoL (pm_okS_c trivial (pm_okS_t (pm_okS_t hoS))) hl H locs lsM hP hS hlv
    rw [hn] at g
    exact lv_ladd hx hb hd g
  · exact h.elim
set_option maxHeartbeats 1000000 in
theorem pm_s_lmul (C : pm_X p s m args c D cs ad sz own cc nL) {i : Nat} (hd : decode cc (pm_nth 0 bp i) = .ok (.lmul, 1)) (hn : pm_nth 0 bp (i + 1) = pm_nth 0 bp i + 1) : pm_S (pm_F p l e R s m args below meth c cells slots Qm D cs ad sz nL bp) HQ HK i (pm_bil (fun x y => x * y)) := by
  intro ls st w X Q K h hX hQ hK hw hoL hoS hl H locs lsM hP hS hlv
  obtain ⟨hx, hb, hml, hown, hts, hE, hG⟩ := C
  unfold pm_bil at h
  split at h
  · have g := hX _ _ _ _ h hw hoL (pm_okS_c trivial (pm_okS_t (pm_okS_t hoS))) hl H locs lsM hP hS hlv
    rw [hn] at g
    exact lv_lmul hx hb hd g
  · exact h.elim
set_option maxHeartbeats 1000000 in
theorem pm_s_land (C : pm_X p s m args c D cs ad sz own cc nL) {i : Nat} (hd : decode cc (pm_nth 0 bp i) = .ok (.land, 1)) (hn : pm_nth 0 bp (i + 1) = pm_nth 0 bp i + 1) : pm_S (pm_F p l e R s m args below meth c cells slots Qm D cs ad sz nL bp) HQ HK i (pm_bil (fun x y => x &&& y)) := by
  intro ls st w X Q K h hX hQ hK hw hoL hoS hl H locs lsM hP hS hlv
  obtain ⟨hx, hb, hml, hown, hts, hE, hG⟩ := C
  unfold pm_bil at h
  split at h
  · have g := hX _ _ _ _ h hw hoL (pm_okS_c trivial (pm_okS_t (pm_okS_t hoS))) hl H locs lsM hP hS hlv
    rw [hn] at g
    exact lv_land hx hb hd g
  · exact h.elim
set_option maxHeartbeats 1000000 in
theorem pm_s_lor (C : pm_X p s m args c D cs ad sz own cc nL) {i : Nat} (hd : decode cc (pm_nth 0 bp i) = .ok (.lor, 1)) (hn : pm_nth 0 bp (i + 1) = pm_nth 0 bp i + 1) : pm_S (pm_F p l e R s m args below meth c cells slots Qm D cs ad sz nL bp) HQ HK i (pm_bil (fun x y => x ||| y)) := by
  intro ls st w X Q K h hX hQ hK hw hoL hoS hl H locs lsM hP hS hlv
  obtain ⟨hx, hb, hml, hown, hts, hE, hG⟩ := C
  unfold pm_bil at h
  split at h
  · have g := hX _ _ _ _ h hw hoL (pm_okS_c trivial (pm_okS_t (pm_okS_t hoS))) hl H locs lsM hP hS hlv
    rw [hn] at g
    exact lv_lor hx hb hd g
  · exact h.elim
set_option maxHeartbeats 1000000 in
theorem pm_s_lrem (C : pm_X p s m args c D cs ad sz own cc nL) {i : Nat} (hd : decode cc (pm_nth 0 bp i) = .ok (.lrem, 1)) (hn : pm_nth 0 bp (i + 1) = pm_nth 0 bp i + 1) : pm_S (pm_F p l e R s m args below meth c cells slots Qm D cs ad sz nL bp) HQ HK i pm_lrem := by
  intro ls st w X Q K h hX hQ hK hw hoL hoS hl H locs lsM hP hS hlv
  obtain ⟨hx, hb, hml, hown, hts, hE, hG⟩ := C
  unfold pm_lrem at h
  split at h
  · have g := hX _ _ _ _ h.2 hw hoL (pm_okS_c trivial (pm_okS_t (pm_okS_t hoS))) hl H locs lsM hP hS hlv
    rw [hn] at g
    exact lv_lrem hx hb hd h.1 g
  · exact h.elim
set_option maxHeartbeats 1000000 in
theorem pm_s_lshl (C : pm_X p s m args c D cs ad sz own cc nL) {i : Nat} (hd : decode cc (pm_nth 0 bp i) = .ok (.lshl, 1)) (hn : pm_nth 0 bp (i + 1) = pm_nth 0 bp i + 1) : pm_S (pm_F p l e R s m args below meth c cells slots Qm D cs ad sz nL bp) HQ HK i (pm_lsh (fun x y => x <<< (y.toInt64 &&& 63))) := by
  intro ls st w X Q K h hX hQ hK hw hoL hoS hl H locs lsM hP hS hlv
  obtain ⟨hx, hb, hml, hown, hts, hE, hG⟩ := C
  unfold pm_lsh at h
  split at h
  · have g := hX _ _ _ _ h hw hoL (pm_okS_c trivial (pm_okS_t (pm_okS_t hoS))) hl H locs lsM hP hS hlv
    rw [hn] at g
    exact lv_lshl hx hb hd rfl g
  · exact h.elim
set_option maxHeartbeats 1000000 in
theorem pm_s_lushr (C : pm_X p s m args c D cs ad sz own cc nL) {i : Nat} (hd : decode cc (pm_nth 0 bp i) = .ok (.lushr, 1)) (hn : pm_nth 0 bp (i + 1) = pm_nth 0 bp i + 1) : pm_S (pm_F p l e R s m args below meth c cells slots Qm D cs ad sz nL bp) HQ HK i (pm_lsh (fun x y => (x.toUInt64 >>> (y.toInt64.toUInt64 &&& Int64.toUInt64 63)).toInt64)) := by
  intro ls st w X Q K h hX hQ hK hw hoL hoS hl H locs lsM hP hS hlv
  obtain ⟨hx, hb, hml, hown, hts, hE, hG⟩ := C
  unfold pm_lsh at h
  split at h
  · have g := hX _ _ _ _ h hw hoL (pm_okS_c trivial (pm_okS_t (pm_okS_t hoS))) hl H locs lsM hP hS hlv
    rw [hn] at g
    exact lv_lushr hx hb hd rfl g
  · exact h.elim
set_option maxHeartbeats 1000000 in
theorem pm_s_lcmp (C : pm_X p s m args c D cs ad sz own cc nL) {i : Nat} (hd : decode cc (pm_nth 0 bp i) = .ok (.lcmp, 1)) (hn : pm_nth 0 bp (i + 1) = pm_nth 0 bp i + 1) : pm_S (pm_F p l e R s m args below meth c cells slots Qm D cs ad sz nL bp) HQ HK i pm_lcmp := by
  intro ls st w X Q K h hX hQ hK hw hoL hoS hl H locs lsM hP hS hlv
  obtain ⟨hx, hb, hml, hown, hts, hE, hG⟩ := C
  unfold pm_lcmp at h
  split at h
  · have g := hX _ _ _ _ h hw hoL (pm_okS_c trivial (pm_okS_t (pm_okS_t hoS))) hl H locs lsM hP hS hlv
    rw [hn] at g
    exact W.lcmp hx hb hd g
  · exact h.elim
set_option maxHeartbeats 1000000 in
theorem pm_s_i2l (C : pm_X p s m args c D cs ad sz own cc nL) {i : Nat} (hd : decode cc (pm_nth 0 bp i) = .ok (.i2l, 1)) (hn : pm_nth 0 bp (i + 1) = pm_nth 0 bp i + 1) : pm_S (pm_F p l e R s m args below meth c cells slots Qm D cs ad sz nL bp) HQ HK i pm_i2l := by
  intro ls st w X Q K h hX hQ hK hw hoL hoS hl H locs lsM hP hS hlv
  obtain ⟨hx, hb, hml, hown, hts, hE, hG⟩ := C
  unfold pm_i2l at h
  split at h
  · have g := hX _ _ _ _ h hw hoL (pm_okS_c trivial (pm_okS_t hoS)) hl H locs lsM hP hS hlv
    rw [hn] at g
    exact lv_i2l hx hb hd rfl g
  · exact h.elim
set_option maxHeartbeats 1000000 in
theorem pm_s_l2i (C : pm_X p s m args c D cs ad sz own cc nL) {i : Nat} (hd : decode cc (pm_nth 0 bp i) = .ok (.l2i, 1)) (hn : pm_nth 0 bp (i + 1) = pm_nth 0 bp i + 1) : pm_S (pm_F p l e R s m args below meth c cells slots Qm D cs ad sz nL bp) HQ HK i pm_l2i := by
  intro ls st w X Q K h hX hQ hK hw hoL hoS hl H locs lsM hP hS hlv
  obtain ⟨hx, hb, hml, hown, hts, hE, hG⟩ := C
  unfold pm_l2i at h
  split at h
  · have g := hX _ _ _ _ h hw hoL (pm_okS_c trivial (pm_okS_t hoS)) hl H locs lsM hP hS hlv
    rw [hn] at g
    exact lv_l2i hx hb hd rfl g
  · exact h.elim
theorem pm_c1_cat {ad : Nat → Nat → Nat} {v : pm_V} (h : pm_c1 v = true) : (pm_tv ad v).category = 1 := by
  rw [pm_tv_cat]
  unfold pm_c1 at h
  unfold pm_cat1
  rw [Bool.not_eq_true'] at h
  rw [h]
  rfl
set_option maxHeartbeats 1000000 in
theorem pm_s_dup (C : pm_X p s m args c D cs ad sz own cc nL) {i : Nat} (hd : decode cc (pm_nth 0 bp i) = .ok (.dup, 1)) (hn : pm_nth 0 bp (i + 1) = pm_nth 0 bp i + 1) : pm_S (pm_F p l e R s m args below meth c cells slots Qm D cs ad sz nL bp) HQ HK i pm_dup := by
  intro ls st w X Q K h hX hQ hK hw hoL hoS hl H locs lsM hP hS hlv
  obtain ⟨hx, hb, hml, hown, hts, hE, hG⟩ := C
  unfold pm_dup at h
  split at h
  · rename_i v t
    cases hc : pm_c1 v with
    | false => rw [hc] at h; exact h.elim
    | true =>
      rw [hc] at h
      have g := hX _ _ _ _ h hw hoL (pm_okS_c (pm_okS_h hoS) hoS) hl H locs lsM hP hS hlv
      rw [hn] at g
      exact lv_dup hx hb hd (pm_c1_cat hc) g
  · exact h.elim
set_option maxHeartbeats 1000000 in
theorem pm_s_pop (C : pm_X p s m args c D cs ad sz own cc nL) {i : Nat} (hd : decode cc (pm_nth 0 bp i) = .ok (.pop, 1)) (hn : pm_nth 0 bp (i + 1) = pm_nth 0 bp i + 1) : pm_S (pm_F p l e R s m args below meth c cells slots Qm D cs ad sz nL bp) HQ HK i pm_pop := by
  intro ls st w X Q K h hX hQ hK hw hoL hoS hl H locs lsM hP hS hlv
  obtain ⟨hx, hb, hml, hown, hts, hE, hG⟩ := C
  unfold pm_pop at h
  split at h
  · rename_i v t
    cases hc : pm_c1 v with
    | false => rw [hc] at h; exact h.elim
    | true =>
      rw [hc] at h
      have g := hX _ _ _ _ h hw hoL (pm_okS_t hoS) hl H locs lsM hP hS hlv
      rw [hn] at g
      exact lv_pop hx hb hd (pm_c1_cat hc) g
  · exact h.elim
set_option maxHeartbeats 1000000 in
theorem pm_s_dup2 (C : pm_X p s m args c D cs ad sz own cc nL) {i : Nat} (hd : decode cc (pm_nth 0 bp i) = .ok (.dup2, 1)) (hn : pm_nth 0 bp (i + 1) = pm_nth 0 bp i + 1) : pm_S (pm_F p l e R s m args below meth c cells slots Qm D cs ad sz nL bp) HQ HK i pm_dup2 := by
  intro ls st w X Q K h hX hQ hK hw hoL hoS hl H locs lsM hP hS hlv
  obtain ⟨hx, hb, hml, hown, hts, hE, hG⟩ := C
  unfold pm_dup2 at h
  split at h
  · rename_i v u t
    cases hc : pm_c1 v && pm_c1 u with
    | false => rw [hc] at h; exact h.elim
    | true =>
      rw [hc] at h
      have g := hX _ _ _ _ h hw hoL (pm_okS_c (pm_okS_h hoS) (pm_okS_c (pm_okS_h (pm_okS_t hoS)) hoS)) hl H locs lsM hP hS hlv
      rw [hn] at g
      rw [Bool.and_eq_true] at hc
      exact lv_dup2_11 hx hb hd (pm_c1_cat hc.1) (pm_c1_cat hc.2) g
  · exact h.elim
set_option maxHeartbeats 1000000 in
theorem pm_s_goto (C : pm_X p s m args c D cs ad sz own cc nL) {i : Nat} {g : Nat} {off : Int} (ht : ((pm_nth 0 bp i : Nat) : Int) + off = ((pm_nth 0 bp g : Nat) : Int)) (hd : decode cc (pm_nth 0 bp i) = .ok (.goto off, 3))  : pm_S (pm_F p l e R s m args below meth c cells slots Qm D cs ad sz nL bp) HQ HK i (pm_goto g) := by
  intro ls st w X Q K h hX hQ hK hw hoL hoS hl H locs lsM hP hS hlv
  obtain ⟨hx, hb, hml, hown, hts, hE, hG⟩ := C
  have g9 := hX _ _ _ _ h hw hoL hoS hl H locs lsM hP hS hlv
  exact lv_goto hx hb hd ht g9
set_option maxHeartbeats 1000000 in
theorem pm_s_ifeq (C : pm_X p s m args c D cs ad sz own cc nL) {i : Nat} {g : Nat} {off : Int} (ht : ((pm_nth 0 bp i : Nat) : Int) + off = ((pm_nth 0 bp g : Nat) : Int)) (hd : decode cc (pm_nth 0 bp i) = .ok (.ifCond .eq off, 3)) (hn : pm_nth 0 bp (i + 1) = pm_nth 0 bp i + 3) : pm_S (pm_F p l e R s m args below meth c cells slots Qm D cs ad sz nL bp) HQ HK i (pm_ifeq g) := by
  intro ls st w X Q K h hX hQ hK hw hoL hoS hl H locs lsM hP hS hlv
  obtain ⟨hx, hb, hml, hown, hts, hE, hG⟩ := C
  unfold pm_ifeq at h
  split at h
  · exact lv_if_eq hx hb hd ht (fun z => by
      rw [if_pos z] at h
      have g9 := hX _ _ _ _ h hw hoL (pm_okS_t hoS) hl H locs lsM hP hS hlv
      exact g9) (fun z => by
      rw [if_neg z] at h
      have g9 := hX _ _ _ _ h hw hoL (pm_okS_t hoS) hl H locs lsM hP hS hlv
      rw [hn] at g9
      exact g9)
  · exact h.elim
set_option maxHeartbeats 1000000 in
theorem pm_s_ifne (C : pm_X p s m args c D cs ad sz own cc nL) {i : Nat} {g : Nat} {off : Int} (ht : ((pm_nth 0 bp i : Nat) : Int) + off = ((pm_nth 0 bp g : Nat) : Int)) (hd : decode cc (pm_nth 0 bp i) = .ok (.ifCond .ne off, 3)) (hn : pm_nth 0 bp (i + 1) = pm_nth 0 bp i + 3) : pm_S (pm_F p l e R s m args below meth c cells slots Qm D cs ad sz nL bp) HQ HK i (pm_ifne g) := by
  intro ls st w X Q K h hX hQ hK hw hoL hoS hl H locs lsM hP hS hlv
  obtain ⟨hx, hb, hml, hown, hts, hE, hG⟩ := C
  unfold pm_ifne at h
  split at h
  · exact lv_if_ne hx hb hd ht (fun z => by
      rw [if_neg z] at h
      have g9 := hX _ _ _ _ h hw hoL (pm_okS_t hoS) hl H locs lsM hP hS hlv
      exact g9) (fun z => by
      rw [if_pos z] at h
      have g9 := hX _ _ _ _ h hw hoL (pm_okS_t hoS) hl H locs lsM hP hS hlv
      rw [hn] at g9
      exact g9)
  · exact h.elim
set_option maxHeartbeats 1000000 in
theorem pm_s_iflt (C : pm_X p s m args c D cs ad sz own cc nL) {i : Nat} {g : Nat} {off : Int} (ht : ((pm_nth 0 bp i : Nat) : Int) + off = ((pm_nth 0 bp g : Nat) : Int)) (hd : decode cc (pm_nth 0 bp i) = .ok (.ifCond .lt off, 3)) (hn : pm_nth 0 bp (i + 1) = pm_nth 0 bp i + 3) : pm_S (pm_F p l e R s m args below meth c cells slots Qm D cs ad sz nL bp) HQ HK i (pm_iflt g) := by
  intro ls st w X Q K h hX hQ hK hw hoL hoS hl H locs lsM hP hS hlv
  obtain ⟨hx, hb, hml, hown, hts, hE, hG⟩ := C
  unfold pm_iflt at h
  split at h
  · exact lv_if_lt hx hb hd ht (fun z => by
      rw [if_pos z] at h
      have g9 := hX _ _ _ _ h hw hoL (pm_okS_t hoS) hl H locs lsM hP hS hlv
      exact g9) (fun z => by
      rw [if_neg z] at h
      have g9 := hX _ _ _ _ h hw hoL (pm_okS_t hoS) hl H locs lsM hP hS hlv
      rw [hn] at g9
      exact g9)
  · exact h.elim
set_option maxHeartbeats 1000000 in
theorem pm_s_ifge (C : pm_X p s m args c D cs ad sz own cc nL) {i : Nat} {g : Nat} {off : Int} (ht : ((pm_nth 0 bp i : Nat) : Int) + off = ((pm_nth 0 bp g : Nat) : Int)) (hd : decode cc (pm_nth 0 bp i) = .ok (.ifCond .ge off, 3)) (hn : pm_nth 0 bp (i + 1) = pm_nth 0 bp i + 3) : pm_S (pm_F p l e R s m args below meth c cells slots Qm D cs ad sz nL bp) HQ HK i (pm_ifge g) := by
  intro ls st w X Q K h hX hQ hK hw hoL hoS hl H locs lsM hP hS hlv
  obtain ⟨hx, hb, hml, hown, hts, hE, hG⟩ := C
  unfold pm_ifge at h
  split at h
  · exact lv_if_ge hx hb hd ht (fun z => by
      rw [if_pos z] at h
      have g9 := hX _ _ _ _ h hw hoL (pm_okS_t hoS) hl H locs lsM hP hS hlv
      exact g9) (fun z => by
      rw [if_neg z] at h
      have g9 := hX _ _ _ _ h hw hoL (pm_okS_t hoS) hl H locs lsM hP hS hlv
      rw [hn] at g9
      exact g9)
  · exact h.elim
set_option maxHeartbeats 1000000 in
theorem pm_s_ifgt (C : pm_X p s m args c D cs ad sz own cc nL) {i : Nat} {g : Nat} {off : Int} (ht : ((pm_nth 0 bp i : Nat) : Int) + off = ((pm_nth 0 bp g : Nat) : Int)) (hd : decode cc (pm_nth 0 bp i) = .ok (.ifCond .gt off, 3)) (hn : pm_nth 0 bp (i + 1) = pm_nth 0 bp i + 3) : pm_S (pm_F p l e R s m args below meth c cells slots Qm D cs ad sz nL bp) HQ HK i (pm_ifgt g) := by
  intro ls st w X Q K h hX hQ hK hw hoL hoS hl H locs lsM hP hS hlv
  obtain ⟨hx, hb, hml, hown, hts, hE, hG⟩ := C
  unfold pm_ifgt at h
  split at h
  · exact lv_if_gt hx hb hd ht (fun z => by
      rw [if_pos z] at h
      have g9 := hX _ _ _ _ h hw hoL (pm_okS_t hoS) hl H locs lsM hP hS hlv
      exact g9) (fun z => by
      rw [if_neg z] at h
      have g9 := hX _ _ _ _ h hw hoL (pm_okS_t hoS) hl H locs lsM hP hS hlv
      rw [hn] at g9
      exact g9)
  · exact h.elim
set_option maxHeartbeats 1000000 in
theorem pm_s_ifle (C : pm_X p s m args c D cs ad sz own cc nL) {i : Nat} {g : Nat} {off : Int} (ht : ((pm_nth 0 bp i : Nat) : Int) + off = ((pm_nth 0 bp g : Nat) : Int)) (hd : decode cc (pm_nth 0 bp i) = .ok (.ifCond .le off, 3)) (hn : pm_nth 0 bp (i + 1) = pm_nth 0 bp i + 3) : pm_S (pm_F p l e R s m args below meth c cells slots Qm D cs ad sz nL bp) HQ HK i (pm_ifle g) := by
  intro ls st w X Q K h hX hQ hK hw hoL hoS hl H locs lsM hP hS hlv
  obtain ⟨hx, hb, hml, hown, hts, hE, hG⟩ := C
  unfold pm_ifle at h
  split at h
  · exact lv_if_le hx hb hd ht (fun z => by
      rw [if_pos z] at h
      have g9 := hX _ _ _ _ h hw hoL (pm_okS_t hoS) hl H locs lsM hP hS hlv
      exact g9) (fun z => by
      rw [if_neg z] at h
      have g9 := hX _ _ _ _ h hw hoL (pm_okS_t hoS) hl H locs lsM hP hS hlv
      rw [hn] at g9
      exact g9)
  · exact h.elim
set_option maxHeartbeats 1000000 in
theorem pm_s_cmpeq (C : pm_X p s m args c D cs ad sz own cc nL) {i : Nat} {g : Nat} {off : Int} (ht : ((pm_nth 0 bp i : Nat) : Int) + off = ((pm_nth 0 bp g : Nat) : Int)) (hd : decode cc (pm_nth 0 bp i) = .ok (.if_icmp .eq off, 3)) (hn : pm_nth 0 bp (i + 1) = pm_nth 0 bp i + 3) : pm_S (pm_F p l e R s m args below meth c cells slots Qm D cs ad sz nL bp) HQ HK i (pm_cmpeq g) := by
  intro ls st w X Q K h hX hQ hK hw hoL hoS hl H locs lsM hP hS hlv
  obtain ⟨hx, hb, hml, hown, hts, hE, hG⟩ := C
  unfold pm_cmpeq at h
  split at h
  · exact lv_icmp_eq hx hb hd ht (fun z => by
      rw [if_pos z] at h
      have g9 := hX _ _ _ _ h hw hoL (pm_okS_t (pm_okS_t hoS)) hl H locs lsM hP hS hlv
      exact g9) (fun z => by
      rw [if_neg z] at h
      have g9 := hX _ _ _ _ h hw hoL (pm_okS_t (pm_okS_t hoS)) hl H locs lsM hP hS hlv
      rw [hn] at g9
      exact g9)
  · exact h.elim
set_option maxHeartbeats 1000000 in
theorem pm_s_cmpne (C : pm_X p s m args c D cs ad sz own cc nL) {i : Nat} {g : Nat} {off : Int} (ht : ((pm_nth 0 bp i : Nat) : Int) + off = ((pm_nth 0 bp g : Nat) : Int)) (hd : decode cc (pm_nth 0 bp i) = .ok (.if_icmp .ne off, 3)) (hn : pm_nth 0 bp (i + 1) = pm_nth 0 bp i + 3) : pm_S (pm_F p l e R s m args below meth c cells slots Qm D cs ad sz nL bp) HQ HK i (pm_cmpne g) := by
  intro ls st w X Q K h hX hQ hK hw hoL hoS hl H locs lsM hP hS hlv
  obtain ⟨hx, hb, hml, hown, hts, hE, hG⟩ := C
  unfold pm_cmpne at h
  split at h
  · exact lv_icmp_ne hx hb hd ht (fun z => by
      rw [if_neg z] at h
      have g9 := hX _ _ _ _ h hw hoL (pm_okS_t (pm_okS_t hoS)) hl H locs lsM hP hS hlv
      exact g9) (fun z => by
      rw [if_pos z] at h
      have g9 := hX _ _ _ _ h hw hoL (pm_okS_t (pm_okS_t hoS)) hl H locs lsM hP hS hlv
      rw [hn] at g9
      exact g9)
  · exact h.elim
set_option maxHeartbeats 1000000 in
theorem pm_s_cmplt (C : pm_X p s m args c D cs ad sz own cc nL) {i : Nat} {g : Nat} {off : Int} (ht : ((pm_nth 0 bp i : Nat) : Int) + off = ((pm_nth 0 bp g : Nat) : Int)) (hd : decode cc (pm_nth 0 bp i) = .ok (.if_icmp .lt off, 3)) (hn : pm_nth 0 bp (i + 1) = pm_nth 0 bp i + 3) : pm_S (pm_F p l e R s m args below meth c cells slots Qm D cs ad sz nL bp) HQ HK i (pm_cmplt g) := by
  intro ls st w X Q K h hX hQ hK hw hoL hoS hl H locs lsM hP hS hlv
  obtain ⟨hx, hb, hml, hown, hts, hE, hG⟩ := C
  unfold pm_cmplt at h
  split at h
  · exact lv_icmp_lt hx hb hd ht (fun z => by
      rw [if_pos z] at h
      have g9 := hX _ _ _ _ h hw hoL (pm_okS_t (pm_okS_t hoS)) hl H locs lsM hP hS hlv
      exact g9) (fun z => by
      rw [if_neg z] at h
      have g9 := hX _ _ _ _ h hw hoL (pm_okS_t (pm_okS_t hoS)) hl H locs lsM hP hS hlv
      rw [hn] at g9
      exact g9)
  · exact h.elim
set_option maxHeartbeats 1000000 in
theorem pm_s_cmpge (C : pm_X p s m args c D cs ad sz own cc nL) {i : Nat} {g : Nat} {off : Int} (ht : ((pm_nth 0 bp i : Nat) : Int) + off = ((pm_nth 0 bp g : Nat) : Int)) (hd : decode cc (pm_nth 0 bp i) = .ok (.if_icmp .ge off, 3)) (hn : pm_nth 0 bp (i + 1) = pm_nth 0 bp i + 3) : pm_S (pm_F p l e R s m args below meth c cells slots Qm D cs ad sz nL bp) HQ HK i (pm_cmpge g) := by
  intro ls st w X Q K h hX hQ hK hw hoL hoS hl H locs lsM hP hS hlv
  obtain ⟨hx, hb, hml, hown, hts, hE, hG⟩ := C
  unfold pm_cmpge at h
  split at h
  · exact lv_icmp_ge hx hb hd ht (fun z => by
      rw [if_pos z] at h
      have g9 := hX _ _ _ _ h hw hoL (pm_okS_t (pm_okS_t hoS)) hl H locs lsM hP hS hlv
      exact g9) (fun z => by
      rw [if_neg z] at h
      have g9 := hX _ _ _ _ h hw hoL (pm_okS_t (pm_okS_t hoS)) hl H locs lsM hP hS hlv
      rw [hn] at g9
      exact g9)
  · exact h.elim
set_option maxHeartbeats 1000000 in
theorem pm_s_cmpgt (C : pm_X p s m args c D cs ad sz own cc nL) {i : Nat} {g : Nat} {off : Int} (ht : ((pm_nth 0 bp i : Nat) : Int) + off = ((pm_nth 0 bp g : Nat) : Int)) (hd : decode cc (pm_nth 0 bp i) = .ok (.if_icmp .gt off, 3)) (hn : pm_nth 0 bp (i + 1) = pm_nth 0 bp i + 3) : pm_S (pm_F p l e R s m args below meth c cells slots Qm D cs ad sz nL bp) HQ HK i (pm_cmpgt g) := by
  intro ls st w X Q K h hX hQ hK hw hoL hoS hl H locs lsM hP hS hlv
  obtain ⟨hx, hb, hml, hown, hts, hE, hG⟩ := C
  unfold pm_cmpgt at h
  split at h
  · exact lv_icmp_gt hx hb hd ht (fun z => by
      rw [if_pos z] at h
      have g9 := hX _ _ _ _ h hw hoL (pm_okS_t (pm_okS_t hoS)) hl H locs lsM hP hS hlv
      exact g9) (fun z => by
      rw [if_neg z] at h
      have g9 := hX _ _ _ _ h hw hoL (pm_okS_t (pm_okS_t hoS)) hl H locs lsM hP hS hlv
      rw [hn] at g9
      exact g9)
  · exact h.elim
set_option maxHeartbeats 1000000 in
theorem pm_s_cmple (C : pm_X p s m args c D cs ad sz own cc nL) {i : Nat} {g : Nat} {off : Int} (ht : ((pm_nth 0 bp i : Nat) : Int) + off = ((pm_nth 0 bp g : Nat) : Int)) (hd : decode cc (pm_nth 0 bp i) = .ok (.if_icmp .le off, 3)) (hn : pm_nth 0 bp (i + 1) = pm_nth 0 bp i + 3) : pm_S (pm_F p l e R s m args below meth c cells slots Qm D cs ad sz nL bp) HQ HK i (pm_cmple g) := by
  intro ls st w X Q K h hX hQ hK hw hoL hoS hl H locs lsM hP hS hlv
  obtain ⟨hx, hb, hml, hown, hts, hE, hG⟩ := C
  unfold pm_cmple at h
  split at h
  · exact lv_icmp_le hx hb hd ht (fun z => by
      rw [if_pos z] at h
      have g9 := hX _ _ _ _ h hw hoL (pm_okS_t (pm_okS_t hoS)) hl H locs lsM hP hS hlv
      exact g9) (fun z => by
      rw [if_neg z] at h
      have g9 := hX _ _ _ _ h hw hoL (pm_okS_t (pm_okS_t hoS)) hl H locs lsM hP hS hlv
      rw [hn] at g9
      exact g9)
  · exact h.elim
end PMS
