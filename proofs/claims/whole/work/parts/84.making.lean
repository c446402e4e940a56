/-! ===== making things: rows for constructors ===== -/
theorem cD_nd {A : Nat → Prop} {ws : va_W} (h : va_D A ws) : (ws.map Prod.fst).Nodup ∧ ∀ x ∈ ws, A x.1 := by
  refine ⟨?_, fun x hx => ?_⟩
  · refine List.pairwise_iff_getElem.mpr (fun i j hi hj hij he => ?_)
    have hi' : i < ws.length := by simpa using hi
    have hj' : j < ws.length := by simpa using hj
    rw [List.getElem_map, List.getElem_map] at he
    have := h.1 i j ws[i] ws[j] (List.getElem?_eq_getElem hi') (List.getElem?_eq_getElem hj') he
    omega
  · obtain ⟨k, hk⟩ := List.getElem?_of_mem hx
    exact h.2 k x hk
theorem cD_of {A : Nat → Prop} {ws : va_W} (h : (ws.map Prod.fst).Nodup) (h2 : ∀ x ∈ ws, A x.1) : va_D A ws := by
  refine ⟨fun i j p q hp hq he => ?_, fun k q hk => h2 q (List.mem_of_getElem? hk)⟩
  have e1 : (ws.map Prod.fst)[i]? = some p.1 := by rw [List.getElem?_map, hp]; rfl
  have e2 : (ws.map Prod.fst)[j]? = some p.1 := by rw [List.getElem?_map, hq, he]; rfl
  have hl : i < (ws.map Prod.fst).length := (List.getElem?_eq_some_iff.mp e1).1
  exact (List.getElem?_inj hl h).mp (e1.trans e2.symm)
theorem cD_perm {A : Nat → Prop} {ws ws' : va_W} (hp : ws.Perm ws') (h : va_D A ws) : va_D A ws' := by
  obtain ⟨h1, h2⟩ := cD_nd h
  exact cD_of ((hp.map Prod.fst).nodup h1) (fun x hx => h2 x (hp.mem_iff.mpr hx))
theorem cP_mem {D : va_G} {cl : List vw_C} {ws : va_W} {H : Heap} (h : va_P D cl ws H) {x : Nat × va_E} (hx : x ∈ ws) : va_at D cl x H := by
  obtain ⟨k, hk⟩ := List.getElem?_of_mem hx
  exact h k x hk
theorem cP_of {D : va_G} {cl : List vw_C} {ws : va_W} {H : Heap} (h : ∀ x ∈ ws, va_at D cl x H) : va_P D cl ws H := fun k x hk => h x (List.mem_of_getElem? hk)
theorem cP_perm {D : va_G} {cl : List vw_C} {ws ws' : va_W} {H : Heap} (hp : ws.Perm ws') (h : va_P D cl ws H) : va_P D cl ws' H := cP_of (fun x hx => cP_mem h (hp.mem_iff.mpr hx))
/-- what came back beside the rest, which is unchanged -/
theorem cjoin {A0 : Nat → Prop} {D : va_G} {cl : List vw_C} {x : Nat × va_E} {ws w1 : va_W} {H H1 : Heap} (hP : va_P D cl (x :: ws) H) (hD : va_D A0 (x :: ws)) (hk : ∀ q : Nat, q < H.size → ¬ va_A [x] H.size q → H1[q]? = H[q]?) (hF : ∀ q, va_A [x] H.size q → A0 q) (hP1 : va_P D cl w1 H1) (hD1 : va_D (va_A [x] H.size) w1) : va_P D cl (w1 ++ ws) H1 ∧ va_D A0 (w1 ++ ws) := by
  obtain ⟨n1, a1⟩ := cD_nd hD
  obtain ⟨n2, a2⟩ := cD_nd hD1
  rw [List.map_cons, List.nodup_cons] at n1
  have out : ∀ y ∈ ws, y.1 < H.size ∧ ¬ va_A [x] H.size y.1 := by
    intro y hy
    obtain ⟨k, hky⟩ := List.getElem?_of_mem (List.mem_cons_of_mem x hy)
    have hlt := (hP k y hky).lt
    refine ⟨hlt, fun z => ?_⟩
    rcases z with ⟨j, e, hj⟩ | z
    · have hxj : (y.1, e) ∈ [x] := List.mem_of_getElem? hj
      rw [List.mem_singleton] at hxj
      exact n1.1 (List.mem_map.mpr ⟨y, hy, by rw [← hxj]⟩)
    · omega
  refine ⟨hP1.app (cP_of (fun y hy => ?_)), cD_of ?_ (fun y hy => ?_)⟩
  · have hat : va_P D cl ws H := cP_of (fun z hz => cP_mem hP (List.mem_cons_of_mem x hz))
    have hkp := va_P.kept hat (H1 := H1) (fun k z hz => hk z.1 (out z (List.mem_of_getElem? hz)).1 (out z (List.mem_of_getElem? hz)).2)
    exact cP_mem hkp hy
  · rw [List.map_append, List.nodup_append]
    refine ⟨n2, n1.2, fun a ha b hb hab => ?_⟩
    obtain ⟨y, hy, rfl⟩ := List.mem_map.mp ha
    obtain ⟨z, hz, rfl⟩ := List.mem_map.mp hb
    exact (out z hz).2 (by rw [← hab]; exact a2 y hy)
  · rcases List.mem_append.mp hy with z | z
    · exact hF _ (a2 y z)
    · exact a1 y (List.mem_cons_of_mem x z)
/-- what the tables are, for who makes things -/
def cE (D : va_G) (cs : pm_Cs) (U : State) : Prop := va_K D vwCl (pm_tys cs) U ∧ (∀ q ∈ pm_nM, va_Nw (.methodLinkNest q.1 q.2.1 q.2.2.1 q.2.2.2) U) ∧ va_AO "LeafTable$Seats" U
theorem cE_call {D : va_G} {cs : pm_Cs} {U : State} {g : JFrame} {mk : MethodId} {a : Array Value} (h : cE D cs U) : cE D cs (U.calling g mk a) := ⟨va_K.moved (u := U) (U := U.calling g mk a) (Vm.Alike.refl U.vm) h.1, fun q hq => va_Nw.same rfl (u := U) (U := U.calling g mk a) rfl (h.2.1 q hq), va_AO.moved (u := U) (U := U.calling g mk a) (Vm.Alike.refl U.vm) h.2.2⟩
theorem cE_warm {D : va_G} {cs : pm_Cs} {s U : State} (h : cE D cs s) (hW : s.WarmedH U.vm) : cE D cs U := ⟨va_K.moved hW.alike h.1, fun q hq => va_Nw.warmM hW (h.2.1 q hq), va_AO.moved hW.alike h.2.2⟩
def cX (p : Program) (s : State) (m : MethodId) (args : Array Value) (c : Code) (D : va_G) (cs : pm_Cs) (A : Nat → Prop) (own : String) (cc : ByteArray) (nL : Nat) : Prop :=
  p.tables.exec = Jvm.exec ∧ c.code = cc ∧ c.maxLocals = nL ∧ s.vm.findClass own = some m.cls ∧ (∀ w ∈ wAll, w.before args s = true) ∧ cE D cs s ∧ ∀ q : Nat, s.heap.size ≤ q → A q
def cF (p : Program) (l : Launch) (e : Env) (R : Room) (s : State) (m : MethodId) (args : Array Value) (below : List Frame) (meth : Method) (c : Code) (Qm : State → Prop) (D : va_G) (A : Nat → Prop) (nL : Nat) (ws : va_W) (cells slots : Nat) (lv : List (Nat × Value)) (pc : Nat) (st : List Value) : Prop :=
  ∀ (H : Heap) (locs : List Loc) (lsM : Array Slot), va_P D vwCl ws H → va_D A ws → va_S A s.heap H locs → lv_has lsM nL lv → W p l e R s m args below meth c H locs cells slots Qm (F0 m pc lsM st)
/-- a constructor's contract: it makes of the new object and of new addresses u the world post u -/
def cMet (l : Launch) (y : MethodName) (bytes : ByteArray) (maxL : Nat) (D : va_G) (cs : pm_Cs) (as : List Value) (h0 : Nat) (o : va_E) {S : Type} (post : S → va_W) (mc ms d : Nat) : Prop :=
  ∀ sz : Nat, Met l y (Cond.code y bytes maxL none :: wAll) { frames := d, cells := mc, slots := ms, locals := 60 * d } (va_Pc (.ref h0 :: as) (fun U => U.heap.size = sz ∧ cE D cs U ∧ va_P D vwCl [(h0, o)] U.heap)) (va_Qv (fun _ : S => True) (fun u t => va_P D vwCl (post u) t.heap ∧ va_D (va_A [(h0, o)] sz) (post u)) (va_A [(h0, o)] sz)) mc ms (va_A [(h0, o)] sz)
section MKR
variable {p : Program} {l : Launch} {e : Env} {R : Room} {s : State} {m : MethodId} {args : Array Value} {below : List Frame} {meth : Method} {c : Code} {Qm : State → Prop} {D : va_G} {cs : pm_Cs} {A : Nat → Prop} {nL : Nat} {ws : va_W} {cells slots : Nat} {lv : List (Nat × Value)} {pc : Nat} {st : List Value} {own : String} {cc : ByteArray}
theorem r_perm {ws' : va_W} (hp : ws.Perm ws') (g : cF p l e R s m args below meth c Qm D A nL ws' cells slots lv pc st) : cF p l e R s m args below meth c Qm D A nL ws cells slots lv pc st := fun H locs lsM hP hD hS hl => g H locs lsM (cP_perm hp hP) (cD_perm hp hD) hS hl
theorem r_eq {ws' : va_W} (h : ws = ws') (g : cF p l e R s m args below meth c Qm D A nL ws' cells slots lv pc st) : cF p l e R s m args below meth c Qm D A nL ws cells slots lv pc st := by rw [h]; exact g
theorem r_cnt {cells' slots' : Nat} (h1 : cells = cells') (h2 : slots = slots') (g : cF p l e R s m args below meth c Qm D A nL ws cells' slots' lv pc st) : cF p l e R s m args below meth c Qm D A nL ws cells slots lv pc st := by rw [h1, h2]; exact g
theorem r_aload (C : cX p s m args c D cs A own cc nL) {n : Fin 4} {k x : Nat} (hd : decode cc pc = .ok (.aload_n n, 1)) (hk : (n : Nat) = k) (j : Nat) (hj : lv[j]? = some (k, .ref x)) (g : cF p l e R s m args below meth c Qm D A nL ws cells slots lv (pc + 1) (.ref x :: st)) : cF p l e R s m args below meth c Qm D A nL ws cells slots lv pc st := fun H locs lsM hP hD hS hl => lv_aload_n C.1 C.2.1 hd hk (lv_at hl j hj) (g H locs lsM hP hD hS hl)
theorem r_iload (C : cX p s m args c D cs A own cc nL) {n : Fin 4} {k : Nat} {x : Int32} (hd : decode cc pc = .ok (.iload_n n, 1)) (hk : (n : Nat) = k) (j : Nat) (hj : lv[j]? = some (k, .int x)) (g : cF p l e R s m args below meth c Qm D A nL ws cells slots lv (pc + 1) (.int x :: st)) : cF p l e R s m args below meth c Qm D A nL ws cells slots lv pc st := fun H locs lsM hP hD hS hl => lv_iload_n C.1 C.2.1 hd hk (lv_at hl j hj) (g H locs lsM hP hD hS hl)
theorem r_iconst (C : cX p s m args c D cs A own cc nL) {n : Int} {v : Int32} (hd : decode cc pc = .ok (.iconst n, 1)) (hv : Int32.ofInt n = v) (g : cF p l e R s m args below meth c Qm D A nL ws cells slots lv (pc + 1) (.int v :: st)) : cF p l e R s m args below meth c Qm D A nL ws cells slots lv pc st := fun H locs lsM hP hD hS hl => lv_iconst C.1 C.2.1 hd hv (g H locs lsM hP hD hS hl)
theorem r_bipush (C : cX p s m args c D cs A own cc nL) {n : Int} {v : Int32} (hd : decode cc pc = .ok (.bipush n, 2)) (hv : (Int8.ofInt n).toInt32 = v) (g : cF p l e R s m args below meth c Qm D A nL ws cells slots lv (pc + 2) (.int v :: st)) : cF p l e R s m args below meth c Qm D A nL ws cells slots lv pc st := fun H locs lsM hP hD hS hl => lv_bipush C.1 C.2.1 hd hv (g H locs lsM hP hD hS hl)
theorem r_sipush (C : cX p s m args c D cs A own cc nL) {n : Int} {v : Int32} (hd : decode cc pc = .ok (.sipush n, 3)) (hv : (Int16.ofInt n).toInt32 = v) (g : cF p l e R s m args below meth c Qm D A nL ws cells slots lv (pc + 3) (.int v :: st)) : cF p l e R s m args below meth c Qm D A nL ws cells slots lv pc st := fun H locs lsM hP hD hS hl => lv_sipush C.1 C.2.1 hd hv (g H locs lsM hP hD hS hl)
theorem r_dup (C : cX p s m args c D cs A own cc nL) {x : Nat} (hd : decode cc pc = .ok (.dup, 1)) (g : cF p l e R s m args below meth c Qm D A nL ws cells slots lv (pc + 1) (.ref x :: .ref x :: st)) : cF p l e R s m args below meth c Qm D A nL ws cells slots lv pc (.ref x :: st) := fun H locs lsM hP hD hS hl => lv_dup C.1 C.2.1 hd rfl (g H locs lsM hP hD hS hl)
theorem r_istore (C : cX p s m args c D cs A own cc nL) {n : Fin 4} {i : Nat} {x : Int32} {lv' : List (Nat × Value)} (hd : decode cc pc = .ok (.istore_n n, 1)) (hi : (n : Nat) = i) (hn : i < nL) (hl' : (i, Value.int x) :: lv.filter (fun q => !(q.1 == i) && !(q.1 + 1 == i && q.2.category == 2)) = lv') (g : cF p l e R s m args below meth c Qm D A nL ws cells slots lv' (pc + 1) st) : cF p l e R s m args below meth c Qm D A nL ws cells slots lv pc (.int x :: st) := fun H locs lsM hP hD hS hl => lv_istore_n C.1 C.2.1 hd hi hl hn hl' (fun ls' h => g H locs ls' hP hD hS h)
theorem r_astore (C : cX p s m args c D cs A own cc nL) {n : Fin 4} {i x : Nat} {lv' : List (Nat × Value)} (hd : decode cc pc = .ok (.astore_n n, 1)) (hi : (n : Nat) = i) (hn : i < nL) (hl' : (i, Value.ref x) :: lv.filter (fun q => !(q.1 == i) && !(q.1 + 1 == i && q.2.category == 2)) = lv') (g : cF p l e R s m args below meth c Qm D A nL ws cells slots lv' (pc + 1) st) : cF p l e R s m args below meth c Qm D A nL ws cells slots lv pc (.ref x :: st) := fun H locs lsM hP hD hS hl => lv_astore_n C.1 C.2.1 hd hi hl hn hl' (fun ls' h => g H locs ls' hP hD hS h)
theorem r_iinc (C : cX p s m args c D cs A own cc nL) {i k : Nat} {n : Int} {x v : Int32} {lv' : List (Nat × Value)} (hd : decode cc pc = .ok (.iinc i n, 3)) (hk : lv[k]? = some (i, .int x)) (hv : x + Int32.ofInt n = v) (hn : i < nL) (hl' : (i, Value.int v) :: lv.filter (fun q => !(q.1 == i) && !(q.1 + 1 == i && q.2.category == 2)) = lv') (g : cF p l e R s m args below meth c Qm D A nL ws cells slots lv' (pc + 3) st) : cF p l e R s m args below meth c Qm D A nL ws cells slots lv pc st := fun H locs lsM hP hD hS hl => lv_iinc C.1 C.2.1 hd hl hk hv hn hl' (fun ls' h => g H locs ls' hP hD hS h)
theorem r_goto (C : cX p s m args c D cs A own cc nL) {off : Int} {tgt : Nat} (hd : decode cc pc = .ok (.goto off, 3)) (ht : (pc : Int) + off = (tgt : Int)) (g : cF p l e R s m args below meth c Qm D A nL ws cells slots lv tgt st) : cF p l e R s m args below meth c Qm D A nL ws cells slots lv pc st := fun H locs lsM hP hD hS hl => lv_goto C.1 C.2.1 hd ht (g H locs lsM hP hD hS hl)
theorem r_ge (C : cX p s m args c D cs A own cc nL) {x y : Int32} {off : Int} {tgt : Nat} (hd : decode cc pc = .ok (.if_icmp .ge off, 3)) (ht : (pc : Int) + off = (tgt : Int)) (gt : y ≤ x → cF p l e R s m args below meth c Qm D A nL ws cells slots lv tgt st) (gf : ¬ y ≤ x → cF p l e R s m args below meth c Qm D A nL ws cells slots lv (pc + 3) st) : cF p l e R s m args below meth c Qm D A nL ws cells slots lv pc (.int y :: .int x :: st) := fun H locs lsM hP hD hS hl => lv_icmp_ge C.1 C.2.1 hd ht (fun h => gt h H locs lsM hP hD hS hl) (fun h => gf h H locs lsM hP hD hS hl)
theorem r_gt (C : cX p s m args c D cs A own cc nL) {x y : Int32} {off : Int} {tgt : Nat} (hd : decode cc pc = .ok (.if_icmp .gt off, 3)) (ht : (pc : Int) + off = (tgt : Int)) (gt : y < x → cF p l e R s m args below meth c Qm D A nL ws cells slots lv tgt st) (gf : ¬ y < x → cF p l e R s m args below meth c Qm D A nL ws cells slots lv (pc + 3) st) : cF p l e R s m args below meth c Qm D A nL ws cells slots lv pc (.int y :: .int x :: st) := fun H locs lsM hP hD hS hl => lv_icmp_gt C.1 C.2.1 hd ht (fun h => gt h H locs lsM hP hD hS hl) (fun h => gf h H locs lsM hP hD hS hl)
theorem r_obj (C : cX p s m args c D cs A own cc nL) {idx a : Nat} (hlk : Cond.methodLink own idx objectInit ∈ wAll) (him : Cond.instanceMethod objectInit ∈ wAll) (hcw : Cond.code objectInit ⟨#[0xb1]⟩ 1 none ∈ wAll) (hd : decode cc pc = .ok (.invokespecial idx, 3)) (hR : 1 ≤ R.frames ∧ 60 ≤ R.locals) (g : cF p l e R s m args below meth c Qm D A nL ws cells slots lv (pc + 3) []) : cF p l e R s m args below meth c Qm D A nL ws cells slots lv pc [.ref a] := fun H locs lsM hP hD hS hl =>
  W.objInit (g := F0 m pc lsM [.ref a]) (rest := []) C.1 C.2.1 C.2.2.2.1 (C.2.2.2.2.1 _ hlk) (C.2.2.2.2.1 _ him) (C.2.2.2.2.1 _ hcw) rfl (by rw [C.2.2.1]; exact hl.1) rfl hd hR.1 (Nat.le_trans (Nat.le_of_ble_eq_true rfl) hR.2) (g H locs lsM hP hD hS hl)
theorem r_new (C : cX p s m args c D cs A own cc nL) {Cn : String} {T : u_T} {N ci index : Nat} {fs : List Value} (hin : ∀ w ∈ u_ws Cn T N, w ∈ wAll) (ty : Nat → FieldType) (hty : ∀ k, k < N → parseFieldDescriptor (T k).2.2.1 = some (ty k)) (hcl : Cond.classLink own index Cn ∈ wAll) (hinst : Cond.instantiable Cn N ∈ wAll) (hini : Cond.initialized Cn ∈ wAll) (hc : vwCl[ci]? = some (Cn, T, N)) (hfs : ∀ j, j < N → defaultValue (ty j) = vp_V fs j) (hcells : cells + 1 ≤ R.cells) (hslots : slots + N ≤ R.slots) (hd : decode cc pc = .ok (.new index, 3)) (g : ∀ q, cF p l e R s m args below meth c Qm D A nL ((q, .inr (ci, fs)) :: ws) (cells + 1) (slots + N) lv (pc + 3) (.ref q :: st)) : cF p l e R s m args below meth c Qm D A nL ws cells slots lv pc st := by
  obtain ⟨hx, hb, hml, hown, hts, hE, hA⟩ := C
  intro H locs lsM hP hD hS hl
  refine va_new (ci := ci) (fs := fs) hx hb hts hin ty hty hown (hts _ hcl) (hts _ hinst) (hts _ hini) hE.1 hP hD hS hA hc hfs hcells hslots hd (fun q H1 hP1 hD1 hS1 => ?_)
  exact g q H1 locs lsM (cP_perm List.perm_append_comm hP1) (cD_perm List.perm_append_comm hD1) hS1 hl
theorem r_newI (C : cX p s m args c D cs A own cc nL) {N : Nat} {n : Int32} (harr : Cond.arrayClass .int ∈ wAll) (hn : ¬ n < 0) (hN : n.toNatClampNeg = N) (hB : N ≤ 100000) (hcells : cells + 1 ≤ R.cells) (hslots : slots + N ≤ R.slots) (hd : decode cc pc = .ok (.newarray .int, 2)) (g : ∀ q, cF p l e R s m args below meth c Qm D A nL ((q, .inl (cs.1, N, .inl (fun _ => 0))) :: ws) (cells + 1) (slots + N) lv (pc + 2) (.ref q :: st)) : cF p l e R s m args below meth c Qm D A nL ws cells slots lv pc (.int n :: st) := by
  obtain ⟨hx, hb, hml, hown, hts, hE, hA⟩ := C
  intro H locs lsM hP hD hS hl
  refine va_newa (atype := .int) (ty := .int) (a0 := (N, .inl (fun _ => 0))) hx hb (hts _ harr) rfl hE.1 hP hD hS hA (fun cA => rfl) hn hN (by show N * 4 ≤ 536870912; omega) hcells hslots hd (fun q cA H1 hK1 hP1 hD1 hS1 => ?_)
  have e1 := va_nm_int (hK1.2 3 (cA, .int) rfl).2
  have e2 := va_nm_int (hE.1.2 0 (cs.1, .int) rfl).2
  have : cA = cs.1 := Option.some.inj (e1.symm.trans e2)
  subst this
  exact g q H1 locs lsM (cP_perm List.perm_append_comm hP1) (cD_perm List.perm_append_comm hD1) hS1 hl
theorem r_newZ (C : cX p s m args c D cs A own cc nL) {N : Nat} {n : Int32} (harr : Cond.arrayClass .boolean ∈ wAll) (hn : ¬ n < 0) (hN : n.toNatClampNeg = N) (hB : N ≤ 100000) (hcells : cells + 1 ≤ R.cells) (hslots : slots + N ≤ R.slots) (hd : decode cc pc = .ok (.newarray .boolean, 2)) (g : ∀ q, cF p l e R s m args below meth c Qm D A nL ((q, .inl (cs.2.1, N, .inl (fun _ => 0))) :: ws) (cells + 1) (slots + N) lv (pc + 2) (.ref q :: st)) : cF p l e R s m args below meth c Qm D A nL ws cells slots lv pc (.int n :: st) := by
  obtain ⟨hx, hb, hml, hown, hts, hE, hA⟩ := C
  intro H locs lsM hP hD hS hl
  refine va_newa (atype := .boolean) (ty := .boolean) (a0 := (N, .inl (fun _ => 0))) hx hb (hts _ harr) rfl hE.1 hP hD hS hA (fun cA => rfl) hn hN (by show N * 1 ≤ 536870912; omega) hcells hslots hd (fun q cA H1 hK1 hP1 hD1 hS1 => ?_)
  have e1 := va_nm_boolean (hK1.2 3 (cA, .boolean) rfl).2
  have e2 := va_nm_boolean (hE.1.2 1 (cs.2.1, .boolean) rfl).2
  have : cA = cs.2.1 := Option.some.inj (e1.symm.trans e2)
  subst this
  exact g q H1 locs lsM (cP_perm List.perm_append_comm hP1) (cD_perm List.perm_append_comm hD1) hS1 hl
theorem r_newS (C : cX p s m args c D cs A own cc nL) {N index : Nat} {n : Int32} (hcl : Cond.classLink own index "LeafTable$Seats" ∈ wAll) (hn : ¬ n < 0) (hN : n.toNatClampNeg = N) (hB : N ≤ 100000) (hcells : cells + 1 ≤ R.cells) (hslots : slots + N ≤ R.slots) (hd : decode cc pc = .ok (.anewarray index, 3)) (g : ∀ q, cF p l e R s m args below meth c Qm D A nL ((q, .inl (cs.2.2, N, .inr (.inr (.inr (.inr (fun _ => none)))))) :: ws) (cells + 1) (slots + N) lv (pc + 3) (.ref q :: st)) : cF p l e R s m args below meth c Qm D A nL ws cells slots lv pc (.int n :: st) := by
  obtain ⟨hx, hb, hml, hown, hts, hE, hA⟩ := C
  intro H locs lsM hP hD hS hl
  refine va_newq hx hb hown (hts _ hcl) hE.2.2 hE.1 hP hD hS hA hn hN (by omega) hcells hslots hd (fun q cA H1 hK1 hP1 hD1 hS1 => ?_)
  have e1 := va_nmO (hK1.2 3 (cA, .object "LeafTable$Seats") rfl).2 rfl
  have e2 := va_nmO (hE.1.2 2 (cs.2.2, .object "LeafTable$Seats") rfl).2 rfl
  have : cA = cs.2.2 := Option.some.inj (e1.symm.trans e2)
  subst this
  exact g q H1 locs lsM (cP_perm List.perm_append_comm hP1) (cD_perm List.perm_append_comm hD1) hS1 hl
theorem r_putF (C : cX p s m args c D cs A own cc nL) {Cn : String} {T : u_T} {N ci index a k : Nat} {fs fs' : List Value} {ty : FieldType} {v : Value} (hm : meth.name = "<init>") (hin : ∀ w ∈ u_ws Cn T N, w ∈ wAll) (ty0 : Nat → FieldType) (hty : ∀ k, k < N → parseFieldDescriptor (T k).2.2.1 = some (ty0 k)) (hnm : ∀ a, a < N → ∀ b, b < N → a ≠ b → (T a).2.1 ≠ (T b).2.1) (hc : vwCl[ci]? = some (Cn, T, N)) (hk : k < N) (hlk : Cond.fieldLink own index own (T k).2.1 (T k).2.2.1 ∈ wAll) (hfin : (T k).2.2.2 = true) (hdecl : (T k).1 = own) (hdt : parseFieldDescriptor (T k).2.2.1 = some ty) (hn : narrow ty v = v) (hfit : fits ty v = true) (hl0 : k < fs.length) (hd : decode cc pc = .ok (.putfield index, 3)) (hfs : fs.set k v = fs') (g : cF p l e R s m args below meth c Qm D A nL ((a, .inr (ci, fs')) :: ws) cells slots lv (pc + 3) st) : cF p l e R s m args below meth c Qm D A nL ((a, .inr (ci, fs)) :: ws) cells slots lv pc (v :: .ref a :: st) := by
  obtain ⟨hx, hb, hml, hown, hts, hE, hA⟩ := C
  intro H locs lsM hP hD hS hl
  subst hfs
  exact va_putF (own := own) (ref := own) (C := Cn) (T := T) (N := N) (ci := ci) hx hb hts hin ty0 hty hnm hown hE.1 hP hD hS 0 rfl hc k hk (hts _ hlk) (fun x h => by rw [← hdecl]; exact h) hfin hm hdecl hdt hn hfit hl0 hd (fun H1 locs1 hP1 hD1 hS1 => g H1 locs1 lsM hP1 hD1 hS1 hl)
theorem r_put (C : cX p s m args c D cs A own cc nL) {Cn : String} {T : u_T} {N ci index a k : Nat} {fs fs' : List Value} {ty : FieldType} {v : Value} (hin : ∀ w ∈ u_ws Cn T N, w ∈ wAll) (ty0 : Nat → FieldType) (hty : ∀ k, k < N → parseFieldDescriptor (T k).2.2.1 = some (ty0 k)) (hnm : ∀ a, a < N → ∀ b, b < N → a ≠ b → (T a).2.1 ≠ (T b).2.1) (hc : vwCl[ci]? = some (Cn, T, N)) (hk : k < N) (hlk : Cond.fieldLink own index own (T k).2.1 (T k).2.2.1 ∈ wAll) (hfin : (T k).2.2.2 = false) (hdecl : (T k).1 = own) (hdt : parseFieldDescriptor (T k).2.2.1 = some ty) (hn : narrow ty v = v) (hfit : fits ty v = true) (hl0 : k < fs.length) (hd : decode cc pc = .ok (.putfield index, 3)) (hfs : fs.set k v = fs') (g : cF p l e R s m args below meth c Qm D A nL ((a, .inr (ci, fs')) :: ws) cells slots lv (pc + 3) st) : cF p l e R s m args below meth c Qm D A nL ((a, .inr (ci, fs)) :: ws) cells slots lv pc (v :: .ref a :: st) := by
  obtain ⟨hx, hb, hml, hown, hts, hE, hA⟩ := C
  intro H locs lsM hP hD hS hl
  subst hfs
  exact va_put (own := own) (ref := own) (C := Cn) (T := T) (N := N) (ci := ci) hx hb hts hin ty0 hty hnm hown hE.1 hP hD hS 0 rfl hc k hk (hts _ hlk) (fun x h => by rw [← hdecl]; exact h) hfin hdt hn hfit hl0 hd (fun H1 locs1 hP1 hD1 hS1 => g H1 locs1 lsM hP1 hD1 hS1 hl)
theorem r_get (C : cX p s m args c D cs A own cc nL) {Cn : String} {T : u_T} {N ci index a k : Nat} {fs : List Value} {v : Value} (hin : ∀ w ∈ u_ws Cn T N, w ∈ wAll) (hc : vwCl[ci]? = some (Cn, T, N)) (hk : k < N) (hlk : Cond.fieldLink own index own (T k).2.1 (T k).2.2.1 ∈ wAll) (hdecl : (T k).1 = own) (hv : fs[k]? = some v) (hd : decode cc pc = .ok (.getfield index, 3)) (g : cF p l e R s m args below meth c Qm D A nL ((a, .inr (ci, fs)) :: ws) cells slots lv (pc + 3) (v :: st)) : cF p l e R s m args below meth c Qm D A nL ((a, .inr (ci, fs)) :: ws) cells slots lv pc (.ref a :: st) := by
  obtain ⟨hx, hb, hml, hown, hts, hE, hA⟩ := C
  intro H locs lsM hP hD hS hl
  exact va_get (own := own) (ref := own) (C := Cn) (T := T) (N := N) (ci := ci) hx hb hts hin hown hE.1 hP 0 rfl hc k hk (hts _ hlk) (fun x h => by rw [← hdecl]; exact h) hv hd (g H locs lsM hP hD hS hl)
theorem r_iast (C : cX p s m args c D cs A own cc nL) (q0 : Nat) {a n : Nat} {f : Nat → Int32} {i x : Int32} {ws' : va_W} (ha : ws[q0]? = some (a, .inl (cs.1, n, .inl f))) (hin : vp_in i n) (hd : decode cc pc = .ok (.iastore, 1)) (hw : ws.set q0 (a, .inl (cs.1, n, .inl (upd f i.toNatClampNeg x))) = ws') (g : cF p l e R s m args below meth c Qm D A nL ws' cells slots lv (pc + 1) st) : cF p l e R s m args below meth c Qm D A nL ws cells slots lv pc (.int x :: .int i :: .ref a :: st) := by
  obtain ⟨hx, hb, hml, hown, hts, hE, hA⟩ := C
  intro H locs lsM hP hD hS hl
  subst hw
  exact va_iast hx hb hE.1 hP hD hS q0 0 ha rfl hin hd (fun H1 locs1 hP1 hD1 hS1 => g H1 locs1 lsM hP1 hD1 hS1 hl)
theorem r_aast (C : cX p s m args c D cs A own cc nL) (q0 qk : Nat) {a n v : Nat} {vs : List Value} {f : Nat → Option Nat} {i : Int32} {ws' : va_W} (ha : ws[q0]? = some (a, .inl (cs.2.2, n, .inr (.inr (.inr (.inr f)))))) (hv : ws[qk]? = some (v, .inr (4, vs))) (hin : vp_in i n) (hd : decode cc pc = .ok (.aastore, 1)) (hw : ws.set q0 (a, .inl (cs.2.2, n, .inr (.inr (.inr (.inr (va_up f i.toNatClampNeg (some v))))))) = ws') (g : cF p l e R s m args below meth c Qm D A nL ws' cells slots lv (pc + 1) st) : cF p l e R s m args below meth c Qm D A nL ws cells slots lv pc (.ref v :: .int i :: .ref a :: st) := by
  obtain ⟨hx, hb, hml, hown, hts, hE, hA⟩ := C
  intro H locs lsM hP hD hS hl
  subst hw
  exact va_astq (r := (RX4, TX4, 5)) hx hb hE.1 hP hD hS q0 2 qk 4 ha rfl hv rfl hin hd (fun H1 locs1 hP1 hD1 hS1 => g H1 locs1 lsM hP1 hD1 hS1 hl)
end MKR
