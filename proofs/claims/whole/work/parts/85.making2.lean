/-! ===== making things: calls, start, end ===== -/
theorem cgood {y : MethodName} {bytes : ByteArray} {maxL : Nat} (hcw : Cond.code y bytes maxL none ∈ wAll) : GoodIn wAll (Cond.code y bytes maxL none :: wAll) := fun z hz => by
  rcases List.mem_cons.mp hz with e9 | e9
  · rw [e9]; exact ⟨hcw, wAll_good _ hcw⟩
  · exact ⟨e9, wAll_good _ e9⟩
section MKC
variable {p : Program} {l : Launch} {e : Env} {R : Room} {s : State} {m : MethodId} {args : Array Value} {below : List Frame} {meth : Method} {c : Code} {Qm : State → Prop} {D : va_G} {cs : pm_Cs} {A : Nat → Prop} {nL : Nat} {ws : va_W} {cells slots : Nat} {lv : List (Nat × Value)} {pc : Nat} {st rest : List Value} {own : String} {cc : ByteArray}
variable {y : MethodName} {bytes : ByteArray} {maxL mc ms d index h0 : Nat} {as : List Value} {o : va_E} {S : Type} {post : S → va_W}
set_option maxHeartbeats 1000000 in
theorem r_callN (C : cX p s m args c D cs A own cc nL) (M : cMet l y bytes maxL D cs as h0 o post mc ms d) {host : String} (hnest : (own, index, y, host) ∈ pm_nM) (hcw : Cond.code y bytes maxL none ∈ wAll) (hini : Cond.initialized y.cls ∈ wAll) (him : Cond.instanceMethod y ∈ wAll) (hnm : y.name = "<init>") (hdd : y.cls ≠ "java/lang/invoke/MethodHandle" ∧ y.cls ≠ "java/lang/invoke/VarHandle" ∧ (parseMethodDescriptor y.desc).map (fun d => d.parameters.length) = some as.length) (hR : d + 1 ≤ R.frames ∧ 60 * (d + 1) ≤ R.locals) (hmx : maxL ≤ 41) (hcs : cells + mc ≤ R.cells ∧ slots + ms ≤ R.slots) (hst : st = as.reverse ++ .ref h0 :: rest) (hcat : (rest.map fun v => v.category).sum ≤ 8) (hd : decode cc pc = .ok (.invokespecial index, 3)) (g : ∀ u, cF p l e R s m args below meth c Qm D A nL (post u ++ ws) (cells + mc) (slots + ms) lv (pc + 3) rest) : cF p l e R s m args below meth c Qm D A nL ((h0, o) :: ws) cells slots lv pc st := by
  obtain ⟨hx, hb, hml, hown, hts, hE, hA⟩ := C
  intro H locs lsM hP hD hS hl
  have hPc : va_P D vwCl [(h0, o)] H := cP_of (fun x hx => cP_mem hP (by rw [List.mem_singleton.mp hx]; exact List.mem_cons_self))
  have hFc := va_free (wc := [(h0, o)]) hD hS hA [0] rfl
  refine va_callv (va_runIN (As := as) (rest := rest) (bytes := bytes) (maxL := maxL) (n := as.length) ⟨hx, hb, hml, hown, hts⟩ (M H.size) ⟨va_cnB as.length hts (cgood hcw) rfl rfl rfl (hE.2.1 _ hnest) (hts _ hini) hdd ⟨hR.1, by show 8 + (maxL + 11) + 60 * d ≤ R.locals; omega⟩, hnm, hts _ him⟩ ⟨fun a U g mk q => ⟨q.1, q.2.1, cE_call q.2.2.1, q.2.2.2⟩, fun U hU hW => ⟨rfl, by rw [hU], cE_warm hE hW, by rw [hU]; exact hPc⟩⟩ rfl rfl hl.1 hst (lv_room hcat) hd hcs) hS (fun q _ h => hFc q h) hFc (fun u t H1 locs1 ht hvm hw hB hz1 hk1 hS1 => ?_)
  obtain ⟨hP1, hD1⟩ := hB
  rw [ht] at hP1
  obtain ⟨hP2, hD2⟩ := cjoin hP hD hk1 hFc hP1 hD1
  exact g u H1 locs1 lsM hP2 hD2 hS1 hl
set_option maxHeartbeats 1000000 in
theorem r_callI (C : cX p s m args c D cs A own cc nL) (M : cMet l y bytes maxL D cs as h0 o post mc ms d) (hlk : Cond.methodLink own index y ∈ wAll) (hcw : Cond.code y bytes maxL none ∈ wAll) (hini : Cond.initialized y.cls ∈ wAll) (him : Cond.instanceMethod y ∈ wAll) (hnm : y.name = "<init>") (hdd : y.cls ≠ "java/lang/invoke/MethodHandle" ∧ y.cls ≠ "java/lang/invoke/VarHandle" ∧ (parseMethodDescriptor y.desc).map (fun d => d.parameters.length) = some as.length) (hR : d + 1 ≤ R.frames ∧ 60 * (d + 1) ≤ R.locals) (hmx : maxL ≤ 41) (hcs : cells + mc ≤ R.cells ∧ slots + ms ≤ R.slots) (hst : st = as.reverse ++ .ref h0 :: rest) (hcat : (rest.map fun v => v.category).sum ≤ 8) (hd : decode cc pc = .ok (.invokespecial index, 3)) (g : ∀ u, cF p l e R s m args below meth c Qm D A nL (post u ++ ws) (cells + mc) (slots + ms) lv (pc + 3) rest) : cF p l e R s m args below meth c Qm D A nL ((h0, o) :: ws) cells slots lv pc st := by
  obtain ⟨hx, hb, hml, hown, hts, hE, hA⟩ := C
  intro H locs lsM hP hD hS hl
  have hPc : va_P D vwCl [(h0, o)] H := cP_of (fun x hx => cP_mem hP (by rw [List.mem_singleton.mp hx]; exact List.mem_cons_self))
  have hFc := va_free (wc := [(h0, o)]) hD hS hA [0] rfl
  refine va_callv (va_runI (As := as) (rest := rest) (bytes := bytes) (maxL := maxL) (n := as.length) ⟨hx, hb, hml, hown, hts⟩ (M H.size) ⟨callB_of as.length hts (cgood hcw) rfl rfl rfl (hts _ hini) (hts _ hlk) hdd ⟨hR.1, by show 8 + (maxL + 11) + 60 * d ≤ R.locals; omega⟩, hnm, hts _ him⟩ ⟨fun a U g mk q => ⟨q.1, q.2.1, cE_call q.2.2.1, q.2.2.2⟩, fun U hU hW => ⟨rfl, by rw [hU], cE_warm hE hW, by rw [hU]; exact hPc⟩⟩ rfl rfl hl.1 hst (lv_room hcat) hd hcs) hS (fun q _ h => hFc q h) hFc (fun u t H1 locs1 ht hvm hw hB hz1 hk1 hS1 => ?_)
  obtain ⟨hP1, hD1⟩ := hB
  rw [ht] at hP1
  obtain ⟨hP2, hD2⟩ := cjoin hP hD hk1 hFc hP1 hD1
  exact g u H1 locs1 lsM hP2 hD2 hS1 hl
end MKC
/-- where a constructor ends -/
abbrev cQ (below : List Frame) (args : Array Value) (s : State) (D : va_G) (h0 : Nat) (o : va_E) {S : Type} (post : S → va_W) (mc ms : Nat) : State → Prop := MQ below (va_Qv (fun _ : S => True) (fun u t => va_P D vwCl (post u) t.heap ∧ va_D (va_A [(h0, o)] s.heap.size) (post u)) (va_A [(h0, o)] s.heap.size)) args s mc ms (va_A [(h0, o)] s.heap.size)
theorem r_ret {p : Program} {l : Launch} {e : Env} {R : Room} {s : State} {m : MethodId} {args : Array Value} {below : List Frame} {meth : Method} {c : Code} {D : va_G} {cs : pm_Cs} {nL : Nat} {ws : va_W} {cells slots mc ms : Nat} {lv : List (Nat × Value)} {pc h0 : Nat} {own : String} {cc : ByteArray} {o : va_E} {S : Type} {post : S → va_W} (C : cX p s m args c D cs (va_A [(h0, o)] s.heap.size) own cc nL) (hr : meth.sig.returnType = none) (hlocks : meth.locks = false) (u : S) (hp : ws.Perm (post u)) (hc1 : cells = mc) (hc2 : slots = ms) (hd : decode cc pc = .ok (.return_, 1)) : cF p l e R s m args below meth c (cQ below args s D h0 o post mc ms) D (va_A [(h0, o)] s.heap.size) nL ws cells slots lv pc [] := by
  obtain ⟨hx, hb, hml, hown, hts, hE, hA⟩ := C
  subst hc1
  subst hc2
  intro H locs lsM hP hD hS hl
  exact W.vret hx hb hr (fun t ht hW => ⟨⟨u, rfl, trivial, by rw [ht]; exact cP_perm hp hP, cD_perm hp hD⟩, hS.F ht⟩) hS.2.2 hd
/-- from a constructor's first instruction -/
theorem cMet_of {l : Launch} {y : MethodName} {bytes : ByteArray} {maxL : Nat} {D : va_G} {cs : pm_Cs} {as : List Value} {h0 : Nat} {o : va_E} {S : Type} {post : S → va_W} {mc ms d : Nat} (hpl : plainName y.cls = true) (hfit : (lg_sl (.ref h0 :: as)).length ≤ maxL) (body : ∀ (p : Program) (e : Env) (s : State) (m : MethodId) (args : Array Value) (below : List Frame) (meth : Method) (c : Code), cX p s m args c D cs (va_A [(h0, o)] s.heap.size) y.cls bytes maxL → meth.sig.returnType = none → meth.locks = false → meth.name = y.name → cF p l e { frames := d, cells := mc, slots := ms, locals := 60 * d } s m args below meth c (cQ below args s D h0 o post mc ms) D (va_A [(h0, o)] s.heap.size) maxL [(h0, o)] 0 0 (lv_args 0 (.ref h0 :: as)) 0 []) : cMet l y bytes maxL D cs as h0 o post mc ms d := by
  intro sz
  refine Met.ofW (cc := bytes) (maxL := maxL) (ret := none) hpl rfl ?_
  intro p e s m args below meth c s₁ B hml hv
  obtain ⟨rfl, hsz, hE, hP⟩ := hv
  have hx := B.exec
  have hb := B.bytes
  have hr := B.returns
  have hts := atoms_spec (ws := Cond.code y bytes maxL none :: wAll) B.pre
  have hown : s.vm.findClass y.cls = some m.cls := findClass_of_methodNamed B.named
  have hlocks := B.notSynchronized
  have hin : meth.name = y.name := (name_of_methodNamed B.named B.method).1
  subst hsz
  have hD : va_D (va_A [(h0, o)] s.heap.size) [(h0, o)] := cD_of (by simp) (fun x hx => Or.inl ⟨0, o, by rw [List.mem_singleton.mp hx]; rfl⟩)
  have hl := lv_entry (.ref h0 :: as) (n := maxL) hfit
  rw [lg_entry_eq]
  exact body p e s m _ below meth c ⟨hx, hb, hml, hown, fun w hw => hts w (List.mem_cons_of_mem _ hw), hE, fun q h => Or.inr h⟩ hr hlocks hin s.heap [] _ hP hD va_S.rf hl
