/-! THE CLAIM OUT OF ONE WALK OF THE LAW'S BODY. Your part is whole_start (and what it stands on); all else here is the same for every law, but numbers. -/
def R_law : String := "LeafTableLaw"
def lw_P (b : Addr) (xs : List Int32) (args : Array Value) (s : State) : Prop := args = #[.ref b] ∧ s.IntsAt b xs ∧ xs.length ≤ 256 ∧ (Jvm.Cond.and given_1 narrow_1).before args s = true
def lw_Q (_ : Array Value) (s : State) (o : Outcome) (t : State) : Prop := o = .returned (some (.int 1)) ∧ Framed s o t [] 600000 7302250
def lw_Z (below : List Frame) (a : Array Value) (s : State) : State → Prop := fun t => ∃ o, t.status = .running ∧ Ended t below o ∧ lw_Q a s o t
/-- the law's own end, with 1 on the stack, nothing written that was there before, its room as the claim has it -/
theorem lw_ret {p : Program} {l : Launch} {e : Env} {s : State} {m : MethodId} {below : List Frame} {meth : Method} {c : Code} {b : Nat} (hx : p.tables.exec = Jvm.exec) (hb : c.code = code) (hr : meth.sig.returnType = ret) (hlocks : meth.locks = false) {pc : Nat} {H : Heap} {ls : Array Slot} (hdg : decode code pc = .ok (.ireturn, 1)) : W p l e room_1 s m #[Value.ref b] below meth c H [] 600000 7302250 (lw_Z below #[Value.ref b] s) (F0 m pc ls [.int 1]) := by
  intro T hT X
  obtain ⟨fs, hret, hrun, hended, hW, hframe⟩ := X.leave (v := some (.int 1)) (hlocks := hlocks) (fun h => by rw [hr] at h; cases h)
  have hmeth' : T.vm.method? m = some meth := X.method'
  refine ⟨T.setFrames fs, ?_, .returned (some (.int 1)), hrun, hended, rfl, ⟨_, rfl⟩, hW, hframe⟩
  jvm_step X.here [X.here.top, hx, hb, hdg, hmeth', hr, ret, narrow_b1]
  (try refine ⟨rfl, ?_⟩); (try refine ⟨rfl, ?_⟩)
  first | (intro acts; rw [hret _ acts rfl rfl rfl]) | rw [hret _ _ rfl rfl rfl]
  exact Steps.refl _
/-- what holds at the law's entry: the machine, the code, the tables' words (any of lw_tbl by 'hts w (by decide +kernel)'), the script of L ints xs at the cell b, what the Statement gives of the start (any of its parts by flat_of_before) -/
def lw_At (p : Program) (s : State) (m : MethodId) (meth : Method) (c : Code) (b L : Nat) (xs : Nat → Int32) : Prop :=
  p.tables.exec = Jvm.exec ∧ c.code = code ∧ meth.sig.returnType = ret ∧ c.maxLocals = 4 ∧ s.vm.findClass R_law = some m.cls ∧ (∀ w ∈ lw_tbl, w.before #[Value.ref b] s = true) ∧ va_X b L xs s s.heap ∧ b < s.heap.size ∧ meth.locks = false ∧ (Jvm.Cond.and given_1 narrow_1).before #[Value.ref b] s = true
/-- from the law's loop on, over the first world -/
theorem law_rest {p : Program} {l : Launch} {e : Env} {s : State} {m : MethodId} {below : List Frame} {meth : Method} {c : Code} {b L : Nat} {xs : Nat → Int32} {D : va_G} {cs : pm_Cs} (hL : L ≤ 256) (C0 : lw_At p s m meth c b L xs) (hK : va_K D vwCl (pm_tys cs) s) (x y : Nat) (v : Nat → Nat → Nat) (u : Nat → Nat) : cF p l e room_1 s m #[Value.ref b] below meth c (lw_Z below #[Value.ref b] s) D (pm_A s.heap.size) 4 (ws0 cs x y v u) 80 1964 [(2, .ref y), (1, .ref x), (0, .ref b)] 16 [] := by
  obtain ⟨hx, hb, hr, hml, hown, hts, hX, hbl, hlocks, hgv⟩ := C0
  intro H locs lsM hP hD hS hlv
  obtain ⟨t0, z0, y0⟩ := sta_GROWTH hts hgv
  obtain ⟨t1, z1, y1⟩ := sta_TENS hts hgv
  obtain ⟨t2, z2, y2⟩ := sta_FACTORIALS hts hgv
  obtain ⟨ad, had⟩ : ∃ ad, ad = adF b x y (fun k => pm_nth 0 [t0, t1, t2] k) v u := ⟨_, rfl⟩
  have hG : pm_GA ad s.heap.size := by rw [had]; exact w0_GA hD
  have hP0 : va_P D vwCl (pm_wl ad cs w0) H := by rw [had]; exact w0_P hP
  have a36 : ad 36 0 = t0 := by rw [had]; rfl
  have a37 : ad 37 0 = t1 := by rw [had]; rfl
  have a38 : ad 38 0 = t2 := by rw [had]; rfl
  have a39 : ad 39 0 = b := by rw [had]; rfl
  have a0 : ad 0 0 = x := by rw [had]; rfl
  have a19 : ad 19 0 = y := by rw [had]; rfl
  have hE : pm_E D cs ad s.heap.size s := by
    refine ⟨Nat.le_refl _, hK, fun q hq => va_Nw.of rfl (hts _ (nF_in q hq)), fun q hq => va_Nw.of rfl (hts _ (nM_in q hq)), fun k h1 h2 => ?_⟩
    rcases (show k = 36 ∨ k = 37 ∨ k = 38 by omega) with rfl | rfl | rfl
    · rw [a36]; exact ⟨z0, y0⟩
    · rw [a37]; exact ⟨z1, y1⟩
    · rw [a38]; exact ⟨z2, y2⟩
  have CX : pm_X p s m #[Value.ref b] c D cs ad s.heap.size RL code 4 := ⟨hx, hb, hml, hown, fun w hw => hts w (wAll_tbl w hw), hE, hG⟩
  have hall := sl_law p l e room_1 s m #[Value.ref b] below meth c 80 1964 (lw_Z below #[Value.ref b] s) D cs ad s.heap.size 16 L xs CX ⟨Nat.le_of_ble_eq_true rfl, Nat.le_of_ble_eq_true rfl, Nat.le_of_ble_eq_true rfl, Nat.le_of_ble_eq_true rfl⟩ (by rw [a39]; exact hX) (by rw [a39]; exact hbl) (by rw [a39]; exact Nat.not_le.mpr hbl)
  have hQ : pm_HQ (pm_F p l e room_1 s m #[Value.ref b] below meth c 80 1964 (lw_Z below #[Value.ref b] s) D cs ad s.heap.size 4 bp_law) code bp_law (some .boolean) (fun r _ => r = some (.inl 1)) := by
    refine ⟨?_, ?_, ?_, ?_⟩
    · intro i ls x1 w2 hd _ hq hw2 hoL hoS hl H2 locs2 lsM2 hP2 hS2 hlv2
      have : x1 = 1 := Sum.inl.inj (Option.some.inj hq)
      subst this
      exact va_forget hS2.2.2 (W.widen (k := 600000) (n := 7302250) (Nat.le_of_ble_eq_true rfl) (Nat.le_of_ble_eq_true rfl) (lw_ret hx hb hr hlocks hd))
    · intro i ls x1 w2 hd ht
      cases ht
    · rintro i ls x1 w2 hd ⟨n, ht⟩
      cases ht
    · intro i ls w2 hd ht
      cases ht
  have hgo : pm_Gx (RT 16) (co_law L xs) 8 [some (.inr (.inr (39, 0))), some (.inr (.inr (0, 0))), some (.inr (.inr (19, 0))), none] [] w0 (fun r _ => r = some (.inl 1)) := by
    refine pm_go (i2 := 10) (ls2 := [some (.inr (.inr (39, 0))), some (.inr (.inr (0, 0))), some (.inr (.inr (19, 0))), some (.inl 0)]) (st2 := []) (w2 := w0) 2 (fun F h => h) ?_
    exact law_loop hL (fun _ _ => rfl) (L + 1) 0 0 w0 (by omega) (by omega) rfl Rel_w0
  have hF := hgo _ (pm_Gn_F hall hQ (pm_sound pm_codes_ok hG 16)) pm_F_mono
  have hoL : pm_okL [some (.inr (.inr (39, 0))), some (.inr (.inr (0, 0))), some (.inr (.inr (19, 0))), none] := by
    intro z hz
    have : z = .inr (.inr (39, 0)) ∨ z = .inr (.inr (0, 0)) ∨ z = .inr (.inr (19, 0)) := by simpa using hz
    rcases this with rfl | rfl | rfl <;> exact Nat.le_of_ble_eq_true rfl
  have hlv2 : lv_has lsM 4 (pm_lv ad [some (.inr (.inr (39, 0))), some (.inr (.inr (0, 0))), some (.inr (.inr (19, 0))), none]) := by
    rw [show pm_lv ad [some (.inr (.inr (39, 0))), some (.inr (.inr (0, 0))), some (.inr (.inr (19, 0))), none] = [(0, .ref (ad 39 0)), (1, .ref (ad 0 0)), (2, .ref (ad 19 0))] from rfl, a39, a0, a19]
    exact lv_sub hlv [2, 1, 0] rfl
  exact hF wok_w0 hoL (fun z hz => by cases hz) rfl H locs lsM hP0 hS hlv2
set_option maxHeartbeats 4000000 in
set_option maxRecDepth 20000 in
theorem whole_start {p : Program} {e : Env} {s : State} {m : MethodId} {below : List Frame} {meth : Method} {c : Code} (l : Launch) {b L : Nat} {xs : Nat → Int32} (hL : L ≤ 256) (C0 : lw_At p s m meth c b L xs) : W p l e room_1 s m #[Value.ref b] below meth c s.heap [] 0 0 (lw_Z below #[Value.ref b] s) (entryFrame m ([Value.ref b] : List Value).toArray 4) := by
  have C1 := C0
  obtain ⟨hx, hb, hr, hml, hown, hts, hX, hbl, hlocks, hgv⟩ := C1
  obtain ⟨D, cs, hK, hAO⟩ := law_env hts
  have C : cX p s m #[Value.ref b] c D cs (pm_A s.heap.size) RL code 4 := ⟨hx, hb, hml, hown, fun w hw => hts w (wAll_tbl w hw), ⟨hK, fun q hq => va_Nw.of rfl (hts _ (nM_in q hq)), hAO⟩, fun q h => h⟩
  have hl := lv_entry ([.ref b]) (n := 4) (Nat.le_of_ble_eq_true rfl)
  rw [lg_entry_eq]
  suffices h : cF p l e room_1 s m #[Value.ref b] below meth c (lw_Z below #[Value.ref b] s) D (pm_A s.heap.size) 4 [] 0 0 [(0, .ref b)] 0 [] from h s.heap [] _ (fun k q h => by simp at h) ⟨fun i j p q h => by simp at h, fun k q h => by simp at h⟩ va_S.rf hl
  refine r_new C (ci := 7) (fs := [.null, .null, .null, .null, .null, .null, .null, .null, .null, .long 0]) wiX7 tyX7 tyX7_ok ck_cl_L_7 ck_in_X7 ck_it_X7 rfl ck_fs_X7 (Nat.le_of_ble_eq_true rfl) (Nat.le_of_ble_eq_true rfl) dk_L_law_0 (fun x => ?_)
  refine r_dup C dk_L_law_3 ?_
  refine r_callI C (c_X7_init l D cs x) ck_ml_L_9 ck_co_X7_init ck_it_X7 ck_im_X7_init rfl ck_dd_X7_init ⟨(Nat.le_of_ble_eq_true rfl), (Nat.le_of_ble_eq_true rfl)⟩ (Nat.le_of_ble_eq_true rfl) ⟨(Nat.le_of_ble_eq_true rfl), (Nat.le_of_ble_eq_true rfl)⟩ (rest := [.ref x]) rfl (Nat.le_of_ble_eq_true rfl) dk_L_law_4 (fun v => ?_)
  refine r_astore C (lv' := [(1, .ref x), (0, .ref b)]) dk_L_law_7 rfl (by decide) rfl ?_
  refine r_new C (ci := 8) (fs := [.int 0, .int 0, .int 0, .null, .null, .null, .null, .int 0, .int 0, .int 0, .int 0, .null, .null, .null, .null, .null, .int 0, .int 0, .int 0, .int 0, .int 0, .null, .int 0, .null, .int 0, .null, .null, .null, .long 0, .null, .null]) wiX8 tyX8 tyX8_ok ck_cl_L_10 ck_in_X8 ck_it_X8 rfl ck_fs_X8 (Nat.le_of_ble_eq_true rfl) (Nat.le_of_ble_eq_true rfl) dk_L_law_8 (fun y => ?_)
  refine r_dup C dk_L_law_11 ?_
  refine r_callI C (c_X8_init l D cs y) ck_ml_L_12 ck_co_X8_init ck_it_X8 ck_im_X8_init rfl ck_dd_X8_init ⟨(Nat.le_of_ble_eq_true rfl), (Nat.le_of_ble_eq_true rfl)⟩ (Nat.le_of_ble_eq_true rfl) ⟨(Nat.le_of_ble_eq_true rfl), (Nat.le_of_ble_eq_true rfl)⟩ (rest := [.ref y]) rfl (Nat.le_of_ble_eq_true rfl) dk_L_law_12 (fun u => ?_)
  refine r_astore C (lv' := [(2, .ref y), (1, .ref x), (0, .ref b)]) dk_L_law_15 rfl (by decide) rfl ?_
  exact r_cnt rfl rfl (law_rest hL C0 hK x y v u)
