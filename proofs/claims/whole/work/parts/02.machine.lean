/-! ===== THE PURE MACHINE: values, worlds, instructions as closures, runs ===== -/
/-- a value: an int, a long, or an object by kind and number -/
abbrev pm_V : Type := Int32 ⊕ (Int64 ⊕ (Nat × Nat))
/-- a world: ints by kind, number, slot; longs by kind; the order of the seats in Acts.before -/
abbrev pm_W : Type := (Nat → Nat → Nat → Int32) × ((Nat → Int64) × (Nat → Nat))
abbrev pm_L : Type := List (Option pm_V)
abbrev pm_K : Type := Nat → pm_L → List pm_V → pm_W → Prop
abbrev pm_Q : Type := Option pm_V → pm_W → Prop
abbrev pm_C : Type := Nat → List pm_V → pm_W → Option pm_V → pm_W → Prop
abbrev pm_Op : Type := Nat → pm_L → List pm_V → pm_W → pm_K → pm_Q → pm_C → Prop
def pm_nth {α : Type} (d : α) : List α → Nat → α
  | [], _ => d
  | a :: _, 0 => a
  | _ :: t, n + 1 => pm_nth d t n
/-- how many of a kind there are: 0 LeafTable 1 Text 2 letters 3 Table 4 kinds 5 wants 6 ears 7 Seats 8 leaves 9 Acts 10 before 11 kept 12 isKept 13 Dinners 14 spoke 15 more 16 Plans 17 trials 18 Chances 19 LeafTableModel 20 kind 21 wants 22 ear 23 now 24 readLeaf 25 readKind 26 readWants 27 readEar 28 text 29 row 30 mosts 31 spoke 32 grew 33 values 34 isKept 35 kept 36 GROWTH 37 TENS 38 FACTORIALS 39 the script -/
def pm_cnts : List Nat := [1, 1, 1, 1, 1, 1, 1, 23, 23, 1, 1, 1, 1, 1, 1, 1, 1, 1, 1, 1, 1, 1, 1, 1, 1, 1, 1, 1, 1, 1, 1, 1, 1, 1, 1, 1, 1, 1, 1, 1]
def pm_cnt (k : Nat) : Nat := pm_nth 0 pm_cnts k
/-- class numbers (one more; 0: no object) -/
def pm_kcs : List Nat := [8, 7, 0, 6, 0, 0, 0, 5, 0, 1, 0, 0, 0, 3, 0, 0, 4, 0, 2, 9]
def pm_kc (k : Nat) : Nat := pm_nth 0 pm_kcs k
/-- the kinds of fields: 0 int, 1 long, t + 2 an object of kind t -/
def pm_fts : List (List Nat) := [[3, 5, 9, 11, 13, 14, 15, 18, 20, 1], [4, 0], [], [6, 7, 8, 0, 0, 0], [], [], [], [10, 0, 0, 0, 0], [], [12, 0], [], [], [], [16, 17, 0, 0, 0, 0], [], [], [5, 19, 0, 0, 0], [], [5, 18], [0, 0, 0, 22, 23, 24, 25, 0, 0, 0, 0, 26, 27, 28, 29, 30, 0, 0, 0, 0, 0, 31, 0, 32, 0, 33, 34, 35, 1, 36, 37]]
def pm_ftl (k : Nat) : List Nat := pm_nth [] pm_fts k
def pm_ft (k f : Nat) : Nat := pm_nth 0 (pm_ftl k) f
/-- arrays: 0 none, 1 ints, 2 booleans, 3 seats; and how long -/
def pm_ats : List Nat := [0, 0, 1, 0, 1, 1, 1, 0, 1, 0, 3, 3, 2, 0, 1, 1, 0, 3, 0, 0, 1, 1, 1, 1, 1, 1, 1, 1, 1, 1, 1, 1, 1, 1, 2, 1, 1, 1, 1, 0]
def pm_at (k : Nat) : Nat := pm_nth 0 pm_ats k
def pm_als : List Nat := [0, 0, 40, 0, 5, 5, 5, 0, 5, 0, 14, 2, 2, 0, 6, 6, 0, 6, 0, 0, 5, 5, 5, 18, 5, 5, 5, 5, 40, 126, 32, 6, 6, 1296, 2, 18, 4, 7, 6, 0]
def pm_al (k : Nat) : Nat := pm_nth 0 pm_als k
def pm_stG : List Int32 := [1, -1, 2, 0]
def pm_stT : List Int32 := [1, 10, 100, 1000, 10000, 100000, 1000000]
def pm_stF : List Int32 := [1, 1, 2, 6, 24, 120]
def pm_sts : List (List Int32) := [pm_stG, pm_stT, pm_stF]
/-- what stands in a static table -/
def pm_st (k n : Nat) : Int32 := pm_nth 0 (pm_nth [] pm_sts (k - 36)) n
/-- a field read -/
def pm_fvt (w : pm_W) (k j f : Nat) : Nat → pm_V
  | 0 => .inl (w.1 k j f)
  | 1 => .inr (.inl (w.2.1 k))
  | t + 2 => .inr (.inr (t, j))
def pm_fv (w : pm_W) (k j f : Nat) : pm_V := pm_fvt w k j f (pm_ft k f)
/-- which seat stands in an array of seats -/
def pm_ri (w : pm_W) (k n : Nat) : Nat := cond (Nat.beq k 10) (w.2.2 n) (cond (Nat.beq k 11) (15 + n) (17 + n))
def pm_rd (w : pm_W) (k j n : Nat) : Int32 := cond (Nat.ble 36 k) (pm_st k n) (w.1 k j n)
def pm_setI (w : pm_W) (k j f : Nat) (x : Int32) : pm_W := (fun a b c => if a = k ∧ b = j ∧ c = f then x else w.1 a b c, w.2)
def pm_setJ (w : pm_W) (k : Nat) (x : Int64) : pm_W := (w.1, (fun a => if a = k then x else w.2.1 a), w.2.2)
def pm_setB (w : pm_W) (n q : Nat) : pm_W := (w.1, w.2.1, fun a => if a = n then q else w.2.2 a)
-- instructions
def pm_push (c : Int32) : pm_Op := fun i ls st w X _ _ => X (i + 1) ls (.inl c :: st) w
def pm_pushl (c : Int64) : pm_Op := fun i ls st w X _ _ => X (i + 1) ls (.inr (.inl c) :: st) w
def pm_iload (k : Nat) : pm_Op := fun i ls st w X _ _ => match pm_nth none ls k with
  | some (.inl x) => X (i + 1) ls (.inl x :: st) w
  | _ => False
def pm_lload (k : Nat) : pm_Op := fun i ls st w X _ _ => match pm_nth none ls k with
  | some (.inr (.inl x)) => X (i + 1) ls (.inr (.inl x) :: st) w
  | _ => False
def pm_aload (k : Nat) : pm_Op := fun i ls st w X _ _ => match pm_nth none ls k with
  | some (.inr (.inr x)) => X (i + 1) ls (.inr (.inr x) :: st) w
  | _ => False
def pm_isl : Option pm_V → Bool
  | some (.inr (.inl _)) => true
  | _ => false
def pm_okst (ls : pm_L) (k : Nat) : Bool := Nat.blt k ls.length && (Nat.beq k 0 || !(pm_isl (pm_nth none ls (k - 1))))
def pm_istore (k : Nat) : pm_Op := fun i ls st w X _ _ => match st with
  | .inl x :: t => cond (pm_okst ls k) (X (i + 1) (ls.set k (some (.inl x))) t w) False
  | _ => False
def pm_astore (k : Nat) : pm_Op := fun i ls st w X _ _ => match st with
  | .inr (.inr x) :: t => cond (pm_okst ls k) (X (i + 1) (ls.set k (some (.inr (.inr x)))) t w) False
  | _ => False
def pm_lstore (k : Nat) : pm_Op := fun i ls st w X _ _ => match st with
  | .inr (.inl x) :: t => cond (pm_okst ls k && Nat.blt (k + 1) ls.length) (X (i + 1) ((ls.set k (some (.inr (.inl x)))).set (k + 1) none) t w) False
  | _ => False
def pm_iinc (k : Nat) (c : Int32) : pm_Op := fun i ls st w X _ _ => match pm_nth none ls k with
  | some (.inl x) => cond (pm_okst ls k) (X (i + 1) (ls.set k (some (.inl (x + c)))) st w) False
  | _ => False
def pm_bin (f : Int32 → Int32 → Int32) : pm_Op := fun i ls st w X _ _ => match st with
  | .inl y :: .inl x :: t => X (i + 1) ls (.inl (f x y) :: t) w
  | _ => False
def pm_idiv : pm_Op := fun i ls st w X _ _ => match st with
  | .inl y :: .inl x :: t => ¬ y = 0 ∧ X (i + 1) ls (.inl (x / y) :: t) w
  | _ => False
def pm_irem : pm_Op := fun i ls st w X _ _ => match st with
  | .inl y :: .inl x :: t => ¬ y = 0 ∧ X (i + 1) ls (.inl (x - x / y * y) :: t) w
  | _ => False
def pm_ineg : pm_Op := fun i ls st w X _ _ => match st with
  | .inl x :: t => X (i + 1) ls (.inl (-x) :: t) w
  | _ => False
def pm_bil (f : Int64 → Int64 → Int64) : pm_Op := fun i ls st w X _ _ => match st with
  | .inr (.inl y) :: .inr (.inl x) :: t => X (i + 1) ls (.inr (.inl (f x y)) :: t) w
  | _ => False
def pm_lrem : pm_Op := fun i ls st w X _ _ => match st with
  | .inr (.inl y) :: .inr (.inl x) :: t => ¬ y = 0 ∧ X (i + 1) ls (.inr (.inl (x - x / y * y)) :: t) w
  | _ => False
def pm_lsh (f : Int64 → Int32 → Int64) : pm_Op := fun i ls st w X _ _ => match st with
  | .inl y :: .inr (.inl x) :: t => X (i + 1) ls (.inr (.inl (f x y)) :: t) w
  | _ => False
def pm_lcmp : pm_Op := fun i ls st w X _ _ => match st with
  | .inr (.inl y) :: .inr (.inl x) :: t => X (i + 1) ls (.inl (lg_cmp x y) :: t) w
  | _ => False
def pm_i2l : pm_Op := fun i ls st w X _ _ => match st with
  | .inl x :: t => X (i + 1) ls (.inr (.inl x.toInt64) :: t) w
  | _ => False
def pm_l2i : pm_Op := fun i ls st w X _ _ => match st with
  | .inr (.inl x) :: t => X (i + 1) ls (.inl x.toInt32 :: t) w
  | _ => False
def pm_c1 (v : pm_V) : Bool := !(pm_isl (some v))
def pm_dup : pm_Op := fun i ls st w X _ _ => match st with
  | v :: t => cond (pm_c1 v) (X (i + 1) ls (v :: v :: t) w) False
  | _ => False
def pm_dup2 : pm_Op := fun i ls st w X _ _ => match st with
  | v :: u :: t => cond (pm_c1 v && pm_c1 u) (X (i + 1) ls (v :: u :: v :: u :: t) w) False
  | _ => False
def pm_pop : pm_Op := fun i ls st w X _ _ => match st with
  | v :: t => cond (pm_c1 v) (X (i + 1) ls t w) False
  | _ => False
def pm_goto (g : Nat) : pm_Op := fun _ ls st w X _ _ => X g ls st w
def pm_ifeq (g : Nat) : pm_Op := fun i ls st w X _ _ => match st with
  | .inl x :: t => if x = 0 then X g ls t w else X (i + 1) ls t w
  | _ => False
def pm_ifne (g : Nat) : pm_Op := fun i ls st w X _ _ => match st with
  | .inl x :: t => if x = 0 then X (i + 1) ls t w else X g ls t w
  | _ => False
def pm_iflt (g : Nat) : pm_Op := fun i ls st w X _ _ => match st with
  | .inl x :: t => if x < 0 then X g ls t w else X (i + 1) ls t w
  | _ => False
def pm_ifge (g : Nat) : pm_Op := fun i ls st w X _ _ => match st with
  | .inl x :: t => if 0 ≤ x then X g ls t w else X (i + 1) ls t w
  | _ => False
def pm_ifgt (g : Nat) : pm_Op := fun i ls st w X _ _ => match st with
  | .inl x :: t => if 0 < x then X g ls t w else X (i + 1) ls t w
  | _ => False
def pm_ifle (g : Nat) : pm_Op := fun i ls st w X _ _ => match st with
  | .inl x :: t => if x ≤ 0 then X g ls t w else X (i + 1) ls t w
  | _ => False
def pm_cmpeq (g : Nat) : pm_Op := fun i ls st w X _ _ => match st with
  | .inl y :: .inl x :: t => if x = y then X g ls t w else X (i + 1) ls t w
  | _ => False
def pm_cmpne (g : Nat) : pm_Op := fun i ls st w X _ _ => match st with
  | .inl y :: .inl x :: t => if x = y then X (i + 1) ls t w else X g ls t w
  | _ => False
def pm_cmplt (g : Nat) : pm_Op := fun i ls st w X _ _ => match st with
  | .inl y :: .inl x :: t => if x < y then X g ls t w else X (i + 1) ls t w
  | _ => False
def pm_cmpge (g : Nat) : pm_Op := fun i ls st w X _ _ => match st with
  | .inl y :: .inl x :: t => if y ≤ x then X g ls t w else X (i + 1) ls t w
  | _ => False
def pm_cmpgt (g : Nat) : pm_Op := fun i ls st w X _ _ => match st with
  | .inl y :: .inl x :: t => if y < x then X g ls t w else X (i + 1) ls t w
  | _ => False
def pm_cmple (g : Nat) : pm_Op := fun i ls st w X _ _ => match st with
  | .inl y :: .inl x :: t => if x ≤ y then X g ls t w else X (i + 1) ls t w
  | _ => False
/-- a switch: by its numbers, one behind the other -/
def pm_sw (x : Int32) (Y : Nat → Prop) (d : Nat) : List (Int32 × Nat) → Prop
  | [] => Y d
  | (c, g) :: r => if x = c then Y g else pm_sw x Y d r
def pm_tsw (d : Nat) (cs : List (Int32 × Nat)) : pm_Op := fun _ ls st w X _ _ => match st with
  | .inl x :: t => pm_sw x (fun g => X g ls t w) d cs
  | _ => False
def pm_getf (ci f : Nat) : pm_Op := fun i ls st w X _ _ => match st with
  | .inr (.inr (k, j)) :: t => cond (Nat.beq (pm_kc k) (ci + 1)) (X (i + 1) ls (pm_fv w k j f :: t) w) False
  | _ => False
def pm_putf (ci f : Nat) : pm_Op := fun i ls st w X _ _ => match st with
  | .inl x :: .inr (.inr (k, j)) :: t => cond (Nat.beq (pm_kc k) (ci + 1) && Nat.beq (pm_ft k f) 0) (X (i + 1) ls t (pm_setI w k j f x)) False
  | _ => False
def pm_putj (ci f : Nat) : pm_Op := fun i ls st w X _ _ => match st with
  | .inr (.inl x) :: .inr (.inr (k, _)) :: t => cond (Nat.beq (pm_kc k) (ci + 1) && Nat.beq (pm_ft k f) 1) (X (i + 1) ls t (pm_setJ w k x)) False
  | _ => False
def pm_gets (k : Nat) : pm_Op := fun i ls st w X _ _ => X (i + 1) ls (.inr (.inr (k, 0)) :: st) w
def pm_iald : pm_Op := fun i ls st w X _ _ => match st with
  | .inl x :: .inr (.inr (k, j)) :: t => cond (Nat.beq (pm_at k) 1) (vp_in x (pm_al k) ∧ X (i + 1) ls (.inl (pm_rd w k j x.toNatClampNeg) :: t) w) False
  | _ => False
def pm_iast : pm_Op := fun i ls st w X _ _ => match st with
  | .inl v :: .inl x :: .inr (.inr (k, j)) :: t => cond (Nat.beq (pm_at k) 1 && Nat.blt k 36) (vp_in x (pm_al k) ∧ X (i + 1) ls t (pm_setI w k j x.toNatClampNeg v)) False
  | _ => False
def pm_zald : pm_Op := fun i ls st w X _ _ => match st with
  | .inl x :: .inr (.inr (k, j)) :: t => cond (Nat.beq (pm_at k) 2) (vp_in x (pm_al k) ∧ X (i + 1) ls (.inl (w.1 k j x.toNatClampNeg) :: t) w) False
  | _ => False
def pm_zast : pm_Op := fun i ls st w X _ _ => match st with
  | .inl v :: .inl x :: .inr (.inr (k, j)) :: t => cond (Nat.beq (pm_at k) 2) (vp_in x (pm_al k) ∧ X (i + 1) ls t (pm_setI w k j x.toNatClampNeg (vp_nar .boolean v))) False
  | _ => False
def pm_aald : pm_Op := fun i ls st w X _ _ => match st with
  | .inl x :: .inr (.inr (k, _)) :: t => cond (Nat.beq (pm_at k) 3) (vp_in x (pm_al k) ∧ X (i + 1) ls (.inr (.inr (7, pm_ri w k x.toNatClampNeg)) :: t) w) False
  | _ => False
def pm_aast : pm_Op := fun i ls st w X _ _ => match st with
  | .inr (.inr (q, n)) :: .inl x :: .inr (.inr (k, _)) :: t => cond (Nat.beq k 10 && Nat.beq q 7) (vp_in x 14 ∧ X (i + 1) ls t (pm_setB w x.toNatClampNeg n)) False
  | _ => False
/-- the law's script: its length, its ints -/
def pm_slen (L : Nat) : pm_Op := fun i ls st w X _ _ => match st with
  | .inr (.inr (k, _)) :: t => cond (Nat.beq k 39) (X (i + 1) ls (.inl (Int32.ofNat L) :: t) w) False
  | _ => False
def pm_sald (L : Nat) (xs : Nat → Int32) : pm_Op := fun i ls st w X _ _ => match st with
  | .inl x :: .inr (.inr (k, _)) :: t => cond (Nat.beq k 39) (vp_in x L ∧ X (i + 1) ls (.inl (xs x.toNatClampNeg) :: t) w) False
  | _ => False
def pm_popn : Nat → List pm_V → List pm_V → Option (List pm_V × List pm_V)
  | 0, st, a => some (a, st)
  | _ + 1, [], _ => none
  | n + 1, v :: st, a => pm_popn n st (v :: a)
def pm_cat1 (v : pm_V) : Nat := cond (pm_isl (some v)) 2 1
def pm_cat : List pm_V → Nat
  | [] => 0
  | v :: t => pm_cat1 v + pm_cat t
def pm_rets : Option pm_V → List pm_V → List pm_V
  | none, t => t
  | some v, t => v :: t
/-- a static call of method y with n arguments -/
def pm_callS (y n : Nat) : pm_Op := fun i ls st w X _ K => match pm_popn n st [] with
  | some (as, t) => cond (Nat.ble (pm_cat t) 8) (∃ r w1, K y as w r w1 ∧ X (i + 1) ls (pm_rets r t) w1) False
  | none => False
def pm_hd (ci : Nat) : List pm_V → Bool
  | .inr (.inr (k, _)) :: _ => Nat.beq (pm_kc k) (ci + 1)
  | _ => false
/-- a call of an object's method, its class' number being ci; n counts the object, too -/
def pm_callV (ci y n : Nat) : pm_Op := fun i ls st w X _ K => match pm_popn n st [] with
  | some (as, t) => cond (pm_hd ci as && Nat.ble (pm_cat t) 8) (∃ r w1, K y as w r w1 ∧ X (i + 1) ls (pm_rets r t) w1) False
  | none => False
def pm_iret : pm_Op := fun _ _ st w _ Q _ => match st with
  | [.inl x] => Q (some (.inl x)) w
  | _ => False
def pm_zret : pm_Op := fun _ _ st w _ Q _ => match st with
  | [.inl x] => narrow .boolean (.int x) = .int x ∧ Q (some (.inl x)) w
  | _ => False
def pm_lret : pm_Op := fun _ _ st w _ Q _ => match st with
  | [.inr (.inl x)] => Q (some (.inr (.inl x))) w
  | _ => False
def pm_aret : pm_Op := fun _ _ st w _ Q _ => match st with
  | [.inr (.inr x)] => Q (some (.inr (.inr x))) w
  | _ => False
def pm_vret : pm_Op := fun _ _ st w _ Q _ => match st with
  | [] => Q none w
  | _ => False
def pm_bad : pm_Op := fun _ _ _ _ _ _ _ => False
/-- n steps from here, then F -/
def pm_Gn (K : pm_C) (c : List pm_Op) (Q : pm_Q) (F : pm_K) : Nat → pm_K
  | 0 => F
  | n + 1 => fun i ls st w => pm_nth pm_bad c i i ls st w (pm_Gn K c Q F n) Q K
/-- the same locals, of some of them nothing known -/
def pm_le : pm_L → pm_L → Prop
  | [], [] => True
  | a :: t, b :: u => (a = none ∨ a = b) ∧ pm_le t u
  | _, _ => False
/-- the method ends from here as Q says: in all that is closed under steps and under knowing more of the locals -/
def pm_Gx (K : pm_C) (c : List pm_Op) (i : Nat) (ls : pm_L) (st : List pm_V) (w : pm_W) (Q : pm_Q) : Prop := ∀ F : pm_K, (∀ n i ls st w, pm_Gn K c Q F n i ls st w → F i ls st w) → (∀ i ls ls2 st w, pm_le ls ls2 → F i ls st w → F i ls2 st w) → F i ls st w
/-- the locals at a method's start -/
def pm_ents : List pm_V → pm_L
  | [] => []
  | .inr (.inl x) :: t => some (.inr (.inl x)) :: none :: pm_ents t
  | v :: t => some v :: pm_ents t
def pm_pad : Nat → pm_L → pm_L
  | 0, l => l
  | n + 1, [] => none :: pm_pad n []
  | n + 1, a :: t => a :: pm_pad n t
def pm_ent (nL : Nat) (as : List pm_V) : pm_L := pm_pad nL (pm_ents as)
-- steps
theorem pm_go {K : pm_C} {c : List pm_Op} {i i2 : Nat} {ls ls2 : pm_L} {st st2 : List pm_V} {w w2 : pm_W} {Q : pm_Q} (k : Nat) (h : ∀ F : pm_K, F i2 ls2 st2 w2 → pm_Gn K c Q F k i ls st w) (g : pm_Gx K c i2 ls2 st2 w2 Q) : pm_Gx K c i ls st w Q := fun F hF hM => hF k i ls st w (h F (g F hF hM))
theorem pm_if {K : pm_C} {c : List pm_Op} {i i2 i3 : Nat} {ls ls2 : pm_L} {st st2 : List pm_V} {w w2 : pm_W} {Q : pm_Q} {P : Prop} [Decidable P] (k : Nat) (h : ∀ F : pm_K, (if P then F i2 ls2 st2 w2 else F i3 ls2 st2 w2) → pm_Gn K c Q F k i ls st w) (ht : P → pm_Gx K c i2 ls2 st2 w2 Q) (hf : ¬ P → pm_Gx K c i3 ls2 st2 w2 Q) : pm_Gx K c i ls st w Q := fun F hF hM => hF k i ls st w (h F (by
  by_cases p : P
  · rw [if_pos p]; exact ht p F hF hM
  · rw [if_neg p]; exact hf p F hF hM))
theorem pm_ca {K : pm_C} {c : List pm_Op} {i i2 : Nat} {ls ls2 : pm_L} {st t : List pm_V} {w w2 w1 : pm_W} {Q : pm_Q} {y : Nat} {as : List pm_V} {r : Option pm_V} (k : Nat) (hK : K y as w2 r w1) (h : ∀ F : pm_K, (∃ r1 w3, K y as w2 r1 w3 ∧ F i2 ls2 (pm_rets r1 t) w3) → pm_Gn K c Q F k i ls st w) (g : pm_Gx K c i2 ls2 (pm_rets r t) w1 Q) : pm_Gx K c i ls st w Q := fun F hF hM => hF k i ls st w (h F ⟨r, w1, hK, g F hF hM⟩)
theorem pm_re {K : pm_C} {c : List pm_Op} {i : Nat} {ls : pm_L} {st : List pm_V} {w w2 : pm_W} {Q : pm_Q} {r : Option pm_V} (k : Nat) (h : ∀ F : pm_K, Q r w2 → pm_Gn K c Q F k i ls st w) (q : Q r w2) : pm_Gx K c i ls st w Q := fun F hF _ => hF k i ls st w (h F q)
theorem pm_wk {K : pm_C} {c : List pm_Op} {i : Nat} {ls ls2 : pm_L} {st : List pm_V} {w : pm_W} {Q : pm_Q} (h : pm_le ls ls2) (g : pm_Gx K c i ls st w Q) : pm_Gx K c i ls2 st w Q := fun F hF hM => hM i ls ls2 st w h (g F hF hM)
