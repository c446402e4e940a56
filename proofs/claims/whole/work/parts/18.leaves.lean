/-! ===== 18.leaves.lean.txt ===== -/
set_option maxRecDepth 20000 in
set_option maxHeartbeats 4000000 in
theorem c_J9_max_7cf53 (d : Nat) (hd : 1 ≤ d) (x y : Int32) (w : pm_W) : RT d 154 [.inl x, .inl y] w (some (.inl (if x < y then y else x))) w := by
  obtain ⟨d, rfl, hd⟩ := pm_dep hd
  refine pm_start (co := co_J9_max_7cf53) (nL := 2) (by decide) rfl rfl (Nat.le_of_ble_eq_true rfl) ?_
  show pm_Gx (RT d) co_J9_max_7cf53 0 [some (.inl x), some (.inl y)] [] w _
  refine pm_go (i2 := 2) (ls2 := [some (.inl x), some (.inl y)]) (st2 := [.inl y, .inl x]) (w2 := w) 2 (fun n h => h) ?_
  refine pm_if (P := x < y) (i2 := 5) (i3 := 3) (ls2 := [some (.inl x), some (.inl y)]) (st2 := []) (w2 := w) 1 (fun n h => h) (fun hc1 => ?_) (fun hc1 => ?_)
  · refine pm_go (i2 := 6) (ls2 := [some (.inl x), some (.inl y)]) (st2 := [.inl y]) (w2 := w) 1 (fun n h => h) ?_
    refine pm_re (r := some (.inl y)) (w2 := w) 1 (fun h => h) ?_
    exact ⟨by simp [*], rfl⟩
  · refine pm_go (i2 := 6) (ls2 := [some (.inl x), some (.inl y)]) (st2 := [.inl x]) (w2 := w) 2 (fun n h => h) ?_
    refine pm_re (r := some (.inl x)) (w2 := w) 1 (fun h => h) ?_
    exact ⟨by simp [*], rfl⟩
set_option maxRecDepth 20000 in
set_option maxHeartbeats 4000000 in
theorem c_J9_min_7cf53 (d : Nat) (hd : 1 ≤ d) (x y : Int32) (w : pm_W) : RT d 155 [.inl x, .inl y] w (some (.inl (if y < x then y else x))) w := by
  obtain ⟨d, rfl, hd⟩ := pm_dep hd
  refine pm_start (co := co_J9_min_7cf53) (nL := 2) (by decide) rfl rfl (Nat.le_of_ble_eq_true rfl) ?_
  show pm_Gx (RT d) co_J9_min_7cf53 0 [some (.inl x), some (.inl y)] [] w _
  refine pm_go (i2 := 2) (ls2 := [some (.inl x), some (.inl y)]) (st2 := [.inl y, .inl x]) (w2 := w) 2 (fun n h => h) ?_
  refine pm_if (P := y < x) (i2 := 5) (i3 := 3) (ls2 := [some (.inl x), some (.inl y)]) (st2 := []) (w2 := w) 1 (fun n h => h) (fun hc1 => ?_) (fun hc1 => ?_)
  · refine pm_go (i2 := 6) (ls2 := [some (.inl x), some (.inl y)]) (st2 := [.inl y]) (w2 := w) 1 (fun n h => h) ?_
    refine pm_re (r := some (.inl y)) (w2 := w) 1 (fun h => h) ?_
    exact ⟨by simp [*], rfl⟩
  · refine pm_go (i2 := 6) (ls2 := [some (.inl x), some (.inl y)]) (st2 := [.inl x]) (w2 := w) 2 (fun n h => h) ?_
    refine pm_re (r := some (.inl x)) (w2 := w) 1 (fun h => h) ?_
    exact ⟨by simp [*], rfl⟩
set_option maxRecDepth 20000 in
set_option maxHeartbeats 4000000 in
theorem c_J9_abs_0f7a4 (d : Nat) (hd : 1 ≤ d) (x : Int32) (w : pm_W) : RT d 153 [.inl x] w (some (.inl (if 0 ≤ x then x else -x))) w := by
  obtain ⟨d, rfl, hd⟩ := pm_dep hd
  refine pm_start (co := co_J9_abs_0f7a4) (nL := 1) (by decide) rfl rfl (Nat.le_of_ble_eq_true rfl) ?_
  show pm_Gx (RT d) co_J9_abs_0f7a4 0 [some (.inl x)] [] w _
  refine pm_go (i2 := 1) (ls2 := [some (.inl x)]) (st2 := [.inl x]) (w2 := w) 1 (fun n h => h) ?_
  refine pm_if (P := 0 ≤ x) (i2 := 5) (i3 := 2) (ls2 := [some (.inl x)]) (st2 := []) (w2 := w) 1 (fun n h => h) (fun hc1 => ?_) (fun hc1 => ?_)
  · refine pm_go (i2 := 6) (ls2 := [some (.inl x)]) (st2 := [.inl x]) (w2 := w) 1 (fun n h => h) ?_
    refine pm_re (r := some (.inl x)) (w2 := w) 1 (fun h => h) ?_
    exact ⟨by simp [*], rfl⟩
  · refine pm_go (i2 := 6) (ls2 := [some (.inl x)]) (st2 := [.inl (-x)]) (w2 := w) 3 (fun n h => h) ?_
    refine pm_re (r := some (.inl (-x))) (w2 := w) 1 (fun h => h) ?_
    exact ⟨by simp [*], rfl⟩
/-- Math.floorMod -/
def s_fmod (x y : Int32) : Int32 := let r := x - x / y * y; if 0 ≤ x ^^^ y then r else if r = 0 then r else r + y
/-- Integer.bitCount -/
def s_bits (x : Int32) : Int32 :=
  let a := x - ((x.toUInt32 >>> ((1 : Int32).toUInt32 &&& Int32.toUInt32 31)).toInt32 &&& 1431655765)
  let b := (a &&& 858993459) + ((a.toUInt32 >>> ((2 : Int32).toUInt32 &&& Int32.toUInt32 31)).toInt32 &&& 858993459)
  let c := (b + (b.toUInt32 >>> ((4 : Int32).toUInt32 &&& Int32.toUInt32 31)).toInt32) &&& 252645135
  let e := c + (c.toUInt32 >>> ((8 : Int32).toUInt32 &&& Int32.toUInt32 31)).toInt32
  (e + (e.toUInt32 >>> ((16 : Int32).toUInt32 &&& Int32.toUInt32 31)).toInt32) &&& 63
def s_knows (n g : Int32) : Bool := if g < 0 then false else if n ≤ g then false else if 5 ≤ g then false else true
def s_grow (k : Int32) : Int32 := if k < 0 then 0 else if 4 ≤ k then 0 else pm_st 36 k.toNatClampNeg
/-- the figure at a place of the text; -1: none -/
def s_fig (L : Nat → Int32) (n p : Int32) : Int32 := if p < 0 then -1 else if n ≤ p then -1 else if p < 40 then (let f := L p.toNatClampNeg - 48; if f < 0 then -1 else if 9 < f then -1 else f) else -1
theorem pm_in_of {x : Int32} {n : Nat} (h0 : ¬ x < 0) (h : x < nI n) (hn : n < 2 ^ 31) : vp_in x n := by
  rw [vp_in_iff]
  have h1 := Int32.lt_iff_toInt_lt.mp h
  rw [nI_toInt hn] at h1
  have h2 : ¬ x.toInt < 0 := fun z => h0 (Int32.lt_iff_toInt_lt.mpr (by rw [Int32.toInt_zero]; exact z))
  omega
set_option maxRecDepth 20000 in
set_option maxHeartbeats 4000000 in
theorem c_J9_floorMod_7cf53 (d : Nat) (hd : 1 ≤ d) (x y : Int32) (w : pm_W) (hy : ¬ y = 0) : RT d 152 [.inl x, .inl y] w (some (.inl (s_fmod x y))) w := by
  obtain ⟨d, rfl, hd⟩ := pm_dep hd
  refine pm_start (co := co_J9_floorMod_7cf53) (nL := 3) (by decide) rfl rfl (Nat.le_of_ble_eq_true rfl) ?_
  show pm_Gx (RT d) co_J9_floorMod_7cf53 0 [some (.inl x), some (.inl y), none] [] w _
  refine pm_go (i2 := 7) (ls2 := [some (.inl x), some (.inl y), some (.inl (x - x / y * y))]) (st2 := [.inl (x ^^^ y)]) (w2 := w) 7 (fun n h => ⟨hy, h⟩) ?_
  refine pm_if (P := 0 ≤ (x ^^^ y)) (i2 := 14) (i3 := 8) (ls2 := [some (.inl x), some (.inl y), some (.inl (x - x / y * y))]) (st2 := []) (w2 := w) 1 (fun n h => h) (fun hc1 => ?_) (fun hc1 => ?_)
  · refine pm_go (i2 := 15) (ls2 := [some (.inl x), some (.inl y), some (.inl (x - x / y * y))]) (st2 := [.inl (x - x / y * y)]) (w2 := w) 1 (fun n h => h) ?_
    refine pm_re (r := some (.inl (x - x / y * y))) (w2 := w) 1 (fun h => h) ?_
    exact ⟨by simp [s_fmod, *], rfl⟩
  · refine pm_go (i2 := 9) (ls2 := [some (.inl x), some (.inl y), some (.inl (x - x / y * y))]) (st2 := [.inl (x - x / y * y)]) (w2 := w) 1 (fun n h => h) ?_
    refine pm_if (P := (x - x / y * y) = 0) (i2 := 14) (i3 := 10) (ls2 := [some (.inl x), some (.inl y), some (.inl (x - x / y * y))]) (st2 := []) (w2 := w) 1 (fun n h => h) (fun hc2 => ?_) (fun hc2 => ?_)
    · refine pm_go (i2 := 15) (ls2 := [some (.inl x), some (.inl y), some (.inl (x - x / y * y))]) (st2 := [.inl (x - x / y * y)]) (w2 := w) 1 (fun n h => h) ?_
      refine pm_re (r := some (.inl (x - x / y * y))) (w2 := w) 1 (fun h => h) ?_
      exact ⟨by simp [s_fmod, *], rfl⟩
    · refine pm_go (i2 := 13) (ls2 := [some (.inl x), some (.inl y), some (.inl (x - x / y * y))]) (st2 := [.inl ((x - x / y * y) + y)]) (w2 := w) 3 (fun n h => h) ?_
      refine pm_re (r := some (.inl ((x - x / y * y) + y))) (w2 := w) 1 (fun h => h) ?_
      exact ⟨by simp [s_fmod, *], rfl⟩
set_option maxRecDepth 20000 in
set_option maxHeartbeats 4000000 in
theorem c_J6_bitCount_0f7a4 (d : Nat) (hd : 1 ≤ d) (x : Int32) (w : pm_W) : RT d 151 [.inl x] w (some (.inl (s_bits x))) w := by
  obtain ⟨d, rfl, hd⟩ := pm_dep hd
  refine pm_start (co := co_J6_bitCount_0f7a4) (nL := 1) (by decide) rfl rfl (Nat.le_of_ble_eq_true rfl) ?_
  show pm_Gx (RT d) co_J6_bitCount_0f7a4 0 [some (.inl x)] [] w _
  refine pm_go (i2 := 41) (ls2 := [some (.inl (((((((x - (((x.toUInt32 >>> ((1 : Int32).toUInt32 &&& Int32.toUInt32 31)).toInt32) &&& 1431655765)) &&& 858993459) + ((((x - (((x.toUInt32 >>> ((1 : Int32).toUInt32 &&& Int32.toUInt32 31)).toInt32) &&& 1431655765)).toUInt32 >>> ((2 : Int32).toUInt32 &&& Int32.toUInt32 31)).toInt32) &&& 858993459)) + (((((x - (((x.toUInt32 >>> ((1 : Int32).toUInt32 &&& Int32.toUInt32 31)).toInt32) &&& 1431655765)) &&& 858993459) + ((((x - (((x.toUInt32 >>> ((1 : Int32).toUInt32 &&& Int32.toUInt32 31)).toInt32) &&& 1431655765)).toUInt32 >>> ((2 : Int32).toUInt32 &&& Int32.toUInt32 31)).toInt32) &&& 858993459)).toUInt32 >>> ((4 : Int32).toUInt32 &&& Int32.toUInt32 31)).toInt32)) &&& 252645135) + (((((((x - (((x.toUInt32 >>> ((1 : Int32).toUInt32 &&& Int32.toUInt32 31)).toInt32) &&& 1431655765)) &&& 858993459) + ((((x - (((x.toUInt32 >>> ((1 : Int32).toUInt32 &&& Int32.toUInt32 31)).toInt32) &&& 1431655765)).toUInt32 >>> ((2 : Int32).toUInt32 &&& Int32.toUInt32 31)).toInt32) &&& 858993459)) + (((((x - (((x.toUInt32 >>> ((1 : Int32).toUInt32 &&& Int32.toUInt32 31)).toInt32) &&& 1431655765)) &&& 858993459) + ((((x - (((x.toUInt32 >>> ((1 : Int32).toUInt32 &&& Int32.toUInt32 31)).toInt32) &&& 1431655765)).toUInt32 >>> ((2 : Int32).toUInt32 &&& Int32.toUInt32 31)).toInt32) &&& 858993459)).toUInt32 >>> ((4 : Int32).toUInt32 &&& Int32.toUInt32 31)).toInt32)) &&& 252645135).toUInt32 >>> ((8 : Int32).toUInt32 &&& Int32.toUInt32 31)).toInt32)) + ((((((((x - (((x.toUInt32 >>> ((1 : Int32).toUInt32 &&& Int32.toUInt32 31)).toInt32) &&& 1431655765)) &&& 858993459) + ((((x - (((x.toUInt32 >>> ((1 : Int32).toUInt32 &&& Int32.toUInt32 31)).toInt32) &&& 1431655765)).toUInt32 >>> ((2 : Int32).toUInt32 &&& Int32.toUInt32 31)).toInt32) &&& 858993459)) + (((((x - (((x.toUInt32 >>> ((1 : Int32).toUInt32 &&& Int32.toUInt32 31)).toInt32) &&& 1431655765)) &&& 858993459) + ((((x - (((x.toUInt32 >>> ((1 : Int32).toUInt32 &&& Int32.toUInt32 31)).toInt32) &&& 1431655765)).toUInt32 >>> ((2 : Int32).toUInt32 &&& Int32.toUInt32 31)).toInt32) &&& 858993459)).toUInt32 >>> ((4 : Int32).toUInt32 &&& Int32.toUInt32 31)).toInt32)) &&& 252645135) + (((((((x - (((x.toUInt32 >>> ((1 : Int32).toUInt32 &&& Int32.toUInt32 31)).toInt32) &&& 1431655765)) &&& 858993459) + ((((x - (((x.toUInt32 >>> ((1 : Int32).toUInt32 &&& Int32.toUInt32 31)).toInt32) &&& 1431655765)).toUInt32 >>> ((2 : Int32).toUInt32 &&& Int32.toUInt32 31)).toInt32) &&& 858993459)) + (((((x - (((x.toUInt32 >>> ((1 : Int32).toUInt32 &&& Int32.toUInt32 31)).toInt32) &&& 1431655765)) &&& 858993459) + ((((x - (((x.toUInt32 >>> ((1 : Int32).toUInt32 &&& Int32.toUInt32 31)).toInt32) &&& 1431655765)).toUInt32 >>> ((2 : Int32).toUInt32 &&& Int32.toUInt32 31)).toInt32) &&& 858993459)).toUInt32 >>> ((4 : Int32).toUInt32 &&& Int32.toUInt32 31)).toInt32)) &&& 252645135).toUInt32 >>> ((8 : Int32).toUInt32 &&& Int32.toUInt32 31)).toInt32)).toUInt32 >>> ((16 : Int32).toUInt32 &&& Int32.toUInt32 31)).toInt32)))]) (st2 := [.inl ((((((((x - (((x.toUInt32 >>> ((1 : Int32).toUInt32 &&& Int32.toUInt32 31)).toInt32) &&& 1431655765)) &&& 858993459) + ((((x - (((x.toUInt32 >>> ((1 : Int32).toUInt32 &&& Int32.toUInt32 31)).toInt32) &&& 1431655765)).toUInt32 >>> ((2 : Int32).toUInt32 &&& Int32.toUInt32 31)).toInt32) &&& 858993459)) + (((((x - (((x.toUInt32 >>> ((1 : Int32).toUInt32 &&& Int32.toUInt32 31)).toInt32) &&& 1431655765)) &&& 858993459) + ((((x - (((x.toUInt32 >>> ((1 : Int32).toUInt32 &&& Int32.toUInt32 31)).toInt32) &&& 1431655765)).toUInt32 >>> ((2 : Int32).toUInt32 &&& Int32.toUInt32 31)).toInt32) &&& 858993459)).toUInt32 >>> ((4 : Int32).toUInt32 &&& Int32.toUInt32 31)).toInt32)) &&& 252645135) + (((((((x - (((x.toUInt32 >>> ((1 : Int32).toUInt32 &&& Int32.toUInt32 31)).toInt32) &&& 1431655765)) &&& 858993459) + ((((x - (((x.toUInt32 >>> ((1 : Int32).toUInt32 &&& Int32.toUInt32 31)).toInt32) &&& 1431655765)).toUInt32 >>> ((2 : Int32).toUInt32 &&& Int32.toUInt32 31)).toInt32) &&& 858993459)) + (((((x - (((x.toUInt32 >>> ((1 : Int32).toUInt32 &&& Int32.toUInt32 31)).toInt32) &&& 1431655765)) &&& 858993459) + ((((x - (((x.toUInt32 >>> ((1 : Int32).toUInt32 &&& Int32.toUInt32 31)).toInt32) &&& 1431655765)).toUInt32 >>> ((2 : Int32).toUInt32 &&& Int32.toUInt32 31)).toInt32) &&& 858993459)).toUInt32 >>> ((4 : Int32).toUInt32 &&& Int32.toUInt32 31)).toInt32)) &&& 252645135).toUInt32 >>> ((8 : Int32).toUInt32 &&& Int32.toUInt32 31)).toInt32)) + ((((((((x - (((x.toUInt32 >>> ((1 : Int32).toUInt32 &&& Int32.toUInt32 31)).toInt32) &&& 1431655765)) &&& 858993459) + ((((x - (((x.toUInt32 >>> ((1 : Int32).toUInt32 &&& Int32.toUInt32 31)).toInt32) &&& 1431655765)).toUInt32 >>> ((2 : Int32).toUInt32 &&& Int32.toUInt32 31)).toInt32) &&& 858993459)) + (((((x - (((x.toUInt32 >>> ((1 : Int32).toUInt32 &&& Int32.toUInt32 31)).toInt32) &&& 1431655765)) &&& 858993459) + ((((x - (((x.toUInt32 >>> ((1 : Int32).toUInt32 &&& Int32.toUInt32 31)).toInt32) &&& 1431655765)).toUInt32 >>> ((2 : Int32).toUInt32 &&& Int32.toUInt32 31)).toInt32) &&& 858993459)).toUInt32 >>> ((4 : Int32).toUInt32 &&& Int32.toUInt32 31)).toInt32)) &&& 252645135) + (((((((x - (((x.toUInt32 >>> ((1 : Int32).toUInt32 &&& Int32.toUInt32 31)).toInt32) &&& 1431655765)) &&& 858993459) + ((((x - (((x.toUInt32 >>> ((1 : Int32).toUInt32 &&& Int32.toUInt32 31)).toInt32) &&& 1431655765)).toUInt32 >>> ((2 : Int32).toUInt32 &&& Int32.toUInt32 31)).toInt32) &&& 858993459)) + (((((x - (((x.toUInt32 >>> ((1 : Int32).toUInt32 &&& Int32.toUInt32 31)).toInt32) &&& 1431655765)) &&& 858993459) + ((((x - (((x.toUInt32 >>> ((1 : Int32).toUInt32 &&& Int32.toUInt32 31)).toInt32) &&& 1431655765)).toUInt32 >>> ((2 : Int32).toUInt32 &&& Int32.toUInt32 31)).toInt32) &&& 858993459)).toUInt32 >>> ((4 : Int32).toUInt32 &&& Int32.toUInt32 31)).toInt32)) &&& 252645135).toUInt32 >>> ((8 : Int32).toUInt32 &&& Int32.toUInt32 31)).toInt32)).toUInt32 >>> ((16 : Int32).toUInt32 &&& Int32.toUInt32 31)).toInt32)) &&& 63)]) (w2 := w) 41 (fun n h => h) ?_
  refine pm_re (r := some (.inl ((((((((x - (((x.toUInt32 >>> ((1 : Int32).toUInt32 &&& Int32.toUInt32 31)).toInt32) &&& 1431655765)) &&& 858993459) + ((((x - (((x.toUInt32 >>> ((1 : Int32).toUInt32 &&& Int32.toUInt32 31)).toInt32) &&& 1431655765)).toUInt32 >>> ((2 : Int32).toUInt32 &&& Int32.toUInt32 31)).toInt32) &&& 858993459)) + (((((x - (((x.toUInt32 >>> ((1 : Int32).toUInt32 &&& Int32.toUInt32 31)).toInt32) &&& 1431655765)) &&& 858993459) + ((((x - (((x.toUInt32 >>> ((1 : Int32).toUInt32 &&& Int32.toUInt32 31)).toInt32) &&& 1431655765)).toUInt32 >>> ((2 : Int32).toUInt32 &&& Int32.toUInt32 31)).toInt32) &&& 858993459)).toUInt32 >>> ((4 : Int32).toUInt32 &&& Int32.toUInt32 31)).toInt32)) &&& 252645135) + (((((((x - (((x.toUInt32 >>> ((1 : Int32).toUInt32 &&& Int32.toUInt32 31)).toInt32) &&& 1431655765)) &&& 858993459) + ((((x - (((x.toUInt32 >>> ((1 : Int32).toUInt32 &&& Int32.toUInt32 31)).toInt32) &&& 1431655765)).toUInt32 >>> ((2 : Int32).toUInt32 &&& Int32.toUInt32 31)).toInt32) &&& 858993459)) + (((((x - (((x.toUInt32 >>> ((1 : Int32).toUInt32 &&& Int32.toUInt32 31)).toInt32) &&& 1431655765)) &&& 858993459) + ((((x - (((x.toUInt32 >>> ((1 : Int32).toUInt32 &&& Int32.toUInt32 31)).toInt32) &&& 1431655765)).toUInt32 >>> ((2 : Int32).toUInt32 &&& Int32.toUInt32 31)).toInt32) &&& 858993459)).toUInt32 >>> ((4 : Int32).toUInt32 &&& Int32.toUInt32 31)).toInt32)) &&& 252645135).toUInt32 >>> ((8 : Int32).toUInt32 &&& Int32.toUInt32 31)).toInt32)) + ((((((((x - (((x.toUInt32 >>> ((1 : Int32).toUInt32 &&& Int32.toUInt32 31)).toInt32) &&& 1431655765)) &&& 858993459) + ((((x - (((x.toUInt32 >>> ((1 : Int32).toUInt32 &&& Int32.toUInt32 31)).toInt32) &&& 1431655765)).toUInt32 >>> ((2 : Int32).toUInt32 &&& Int32.toUInt32 31)).toInt32) &&& 858993459)) + (((((x - (((x.toUInt32 >>> ((1 : Int32).toUInt32 &&& Int32.toUInt32 31)).toInt32) &&& 1431655765)) &&& 858993459) + ((((x - (((x.toUInt32 >>> ((1 : Int32).toUInt32 &&& Int32.toUInt32 31)).toInt32) &&& 1431655765)).toUInt32 >>> ((2 : Int32).toUInt32 &&& Int32.toUInt32 31)).toInt32) &&& 858993459)).toUInt32 >>> ((4 : Int32).toUInt32 &&& Int32.toUInt32 31)).toInt32)) &&& 252645135) + (((((((x - (((x.toUInt32 >>> ((1 : Int32).toUInt32 &&& Int32.toUInt32 31)).toInt32) &&& 1431655765)) &&& 858993459) + ((((x - (((x.toUInt32 >>> ((1 : Int32).toUInt32 &&& Int32.toUInt32 31)).toInt32) &&& 1431655765)).toUInt32 >>> ((2 : Int32).toUInt32 &&& Int32.toUInt32 31)).toInt32) &&& 858993459)) + (((((x - (((x.toUInt32 >>> ((1 : Int32).toUInt32 &&& Int32.toUInt32 31)).toInt32) &&& 1431655765)) &&& 858993459) + ((((x - (((x.toUInt32 >>> ((1 : Int32).toUInt32 &&& Int32.toUInt32 31)).toInt32) &&& 1431655765)).toUInt32 >>> ((2 : Int32).toUInt32 &&& Int32.toUInt32 31)).toInt32) &&& 858993459)).toUInt32 >>> ((4 : Int32).toUInt32 &&& Int32.toUInt32 31)).toInt32)) &&& 252645135).toUInt32 >>> ((8 : Int32).toUInt32 &&& Int32.toUInt32 31)).toInt32)).toUInt32 >>> ((16 : Int32).toUInt32 &&& Int32.toUInt32 31)).toInt32)) &&& 63))) (w2 := w) 1 (fun h => h) ?_
  exact ⟨rfl, rfl⟩
set_option maxRecDepth 20000 in
set_option maxHeartbeats 4000000 in
theorem c_X5_knows (d : Nat) (hd : 1 ≤ d) (g : Int32) (w : pm_W) : RT d 30 [.inr (.inr (3, 0)), .inl g] w (some (.inl (bi (s_knows (w.1 3 0 3) g)))) w := by
  obtain ⟨d, rfl, hd⟩ := pm_dep hd
  refine pm_start (co := co_X5_knows) (nL := 2) (by decide) rfl rfl (Nat.le_of_ble_eq_true rfl) ?_
  show pm_Gx (RT d) co_X5_knows 0 [some (.inr (.inr (3, 0))), some (.inl g)] [] w _
  refine pm_go (i2 := 1) (ls2 := [some (.inr (.inr (3, 0))), some (.inl g)]) (st2 := [.inl g]) (w2 := w) 1 (fun n h => h) ?_
  refine pm_if (P := g < 0) (i2 := 11) (i3 := 2) (ls2 := [some (.inr (.inr (3, 0))), some (.inl g)]) (st2 := []) (w2 := w) 1 (fun n h => h) (fun hc1 => ?_) (fun hc1 => ?_)
  · refine pm_go (i2 := 12) (ls2 := [some (.inr (.inr (3, 0))), some (.inl g)]) (st2 := [.inl 0]) (w2 := w) 1 (fun n h => h) ?_
    refine pm_re (r := some (.inl 0)) (w2 := w) 1 (fun h => ⟨rfl, h⟩) ?_
    exact ⟨by simp [s_knows, bi, *], rfl⟩
  · refine pm_go (i2 := 5) (ls2 := [some (.inr (.inr (3, 0))), some (.inl g)]) (st2 := [.inl (w.1 3 0 3), .inl g]) (w2 := w) 3 (fun n h => h) ?_
    refine pm_if (P := (w.1 3 0 3) ≤ g) (i2 := 11) (i3 := 6) (ls2 := [some (.inr (.inr (3, 0))), some (.inl g)]) (st2 := []) (w2 := w) 1 (fun n h => h) (fun hc2 => ?_) (fun hc2 => ?_)
    · refine pm_go (i2 := 12) (ls2 := [some (.inr (.inr (3, 0))), some (.inl g)]) (st2 := [.inl 0]) (w2 := w) 1 (fun n h => h) ?_
      refine pm_re (r := some (.inl 0)) (w2 := w) 1 (fun h => ⟨rfl, h⟩) ?_
      exact ⟨by simp [s_knows, bi, *], rfl⟩
    · refine pm_go (i2 := 8) (ls2 := [some (.inr (.inr (3, 0))), some (.inl g)]) (st2 := [.inl 5, .inl g]) (w2 := w) 2 (fun n h => h) ?_
      refine pm_if (P := 5 ≤ g) (i2 := 11) (i3 := 9) (ls2 := [some (.inr (.inr (3, 0))), some (.inl g)]) (st2 := []) (w2 := w) 1 (fun n h => h) (fun hc3 => ?_) (fun hc3 => ?_)
      · refine pm_go (i2 := 12) (ls2 := [some (.inr (.inr (3, 0))), some (.inl g)]) (st2 := [.inl 0]) (w2 := w) 1 (fun n h => h) ?_
        refine pm_re (r := some (.inl 0)) (w2 := w) 1 (fun h => ⟨rfl, h⟩) ?_
        exact ⟨by simp [s_knows, bi, *], rfl⟩
      · refine pm_go (i2 := 12) (ls2 := [some (.inr (.inr (3, 0))), some (.inl g)]) (st2 := [.inl 1]) (w2 := w) 2 (fun n h => h) ?_
        refine pm_re (r := some (.inl 1)) (w2 := w) 1 (fun h => ⟨rfl, h⟩) ?_
        exact ⟨by simp [s_knows, bi, *], rfl⟩
set_option maxRecDepth 20000 in
set_option maxHeartbeats 4000000 in
theorem c_X6_figureTold (d : Nat) (hd : 1 ≤ d) (p : Int32) (w : pm_W) : RT d 50 [.inr (.inr (1, 0)), .inl p] w (some (.inl (s_fig (w.1 2 0) (w.1 1 0 1) p))) w := by
  obtain ⟨d, rfl, hd⟩ := pm_dep hd
  refine pm_start (co := co_X6_figureTold) (nL := 3) (by decide) rfl rfl (Nat.le_of_ble_eq_true rfl) ?_
  show pm_Gx (RT d) co_X6_figureTold 0 [some (.inr (.inr (1, 0))), some (.inl p), none] [] w _
  refine pm_go (i2 := 1) (ls2 := [some (.inr (.inr (1, 0))), some (.inl p), none]) (st2 := [.inl p]) (w2 := w) 1 (fun n h => h) ?_
  refine pm_if (P := p < 0) (i2 := 9) (i3 := 2) (ls2 := [some (.inr (.inr (1, 0))), some (.inl p), none]) (st2 := []) (w2 := w) 1 (fun n h => h) (fun hc1 => ?_) (fun hc1 => ?_)
  · refine pm_go (i2 := 10) (ls2 := [some (.inr (.inr (1, 0))), some (.inl p), none]) (st2 := [.inl (-1)]) (w2 := w) 1 (fun n h => h) ?_
    refine pm_re (r := some (.inl (-1))) (w2 := w) 1 (fun h => h) ?_
    exact ⟨by simp [s_fig, *], rfl⟩
  · refine pm_go (i2 := 5) (ls2 := [some (.inr (.inr (1, 0))), some (.inl p), none]) (st2 := [.inl (w.1 1 0 1), .inl p]) (w2 := w) 3 (fun n h => h) ?_
    refine pm_if (P := (w.1 1 0 1) ≤ p) (i2 := 9) (i3 := 6) (ls2 := [some (.inr (.inr (1, 0))), some (.inl p), none]) (st2 := []) (w2 := w) 1 (fun n h => h) (fun hc2 => ?_) (fun hc2 => ?_)
    · refine pm_go (i2 := 10) (ls2 := [some (.inr (.inr (1, 0))), some (.inl p), none]) (st2 := [.inl (-1)]) (w2 := w) 1 (fun n h => h) ?_
      refine pm_re (r := some (.inl (-1))) (w2 := w) 1 (fun h => h) ?_
      exact ⟨by simp [s_fig, *], rfl⟩
    · refine pm_go (i2 := 8) (ls2 := [some (.inr (.inr (1, 0))), some (.inl p), none]) (st2 := [.inl 40, .inl p]) (w2 := w) 2 (fun n h => h) ?_
      refine pm_if (P := p < 40) (i2 := 11) (i3 := 9) (ls2 := [some (.inr (.inr (1, 0))), some (.inl p), none]) (st2 := []) (w2 := w) 1 (fun n h => h) (fun hc3 => ?_) (fun hc3 => ?_)
      · refine pm_go (i2 := 19) (ls2 := [some (.inr (.inr (1, 0))), some (.inl p), some (.inl ((w.1 2 0 p.toNatClampNeg) - 48))]) (st2 := [.inl ((w.1 2 0 p.toNatClampNeg) - 48)]) (w2 := w) 8 (fun n h => ⟨(pm_in_of (n := 40) hc1 hc3 (by decide)), h⟩) ?_
        refine pm_if (P := ((w.1 2 0 p.toNatClampNeg) - 48) < 0) (i2 := 25) (i3 := 20) (ls2 := [some (.inr (.inr (1, 0))), some (.inl p), some (.inl ((w.1 2 0 p.toNatClampNeg) - 48))]) (st2 := []) (w2 := w) 1 (fun n h => h) (fun hc4 => ?_) (fun hc4 => ?_)
        · refine pm_go (i2 := 26) (ls2 := [some (.inr (.inr (1, 0))), some (.inl p), some (.inl ((w.1 2 0 p.toNatClampNeg) - 48))]) (st2 := [.inl (-1)]) (w2 := w) 1 (fun n h => h) ?_
          refine pm_re (r := some (.inl (-1))) (w2 := w) 1 (fun h => h) ?_
          exact ⟨by simp [s_fig, *], rfl⟩
        · refine pm_go (i2 := 22) (ls2 := [some (.inr (.inr (1, 0))), some (.inl p), some (.inl ((w.1 2 0 p.toNatClampNeg) - 48))]) (st2 := [.inl 9, .inl ((w.1 2 0 p.toNatClampNeg) - 48)]) (w2 := w) 2 (fun n h => h) ?_
          refine pm_if (P := 9 < ((w.1 2 0 p.toNatClampNeg) - 48)) (i2 := 25) (i3 := 23) (ls2 := [some (.inr (.inr (1, 0))), some (.inl p), some (.inl ((w.1 2 0 p.toNatClampNeg) - 48))]) (st2 := []) (w2 := w) 1 (fun n h => h) (fun hc5 => ?_) (fun hc5 => ?_)
          · refine pm_go (i2 := 26) (ls2 := [some (.inr (.inr (1, 0))), some (.inl p), some (.inl ((w.1 2 0 p.toNatClampNeg) - 48))]) (st2 := [.inl (-1)]) (w2 := w) 1 (fun n h => h) ?_
            refine pm_re (r := some (.inl (-1))) (w2 := w) 1 (fun h => h) ?_
            exact ⟨by simp [s_fig, *], rfl⟩
          · refine pm_go (i2 := 26) (ls2 := [some (.inr (.inr (1, 0))), some (.inl p), some (.inl ((w.1 2 0 p.toNatClampNeg) - 48))]) (st2 := [.inl ((w.1 2 0 p.toNatClampNeg) - 48)]) (w2 := w) 2 (fun n h => h) ?_
            refine pm_re (r := some (.inl ((w.1 2 0 p.toNatClampNeg) - 48))) (w2 := w) 1 (fun h => h) ?_
            exact ⟨by simp [s_fig, *], rfl⟩
      · refine pm_go (i2 := 10) (ls2 := [some (.inr (.inr (1, 0))), some (.inl p), none]) (st2 := [.inl (-1)]) (w2 := w) 1 (fun n h => h) ?_
        refine pm_re (r := some (.inl (-1))) (w2 := w) 1 (fun h => h) ?_
        exact ⟨by simp [s_fig, *], rfl⟩
