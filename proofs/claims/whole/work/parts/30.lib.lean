/-! ===== small facts for the pure part ===== -/
theorem nx_cl {j : Nat} (h : j < 2147483648) : (nI j).toNatClampNeg = j := nI_clamp h
theorem nx_in {j n : Nat} (h : j < n) (hn : n < 2147483648) : pm_inb (nI j) n = true := by
  have h1 : ¬ nI j < 0 := nI_pos (by omega)
  unfold pm_inb
  rw [nx_cl (by omega)]
  simp [h1, h]
theorem nx_le {a b : Nat} (ha : a < 2147483648) (hb : b < 2147483648) : nI a ≤ nI b ↔ a ≤ b := nI_leI ha hb
theorem nx_lt {a b : Nat} (ha : a < 2147483648) (hb : b < 2147483648) : nI a < nI b ↔ a < b := nI_ltI ha hb
theorem nx_eq {a b : Nat} (ha : a < 2147483648) (hb : b < 2147483648) : nI a = nI b ↔ a = b := nI_eq ha hb
theorem nx_s (a : Nat) : nI a + 1 = nI (a + 1) := nI_1 a
theorem W_ext {w v : pm_W} (h : ∀ a b c, w.1 a b c = v.1 a b c) (h2 : w.2 = v.2) : w = v := Prod.ext (funext fun a => funext fun b => funext fun c => h a b c) h2
/-- one row of the world anew -/
def rowP (w : pm_W) (a0 b0 : Nat) (f : Nat → Int32) : pm_W := (fun a b c => if a = a0 ∧ b = b0 then f c else w.1 a b c, w.2)
theorem rowP_self (w : pm_W) (a b : Nat) : rowP w a b (w.1 a b) = w := by
  apply W_ext
  · intro x y z
    simp only [rowP]
    split
    · rename_i h; rw [h.1, h.2]
    · rfl
  · rfl
theorem rowP_s {w : pm_W} {a b : Nat} {f : Nat → Int32} : (rowP w a b f).1 a b = f := by
  funext c; simp [rowP]
theorem rowP_a {w : pm_W} {a b x y : Nat} {f : Nat → Int32} (h : x ≠ a) : (rowP w a b f).1 x y = w.1 x y := by
  funext c; simp [rowP, h]
theorem rowP_b {w : pm_W} {a b x y : Nat} {f : Nat → Int32} (h : y ≠ b) : (rowP w a b f).1 x y = w.1 x y := by
  funext c; simp [rowP, h]
theorem rowP_2 {w : pm_W} {a b : Nat} {f : Nat → Int32} : (rowP w a b f).2 = w.2 := rfl
theorem rowP_rowP {w : pm_W} {a b : Nat} {f g : Nat → Int32} : rowP (rowP w a b f) a b g = rowP w a b g := by
  apply W_ext
  · intro x y z
    simp only [rowP]
    split <;> rfl
  · rfl
theorem setI_rowP (w : pm_W) (a b c : Nat) (x : Int32) : pm_setI w a b c x = rowP w a b (upd (w.1 a b) c x) := by
  apply W_ext
  · intro p q r
    simp only [rowP, pm_setI, upd]
    by_cases h : p = a ∧ q = b
    · obtain ⟨rfl, rfl⟩ := h
      simp
    · rw [if_neg h, if_neg (fun z => h ⟨z.1, z.2.1⟩)]
  · rfl
theorem set_rowP {w : pm_W} {a b c : Nat} {f : Nat → Int32} {x : Int32} : pm_setI (rowP w a b f) a b c x = rowP w a b (upd f c x) := by
  rw [setI_rowP, rowP_rowP, rowP_s]
theorem rowP_congr {w : pm_W} {a b : Nat} {f g : Nat → Int32} (h : ∀ c, f c = g c) : rowP w a b f = rowP w a b g := by
  rw [show f = g from funext h]
/-- a seat: leaves 0 to 4, length 5, soup 6, heat 7, served 8 -/
abbrev St : Type := Nat → Int32
def Nm (S : St) : Prop := ∀ n, 9 ≤ n → S n = 0
/-- a seat of the class -/
def cS (w : pm_W) (i : Nat) : St := fun n => if n < 5 then w.1 8 i n else if n < 9 then w.1 7 i (n - 4) else 0
def cPut (w : pm_W) (i : Nat) (S : St) : pm_W := (fun a b c => if a = 8 ∧ b = i ∧ c < 5 then S c else if a = 7 ∧ b = i ∧ 1 ≤ c ∧ c < 5 then S (c + 4) else w.1 a b c, w.2)
theorem cS_nm (w : pm_W) (i : Nat) : Nm (cS w i) := fun n h => by
  unfold cS
  rw [if_neg (by omega), if_neg (by omega)]
theorem cS_l {w : pm_W} {i n : Nat} (h : n < 5) : w.1 8 i n = cS w i n := by
  unfold cS; rw [if_pos h]
theorem cS_f {w : pm_W} {i n : Nat} (h1 : 1 ≤ n) (h2 : n < 5) : w.1 7 i n = cS w i (n + 4) := by
  unfold cS; rw [if_neg (by omega), if_pos (by omega)]; rfl
theorem cPut_self (w : pm_W) (i : Nat) : cPut w i (cS w i) = w := by
  apply W_ext
  · intro a b c
    simp only [cPut]
    split
    · rename_i h; rw [← cS_l h.2.2, h.1, h.2.1]
    · split
      · rename_i h; rw [← cS_f h.2.2.1 h.2.2.2, h.1, h.2.1]
      · rfl
  · rfl
theorem cS_cPut {w : pm_W} {i : Nat} {S : St} (h : Nm S) : cS (cPut w i S) i = S := by
  funext n
  unfold cS
  by_cases h1 : n < 5
  · rw [if_pos h1]; simp [cPut, h1]
  · rw [if_neg h1]
    by_cases h2 : n < 9
    · rw [if_pos h2]
      have h3 : 1 ≤ n - 4 ∧ n - 4 < 5 := by omega
      have e : (cPut w i S).1 7 i (n - 4) = S (n - 4 + 4) := by simp [cPut, h3]
      rw [e, show n - 4 + 4 = n by omega]
    · rw [if_neg h2, h n (by omega)]
theorem cS_cPut_ne {w : pm_W} {i j : Nat} {S : St} (h : j ≠ i) : cS (cPut w i S) j = cS w j := by
  funext n
  unfold cS
  simp [cPut, h]
theorem cPut_o {w : pm_W} {i : Nat} {S : St} {a b c : Nat} (h7 : a ≠ 7) (h8 : a ≠ 8) : (cPut w i S).1 a b c = w.1 a b c := by
  simp [cPut, h7, h8]
theorem cPut_or {w : pm_W} {i : Nat} {S : St} {a b : Nat} (h7 : a ≠ 7) (h8 : a ≠ 8) : (cPut w i S).1 a b = w.1 a b := funext fun c => cPut_o h7 h8
theorem cPut_2 {w : pm_W} {i : Nat} {S : St} : (cPut w i S).2 = w.2 := rfl
theorem cPut_cPut {w : pm_W} {i : Nat} {S T : St} : cPut (cPut w i S) i T = cPut w i T := by
  apply W_ext
  · intro a b c
    simp only [cPut]
    split
    · rfl
    · split <;> rfl
  · rfl
theorem cPut_set8 {w : pm_W} {i n : Nat} {S : St} {x : Int32} (h : n < 5) : pm_setI (cPut w i S) 8 i n x = cPut w i (upd S n x) := by
  apply W_ext
  · intro a b c
    simp only [pm_setI, cPut, upd]
    by_cases h1 : a = 8 ∧ b = i ∧ c < 5
    · obtain ⟨rfl, rfl, h1⟩ := h1
      simp only [true_and, h1, if_true]
      try simp
    · rw [if_neg h1, if_neg (fun z => h1 ⟨z.1, z.2.1, by omega⟩), if_neg h1]
      by_cases h2 : a = 7 ∧ b = i ∧ 1 ≤ c ∧ c < 5
      · rw [if_pos h2, if_pos h2, if_neg (by omega)]
      · rw [if_neg h2, if_neg h2]
  · rfl
theorem cPut_set7 {w : pm_W} {i n : Nat} {S : St} {x : Int32} (h1 : 1 ≤ n) (h : n < 5) : pm_setI (cPut w i S) 7 i n x = cPut w i (upd S (n + 4) x) := by
  apply W_ext
  · intro a b c
    simp only [pm_setI, cPut, upd]
    by_cases h1 : a = 8 ∧ b = i ∧ c < 5
    · rw [if_pos h1, if_neg (by omega), if_pos h1, if_neg (by omega)]
    · rw [if_neg h1, if_neg h1]
      by_cases h2 : a = 7 ∧ b = i ∧ 1 ≤ c ∧ c < 5
      · rw [if_pos h2, if_pos h2]
        obtain ⟨rfl, rfl, h2⟩ := h2
        by_cases h3 : c = n
        · subst h3; simp
        · rw [if_neg (by omega), if_neg (by omega)]
      · rw [if_neg h2, if_neg h2, if_neg (fun z => h2 ⟨z.1, z.2.1, by omega⟩)]
  · rfl
theorem cPut_g8 {w : pm_W} {i n : Nat} {S : St} (h : n < 5) : (cPut w i S).1 8 i n = S n := by simp [cPut, h]
theorem cPut_g7 {w : pm_W} {i n : Nat} {S : St} (h1 : 1 ≤ n) (h : n < 5) : (cPut w i S).1 7 i n = S (n + 4) := by simp [cPut, h, h1]
/-- a seat of the reference, at a level -/
def mS (w : pm_W) (v : Nat) : St := fun n => if n < 9 then w.1 23 0 (9 * v + n) else 0
def mPut (w : pm_W) (v : Nat) (S : St) : pm_W := rowP w 23 0 (fun c => if 9 * v ≤ c ∧ c < 9 * v + 9 then S (c - 9 * v) else w.1 23 0 c)
theorem mS_nm (w : pm_W) (v : Nat) : Nm (mS w v) := fun n h => by unfold mS; rw [if_neg (by omega)]
theorem mS_g {w : pm_W} {v n : Nat} (h : n < 9) : w.1 23 0 (9 * v + n) = mS w v n := by unfold mS; rw [if_pos h]
theorem mPut_self (w : pm_W) (v : Nat) : mPut w v (mS w v) = w := by
  unfold mPut
  rw [rowP_congr (g := w.1 23 0), rowP_self]
  intro c
  split
  · rename_i h
    rw [← mS_g (by omega), show 9 * v + (c - 9 * v) = c by omega]
  · rfl
theorem mS_mPut {w : pm_W} {v : Nat} {S : St} (h : Nm S) : mS (mPut w v S) v = S := by
  funext n
  unfold mS mPut
  rw [rowP_s]
  by_cases h1 : n < 9
  · rw [if_pos h1]
    rw [if_pos (by omega), show 9 * v + n - 9 * v = n by omega]
  · rw [if_neg h1, h n (by omega)]
theorem mS_mPut_ne {w : pm_W} {v u : Nat} {S : St} (h : u ≠ v) : mS (mPut w v S) u = mS w u := by
  funext n
  unfold mS mPut
  rw [rowP_s]
  by_cases h1 : n < 9
  · rw [if_pos h1, if_pos h1]
    rw [if_neg (by omega)]
  · rw [if_neg h1, if_neg h1]
theorem mPut_o {w : pm_W} {v : Nat} {S : St} {a b : Nat} (h : a ≠ 23) : (mPut w v S).1 a b = w.1 a b := rowP_a h
theorem mPut_2 {w : pm_W} {v : Nat} {S : St} : (mPut w v S).2 = w.2 := rfl
theorem mPut_mPut {w : pm_W} {v : Nat} {S T : St} : mPut (mPut w v S) v T = mPut w v T := by
  unfold mPut
  rw [rowP_rowP, rowP_s]
  apply rowP_congr
  intro c
  split
  · rfl
  · rfl
theorem mPut_set {w : pm_W} {v n : Nat} {S : St} {x : Int32} (h : n < 9) : pm_setI (mPut w v S) 23 0 (9 * v + n) x = mPut w v (upd S n x) := by
  unfold mPut
  rw [set_rowP]
  apply rowP_congr
  intro c
  simp only [upd]
  by_cases h1 : c = 9 * v + n
  · subst h1
    rw [if_pos rfl, if_pos (by omega), if_pos (by omega)]
  · rw [if_neg h1]
    by_cases h2 : 9 * v ≤ c ∧ c < 9 * v + 9
    · rw [if_pos h2, if_pos h2, if_neg (by omega)]
    · rw [if_neg h2, if_neg h2]
theorem mPut_g {w : pm_W} {v n : Nat} {S : St} (h : n < 9) : (mPut w v S).1 23 0 (9 * v + n) = S n := by
  unfold mPut
  rw [rowP_s]
  rw [if_pos (by omega), show 9 * v + n - 9 * v = n by omega]
theorem cS_set7 {w : pm_W} {i n : Nat} {x : Int32} (h1 : 1 ≤ n) (h : n < 5) : pm_setI w 7 i n x = cPut w i (upd (cS w i) (n + 4) x) := by
  rw [← cPut_set7 h1 h, cPut_self]
theorem cS_set8 {w : pm_W} {i n : Nat} {x : Int32} (h : n < 5) : pm_setI w 8 i n x = cPut w i (upd (cS w i) n x) := by
  rw [← cPut_set8 h, cPut_self]
theorem mS_set {w : pm_W} {v n : Nat} {x : Int32} (h : n < 9) : pm_setI w 23 0 (9 * v + n) x = mPut w v (upd (mS w v) n x) := by
  rw [← mPut_set h, mPut_self]
theorem upd_s {f : Nat → Int32} {k : Nat} {x : Int32} : upd f k x k = x := by simp [upd]
theorem upd_n {f : Nat → Int32} {k j : Nat} {x : Int32} (h : j ≠ k) : upd f k x j = f j := by simp [upd, h]
