/-! ===== what is said, passed, fetched: of a seat ===== -/
def gr (k : Int32) : Int32 := if k = 0 then 1 else if k = 1 then -1 else if k = 2 then 2 else 0
def tk (S : St) (x : Int32) : Nat → Bool
  | 0 => false
  | n + 1 => tk S x n || decide (S n = x)
def can (N : Nat) (K : Nat → Int32) (S : St) (g : Nat) : Bool := if K g = 1 then (!(decide (S 5 ≤ S g + 1)) && !(tk S (S g + 1) N)) else !(decide (60 < S 5 + gr (K g)))
def spk (N : Nat) (K : Nat → Int32) (S : St) (g : Nat) : St := fun n => if n < N then (if S n ≤ S g then S n else S n + gr (K g)) else if n = 5 then S 5 + gr (K g) else if n = 6 then (if S 6 ≤ S g then S 6 else S 6 + gr (K g)) else S n
def ab (x : Int32) : Int32 := if 0 ≤ x then x else -x
def hh (S : St) (g : Nat) : Int32 := if 0 ≤ S 7 - ab (S g - S 6) then S 7 - ab (S g - S 6) else 0
def hnd (Wn : Nat → Int32) (S : St) (g : Nat) : St := fun n => if n = 6 then S g else if n = 7 then hh S g else if n = 8 then (if hh S g < Wn g then S 8 else S 8 ||| (1 <<< (nI g &&& 31))) else S n
def rfi (wm : Int32) (S : St) : St := fun n => if n = 6 then 0 else if n = 7 then wm else S n
theorem spk_nm {N : Nat} {K : Nat → Int32} {S : St} {g : Nat} (hN : N ≤ 5) (h : Nm S) : Nm (spk N K S g) := fun n hn => by
  unfold spk
  rw [if_neg (by omega), if_neg (by omega), if_neg (by omega)]; exact h n hn
theorem hnd_nm {Wn : Nat → Int32} {S : St} {g : Nat} (h : Nm S) : Nm (hnd Wn S g) := fun n hn => by
  unfold hnd
  rw [if_neg (by omega), if_neg (by omega), if_neg (by omega)]; exact h n hn
theorem rfi_nm {wm : Int32} {S : St} (h : Nm S) : Nm (rfi wm S) := fun n hn => by
  unfold rfi
  rw [if_neg (by omega), if_neg (by omega)]; exact h n hn
theorem isb_bi (b : Bool) : pm_isb (bi b) = true := by cases b <;> rfl
theorem isb_0 : pm_isb 0 = true := rfl
theorem isb_1 : pm_isb 1 = true := rfl
theorem isb_if {c : Prop} [Decidable c] : pm_isb (if c then 0 else 1 : Int32) = true := by split <;> rfl
theorem isb_if2 {c : Prop} [Decidable c] : pm_isb (if c then 1 else 0 : Int32) = true := by split <;> rfl
-- the class
theorem knows_in (F : Nat) {w : pm_W} {N g : Nat} (hN : w.1 3 0 3 = nI N) (h5 : N ≤ 5) (hg : g < N) : f_X5_knows F w (nI g) = some 1 := by
  have a1 : ¬ nI g < 0 := nI_pos (by omega)
  have a2 : ¬ nI N ≤ nI g := by rw [nx_le (by omega) (by omega)]; omega
  have a3 : ¬ (5 : Int32) ≤ nI g := by rw [show (5 : Int32) = nI 5 from rfl, nx_le (by omega) (by omega)]; omega
  simp only [f_X5_knows, hN, a1, a2, a3, if_false, isb_1, if_true]
theorem nI_get {x : Int32} {N : Nat} (h0 : ¬ x < 0) (h : ¬ nI N ≤ x) (hN : N < 2147483648) : ∃ g, g < N ∧ x = nI g := by
  rcases pk_ix x hN with z | z | z
  · exact absurd z h0
  · exact absurd z h
  · exact z
theorem knows_out (F : Nat) {w : pm_W} {N : Nat} {x : Int32} (hN : w.1 3 0 3 = nI N) (h5 : N ≤ 5) (hx : ∀ g, g < N → x ≠ nI g) : f_X5_knows F w x = some 0 := by
  unfold f_X5_knows
  rw [hN]
  by_cases h0 : x < 0
  · simp only [h0, if_true, isb_0]
  · by_cases h1 : nI N ≤ x
    · simp only [h0, h1, if_true, if_false, isb_0]
    · obtain ⟨g, hg, e⟩ := nI_get h0 h1 (by omega)
      exact absurd e (hx g hg)
/-- a kind is told by 0 to 3 -/
def Kd (k : Int32) : Prop := k = 0 ∨ k = 1 ∨ k = 2 ∨ k = 3
theorem growthOf_e (F : Nat) {w : pm_W} {g : Nat} (hg : g < 5) (hk : Kd (w.1 4 0 g)) : f_X5_growthOf F w (nI g) = some (gr (w.1 4 0 g)) := by
  unfold f_X5_growthOf
  rw [nx_in hg (by omega), if_pos rfl, nx_cl (by omega)]
  rcases hk with h | h | h | h <;> rw [h] <;> rfl
theorem isTaken_L (F : Nat) {w : pm_W} {N i : Nat} {x : Int32} (hN : w.1 3 0 3 = nI N) (h5 : N ≤ 5) : ∀ (m n j : Nat), j + m = N → m < n → tk (cS w i) x j = false → f_X5_isTaken_L2 F w n i x (nI j) = some (if tk (cS w i) x N = true then .inr 1 else .inl (nI N)) := by
  intro m
  induction m with
  | zero =>
    intro n j hj hn ht
    obtain ⟨n, rfl⟩ : ∃ k, n = k + 1 := ⟨n - 1, by omega⟩
    rw [f_X5_isTaken_L2, hN, if_pos (by rw [nx_le (by omega) (by omega)]; omega)]
    have : j = N := by omega
    subst this
    rw [ht]; rfl
  | succ m ih =>
    intro n j hj hn ht
    obtain ⟨n, rfl⟩ : ∃ k, n = k + 1 := ⟨n - 1, by omega⟩
    rw [f_X5_isTaken_L2, hN, if_neg (by rw [nx_le (by omega) (by omega)]; omega), nx_in (show j < 5 by omega) (by omega), if_pos rfl, nx_cl (by omega), cS_l (by omega)]
    by_cases hx : cS w i j = x
    · rw [if_pos hx]
      have key : ∀ q, j < q → tk (cS w i) x q = true := by
        intro q hq
        induction q with
        | zero => omega
        | succ q iq =>
          unfold tk
          by_cases h : j = q
          · subst h; simp [hx]
          · rw [iq (by omega)]; rfl
      rw [key N (by omega)]; rfl
    · rw [if_neg hx, nx_s]
      refine ih n (j + 1) (by omega) (by omega) ?_
      unfold tk
      rw [ht]; simp [hx]
theorem isTaken_e (F : Nat) {w : pm_W} {N i : Nat} {x : Int32} (hF : 9 ≤ F) (hN : w.1 3 0 3 = nI N) (h5 : N ≤ 5) : f_X5_isTaken F w i x = some (bi (tk (cS w i) x N)) := by
  unfold f_X5_isTaken
  rw [show (0 : Int32) = nI 0 from rfl, isTaken_L F hN h5 N F 0 (by omega) (by omega) rfl]
  cases tk (cS w i) x N <;> rfl
theorem canSpeak_e (F : Nat) {w : pm_W} {N i g : Nat} (hF : 9 ≤ F) (hN : w.1 3 0 3 = nI N) (h5 : N ≤ 5) (hg : g < N) (hk : Kd (w.1 4 0 g)) : f_X5_canSpeak F w i (nI g) = some (bi (can N (w.1 4 0) (cS w i) g)) := by
  unfold f_X5_canSpeak
  rw [knows_in F hN h5 hg, Option.bind_some, if_neg (by decide), growthOf_e F (by omega) hk, Option.bind_some, nx_in (show g < 5 by omega) (by omega), if_pos rfl, nx_cl (by omega), isTaken_e F hF hN h5, cS_l (by omega), cS_f (n := 1) (by omega) (by omega), Option.bind_some, isb_if2, if_pos rfl, isb_if, if_pos rfl]
  unfold can
  rcases hk with h | h | h | h <;> rw [h]
  · have q1 : ¬ gr 0 < 0 := by decide
    have q2 : ¬ (0 : Int32) = 1 := by decide
    simp only [q1, q2, if_false]
    by_cases z : 60 < cS w i (1 + 4) + gr 0 <;> simp [z, bi]
  · have q1 : gr 1 < 0 := by decide
    simp only [q1, if_true]
    by_cases z : cS w i (1 + 4) ≤ cS w i g + 1
    · simp [z, bi]
    · cases tk (cS w i) (cS w i g + 1) N <;> simp [z, bi]
  · have q1 : ¬ gr 2 < 0 := by decide
    have q2 : ¬ (2 : Int32) = 1 := by decide
    simp only [q1, q2, if_false]
    by_cases z : 60 < cS w i (1 + 4) + gr 2 <;> simp [z, bi]
  · have q1 : ¬ gr 3 < 0 := by decide
    have q2 : ¬ (3 : Int32) = 1 := by decide
    simp only [q1, q2, if_false]
    by_cases z : 60 < cS w i (1 + 4) + gr 3 <;> simp [z, bi]
/-- of a seat the first j leaves anew -/
def spj (j : Nat) (own x : Int32) (S : St) : St := fun n => if n < j then (if S n ≤ own then S n else S n + x) else S n
theorem speak_L (F : Nat) {w : pm_W} {N i : Nat} {v2 x own : Int32} {S : St} (hN : w.1 3 0 3 = nI N) (h5 : N ≤ 5) : ∀ (m n j : Nat), j + m = N → m < n → f_X5_speak_L16 F n (cPut w i (spj j own x S)) i v2 x own (nI j) = some (nI N, cPut w i (spj N own x S)) := by
  intro m
  induction m with
  | zero =>
    intro n j hj hn
    obtain ⟨n, rfl⟩ : ∃ k, n = k + 1 := ⟨n - 1, by omega⟩
    have : j = N := by omega
    subst this
    rw [f_X5_speak_L16, cPut_o (by decide) (by decide), hN, if_pos (by rw [nx_le (by omega) (by omega)]; omega)]
  | succ m ih =>
    intro n j hj hn
    obtain ⟨n, rfl⟩ : ∃ k, n = k + 1 := ⟨n - 1, by omega⟩
    have e1 : spj j own x S j = S j := by unfold spj; rw [if_neg (by omega)]
    rw [f_X5_speak_L16, cPut_o (by decide) (by decide), hN, if_neg (by rw [nx_le (by omega) (by omega)]; omega), nx_in (show j < 5 by omega) (by omega), if_pos rfl, if_pos rfl, if_pos rfl, nx_cl (by omega), cPut_g8 (by omega), e1, nx_s]
    unfold pm_wlet
    rw [cPut_set8 (by omega)]
    have ih2 := ih n (j + 1) (by omega) (by omega)
    by_cases hx : S j ≤ own
    · rw [if_pos hx]
      have e2 : spj (j + 1) own x S = spj j own x S := by
        funext q; unfold spj
        by_cases h : q = j
        · subst h; rw [if_pos (by omega), if_pos hx, if_neg (by omega)]
        · by_cases h2 : q < j
          · rw [if_pos (by omega), if_pos h2]
          · rw [if_neg (by omega), if_neg h2]
      rw [e2] at ih2; exact ih2
    · rw [if_neg hx]
      have e2 : spj (j + 1) own x S = upd (spj j own x S) j (S j + x) := by
        funext q; simp only [spj, upd]
        by_cases h : q = j
        · subst h; rw [if_pos (by omega), if_neg hx, if_pos rfl]
        · rw [if_neg h]
          by_cases h2 : q < j
          · rw [if_pos (by omega), if_pos h2]
          · rw [if_neg (by omega), if_neg h2]
      rw [e2] at ih2; exact ih2
theorem speak_e (F : Nat) {w : pm_W} {N i g : Nat} (hF : 9 ≤ F) (hN : w.1 3 0 3 = nI N) (h5 : N ≤ 5) (hg : g < N) (hk : Kd (w.1 4 0 g)) : f_X5_speak F w i (nI g) = some (cPut w i (spk N (w.1 4 0) (cS w i) g)) := by
  unfold f_X5_speak
  rw [knows_in F hN h5 hg, Option.bind_some, if_neg (by decide), growthOf_e F (by omega) hk, Option.bind_some, nx_in (show g < 5 by omega) (by omega), if_pos rfl, nx_cl (by omega), cS_l (by omega)]
  have e0 : w = cPut w i (spj 0 (cS w i g) (gr (w.1 4 0 g)) (cS w i)) := by
    rw [show spj 0 (cS w i g) (gr (w.1 4 0 g)) (cS w i) = cS w i from funext fun q => by unfold spj; rw [if_neg (by omega)], cPut_self]
  have hL := speak_L F (i := i) (v2 := nI g) (x := gr (w.1 4 0 g)) (own := cS w i g) (S := cS w i) hN h5 N F 0 (by omega) (by omega)
  rw [← e0] at hL
  rw [show (0 : Int32) = nI 0 from rfl, hL, Option.bind_some]
  unfold pm_wlet
  simp only [cPut_g7 (show 1 ≤ 2 by omega) (show 2 < 5 by omega), cPut_g7 (show 1 ≤ 1 by omega) (show 1 < 5 by omega), cPut_set7 (show 1 ≤ 2 by omega) (show 2 < 5 by omega), cPut_set7 (show 1 ≤ 1 by omega) (show 1 < 5 by omega)]
  obtain ⟨x, hx⟩ : ∃ x, gr (w.1 4 0 g) = x := ⟨_, rfl⟩
  have hs : spk N (w.1 4 0) (cS w i) g = fun q => (if q < N then (if cS w i q ≤ cS w i g then cS w i q else cS w i q + x) else if q = 5 then cS w i 5 + x else if q = 6 then (if cS w i 6 ≤ cS w i g then cS w i 6 else cS w i 6 + x) else cS w i q) := by
    funext q; simp only [spk, hx]
  rw [hs, hx]
  have e6 : spj N (cS w i g) x (cS w i) (2 + 4) = cS w i 6 := by unfold spj; rw [if_neg (by omega)]
  have e5 : spj N (cS w i g) x (cS w i) (1 + 4) = cS w i 5 := by unfold spj; rw [if_neg (by omega)]
  rw [e6, e5]
  by_cases h6 : cS w i 6 ≤ cS w i g
  · simp only [if_pos h6]
    refine congrArg some (congrArg (cPut w i) (funext fun q => ?_))
    simp only [spj, upd]
    by_cases h1 : q < N
    · rw [if_neg (by omega), if_pos h1, if_pos h1]
    · simp only [h1, if_false]
      by_cases h3 : q = 6
      · subst h3; rfl
      · simp only [h3, if_false]
  · simp only [if_neg h6]
    rw [show upd (spj N (cS w i g) x (cS w i)) (2 + 4) (cS w i 6 + x) (1 + 4) = cS w i 5 from by simp only [upd, spj]; rw [if_neg (by omega), if_neg (by omega)]]
    refine congrArg some (congrArg (cPut w i) (funext fun q => ?_))
    simp only [spj, upd]
    by_cases h1 : q < N
    · rw [if_neg (by omega), if_neg (by omega), if_pos h1, if_pos h1]
    · simp only [h1, if_false]
theorem speakIfCan_e (F : Nat) {w : pm_W} {N i g : Nat} (hF : 9 ≤ F) (hN : w.1 3 0 3 = nI N) (h5 : N ≤ 5) (hg : g < N) (hk : Kd (w.1 4 0 g)) : f_X5_speakIfCan F w i (nI g) = some (if can N (w.1 4 0) (cS w i) g = true then (1, cPut w i (spk N (w.1 4 0) (cS w i) g)) else (0, w)) := by
  unfold f_X5_speakIfCan
  rw [canSpeak_e F hF hN h5 hg hk, Option.bind_some, speak_e F hF hN h5 hg hk, Option.bind_some]
  cases can N (w.1 4 0) (cS w i) g <;> simp [bi]
theorem canSpeak_o (F : Nat) {w : pm_W} {N i : Nat} {x : Int32} (hN : w.1 3 0 3 = nI N) (h5 : N ≤ 5) (hx : ∀ g, g < N → x ≠ nI g) : f_X5_canSpeak F w i x = some 0 := by
  unfold f_X5_canSpeak
  rw [knows_out F hN h5 hx, Option.bind_some, if_pos rfl]
theorem speakIfCan_o (F : Nat) {w : pm_W} {N i : Nat} {x : Int32} (hN : w.1 3 0 3 = nI N) (h5 : N ≤ 5) (hx : ∀ g, g < N → x ≠ nI g) : f_X5_speakIfCan F w i x = some (0, w) := by
  unfold f_X5_speakIfCan
  rw [canSpeak_o F hN h5 hx, Option.bind_some, if_pos rfl]
theorem mx0 (y : Int32) : (if 0 < y then y else 0 : Int32) = if 0 ≤ y then y else 0 := by
  by_cases h : 0 < y
  · rw [if_pos h, if_pos (Int32.le_of_lt h)]
  · rw [if_neg h]
    by_cases h2 : 0 ≤ y
    · rw [if_pos h2]
      exact Int32.le_antisymm h2 (Int32.not_lt.mp h)
    · rw [if_neg h2]
set_option maxRecDepth 20000 in
theorem hand_e (F : Nat) {w : pm_W} {N i g : Nat} (hN : w.1 3 0 3 = nI N) (h5 : N ≤ 5) (hg : g < N) : f_X5_hand F w i (nI g) = some (cPut w i (hnd (w.1 5 0) (cS w i) g)) := by
  have q1 : ¬ (1 : Int32) = 0 := by decide
  unfold f_X5_hand f_J9_abs f_J9_max
  simp only [knows_in F hN h5 hg, Option.bind_some, q1, if_false, nx_in (show g < 5 by omega) (show 5 < 2147483648 by omega), if_true, nx_cl (show g < 2147483648 by omega), mx0, pm_wlet, cS_l (show g < 5 by omega), cS_f (w := w) (i := i) (n := 2) (by omega) (by omega), cS_f (w := w) (i := i) (n := 3) (by omega) (by omega)]
  simp only [cS_set7 (w := w) (show 1 ≤ 3 by omega) (show 3 < 5 by omega), cPut_set7 (show 1 ≤ 2 by omega) (show 2 < 5 by omega), cPut_set7 (show 1 ≤ 4 by omega) (show 4 < 5 by omega), cPut_g7 (show 1 ≤ 3 by omega) (show 3 < 5 by omega), cPut_g7 (show 1 ≤ 4 by omega) (show 4 < 5 by omega), cPut_o (show 5 ≠ 7 by omega) (show 5 ≠ 8 by omega)]
  have r : (if 0 ≤ cS w i (3 + 4) - (if 0 ≤ cS w i g - cS w i (2 + 4) then cS w i g - cS w i (2 + 4) else -(cS w i g - cS w i (2 + 4))) then cS w i (3 + 4) - (if 0 ≤ cS w i g - cS w i (2 + 4) then cS w i g - cS w i (2 + 4) else -(cS w i g - cS w i (2 + 4))) else 0 : Int32) = hh (cS w i) g := rfl
  rw [r]
  have e7 : upd (upd (cS w i) (3 + 4) (hh (cS w i) g)) (2 + 4) (cS w i g) (3 + 4) = hh (cS w i) g := by simp [upd]
  have e8 : upd (upd (cS w i) (3 + 4) (hh (cS w i) g)) (2 + 4) (cS w i g) (4 + 4) = cS w i 8 := by simp [upd]
  rw [e7, e8]
  by_cases hq : hh (cS w i) g < w.1 5 0 g
  · rw [if_pos hq]
    refine congrArg some (congrArg (cPut w i) (funext fun q => ?_))
    simp only [upd, hnd, hq, if_true]
    by_cases h6 : q = 6
    · subst h6; rfl
    · by_cases h7 : q = 7
      · subst h7; rfl
      · by_cases h8 : q = 8
        · subst h8; rfl
        · simp [h6, h7, h8]
  · rw [if_neg hq]
    refine congrArg some (congrArg (cPut w i) (funext fun q => ?_))
    simp only [upd, hnd, hq, if_false]
    by_cases h6 : q = 6
    · subst h6; rfl
    · by_cases h7 : q = 7
      · subst h7; rfl
      · by_cases h8 : q = 8
        · subst h8; rfl
        · simp [h6, h7, h8]
theorem refill_e (F : Nat) {w : pm_W} {i : Nat} : f_X5_refill F w i = some (cPut w i (rfi (w.1 3 0 4) (cS w i))) := by
  unfold f_X5_refill
  simp only [pm_wlet, cS_set7 (w := w) (show 1 ≤ 2 by omega) (show 2 < 5 by omega), cPut_set7 (show 1 ≤ 3 by omega) (show 3 < 5 by omega), cPut_o (show 3 ≠ 7 by omega) (show 3 ≠ 8 by omega)]
  refine congrArg some (congrArg (cPut w i) (funext fun q => ?_))
  simp only [upd, rfi]
  by_cases h6 : q = 6
  · subst h6; rfl
  · by_cases h7 : q = 7
    · subst h7; rfl
    · simp [h6, h7]
