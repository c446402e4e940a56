/-! ===== class and reference, side by side ===== -/
def eqN (N : Nat) (S T : St) : Prop := ∀ n, (n < N ∨ (5 ≤ n ∧ n < 9)) → S n = T n
theorem eqN_tk {N : Nat} {S T : St} {x : Int32} (h : eqN N S T) : ∀ n, n ≤ N → tk S x n = tk T x n
  | 0, _ => rfl
  | n + 1, hn => by
    unfold tk
    rw [eqN_tk h n (by omega), h n (Or.inl (by omega))]
theorem eqN_can {N g : Nat} {K L : Nat → Int32} {S T : St} (h : eqN N S T) (hg : g < N) (hK : K g = L g) : can N K S g = can N L T g := by
  unfold can
  rw [hK, h g (Or.inl hg), h 5 (Or.inr ⟨by omega, by omega⟩), eqN_tk h N (Nat.le_refl _)]
theorem eqN_spk {N g : Nat} {K L : Nat → Int32} {S T : St} (h : eqN N S T) (hg : g < N) (hK : K g = L g) : eqN N (spk N K S g) (spk N L T g) := by
  intro n hn
  unfold spk
  rw [hK, h g (Or.inl hg), h 5 (Or.inr ⟨by omega, by omega⟩), h 6 (Or.inr ⟨by omega, by omega⟩), h n hn]
theorem eqN_hh {N g : Nat} {S T : St} (h : eqN N S T) (hg : g < N) : hh S g = hh T g := by
  unfold hh
  rw [h g (Or.inl hg), h 7 (Or.inr ⟨by omega, by omega⟩), h 6 (Or.inr ⟨by omega, by omega⟩)]
theorem eqN_hnd {N g : Nat} {K L : Nat → Int32} {S T : St} (h : eqN N S T) (hg : g < N) (hK : K g = L g) : eqN N (hnd K S g) (hnd L T g) := by
  intro n hn
  unfold hnd
  rw [hK, h g (Or.inl hg), h 8 (Or.inr ⟨by omega, by omega⟩), eqN_hh h hg, h n hn]
theorem eqN_rfi {N : Nat} {x : Int32} {S T : St} (h : eqN N S T) : eqN N (rfi x S) (rfi x T) := by
  intro n hn
  unfold rfi
  rw [h n hn]
theorem eqN_nxt {N : Nat} {x : Int32} {S T : St} (h : eqN N S T) : ∀ n, n ≤ N → nxt S x n = nxt T x n
  | 0, _ => rfl
  | n + 1, hn => by
    unfold nxt
    rw [eqN_nxt h n (by omega), h n (Or.inl (by omega))]
    cases hb : nxt T x n with
    | none => rfl
    | some g =>
      have := (nxt_spec hb).1
      show (if x < T n then (if S g ≤ T n then some g else some n) else some g) = (if x < T n then (if T g ≤ T n then some g else some n) else some g)
      rw [h g (Or.inl (by omega))]
theorem eqN_hrL {N : Nat} {rc : Int32} {S T : St} (h : eqN N S T) : ∀ (k : Nat) (set fr : Int32) (o : Option Nat), (∀ g, o = some g → g < N) → hrL N rc S k set fr o = hrL N rc T k set fr o
  | 0, set, fr, o, _ => rfl
  | k + 1, set, fr, none, _ => rfl
  | k + 1, set, fr, some g, ho => by
    unfold hrL
    rw [h g (Or.inl (ho g rfl)), eqN_nxt h N (Nat.le_refl _), eqN_hrL h k _ _ _ (fun g hg => (nxt_spec hg).1)]
theorem eqN_hear {N : Nat} {rc : Int32} {S T : St} (h : eqN N S T) : hearM N rc S = hearM N rc T := by
  unfold hearM
  rw [eqN_nxt h N (Nat.le_refl _), eqN_hrL h N _ _ _ (fun g hg => (nxt_spec hg).1)]
/-- a seat as it may be -/
def Iv (N : Nat) (S : St) : Prop := ∃ l, 1 ≤ l ∧ l ≤ 60 ∧ S 5 = nI l ∧ (∀ j, j < N → ∃ k, k < l ∧ S j = nI k) ∧ ∃ m, m < 32 ∧ S 8 = nI m
theorem Iv.lf {N : Nat} {S : St} (h : Iv N S) : Lf N S := by
  obtain ⟨l, h1, h2, h3, h4, _⟩ := h
  intro j hj
  obtain ⟨k, hk, e⟩ := h4 j hj
  exact ⟨k, by omega, e⟩
theorem tk_false {S : St} {x : Int32} : ∀ {n : Nat}, tk S x n = false → ∀ j, j < n → S j ≠ x
  | 0, _, j, hj => by omega
  | n + 1, h, j, hj => by
    unfold tk at h
    rw [Bool.or_eq_false_iff] at h
    by_cases e : j = n
    · subst e; exact of_decide_eq_false h.2
    · exact tk_false h.1 j (by omega)
theorem Iv_spk {N g : Nat} {K : Nat → Int32} {S : St} (h5 : N ≤ 5) (h : Iv N S) (hg : g < N) (hk : Kd (K g)) (hc : can N K S g = true) : Iv N (spk N K S g) := by
  obtain ⟨l, h1, h2, h3, h4, h8⟩ := h
  obtain ⟨o, ho, eo⟩ := h4 g hg
  have e8 : ∃ m, m < 32 ∧ spk N K S g 8 = nI m := by
    unfold spk
    rw [if_neg (by omega), if_neg (by omega), if_neg (by omega)]
    exact h8
  have e5 : spk N K S g 5 = S 5 + gr (K g) := by unfold spk; rw [if_neg (by omega), if_pos rfl]
  unfold can at hc
  by_cases hk1 : K g = 1
  · rw [if_pos hk1, Bool.and_eq_true, Bool.not_eq_true', Bool.not_eq_true', h3, eo, nx_s] at hc
    have hc1 : ¬ nI l ≤ nI (o + 1) := of_decide_eq_false hc.1
    rw [nx_le (by omega) (by omega)] at hc1
    have hgr : gr (K g) = -1 := by rw [hk1]; rfl
    refine ⟨l - 1, by omega, by omega, ?_, fun j hj => ?_, e8⟩
    · rw [e5, hgr, h3]
      obtain ⟨m, rfl⟩ : ∃ m, l = m + 1 := ⟨l - 1, by omega⟩
      rw [pk_m1]; rfl
    · obtain ⟨k, hk2, ek⟩ := h4 j hj
      have hne := tk_false hc.2 j hj
      unfold spk
      rw [if_pos hj, hgr, ek, eo]
      by_cases hle : k ≤ o
      · rw [if_pos (by rw [nx_le (by omega) (by omega)]; exact hle)]
        exact ⟨k, by omega, rfl⟩
      · rw [if_neg (by rw [nx_le (by omega) (by omega)]; exact hle)]
        have hko : k ≠ o + 1 := fun z => hne (by rw [ek, z])
        obtain ⟨m, rfl⟩ : ∃ m, k = m + 1 := ⟨k - 1, by omega⟩
        exact ⟨m, by omega, pk_m1 m⟩
  · rw [if_neg hk1, Bool.not_eq_true'] at hc
    have hc1 := of_decide_eq_false hc
    obtain ⟨x, hx, ex⟩ : ∃ x : Nat, x ≤ 2 ∧ gr (K g) = nI x := by
      rcases hk with h | h | h | h
      · exact ⟨1, by omega, by rw [h]; rfl⟩
      · exact absurd h hk1
      · exact ⟨2, by omega, by rw [h]; rfl⟩
      · exact ⟨0, by omega, by rw [h]; rfl⟩
    rw [ex, h3, nI_add, show (60 : Int32) = nI 60 from rfl, nx_lt (by omega) (by omega)] at hc1
    refine ⟨l + x, by omega, by omega, by rw [e5, ex, h3, nI_add], fun j hj => ?_, e8⟩
    obtain ⟨k, hk2, ek⟩ := h4 j hj
    unfold spk
    rw [if_pos hj, ex, ek, eo]
    by_cases hle : k ≤ o
    · rw [if_pos (by rw [nx_le (by omega) (by omega)]; exact hle)]
      exact ⟨k, by omega, rfl⟩
    · rw [if_neg (by rw [nx_le (by omega) (by omega)]; exact hle)]
      exact ⟨k + x, by omega, nI_add k x⟩
theorem or32 : ∀ m : Fin 32, ∀ g : Fin 5, (nI m.val ||| ((1 : Int32) <<< (nI g.val &&& 31))) = nI (m.val ||| 2 ^ g.val) ∧ (m.val ||| 2 ^ g.val) < 32 := by decide +kernel
theorem Iv_hnd {N g : Nat} {K : Nat → Int32} {S : St} (h5 : N ≤ 5) (hg : g < N) (h : Iv N S) : Iv N (hnd K S g) := by
  obtain ⟨l, h1, h2, h3, h4, m, hm, h8⟩ := h
  refine ⟨l, h1, h2, h3, fun j hj => ?_, ?_⟩
  · unfold hnd
    rw [if_neg (by omega), if_neg (by omega), if_neg (by omega)]
    exact h4 j hj
  · unfold hnd
    rw [if_neg (by omega), if_neg (by omega), if_pos rfl]
    split
    · exact ⟨m, hm, h8⟩
    · have := or32 ⟨m, hm⟩ ⟨g, by omega⟩
      exact ⟨m ||| 2 ^ g, this.2, by rw [h8]; exact this.1⟩
theorem Iv_rfi {N : Nat} {x : Int32} {S : St} (h5 : N ≤ 5) (h : Iv N S) : Iv N (rfi x S) := by
  obtain ⟨l, h1, h2, h3, h4, h8⟩ := h
  refine ⟨l, h1, h2, h3, fun j hj => ?_, h8⟩
  unfold rfi
  rw [if_neg (by omega), if_neg (by omega)]
  exact h4 j hj
def SR (N : Nat) (S T : St) : Prop := eqN N S T ∧ Iv N S
/-- seats of the reference's row of acts and of its slots -/
def rS (w : pm_W) (k : Nat) : St := fun n => if n < 9 then w.1 29 0 (9 * k + n) else 0
def kS (w : pm_W) (k : Nat) : St := fun n => if n < 9 then w.1 35 0 (9 * k + n) else 0
def TxR (w : pm_W) (n : Nat) : Prop := n ≤ 40 ∧ w.1 1 0 1 = nI n ∧ w.1 19 0 16 = nI n ∧ ∀ k, k < n → w.1 2 0 k = w.1 28 0 k
def TbR (w : pm_W) (N : Nat) : Prop := N ≤ 5 ∧ w.1 3 0 3 = nI N ∧ w.1 19 0 0 = nI N ∧ w.1 3 0 4 = w.1 19 0 1 ∧ w.1 3 0 5 = w.1 19 0 2 ∧ ∀ g, g < N → Kd (w.1 4 0 g) ∧ w.1 4 0 g = w.1 20 0 g ∧ w.1 5 0 g = w.1 21 0 g ∧ w.1 6 0 g = w.1 22 0 g ∧ Kd (w.1 6 0 g)
def NwR (w : pm_W) (N : Nat) : Prop := SR N (cS w 0) (mS w 0)
def AcR (w : pm_W) (N A X : Nat) : Prop := A ≤ 14 ∧ X < 14 ∧ w.1 9 0 1 = nI A ∧ w.1 19 0 19 = nI A ∧ w.1 19 0 20 = nI X ∧ (∀ j, j < A → SR N (cS w (w.2.2 (A - 1 - j))) (rS w ((X + 13 - j) % 14))) ∧ (∀ a b, a < 14 → b < 14 → w.2.2 a = w.2.2 b → a = b) ∧ ∀ a, a < 14 → 1 ≤ w.2.2 a ∧ w.2.2 a ≤ 14
def KpR (w : pm_W) (N : Nat) : Prop := ∀ s, s < 2 → w.1 12 0 s = w.1 34 0 s ∧ (w.1 12 0 s = 0 ∨ (w.1 12 0 s = 1 ∧ SR N (cS w (15 + s)) (kS w s)))
def DnR (w : pm_W) (D : Nat) : Prop := D ≤ 6 ∧ w.1 13 0 2 = nI D ∧ w.1 19 0 24 = nI D ∧ ∀ k, k < D → w.1 14 0 k = w.1 31 0 k ∧ w.1 15 0 k = w.1 32 0 k
def RelP (w : pm_W) (n N A X D : Nat) : Prop := TxR w n ∧ TbR w N ∧ NwR w N ∧ AcR w N A X ∧ KpR w N ∧ DnR w D ∧ w.2.1 0 = w.2.1 19
def Rel (w : pm_W) : Prop := ∃ n N A X D, RelP w n N A X D
-- what each of them looks at
def Pt (s : Nat → Nat → Nat → Prop) (w v : pm_W) : Prop := ∀ a b c, s a b c → v.1 a b c = w.1 a b c
def sTx (a b c : Nat) : Prop := (a = 1 ∧ c = 1) ∨ a = 2 ∨ a = 28 ∨ (a = 19 ∧ c = 16)
def sTb (a b c : Nat) : Prop := a = 3 ∨ a = 4 ∨ a = 5 ∨ a = 6 ∨ a = 20 ∨ a = 21 ∨ a = 22 ∨ (a = 19 ∧ c ≤ 2)
def sNw (a b c : Nat) : Prop := ((a = 7 ∨ a = 8) ∧ b = 0) ∨ (a = 23 ∧ c < 9)
def sAc (a b c : Nat) : Prop := (a = 9 ∧ c = 1) ∨ ((a = 7 ∨ a = 8) ∧ 1 ≤ b ∧ b ≤ 14) ∨ a = 29 ∨ (a = 19 ∧ (c = 19 ∨ c = 20))
def sKp (a b c : Nat) : Prop := a = 12 ∨ a = 34 ∨ a = 35 ∨ ((a = 7 ∨ a = 8) ∧ 15 ≤ b ∧ b ≤ 16)
def sDn (a b c : Nat) : Prop := (a = 13 ∧ c = 2) ∨ a = 14 ∨ a = 15 ∨ a = 31 ∨ a = 32 ∨ (a = 19 ∧ c = 24)
theorem TxR_of {w v : pm_W} {n : Nat} (h : Pt sTx w v) (H : TxR w n) : TxR v n := by
  obtain ⟨h1, h2, h3, h4⟩ := H
  refine ⟨h1, by rw [h 1 0 1 (by unfold sTx; omega)]; exact h2, by rw [h 19 0 16 (by unfold sTx; omega)]; exact h3, fun k hk => ?_⟩
  rw [h 2 0 k (by unfold sTx; omega), h 28 0 k (by unfold sTx; omega)]
  exact h4 k hk
theorem TbR_of {w v : pm_W} {N : Nat} (h : Pt sTb w v) (H : TbR w N) : TbR v N := by
  obtain ⟨h1, h2, h3, h4, h5, h6⟩ := H
  refine ⟨h1, by rw [h 3 0 3 (by unfold sTb; omega)]; exact h2, by rw [h 19 0 0 (by unfold sTb; omega)]; exact h3, by rw [h 3 0 4 (by unfold sTb; omega), h 19 0 1 (by unfold sTb; omega)]; exact h4, by rw [h 3 0 5 (by unfold sTb; omega), h 19 0 2 (by unfold sTb; omega)]; exact h5, fun g hg => ?_⟩
  rw [h 4 0 g (by unfold sTb; omega), h 5 0 g (by unfold sTb; omega), h 6 0 g (by unfold sTb; omega), h 20 0 g (by unfold sTb; omega), h 21 0 g (by unfold sTb; omega), h 22 0 g (by unfold sTb; omega)]
  exact h6 g hg
theorem cS_of {w v : pm_W} {i : Nat} (h : ∀ a c, (a = 7 ∨ a = 8) → v.1 a i c = w.1 a i c) : cS v i = cS w i := by
  funext n
  unfold cS
  rw [h 8 n (by omega), h 7 (n - 4) (by omega)]
theorem mS_of {w v : pm_W} {u : Nat} (h : ∀ n, n < 9 → v.1 23 0 (9 * u + n) = w.1 23 0 (9 * u + n)) : mS v u = mS w u := by
  funext n
  unfold mS
  by_cases hn : n < 9
  · rw [if_pos hn, if_pos hn, h n hn]
  · rw [if_neg hn, if_neg hn]
theorem rS_of {w v : pm_W} (h : ∀ c, v.1 29 0 c = w.1 29 0 c) (k : Nat) : rS v k = rS w k := by
  funext n; unfold rS; rw [h]
theorem kS_of {w v : pm_W} (h : ∀ c, v.1 35 0 c = w.1 35 0 c) (k : Nat) : kS v k = kS w k := by
  funext n; unfold kS; rw [h]
theorem NwR_of {w v : pm_W} {N : Nat} (h : Pt sNw w v) (H : NwR w N) : NwR v N := by
  unfold NwR
  rw [cS_of (w := w) (fun a c ha => h a 0 c (by unfold sNw; omega)), mS_of (w := w) (fun n hn => h 23 0 (9 * 0 + n) (by unfold sNw; omega))]
  exact H
theorem AcR_of {w v : pm_W} {N A X : Nat} (h : Pt sAc w v) (h2 : v.2.2 = w.2.2) (H : AcR w N A X) : AcR v N A X := by
  obtain ⟨a1, a2, a3, a4, a5, a6, a7, a8⟩ := H
  refine ⟨a1, a2, by rw [h 9 0 1 (by unfold sAc; omega)]; exact a3, by rw [h 19 0 19 (by unfold sAc; omega)]; exact a4, by rw [h 19 0 20 (by unfold sAc; omega)]; exact a5, fun j hj => ?_, by rw [h2]; exact a7, by rw [h2]; exact a8⟩
  have hb := a8 (A - 1 - j) (by omega)
  rw [h2, cS_of (w := w) (fun a c ha => h a _ c (by unfold sAc; omega)), rS_of (w := w) (fun c => h 29 0 c (by unfold sAc; omega))]
  exact a6 j hj
theorem KpR_of {w v : pm_W} {N : Nat} (h : Pt sKp w v) (H : KpR w N) : KpR v N := by
  intro s hs
  rw [h 12 0 s (by unfold sKp; omega), h 34 0 s (by unfold sKp; omega), cS_of (w := w) (fun a c ha => h a _ c (by unfold sKp; omega)), kS_of (w := w) (fun c => h 35 0 c (by unfold sKp; omega))]
  exact H s hs
theorem DnR_of {w v : pm_W} {D : Nat} (h : Pt sDn w v) (H : DnR w D) : DnR v D := by
  obtain ⟨h1, h2, h3, h4⟩ := H
  refine ⟨h1, by rw [h 13 0 2 (by unfold sDn; omega)]; exact h2, by rw [h 19 0 24 (by unfold sDn; omega)]; exact h3, fun k hk => ?_⟩
  rw [h 14 0 k (by unfold sDn; omega), h 15 0 k (by unfold sDn; omega), h 31 0 k (by unfold sDn; omega), h 32 0 k (by unfold sDn; omega)]
  exact h4 k hk
/-- what may change freely: trials and answers of searches -/
def sFr (a b c : Nat) : Prop := ¬ ((a = 7 ∨ a = 8) ∧ 17 ≤ b) ∧ ¬ a = 16 ∧ ¬ (a = 13 ∧ 3 ≤ c) ∧ ¬ (a = 23 ∧ 9 ≤ c) ∧ ¬ (a = 19 ∧ (c = 7 ∨ c = 8 ∨ c = 9 ∨ c = 10 ∨ c = 17 ∨ c = 18 ∨ c = 22)) ∧ ¬ (24 ≤ a ∧ a ≤ 27) ∧ ¬ a = 30 ∧ ¬ a = 33
def Fr (w v : pm_W) : Prop := Pt sFr w v ∧ v.2 = w.2
theorem Fr.refl (w : pm_W) : Fr w w := ⟨fun _ _ _ _ => rfl, rfl⟩
theorem Fr.trans {u v w : pm_W} (h1 : Fr u v) (h2 : Fr v w) : Fr u w := ⟨fun a b c h => (h2.1 a b c h).trans (h1.1 a b c h), h2.2.trans h1.2⟩
theorem RelP_Fr {w v : pm_W} {n N A X D : Nat} (h : Fr w v) (H : RelP w n N A X D) : RelP v n N A X D := by
  obtain ⟨h1, h2, h3, h4, h5, h6, h7⟩ := H
  refine ⟨TxR_of (fun a b c s => h.1 a b c ?_) h1, TbR_of (fun a b c s => h.1 a b c ?_) h2, NwR_of (fun a b c s => h.1 a b c ?_) h3, AcR_of (fun a b c s => h.1 a b c ?_) (by rw [h.2]) h4, KpR_of (fun a b c s => h.1 a b c ?_) h5, DnR_of (fun a b c s => h.1 a b c ?_) h6, by rw [h.2]; exact h7⟩
  · unfold sTx at s; unfold sFr; omega
  · unfold sTb at s; unfold sFr; omega
  · unfold sNw at s; unfold sFr; omega
  · unfold sAc at s; unfold sFr; omega
  · unfold sKp at s; unfold sFr; omega
  · unfold sDn at s; unfold sFr; omega
theorem setI_ne {w : pm_W} {k j f a b c : Nat} {x : Int32} (h : ¬ (a = k ∧ b = j ∧ c = f)) : (pm_setI w k j f x).1 a b c = w.1 a b c := by
  simp only [pm_setI]; rw [if_neg h]
theorem setI_2 {w : pm_W} {k j f : Nat} {x : Int32} : (pm_setI w k j f x).2 = w.2 := rfl
theorem cPut_ne {w : pm_W} {i a b c : Nat} {S : St} (h : ¬ ((a = 7 ∨ a = 8) ∧ b = i)) : (cPut w i S).1 a b c = w.1 a b c := by
  simp only [cPut]
  rw [if_neg (by omega), if_neg (by omega)]
theorem mPut_ne {w : pm_W} {v a b c : Nat} {S : St} (h : ¬ (a = 23 ∧ 9 * v ≤ c ∧ c < 9 * v + 9)) : (mPut w v S).1 a b c = w.1 a b c := by
  unfold mPut rowP
  by_cases h1 : a = 23 ∧ b = 0
  · simp only
    rw [if_pos h1, if_neg (by omega), h1.1, h1.2]
  · simp only
    rw [if_neg h1]
theorem Fr_cPut {w : pm_W} {i : Nat} {S : St} (h : 17 ≤ i) : Fr w (cPut w i S) := ⟨fun a b c s => cPut_ne (by unfold sFr at s; omega), rfl⟩
theorem Fr_mPut {w : pm_W} {S : St} : Fr w (mPut w 1 S) := ⟨fun a b c s => mPut_ne (by unfold sFr at s; omega), rfl⟩
