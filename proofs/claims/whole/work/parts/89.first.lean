/-! ===== the first world ===== -/
def w0t : List (Nat → Int32) := [fun _ => 0, fun _ => 0, fun _ => 0, fun n => pm_nth 0 [0, 0, 0, 0, 1, 1] n, fun _ => 0, fun _ => 0, fun _ => 0, fun n => pm_nth 0 [0, 1, 0, 1, 0] n, fun _ => 0, fun _ => 0, fun _ => 0, fun _ => 0, fun _ => 0, fun _ => 0, fun _ => 0, fun _ => 0, fun _ => 0, fun _ => 0, fun _ => 0, fun n => pm_nth 0 [0, 1, 1] n, fun _ => 0, fun _ => 0, fun _ => 0, upd (upd (fun _ => 0) 5 1) 7 1]
def w0 : pm_W := (fun k _ n => pm_nth (fun _ => 0) w0t k n, (fun _ => 0, fun n => n + 1))
def adS (v : Nat → Nat → Nat) (j : Nat) : Nat := if j = 0 then v 0 2 else if j < 15 then v 4 (2 * (j - 1) + 1) else if j < 17 then v 8 (j - 15) else v 6 (2 * (j - 17) + 1)
def adL (v : Nat → Nat → Nat) (j : Nat) : Nat := if j = 0 then v 3 0 else if j < 15 then v 4 (2 * (j - 1) + 2) else if j < 17 then v 9 (j - 15) else v 6 (2 * (j - 17) + 2)
def adF (b x y : Nat) (G : Nat → Nat) (v : Nat → Nat → Nat) (u : Nat → Nat) : Nat → Nat → Nat := fun k j => match k with
  | 0 => x
  | 1 => v 0 0
  | 2 => v 1 0
  | 3 => v 0 1
  | 4 => v 2 0
  | 5 => v 2 1
  | 6 => v 2 2
  | 7 => adS v j
  | 8 => adL v j
  | 9 => v 0 3
  | 10 => v 4 0
  | 11 => v 0 4
  | 12 => v 0 5
  | 13 => v 0 6
  | 14 => v 5 0
  | 15 => v 5 1
  | 16 => v 0 7
  | 17 => v 6 0
  | 18 => v 0 8
  | 19 => y
  | k => if k < 36 then u (k - 20) else if k < 39 then G (k - 36) else b
abbrev ws0 (cs : pm_Cs) (x y : Nat) (v : Nat → Nat → Nat) (u : Nat → Nat) : va_W := pw_X8_init cs y u ++ (pw_X7_init cs x v ++ [])
theorem at_cg {D : va_G} {cl : List vw_C} {a N : Nat} {c : ClassId} {f g : Nat → Option Nat} {H : Heap} (h : va_at D cl (a, .inl (c, N, .inr (.inr (.inr (.inr f))))) H) (e : ∀ n, n < N → f n = g n) : va_at D cl (a, .inl (c, N, .inr (.inr (.inr (.inr g))))) H := by
  have h : H[a]? = some (vp_cell c (N, .inr (.inr (.inr (.inr f))))) := h
  show H[a]? = some (vp_cell c (N, .inr (.inr (.inr (.inr g)))))
  rw [h, vp_cell_q, vp_cell_q]
  unfold arrV
  have : (fun j : Fin N => va_rf (f j.val)) = fun j : Fin N => va_rf (g j.val) := funext fun j => by rw [e j.val j.isLt]
  rw [this]
section W0
variable {D : va_G} {cs : pm_Cs} {b x y : Nat} {G : Nat → Nat} {v : Nat → Nat → Nat} {u : Nat → Nat} {H : Heap}
set_option maxRecDepth 100000 in
set_option maxHeartbeats 4000000 in
theorem w0_at7 (hP : va_P D vwCl (ws0 cs x y v u) H) : ∀ j, j < 23 → va_at D vwCl (adF b x y G v u 7 j, pm_cell (adF b x y G v u) cs w0 7 j) H
  | 0, _ => hP 72 _ rfl
  | 1, _ => hP 70 _ rfl
  | 2, _ => hP 68 _ rfl
  | 3, _ => hP 66 _ rfl
  | 4, _ => hP 64 _ rfl
  | 5, _ => hP 62 _ rfl
  | 6, _ => hP 60 _ rfl
  | 7, _ => hP 58 _ rfl
  | 8, _ => hP 56 _ rfl
  | 9, _ => hP 54 _ rfl
  | 10, _ => hP 52 _ rfl
  | 11, _ => hP 50 _ rfl
  | 12, _ => hP 48 _ rfl
  | 13, _ => hP 46 _ rfl
  | 14, _ => hP 44 _ rfl
  | 15, _ => hP 40 _ rfl
  | 16, _ => hP 38 _ rfl
  | 17, _ => hP 31 _ rfl
  | 18, _ => hP 29 _ rfl
  | 19, _ => hP 27 _ rfl
  | 20, _ => hP 25 _ rfl
  | 21, _ => hP 23 _ rfl
  | 22, _ => hP 21 _ rfl
  | j + 23, h => absurd h (by omega)
set_option maxRecDepth 100000 in
set_option maxHeartbeats 4000000 in
theorem w0_at8 (hP : va_P D vwCl (ws0 cs x y v u) H) : ∀ j, j < 23 → va_at D vwCl (adF b x y G v u 8 j, pm_cell (adF b x y G v u) cs w0 8 j) H
  | 0, _ => hP 73 _ rfl
  | 1, _ => hP 71 _ rfl
  | 2, _ => hP 69 _ rfl
  | 3, _ => hP 67 _ rfl
  | 4, _ => hP 65 _ rfl
  | 5, _ => hP 63 _ rfl
  | 6, _ => hP 61 _ rfl
  | 7, _ => hP 59 _ rfl
  | 8, _ => hP 57 _ rfl
  | 9, _ => hP 55 _ rfl
  | 10, _ => hP 53 _ rfl
  | 11, _ => hP 51 _ rfl
  | 12, _ => hP 49 _ rfl
  | 13, _ => hP 47 _ rfl
  | 14, _ => hP 45 _ rfl
  | 15, _ => hP 41 _ rfl
  | 16, _ => hP 39 _ rfl
  | 17, _ => hP 32 _ rfl
  | 18, _ => hP 30 _ rfl
  | 19, _ => hP 28 _ rfl
  | 20, _ => hP 26 _ rfl
  | 21, _ => hP 24 _ rfl
  | 22, _ => hP 22 _ rfl
  | j + 23, h => absurd h (by omega)
set_option maxRecDepth 100000 in
set_option maxHeartbeats 4000000 in
theorem w0_at0 (hP : va_P D vwCl (ws0 cs x y v u) H) : va_at D vwCl (adF b x y G v u 0 0, pm_cell (adF b x y G v u) cs w0 0 0) H := hP 17 _ rfl
set_option maxRecDepth 100000 in
set_option maxHeartbeats 4000000 in
theorem w0_at1 (hP : va_P D vwCl (ws0 cs x y v u) H) : va_at D vwCl (adF b x y G v u 1 0, pm_cell (adF b x y G v u) cs w0 1 0) H := hP 78 _ rfl
set_option maxRecDepth 100000 in
set_option maxHeartbeats 4000000 in
theorem w0_at2 (hP : va_P D vwCl (ws0 cs x y v u) H) : va_at D vwCl (adF b x y G v u 2 0, pm_cell (adF b x y G v u) cs w0 2 0) H := hP 79 _ rfl
set_option maxRecDepth 100000 in
set_option maxHeartbeats 4000000 in
theorem w0_at3 (hP : va_P D vwCl (ws0 cs x y v u) H) : va_at D vwCl (adF b x y G v u 3 0, pm_cell (adF b x y G v u) cs w0 3 0) H := hP 74 _ rfl
set_option maxRecDepth 100000 in
set_option maxHeartbeats 4000000 in
theorem w0_at4 (hP : va_P D vwCl (ws0 cs x y v u) H) : va_at D vwCl (adF b x y G v u 4 0, pm_cell (adF b x y G v u) cs w0 4 0) H := hP 77 _ rfl
set_option maxRecDepth 100000 in
set_option maxHeartbeats 4000000 in
theorem w0_at5 (hP : va_P D vwCl (ws0 cs x y v u) H) : va_at D vwCl (adF b x y G v u 5 0, pm_cell (adF b x y G v u) cs w0 5 0) H := hP 76 _ rfl
set_option maxRecDepth 100000 in
set_option maxHeartbeats 4000000 in
theorem w0_at6 (hP : va_P D vwCl (ws0 cs x y v u) H) : va_at D vwCl (adF b x y G v u 6 0, pm_cell (adF b x y G v u) cs w0 6 0) H := hP 75 _ rfl
set_option maxRecDepth 100000 in
set_option maxHeartbeats 4000000 in
theorem w0_at9 (hP : va_P D vwCl (ws0 cs x y v u) H) : va_at D vwCl (adF b x y G v u 9 0, pm_cell (adF b x y G v u) cs w0 9 0) H := hP 42 _ rfl
set_option maxRecDepth 100000 in
set_option maxHeartbeats 4000000 in
theorem w0_at10 (hP : va_P D vwCl (ws0 cs x y v u) H) : va_at D vwCl (adF b x y G v u 10 0, pm_cell (adF b x y G v u) cs w0 10 0) H := at_cg (N := 14) (f := fS (fun j => v 4 (2 * j + 1)) 14) (hP 43 _ rfl) (fun n hn => by rw [show fS (fun j => v 4 (2 * j + 1)) 14 n = some (v 4 (2 * n + 1)) from if_pos hn]; show _ = some (adS v (n + 1)); unfold adS; rw [if_neg (by omega), if_pos (by omega), show n + 1 - 1 = n by omega])
set_option maxRecDepth 100000 in
set_option maxHeartbeats 4000000 in
theorem w0_at11 (hP : va_P D vwCl (ws0 cs x y v u) H) : va_at D vwCl (adF b x y G v u 11 0, pm_cell (adF b x y G v u) cs w0 11 0) H := at_cg (N := 2) (f := fS (v 8) 2) (hP 37 _ rfl) (fun n hn => by rw [show fS (v 8) 2 n = some (v 8 n) from if_pos hn]; show _ = some (adS v (15 + n)); unfold adS; rw [if_neg (by omega), if_neg (by omega), if_pos (by omega), show 15 + n - 15 = n by omega])
set_option maxRecDepth 100000 in
set_option maxHeartbeats 4000000 in
theorem w0_at12 (hP : va_P D vwCl (ws0 cs x y v u) H) : va_at D vwCl (adF b x y G v u 12 0, pm_cell (adF b x y G v u) cs w0 12 0) H := hP 36 _ rfl
set_option maxRecDepth 100000 in
set_option maxHeartbeats 4000000 in
theorem w0_at13 (hP : va_P D vwCl (ws0 cs x y v u) H) : va_at D vwCl (adF b x y G v u 13 0, pm_cell (adF b x y G v u) cs w0 13 0) H := hP 33 _ rfl
set_option maxRecDepth 100000 in
set_option maxHeartbeats 4000000 in
theorem w0_at14 (hP : va_P D vwCl (ws0 cs x y v u) H) : va_at D vwCl (adF b x y G v u 14 0, pm_cell (adF b x y G v u) cs w0 14 0) H := hP 35 _ rfl
set_option maxRecDepth 100000 in
set_option maxHeartbeats 4000000 in
theorem w0_at15 (hP : va_P D vwCl (ws0 cs x y v u) H) : va_at D vwCl (adF b x y G v u 15 0, pm_cell (adF b x y G v u) cs w0 15 0) H := hP 34 _ rfl
set_option maxRecDepth 100000 in
set_option maxHeartbeats 4000000 in
theorem w0_at16 (hP : va_P D vwCl (ws0 cs x y v u) H) : va_at D vwCl (adF b x y G v u 16 0, pm_cell (adF b x y G v u) cs w0 16 0) H := hP 19 _ rfl
set_option maxRecDepth 100000 in
set_option maxHeartbeats 4000000 in
theorem w0_at17 (hP : va_P D vwCl (ws0 cs x y v u) H) : va_at D vwCl (adF b x y G v u 17 0, pm_cell (adF b x y G v u) cs w0 17 0) H := at_cg (N := 6) (f := fS (fun j => v 6 (2 * j + 1)) 6) (hP 20 _ rfl) (fun n hn => by rw [show fS (fun j => v 6 (2 * j + 1)) 6 n = some (v 6 (2 * n + 1)) from if_pos hn]; show _ = some (adS v (17 + n)); unfold adS; rw [if_neg (by omega), if_neg (by omega), if_neg (by omega), show 17 + n - 17 = n by omega])
set_option maxRecDepth 100000 in
set_option maxHeartbeats 4000000 in
theorem w0_at18 (hP : va_P D vwCl (ws0 cs x y v u) H) : va_at D vwCl (adF b x y G v u 18 0, pm_cell (adF b x y G v u) cs w0 18 0) H := hP 18 _ rfl
set_option maxRecDepth 100000 in
set_option maxHeartbeats 4000000 in
theorem w0_at19 (hP : va_P D vwCl (ws0 cs x y v u) H) : va_at D vwCl (adF b x y G v u 19 0, pm_cell (adF b x y G v u) cs w0 19 0) H := hP 0 _ rfl
set_option maxRecDepth 100000 in
set_option maxHeartbeats 4000000 in
theorem w0_at20 (hP : va_P D vwCl (ws0 cs x y v u) H) : va_at D vwCl (adF b x y G v u 20 0, pm_cell (adF b x y G v u) cs w0 20 0) H := hP 16 _ rfl
set_option maxRecDepth 100000 in
set_option maxHeartbeats 4000000 in
theorem w0_at21 (hP : va_P D vwCl (ws0 cs x y v u) H) : va_at D vwCl (adF b x y G v u 21 0, pm_cell (adF b x y G v u) cs w0 21 0) H := hP 15 _ rfl
set_option maxRecDepth 100000 in
set_option maxHeartbeats 4000000 in
theorem w0_at22 (hP : va_P D vwCl (ws0 cs x y v u) H) : va_at D vwCl (adF b x y G v u 22 0, pm_cell (adF b x y G v u) cs w0 22 0) H := hP 14 _ rfl
set_option maxRecDepth 100000 in
set_option maxHeartbeats 4000000 in
theorem w0_at23 (hP : va_P D vwCl (ws0 cs x y v u) H) : va_at D vwCl (adF b x y G v u 23 0, pm_cell (adF b x y G v u) cs w0 23 0) H := hP 13 _ rfl
set_option maxRecDepth 100000 in
set_option maxHeartbeats 4000000 in
theorem w0_at24 (hP : va_P D vwCl (ws0 cs x y v u) H) : va_at D vwCl (adF b x y G v u 24 0, pm_cell (adF b x y G v u) cs w0 24 0) H := hP 12 _ rfl
set_option maxRecDepth 100000 in
set_option maxHeartbeats 4000000 in
theorem w0_at25 (hP : va_P D vwCl (ws0 cs x y v u) H) : va_at D vwCl (adF b x y G v u 25 0, pm_cell (adF b x y G v u) cs w0 25 0) H := hP 11 _ rfl
set_option maxRecDepth 100000 in
set_option maxHeartbeats 4000000 in
theorem w0_at26 (hP : va_P D vwCl (ws0 cs x y v u) H) : va_at D vwCl (adF b x y G v u 26 0, pm_cell (adF b x y G v u) cs w0 26 0) H := hP 10 _ rfl
set_option maxRecDepth 100000 in
set_option maxHeartbeats 4000000 in
theorem w0_at27 (hP : va_P D vwCl (ws0 cs x y v u) H) : va_at D vwCl (adF b x y G v u 27 0, pm_cell (adF b x y G v u) cs w0 27 0) H := hP 9 _ rfl
set_option maxRecDepth 100000 in
set_option maxHeartbeats 4000000 in
theorem w0_at28 (hP : va_P D vwCl (ws0 cs x y v u) H) : va_at D vwCl (adF b x y G v u 28 0, pm_cell (adF b x y G v u) cs w0 28 0) H := hP 8 _ rfl
set_option maxRecDepth 100000 in
set_option maxHeartbeats 4000000 in
theorem w0_at29 (hP : va_P D vwCl (ws0 cs x y v u) H) : va_at D vwCl (adF b x y G v u 29 0, pm_cell (adF b x y G v u) cs w0 29 0) H := hP 7 _ rfl
set_option maxRecDepth 100000 in
set_option maxHeartbeats 4000000 in
theorem w0_at30 (hP : va_P D vwCl (ws0 cs x y v u) H) : va_at D vwCl (adF b x y G v u 30 0, pm_cell (adF b x y G v u) cs w0 30 0) H := hP 6 _ rfl
set_option maxRecDepth 100000 in
set_option maxHeartbeats 4000000 in
theorem w0_at31 (hP : va_P D vwCl (ws0 cs x y v u) H) : va_at D vwCl (adF b x y G v u 31 0, pm_cell (adF b x y G v u) cs w0 31 0) H := hP 5 _ rfl
set_option maxRecDepth 100000 in
set_option maxHeartbeats 4000000 in
theorem w0_at32 (hP : va_P D vwCl (ws0 cs x y v u) H) : va_at D vwCl (adF b x y G v u 32 0, pm_cell (adF b x y G v u) cs w0 32 0) H := hP 4 _ rfl
set_option maxRecDepth 100000 in
set_option maxHeartbeats 4000000 in
theorem w0_at33 (hP : va_P D vwCl (ws0 cs x y v u) H) : va_at D vwCl (adF b x y G v u 33 0, pm_cell (adF b x y G v u) cs w0 33 0) H := hP 3 _ rfl
set_option maxRecDepth 100000 in
set_option maxHeartbeats 4000000 in
theorem w0_at34 (hP : va_P D vwCl (ws0 cs x y v u) H) : va_at D vwCl (adF b x y G v u 34 0, pm_cell (adF b x y G v u) cs w0 34 0) H := hP 2 _ rfl
set_option maxRecDepth 100000 in
set_option maxHeartbeats 4000000 in
theorem w0_at35 (hP : va_P D vwCl (ws0 cs x y v u) H) : va_at D vwCl (adF b x y G v u 35 0, pm_cell (adF b x y G v u) cs w0 35 0) H := hP 1 _ rfl
theorem w0_all (hP : va_P D vwCl (ws0 cs x y v u) H) : ∀ k j, k < 36 → j < pm_cnt k → va_at D vwCl (adF b x y G v u k j, pm_cell (adF b x y G v u) cs w0 k j) H
  | 0, 0, _, _ => w0_at0 hP
  | 0, j + 1, _, h => absurd (show j + 1 < 1 from h) (by omega)
  | 1, 0, _, _ => w0_at1 hP
  | 1, j + 1, _, h => absurd (show j + 1 < 1 from h) (by omega)
  | 2, 0, _, _ => w0_at2 hP
  | 2, j + 1, _, h => absurd (show j + 1 < 1 from h) (by omega)
  | 3, 0, _, _ => w0_at3 hP
  | 3, j + 1, _, h => absurd (show j + 1 < 1 from h) (by omega)
  | 4, 0, _, _ => w0_at4 hP
  | 4, j + 1, _, h => absurd (show j + 1 < 1 from h) (by omega)
  | 5, 0, _, _ => w0_at5 hP
  | 5, j + 1, _, h => absurd (show j + 1 < 1 from h) (by omega)
  | 6, 0, _, _ => w0_at6 hP
  | 6, j + 1, _, h => absurd (show j + 1 < 1 from h) (by omega)
  | 7, j, _, h => w0_at7 hP j h
  | 8, j, _, h => w0_at8 hP j h
  | 9, 0, _, _ => w0_at9 hP
  | 9, j + 1, _, h => absurd (show j + 1 < 1 from h) (by omega)
  | 10, 0, _, _ => w0_at10 hP
  | 10, j + 1, _, h => absurd (show j + 1 < 1 from h) (by omega)
  | 11, 0, _, _ => w0_at11 hP
  | 11, j + 1, _, h => absurd (show j + 1 < 1 from h) (by omega)
  | 12, 0, _, _ => w0_at12 hP
  | 12, j + 1, _, h => absurd (show j + 1 < 1 from h) (by omega)
  | 13, 0, _, _ => w0_at13 hP
  | 13, j + 1, _, h => absurd (show j + 1 < 1 from h) (by omega)
  | 14, 0, _, _ => w0_at14 hP
  | 14, j + 1, _, h => absurd (show j + 1 < 1 from h) (by omega)
  | 15, 0, _, _ => w0_at15 hP
  | 15, j + 1, _, h => absurd (show j + 1 < 1 from h) (by omega)
  | 16, 0, _, _ => w0_at16 hP
  | 16, j + 1, _, h => absurd (show j + 1 < 1 from h) (by omega)
  | 17, 0, _, _ => w0_at17 hP
  | 17, j + 1, _, h => absurd (show j + 1 < 1 from h) (by omega)
  | 18, 0, _, _ => w0_at18 hP
  | 18, j + 1, _, h => absurd (show j + 1 < 1 from h) (by omega)
  | 19, 0, _, _ => w0_at19 hP
  | 19, j + 1, _, h => absurd (show j + 1 < 1 from h) (by omega)
  | 20, 0, _, _ => w0_at20 hP
  | 20, j + 1, _, h => absurd (show j + 1 < 1 from h) (by omega)
  | 21, 0, _, _ => w0_at21 hP
  | 21, j + 1, _, h => absurd (show j + 1 < 1 from h) (by omega)
  | 22, 0, _, _ => w0_at22 hP
  | 22, j + 1, _, h => absurd (show j + 1 < 1 from h) (by omega)
  | 23, 0, _, _ => w0_at23 hP
  | 23, j + 1, _, h => absurd (show j + 1 < 1 from h) (by omega)
  | 24, 0, _, _ => w0_at24 hP
  | 24, j + 1, _, h => absurd (show j + 1 < 1 from h) (by omega)
  | 25, 0, _, _ => w0_at25 hP
  | 25, j + 1, _, h => absurd (show j + 1 < 1 from h) (by omega)
  | 26, 0, _, _ => w0_at26 hP
  | 26, j + 1, _, h => absurd (show j + 1 < 1 from h) (by omega)
  | 27, 0, _, _ => w0_at27 hP
  | 27, j + 1, _, h => absurd (show j + 1 < 1 from h) (by omega)
  | 28, 0, _, _ => w0_at28 hP
  | 28, j + 1, _, h => absurd (show j + 1 < 1 from h) (by omega)
  | 29, 0, _, _ => w0_at29 hP
  | 29, j + 1, _, h => absurd (show j + 1 < 1 from h) (by omega)
  | 30, 0, _, _ => w0_at30 hP
  | 30, j + 1, _, h => absurd (show j + 1 < 1 from h) (by omega)
  | 31, 0, _, _ => w0_at31 hP
  | 31, j + 1, _, h => absurd (show j + 1 < 1 from h) (by omega)
  | 32, 0, _, _ => w0_at32 hP
  | 32, j + 1, _, h => absurd (show j + 1 < 1 from h) (by omega)
  | 33, 0, _, _ => w0_at33 hP
  | 33, j + 1, _, h => absurd (show j + 1 < 1 from h) (by omega)
  | 34, 0, _, _ => w0_at34 hP
  | 34, j + 1, _, h => absurd (show j + 1 < 1 from h) (by omega)
  | 35, 0, _, _ => w0_at35 hP
  | 35, j + 1, _, h => absurd (show j + 1 < 1 from h) (by omega)
  | k + 36, _, h, _ => absurd h (by omega)
theorem w0_P (hP : va_P D vwCl (ws0 cs x y v u) H) : va_P D vwCl (pm_wl (adF b x y G v u) cs w0) H := by
  refine cP_of (fun z hz => ?_)
  obtain ⟨q, hq, rfl⟩ := List.mem_map.mp hz
  obtain ⟨h1, h2⟩ := (pm_key_iff q.1 q.2).mp hq
  exact w0_all hP q.1 q.2 h1 h2
end W0
def pos0 : List Nat := [17, 78, 79, 74, 77, 76, 75, 72, 70, 68, 66, 64, 62, 60, 58, 56, 54, 52, 50, 48, 46, 44, 40, 38, 31, 29, 27, 25, 23, 21, 73, 71, 69, 67, 65, 63, 61, 59, 57, 55, 53, 51, 49, 47, 45, 41, 39, 32, 30, 28, 26, 24, 22, 42, 43, 37, 36, 33, 35, 34, 19, 20, 18, 0, 16, 15, 14, 13, 12, 11, 10, 9, 8, 7, 6, 5, 4, 3, 2, 1]
theorem pos0_p : pos0.Perm (List.range 80) := by decide +kernel
set_option maxRecDepth 100000 in
set_option maxHeartbeats 4000000 in
theorem w0_r {cs : pm_Cs} {x y : Nat} {v : Nat → Nat → Nat} {u : Nat → Nat} : (ws0 cs x y v u).map Prod.fst = (List.range 80).map (pm_nth 0 ((ws0 cs x y v u).map Prod.fst)) := rfl
set_option maxRecDepth 100000 in
set_option maxHeartbeats 4000000 in
theorem w0_k {cs : pm_Cs} {b x y : Nat} {G : Nat → Nat} {v : Nat → Nat → Nat} {u : Nat → Nat} : pm_keys.map (fun q => adF b x y G v u q.1 q.2) = pos0.map (pm_nth 0 ((ws0 cs x y v u).map Prod.fst)) := rfl
theorem inj_map {α β : Type} {f : α → β} {l : List α} (h : (l.map f).Nodup) {a b : α} (ha : a ∈ l) (hb : b ∈ l) (e : f a = f b) : a = b := by
  obtain ⟨i, hi⟩ := List.getElem?_of_mem ha
  obtain ⟨j, hj⟩ := List.getElem?_of_mem hb
  have e1 : (l.map f)[i]? = some (f a) := by rw [List.getElem?_map, hi]; rfl
  have e2 : (l.map f)[j]? = some (f a) := by rw [List.getElem?_map, hj, e]; rfl
  have hl : i < (l.map f).length := (List.getElem?_eq_some_iff.mp e1).1
  have : i = j := (List.getElem?_inj hl h).mp (e1.trans e2.symm)
  subst this
  exact Option.some.inj (hi.symm.trans hj)
theorem w0_GA {cs : pm_Cs} {b x y sz : Nat} {G : Nat → Nat} {v : Nat → Nat → Nat} {u : Nat → Nat} (hD : va_D (pm_A sz) (ws0 cs x y v u)) : pm_GA (adF b x y G v u) sz := by
  obtain ⟨h1, h2⟩ := cD_nd hD
  have hp : (pm_keys.map (fun q => adF b x y G v u q.1 q.2)).Perm ((ws0 cs x y v u).map Prod.fst) := by
    rw [w0_k (cs := cs), w0_r]
    exact pos0_p.map _
  refine ⟨fun p hp1 q hq e => inj_map (hp.symm.nodup h1) hp1 hq e, fun p hp1 => ?_⟩
  have hm : adF b x y G v u p.1 p.2 ∈ (ws0 cs x y v u).map Prod.fst := hp.mem_iff.mp (List.mem_map.mpr ⟨p, hp1, rfl⟩)
  obtain ⟨z, hz, e⟩ := List.mem_map.mp hm
  rw [← e]
  exact h2 z hz
theorem Rel_w0 : Rel w0 := by
  refine ⟨0, 0, 0, 0, 0, ⟨by omega, rfl, rfl, fun k h => by omega⟩, ⟨by omega, rfl, rfl, rfl, rfl, fun g h => by omega⟩, ⟨fun n hn => ?_, 1, by omega, by omega, rfl, fun j h => by omega, 0, by omega, rfl⟩, ⟨by omega, by omega, rfl, rfl, rfl, fun j h => by omega, fun a b _ _ h => ?_, fun a h => ?_⟩, fun s hs => ⟨rfl, Or.inl rfl⟩, ⟨by omega, rfl, rfl, fun k h => by omega⟩, rfl⟩
  · rcases (show n = 5 ∨ n = 6 ∨ n = 7 ∨ n = 8 by omega) with e | e | e | e <;> subst e <;> rfl
  · have h : a + 1 = b + 1 := h
    omega
  · show 1 ≤ a + 1 ∧ a + 1 ≤ 14
    omega
theorem wok_w0 : pm_wok w0 := fun n h => by
  show n + 1 < 23
  omega
