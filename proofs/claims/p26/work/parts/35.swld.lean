/-! ===== the law's own world (roles 50 .. 57, frames 200 .., orders 220 ..), and what it kept of the frames (60, 240 ..) ===== -/
abbrev lfO (φ : Nat → Int32) : va_E := .inr (6, [.int (φ 0), .int (φ 1), .int (φ 2), .int (φ 3), .int (φ 4), .int (φ 5), .int (φ 6)])
theorem lfO_congr {φ ψ : Nat → Int32} (h : ∀ i, i < 7 → φ i = ψ i) : lfO φ = lfO ψ := by
  simp only [lfO]
  rw [h 0 (by decide), h 1 (by decide), h 2 (by decide), h 3 (by decide), h 4 (by decide), h 5 (by decide), h 6 (by decide)]
abbrev sO (ad : Nat → Nat) (g : Nat → Int32) (w : Int32) : va_E := .inr (7, [.int (g 0), .int (g 1), .int (g 2), .ref (ad 51), .ref (ad 52), .ref (ad 57), .int (g 3), .int (g 4), .int w])
abbrev rfA (G : mG) (k n : Nat) (f : Nat → Option Nat) : va_E := .inl (G.2 k, n, .inr (.inr (.inr (.inr f))))
def rowF (f : Nat → Int32) (k : Nat) : Nat → Int32 := fun j => if 1 ≤ j ∧ j ≤ 9 then f (9 * k + j - 1) else 0
def sX (G : mG) (ad : Nat → Nat) (g : Nat → Int32) (nf : Nat) (f : Nat → Int32) (no : Nat) (w : Int32) (r : Nat) : va_E :=
  match r with
  | 0 => sO ad g w
  | 1 => rfA G 2 nf (adF ad 200 nf)
  | 2 => rfA G 1 4 (adF ad 53 4)
  | 3 => .inl (G.2 0, 10, .inl (rowF f 0))
  | 4 => .inl (G.2 0, 10, .inl (rowF f 1))
  | 5 => .inl (G.2 0, 10, .inl (rowF f 2))
  | 6 => .inl (G.2 0, 10, .inl (rowF f 3))
  | _ => rfA G 1 no (adF ad 220 no)
def WS (G : mG) (ad : Nat → Nat) (g : Nat → Int32) (nf : Nat) (F : Nat → Nat → Int32) (f : Nat → Int32) (no : Nat) (O : Nat → Nat → Int32) (w : Int32) (R : mM) : mM := fun r =>
  if 50 ≤ r ∧ r < 58 then some (sX G ad g nf f no w (r - 50)) else if 200 ≤ r ∧ r < 212 then (if r < 200 + nf then some (lfO (F (r - 200))) else none)
  else if 220 ≤ r ∧ r < 240 then (if r < 220 + no then some (.inl (G.2 0, 5, .inl (O (r - 220)))) else none) else R r
def WW (G : mG) (ad : Nat → Nat) (n : Nat) (A : Nat → Nat → Int32) (R : mM) : mM := fun r =>
  if r = 60 then some (rfA G 1 n (adF ad 240 n)) else if 240 ≤ r ∧ r < 240 + n then some (.inl (G.2 0, 8, .inl (A (r - 240)))) else R r
section WSs
variable {G : mG} {ad ad1 : Nat → Nat} {g g' : Nat → Int32} {nf no : Nat} {F O : Nat → Nat → Int32} {f tf tv fw x : Nat → Int32} {R : mM} {i k z : Nat} {w w' v : Int32} {e : va_E} {X : Option va_E}
theorem WS_F (hi : i < nf) (hn : nf ≤ 12) : WS G ad g nf F f no O w R (200 + i) = some (lfO (F i)) := by
  unfold WS
  rw [if_neg (by omega), if_pos (by omega), if_pos (by omega), Nat.add_sub_cancel_left]
theorem WS_O (hi : i < no) (hn : no ≤ 20) : WS G ad g nf F f no O w R (220 + i) = some (.inl (G.2 0, 5, .inl (O i))) := by
  unfold WS
  rw [if_neg (by omega), if_neg (by omega), if_pos (by omega), if_pos (by omega), Nat.add_sub_cancel_left]
theorem WS_S (hk : k < 4) : WS G ad g nf F f no O w R (53 + k) = some (.inl (G.2 0, 10, .inl (rowF f k))) := by
  rcases (show k = 0 ∨ k = 1 ∨ k = 2 ∨ k = 3 by omega) with rfl | rfl | rfl | rfl <;> rfl
theorem WS_Fn (h1 : nf ≤ i) (h2 : i < 12) : WS G ad g nf F f no O w R (200 + i) = none := by
  unfold WS
  rw [if_neg (by omega), if_pos (by omega), if_neg (by omega)]
theorem WS_On (h1 : no ≤ i) (h2 : i < 20) : WS G ad g nf F f no O w R (220 + i) = none := by
  unfold WS
  rw [if_neg (by omega), if_neg (by omega), if_pos (by omega), if_neg (by omega)]
abbrev outS (k : Nat) : Prop := k < 50 ∨ (58 ≤ k ∧ k < 200) ∨ (212 ≤ k ∧ k < 220) ∨ 240 ≤ k
theorem WS_at (hk : outS k) (h : R k = X) : WS G ad g nf F f no O w R k = X := by
  unfold WS
  rw [if_neg (by omega), if_neg (by omega), if_neg (by omega)]; exact h
theorem WS_b (hk : outS k) : mU (WS G ad g nf F f no O w R) k e = WS G ad g nf F f no O w (mU R k e) := by
  funext r
  by_cases hr : r = k
  · subst hr; rw [mU_self, WS_at hk mU_self]
  · rw [mU_ne hr]
    unfold WS
    rw [mU_ne hr]
theorem WC_b2 (hk : 10 ≤ k ∧ (k < 100 ∨ 140 ≤ k)) : mU (WC G ad g nf F f no O tf tv fw R) k e = WC G ad g nf F f no O tf tv fw (mU R k e) := by
  funext r
  by_cases hr : r = k
  · subst hr; rw [mU_self]; unfold WC; rw [if_neg (by omega), if_neg (by omega), if_neg (by omega), mU_self]
  · rw [mU_ne hr]
    unfold WC
    rw [mU_ne hr]
theorem WC_at2 (hk : 10 ≤ k ∧ (k < 100 ∨ 140 ≤ k)) (h : R k = X) : WC G ad g nf F f no O tf tv fw R k = X := by
  unfold WC; rw [if_neg (by omega), if_neg (by omega), if_neg (by omega)]; exact h
theorem WS_c {c : Nat → va_E} {j : Nat} (hj : j < 8) (h : ∀ r, r < 8 → r ≠ j → c r = sX G ad g nf f no w r) (he : c j = e) :
    mU (WS G ad g nf F f no O w R) (50 + j) e = fun r => if 50 ≤ r ∧ r < 58 then some (c (r - 50)) else WS G ad g nf F f no O w R r := by
  funext r
  by_cases hr : r = 50 + j
  · subst hr; rw [mU_self, if_pos (by omega), Nat.add_sub_cancel_left, he]
  · rw [mU_ne hr]
    by_cases h10 : 50 ≤ r ∧ r < 58
    · rw [if_pos h10, h (r - 50) (by omega) (by omega)]
      simp [WS, h10]
    · rw [if_neg h10]
theorem WS_if {g1 f1 : Nat → Int32} {w1 : Int32} : (fun r => if 50 ≤ r ∧ r < 58 then some (sX G ad g1 nf f1 no w1 (r - 50)) else WS G ad g nf F f no O w R r) = WS G ad g1 nf F f1 no O w1 R := by
  funext r
  by_cases h10 : 50 ≤ r ∧ r < 58
  · simp [WS, h10]
  · simp [WS, h10]
theorem co_8 {P : Nat → Prop} (h0 : P 0) (h1 : P 1) (h2 : P 2) (h3 : P 3) (h4 : P 4) (h5 : P 5) (h6 : P 6) (h7 : P 7) : ∀ r, r < 8 → P r := by
  intro r hr
  match r, hr with
  | 0, _ => exact h0
  | 1, _ => exact h1
  | 2, _ => exact h2
  | 3, _ => exact h3
  | 4, _ => exact h4
  | 5, _ => exact h5
  | 6, _ => exact h6
  | 7, _ => exact h7
  | n + 8, h => omega
theorem WS_w0 : mU (WS G ad g nf F f no O w R) 50 (sO ad g' w') = WS G ad g' nf F f no O w' R := by
  rw [← WS_if (g := g) (g1 := g') (f := f) (w := w) (w1 := w')]
  exact WS_c (j := 0) (by decide) (co_8 (fun h => absurd rfl h) (fun _ => rfl) (fun _ => rfl) (fun _ => rfl) (fun _ => rfl) (fun _ => rfl) (fun _ => rfl) (fun _ => rfl)) rfl
theorem rowF_at (h : 1 ≤ z) (h9 : z ≤ 9) : rowF f k z = f (9 * k + z - 1) := by
  unfold rowF; rw [if_pos ⟨h, h9⟩]
theorem rowF_wr (hz : 1 ≤ z) (h9 : z ≤ 9) : upd (rowF f k) z v = rowF (upd f (9 * k + z - 1) v) k := by
  funext j
  show (if j = z then v else if 1 ≤ j ∧ j ≤ 9 then f (9 * k + j - 1) else (0 : Int32)) = if 1 ≤ j ∧ j ≤ 9 then (if 9 * k + j - 1 = 9 * k + z - 1 then v else f (9 * k + j - 1)) else (0 : Int32)
  by_cases h : j = z
  · rw [if_pos h, if_pos (by omega), if_pos (by omega)]
  · rw [if_neg h]
    by_cases h0 : 1 ≤ j ∧ j ≤ 9
    · rw [if_pos h0, if_pos h0, if_neg (by omega)]
    · rw [if_neg h0, if_neg h0]
theorem rowF_no {k9 : Nat} (hz : 1 ≤ z) (h9 : z ≤ 9) (hk : k9 ≠ k) : rowF (upd f (9 * k + z - 1) v) k9 = rowF f k9 := by
  funext j
  show (if 1 ≤ j ∧ j ≤ 9 then (if 9 * k9 + j - 1 = 9 * k + z - 1 then v else f (9 * k9 + j - 1)) else (0 : Int32)) = if 1 ≤ j ∧ j ≤ 9 then f (9 * k9 + j - 1) else 0
  by_cases h0 : 1 ≤ j ∧ j ≤ 9
  · rw [if_pos h0, if_pos h0, if_neg (by omega)]
  · rw [if_neg h0, if_neg h0]
theorem sX_row {k9 : Nat} (hk : k9 < 4) : sX G ad g nf f no w (3 + k9) = .inl (G.2 0, 10, .inl (rowF f k9)) := by
  rcases (show k9 = 0 ∨ k9 = 1 ∨ k9 = 2 ∨ k9 = 3 by omega) with rfl | rfl | rfl | rfl <;> rfl
theorem WS_wS (hk : k < 4) (hz : 1 ≤ z) (h9 : z ≤ 9) : mU (WS G ad g nf F f no O w R) (53 + k) (.inl (G.2 0, 10, .inl (upd (rowF f k) z v))) = WS G ad g nf F (upd f (9 * k + z - 1) v) no O w R := by
  rw [← WS_if (g := g) (g1 := g) (f := f) (f1 := upd f (9 * k + z - 1) v) (w := w) (w1 := w), rowF_wr hz h9, show 53 + k = 50 + (3 + k) by omega]
  refine WS_c (j := 3 + k) (c := sX G ad g nf (upd f (9 * k + z - 1) v) no w) (by omega) (fun r hr hne => ?_) (sX_row hk)
  by_cases h3 : 3 ≤ r ∧ r < 7
  · obtain ⟨k9, rfl⟩ : ∃ k9, r = 3 + k9 := ⟨r - 3, by omega⟩
    rw [sX_row (by omega), sX_row (by omega), rowF_no hz h9 (by omega)]
  · rcases (show r = 0 ∨ r = 1 ∨ r = 2 ∨ r = 7 by omega) with rfl | rfl | rfl | rfl <;> rfl
theorem WS_wF (hi : i < nf) (hn : nf ≤ 12) : mU (WS G ad g nf F f no O w R) (200 + i) (lfO x) = WS G ad g nf (va_up F i x) f no O w R := by
  funext r
  by_cases hr : r = 200 + i
  · subst hr
    rw [mU_self, WS_F hi hn]
    simp [va_up]
  · rw [mU_ne hr]
    unfold WS
    by_cases h1 : 50 ≤ r ∧ r < 58
    · simp [h1]
    · by_cases h2 : 200 ≤ r ∧ r < 212
      · have h3 : ¬ r - 200 = i := by omega
        simp [h1, h2, va_up, h3]
      · simp [h1, h2]
theorem WS_wO (hi : i < no) (hn : no ≤ 20) : mU (WS G ad g nf F f no O w R) (220 + i) (.inl (G.2 0, 5, .inl x)) = WS G ad g nf F f no (va_up O i x) w R := by
  funext r
  by_cases hr : r = 220 + i
  · subst hr
    rw [mU_self, WS_O hi hn]
    simp [va_up]
  · rw [mU_ne hr]
    unfold WS
    by_cases h1 : 50 ≤ r ∧ r < 58
    · simp [h1]
    · by_cases h2 : 200 ≤ r ∧ r < 212
      · simp [h1, h2]
      · by_cases h4 : 220 ≤ r ∧ r < 240
        · have h3 : ¬ r - 220 = i := by omega
          simp [h1, h2, h4, va_up, h3]
        · simp [h1, h2, h4]
theorem WC_WS {g2 : Nat → Int32} {nf2 no2 : Nat} {F2 O2 : Nat → Nat → Int32} {f2 : Nat → Int32} :
    WC G ad g nf F f no O tf tv fw (WS G ad g2 nf2 F2 f2 no2 O2 w R) = WS G ad g2 nf2 F2 f2 no2 O2 w (WC G ad g nf F f no O tf tv fw R) := by
  funext r
  by_cases h1 : outS r
  · rw [WS_at h1 rfl]
    unfold WC
    rw [WS_at h1 rfl]
  · rw [WC_at2 (by omega) rfl]
    unfold WS
    by_cases h2 : 50 ≤ r ∧ r < 58
    · rw [if_pos h2, if_pos h2]
    · by_cases h3 : 200 ≤ r ∧ r < 212
      · rw [if_neg h2, if_neg h2, if_pos h3, if_pos h3]
      · have h4 : 220 ≤ r ∧ r < 240 := by omega
        rw [if_neg h2, if_neg h2, if_neg h3, if_neg h3, if_pos h4, if_pos h4]
theorem WS_ad (h : ∀ x, (50 ≤ x ∧ x < 58) ∨ (200 ≤ x ∧ x < 200 + nf) ∨ (220 ≤ x ∧ x < 220 + no) → ad x = ad1 x) :
    WS G ad g nf F f no O w R = WS G ad1 g nf F f no O w R := by
  funext r
  unfold WS
  by_cases h2 : 50 ≤ r ∧ r < 58
  · rw [if_pos h2, if_pos h2]
    rcases (show r = 50 ∨ r = 51 ∨ r = 52 ∨ r = 53 ∨ r = 54 ∨ r = 55 ∨ r = 56 ∨ r = 57 by omega) with rfl | rfl | rfl | rfl | rfl | rfl | rfl | rfl
    · show some (sO ad g w) = some (sO ad1 g w)
      rw [sO, sO, h 51 (by omega), h 52 (by omega), h 57 (by omega)]
    · show some (rfA G 2 nf (adF ad 200 nf)) = some (rfA G 2 nf (adF ad1 200 nf))
      rw [adF_ad (ad := ad) (ad1 := ad1) (fun x hx => h x (by omega))]
    · show some (rfA G 1 4 (adF ad 53 4)) = some (rfA G 1 4 (adF ad1 53 4))
      rw [adF_ad (ad := ad) (ad1 := ad1) (fun x hx => h x (by omega))]
    · rfl
    · rfl
    · rfl
    · rfl
    · show some (rfA G 1 no (adF ad 220 no)) = some (rfA G 1 no (adF ad1 220 no))
      rw [adF_ad (ad := ad) (ad1 := ad1) (fun x hx => h x (by omega))]
  · rw [if_neg h2, if_neg h2]
theorem WW_at {n : Nat} {A : Nat → Nat → Int32} (hk : k ≠ 60 ∧ (k < 240 ∨ 240 + n ≤ k)) (h : R k = X) : WW G ad n A R k = X := by
  unfold WW; rw [if_neg hk.1, if_neg (by omega)]; exact h
theorem WW_r {n : Nat} {A : Nat → Nat → Int32} (hi : i < n) : WW G ad n A R (240 + i) = some (.inl (G.2 0, 8, .inl (A i))) := by
  unfold WW; rw [if_neg (by omega), if_pos (by omega), Nat.add_sub_cancel_left]
theorem WW_w {n : Nat} {A : Nat → Nat → Int32} (hi : i < n) : mU (WW G ad n A R) (240 + i) (.inl (G.2 0, 8, .inl x)) = WW G ad n (va_up A i x) R := by
  funext r
  by_cases hr : r = 240 + i
  · subst hr; rw [mU_self, WW_r hi]; simp [va_up]
  · rw [mU_ne hr]
    unfold WW
    by_cases h1 : r = 60
    · simp [h1]
    · by_cases h2 : 240 ≤ r ∧ r < 240 + n
      · have h3 : ¬ r - 240 = i := by omega
        simp [h1, h2, va_up, h3]
      · simp [h1, h2]
end WSs
