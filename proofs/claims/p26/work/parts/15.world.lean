/-! ===== the two worlds: the class's (roles 0 .. 9, frames 100 .., orders 120 ..) and the reference's (50 .. 55) ===== -/
abbrev xO (ad : Nat → Nat) (g : Nat → Int32) : va_E := .inr (5, [.ref (ad 1), .ref (ad 2), .ref (ad 3), .ref (ad 5), .ref (ad 6), .ref (ad 9), .int (g 3), .int (g 4), .int (g 5)])
abbrev adF (ad : Nat → Nat) (b n : Nat) : Nat → Option Nat := fun i => if i < n then some (ad (b + i)) else none
abbrev fsA (G : mG) (ad : Nat → Nat) (nf : Nat) : va_E := .inl (G.2 3, 12, .inr (.inr (.inr (.inr (adF ad 100 nf)))))
abbrev osA (G : mG) (ad : Nat → Nat) (no : Nat) : va_E := .inl (G.2 4, 20, .inr (.inr (.inr (.inr (adF ad 120 no)))))
def cX (G : mG) (ad : Nat → Nat) (g : Nat → Int32) (nf : Nat) (f : Nat → Int32) (no : Nat) (tf tv fw : Nat → Int32) (r : Nat) : va_E :=
  match r with
  | 0 => xO ad g
  | 1 => vO g
  | 2 => fsA G ad nf
  | 3 => .inr (2, [.ref (ad 4)])
  | 4 => .inl (G.2 0, 36, .inl f)
  | 5 => osA G ad no
  | 6 => .inr (3, [.ref (ad 7), .ref (ad 8)])
  | 7 => frO tf
  | 8 => vO tv
  | _ => .inl (G.2 0, 21, .inl fw)
def WC (G : mG) (ad : Nat → Nat) (g : Nat → Int32) (nf : Nat) (F : Nat → Nat → Int32) (f : Nat → Int32) (no : Nat) (O : Nat → Nat → Int32) (tf tv fw : Nat → Int32) (R : mM) : mM := fun r =>
  if r < 10 then some (cX G ad g nf f no tf tv fw r) else if 100 ≤ r ∧ r < 112 then (if r < 100 + nf then some (frO (F (r - 100))) else none)
  else if 120 ≤ r ∧ r < 140 then (if r < 120 + no then some (orO (O (r - 120))) else none) else R r
section WCs
variable {G : mG} {ad : Nat → Nat} {g g' : Nat → Int32} {nf no : Nat} {F O : Nat → Nat → Int32} {f tf tv fw x : Nat → Int32} {R : mM} {i : Nat}
theorem WC_F (hi : i < nf) (hn : nf ≤ 12) : WC G ad g nf F f no O tf tv fw R (100 + i) = some (frO (F i)) := by
  unfold WC
  rw [if_neg (by omega), if_pos (by omega), if_pos (by omega), Nat.add_sub_cancel_left]
theorem WC_O (hi : i < no) (hn : no ≤ 20) : WC G ad g nf F f no O tf tv fw R (120 + i) = some (orO (O i)) := by
  unfold WC
  rw [if_neg (by omega), if_neg (by omega), if_pos (by omega), if_pos (by omega), Nat.add_sub_cancel_left]
theorem WC_c {k : Nat} {e : va_E} {c : Nat → va_E} (hk : k < 10) (h : ∀ r, r < 10 → r ≠ k → c r = cX G ad g nf f no tf tv fw r) (he : c k = e) :
    mU (WC G ad g nf F f no O tf tv fw R) k e = fun r => if r < 10 then some (c r) else WC G ad g nf F f no O tf tv fw R r := by
  funext r
  by_cases hr : r = k
  · subst hr; rw [mU_self, if_pos hk, he]
  · rw [mU_ne hr]
    by_cases h10 : r < 10
    · rw [if_pos h10, h r h10 hr]
      simp [WC, h10]
    · rw [if_neg h10]
theorem WC_if {g1 : Nat → Int32} {f1 tf1 tv1 fw1 : Nat → Int32} : (fun r => if r < 10 then some (cX G ad g1 nf f1 no tf1 tv1 fw1 r) else WC G ad g nf F f no O tf tv fw R r) = WC G ad g1 nf F f1 no O tf1 tv1 fw1 R := by
  funext r
  by_cases h10 : r < 10
  · simp [WC, h10]
  · simp [WC, h10]
theorem co_10 {P : Nat → Prop} (h0 : P 0) (h1 : P 1) (h2 : P 2) (h3 : P 3) (h4 : P 4) (h5 : P 5) (h6 : P 6) (h7 : P 7) (h8 : P 8) (h9 : P 9) : ∀ r, r < 10 → P r := by
  intro r hr
  match r, hr with
  | 0, _ => exact h0
  | 1, _ => exact h1
  | 2, _ => exact h2
  | 3, _ => exact h3
  | 4, _ => exact h4
  | 5, _ => exact h5
  | 6, _ => exact h6
  | 7, _ => exact h7
  | 8, _ => exact h8
  | 9, _ => exact h9
  | n + 10, h => omega
theorem WC_w0 (h0 : g' 0 = g 0) (h1 : g' 1 = g 1) (h2 : g' 2 = g 2) : mU (WC G ad g nf F f no O tf tv fw R) 0 (xO ad g') = WC G ad g' nf F f no O tf tv fw R := by
  rw [← WC_if (g := g) (g1 := g') (f := f) (tf := tf) (tv := tv) (fw := fw)]
  exact WC_c (by decide) (co_10 (fun h => absurd rfl h) (fun _ => vO_congr (fun i hi => by rcases (show i = 0 ∨ i = 1 ∨ i = 2 by omega) with rfl | rfl | rfl <;> assumption)) (fun _ => rfl) (fun _ => rfl) (fun _ => rfl) (fun _ => rfl) (fun _ => rfl) (fun _ => rfl) (fun _ => rfl) (fun _ => rfl)) rfl
theorem WC_w1 (h3 : g' 3 = g 3) (h4 : g' 4 = g 4) (h5 : g' 5 = g 5) : mU (WC G ad g nf F f no O tf tv fw R) 1 (vO g') = WC G ad g' nf F f no O tf tv fw R := by
  rw [← WC_if (g := g) (g1 := g') (f := f) (tf := tf) (tv := tv) (fw := fw)]
  exact WC_c (by decide) (co_10 (fun _ => by show xO ad g' = xO ad g; simp only [xO]; rw [h3, h4, h5]) (fun h => absurd rfl h) (fun _ => rfl) (fun _ => rfl) (fun _ => rfl) (fun _ => rfl) (fun _ => rfl) (fun _ => rfl) (fun _ => rfl) (fun _ => rfl)) rfl
theorem WC_w4 : mU (WC G ad g nf F f no O tf tv fw R) 4 (.inl (G.2 0, 36, .inl x)) = WC G ad g nf F x no O tf tv fw R := by
  rw [← WC_if (g := g) (f := f) (f1 := x) (tf := tf) (tv := tv) (fw := fw)]
  exact WC_c (by decide) (co_10 (fun _ => rfl) (fun _ => rfl) (fun _ => rfl) (fun _ => rfl) (fun h => absurd rfl h) (fun _ => rfl) (fun _ => rfl) (fun _ => rfl) (fun _ => rfl) (fun _ => rfl)) rfl
theorem WC_w7 : mU (WC G ad g nf F f no O tf tv fw R) 7 (frO x) = WC G ad g nf F f no O x tv fw R := by
  rw [← WC_if (g := g) (f := f) (tf := tf) (tf1 := x) (tv := tv) (fw := fw)]
  exact WC_c (by decide) (co_10 (fun _ => rfl) (fun _ => rfl) (fun _ => rfl) (fun _ => rfl) (fun _ => rfl) (fun _ => rfl) (fun _ => rfl) (fun h => absurd rfl h) (fun _ => rfl) (fun _ => rfl)) rfl
theorem WC_w8 : mU (WC G ad g nf F f no O tf tv fw R) 8 (vO x) = WC G ad g nf F f no O tf x fw R := by
  rw [← WC_if (g := g) (f := f) (tf := tf) (tv := tv) (tv1 := x) (fw := fw)]
  exact WC_c (by decide) (co_10 (fun _ => rfl) (fun _ => rfl) (fun _ => rfl) (fun _ => rfl) (fun _ => rfl) (fun _ => rfl) (fun _ => rfl) (fun _ => rfl) (fun h => absurd rfl h) (fun _ => rfl)) rfl
theorem WC_w9 : mU (WC G ad g nf F f no O tf tv fw R) 9 (.inl (G.2 0, 21, .inl x)) = WC G ad g nf F f no O tf tv x R := by
  rw [← WC_if (g := g) (f := f) (tf := tf) (tv := tv) (fw := fw) (fw1 := x)]
  exact WC_c (by decide) (co_10 (fun _ => rfl) (fun _ => rfl) (fun _ => rfl) (fun _ => rfl) (fun _ => rfl) (fun _ => rfl) (fun _ => rfl) (fun _ => rfl) (fun _ => rfl) (fun h => absurd rfl h)) rfl
theorem WC_wF (hi : i < nf) (hn : nf ≤ 12) : mU (WC G ad g nf F f no O tf tv fw R) (100 + i) (frO x) = WC G ad g nf (va_up F i x) f no O tf tv fw R := by
  funext r
  by_cases hr : r = 100 + i
  · subst hr
    rw [mU_self, WC_F hi hn]
    simp [va_up]
  · rw [mU_ne hr]
    unfold WC
    by_cases h1 : r < 10
    · simp [h1]
    · by_cases h2 : 100 ≤ r ∧ r < 112
      · have h3 : ¬ r - 100 = i := by omega
        simp [h1, h2, va_up, h3]
      · simp [h1, h2]
theorem WC_wO (hi : i < no) (hn : no ≤ 20) : mU (WC G ad g nf F f no O tf tv fw R) (120 + i) (orO x) = WC G ad g nf F f no (va_up O i x) tf tv fw R := by
  funext r
  by_cases hr : r = 120 + i
  · subst hr
    rw [mU_self, WC_O hi hn]
    simp [va_up]
  · rw [mU_ne hr]
    unfold WC
    by_cases h1 : r < 10
    · simp [h1]
    · by_cases h2 : 100 ≤ r ∧ r < 112
      · simp [h1, h2]
      · by_cases h4 : 120 ≤ r ∧ r < 140
        · have h3 : ¬ r - 120 = i := by omega
          simp [h1, h2, h4, va_up, h3]
        · simp [h1, h2, h4]
end WCs
/-! the reference's world -/
abbrev tabF (F : Nat → Nat → Int32) : Nat → Int32 := fun j => F (j / 7) (j % 7)
abbrev otF (O : Nat → Nat → Int32) : Nat → Int32 := fun j => O (j / 5) (j % 5)
abbrev stF (f : Nat → Int32) : Nat → Int32 := fun j => if j % 10 = 0 then 0 else f (9 * (j / 10) + j % 10 - 1)
abbrev mxO (ad : Nat → Nat) (th : Int32) (g : Nat → Int32) (nf no : Nat) : va_E := .inr (6, [.int th, .int (g 0), .int (g 1), .int (g 2), .int (nI nf), .ref (ad 51), .ref (ad 52), .int (nI no), .ref (ad 53), .int (g 3), .int (g 4), .int (g 5), .ref (ad 54), .ref (ad 55)])
def mX (G : mG) (ad : Nat → Nat) (th : Int32) (g : Nat → Int32) (nf : Nat) (F : Nat → Nat → Int32) (f : Nat → Int32) (no : Nat) (O : Nat → Nat → Int32) (it ch : Nat → Int32) (r : Nat) : va_E :=
  match r with
  | 50 => mxO ad th g nf no
  | 51 => .inl (G.2 0, 84, .inl (tabF F))
  | 52 => .inl (G.2 0, 40, .inl (stF f))
  | 53 => .inl (G.2 0, 100, .inl (otF O))
  | 54 => .inl (G.2 0, 5, .inl it)
  | _ => .inl (G.2 2, 20, .inl ch)
def WM (G : mG) (ad : Nat → Nat) (th : Int32) (g : Nat → Int32) (nf : Nat) (F : Nat → Nat → Int32) (f : Nat → Int32) (no : Nat) (O : Nat → Nat → Int32) (it ch : Nat → Int32) (R : mM) : mM := fun r =>
  if 50 ≤ r ∧ r < 56 then some (mX G ad th g nf F f no O it ch r) else R r
section WMs
variable {G : mG} {ad : Nat → Nat} {th th' : Int32} {g g' : Nat → Int32} {nf no nf' no' : Nat} {F O F' O' : Nat → Nat → Int32} {f f' it ch x it' ch' : Nat → Int32} {R : mM} {i : Nat}
theorem co_6 {P : Nat → Prop} (h0 : P 50) (h1 : P 51) (h2 : P 52) (h3 : P 53) (h4 : P 54) (h5 : P 55) : ∀ r, 50 ≤ r ∧ r < 56 → P r := by
  intro r hr
  rcases (show r = 50 ∨ r = 51 ∨ r = 52 ∨ r = 53 ∨ r = 54 ∨ r = 55 by omega) with rfl | rfl | rfl | rfl | rfl | rfl <;> assumption
theorem WM_c {k : Nat} {e : va_E} (hk : 50 ≤ k ∧ k < 56) (h : ∀ r, 50 ≤ r ∧ r < 56 → r ≠ k → mX G ad th' g' nf' F' f' no' O' it' ch' r = mX G ad th g nf F f no O it ch r) (he : mX G ad th' g' nf' F' f' no' O' it' ch' k = e) :
    mU (WM G ad th g nf F f no O it ch R) k e = WM G ad th' g' nf' F' f' no' O' it' ch' R := by
  funext r
  by_cases hr : r = k
  · subst hr; rw [mU_self]; simp only [WM, if_pos hk, he]
  · rw [mU_ne hr]
    by_cases h10 : 50 ≤ r ∧ r < 56
    · simp only [WM, if_pos h10, h r h10 hr]
    · simp only [WM, if_neg h10]
theorem WM_w0 : mU (WM G ad th g nf F f no O it ch R) 50 (mxO ad th' g' nf' no') = WM G ad th' g' nf' F f no' O it ch R :=
  WM_c (by decide) (co_6 (fun h => absurd rfl h) (fun _ => rfl) (fun _ => rfl) (fun _ => rfl) (fun _ => rfl) (fun _ => rfl)) rfl
theorem WM_w1 (h : x = tabF F') : mU (WM G ad th g nf F f no O it ch R) 51 (.inl (G.2 0, 84, .inl x)) = WM G ad th g nf F' f no O it ch R :=
  WM_c (by decide) (co_6 (fun _ => rfl) (fun h => absurd rfl h) (fun _ => rfl) (fun _ => rfl) (fun _ => rfl) (fun _ => rfl)) (by rw [h]; rfl)
theorem WM_w2 (h : x = stF f') : mU (WM G ad th g nf F f no O it ch R) 52 (.inl (G.2 0, 40, .inl x)) = WM G ad th g nf F f' no O it ch R :=
  WM_c (by decide) (co_6 (fun _ => rfl) (fun _ => rfl) (fun h => absurd rfl h) (fun _ => rfl) (fun _ => rfl) (fun _ => rfl)) (by rw [h]; rfl)
theorem WM_w3 (h : x = otF O') : mU (WM G ad th g nf F f no O it ch R) 53 (.inl (G.2 0, 100, .inl x)) = WM G ad th g nf F f no O' it ch R :=
  WM_c (by decide) (co_6 (fun _ => rfl) (fun _ => rfl) (fun _ => rfl) (fun h => absurd rfl h) (fun _ => rfl) (fun _ => rfl)) (by rw [h]; rfl)
theorem WM_w4 : mU (WM G ad th g nf F f no O it ch R) 54 (.inl (G.2 0, 5, .inl x)) = WM G ad th g nf F f no O x ch R :=
  WM_c (by decide) (co_6 (fun _ => rfl) (fun _ => rfl) (fun _ => rfl) (fun _ => rfl) (fun h => absurd rfl h) (fun _ => rfl)) rfl
theorem WM_w5 : mU (WM G ad th g nf F f no O it ch R) 55 (.inl (G.2 2, 20, .inl x)) = WM G ad th g nf F f no O it x R :=
  WM_c (by decide) (co_6 (fun _ => rfl) (fun _ => rfl) (fun _ => rfl) (fun _ => rfl) (fun _ => rfl) (fun h => absurd rfl h)) rfl
end WMs
theorem tab_rd {F : Nat → Nat → Int32} {i k : Nat} (hk : k < 7) : tabF F (7 * i + k) = F i k := by
  show F ((7 * i + k) / 7) ((7 * i + k) % 7) = F i k
  rw [show (7 * i + k) / 7 = i by omega, show (7 * i + k) % 7 = k by omega]
theorem tab_wr {F : Nat → Nat → Int32} {i k : Nat} {v : Int32} (hk : k < 7) : upd (tabF F) (7 * i + k) v = tabF (va_up F i (upd (F i) k v)) := by
  funext j
  show (if j = 7 * i + k then v else F (j / 7) (j % 7)) = (if j / 7 = i then upd (F i) k v else F (j / 7)) (j % 7)
  by_cases h1 : j = 7 * i + k
  · rw [if_pos h1, if_pos (by omega), show j % 7 = k by omega]
    simp [upd]
  · rw [if_neg h1]
    by_cases h2 : j / 7 = i
    · rw [if_pos h2, h2]
      have : ¬ j % 7 = k := by omega
      simp [upd, this]
    · rw [if_neg h2]
theorem ot_rd {F : Nat → Nat → Int32} {i k : Nat} (hk : k < 5) : otF F (5 * i + k) = F i k := by
  show F ((5 * i + k) / 5) ((5 * i + k) % 5) = F i k
  rw [show (5 * i + k) / 5 = i by omega, show (5 * i + k) % 5 = k by omega]
theorem ot_wr {F : Nat → Nat → Int32} {i k : Nat} {v : Int32} (hk : k < 5) : upd (otF F) (5 * i + k) v = otF (va_up F i (upd (F i) k v)) := by
  funext j
  show (if j = 5 * i + k then v else F (j / 5) (j % 5)) = (if j / 5 = i then upd (F i) k v else F (j / 5)) (j % 5)
  by_cases h1 : j = 5 * i + k
  · rw [if_pos h1, if_pos (by omega), show j % 5 = k by omega]
    simp [upd]
  · rw [if_neg h1]
    by_cases h2 : j / 5 = i
    · rw [if_pos h2, h2]
      have : ¬ j % 5 = k := by omega
      simp [upd, this]
    · rw [if_neg h2]
theorem st_rd {f : Nat → Int32} {k z : Nat} (h1 : 1 ≤ z) (h9 : z ≤ 9) : stF f (10 * k + z) = f (9 * k + z - 1) := by
  show (if (10 * k + z) % 10 = 0 then (0 : Int32) else f (9 * ((10 * k + z) / 10) + (10 * k + z) % 10 - 1)) = f (9 * k + z - 1)
  rw [if_neg (by omega), show (10 * k + z) / 10 = k by omega, show (10 * k + z) % 10 = z by omega]
theorem st_wr {f : Nat → Int32} {k z : Nat} {v : Int32} (h1 : 1 ≤ z) (h9 : z ≤ 9) : upd (stF f) (10 * k + z) v = stF (upd f (9 * k + z - 1) v) := by
  funext j
  show (if j = 10 * k + z then v else if j % 10 = 0 then (0 : Int32) else f (9 * (j / 10) + j % 10 - 1)) = if j % 10 = 0 then (0 : Int32) else (if 9 * (j / 10) + j % 10 - 1 = 9 * k + z - 1 then v else f (9 * (j / 10) + j % 10 - 1))
  by_cases h : j = 10 * k + z
  · rw [if_pos h, if_neg (by omega), if_pos (by omega)]
  · rw [if_neg h]
    by_cases h0 : j % 10 = 0
    · rw [if_pos h0, if_pos h0]
    · rw [if_neg h0, if_neg h0, if_neg (by omega)]
/-! what the reference's small methods do (word for word) -/
theorem p_ixT (i k : Nat) : (7 : Int32) * nI i + nI k = nI (7 * i + k) := by
  rw [show (7 : Int32) = nI 7 from rfl, pk_mul, nI_add]
theorem p_ixO (i k : Nat) : (5 : Int32) * nI i + nI k = nI (5 * i + k) := by
  rw [show (5 : Int32) = nI 5 from rfl, pk_mul, nI_add]
theorem p_ixS (i k : Nat) : (10 : Int32) * nI i + nI k = nI (10 * i + k) := by
  rw [show (10 : Int32) = nI 10 from rfl, pk_mul, nI_add]
def m_grow (it φ : Nat → Int32) : Int32 :=
  if 70 < it 3 then -(jmin (it 2) ((it 1 - 55) / 5)) else jmin (12 - (it 1 - 60) / 8 + (if it 2 = 0 then 4 else 0) - (if φ 0 = 3 then 3 else 0)) (400 - it 2)
abbrev m_can (it φ : Nat → Int32) : Prop := 60 ≤ it 1 ∧ (70 < it 3 ∨ p_wax φ (m_grow it φ) ≤ it 0)
def m_dip (it φ : Nat → Int32) : Nat → Int32 :=
  if 70 < it 3 then (if it 2 + m_grow it φ = 0 then upd (upd (upd it 2 (it 2 + m_grow it φ)) 4 0) 3 100 else upd (upd it 2 (it 2 + m_grow it φ)) 3 100)
  else if 0 < it 2 ∧ it 3 < 10 then upd (upd (upd (upd it 4 1) 0 (it 0 - p_wax φ (m_grow it φ))) 2 (it 2 + m_grow it φ)) 3 (jmin 100 ((it 3 + it 1) / 2))
  else upd (upd (upd it 0 (it 0 - p_wax φ (m_grow it φ))) 2 (it 2 + m_grow it φ)) 3 (jmin 100 ((it 3 + it 1) / 2))
def m_take (it g φ : Nat → Int32) : Nat → Int32 := upd (upd (upd (upd (upd it 0 (g 0)) 1 (g 1)) 2 (φ 2)) 3 (φ 3)) 4 (φ 4)
def m_vat (g : Nat → Int32) (w : Int32) : Int32 := if w = 0 then g 0 else if w = 1 then g 1 else if w = 2 then g 2 else if 60 ≤ g 1 then 1 else 0
def m_atL : Nat → Nat → (Nat → Nat → Int32) → Int32 → Int32
  | 0, _, _, _ => -1
  | n + 1, i, F, h => if F i 5 = h then nI i else m_atL n (i + 1) F h
def m_at (nf : Nat) (F : Nat → Nat → Int32) (h : Int32) : Int32 := m_atL nf 0 F h
def m_size (th cr : Int32) : Int32 := jmin 9 (th / (if cr = 1 then 80 else 40))
def m_frame (φ : Nat → Int32) (k : Nat) : Int32 := if k < 7 then φ k else m_size (φ 2) (φ 4)
def m_withL : Nat → Nat → (Nat → Nat → Int32) → Int32 → Int32 → Int32
  | 0, _, _, _, acc => acc
  | n + 1, j, O, z, acc => m_withL n (j + 1) O z (acc + (if O j 4 = z then 1 else 0))
def m_with (no : Nat) (O : Nat → Nat → Int32) (z : Int32) : Int32 := m_withL no 0 O z 0
def m_hangL : Nat → Nat → (Nat → Nat → Int32) → Int32 → Int32
  | 0, _, _, acc => acc
  | n + 1, j, F, acc => m_hangL n (j + 1) F (acc + (if F j 5 ≠ -1 then 1 else 0))
def m_coolTo (n b : Nat) (F : Nat → Nat → Int32) : Nat → Nat → Int32 := fun i => if i < n ∧ i ≠ b then p_coolF (F i) else F i
def m_lateTo (n : Nat) (q : Int32) (O : Nat → Nat → Int32) : Nat → Nat → Int32 := fun j => if j < n ∧ O j 4 = 0 ∧ O j 3 < q then upd (O j) 4 2 else O j
def m_qG (g : Nat → Int32) : Nat → Int32 := upd (p_burnV g) 3 (g 3 + 1)
def m_qO (no : Nat) (g : Nat → Int32) (O : Nat → Nat → Int32) : Nat → Nat → Int32 := if (g 3 + 1) - (g 3 + 1) / 40 * 40 = 0 then m_lateTo no ((g 3 + 1) / 40) O else O
theorem m_coolTo_s {n b : Nat} {F : Nat → Nat → Int32} (h : n ≠ b) : va_up (m_coolTo n b F) n (p_coolF (m_coolTo n b F n)) = m_coolTo (n + 1) b F := by
  funext i
  by_cases hi : i = n
  · subst hi
    have e1 : m_coolTo i b F i = F i := by simp [m_coolTo]
    simp [va_up, e1]
    simp [m_coolTo, h]
  · simp only [va_up, if_neg hi, m_coolTo]
    by_cases h2 : i < n
    · simp [h2, show i < n + 1 by omega]
    · simp [h2, show ¬ i < n + 1 by omega]
theorem m_coolTo_b {n b : Nat} {F : Nat → Nat → Int32} (h : n = b) : m_coolTo n b F = m_coolTo (n + 1) b F := by
  funext i
  simp only [m_coolTo]
  by_cases h2 : i < n
  · simp [h2, show i < n + 1 by omega]
  · by_cases h3 : i = n
    · simp [h3, h]
    · simp [h2, show ¬ i < n + 1 by omega]
theorem m_coolTo_0 {b : Nat} {F : Nat → Nat → Int32} : m_coolTo 0 b F = F := by funext i; simp [m_coolTo]
theorem m_lateTo_0 {q : Int32} {O : Nat → Nat → Int32} : m_lateTo 0 q O = O := by funext i; simp [m_lateTo]
theorem m_lateTo_s {n : Nat} {q : Int32} {O : Nat → Nat → Int32} (h : O n 4 = 0 ∧ O n 3 < q) : va_up (m_lateTo n q O) n (upd (m_lateTo n q O n) 4 2) = m_lateTo (n + 1) q O := by
  funext i
  by_cases hi : i = n
  · subst hi
    simp [va_up, m_lateTo, h]
  · simp only [va_up, if_neg hi, m_lateTo]
    by_cases h2 : i < n
    · simp [h2, show i < n + 1 by omega]
    · simp [h2, show ¬ i < n + 1 by omega]
theorem m_lateTo_b {n : Nat} {q : Int32} {O : Nat → Nat → Int32} (h : ¬ (O n 4 = 0 ∧ O n 3 < q)) : m_lateTo n q O = m_lateTo (n + 1) q O := by
  funext i
  simp only [m_lateTo]
  by_cases h3 : i = n
  · subst h3
    simp [h]
  · by_cases h2 : i < n
    · simp [h2, show i < n + 1 by omega]
    · simp [h2, show ¬ i < n + 1 by omega]
theorem m_lateTo_at {n : Nat} {q : Int32} {O : Nat → Nat → Int32} : m_lateTo n q O n = O n := by simp [m_lateTo]
theorem m_coolTo_at {n b : Nat} {F : Nat → Nat → Int32} : m_coolTo n b F n = F n := by simp [m_coolTo]
theorem sw_cases (x : Int32) (n : Nat) (hn : n < 2 ^ 31) : (x.toInt < 0 ∨ (n : Int) < x.toInt) ∨ ∃ k : Nat, k ≤ n ∧ x = nI k := by
  by_cases h : x.toInt < 0 ∨ (n : Int) < x.toInt
  · exact Or.inl h
  · refine Or.inr ?_
    have h0 : ¬ x < 0 := fun q => h (Or.inl (by have := Int32.lt_iff_toInt_lt.mp q; simpa using this))
    obtain ⟨j, hj, rfl⟩ := nI_of h0
    refine ⟨j, ?_, rfl⟩
    rw [nI_toInt hj] at h
    omega
def m_rest1 (lv c : Int32) (it : Nat → Int32) : Nat → Int32 := upd (upd it 1 (p_burn lv (it 1))) 3 (jmax 0 (it 3 - c))
def m_restN : Nat → Int32 → Int32 → (Nat → Int32) → (Nat → Int32)
  | 0, _, _, it => it
  | n + 1, lv, c, it => m_restN n lv c (m_rest1 lv c it)
def m_needL : Nat → Nat → Nat → Int32 → Int32 → (Nat → Int32) → (Nat → Int32) → Int32
  | 0, _, _, _, _, _, _ => -1
  | f + 1, d, k, z, lv, φ, it => if m_can it φ then (if z ≤ m_size (m_dip it φ 2) (m_dip it φ 4) then nI d else m_needL f (d + 1) k z lv φ (m_restN k lv (p_cooling φ) (upd (m_dip it φ) 1 (p_burn lv (m_dip it φ 1))))) else -1
def m_need (k : Nat) (z lv : Int32) (φ it : Nat → Int32) : Int32 := if z ≤ m_size (it 2) (it 4) then 0 else m_needL 60 1 k z lv φ it
def m_count (g : Nat → Int32) (nf : Nat) (F : Nat → Nat → Int32) (f : Nat → Int32) (no : Nat) (O : Nat → Nat → Int32) (k : Nat) : Int32 :=
  match k with
  | 0 => g 3
  | 1 => nI nf
  | 2 => m_hangL nf 0 F 0
  | 3 => p_sum 40 (stF f) 0 0
  | 4 => nI no
  | 5 => m_with no O 1
  | 6 => m_with no O 2
  | 7 => g 4
  | _ => g 5
