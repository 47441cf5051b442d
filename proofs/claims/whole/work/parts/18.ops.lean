/-! ===== the calls: code of the throw (0: none), answer, state behind, read off the reference ===== -/
abbrev nn (x : Int32) : Nat := x.toNatClampNeg
theorem nn_nI {i : Nat} (h : i < 2 ^ 31) : nn (nI i) = i := nI_clamp h
theorem in_of {x : Int32} {a b : Nat} (ha : a < 2 ^ 31) (hb : b < 2 ^ 31) (h : p_in x (nI a) (nI b)) : ∃ k : Nat, a ≤ k ∧ k ≤ b ∧ x = nI k := by
  have h1 := Int32.le_iff_toInt_le.mp h.1
  have h2 := Int32.le_iff_toInt_le.mp h.2
  rw [nI_toInt ha] at h1
  rw [nI_toInt hb] at h2
  have h0 : ¬ x < 0 := fun q => by
    have q1 := Int32.lt_iff_toInt_lt.mp q
    rw [Int32.toInt_zero] at q1
    omega
  obtain ⟨k, hk, rfl⟩ := nI_of h0
  rw [nI_toInt hk] at h1 h2
  exact ⟨k, by omega, by omega, rfl⟩
abbrev kFr (nf : Nat) (x : Int32) : Prop := p_in x 0 (nI nf - 1)
theorem fr_of {nf : Nat} {x : Int32} (hn : nf < 2 ^ 31) (h : kFr nf x) : ∃ i : Nat, i < nf ∧ x = nI i := by
  cases nf with
  | zero => exact absurd (Int32.le_trans h.1 h.2) (by decide)
  | succ n =>
    have h9 : p_in x (nI 0) (nI n) := by
      have e := nI_pred n
      exact ⟨h.1, by rw [← e]; exact h.2⟩
    obtain ⟨k, -, hk, rfl⟩ := in_of (by decide) (by omega) h9
    exact ⟨k, by omega, rfl⟩
theorem fr_nI {nf i : Nat} (hn : nf < 2 ^ 31) (h : i < nf) : kFr nf (nI i) := by
  cases nf with
  | zero => omega
  | succ n =>
    have e := nI_pred n
    exact ⟨nI_pos' (by omega), by rw [e]; exact nI_le (by omega) (by omega)⟩
theorem va_up2 {F : Nat → Nat → Int32} {i k : Nat} {X : Nat → Int32} {v : Int32} : va_up (va_up F i X) i (upd (va_up F i X i) k v) = va_up F i (upd X k v) := by
  funext j
  by_cases h : j = i <;> simp [va_up, h]
theorem va_upat {F : Nat → Nat → Int32} {i : Nat} {X : Nat → Int32} : va_up F i X i = X := by simp [va_up]
def m_t (g φ : Nat → Int32) : Nat → Int32 := m_take (fun _ => 0) g φ
-- codes
def K_melt (g : Nat → Int32) (p : Int32) : Int32 := if p_in p 1 5000 then (if g 0 + p ≤ 20000 then 0 else 2) else 1
def K_setFire (l : Int32) : Int32 := if p_in l 0 5 then 0 else 1
def K_vat (w : Int32) : Int32 := if p_in w 0 3 then 0 else 1
def K_addFrame (nf : Nat) (k w : Int32) : Int32 := if p_in k 0 3 then (if p_in w 1 20 then (if nI nf = 12 then 2 else 0) else 1) else 1
def K_hang (nf : Nat) (F : Nat → Nat → Int32) (x h : Int32) : Int32 := if kFr nf x then (if p_in h 0 11 then (if m_at nf F h = -1 then 0 else if m_at nf F h = x then 0 else 3) else 2) else 1
def K_layAside (nf : Nat) (F : Nat → Nat → Int32) (x : Int32) : Int32 := if kFr nf x then (if F (nn x) 5 = -1 then 2 else 0) else 1
def K_dip (g : Nat → Int32) (nf : Nat) (F : Nat → Nat → Int32) (x : Int32) : Int32 := if kFr nf x then (if F (nn x) 5 ≠ -1 then (if m_can (m_t g (F (nn x))) (F (nn x)) then 0 else 2) else 2) else 1
def K_cutOff (nf : Nat) (F : Nat → Nat → Int32) (x : Int32) : Int32 := if kFr nf x then (if F (nn x) 2 = 0 then 2 else if F (nn x) 3 ≤ 20 then 0 else 2) else 1
def K_frame (nf : Nat) (x w : Int32) : Int32 := if kFr nf x then (if p_in w 0 7 then 0 else 1) else 1
def K_hook (h : Int32) : Int32 := if p_in h 0 11 then 0 else 1
def K_store (k z : Int32) : Int32 := if p_in k 0 3 then (if p_in z 1 9 then 0 else 1) else 1
def K_addOrder (g : Nat → Int32) (no : Nat) (k z m d : Int32) : Int32 := if p_in k 0 3 then (if p_in z 1 9 then (if p_in m 1 60 then (if p_in d (g 3 / 40) 1000 then (if nI no = 20 then 2 else 0) else 1) else 1) else 1) else 1
/-- an order can be filled: its kind and least size as numbers -/
abbrev p_canFill (f ω : Nat → Int32) : Prop := ω 4 ≠ 1 ∧ ω 2 ≤ p_amountFrom f (nn (ω 0)) (nn (ω 1))
def K_fill (f : Nat → Int32) (no : Nat) (O : Nat → Nat → Int32) (x : Int32) : Int32 := if kFr no x then (if p_canFill f (O (nn x)) then 0 else 2) else 1
def K_order (no : Nat) (x w : Int32) : Int32 := if kFr no x then (if p_in w 0 5 then 0 else 1) else 1
def K_pass (q : Int32) : Int32 := if p_in q 1 400 then 0 else 1
def K_count (w : Int32) : Int32 := if p_in w 0 8 then 0 else 1
def K_would (nf : Nat) (F : Nat → Nat → Int32) (x d : Int32) : Int32 := if kFr nf x then (if p_in d 1 40 then (if F (nn x) 5 ≠ -1 then 0 else 3) else 2) else 1
def K_dipsTo (nf : Nat) (F : Nat → Nat → Int32) (x r z : Int32) : Int32 := if kFr nf x then (if p_in r 0 20 then (if p_in z 1 9 then (if F (nn x) 5 ≠ -1 then 0 else 3) else 2) else 2) else 1
def K_bestRest (nf : Nat) (F : Nat → Nat → Int32) (x z : Int32) : Int32 := if kFr nf x then (if p_in z 1 9 then (if F (nn x) 5 ≠ -1 then 0 else 3) else 2) else 1
-- answers and states
def G_melt (g : Nat → Int32) (p : Int32) : Nat → Int32 := upd (upd g 1 ((g 1 * g 0 + 20 * p) / (g 0 + p))) 0 (g 0 + p)
def G_setFire (g : Nat → Int32) (l : Int32) : Nat → Int32 := upd g 2 l
def F_place (F : Nat → Nat → Int32) (i : Nat) (h : Int32) : Nat → Nat → Int32 := va_up F i (upd (F i) 5 h)
def m_dipF (it φ : Nat → Int32) : Nat → Int32 := upd (upd (upd (upd φ 2 (it 2)) 3 (it 3)) 4 (it 4)) 6 (φ 6 + 1)
def m_it1 (g φ : Nat → Int32) : Nat → Int32 := m_dip (m_t g φ) φ
def G_dip0 (g φ : Nat → Int32) : Nat → Int32 := upd (upd g 0 (m_it1 g φ 0)) 4 (g 4 + 1)
def G_dip (g : Nat → Int32) (F : Nat → Nat → Int32) (i : Nat) : Nat → Int32 := m_qG (G_dip0 g (F i))
def F_dip (g : Nat → Int32) (nf : Nat) (F : Nat → Nat → Int32) (i : Nat) : Nat → Nat → Int32 := m_coolTo nf i (va_up F i (m_dipF (m_it1 g (F i)) (F i)))
def O_dip (g : Nat → Int32) (F : Nat → Nat → Int32) (no : Nat) (O : Nat → Nat → Int32) (i : Nat) : Nat → Nat → Int32 := m_qO no (G_dip0 g (F i)) O
def S_cut (φ : Nat → Int32) : Int32 := m_size (φ 2) (φ 4)
def G_cut (g φ : Nat → Int32) : Nat → Int32 := if 0 < S_cut φ then upd g 5 (g 5 + 0) else upd (upd g 0 (jmin 20000 (g 0 + p_wax φ (φ 2)))) 5 (g 5 + φ 1)
def f_cut (f φ : Nat → Int32) : Nat → Int32 := if 0 < S_cut φ then upd f (9 * nn (φ 0) + nn (S_cut φ) - 1) (f (9 * nn (φ 0) + nn (S_cut φ) - 1) + φ 1) else f
def m_pG : Nat → (Nat → Int32) → (Nat → Int32)
  | 0, g => g
  | n + 1, g => m_pG n (m_qG g)
def m_pF : Nat → Nat → Nat → (Nat → Nat → Int32) → (Nat → Nat → Int32)
  | 0, _, _, F => F
  | n + 1, nf, b, F => m_pF n nf b (m_coolTo nf b F)
def m_pO : Nat → Nat → (Nat → Int32) → (Nat → Nat → Int32) → (Nat → Nat → Int32)
  | 0, _, _, O => O
  | n + 1, no, g, O => m_pO n no (m_qG g) (m_qO no g O)
def m_tryL : Nat → Int32 → (Nat → Int32) → (Nat → Int32) → Int32
  | 0, _, _, it => it 2
  | n + 1, lv, φ, it => if m_can it φ then m_tryL n lv φ (upd (m_dip it φ) 1 (p_burn lv (m_dip it φ 1))) else it 2
/-- bestRest: rests from n - 1 down to 0 -/
def m_bestL : Nat → Int32 → Int32 → Int32 → (Nat → Int32) → (Nat → Int32) → Int32
  | 0, best, _, _, _, _ => best
  | n + 1, best, few, z, g, φ =>
    if m_need n z (g 2) φ (m_t g φ) = 0 then 0
    else if m_need n z (g 2) φ (m_t g φ) = -1 ∨ (best ≠ -1 ∧ few < m_need n z (g 2) φ (m_t g φ) + nI n * (m_need n z (g 2) φ (m_t g φ) - 1)) then m_bestL n best few z g φ
    else m_bestL n (nI n) (m_need n z (g 2) φ (m_t g φ) + nI n * (m_need n z (g 2) φ (m_t g φ) - 1)) z g φ
def m_advL : Nat → Nat → Int32 → Int32 → (Nat → Int32) → (Nat → Nat → Int32) → Int32
  | 0, _, best, _, _, _ => best
  | n + 1, i, best, most, g, F =>
    if F i 5 ≠ -1 ∧ m_can (m_t g (F i)) (F i) ∧ most < m_grow (m_t g (F i)) (F i) then m_advL n (i + 1) (nI i) (m_grow (m_t g (F i)) (F i)) g F
    else m_advL n (i + 1) best most g F
def V_order (f ω : Nat → Int32) (k : Nat) : Int32 := if k < 5 then ω k else if p_canFill f ω then 1 else 0
/-- fill: n sizes from b on -/
def m_fillL : Nat → (Nat → Int32) → Nat → Nat → Int32 → (Nat → Int32)
  | 0, f, _, _, _ => f
  | n + 1, f, k, b, w => if 0 < w then m_fillL n (upd f (9 * k + b - 1) (f (9 * k + b - 1) - jmin w (f (9 * k + b - 1)))) k (b + 1) (w - jmin w (f (9 * k + b - 1))) else f
def m_fill (f : Nat → Int32) (k b : Nat) (w : Int32) : Nat → Int32 := m_fillL (10 - b) f k b w
