/-! ===== the calls: code of the throw (0: none), answer, state behind, read off the reference ===== -/
abbrev nn (x : Int32) : Nat := x.toNatClampNeg
theorem nn_nI {i : Nat} (h : i < 2 ^ 31) : nn (nI i) = i := nI_clamp h
theorem in_of {x : Int32} {a b : Nat} (ha : a < 2 ^ 31) (hb : b < 2 ^ 31) (h : p_in x (nI a) (nI b)) : ∃ k : Nat, a ≤ k ∧ k ≤ b ∧ x = nI k := by
  have h1 := Int32.le_iff_toInt_le.mp h.1
  have h2 := Int32.le_iff_toInt_le.mp h.2
  rw [nI_toInt ha] at h1
  rw [nI_toInt hb] at h2
  have h0 : ¬ x < 0 := fun q => by
    have q1 := Int32.lt_iff_toInt_lt.mp q
    rw [Int32.toInt_zero] at q1
    omega
  obtain ⟨k, hk, rfl⟩ := nI_of h0
  rw [nI_toInt hk] at h1 h2
  exact ⟨k, by omega, by omega, rfl⟩
abbrev kFr (nf : Nat) (x : Int32) : Prop := p_in x 0 (nI nf - 1)
theorem fr_of {nf : Nat} {x : Int32} (hn : nf < 2 ^ 31) (h : kFr nf x) : ∃ i : Nat, i < nf ∧ x = nI i := by
  cases nf with
  | zero => exact absurd (Int32.le_trans h.1 h.2) (by decide)
  | succ n =>
    have h9 : p_in x (nI 0) (nI n) := by
      have e := nI_pred n
      exact ⟨h.1, by rw [← e]; exact h.2⟩
    obtain ⟨k, -, hk, rfl⟩ := in_of (by decide) (by omega) h9
    exact ⟨k, by omega, rfl⟩
theorem fr_nI {nf i : Nat} (hn : nf < 2 ^ 31) (h : i < nf) : kFr nf (nI i) := by
  cases nf with
  | zero => omega
  | succ n =>
    have e := nI_pred n
    exact ⟨nI_pos' (by omega), by rw [e]; exact nI_le (by omega) (by omega)⟩
theorem va_up2 {F : Nat → Nat → Int32} {i k : Nat} {X : Nat → Int32} {v : Int32} : va_up (va_up F i X) i (upd (va_up F i X i) k v) = va_up F i (upd X k v) := by
  funext j
  by_cases h : j = i <;> simp [va_up, h]
theorem va_upat {F : Nat → Nat → Int32} {i : Nat} {X : Nat → Int32} : va_up F i X i = X := by simp [va_up]
def m_t (g φ : Nat → Int32) : Nat → Int32 := m_take (fun _ => 0) g φ
-- codes
def K_melt (g : Nat → Int32) (p : Int32) : Int32 := if p_in p 1 5000 then (if g 0 + p ≤ 20000 then 0 else 2) else 1
def K_setFire (l : Int32) : Int32 := if p_in l 0 5 then 0 else 1
def K_vat (w : Int32) : Int32 := if p_in w 0 3 then 0 else 1
def K_addFrame (nf : Nat) (k w : Int32) : Int32 := if p_in k 0 3 then (if p_in w 1 20 then (if nI nf = 12 then 2 else 0) else 1) else 1
def K_hang (nf : Nat) (F : Nat → Nat → Int32) (x h : Int32) : Int32 := if kFr nf x then (if p_in h 0 11 then (if m_at nf F h = -1 then 0 else if m_at nf F h = x then 0 else 3) else 2) else 1
def K_layAside (nf : Nat) (F : Nat → Nat → Int32) (x : Int32) : Int32 := if kFr nf x then (if F (nn x) 5 = -1 then 2 else 0) else 1
def K_dip (g : Nat → Int32) (nf : Nat) (F : Nat → Nat → Int32) (x : Int32) : Int32 := if kFr nf x then (if F (nn x) 5 ≠ -1 then (if m_can (m_t g (F (nn x))) (F (nn x)) then 0 else 2) else 2) else 1
def K_cutOff (nf : Nat) (F : Nat → Nat → Int32) (x : Int32) : Int32 := if kFr nf x then (if F (nn x) 2 = 0 then 2 else if F (nn x) 3 ≤ 20 then 0 else 2) else 1
def K_frame (nf : Nat) (x w : Int32) : Int32 := if kFr nf x then (if p_in w 0 7 then 0 else 1) else 1
def K_hook (h : Int32) : Int32 := if p_in h 0 11 then 0 else 1
def K_store (k z : Int32) : Int32 := if p_in k 0 3 then (if p_in z 1 9 then 0 else 1) else 1
def K_addOrder (g : Nat → Int32) (no : Nat) (k z m d : Int32) : Int32 := if p_in k 0 3 then (if p_in z 1 9 then (if p_in m 1 60 then (if p_in d (g 3 / 40) 1000 then (if nI no = 20 then 2 else 0) else 1) else 1) else 1) else 1
/-- an order can be filled: its kind and least size as numbers -/
abbrev p_canFill (f ω : Nat → Int32) : Prop := ω 4 ≠ 1 ∧ ω 2 ≤ p_amountFrom f (nn (ω 0)) (nn (ω 1))
def K_fill (f : Nat → Int32) (no : Nat) (O : Nat → Nat → Int32) (x : Int32) : Int32 := if kFr no x then (if p_canFill f (O (nn x)) then 0 else 2) else 1
def K_order (no : Nat) (x w : Int32) : Int32 := if kFr no x then (if p_in w 0 5 then 0 else 1) else 1
def K_pass (q : Int32) : Int32 := if p_in q 1 400 then 0 else 1
def K_count (w : Int32) : Int32 := if p_in w 0 8 then 0 else 1
def K_would (nf : Nat) (F : Nat → Nat → Int32) (x d : Int32) : Int32 := if kFr nf x then (if p_in d 1 40 then (if F (nn x) 5 ≠ -1 then 0 else 3) else 2) else 1
def K_dipsTo (nf : Nat) (F : Nat → Nat → Int32) (x r z : Int32) : Int32 := if kFr nf x then (if p_in r 0 20 then (if p_in z 1 9 then (if F (nn x) 5 ≠ -1 then 0 else 3) else 2) else 2) else 1
def K_bestRest (nf : Nat) (F : Nat → Nat → Int32) (x z : Int32) : Int32 := if kFr nf x then (if p_in z 1 9 then (if F (nn x) 5 ≠ -1 then 0 else 3) else 2) else 1
-- answers and states
def G_melt (g : Nat → Int32) (p : Int32) : Nat → Int32 := upd (upd g 1 ((g 1 * g 0 + 20 * p) / (g 0 + p))) 0 (g 0 + p)
def G_setFire (g : Nat → Int32) (l : Int32) : Nat → Int32 := upd g 2 l
def F_place (F : Nat → Nat → Int32) (i : Nat) (h : Int32) : Nat → Nat → Int32 := va_up F i (upd (F i) 5 h)
def m_dipF (it φ : Nat → Int32) : Nat → Int32 := upd (upd (upd (upd φ 2 (it 2)) 3 (it 3)) 4 (it 4)) 6 (φ 6 + 1)
def m_it1 (g φ : Nat → Int32) : Nat → Int32 := m_dip (m_t g φ) φ
def G_dip0 (g φ : Nat → Int32) : Nat → Int32 := upd (upd g 0 (m_it1 g φ 0)) 4 (g 4 + 1)
def G_dip (g : Nat → Int32) (F : Nat → Nat → Int32) (i : Nat) : Nat → Int32 := m_qG (G_dip0 g (F i))
def F_dip (g : Nat → Int32) (nf : Nat) (F : Nat → Nat → Int32) (i : Nat) : Nat → Nat → Int32 := m_coolTo nf i (va_up F i (m_dipF (m_it1 g (F i)) (F i)))
def O_dip (g : Nat → Int32) (F : Nat → Nat → Int32) (no : Nat) (O : Nat → Nat → Int32) (i : Nat) : Nat → Nat → Int32 := m_qO no (G_dip0 g (F i)) O
def S_cut (φ : Nat → Int32) : Int32 := m_size (φ 2) (φ 4)
def G_cut (g φ : Nat → Int32) : Nat → Int32 := if 0 < S_cut φ then upd g 5 (g 5 + 0) else upd (upd g 0 (jmin 20000 (g 0 + p_wax φ (φ 2)))) 5 (g 5 + φ 1)
def f_cut (f φ : Nat → Int32) : Nat → Int32 := if 0 < S_cut φ then upd f (9 * nn (φ 0) + nn (S_cut φ) - 1) (f (9 * nn (φ 0) + nn (S_cut φ) - 1) + φ 1) else f
def m_pG : Nat → (Nat → Int32) → (Nat → Int32)
  | 0, g => g
  | n + 1, g => m_pG n (m_qG g)
def m_pF : Nat → Nat → Nat → (Nat → Nat → Int32) → (Nat → Nat → Int32)
  | 0, _, _, F => F
  | n + 1, nf, b, F => m_pF n nf b (m_coolTo nf b F)
def m_pO : Nat → Nat → (Nat → Int32) → (Nat → Nat → Int32) → (Nat → Nat → Int32)
  | 0, _, _, O => O
  | n + 1, no, g, O => m_pO n no (m_qG g) (m_qO no g O)
def m_tryL : Nat → Int32 → (Nat → Int32) → (Nat → Int32) → Int32
  | 0, _, _, it => it 2
  | n + 1, lv, φ, it => if m_can it φ then m_tryL n lv φ (upd (m_dip it φ) 1 (p_burn lv (m_dip it φ 1))) else it 2
/-- bestRest: rests from n - 1 down to 0 -/
def m_bestL : Nat → Int32 → Int32 → Int32 → (Nat → Int32) → (Nat → Int32) → Int32
  | 0, best, _, _, _, _ => best
  | n + 1, best, few, z, g, φ =>
    if m_need n z (g 2) φ (m_t g φ) = 0 then 0
    else if m_need n z (g 2) φ (m_t g φ) = -1 ∨ (best ≠ -1 ∧ few < m_need n z (g 2) φ (m_t g φ) + nI n * (m_need n z (g 2) φ (m_t g φ) - 1)) then m_bestL n best few z g φ
    else m_bestL n (nI n) (m_need n z (g 2) φ (m_t g φ) + nI n * (m_need n z (g 2) φ (m_t g φ) - 1)) z g φ
def m_advL : Nat → Nat → Int32 → Int32 → (Nat → Int32) → (Nat → Nat → Int32) → Int32
  | 0, _, best, _, _, _ => best
  | n + 1, i, best, most, g, F =>
    if F i 5 ≠ -1 ∧ m_can (m_t g (F i)) (F i) ∧ most < m_grow (m_t g (F i)) (F i) then m_advL n (i + 1) (nI i) (m_grow (m_t g (F i)) (F i)) g F
    else m_advL n (i + 1) best most g F
def V_order (f ω : Nat → Int32) (k : Nat) : Int32 := if k < 5 then ω k else if p_canFill f ω then 1 else 0
/-- fill: n sizes from b on -/
def m_fillL : Nat → (Nat → Int32) → Nat → Nat → Int32 → (Nat → Int32)
  | 0, f, _, _, _ => f
  | n + 1, f, k, b, w => if 0 < w then m_fillL n (upd f (9 * k + b - 1) (f (9 * k + b - 1) - jmin w (f (9 * k + b - 1)))) k (b + 1) (w - jmin w (f (9 * k + b - 1))) else f
def m_fill (f : Nat → Int32) (k b : Nat) (w : Int32) : Nat → Int32 := m_fillL (10 - b) f k b w
/-! what is reckoned on 'it' looks at its first five places alone -/
def ag5 (a b : Nat → Int32) : Prop := ∀ k, k < 5 → a k = b k
theorem ag5_take {it g φ : Nat → Int32} : ag5 (m_take it g φ) (m_t g φ) := fun k hk => by
  rcases (show k = 0 ∨ k = 1 ∨ k = 2 ∨ k = 3 ∨ k = 4 by omega) with rfl | rfl | rfl | rfl | rfl <;> rfl
theorem ag5_grow {a b φ : Nat → Int32} (h : ag5 a b) : m_grow a φ = m_grow b φ := by
  simp only [m_grow, h 1 (by decide), h 2 (by decide), h 3 (by decide)]
theorem ag5_can {a b φ : Nat → Int32} (h : ag5 a b) : m_can a φ ↔ m_can b φ := by
  simp only [m_can, ag5_grow (φ := φ) h, h 0 (by decide), h 1 (by decide), h 3 (by decide)]
theorem ag5_upd {a b : Nat → Int32} {k : Nat} {x : Int32} (h : ag5 a b) : ag5 (upd a k x) (upd b k x) := fun j hj => by
  by_cases e : j = k
  · subst e; simp [upd]
  · simp [upd, e, h j hj]
theorem ag5_dip {a b φ : Nat → Int32} (h : ag5 a b) : ag5 (m_dip a φ) (m_dip b φ) := by
  simp only [m_dip, ag5_grow (φ := φ) h, h 0 (by decide), h 1 (by decide), h 2 (by decide), h 3 (by decide)]
  split
  · split
    · exact ag5_upd (ag5_upd (ag5_upd h))
    · exact ag5_upd (ag5_upd h)
  · split
    · exact ag5_upd (ag5_upd (ag5_upd (ag5_upd h)))
    · exact ag5_upd (ag5_upd (ag5_upd h))
theorem ag5_rest : ∀ (n : Nat) {a b : Nat → Int32} {lv c : Int32}, ag5 a b → ag5 (m_restN n lv c a) (m_restN n lv c b)
  | 0, _, _, _, _, h => h
  | n + 1, a, b, lv, c, h => ag5_rest n (by
      simp only [m_rest1, h 1 (by decide), h 3 (by decide)]
      exact ag5_upd (ag5_upd h))
theorem ag5_needL : ∀ (n d k : Nat) {a b φ : Nat → Int32} {z lv : Int32}, ag5 a b → m_needL n d k z lv φ a = m_needL n d k z lv φ b
  | 0, _, _, _, _, _, _, _, _ => rfl
  | n + 1, d, k, a, b, φ, z, lv, h => by
    have hd := ag5_dip (φ := φ) h
    have hc : m_can a φ = m_can b φ := propext (ag5_can h)
    simp only [m_needL, hc, hd 1 (by decide), hd 2 (by decide), hd 4 (by decide)]
    rw [ag5_needL n (d + 1) k (ag5_rest k (ag5_upd hd))]
theorem ag5_need {k : Nat} {a b φ : Nat → Int32} {z lv : Int32} (h : ag5 a b) : m_need k z lv φ a = m_need k z lv φ b := by
  simp only [m_need, h 2 (by decide), h 4 (by decide), ag5_needL 60 1 k h]
theorem ag5_tryL : ∀ (n : Nat) {a b φ : Nat → Int32} {lv : Int32}, ag5 a b → m_tryL n lv φ a = m_tryL n lv φ b
  | 0, _, _, _, _, h => h 2 (by decide)
  | n + 1, a, b, φ, lv, h => by
    have hd := ag5_dip (φ := φ) h
    have hc : m_can a φ = m_can b φ := propext (ag5_can h)
    simp only [m_tryL, hc, hd 1 (by decide), h 2 (by decide)]
    rw [ag5_tryL n (ag5_upd hd)]
theorem nI_dec (m : Nat) : nI m + Int32.ofInt (-1) = nI m - 1 := by rw [Int32.sub_eq_add_neg]; rfl
/-! the shelves as numbers -/
def sN : Nat → (Nat → Int32) → Nat → Nat → Nat
  | 0, _, _, _ => 0
  | n + 1, f, k, b => nn (f (9 * k + b - 1)) + sN n f k (b + 1)
def okS (f : Nat → Int32) : Prop := ∀ j, j < 36 → ∃ a, a ≤ 10240 ∧ f j = nI a
theorem okS_nn {f : Nat → Int32} (h : okS f) {j : Nat} (hj : j < 36) : f j = nI (nn (f j)) ∧ nn (f j) ≤ 10240 := by
  obtain ⟨a, ha, e⟩ := h j hj
  rw [e, nn_nI (by omega)]
  exact ⟨rfl, ha⟩
theorem sN_le {f : Nat → Int32} (h : okS f) : ∀ (n k b : Nat), k < 4 → 1 ≤ b → n + b ≤ 10 → sN n f k b ≤ n * 10240
  | 0, _, _, _, _, _ => Nat.zero_le _
  | n + 1, k, b, hk, hb, hn => by
    have h1 := (okS_nn h (j := 9 * k + b - 1) (by omega)).2
    have h2 := sN_le h n k (b + 1) hk (by omega) (by omega)
    simp only [sN]
    omega
theorem from_sN {f : Nat → Int32} (h : okS f) : ∀ (n k b : Nat) (acc : Nat), k < 4 → 1 ≤ b → n + b ≤ 10 → p_from n f k b (nI acc) = nI (acc + sN n f k b)
  | 0, _, _, acc, _, _, _ => rfl
  | n + 1, k, b, acc, hk, hb, hn => by
    have h1 := (okS_nn h (j := 9 * k + b - 1) (by omega)).1
    simp only [p_from, sN]
    rw [h1, nI_add, from_sN h n k (b + 1) _ hk (by omega) (by omega), nn_nI (by have := (okS_nn h (j := 9 * k + b - 1) (by omega)).2; omega), Nat.add_assoc]
theorem amount_sN {f : Nat → Int32} (h : okS f) {k b : Nat} (hk : k < 4) (h1 : 1 ≤ b) (h9 : b ≤ 9) : p_amountFrom f k b = nI (sN (10 - b) f k b) := by
  have := from_sN h (10 - b) k b 0 hk h1 (by omega)
  rw [Nat.zero_add] at this
  exact this
theorem sN_upd {f : Nat → Int32} {v : Int32} : ∀ (n k b c : Nat), c < b → sN n (upd f (9 * k + c - 1) v) k b = sN n f k b ∨ c = 0
  | 0, _, _, _, _ => Or.inl rfl
  | n + 1, k, b, c, h => by
    rcases Nat.eq_zero_or_pos c with h0 | h0
    · exact Or.inr h0
    · rcases sN_upd (f := f) (v := v) n k (b + 1) c (by omega) with e | e
      · refine Or.inl ?_
        simp only [sN]
        rw [e, upd_no (by omega)]
      · exact Or.inr e
theorem okS_upd {f : Nat → Int32} (h : okS f) {k a : Nat} (ha : a ≤ 10240) : okS (upd f k (nI a)) := fun j hj => by
  by_cases e : j = k
  · subst e; exact ⟨a, ha, by simp [upd]⟩
  · obtain ⟨b, hb, e2⟩ := h j hj
    exact ⟨b, hb, by simp [upd, e, e2]⟩
theorem jmin_nI {a b : Nat} (ha : a < 2 ^ 31) (hb : b < 2 ^ 31) : jmin (nI a) (nI b) = nI (min a b) := by
  unfold jmin
  by_cases h : b < a
  · rw [if_pos (nI_lt h ha), Nat.min_eq_right (by omega)]
  · rw [if_neg (nI_nlt (by omega) hb), Nat.min_eq_left (by omega)]
theorem jmax_nI {a b : Nat} (ha : a < 2 ^ 31) (hb : b < 2 ^ 31) : jmax (nI a) (nI b) = nI (max a b) := by
  unfold jmax
  by_cases h : a < b
  · rw [if_pos (nI_lt h hb), Nat.max_eq_right (by omega)]
  · rw [if_neg (nI_nlt (by omega) ha), Nat.max_eq_left (by omega)]
/-! digest -/
def dgL : Nat → Nat → (Nat → Int32) → Int64 → Int64
  | 0, _, _, d => d
  | n + 1, i, h, d => dgL n (i + 1) h (d * 31 + (h i).toInt64)
def dgN : Nat → Nat → (Nat → Int64 → Int64) → Int64 → Int64
  | 0, _, _, d => d
  | n + 1, i, h, d => dgN n (i + 1) h (h i d)
def dg_1 (g : Nat → Int32) (nf : Nat) (F : Nat → Nat → Int32) (f : Nat → Int32) (no : Nat) (O : Nat → Nat → Int32) : Int64 := dgL 9 0 (m_count g nf F f no O) 613
def dg_2 (g : Nat → Int32) (nf : Nat) (F : Nat → Nat → Int32) (f : Nat → Int32) (no : Nat) (O : Nat → Nat → Int32) : Int64 := dgL 4 0 (fun k => m_vat g (nI k)) (dg_1 g nf F f no O)
def dg_3 (g : Nat → Int32) (nf : Nat) (F : Nat → Nat → Int32) (f : Nat → Int32) (no : Nat) (O : Nat → Nat → Int32) : Int64 := dgN nf 0 (fun i d => dgL 8 0 (m_frame (F i)) d) (dg_2 g nf F f no O)
def dg_4 (g : Nat → Int32) (nf : Nat) (F : Nat → Nat → Int32) (f : Nat → Int32) (no : Nat) (O : Nat → Nat → Int32) : Int64 := dgN 4 0 (fun k d => dgL 9 1 (fun z => f (9 * k + z - 1)) d) (dg_3 g nf F f no O)
def dg_5 (g : Nat → Int32) (nf : Nat) (F : Nat → Nat → Int32) (f : Nat → Int32) (no : Nat) (O : Nat → Nat → Int32) : Int64 := dgN no 0 (fun j d => dgL 6 0 (V_order f (O j)) d) (dg_4 g nf F f no O)
theorem cut_zz {φ : Nat → Int32} (h : 0 < m_size (φ 2) (φ 4)) : ∃ zz : Nat, 1 ≤ zz ∧ zz ≤ 9 ∧ m_size (φ 2) (φ 4) = nI zz := by
  have h9 : m_size (φ 2) (φ 4) ≤ nI 9 := by
    unfold m_size jmin
    generalize φ 2 / (if φ 4 = 1 then 80 else 40) = t
    split
    · exact Int32.le_of_lt ‹_›
    · exact Int32.le_refl _
  have h1 : p_in (m_size (φ 2) (φ 4)) (nI 0) (nI 9) := ⟨Int32.le_of_lt h, h9⟩
  obtain ⟨k, -, hk, e⟩ := in_of (by decide) (by decide) h1
  rw [e] at h
  exact ⟨k, nI_L (a := 0) (b := k) (by decide) (by omega) h, hk, e⟩
theorem m_fillL_0 {f : Nat → Int32} {k b : Nat} : ∀ n : Nat, m_fillL n f k b (nI 0) = f
  | 0 => rfl
  | n + 1 => by rw [m_fillL, if_neg (by decide)]
def f_fill (f ω : Nat → Int32) : Nat → Int32 := m_fill f (nn (ω 0)) (nn (ω 1)) (ω 2)
theorem sN_step {f : Nat → Int32} {k b n : Nat} {v : Int32} (hb : 1 ≤ b) : sN (n + 1) f k b = nn (f (9 * k + b - 1)) + sN n (upd f (9 * k + b - 1) v) k (b + 1) := by
  rcases sN_upd (f := f) (v := v) n k (b + 1) b (by omega) with h | h
  · rw [h]; rfl
  · omega
theorem p_canFill_k {f ω : Nat → Int32} {k z : Nat} (h0 : nn (ω 0) = k) (h1 : nn (ω 1) = z) : p_canFill f ω ↔ (ω 4 ≠ 1 ∧ ω 2 ≤ p_amountFrom f k z) := by
  subst h0; subst h1; exact Iff.rfl
theorem V_order_k {f ω : Nat → Int32} {k z j : Nat} (h0 : nn (ω 0) = k) (h1 : nn (ω 1) = z) : V_order f ω j = if j < 5 then ω j else if ω 4 ≠ 1 ∧ ω 2 ≤ p_amountFrom f k z then 1 else 0 := by
  subst h0; subst h1; rfl
