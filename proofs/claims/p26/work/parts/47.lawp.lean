/-! ===== what the law checks, in numbers ===== -/
section LWP
variable {φ g g0 : Nat → Int32} {n nf no : Nat} {F O : Nat → Nat → Int32} {f : Nat → Int32}
theorem try_n (hφ : FrV φ) (hg : GN n g) : ∃ t T : Nat, t ≤ 400 ∧ T ≤ 400 ∧ φ 2 = nI t ∧ p_try 1 φ g = nI T ∧
    ((p_can φ g ∧ ¬ 70 < φ 3 ∧ ∃ e : Nat, e ≤ 16 ∧ p_gain φ (g 1) = nI e ∧ T = t + e) ∨ (T ≤ t ∧ t ≤ T + 13 ∧ (p_can φ g → 70 < φ 3))) := by
  obtain ⟨⟨⟨k, w, hk, hw1, hw, e0, e1⟩, t, m, c, ht, hm, hc, e2, e3, e4⟩, hpl, hb⟩ := hφ
  obtain ⟨⟨a, h, ha, hh, g0, g1⟩, -⟩ := hg
  have et : p_try 1 φ g = if p_can φ g then p_dipF φ (g 1) 2 else φ 2 := rfl
  by_cases hcan : p_can φ g
  · rw [if_pos hcan] at et
    have h60 : 60 ≤ h := by
      have := hcan.2.1; rw [g1] at this; exact (nI_leI (by decide) (by omega)).mp this
    by_cases h7 : 70 < φ 3
    · have ez : p_dipF φ (g 1) 2 = jmax 0 (φ 2 - (g 1 - 55) / 5) := by
        obtain ⟨m1, m2, -⟩ := sd_melt (g := g) h7
        rw [← thick_m (g := g) h7]
        by_cases hz : φ 2 + s_up φ g = 0
        · rw [← m1 hz]; rfl
        · rw [← m2 hz]; rfl
      rw [ez, e2, g1, (m55a h60 hh).2] at et
      have hq9 : (h - 55) / 5 ≤ 13 := by omega
      generalize (h - 55) / 5 = q at hq9 et
      rw [coolB (m := t) (k := q) (by omega) (by omega) rfl rfl] at et
      by_cases c9 : t ≤ q
      · rw [if_pos (nI_le c9 (by omega))] at et
        exact ⟨t, 0, ht, by omega, e2, et, Or.inr ⟨by omega, by omega, fun _ => h7⟩⟩
      · rw [if_neg (fun z => c9 ((nI_leI (by omega) (by omega)).mp z)), pk_sub (by omega)] at et
        exact ⟨t, t - q, ht, by omega, e2, et, Or.inr ⟨by omega, by omega, fun _ => h7⟩⟩
    · have h70 : m ≤ 70 := Nat.not_lt.mp (fun q => h7 (by rw [e3]; exact nI_lt q (by omega)))
      have eg := gain_n hk ht h60 hh h70 e0 e2 e3
      have hz : p_dipF φ (g 1) 2 = φ 2 + p_gain φ (g 1) := by unfold p_dipF p_upF; rw [if_neg h7]; rfl
      have hle := @gN_le k t h
      refine ⟨t, t + gN k t h, ht, by omega, e2, ?_, Or.inl ⟨hcan, h7, gN k t h, hle.1, by rw [g1]; exact eg, rfl⟩⟩
      rw [et, hz, g1, eg, e2, nI_add]
  · rw [if_neg hcan] at et
    exact ⟨t, t, ht, ht, e2, by rw [et, e2], Or.inr ⟨by omega, by omega, fun q => absurd q hcan⟩⟩
/-- what advise has found -/
def AdvB (nf : Nat) (F : Nat → Nat → Int32) (g : Nat → Int32) (b : Nat) : Prop :=
  b < nf ∧ p_can (F b) g ∧ 0 < p_gain (F b) (g 1) ∧ ∀ i, i < nf → p_can (F i) g → p_gain (F i) (g 1) ≤ p_gain (F b) (g 1) ∧ (i < b → p_gain (F i) (g 1) < p_gain (F b) (g 1))
theorem advL_spec : ∀ (m i : Nat) (best most : Int32), m + i = nf → 0 ≤ most →
    ((best = -1 ∧ most = 0 ∧ ∀ j, j < i → p_can (F j) g → p_gain (F j) (g 1) ≤ 0) ∨ ∃ b, b < i ∧ best = nI b ∧ most = p_gain (F b) (g 1) ∧ p_can (F b) g ∧ 0 < p_gain (F b) (g 1) ∧ ∀ j, j < i → p_can (F j) g → p_gain (F j) (g 1) ≤ p_gain (F b) (g 1) ∧ (j < b → p_gain (F j) (g 1) < p_gain (F b) (g 1))) →
    (c_advL m i best most g F = -1 ∧ ∀ j, j < nf → p_can (F j) g → p_gain (F j) (g 1) ≤ 0) ∨ ∃ b, c_advL m i best most g F = nI b ∧ AdvB nf F g b
  | 0, i, best, most, hmi, _, h => by
    rw [Nat.zero_add] at hmi
    subst hmi
    rcases h with ⟨h1, -, h3⟩ | ⟨b, h1, h2, h3, h4, h5, h6⟩
    · exact Or.inl ⟨h1, h3⟩
    · exact Or.inr ⟨b, h2, h1, h4, h5, h6⟩
  | m + 1, i, best, most, hmi, hm0, h => by
    rw [c_advL]
    by_cases hc : p_can (F i) g ∧ most < p_gain (F i) (g 1)
    · rw [if_pos hc]
      refine advL_spec m (i + 1) (nI i) _ (by omega) (Int32.le_of_lt (Int32.lt_of_le_of_lt hm0 hc.2)) (Or.inr ⟨i, by omega, rfl, rfl, hc.1, Int32.lt_of_le_of_lt hm0 hc.2, fun j hj hcj => ?_⟩)
      by_cases e : j = i
      · subst e; exact ⟨Int32.le_refl _, fun q => absurd q (Nat.lt_irrefl _)⟩
      · have hlt : p_gain (F j) (g 1) < p_gain (F i) (g 1) := by
          rcases h with ⟨-, h2, h3⟩ | ⟨b, h1, h2, h3, h4, h5, h6⟩
          · exact Int32.lt_of_le_of_lt (h3 j (by omega) hcj) (by rw [← h2]; exact hc.2)
          · exact Int32.lt_of_le_of_lt (h6 j (by omega) hcj).1 (by rw [← h3]; exact hc.2)
        exact ⟨Int32.le_of_lt hlt, fun _ => hlt⟩
    · rw [if_neg hc]
      refine advL_spec m (i + 1) best most (by omega) hm0 ?_
      rcases h with ⟨h1, h2, h3⟩ | ⟨b, h1, h2, h3, h4, h5, h6⟩
      · refine Or.inl ⟨h1, h2, fun j hj hcj => ?_⟩
        by_cases e : j = i
        · subst e; rw [← h2]; exact Int32.not_lt.mp (fun q => hc ⟨hcj, q⟩)
        · exact h3 j (by omega) hcj
      · refine Or.inr ⟨b, by omega, h2, h3, h4, h5, fun j hj hcj => ?_⟩
        by_cases e : j = i
        · subst e
          exact ⟨by rw [← h3]; exact Int32.not_lt.mp (fun q => hc ⟨hcj, q⟩), fun q => by omega⟩
        · exact h6 j (by omega) hcj
theorem adv_spec : (c_advL nf 0 (-1) 0 g F = -1 ∧ ∀ j, j < nf → p_can (F j) g → p_gain (F j) (g 1) ≤ 0) ∨ ∃ b, c_advL nf 0 (-1) 0 g F = nI b ∧ AdvB nf F g b :=
  advL_spec nf 0 (-1) 0 rfl (Int32.le_refl _) (Or.inl ⟨rfl, rfl, fun j hj => absurd hj (Nat.not_lt_zero _)⟩)
theorem gain_hot {h : Int32} (h7 : 70 < φ 3) : p_gain φ h = 0 := if_pos h7
/-- the advised frame: what it would gain -/
theorem adv_best {b : Nat} (hF : ∀ i, i < nf → FrV (F i)) (hg : GN n g) (h : AdvB nf F g b) :
    p_try 1 (F b) g - F b 2 = p_gain (F b) (g 1) ∧ (∃ M : Nat, 1 ≤ M ∧ M ≤ 16 ∧ p_gain (F b) (g 1) = nI M) ∧ F b 3 ≤ 70 ∧ F b 5 ≠ -1 ∧ ¬ 70 < F b 3 := by
  obtain ⟨hb, hc, hpos, -⟩ := h
  have h7 : ¬ 70 < F b 3 := fun q => by rw [gain_hot q] at hpos; exact absurd hpos (by decide)
  obtain ⟨t, T, ht, hT, e2, eT, h⟩ := try_n (hF b hb) hg
  rcases h with ⟨-, -, e, he, ee, eTt⟩ | ⟨-, -, hz⟩
  · refine ⟨?_, ⟨e, ?_, he, ee⟩, Int32.not_lt.mp h7, hc.1, h7⟩
    · rw [eT, e2, ee, eTt, pk_sub (by omega), Nat.add_sub_cancel_left]
    · rw [ee] at hpos
      exact (nI_ltI (a := 0) (b := e) (by decide) (by omega)).mp hpos
  · exact absurd (hz hc) h7
/-- what the law asks of the others -/
theorem adv_chk {b k : Nat} (hF : ∀ i, i < nf → FrV (F i)) (hg : GN n g) (h : AdvB nf F g b) (hk : k < nf) :
    (p_try 1 (F k) g - F k 2 ≤ p_gain (F b) (g 1)) ∧ (p_try 1 (F k) g - F k 2 = p_gain (F b) (g 1) → ¬ k < b) ∧ (p_try 1 (F k) g - F k 2 ≤ 16) ∧ (-13 ≤ p_try 1 (F k) g - F k 2) := by
  obtain ⟨-, ⟨M, hM1, hM, eM⟩, -⟩ := adv_best hF hg h
  obtain ⟨t, T, ht, hT, e2, eT, h9⟩ := try_n (hF k hk) hg
  have hs : (nI T - nI t).toInt = (T : Int) - (t : Int) := pk_sub_toInt (by omega) (by omega)
  rw [eT, e2]
  rcases h9 with ⟨hc, h7, e, he, ee, eTt⟩ | ⟨h1, h2, -⟩
  · obtain ⟨a, b9⟩ := h.2.2.2 k hk hc
    have es : nI T - nI t = nI e := by rw [eTt, pk_sub (by omega), Nat.add_sub_cancel_left]
    rw [es]
    refine ⟨by rw [← ee]; exact a, fun q hkb => ?_, nI_le (b := 16) he (by decide), Int32.le_trans (by decide : (-13 : Int32) ≤ 0) (nI_le (a := 0) (Nat.zero_le _) (by omega))⟩
    have := b9 hkb
    rw [ee, q] at this
    exact Int32.lt_irrefl this
  · refine ⟨?_, fun q => ?_, ?_, ?_⟩
    · rw [eM, Int32.le_iff_toInt_le, hs, nI_toInt (by omega)]; omega
    · exfalso
      rw [eM] at q
      have := congrArg Int32.toInt q
      rw [hs, nI_toInt (by omega)] at this
      omega
    · rw [Int32.le_iff_toInt_le, hs]; show _ ≤ (16 : Int); omega
    · rw [Int32.le_iff_toInt_le, hs]; show (-13 : Int) ≤ _; omega
theorem adv_none {k : Nat} (hF : ∀ i, i < nf → FrV (F i)) (hg : GN n g) (h : ∀ j, j < nf → p_can (F j) g → p_gain (F j) (g 1) ≤ 0) (hk : k < nf) : p_try 1 (F k) g ≤ F k 2 := by
  obtain ⟨t, T, ht, hT, e2, eT, h9⟩ := try_n (hF k hk) hg
  rw [eT, e2]
  rcases h9 with ⟨hc, h7, e, he, ee, eTt⟩ | ⟨h1, h2, -⟩
  · have := h k hk hc
    rw [ee] at this
    have := (nI_leI (a := e) (b := 0) (by omega) (by decide)).mp this
    exact nI_le (by omega) (by omega)
  · exact nI_le h1 (by omega)
/-! orders that are late -/
def cW (O : Nat → Nat → Int32) (z : Int32) : Nat → Nat → Nat
  | 0, _ => 0
  | m + 1, i => (if O i 4 = z then 1 else 0) + cW O z m (i + 1)
theorem cW_le {z : Int32} : ∀ m i, cW O z m i ≤ m
  | 0, _ => Nat.le_refl _
  | m + 1, i => by
    have := cW_le (z := z) m (i + 1)
    rw [cW]
    split <;> omega
theorem withL_n {z : Int32} : ∀ (m i a : Nat), m_withL m i O z (nI a) = nI (a + cW O z m i)
  | 0, _, _ => rfl
  | m + 1, i, a => by
    rw [m_withL, cW]
    by_cases h : O i 4 = z
    · rw [if_pos h, if_pos h, nI_1, withL_n m (i + 1) (a + 1)]
      congr 1; omega
    · rw [if_neg h, if_neg h, Int32.add_zero, withL_n m (i + 1) a]
      congr 1; omega
theorem with_n {z : Int32} : m_with no O z = nI (cW O z no 0) := by
  have h := withL_n (O := O) (z := z) no 0 0
  rw [Nat.zero_add] at h
  exact h
theorem cW_mono {O' : Nat → Nat → Int32} {z : Int32} (h : ∀ j, O j 4 = z → O' j 4 = z) : ∀ m i, cW O z m i ≤ cW O' z m i
  | 0, _ => Nat.le_refl _
  | m + 1, i => by
    have := cW_mono h m (i + 1)
    rw [cW, cW]
    by_cases h1 : O i 4 = z
    · rw [if_pos h1, if_pos (h i h1)]; omega
    · rw [if_neg h1]; split <;> omega
theorem late_up (hn : no ≤ 20) : m_with no O 2 ≤ m_with no (m_qO no g O) 2 := by
  rw [with_n, with_n]
  refine nI_le (cW_mono (fun j hj => ?_) no 0) (by have := cW_le (O := m_qO no g O) (z := 2) no 0; omega)
  unfold m_qO
  split
  · unfold m_lateTo
    split
    · rfl
    · exact hj
  · exact hj
theorem late_day (h : ¬ (g 3 + 1) - (g 3 + 1) / 40 * 40 = 0) : m_qO no g O = O := if_neg h
/-! what the law kept of the frames -/
def wR (j : Nat) (φ : Nat → Int32) : Nat → Int32 := fun x => if x < j then c_frame φ x else 0
theorem wR_0 : wR 0 φ = fun _ => 0 := by funext x; unfold wR; rw [if_neg (Nat.not_lt_zero x)]
theorem wR_s {j : Nat} : upd (wR j φ) j (c_frame φ j) = wR (j + 1) φ := by
  funext x
  show (if x = j then c_frame φ j else if x < j then c_frame φ x else 0) = if x < j + 1 then c_frame φ x else 0
  by_cases h : x = j
  · subst h; rw [if_pos rfl, if_pos (by omega)]
  · rw [if_neg h]
    by_cases h2 : x < j
    · rw [if_pos h2, if_pos (by omega)]
    · rw [if_neg h2, if_neg (by omega)]
section WWs
variable {G : mG} {ad : Nat → Nat} {R : mM} {A A' : Nat → Nat → Int32} {w : Int32} {tf tv fw : Nat → Int32} {lo : Nat} {H : Heap}
theorem WW_60 : WW G ad nf A R 60 = some (rfA G 1 nf (adF ad 240 nf)) := by unfold WW; rw [if_pos rfl]
theorem was_new (hn : nf ≤ 12) : mMul G ad 60 240 nf 8 (WS G ad g nf F f no O w (WC G ad g nf F f no O tf tv fw R)) = WS G ad g nf F f no O w (WC G ad g nf F f no O tf tv fw (WW G ad nf (fun _ _ => 0) R)) := by
  funext r
  by_cases h60 : r = 60
  · subst h60
    rw [WS_at (by omega) (WC_at2 (by omega) WW_60)]
    unfold mMul; rw [if_pos rfl]
  · by_cases h240 : 240 ≤ r ∧ r < 240 + nf
    · obtain ⟨i, rfl⟩ : ∃ i, r = 240 + i := ⟨r - 240, by omega⟩
      rw [WS_at (by omega) (WC_at2 (by omega) (WW_r (by omega)))]
      unfold mMul; rw [if_neg h60, if_pos h240]
    · rw [mMul_at h60 h240 rfl]
      by_cases h1 : outS r
      · rw [WS_at h1 rfl, WS_at h1 rfl]
        by_cases h2 : 10 ≤ r ∧ (r < 100 ∨ 140 ≤ r)
        · rw [WC_at2 h2 rfl, WC_at2 h2 rfl]
          unfold WW; rw [if_neg h60, if_neg h240]
        · unfold WC
          by_cases h3 : r < 10
          · rw [if_pos h3, if_pos h3]
          · rw [if_neg h3, if_neg h3]
            by_cases h4 : 100 ≤ r ∧ r < 112
            · rw [if_pos h4, if_pos h4]
            · have h5 : 120 ≤ r ∧ r < 140 ∨ 112 ≤ r ∧ r < 120 := by omega
              rw [if_neg h4, if_neg h4]
              rcases h5 with h5 | h5
              · rw [if_pos h5, if_pos h5]
              · rw [if_neg (by omega), if_neg (by omega)]
                unfold WW; rw [if_neg h60, if_neg h240]
      · unfold WS
        by_cases h2 : 50 ≤ r ∧ r < 58
        · rw [if_pos h2, if_pos h2]
        · by_cases h3 : 200 ≤ r ∧ r < 212
          · rw [if_neg h2, if_neg h2, if_pos h3, if_pos h3]
          · have h4 : 220 ≤ r ∧ r < 240 := by omega
            rw [if_neg h2, if_neg h2, if_neg h3, if_neg h3, if_pos h4, if_pos h4]
theorem was_gone (hz : ∀ x, 50 ≤ x → R x = none) (hO : mO G lo ad (WS G ad g nf F f no O w (WC G ad g nf F f no O tf tv fw (WW G ad nf A R))) H) : mO G lo ad (WS G ad g nf F f no O w (WC G ad g nf F f no O tf tv fw R)) H := by
  refine hO.drop (fun q e hq => ?_)
  by_cases h1 : outS q
  · rw [WS_at h1 rfl] at hq ⊢
    by_cases h2 : 10 ≤ q ∧ (q < 100 ∨ 140 ≤ q)
    · rw [WC_at2 h2 rfl] at hq ⊢
      have hlt : q < 50 := Nat.not_le.mp (fun z => by rw [hz q z] at hq; cases hq)
      rw [WW_at (by omega) rfl]; exact hq
    · unfold WC at hq ⊢
      by_cases h3 : q < 10
      · rw [if_pos h3] at hq ⊢; exact hq
      · rw [if_neg h3] at hq ⊢
        by_cases h4 : 100 ≤ q ∧ q < 112
        · rw [if_pos h4] at hq ⊢; exact hq
        · rw [if_neg h4] at hq ⊢
          by_cases h5 : 120 ≤ q ∧ q < 140
          · rw [if_pos h5] at hq ⊢; exact hq
          · rw [if_neg h5] at hq; rw [hz q (by omega)] at hq; cases hq
  · unfold WS at hq ⊢
    by_cases h2 : 50 ≤ q ∧ q < 58
    · rw [if_pos h2] at hq ⊢; exact hq
    · by_cases h3 : 200 ≤ q ∧ q < 212
      · rw [if_neg h2, if_pos h3] at hq ⊢; exact hq
      · have h4 : 220 ≤ q ∧ q < 240 := by omega
        rw [if_neg h2, if_neg h3, if_pos h4] at hq ⊢; exact hq
end WWs
/-! the frame that was dipped -/
theorem up_2 (h7 : ¬ 70 < φ 3) {h : Int32} : p_dipF φ h 2 = φ 2 + p_gain φ h := by unfold p_dipF p_upF; rw [if_neg h7]; rfl
theorem up_3 (h7 : ¬ 70 < φ 3) {h : Int32} : p_dipF φ h 3 = jmin 100 ((φ 3 + h) / 2) := by unfold p_dipF p_upF; rw [if_neg h7]; rfl
theorem up_4y (h7 : ¬ 70 < φ 3) {h : Int32} (h1 : φ 4 = 1 ∨ (φ 2 ≠ 0 ∧ φ 3 < 10)) : p_dipF φ h 4 = 1 := by
  unfold p_dipF p_upF
  rw [if_neg h7]
  show (if _ then _ else _ : Nat → Int32) 4 = 1
  by_cases c : upd φ 6 (φ 6 + 1) 2 ≠ 0 ∧ upd φ 6 (φ 6 + 1) 3 < 10
  · rw [if_pos c]; rfl
  · rw [if_neg c]
    rcases h1 with h1 | h1
    · exact h1
    · exact absurd h1 c
theorem up_4n (h7 : ¬ 70 < φ 3) {h : Int32} (h0 : φ 4 = 0 ∨ φ 4 = 1) (h1 : ¬ φ 4 = 1) (h2 : ¬ (φ 2 ≠ 0 ∧ φ 3 < 10)) : p_dipF φ h 4 = 0 := by
  unfold p_dipF p_upF
  rw [if_neg h7]
  show (if _ then _ else _ : Nat → Int32) 4 = 0
  rw [if_neg (show ¬ (upd φ 6 (φ 6 + 1) 2 ≠ 0 ∧ upd φ 6 (φ 6 + 1) 3 < 10) from h2)]
  exact h0.resolve_right h1
theorem up_0 (h7 : ¬ 70 < φ 3) {g : Nat → Int32} : p_dipV φ g 0 = g 0 - p_gain φ (g 1) * (8 + φ 0) * φ 1 / 10 := by
  unfold p_dipV p_upV; rw [if_neg h7]; rfl
theorem thick_pos (hφ : FrV φ) (h : ¬ φ 2 ≤ 0) : φ 2 ≠ 0 := fun e => h (by rw [e]; decide)
theorem fr_bounds (hφ : FrV φ) : 0 ≤ φ 2 ∧ φ 2 ≤ 400 ∧ 0 ≤ φ 3 ∧ φ 3 ≤ 100 ∧ p_size φ ≤ 9 ∧ (φ 2 = 0 → φ 4 ≠ 1) := by
  obtain ⟨⟨-, t, m, c, ht, hm, hc, e2, e3, e4⟩, -, hb⟩ := hφ
  refine ⟨by rw [e2]; exact nI_le (a := 0) (Nat.zero_le _) (by omega), by rw [e2]; exact nI_le (b := 400) ht (by decide), by rw [e3]; exact nI_le (a := 0) (Nat.zero_le _) (by omega), by rw [e3]; exact nI_le (b := 100) hm (by decide), ?_, fun h => by rw [hb h]; decide⟩
  unfold p_size jmin
  generalize φ 2 / (if φ 4 = 0 then 40 else 80) = x
  split
  · exact Int32.le_of_lt ‹_›
  · exact Int32.le_refl _
end LWP
