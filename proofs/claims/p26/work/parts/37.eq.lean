/-! ===== the class's readings are the reference's ===== -/
def gN (k t h : Nat) : Nat := min (12 - (h - 60) / 8 + (if t = 0 then 4 else 0) - (if k = 3 then 3 else 0)) (400 - t)
theorem gN_le {k t h : Nat} : gN k t h ≤ 16 ∧ gN k t h ≤ 400 - t := by
  unfold gN
  refine ⟨Nat.le_trans (Nat.min_le_left _ _) ?_, Nat.min_le_right _ _⟩
  split <;> split <;> omega
theorem base_n {h : Nat} (h6 : 60 ≤ h) (h2 : h ≤ 120) : (12 : Int32) - (nI h - 60) / 8 = nI (12 - (h - 60) / 8) := by
  rw [show (60 : Int32) = nI 60 from rfl, pk_sub h6, show (8 : Int32) = nI 8 from rfl, pk_div (by omega) (by decide) (by decide), show (12 : Int32) = nI 12 from rfl, pk_sub (by omega)]
theorem grow_n {it φ : Nat → Int32} {k t h m : Nat} (hk : k < 4) (ht : t ≤ 400) (h6 : 60 ≤ h) (h2 : h ≤ 120) (hm : m ≤ 70) (e0 : φ 0 = nI k) (e1 : it 1 = nI h) (e2 : it 2 = nI t) (e3 : it 3 = nI m) : m_grow it φ = nI (gN k t h) := by
  unfold m_grow gN
  rw [e0, e1, e2, e3, if_neg (show ¬ (70 : Int32) < nI m from nI_nlt (a := 70) (b := m) hm (by omega)), base_n h6 h2, show (400 : Int32) = nI 400 from rfl, pk_sub ht]
  have a1 : (if nI t = 0 then (4 : Int32) else 0) = nI (if t = 0 then 4 else 0) := by
    have t0 : nI t = (0 : Int32) ↔ t = 0 := nI_eq (a := t) (b := 0) (by omega) (by decide)
    by_cases q : t = 0
    · rw [if_pos (t0.mpr q), if_pos q]; rfl
    · rw [if_neg (fun z => q (t0.mp z)), if_neg q]; rfl
  have k3 : nI k = (3 : Int32) ↔ k = 3 := nI_eq (a := k) (b := 3) (by omega) (by decide)
  have a2 : (if nI k = 3 then (3 : Int32) else 0) = nI (if k = 3 then 3 else 0) := by
    by_cases q : k = 3
    · rw [if_pos (k3.mpr q), if_pos q]; rfl
    · rw [if_neg (fun z => q (k3.mp z)), if_neg q]; rfl
  rw [a1, a2, nI_add, pk_sub (by split <;> split <;> omega), jmin_nI (by split <;> split <;> omega) (by omega)]
theorem gain_n {φ : Nat → Int32} {k t h m : Nat} (hk : k < 4) (ht : t ≤ 400) (h6 : 60 ≤ h) (h2 : h ≤ 120) (hm : m ≤ 70) (e0 : φ 0 = nI k) (e2 : φ 2 = nI t) (e3 : φ 3 = nI m) : p_gain φ (nI h) = nI (gN k t h) := by
  unfold p_gain gN
  rw [e0, e2, e3, if_neg (show ¬ (70 : Int32) < nI m from nI_nlt (a := 70) (b := m) hm (by omega)), base_n h6 h2, show (400 : Int32) = nI 400 from rfl, pk_sub ht]
  have a1 : (if nI t = 0 then nI (12 - (h - 60) / 8) + 4 else nI (12 - (h - 60) / 8)) = nI (12 - (h - 60) / 8 + (if t = 0 then 4 else 0)) := by
    have t0 : nI t = (0 : Int32) ↔ t = 0 := nI_eq (a := t) (b := 0) (by omega) (by decide)
    by_cases q : t = 0
    · rw [if_pos (t0.mpr q), if_pos q, show (4 : Int32) = nI 4 from rfl, nI_add]
    · rw [if_neg (fun z => q (t0.mp z)), if_neg q]; rfl
  rw [a1]
  have a2 : (if nI k = 3 then nI (12 - (h - 60) / 8 + (if t = 0 then 4 else 0)) + (-3) else nI (12 - (h - 60) / 8 + (if t = 0 then 4 else 0))) = nI (12 - (h - 60) / 8 + (if t = 0 then 4 else 0) - (if k = 3 then 3 else 0)) := by
    have k3 : nI k = (3 : Int32) ↔ k = 3 := nI_eq (a := k) (b := 3) (by omega) (by decide)
    by_cases q : k = 3
    · rw [if_pos (k3.mpr q), if_pos q, show (-3 : Int32) = -(nI 3) from rfl, ← Int32.sub_eq_add_neg, pk_sub (by split <;> omega)]
    · rw [if_neg (fun z => q (k3.mp z)), if_neg q]; rfl
  rw [a2, jmin_nI (by split <;> split <;> omega) (by omega)]
theorem wax_n {φ : Nat → Int32} {k w n : Nat} (hk : k < 4) (hw : w ≤ 20) (hn : n ≤ 400) (e0 : φ 0 = nI k) (e1 : φ 1 = nI w) : p_wax φ (nI n) = nI (n * (8 + k) * w / 10) := by
  unfold p_wax
  have h1 : n * (8 + k) ≤ 400 * 11 := Nat.mul_le_mul hn (by omega)
  have h2 : n * (8 + k) * w ≤ 400 * 11 * 20 := Nat.mul_le_mul h1 hw
  rw [e0, e1, show (8 : Int32) = nI 8 from rfl, nI_add, pk_mul, pk_mul, show (10 : Int32) = nI 10 from rfl, pk_div (by omega) (by decide) (by decide)]
/-- a trial: the class's frame and vat, the reference's row of five -/
def Rl (φ' ν' it φ : Nat → Int32) (lv : Int32) : Prop := φ' 0 = φ 0 ∧ φ' 1 = φ 1 ∧ φ' 5 = φ 5 ∧ φ' 2 = it 2 ∧ φ' 3 = it 3 ∧ φ' 4 = it 4 ∧ ν' 0 = it 0 ∧ ν' 1 = it 1 ∧ ν' 2 = lv
def IR (it φ : Nat → Int32) (lv : Int32) : Prop := (∃ k w : Nat, k < 4 ∧ 1 ≤ w ∧ w ≤ 20 ∧ φ 0 = nI k ∧ φ 1 = nI w) ∧ (∃ a h : Nat, a ≤ 20000 ∧ h ≤ 120 ∧ it 0 = nI a ∧ it 1 = nI h) ∧ (∃ t m c : Nat, t ≤ 400 ∧ m ≤ 100 ∧ c ≤ 1 ∧ it 2 = nI t ∧ it 3 = nI m ∧ it 4 = nI c) ∧ ∃ l : Nat, l ≤ 5 ∧ lv = nI l
theorem wax_0 {φ : Nat → Int32} : p_wax φ 0 = 0 := by
  unfold p_wax
  rw [Int32.zero_mul, Int32.zero_mul]; rfl
theorem can_sync {φ' ν' it φ : Nat → Int32} {lv : Int32} (hR : Rl φ' ν' it φ lv) (hI : IR it φ lv) (h5 : φ' 5 ≠ -1) : p_can φ' ν' ↔ m_can it φ := by
  obtain ⟨r0, r1, r5, r2, r3, r4, n0, n1, n2⟩ := hR
  obtain ⟨⟨k, w, hk, hw1, hw2, e0, e1⟩, ⟨a, h, ha, hh, i0, i1⟩, ⟨t, m, c, ht, hm, hc, i2, i3, i4⟩, -⟩ := hI
  unfold p_can m_can
  rw [n0, n1]
  by_cases h7 : 70 < it 3
  · have hg : p_gain φ' (it 1) = 0 := by unfold p_gain; rw [r3, if_pos h7]
    rw [hg, wax_0, i0]
    exact ⟨fun q => ⟨q.2.1, Or.inl h7⟩, fun q => ⟨h5, q.1, nI_pos' (by omega)⟩⟩
  · have hm7 : m ≤ 70 := by rw [i3] at h7; exact nI_nL (a := 70) (b := m) (by decide) (by omega) h7
    by_cases h6 : 60 ≤ it 1
    · have h6n : 60 ≤ h := by rw [i1] at h6; exact nI_E (a := 60) (b := h) (by decide) (by omega) h6
      have g1 := grow_n (it := it) (φ := φ) hk ht h6n hh hm7 e0 i1 i2 i3
      have g2 := gain_n (φ := φ') hk ht h6n hh hm7 (r0.trans e0) (r2.trans i2) (r3.trans i3)
      rw [g1, i1, g2]
      have hw' : p_wax φ' (nI (gN k t h)) = p_wax φ (nI (gN k t h)) := by unfold p_wax; rw [r0, r1]
      rw [hw']
      rw [i1] at h6
      exact ⟨fun q => ⟨q.2.1, Or.inr q.2.2⟩, fun q => ⟨h5, q.1, q.2.resolve_left h7⟩⟩
    · exact ⟨fun q => absurd q.2.1 h6, fun q => absurd q.1 h6⟩
theorem burn_n {h l : Nat} (hh : h ≤ 120) (hl : l ≤ 5) : ∃ b : Nat, b ≤ 120 ∧ p_burn (nI l) (nI h) = nI b := by
  unfold p_burn
  have h9 : p_in (jmax 0 (jmin 120 (nI h + 6 * nI l - (nI h + 6 * nI l - 20) / 10))) (nI 0) (nI 120) := by
    generalize nI h + 6 * nI l - (nI h + 6 * nI l - 20) / 10 = x
    unfold jmax jmin
    by_cases q1 : x < 120
    · rw [if_pos q1]
      by_cases q2 : 0 < x
      · rw [if_pos q2]; exact ⟨Int32.le_of_lt q2, Int32.le_of_lt q1⟩
      · rw [if_neg q2]; exact ⟨by decide, by decide⟩
    · rw [if_neg q1, if_pos (by decide)]; exact ⟨by decide, by decide⟩
  obtain ⟨b, -, hb, e⟩ := in_of (by decide) (by decide) h9
  exact ⟨b, hb, e⟩

theorem wq {n k w a : Nat} (h : n * (8 + k) * w / 10 ≤ a) (ha : a ≤ 20000) : a - n * (8 + k) * w / 10 ≤ 20000 := by omega
/-- a dip of both -/
theorem dip_sync {φ' ν' it φ : Nat → Int32} {lv : Int32} (hR : Rl φ' ν' it φ lv) (hI : IR it φ lv) (hc : m_can it φ) : Rl (p_dipF φ' (ν' 1)) (p_dipV φ' ν') (m_dip it φ) φ lv ∧ IR (m_dip it φ) φ lv := by
  obtain ⟨r0, r1, r5, r2, r3, r4, n0, n1, n2⟩ := hR
  obtain ⟨⟨k, w, hk, hw1, hw2, e0, e1⟩, ⟨a, h, ha, hh, i0, i1⟩, ⟨t, m, c, ht, hm, hc1, i2, i3, i4⟩, hl⟩ := hI
  have h6 : 60 ≤ h := by have := hc.1; rw [i1] at this; exact nI_E (a := 60) (b := h) (by decide) (by omega) this
  by_cases h7 : 70 < it 3
  · -- it melts
    have h7' : 70 < φ' 3 := by rw [r3]; exact h7
    have hd : nI h - 55 = nI (h - 55) := by rw [show (55 : Int32) = nI 55 from rfl, pk_sub (by omega)]
    have hd5 : (nI h - 55) / 5 = nI ((h - 55) / 5) := by rw [hd, show (5 : Int32) = nI 5 from rfl, pk_div (by omega) (by decide) (by decide)]
    have hg : m_grow it φ = -(nI (min t ((h - 55) / 5))) := by
      unfold m_grow
      rw [if_pos h7, i1, i2, hd5, jmin_nI (by omega) (by omega)]
    have hth : it 2 + m_grow it φ = nI (t - min t ((h - 55) / 5)) := by
      rw [hg, i2, ← Int32.sub_eq_add_neg, pk_sub (Nat.min_le_left _ _)]
    have hp2 : jmax 0 (φ' 2 - (ν' 1 - 55) / 5) = nI (t - min t ((h - 55) / 5)) := by
      rw [r2, n1, i1, i2, hd5]
      unfold jmax
      by_cases q : (h - 55) / 5 < t
      · rw [pk_sub (by omega), if_pos (show (0 : Int32) < nI (t - (h - 55) / 5) from nI_lt (a := 0) (by omega) (by omega)), Nat.min_eq_right (by omega)]
      · rw [if_neg, Nat.min_eq_left (by omega), Nat.sub_self]
        · rfl
        · rw [Int32.lt_iff_toInt_lt, pk_sub_toInt (by omega) (by omega), Int32.toInt_zero]; omega
    have hN : t - min t ((h - 55) / 5) ≤ 400 := by omega
    generalize t - min t ((h - 55) / 5) = T at hth hp2 hN
    have eF : p_dipF φ' (ν' 1) = p_meltF (upd φ' 6 (φ' 6 + 1)) (ν' 1) := by unfold p_dipF; rw [if_pos h7']
    have eV : p_dipV φ' ν' = ν' := by unfold p_dipV; rw [if_pos h7']
    have hp2' : jmax 0 (upd φ' 6 (φ' 6 + 1) 2 - (ν' 1 - 55) / 5) = nI T := by rw [upd_no (by decide)]; exact hp2
    by_cases q : nI T = 0
    · have eM : m_dip it φ = upd (upd (upd it 2 (nI T)) 4 0) 3 100 := by unfold m_dip; rw [if_pos h7, hth, if_pos q]
      have eP : p_meltF (upd φ' 6 (φ' 6 + 1)) (ν' 1) = upd (upd (upd (upd φ' 6 (φ' 6 + 1)) 2 (nI T)) 4 0) 3 100 := by unfold p_meltF; rw [hp2', if_pos q]
      rw [eF, eV, eM, eP]
      exact ⟨⟨r0, r1, r5, rfl, rfl, rfl, n0, n1, n2⟩, ⟨k, w, hk, hw1, hw2, e0, e1⟩, ⟨a, h, ha, hh, i0, i1⟩, ⟨T, 100, 0, hN, by omega, by omega, rfl, rfl, rfl⟩, hl⟩
    · have eM : m_dip it φ = upd (upd it 2 (nI T)) 3 100 := by unfold m_dip; rw [if_pos h7, hth, if_neg q]
      have eP : p_meltF (upd φ' 6 (φ' 6 + 1)) (ν' 1) = upd (upd (upd φ' 6 (φ' 6 + 1)) 2 (nI T)) 3 100 := by unfold p_meltF; rw [hp2', if_neg q]
      rw [eF, eV, eM, eP]
      exact ⟨⟨r0, r1, r5, rfl, rfl, r4, n0, n1, n2⟩, ⟨k, w, hk, hw1, hw2, e0, e1⟩, ⟨a, h, ha, hh, i0, i1⟩, ⟨T, 100, c, hN, by omega, hc1, rfl, rfl, i4⟩, hl⟩
  · -- it grows
    have h7' : ¬ 70 < φ' 3 := by rw [r3]; exact h7
    have hm7 : m ≤ 70 := by rw [i3] at h7; exact nI_nL (a := 70) (b := m) (by decide) (by omega) h7
    have g1 := grow_n (it := it) (φ := φ) hk ht h6 hh hm7 e0 i1 i2 i3
    have g2 : p_gain (upd φ' 6 (φ' 6 + 1)) (ν' 1) = nI (gN k t h) := by
      rw [n1, i1]
      exact gain_n (φ := upd φ' 6 (φ' 6 + 1)) hk ht h6 hh hm7 (by rw [upd_no (by decide)]; exact r0.trans e0) (by rw [upd_no (by decide)]; exact r2.trans i2) (by rw [upd_no (by decide)]; exact r3.trans i3)
    obtain ⟨gl, gt⟩ := gN_le (k := k) (t := t) (h := h)
    generalize gN k t h = n at g1 g2 gl gt
    have w1 := wax_n (φ := φ) hk hw2 (n := n) (by omega) e0 e1
    have w2 : p_wax (upd φ' 6 (φ' 6 + 1)) (nI n) = nI (n * (8 + k) * w / 10) := wax_n (φ := upd φ' 6 (φ' 6 + 1)) hk hw2 (n := n) (by omega) (by rw [upd_no (by decide)]; exact r0.trans e0) (by rw [upd_no (by decide)]; exact r1.trans e1)
    have hwax : n * (8 + k) * w / 10 ≤ a := by
      have := hc.2.resolve_left h7
      rw [g1, w1, i0] at this
      have hb1 : n * (8 + k) ≤ 16 * 11 := Nat.mul_le_mul gl (by omega)
      have hb2 : n * (8 + k) * w ≤ 16 * 11 * 20 := Nat.mul_le_mul hb1 hw2
      exact nI_E (by omega) (by omega) this
    have hwq := wq hwax ha
    generalize n * (8 + k) * w / 10 = x at w1 w2 hwax hwq
    have s0 : it 0 - nI x = nI (a - x) := by rw [i0, pk_sub hwax]
    have s2 : it 2 + nI n = nI (t + n) := by rw [i2, nI_add]
    have s3 : jmin 100 ((it 3 + it 1) / 2) = nI (min 100 ((m + h) / 2)) := by
      rw [i3, i1, nI_add, show (2 : Int32) = nI 2 from rfl, pk_div (by omega) (by decide) (by decide), show (100 : Int32) = nI 100 from rfl, jmin_nI (by decide) (by omega)]
    have hs3 : min 100 ((m + h) / 2) ≤ 100 := Nat.min_le_left _ _
    generalize min 100 ((m + h) / 2) = M at s3 hs3
    have eF : p_dipF φ' (ν' 1) = p_upF (upd φ' 6 (φ' 6 + 1)) (ν' 1) := by unfold p_dipF; rw [if_neg h7']
    have eV : p_dipV φ' ν' = p_upV (upd φ' 6 (φ' 6 + 1)) ν' := by unfold p_dipV; rw [if_neg h7']
    have eW : p_upV (upd φ' 6 (φ' 6 + 1)) ν' = upd ν' 0 (nI (a - x)) := by unfold p_upV; rw [g2, w2, n0, s0]
    have hcnd : (upd φ' 6 (φ' 6 + 1) 2 ≠ 0 ∧ upd φ' 6 (φ' 6 + 1) 3 < 10) ↔ (0 < it 2 ∧ it 3 < 10) := by
      rw [upd_no (by decide), upd_no (by decide), r2, r3, i2]
      by_cases q : t = 0
      · subst q; exact ⟨fun z => absurd rfl z.1, fun z => absurd z.1 (by decide)⟩
      · exact ⟨fun z => ⟨nI_lt (a := 0) (by omega) (by omega), z.2⟩, fun z => ⟨nI_ne0 (by omega) (by omega), z.2⟩⟩
    by_cases q : 0 < it 2 ∧ it 3 < 10
    · have eM : m_dip it φ = upd (upd (upd (upd it 4 1) 0 (nI (a - x))) 2 (nI (t + n))) 3 (nI M) := by unfold m_dip; rw [if_neg h7, if_pos q, g1, w1, s0, s2, s3]
      have eP : p_upF (upd φ' 6 (φ' 6 + 1)) (ν' 1) = upd (upd (upd (upd φ' 6 (φ' 6 + 1)) 4 1) 2 (nI (t + n))) 3 (nI M) := by
        unfold p_upF
        rw [if_pos (hcnd.mpr q), g2, upd_no (by decide), upd_no (by decide), r2, s2, r3, n1, s3]
      rw [eF, eV, eM, eP, eW]
      exact ⟨⟨r0, r1, r5, rfl, rfl, rfl, rfl, n1, n2⟩, ⟨k, w, hk, hw1, hw2, e0, e1⟩, ⟨a - x, h, hwq, hh, rfl, i1⟩, ⟨t + n, M, 1, by omega, hs3, by omega, rfl, rfl, rfl⟩, hl⟩
    · have eM : m_dip it φ = upd (upd (upd it 0 (nI (a - x))) 2 (nI (t + n))) 3 (nI M) := by unfold m_dip; rw [if_neg h7, if_neg q, g1, w1, s0, s2, s3]
      have eP : p_upF (upd φ' 6 (φ' 6 + 1)) (ν' 1) = upd (upd (upd φ' 6 (φ' 6 + 1)) 2 (nI (t + n))) 3 (nI M) := by
        unfold p_upF
        rw [if_neg (fun z => q (hcnd.mp z)), g2, upd_no (by decide), upd_no (by decide), r2, s2, r3, n1, s3]
      rw [eF, eV, eM, eP, eW]
      exact ⟨⟨r0, r1, r5, rfl, rfl, r4, rfl, n1, n2⟩, ⟨k, w, hk, hw1, hw2, e0, e1⟩, ⟨a - x, h, hwq, hh, rfl, i1⟩, ⟨t + n, M, c, by omega, hs3, hc1, rfl, rfl, i4⟩, hl⟩

theorem burn_sync {φ' ν' it φ : Nat → Int32} {lv : Int32} (hR : Rl φ' ν' it φ lv) (hI : IR it φ lv) : Rl φ' (p_burnV ν') (upd it 1 (p_burn lv (it 1))) φ lv ∧ IR (upd it 1 (p_burn lv (it 1))) φ lv := by
  obtain ⟨r0, r1, r5, r2, r3, r4, n0, n1, n2⟩ := hR
  obtain ⟨hk, ⟨a, h, ha, hh, i0, i1⟩, ⟨t, m, c, ht, hm, hc1, i2, i3, i4⟩, l, hl5, hl⟩ := hI
  obtain ⟨b, hb, eb⟩ := burn_n hh hl5
  refine ⟨⟨r0, r1, r5, r2, r3, r4, n0, ?_, n2⟩, hk, ⟨a, b, ha, hb, i0, ?_⟩, ⟨t, m, c, ht, hm, hc1, i2, i3, i4⟩, l, hl5, hl⟩
  · show p_burn (ν' 2) (ν' 1) = p_burn lv (it 1)
    rw [n1, n2]
  · show p_burn lv (it 1) = nI b
    rw [i1, hl, eb]
theorem cool_n {m x : Nat} (hm : m ≤ 100) (hx : x ≤ 12) : ∃ M : Nat, M ≤ 100 ∧ jmax 0 (nI m - nI x) = nI M := by
  unfold jmax
  by_cases q : x < m
  · rw [pk_sub (by omega), if_pos (show (0 : Int32) < nI (m - x) from nI_lt (a := 0) (by omega) (by omega))]
    exact ⟨m - x, by omega, rfl⟩
  · rw [if_neg]
    · exact ⟨0, by omega, rfl⟩
    · rw [Int32.lt_iff_toInt_lt, pk_sub_toInt (by omega) (by omega), Int32.toInt_zero]; omega
theorem cooling_n (φ : Nat → Int32) : ∃ x : Nat, x ≤ 12 ∧ p_cooling φ = nI x := by
  unfold p_cooling
  split
  · exact ⟨3, by omega, rfl⟩
  · split
    · exact ⟨12, by omega, rfl⟩
    · exact ⟨6, by omega, rfl⟩
theorem rest_sync {φ' ν' it φ : Nat → Int32} {lv : Int32} (hR : Rl φ' ν' it φ lv) (hI : IR it φ lv) : Rl (p_coolF φ') (p_burnV ν') (m_rest1 lv (p_cooling φ) it) φ lv ∧ IR (m_rest1 lv (p_cooling φ) it) φ lv := by
  obtain ⟨hR1, hI1⟩ := burn_sync hR hI
  obtain ⟨r0, r1, r5, r2, r3, r4, n0, n1, n2⟩ := hR1
  obtain ⟨hk, hah, ⟨t, m, c, ht, hm, hc1, i2, i3, i4⟩, hl⟩ := hI1
  obtain ⟨x, hx, ex⟩ := cooling_n φ
  obtain ⟨M, hM, eM⟩ := cool_n hm hx
  have hcool : p_cooling φ' = p_cooling φ := by unfold p_cooling; rw [r5]
  have i3' : it 3 = nI m := by rw [← i3, upd_no (by decide)]
  have r3' : φ' 3 = it 3 := by rw [r3, upd_no (by decide)]
  have u1 : ∀ j, j ≠ 3 → m_rest1 lv (p_cooling φ) it j = upd it 1 (p_burn lv (it 1)) j := fun j hj => by unfold m_rest1; exact upd_no hj
  have u3 : m_rest1 lv (p_cooling φ) it 3 = nI M := by unfold m_rest1; rw [upd_at, i3', ex, eM]
  have u2 : ∀ j, j ≠ 3 → p_coolF φ' j = φ' j := fun j hj => by unfold p_coolF; exact upd_no hj
  have u4 : p_coolF φ' 3 = nI M := by unfold p_coolF; rw [upd_at, r3', hcool, i3', ex, eM]
  obtain ⟨a, h, ha, hh, i0, i1⟩ := hah
  refine ⟨⟨?_, ?_, ?_, ?_, ?_, ?_, ?_, ?_, n2⟩, hk, ⟨a, h, ha, hh, ?_, ?_⟩, ⟨t, M, c, ht, hM, hc1, ?_, u3, ?_⟩, hl⟩
  · rw [u2 0 (by decide), r0]
  · rw [u2 1 (by decide), r1]
  · rw [u2 5 (by decide), r5]
  · rw [u2 2 (by decide), u1 2 (by decide), r2]
  · rw [u4, u3]
  · rw [u2 4 (by decide), u1 4 (by decide), r4]
  · rw [u1 0 (by decide), n0]
  · rw [u1 1 (by decide), n1]
  · rw [u1 0 (by decide), i0]
  · rw [u1 1 (by decide), i1]
  · rw [u1 2 (by decide), i2]
  · rw [u1 4 (by decide), i4]
theorem restN_sync : ∀ (n : Nat) {φ' ν' it φ : Nat → Int32} {lv : Int32}, Rl φ' ν' it φ lv → IR it φ lv → Rl (p_coolN n φ') (p_burnN n ν') (m_restN n lv (p_cooling φ) it) φ lv ∧ IR (m_restN n lv (p_cooling φ) it) φ lv
  | 0, _, _, _, _, _, hR, hI => ⟨hR, hI⟩
  | n + 1, _, _, _, _, _, hR, hI => restN_sync n (rest_sync hR hI).1 (rest_sync hR hI).2
theorem size_sync {φ : Nat → Int32} {c : Nat} (hc : c ≤ 1) (h4 : φ 4 = nI c) : p_size φ = m_size (φ 2) (φ 4) := by
  unfold p_size m_size
  rw [h4]
  rcases (show c = 0 ∨ c = 1 by omega) with rfl | rfl <;> rfl
theorem try_sync : ∀ (n : Nat) {φ' ν' it φ : Nat → Int32} {lv : Int32}, Rl φ' ν' it φ lv → IR it φ lv → φ' 5 ≠ -1 → p_try n φ' ν' = m_tryL n lv φ it
  | 0, _, _, _, _, _, hR, _, _ => hR.2.2.2.1
  | n + 1, φ', ν', it, φ, lv, hR, hI, h5 => by
    rw [p_try, m_tryL]
    by_cases hc : m_can it φ
    · rw [if_pos ((can_sync hR hI h5).mpr hc), if_pos hc]
      obtain ⟨hR1, hI1⟩ := dip_sync hR hI hc
      obtain ⟨hR2, hI2⟩ := burn_sync hR1 hI1
      exact try_sync n hR2 hI2 (by rw [hR2.2.2.1, ← hR.2.2.1]; exact h5)
    · rw [if_neg (fun z => hc ((can_sync hR hI h5).mp z)), if_neg hc]
      exact hR.2.2.2.1
theorem IR_size {φ' ν' it φ : Nat → Int32} {lv : Int32} (hR : Rl φ' ν' it φ lv) (hI : IR it φ lv) : p_size φ' = m_size (it 2) (it 4) := by
  obtain ⟨-, -, -, r2, -, r4, -, -, -⟩ := hR
  obtain ⟨-, -, ⟨t, m, c, ht, hm, hc1, i2, i3, i4⟩, -⟩ := hI
  rw [size_sync hc1 (r4.trans i4), r2, r4]
theorem need_sync {k : Nat} {z : Int32} : ∀ (n d : Nat) {φ' ν' it φ : Nat → Int32} {lv : Int32}, Rl φ' ν' it φ lv → IR it φ lv → φ' 5 ≠ -1 → p_needL n d k z φ' ν' = m_needL n d k z lv φ it
  | 0, _, _, _, _, _, _, _, _, _ => rfl
  | n + 1, d, φ', ν', it, φ, lv, hR, hI, h5 => by
    rw [p_needL, m_needL]
    by_cases hc : m_can it φ
    · rw [if_pos ((can_sync hR hI h5).mpr hc), if_pos hc]
      obtain ⟨hR1, hI1⟩ := dip_sync hR hI hc
      rw [IR_size hR1 hI1]
      obtain ⟨hR2, hI2⟩ := burn_sync hR1 hI1
      obtain ⟨hR3, hI3⟩ := restN_sync k hR2 hI2
      rw [need_sync n (d + 1) hR3 hI3 (by rw [hR3.2.2.1, ← hR.2.2.1]; exact h5)]
    · rw [if_neg (fun z => hc ((can_sync hR hI h5).mp z)), if_neg hc]
theorem need_eq {k : Nat} {z : Int32} {φ' ν' it φ : Nat → Int32} {lv : Int32} (hR : Rl φ' ν' it φ lv) (hI : IR it φ lv) (h5 : φ' 5 ≠ -1) : p_need k z φ' ν' = m_need k z lv φ it := by
  unfold p_need m_need
  rw [IR_size hR hI, need_sync 60 1 hR hI h5]
