/-! ===== bestRest: forward and strict, or backward and not; advise; mean; possible ===== -/
theorem needL_rng {k : Nat} {z lv : Int32} {φ : Nat → Int32} : ∀ (n d : Nat) (it : Nat → Int32), m_needL n d k z lv φ it = -1 ∨ ∃ e, d ≤ e ∧ e < d + n ∧ m_needL n d k z lv φ it = nI e
  | 0, _, _ => Or.inl rfl
  | n + 1, d, it => by
    rw [m_needL]
    split
    · split
      · exact Or.inr ⟨d, Nat.le_refl _, by omega, rfl⟩
      · rcases needL_rng n (d + 1) (m_restN k lv (p_cooling φ) (upd (m_dip it φ) 1 (p_burn lv (m_dip it φ 1)))) with h | ⟨e, h1, h2, h3⟩
        · exact Or.inl h
        · exact Or.inr ⟨e, by omega, by omega, h3⟩
    · exact Or.inl rfl
/-- the best rest among those below M, of E dips each (0: none) -/
def bC (E : Nat → Nat) (i : Nat) : Nat := E i + (E i - 1) * i
def BS (E : Nat → Nat) (lo hi : Nat) (b : Nat) : Prop := lo ≤ b ∧ b < hi ∧ E b ≠ 0 ∧ ∀ j, lo ≤ j → j < hi → E j ≠ 0 → bC E b ≤ bC E j ∧ (bC E j = bC E b → b ≤ j)
def BR (E : Nat → Nat) (lo hi : Nat) (r : Int32) : Prop := (r = -1 ∧ ∀ j, lo ≤ j → j < hi → E j = 0) ∨ ∃ b, r = nI b ∧ BS E lo hi b
theorem BR_un {E : Nat → Nat} {lo hi : Nat} {r r' : Int32} (h : BR E lo hi r) (h' : BR E lo hi r') : r = r' := by
  rcases h with ⟨rfl, h0⟩ | ⟨b, rfl, b1, b2, b3, b4⟩ <;> rcases h' with ⟨rfl, h0'⟩ | ⟨b', rfl, c1, c2, c3, c4⟩
  · rfl
  · exact absurd (h0 b' c1 c2) c3
  · exact absurd (h0' b b1 b2) b3
  · have h1 := b4 b' c1 c2 c3
    have h2 := c4 b b1 b2 b3
    have e : bC E b = bC E b' := by omega
    have := h1.2 e.symm
    have := h2.2 e
    rw [show b = b' by omega]
def nE (N : Nat → Int32) (E : Nat → Nat) : Prop := ∀ i, i < 21 → E i ≤ 60 ∧ N i = if E i = 0 then -1 else nI (E i)
theorem bC_le {E : Nat → Nat} {i : Nat} (h : E i ≤ 60) (hi : i < 21) : bC E i ≤ 60 + 59 * 20 := by
  unfold bC
  have : (E i - 1) * i ≤ 59 * 20 := Nat.mul_le_mul (by omega) (by omega)
  omega
theorem cost_n {N : Nat → Int32} {E : Nat → Nat} (h : nE N E) {i : Nat} (hi : i < 21) (h0 : E i ≠ 0) : N i + (N i - 1) * nI i = nI (bC E i) := by
  rw [(h i hi).2, if_neg h0, show (1 : Int32) = nI 1 from rfl, pk_sub (by omega), pk_mul, nI_add]
  rfl
theorem nm1 {n : Nat} (h : n < 2 ^ 31) : nI n ≠ -1 := fun q => nI_nm h q
theorem quick_BR {N : Nat → Int32} {E : Nat → Nat} {z : Int32} {φ ν : Nat → Int32} (hN : ∀ i, i < 21 → p_need i z φ ν = N i) (h : nE N E) : ∀ (n i : Nat) (best few : Int32), i + n = 21 → ((best = -1 ∧ ∀ j, j < i → E j = 0) ∨ ∃ b, best = nI b ∧ few = nI (bC E b) ∧ BS E 0 i b) → BR E 0 21 (p_quickL n i best few z φ ν)
  | 0, i, best, few, hi, hs => by
    have : i = 21 := by omega
    subst this
    rcases hs with ⟨rfl, h0⟩ | ⟨b, rfl, -, hb⟩
    · exact Or.inl ⟨rfl, fun j _ hj => h0 j hj⟩
    · exact Or.inr ⟨b, rfl, hb⟩
  | n + 1, i, best, few, hi, hs => by
    have hi2 : i < 21 := by omega
    rw [p_quickL, hN i hi2]
    have hE := h i hi2
    by_cases h0 : E i = 0
    · have e1 : N i = -1 := by rw [hE.2, if_pos h0]
      rw [e1, if_neg (by decide), if_neg (fun q => absurd q.1 (by decide))]
      refine quick_BR hN h n (i + 1) best few (by omega) ?_
      rcases hs with ⟨rfl, hz⟩ | ⟨b, rfl, hf, b1, b2, b3, b4⟩
      · refine Or.inl ⟨rfl, fun j hj => ?_⟩
        rcases Nat.lt_or_ge j i with q | q
        · exact hz j q
        · rw [show j = i by omega]; exact h0
      · refine Or.inr ⟨b, rfl, hf, b1, by omega, b3, fun j hj1 hj2 hj3 => ?_⟩
        rcases Nat.lt_or_ge j i with q | q
        · exact b4 j hj1 q hj3
        · rw [show j = i by omega] at hj3; exact absurd h0 hj3
    · have e1 : N i = nI (E i) := by rw [hE.2, if_neg h0]
      have hc := cost_n h hi2 h0
      rw [e1] at hc
      have hcl := bC_le hE.1 hi2
      rw [e1, if_neg (nI_ne0 (by omega) (by omega)), hc]
      have hpos : (0 : Int32) < nI (E i) := nI_lt (a := 0) (by omega) (by omega)
      rcases hs with ⟨rfl, hz⟩ | ⟨b, rfl, rfl, b1, b2, b3, b4⟩
      · rw [if_pos ⟨hpos, Or.inl (by decide)⟩]
        refine quick_BR hN h n (i + 1) _ _ (by omega) (Or.inr ⟨i, rfl, rfl, Nat.zero_le _, by omega, h0, fun j _ hj2 hj3 => ?_⟩)
        rcases Nat.lt_or_ge j i with q | q
        · exact absurd (hz j q) hj3
        · rw [show j = i by omega]; exact ⟨Nat.le_refl _, fun _ => Nat.le_refl _⟩
      · have hcb := bC_le (h b (by omega)).1 (by omega : b < 21)
        by_cases hlt : bC E i < bC E b
        · rw [if_pos ⟨hpos, Or.inr (nI_lt hlt (by omega))⟩]
          refine quick_BR hN h n (i + 1) _ _ (by omega) (Or.inr ⟨i, rfl, rfl, Nat.zero_le _, by omega, h0, fun j hj1 hj2 hj3 => ?_⟩)
          rcases Nat.lt_or_ge j i with q | q
          · have := b4 j hj1 q hj3
            exact ⟨by omega, fun e => by omega⟩
          · rw [show j = i by omega]; exact ⟨Nat.le_refl _, fun _ => Nat.le_refl _⟩
        · rw [if_neg (fun q => q.2.elim (fun z => absurd z (nI_pos (by omega))) (fun z => hlt (nI_L (by omega) (by omega) z)))]
          refine quick_BR hN h n (i + 1) _ _ (by omega) (Or.inr ⟨b, rfl, rfl, b1, by omega, b3, fun j hj1 hj2 hj3 => ?_⟩)
          rcases Nat.lt_or_ge j i with q | q
          · exact b4 j hj1 q hj3
          · rw [show j = i by omega]; exact ⟨by omega, fun e => by omega⟩
theorem best_BR {N : Nat → Int32} {E : Nat → Nat} {z : Int32} {g φ : Nat → Int32} (hN : ∀ i, i < 21 → m_need i z (g 2) φ (m_t g φ) = N i) (h : nE N E) : ∀ (n : Nat) (best few : Int32), n ≤ 21 → ((best = -1 ∧ ∀ j, n ≤ j → j < 21 → E j = 0) ∨ ∃ b, best = nI b ∧ few = nI (bC E b) ∧ BS E n 21 b) → BR E 0 21 (m_bestL n best few z g φ)
  | 0, best, few, hi, hs => by
    rcases hs with ⟨rfl, h0⟩ | ⟨b, rfl, -, hb⟩
    · exact Or.inl ⟨rfl, h0⟩
    · exact Or.inr ⟨b, rfl, hb⟩
  | i + 1, best, few, hi, hs => by
    have hi2 : i < 21 := by omega
    rw [m_bestL, hN i hi2]
    have hE := h i hi2
    by_cases h0 : E i = 0
    · have e1 : N i = -1 := by rw [hE.2, if_pos h0]
      rw [e1, if_neg (by decide), if_pos (Or.inl rfl)]
      refine best_BR hN h i best few (by omega) ?_
      rcases hs with ⟨rfl, hz⟩ | ⟨b, rfl, hf, b1, b2, b3, b4⟩
      · refine Or.inl ⟨rfl, fun j hj1 hj2 => ?_⟩
        rcases Nat.lt_or_ge i j with q | q
        · exact hz j q hj2
        · rw [show j = i by omega]; exact h0
      · refine Or.inr ⟨b, rfl, hf, by omega, b2, b3, fun j hj1 hj2 hj3 => ?_⟩
        rcases Nat.lt_or_ge i j with q | q
        · exact b4 j q hj2 hj3
        · rw [show j = i by omega] at hj3; exact absurd h0 hj3
    · have e1 : N i = nI (E i) := by rw [hE.2, if_neg h0]
      have hc := cost_n h hi2 h0
      rw [e1] at hc
      have hcl := bC_le hE.1 hi2
      rw [e1, if_neg (nI_ne0 (by omega) (by omega)), Int32.mul_comm, hc]
      have hne : nI (E i) ≠ -1 := nm1 (by omega)
      rcases hs with ⟨rfl, hz⟩ | ⟨b, rfl, rfl, b1, b2, b3, b4⟩
      · rw [if_neg (fun q => q.elim hne (fun z => z.1 rfl))]
        refine best_BR hN h i _ _ (by omega) (Or.inr ⟨i, rfl, rfl, Nat.le_refl _, hi2, h0, fun j hj1 hj2 hj3 => ?_⟩)
        rcases Nat.lt_or_ge i j with q | q
        · exact absurd (hz j q hj2) hj3
        · rw [show j = i by omega]; exact ⟨Nat.le_refl _, fun _ => Nat.le_refl _⟩
      · have hcb := bC_le (h b b2).1 b2
        by_cases hlt : bC E b < bC E i
        · rw [if_pos (Or.inr ⟨nm1 (by omega), nI_lt hlt (by omega)⟩)]
          refine best_BR hN h i _ _ (by omega) (Or.inr ⟨b, rfl, rfl, by omega, b2, b3, fun j hj1 hj2 hj3 => ?_⟩)
          rcases Nat.lt_or_ge i j with q | q
          · exact b4 j q hj2 hj3
          · rw [show j = i by omega]; exact ⟨by omega, fun e => by omega⟩
        · rw [if_neg (fun q => q.elim hne (fun z => hlt (nI_L (by omega) (by omega) z.2)))]
          refine best_BR hN h i _ _ (by omega) (Or.inr ⟨i, rfl, rfl, Nat.le_refl _, hi2, h0, fun j hj1 hj2 hj3 => ?_⟩)
          rcases Nat.lt_or_ge i j with q | q
          · have := b4 j q hj2 hj3
            exact ⟨by omega, fun e => by omega⟩
          · rw [show j = i by omega]; exact ⟨Nat.le_refl _, fun _ => Nat.le_refl _⟩
theorem best_eq {z : Int32} {g φ : Nat → Int32} (hN : ∀ i, i < 21 → p_need i z φ g = m_need i z (g 2) φ (m_t g φ)) : p_quickL 21 0 (-1) 0 z φ g = m_bestL 21 (-1) 0 z g φ := by
  by_cases hz : z ≤ m_size (m_t g φ 2) (m_t g φ 4)
  · have h0 : ∀ i, m_need i z (g 2) φ (m_t g φ) = 0 := fun i => by unfold m_need; rw [if_pos hz]
    rw [p_quickL, hN 0 (by decide), h0, if_pos rfl, m_bestL, h0, if_pos rfl]
  · have h1 : ∀ i, m_need i z (g 2) φ (m_t g φ) = m_needL 60 1 i z (g 2) φ (m_t g φ) := fun i => by unfold m_need; rw [if_neg hz]
    have hE : nE (fun i => m_need i z (g 2) φ (m_t g φ)) (fun i => if m_need i z (g 2) φ (m_t g φ) = -1 then 0 else nn (m_need i z (g 2) φ (m_t g φ))) := fun i hi => by
      rcases needL_rng (k := i) (z := z) (lv := g 2) (φ := φ) 60 1 (m_t g φ) with h | ⟨e, he1, he2, h⟩
      · rw [← h1 i] at h
        simp only [h, if_pos]
        exact ⟨by omega, trivial⟩
      · rw [← h1 i] at h
        have hne : ¬ nI e = -1 := nm1 (by omega)
        simp only [h, if_neg hne, nn_nI (show e < 2 ^ 31 by omega)]
        exact ⟨by omega, by rw [if_neg (by omega)]⟩
    exact BR_un (quick_BR hN hE 21 0 (-1) 0 rfl (Or.inl ⟨rfl, fun j hj => absurd hj (Nat.not_lt_zero _)⟩)) (best_BR (fun _ _ => rfl) hE 21 (-1) 0 (Nat.le_refl _) (Or.inl ⟨rfl, fun j h1 h2 => by omega⟩))
section INX
variable {q nf no i : Nat} {g f φ : Nat → Int32} {F O : Nat → Nat → Int32} {a b y w z : Int32}
theorem s_bestRest (hI : Inv q g nf F f no O) (h : K_bestRest nf F a z = 0) : p_quickL 21 0 (-1) 0 z (F (nn a)) g = m_bestL 21 (-1) 0 z g (F (nn a)) := by
  obtain ⟨h12, h20, hg, hF, hO, hS⟩ := hI
  obtain ⟨h1, h2, h3⟩ := K0_bestRest h
  obtain ⟨i, hi, rfl⟩ := fr_of (by omega) h1
  rw [nn_nI (by omega)] at h3 ⊢
  obtain ⟨hR, hIR⟩ := R_of (hF i hi) hg
  exact best_eq (fun k _ => need_eq hR hIR h3)
theorem adv_eq (hg : GI q g) (hF : ∀ i, i < nf → FrI (F i)) : ∀ (n i : Nat) (best most : Int32), i + n ≤ nf → 0 ≤ most → c_advL n i best most g F = m_advL n i best most g F
  | 0, _, _, _, _, _ => rfl
  | n + 1, i, best, most, hi, hm => by
    rw [c_advL, m_advL]
    obtain ⟨hR, hIR⟩ := R_of (hF i (by omega)) hg
    by_cases h5 : F i 5 ≠ -1
    · by_cases hc : m_can (m_t g (F i)) (F i)
      · have hpc := (can_sync hR hIR h5).mpr hc
        by_cases h7 : 70 < F i 3
        · have hpg : p_gain (F i) (g 1) = 0 := by unfold p_gain; rw [if_pos h7]
          have hmg : ¬ most < m_grow (m_t g (F i)) (F i) := by
            obtain ⟨-, ⟨x, hh, hx, hh1, i0, i1⟩, ⟨t, m, c, ht, hm1, hc1, i2, i3, i4⟩, -⟩ := hIR
            have h6 : 60 ≤ hh := by have := hc.1; rw [i1] at this; exact nI_E (a := 60) (b := hh) (by decide) (by omega) this
            have hgr : m_grow (m_t g (F i)) (F i) = -(nI (min t ((hh - 55) / 5))) := by
              unfold m_grow
              rw [if_pos (show 70 < m_t g (F i) 3 from h7), i1, i2, show (55 : Int32) = nI 55 from rfl, pk_sub (by omega), show (5 : Int32) = nI 5 from rfl, pk_div (by omega) (by decide) (by decide), jmin_nI (by omega) (by omega)]
            have hml : min t ((hh - 55) / 5) ≤ 400 := Nat.le_trans (Nat.min_le_left _ _) ht
            rw [hgr]
            generalize min t ((hh - 55) / 5) = T at hml
            intro q9
            have q1 := Int32.lt_iff_toInt_lt.mp q9
            have q2 := Int32.le_iff_toInt_le.mp hm
            have q3 : (-(nI T) : Int32).toInt = -(T : Int) := by
              rw [← Int32.zero_sub, show (0 : Int32) = nI 0 from rfl, pk_sub_toInt (by omega) (by omega)]; omega
            rw [q3] at q1
            rw [Int32.toInt_zero] at q2
            omega
          rw [if_neg (fun q9 => absurd q9.2 (by rw [hpg]; exact Int32.not_lt.mpr hm)), if_neg (fun q9 => hmg q9.2.2)]
          exact adv_eq hg hF n (i + 1) best most (by omega) hm
        · have hgg : p_gain (F i) (g 1) = m_grow (m_t g (F i)) (F i) := by
            obtain ⟨⟨k, w, hk, hw1, hw2, e0, e1⟩, ⟨x, hh, hx, hh1, i0, i1⟩, ⟨t, m, c, ht, hm1, hc1, i2, i3, i4⟩, -⟩ := hIR
            have h6 : 60 ≤ hh := by have := hc.1; rw [i1] at this; exact nI_E (a := 60) (b := hh) (by decide) (by omega) this
            have i3' : F i 3 = nI m := i3
            have hm7 : m ≤ 70 := by rw [i3'] at h7; exact nI_nL (a := 70) (b := m) (by decide) (by omega) h7
            have i1' : g 1 = nI hh := i1
            rw [grow_n (it := m_t g (F i)) (φ := F i) hk ht h6 hh1 hm7 e0 i1 i2 i3, i1', gain_n (φ := F i) hk ht h6 hh1 hm7 e0 i2 i3]
          by_cases hlt : most < m_grow (m_t g (F i)) (F i)
          · have hlt' : most < p_gain (F i) (g 1) := hgg.symm ▸ hlt
            rw [if_pos ⟨hpc, hlt'⟩, if_pos ⟨h5, hc, hlt⟩]
            exact (congrArg (fun x => c_advL n (i + 1) (nI i) x g F) hgg).trans (adv_eq hg hF n (i + 1) _ _ (by omega) (Int32.le_of_lt (Int32.lt_of_le_of_lt hm hlt)))
          · rw [if_neg (fun q9 => hlt (hgg ▸ q9.2)), if_neg (fun q9 => hlt q9.2.2)]
            exact adv_eq hg hF n (i + 1) best most (by omega) hm
      · rw [if_neg (fun q9 => hc ((can_sync hR hIR h5).mp q9.1)), if_neg (fun q9 => hc q9.2.1)]
        exact adv_eq hg hF n (i + 1) best most (by omega) hm
    · rw [if_neg (fun q9 => h5 q9.1.1), if_neg (fun q9 => h5 q9.1)]
      exact adv_eq hg hF n (i + 1) best most (by omega) hm
theorem s_advise (hI : Inv q g nf F f no O) : c_advL nf 0 (-1) 0 g F = m_advL nf 0 (-1) 0 g F := adv_eq hI.2.2.1 hI.2.2.2.1 nf 0 _ _ (by omega) (Int32.le_refl _)
theorem dSum_congr {h h' : Nat → Nat} : ∀ (n k : Nat) (acc : Int32), (∀ j, h j = h' j) → dSum h n k acc = dSum h' n k acc
  | 0, _, _, _ => rfl
  | n + 1, k, acc, e => by rw [dSum, dSum, e k]; exact dSum_congr n (k + 1) _ e
theorem s_possible (hI : Inv q g nf F f no O) : dSum (fun k => (dCz O f no k 9 []).length) 4 0 0 = dSum (fun k => (dRz O f no k 9 []).length) 4 0 0 :=
  dSum_congr 4 0 0 (fun k => by
    rw [poss_eq (fun i hi => ?_)]
    obtain ⟨_, _, mm, _, _, _, h4, h5, _, _, e2⟩ := hI.2.2.2.2.1 i hi
    rw [e2, nn_nI (by omega)]; exact h4)
theorem mnW_n : ∀ (n i x : Nat), (∀ j, j < i + n → FrI (F j)) → x + 20 * n ≤ 1000 → ∃ W : Nat, W ≤ x + 20 * n ∧ mnW n i F (nI x) = nI W
  | 0, _, x, _, _ => ⟨x, by omega, rfl⟩
  | n + 1, i, x, h, hx => by
    obtain ⟨⟨k, w, hk, hw1, hw2, e0, e1⟩, -⟩ := h i (by omega)
    obtain ⟨W, hW, e⟩ := mnW_n n (i + 1) (x + w) (fun j hj => h j (by omega)) (by omega)
    exact ⟨W, by omega, by rw [mnW, e1, nI_add, e]⟩
theorem s_mean (hI : Inv q g nf F f no O) : 0 < mnW nf 0 F 0 ↔ ¬ mnW nf 0 F 0 = 0 := by
  obtain ⟨W, hW, e⟩ := mnW_n (F := F) nf 0 0 (fun j hj => hI.2.2.2.1 j (by omega)) (by have := hI.1; omega)
  have e' : mnW nf 0 F 0 = nI W := e
  have h12 := hI.1
  rw [e']
  constructor
  · intro h q9; rw [q9] at h; exact absurd h (by decide)
  · intro h
    have : W ≠ 0 := fun q9 => h (by rw [q9]; rfl)
    exact nI_lt (a := 0) (by omega) (by omega)
end INX
