/-! ===== what holds between calls; each call's readings agree and keep it ===== -/
def FrI (φ : Nat → Int32) : Prop := (∃ k w : Nat, k < 4 ∧ 1 ≤ w ∧ w ≤ 20 ∧ φ 0 = nI k ∧ φ 1 = nI w) ∧ (∃ t m c : Nat, t ≤ 400 ∧ m ≤ 100 ∧ c ≤ 1 ∧ φ 2 = nI t ∧ φ 3 = nI m ∧ φ 4 = nI c)
def GI (q : Nat) (g : Nat → Int32) : Prop := (∃ a h : Nat, a ≤ 20000 ∧ h ≤ 120 ∧ g 0 = nI a ∧ g 1 = nI h) ∧ (∃ l : Nat, l ≤ 5 ∧ g 2 = nI l) ∧ ∃ n : Nat, n ≤ 400 * q ∧ g 3 = nI n
def OrI (ω : Nat → Int32) : Prop := ∃ kk zz mm : Nat, kk < 4 ∧ 1 ≤ zz ∧ zz ≤ 9 ∧ 1 ≤ mm ∧ mm ≤ 60 ∧ ω 0 = nI kk ∧ ω 1 = nI zz ∧ ω 2 = nI mm
def ShI (q : Nat) (f : Nat → Int32) : Prop := ∀ j, j < 36 → ∃ a : Nat, a ≤ 20 * q ∧ f j = nI a
def Inv (q : Nat) (g : Nat → Int32) (nf : Nat) (F : Nat → Nat → Int32) (f : Nat → Int32) (no : Nat) (O : Nat → Nat → Int32) : Prop :=
  nf ≤ 12 ∧ no ≤ 20 ∧ GI q g ∧ (∀ i, i < nf → FrI (F i)) ∧ (∀ j, j < no → OrI (O j)) ∧ ShI q f
theorem GI.up {q : Nat} {g : Nat → Int32} (h : GI q g) : GI (q + 1) g := by
  obtain ⟨h1, h2, n, hn, e⟩ := h
  exact ⟨h1, h2, n, by omega, e⟩
theorem ShI.up {q : Nat} {f : Nat → Int32} (h : ShI q f) : ShI (q + 1) f := fun j hj => by
  obtain ⟨a, ha, e⟩ := h j hj
  exact ⟨a, by omega, e⟩
theorem ShI.ok {q : Nat} {f : Nat → Int32} (h : ShI q f) (hq : q ≤ 512) : okS f := fun j hj => by
  obtain ⟨a, ha, e⟩ := h j hj
  exact ⟨a, by omega, e⟩
section INV
variable {q nf no i : Nat} {g f φ : Nat → Int32} {F O : Nat → Nat → Int32} {a b z : Int32}
theorem FrI.fr {F : Nat → Nat → Int32} {nf i : Nat} {ψ : Nat → Int32} (h : ∀ j, j < nf → FrI (F j)) (hψ : FrI ψ) : ∀ j, j < nf → FrI (va_up F i ψ j) := fun j hj => by
  by_cases e : j = i
  · subst e; simp only [va_up, if_pos]; exact hψ
  · simp only [va_up, if_neg e]; exact h j hj
theorem OrI.fr {O : Nat → Nat → Int32} {no i : Nat} {ψ : Nat → Int32} (h : ∀ j, j < no → OrI (O j)) (hψ : OrI ψ) : ∀ j, j < no → OrI (va_up O i ψ j) := fun j hj => by
  by_cases e : j = i
  · subst e; simp only [va_up, if_pos]; exact hψ
  · simp only [va_up, if_neg e]; exact h j hj
theorem R_of (hφ : FrI φ) (hg : GI q g) : Rl φ g (m_t g φ) φ (g 2) ∧ IR (m_t g φ) φ (g 2) := by
  obtain ⟨h1, t, m, c, ht, hm, hc, e2, e3, e4⟩ := hφ
  obtain ⟨⟨a, h, ha, hh, g0, g1⟩, hl, -⟩ := hg
  exact ⟨⟨rfl, rfl, rfl, rfl, rfl, rfl, rfl, rfl, rfl⟩, h1, ⟨a, h, ha, hh, g0, g1⟩, ⟨t, m, c, ht, hm, hc, e2, e3, e4⟩, hl⟩
/-! melt, setFire -/
theorem s_melt (hg : GI q g) (h : K_melt g a = 0) : p_throwV g a = G_melt g a ∧ GI (q + 1) (G_melt g a) := by
  obtain ⟨h1, h2⟩ := K0_melt h
  obtain ⟨⟨x, y, hx, hy, g0, g1⟩, hl, n, hn, g3⟩ := hg
  obtain ⟨p, hp1, hp2, rfl⟩ := in_of (a := 1) (b := 5000) (by decide) (by decide) h1
  rw [g0, nI_add] at h2
  have hs := nI_E (a := x + p) (b := 20000) (by omega) (by decide) h2
  have hpos : 0 < g 0 + nI p := by rw [g0, nI_add]; exact nI_lt (a := 0) (by omega) (by omega)
  refine ⟨by unfold p_throwV G_melt; rw [if_pos hpos], ⟨x + p, (y * x + 20 * p) / (x + p), hs, ?_, ?_, ?_⟩, hl, n, by omega, g3⟩
  · refine Nat.div_le_of_le_mul ?_
    have : y * x ≤ 120 * x := Nat.mul_le_mul_right x hy
    omega
  · show g 0 + nI p = nI (x + p)
    rw [g0, nI_add]
  · show (g 1 * g 0 + 20 * nI p) / (g 0 + nI p) = _
    have hb : y * x ≤ 120 * 20000 := Nat.mul_le_mul hy hx
    rw [g0, g1, show (20 : Int32) = nI 20 from rfl, pk_mul, pk_mul, nI_add, nI_add, pk_div (by omega) (by omega) (by omega)]
theorem s_setFire (hg : GI q g) (h : K_setFire a = 0) : GI (q + 1) (G_setFire g a) := by
  obtain ⟨h1, hl, n, hn, g3⟩ := hg
  obtain ⟨l, -, hl5, rfl⟩ := in_of (a := 0) (b := 5) (by decide) (by decide) (K0_setFire h)
  exact ⟨h1, ⟨l, hl5, rfl⟩, n, by omega, g3⟩
/-! a dip -/
theorem dipF_hi {h : Int32} {j : Nat} (h2 : j ≠ 2) (h3 : j ≠ 3) (h4 : j ≠ 4) (h6 : j ≠ 6) : p_dipF φ h j = φ j := by
  unfold p_dipF
  split
  · unfold p_meltF
    split
    · rw [upd_no h3, upd_no h4, upd_no h2, upd_no h6]
    · rw [upd_no h3, upd_no h2, upd_no h6]
  · unfold p_upF
    split
    · rw [upd_no h3, upd_no h2, upd_no h4, upd_no h6]
    · rw [upd_no h3, upd_no h2, upd_no h6]
theorem dipF_6 {h : Int32} : p_dipF φ h 6 = φ 6 + 1 := by
  unfold p_dipF
  split
  · unfold p_meltF
    split
    · rw [upd_no (by decide), upd_no (by decide), upd_no (by decide), upd_at]
    · rw [upd_no (by decide), upd_no (by decide), upd_at]
  · unfold p_upF
    split
    · rw [upd_no (by decide), upd_no (by decide), upd_no (by decide), upd_at]
    · rw [upd_no (by decide), upd_no (by decide), upd_at]
theorem dipV_hi {j : Nat} (h0 : j ≠ 0) : p_dipV φ g j = g j := by
  unfold p_dipV
  split
  · rfl
  · unfold p_upV; rw [upd_no h0]
theorem dip_eq (hφ : FrI φ) (hg : GI q g) (hc : p_can φ g) : p_dipF φ (g 1) = m_dipF (m_it1 g φ) φ ∧ upd (p_dipV φ g) 4 (p_dipV φ g 4 + 1) = G_dip0 g φ ∧ FrI (m_dipF (m_it1 g φ) φ) ∧ GI q (G_dip0 g φ) := by
  obtain ⟨hR, hI⟩ := R_of hφ hg
  have hm := (can_sync hR hI hc.1).mp hc
  obtain ⟨⟨r0, r1, r5, r2, r3, r4, n0, n1, n2⟩, hk, ⟨x, y, hx, hy, i0, i1⟩, htm, hl⟩ := dip_sync hR hI hm
  have e1 : p_dipF φ (g 1) = m_dipF (m_it1 g φ) φ := by
    funext j
    unfold m_dipF
    by_cases e6 : j = 6
    · subst e6; rw [upd_at, dipF_6]
    · rw [upd_no e6]
      by_cases e4 : j = 4
      · subst e4; rw [upd_at]; exact r4
      · rw [upd_no e4]
        by_cases e3 : j = 3
        · subst e3; rw [upd_at]; exact r3
        · rw [upd_no e3]
          by_cases e2 : j = 2
          · subst e2; rw [upd_at]; exact r2
          · rw [upd_no e2, dipF_hi e2 e3 e4 e6]
  have e2 : upd (p_dipV φ g) 4 (p_dipV φ g 4 + 1) = G_dip0 g φ := by
    funext j
    unfold G_dip0
    by_cases e4 : j = 4
    · subst e4; rw [upd_at, upd_at, dipV_hi (by decide)]
    · rw [upd_no e4, upd_no e4]
      by_cases e0 : j = 0
      · subst e0; rw [upd_at]; exact n0
      · rw [upd_no e0, dipV_hi e0]
  refine ⟨e1, e2, ?_, ?_⟩
  · rw [← e1]
    obtain ⟨k, w, hk1, hw1, hw2, k0, k1⟩ := hk
    obtain ⟨t, m, c, ht, hm1, hc1, i2, i3, i4⟩ := htm
    exact ⟨⟨k, w, hk1, hw1, hw2, r0.trans k0, r1.trans k1⟩, t, m, c, ht, hm1, hc1, r2.trans i2, r3.trans i3, r4.trans i4⟩
  · obtain ⟨⟨_, h, _, hh, _, g1⟩, hl2, n, hn, g3⟩ := hg
    have hg0 : G_dip0 g φ 0 = nI x := by
      show upd (upd g 0 (m_it1 g φ 0)) 4 (g 4 + 1) 0 = nI x
      rw [upd_no (by decide), upd_at]; exact i0
    exact ⟨⟨x, h, hx, hh, hg0, g1⟩, hl2, n, hn, g3⟩
theorem s_Kdip (hI : Inv q g nf F f no O) : KC_dip g nf F a = K_dip g nf F a := by
  obtain ⟨h12, h20, hg, hF, hO, hS⟩ := hI
  unfold KC_dip K_dip
  by_cases h1 : kFr nf a
  · rw [if_pos h1, if_pos h1]
    obtain ⟨i, hi, rfl⟩ := fr_of (by omega) h1
    rw [nn_nI (by omega)]
    obtain ⟨hR, hIR⟩ := R_of (hF i hi) hg
    by_cases h5 : F i 5 ≠ -1
    · rw [if_pos h5]
      by_cases hc : p_can (F i) g
      · rw [if_pos hc, if_pos ((can_sync hR hIR h5).mp hc)]
      · rw [if_neg hc, if_neg (fun z => hc ((can_sync hR hIR h5).mpr z))]
    · rw [if_neg h5, if_neg (fun z => h5 z.1)]
  · rw [if_neg h1, if_neg h1]
theorem burn_GI (hg : GI q g) : ∃ b : Nat, b ≤ 120 ∧ p_burn (g 2) (g 1) = nI b := by
  obtain ⟨⟨_, h, _, hh, _, g1⟩, ⟨l, hl, g2⟩, -⟩ := hg
  rw [g1, g2]
  exact burn_n hh hl
/-- a quarter: n of them gone since q calls -/
def GN (n : Nat) (g : Nat → Int32) : Prop := (∃ a h : Nat, a ≤ 20000 ∧ h ≤ 120 ∧ g 0 = nI a ∧ g 1 = nI h) ∧ (∃ l : Nat, l ≤ 5 ∧ g 2 = nI l) ∧ ∃ m : Nat, m ≤ n ∧ g 3 = nI m
theorem qG_GN {n : Nat} (hg : GN n g) : GN (n + 1) (m_qG g) := by
  obtain ⟨⟨x, h, hx, hh, g0, g1⟩, ⟨l, hl, g2⟩, m, hm, g3⟩ := hg
  obtain ⟨b, hb, eb⟩ := burn_n hh hl
  refine ⟨⟨x, b, hx, hb, g0, ?_⟩, ⟨l, hl, g2⟩, m + 1, by omega, ?_⟩
  · show p_burn (g 2) (g 1) = nI b
    rw [g1, g2, eb]
  · show g 3 + 1 = nI (m + 1)
    rw [g3]; exact nI_1 m
theorem coolTo_FrI {n b9 : Nat} (hF : ∀ i, i < nf → FrI (F i)) : ∀ i, i < nf → FrI (m_coolTo n b9 F i) := fun i hi => by
  unfold m_coolTo
  split
  · obtain ⟨hk, t, m, c, ht, hm, hc, e2, e3, e4⟩ := hF i hi
    obtain ⟨x, hx, ex⟩ := cooling_n (F i)
    obtain ⟨M, hM, eM⟩ := cool_n hm hx
    exact ⟨hk, t, M, c, ht, hM, hc, e2, by unfold p_coolF; rw [upd_at, e3, ex, eM], e4⟩
  · exact hF i hi
theorem qO_OrI {n : Nat} (hO : ∀ j, j < no → OrI (O j)) : ∀ j, j < no → OrI (m_qO n g O j) := fun j hj => by
  unfold m_qO
  split
  · unfold m_lateTo
    split
    · obtain ⟨kk, zz, mm, h1, h2, h3, h4, h5, e0, e1, e2⟩ := hO j hj
      exact ⟨kk, zz, mm, h1, h2, h3, h4, h5, by rw [upd_no (by decide)]; exact e0, by rw [upd_no (by decide)]; exact e1, by rw [upd_no (by decide)]; exact e2⟩
    · exact hO j hj
  · exact hO j hj
theorem pG_GN : ∀ (k : Nat) {n : Nat} {g : Nat → Int32}, GN n g → GN (n + k) (m_pG k g)
  | 0, _, _, h => h
  | k + 1, n, g, h => by
    have := pG_GN k (qG_GN h)
    rw [show n + 1 + k = n + (k + 1) by omega] at this
    exact this
theorem pF_FrI : ∀ (k : Nat) {b9 : Nat} {F : Nat → Nat → Int32}, (∀ i, i < nf → FrI (F i)) → ∀ i, i < nf → FrI (m_pF k nf b9 F i)
  | 0, _, _, h => h
  | k + 1, _, _, h => pF_FrI k (coolTo_FrI h)
theorem pO_OrI : ∀ (k : Nat) {g : Nat → Int32} {O : Nat → Nat → Int32}, (∀ j, j < no → OrI (O j)) → ∀ j, j < no → OrI (m_pO k no g O j)
  | 0, _, _, h => h
  | k + 1, _, _, h => pO_OrI k (qO_OrI h)
theorem s_dip (hI : Inv q g nf F f no O) (h : KC_dip g nf F a = 0) :
    p_dipF (F (nn a)) (g 1) 2 = F_dip g nf F (nn a) (nn a) 2 ∧ m_qG (upd (p_dipV (F (nn a)) g) 4 (p_dipV (F (nn a)) g 4 + 1)) = G_dip g F (nn a) ∧ m_coolTo nf (nn a) (va_up F (nn a) (p_dipF (F (nn a)) (g 1))) = F_dip g nf F (nn a) ∧
    m_qO no (upd (p_dipV (F (nn a)) g) 4 (p_dipV (F (nn a)) g 4 + 1)) O = O_dip g F no O (nn a) ∧ Inv (q + 1) (G_dip g F (nn a)) nf (F_dip g nf F (nn a)) f no (O_dip g F no O (nn a)) := by
  obtain ⟨h12, h20, hg, hF, hO, hS⟩ := hI
  obtain ⟨h1, hc⟩ := K0_dip h
  obtain ⟨i, hi, rfl⟩ := fr_of (by omega) h1
  rw [nn_nI (by omega)] at hc ⊢
  obtain ⟨e1, e2, hf1, hg1⟩ := dip_eq (hF i hi) hg hc
  refine ⟨?_, by rw [e2]; rfl, by rw [e1]; rfl, by rw [e2]; rfl, h12, h20, ?_, ?_, ?_, hS.up⟩
  · rw [e1]
    unfold F_dip m_coolTo
    rw [if_neg (fun z => z.2 rfl), va_upat]
  · have := qG_GN (n := 400 * q) hg1
    obtain ⟨x1, x2, n, hn, e⟩ := this
    exact ⟨x1, x2, n, by omega, e⟩
  · exact coolTo_FrI (FrI.fr hF hf1)
  · exact qO_OrI hO
theorem s_pass (hI : Inv q g nf F f no O) (h : K_pass a = 0) : Inv (q + 1) (m_pG (nn a) g) nf (m_pF (nn a) nf 12 F) f no (m_pO (nn a) no g O) := by
  obtain ⟨h12, h20, hg, hF, hO, hS⟩ := hI
  obtain ⟨n, hn1, hn4, rfl⟩ := in_of (a := 1) (b := 400) (by decide) (by decide) (K0_pass h)
  rw [nn_nI (by omega)]
  have hgn : GN (400 * q) g := hg
  obtain ⟨x1, x2, m, hm, e⟩ := pG_GN n hgn
  exact ⟨h12, h20, ⟨x1, x2, m, by omega, e⟩, pF_FrI n hF, pO_OrI n hO, hS.up⟩
end INV
