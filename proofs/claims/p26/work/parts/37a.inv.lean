/-! ===== what holds between calls; each call's readings agree and keep it ===== -/
def FrI (φ : Nat → Int32) : Prop := (∃ k w : Nat, k < 4 ∧ 1 ≤ w ∧ w ≤ 20 ∧ φ 0 = nI k ∧ φ 1 = nI w) ∧ (∃ t m c : Nat, t ≤ 400 ∧ m ≤ 100 ∧ c ≤ 1 ∧ φ 2 = nI t ∧ φ 3 = nI m ∧ φ 4 = nI c)
def GI (q : Nat) (g : Nat → Int32) : Prop := (∃ a h : Nat, a ≤ 20000 ∧ h ≤ 120 ∧ g 0 = nI a ∧ g 1 = nI h) ∧ (∃ l : Nat, l ≤ 5 ∧ g 2 = nI l) ∧ ∃ n : Nat, n ≤ 400 * q ∧ g 3 = nI n
def OrI (ω : Nat → Int32) : Prop := ∃ kk zz mm : Nat, kk < 4 ∧ 1 ≤ zz ∧ zz ≤ 9 ∧ 1 ≤ mm ∧ mm ≤ 60 ∧ ω 0 = nI kk ∧ ω 1 = nI zz ∧ ω 2 = nI mm
def ShI (q : Nat) (f : Nat → Int32) : Prop := ∀ j, j < 36 → ∃ a : Nat, a ≤ 20 * q ∧ f j = nI a
def Inv (q : Nat) (g : Nat → Int32) (nf : Nat) (F : Nat → Nat → Int32) (f : Nat → Int32) (no : Nat) (O : Nat → Nat → Int32) : Prop :=
  nf ≤ 12 ∧ no ≤ 20 ∧ GI q g ∧ (∀ i, i < nf → FrI (F i)) ∧ (∀ j, j < no → OrI (O j)) ∧ ShI q f
theorem GI.up {q : Nat} {g : Nat → Int32} (h : GI q g) : GI (q + 1) g := by
  obtain ⟨h1, h2, n, hn, e⟩ := h
  exact ⟨h1, h2, n, by omega, e⟩
theorem ShI.up {q : Nat} {f : Nat → Int32} (h : ShI q f) : ShI (q + 1) f := fun j hj => by
  obtain ⟨a, ha, e⟩ := h j hj
  exact ⟨a, by omega, e⟩
theorem ShI.ok {q : Nat} {f : Nat → Int32} (h : ShI q f) (hq : q ≤ 512) : okS f := fun j hj => by
  obtain ⟨a, ha, e⟩ := h j hj
  exact ⟨a, by omega, e⟩
section INV
variable {q nf no i : Nat} {g f φ : Nat → Int32} {F O : Nat → Nat → Int32} {a b z : Int32}
theorem FrI.fr {F : Nat → Nat → Int32} {nf i : Nat} {ψ : Nat → Int32} (h : ∀ j, j < nf → FrI (F j)) (hψ : FrI ψ) : ∀ j, j < nf → FrI (va_up F i ψ j) := fun j hj => by
  by_cases e : j = i
  · subst e; simp only [va_up, if_pos]; exact hψ
  · simp only [va_up, if_neg e]; exact h j hj
theorem OrI.fr {O : Nat → Nat → Int32} {no i : Nat} {ψ : Nat → Int32} (h : ∀ j, j < no → OrI (O j)) (hψ : OrI ψ) : ∀ j, j < no → OrI (va_up O i ψ j) := fun j hj => by
  by_cases e : j = i
  · subst e; simp only [va_up, if_pos]; exact hψ
  · simp only [va_up, if_neg e]; exact h j hj
theorem R_of (hφ : FrI φ) (hg : GI q g) : Rl φ g (m_t g φ) φ (g 2) ∧ IR (m_t g φ) φ (g 2) := by
  obtain ⟨h1, t, m, c, ht, hm, hc, e2, e3, e4⟩ := hφ
  obtain ⟨⟨a, h, ha, hh, g0, g1⟩, hl, -⟩ := hg
  exact ⟨⟨rfl, rfl, rfl, rfl, rfl, rfl, rfl, rfl, rfl⟩, h1, ⟨a, h, ha, hh, g0, g1⟩, ⟨t, m, c, ht, hm, hc, e2, e3, e4⟩, hl⟩
/-! melt, setFire -/
/-! a dip -/
theorem dipF_hi {h : Int32} {j : Nat} (h2 : j ≠ 2) (h3 : j ≠ 3) (h4 : j ≠ 4) (h6 : j ≠ 6) : p_dipF φ h j = φ j := by
  unfold p_dipF
  split
  · unfold p_meltF
    split
    · rw [upd_no h3, upd_no h4, upd_no h2, upd_no h6]
    · rw [upd_no h3, upd_no h2, upd_no h6]
  · unfold p_upF
    split
    · rw [upd_no h3, upd_no h2, upd_no h4, upd_no h6]
    · rw [upd_no h3, upd_no h2, upd_no h6]
theorem dipF_6 {h : Int32} : p_dipF φ h 6 = φ 6 + 1 := by
  unfold p_dipF
  split
  · unfold p_meltF
    split
    · rw [upd_no (by decide), upd_no (by decide), upd_no (by decide), upd_at]
    · rw [upd_no (by decide), upd_no (by decide), upd_at]
  · unfold p_upF
    split
    · rw [upd_no (by decide), upd_no (by decide), upd_no (by decide), upd_at]
    · rw [upd_no (by decide), upd_no (by decide), upd_at]
theorem dipV_hi {j : Nat} (h0 : j ≠ 0) : p_dipV φ g j = g j := by
  unfold p_dipV
  split
  · rfl
  · unfold p_upV; rw [upd_no h0]
theorem dip_eq (hφ : FrI φ) (hg : GI q g) (hc : p_can φ g) : p_dipF φ (g 1) = m_dipF (m_it1 g φ) φ ∧ upd (p_dipV φ g) 4 (p_dipV φ g 4 + 1) = G_dip0 g φ ∧ FrI (m_dipF (m_it1 g φ) φ) ∧ GI q (G_dip0 g φ) := by
  obtain ⟨hR, hI⟩ := R_of hφ hg
  have hm := (can_sync hR hI hc.1).mp hc
  obtain ⟨⟨r0, r1, r5, r2, r3, r4, n0, n1, n2⟩, hk, ⟨x, y, hx, hy, i0, i1⟩, htm, hl⟩ := dip_sync hR hI hm
  have e1 : p_dipF φ (g 1) = m_dipF (m_it1 g φ) φ := by
    funext j
    unfold m_dipF
    by_cases e6 : j = 6
    · subst e6; rw [upd_at, dipF_6]
    · rw [upd_no e6]
      by_cases e4 : j = 4
      · subst e4; rw [upd_at]; exact r4
      · rw [upd_no e4]
        by_cases e3 : j = 3
        · subst e3; rw [upd_at]; exact r3
        · rw [upd_no e3]
          by_cases e2 : j = 2
          · subst e2; rw [upd_at]; exact r2
          · rw [upd_no e2, dipF_hi e2 e3 e4 e6]
  have e2 : upd (p_dipV φ g) 4 (p_dipV φ g 4 + 1) = G_dip0 g φ := by
    funext j
    unfold G_dip0
    by_cases e4 : j = 4
    · subst e4; rw [upd_at, upd_at, dipV_hi (by decide)]
    · rw [upd_no e4, upd_no e4]
      by_cases e0 : j = 0
      · subst e0; rw [upd_at]; exact n0
      · rw [upd_no e0, dipV_hi e0]
  refine ⟨e1, e2, ?_, ?_⟩
  · rw [← e1]
    obtain ⟨k, w, hk1, hw1, hw2, k0, k1⟩ := hk
    obtain ⟨t, m, c, ht, hm1, hc1, i2, i3, i4⟩ := htm
    exact ⟨⟨k, w, hk1, hw1, hw2, r0.trans k0, r1.trans k1⟩, t, m, c, ht, hm1, hc1, r2.trans i2, r3.trans i3, r4.trans i4⟩
  · obtain ⟨⟨_, h, _, hh, _, g1⟩, hl2, n, hn, g3⟩ := hg
    have hg0 : G_dip0 g φ 0 = nI x := by
      show upd (upd g 0 (m_it1 g φ 0)) 4 (g 4 + 1) 0 = nI x
      rw [upd_no (by decide), upd_at]; exact i0
    exact ⟨⟨x, h, hx, hh, hg0, g1⟩, hl2, n, hn, g3⟩
theorem burn_GI (hg : GI q g) : ∃ b : Nat, b ≤ 120 ∧ p_burn (g 2) (g 1) = nI b := by
  obtain ⟨⟨_, h, _, hh, _, g1⟩, ⟨l, hl, g2⟩, -⟩ := hg
  rw [g1, g2]
  exact burn_n hh hl
/-- a quarter: n of them gone since q calls -/
def GN (n : Nat) (g : Nat → Int32) : Prop := (∃ a h : Nat, a ≤ 20000 ∧ h ≤ 120 ∧ g 0 = nI a ∧ g 1 = nI h) ∧ (∃ l : Nat, l ≤ 5 ∧ g 2 = nI l) ∧ ∃ m : Nat, m ≤ n ∧ g 3 = nI m
theorem qG_GN {n : Nat} (hg : GN n g) : GN (n + 1) (m_qG g) := by
  obtain ⟨⟨x, h, hx, hh, g0, g1⟩, ⟨l, hl, g2⟩, m, hm, g3⟩ := hg
  obtain ⟨b, hb, eb⟩ := burn_n hh hl
  refine ⟨⟨x, b, hx, hb, g0, ?_⟩, ⟨l, hl, g2⟩, m + 1, by omega, ?_⟩
  · show p_burn (g 2) (g 1) = nI b
    rw [g1, g2, eb]
  · show g 3 + 1 = nI (m + 1)
    rw [g3]; exact nI_1 m
theorem coolTo_FrI {n b9 : Nat} (hF : ∀ i, i < nf → FrI (F i)) : ∀ i, i < nf → FrI (m_coolTo n b9 F i) := fun i hi => by
  unfold m_coolTo
  split
  · obtain ⟨hk, t, m, c, ht, hm, hc, e2, e3, e4⟩ := hF i hi
    obtain ⟨x, hx, ex⟩ := cooling_n (F i)
    obtain ⟨M, hM, eM⟩ := cool_n hm hx
    exact ⟨hk, t, M, c, ht, hM, hc, e2, by unfold p_coolF; rw [upd_at, e3, ex, eM], e4⟩
  · exact hF i hi
theorem qO_OrI {n : Nat} (hO : ∀ j, j < no → OrI (O j)) : ∀ j, j < no → OrI (m_qO n g O j) := fun j hj => by
  unfold m_qO
  split
  · unfold m_lateTo
    split
    · obtain ⟨kk, zz, mm, h1, h2, h3, h4, h5, e0, e1, e2⟩ := hO j hj
      exact ⟨kk, zz, mm, h1, h2, h3, h4, h5, by rw [upd_no (by decide)]; exact e0, by rw [upd_no (by decide)]; exact e1, by rw [upd_no (by decide)]; exact e2⟩
    · exact hO j hj
  · exact hO j hj
theorem pG_GN : ∀ (k : Nat) {n : Nat} {g : Nat → Int32}, GN n g → GN (n + k) (m_pG k g)
  | 0, _, _, h => h
  | k + 1, n, g, h => by
    have := pG_GN k (qG_GN h)
    rw [show n + 1 + k = n + (k + 1) by omega] at this
    exact this
theorem pF_FrI : ∀ (k : Nat) {b9 : Nat} {F : Nat → Nat → Int32}, (∀ i, i < nf → FrI (F i)) → ∀ i, i < nf → FrI (m_pF k nf b9 F i)
  | 0, _, _, h => h
  | k + 1, _, _, h => pF_FrI k (coolTo_FrI h)
theorem pO_OrI : ∀ (k : Nat) {g : Nat → Int32} {O : Nat → Nat → Int32}, (∀ j, j < no → OrI (O j)) → ∀ j, j < no → OrI (m_pO k no g O j)
  | 0, _, _, h => h
  | k + 1, _, _, h => pO_OrI k (qO_OrI h)
end INV
