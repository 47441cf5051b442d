/-! ===== what holds between the law's steps; each step keeps it ===== -/
abbrev disj (nf : Nat) (F : Nat → Nat → Int32) : Prop := ∀ i j, i < nf → j < nf → F i 5 ≠ -1 → F i 5 = F j 5 → i = j
def IV (n q : Nat) (g : Nat → Int32) (nf : Nat) (F : Nat → Nat → Int32) (f : Nat → Int32) (no : Nat) (O : Nat → Nat → Int32) : Prop :=
  nf ≤ 7 ∧ no ≤ 20 ∧ GN n g ∧ (∀ i, i < nf → FrV (F i)) ∧ (∀ j, j < no → OrV (O j)) ∧ ShI q f ∧ disj nf F
section IVS
variable {n q nf no i : Nat} {g f φ : Nat → Int32} {F O : Nat → Nat → Int32} {x y : Int32}
theorem ShI.mono {q' : Nat} (h : ShI q f) (hq : q ≤ q') : ShI q' f := fun j hj => by
  obtain ⟨a, ha, e⟩ := h j hj
  exact ⟨a, Nat.le_trans ha (Nat.mul_le_mul_left 20 hq), e⟩
theorem GN.mono {n' : Nat} (h : GN n g) (hn : n ≤ n') : GN n' g := by
  obtain ⟨a, b, m, hm, e⟩ := h
  exact ⟨a, b, m, Nat.le_trans hm hn, e⟩
theorem IV.mono {n' q' : Nat} (h : IV n q g nf F f no O) (hn : n ≤ n') (hq : q ≤ q') : IV n' q' g nf F f no O :=
  ⟨h.1, h.2.1, h.2.2.1.mono hn, h.2.2.2.1, h.2.2.2.2.1, h.2.2.2.2.2.1.mono hq, h.2.2.2.2.2.2⟩
theorem IV.fr (h : IV n q g nf F f no O) : ∀ i, i < nf → FrV (F i) := h.2.2.2.1
theorem IV.or (h : IV n q g nf F f no O) : ∀ j, j < no → OrV (O j) := h.2.2.2.2.1
theorem IV.gn (h : IV n q g nf F f no O) : GN n g := h.2.2.1
theorem IV.qn (h : IV n q g nf F f no O) : ∃ m : Nat, m ≤ n ∧ g 3 = nI m := h.2.2.1.2.2
theorem IV.okS (h : IV n q g nf F f no O) (hq : q ≤ 512) : okS f := h.2.2.2.2.2.1.ok hq
theorem FrV.c01 (h : FrV φ) : φ 4 = 0 ∨ φ 4 = 1 := by
  obtain ⟨⟨-, t, m, c, -, -, hc, -, -, e4⟩, -⟩ := h
  rw [e4]
  rcases (show c = 0 ∨ c = 1 by omega) with rfl | rfl
  · exact Or.inl rfl
  · exact Or.inr rfl
theorem FrV.kind (h : FrV φ) : ∃ kk : Nat, kk < 4 ∧ φ 0 = nI kk := by
  obtain ⟨⟨⟨k, w, hk, -, -, e0, -⟩, -⟩, -⟩ := h
  exact ⟨k, hk, e0⟩
theorem FrV.size0 (h : FrV φ) : 0 ≤ p_size φ := (frI_size h.1).2
theorem FrV.place (h : FrV φ) (hx : x = -1 ∨ ∃ h : Nat, h ≤ 11 ∧ x = nI h) : FrV (upd φ 5 x) := ⟨h.1, hx, h.2.2⟩
theorem disj_up (hd : disj nf F) (hφ : φ 5 = F i 5) : disj nf (va_up F i φ) := fun a b ha hb h1 h2 => by
  have e : ∀ z, va_up F i φ z 5 = F z 5 := fun z => by
    by_cases hz : z = i
    · subst hz; rw [va_upat, hφ]
    · simp [va_up, hz]
  rw [e, e] at h2
  rw [e] at h1
  exact hd a b ha hb h1 h2
theorem atL_no {h : Int32} : ∀ (m i : Nat), m_atL m i F h = -1 → m + i < 2 ^ 31 → ∀ j, i ≤ j → j < i + m → F j 5 ≠ h
  | 0, i, _, _, j, h1, h2 => by omega
  | m + 1, i, h0, hb, j, h1, h2 => by
    rw [m_atL] at h0
    by_cases e : F i 5 = h
    · rw [if_pos e] at h0
      exact absurd h0 (nI_nm (by omega))
    · rw [if_neg e] at h0
      by_cases hj : j = i
      · subst hj; exact e
      · exact atL_no m (i + 1) h0 (by omega) j (by omega) (by omega)
theorem atL_is {h : Int32} {k : Nat} : ∀ (m i : Nat), m_atL m i F h = nI k → m + i < 2 ^ 31 → k < 2 ^ 31 → F k 5 = h ∧ i ≤ k ∧ k < i + m
  | 0, i, h0, _, hk => absurd h0.symm (nI_nm hk)
  | m + 1, i, h0, hb, hk => by
    rw [m_atL] at h0
    by_cases e : F i 5 = h
    · rw [if_pos e] at h0
      have := (nI_eq (by omega) hk).mp h0
      subst this
      exact ⟨e, Nat.le_refl _, by omega⟩
    · rw [if_neg e] at h0
      obtain ⟨a, b, c⟩ := atL_is m (i + 1) h0 (by omega) hk
      exact ⟨a, by omega, by omega⟩
theorem atL_in {h : Int32} : ∀ (m i : Nat), m + i < 2 ^ 31 → m_atL m i F h = -1 ∨ ∃ k, i ≤ k ∧ k < i + m ∧ m_atL m i F h = nI k
  | 0, i, _ => Or.inl rfl
  | m + 1, i, hb => by
    rw [m_atL]
    by_cases e : F i 5 = h
    · rw [if_pos e]; exact Or.inr ⟨i, Nat.le_refl _, by omega, rfl⟩
    · rw [if_neg e]
      rcases atL_in m (i + 1) (by omega) with h9 | ⟨k, h1, h2, h3⟩
      · exact Or.inl h9
      · exact Or.inr ⟨k, by omega, by omega, h3⟩
theorem at_cases {h : Int32} (hn : nf ≤ 12) : m_at nf F h = -1 ∨ ∃ k, k < nf ∧ m_at nf F h = nI k := by
  rcases atL_in (F := F) (h := h) nf 0 (by omega) with h9 | ⟨k, h1, h2, h3⟩
  · exact Or.inl h9
  · exact Or.inr ⟨k, by omega, h3⟩
/-- the hook tells who hangs there -/
theorem at_who {k : Nat} (hn : nf ≤ 12) (hd : disj nf F) (hk : k < nf) (h5 : F k 5 ≠ -1) : m_at nf F (F k 5) = nI k := by
  rcases at_cases (F := F) (h := F k 5) hn with h | ⟨j, hj, e⟩
  · exact absurd rfl (atL_no nf 0 h (by omega) k (by omega) (by omega))
  · obtain ⟨a, -, -⟩ := atL_is nf 0 e (by omega) (by omega)
    rw [e, hd k j hk hj h5 a.symm]
theorem disj_hang {k h : Nat} (hn : nf ≤ 12) (hd : disj nf F) (hk : k < nf) (hh : h ≤ 11) (hm : m_at nf F (nI h) = -1 ∨ m_at nf F (nI h) = nI k) : disj nf (va_up F k (upd (F k) 5 (nI h))) := by
  have only : ∀ j, j < nf → F j 5 = nI h → j = k := fun j hj e => by
    rcases hm with h9 | h9
    · exact absurd e (atL_no nf 0 h9 (by omega) j (by omega) (by omega))
    · obtain ⟨a, -, -⟩ := atL_is nf 0 h9 (by omega) (by omega)
      exact hd j k hj hk (by rw [e]; exact nI_nm (by omega)) (e.trans a.symm)
  intro a b ha hb h1 h2
  by_cases ea : a = k <;> by_cases eb : b = k
  · omega
  · subst ea
    rw [va_upat] at h2
    simp only [va_up, if_neg eb] at h2
    exact absurd (only b hb h2.symm) eb
  · subst eb
    rw [va_upat] at h2
    simp only [va_up, if_neg ea] at h2
    exact absurd (only a ha h2) ea
  · simp only [va_up, if_neg ea, if_neg eb] at h1 h2
    exact hd a b ha hb h1 h2
theorem disj_aside {k : Nat} (hd : disj nf F) : disj nf (va_up F k (upd (F k) 5 (-1))) := by
  intro a b ha hb h1 h2
  by_cases ea : a = k
  · subst ea; rw [va_upat] at h1; exact absurd rfl h1
  · by_cases eb : b = k
    · subst eb
      rw [va_upat] at h2
      simp only [va_up, if_neg ea] at h1 h2
      exact absurd h2 h1
    · simp only [va_up, if_neg ea, if_neg eb] at h1 h2
      exact hd a b ha hb h1 h2
theorem iv_fire {l : Nat} (h : IV n q g nf F f no O) (hl : l ≤ 5) : IV n q (upd g 2 (nI l)) nf F f no O :=
  ⟨h.1, h.2.1, ⟨h.2.2.1.1, ⟨l, hl, rfl⟩, h.2.2.1.2.2⟩, h.2.2.2⟩
theorem iv_hang {k hh : Nat} (h : IV n q g nf F f no O) (hk : k < nf) (h11 : hh ≤ 11) (hm : m_at nf F (nI hh) = -1 ∨ m_at nf F (nI hh) = nI k) : IV n q g nf (va_up F k (upd (F k) 5 (nI hh))) f no O :=
  ⟨h.1, h.2.1, h.2.2.1, FrV_up h.fr ((h.fr k hk).place (Or.inr ⟨hh, h11, rfl⟩)), h.or, h.2.2.2.2.2.1, disj_hang (by have := h.1; omega) h.2.2.2.2.2.2 hk h11 hm⟩
theorem iv_aside {k : Nat} (h : IV n q g nf F f no O) (hk : k < nf) : IV n q g nf (va_up F k (upd (F k) 5 (-1))) f no O :=
  ⟨h.1, h.2.1, h.2.2.1, FrV_up h.fr ((h.fr k hk).place (Or.inl rfl)), h.or, h.2.2.2.2.2.1, disj_aside h.2.2.2.2.2.2⟩
theorem iv_frame {k y : Nat} (h : IV n q g nf F f no O) (hn : nf < 7) (hk : k < 4) (h1 : 1 ≤ y) (h20 : y ≤ 20) : IV n q g (nf + 1) (va_up F nf (N_F (nI k) (nI y))) f no O := by
  refine ⟨by omega, h.2.1, h.2.2.1, fun j hj => ?_, h.or, h.2.2.2.2.2.1, fun a b ha hb e1 e2 => ?_⟩
  · by_cases e : j = nf
    · subst e; rw [va_upat]
      exact ⟨⟨⟨k, y, hk, h1, h20, rfl, rfl⟩, 0, 0, 0, by omega, by omega, by omega, rfl, rfl, rfl⟩, Or.inl rfl, fun _ => rfl⟩
    · simp only [va_up, if_neg e]; exact h.fr j (by omega)
  · by_cases ea : a = nf
    · subst ea; rw [va_upat] at e1; exact absurd rfl e1
    · by_cases eb : b = nf
      · subst eb
        rw [va_upat] at e2
        simp only [va_up, if_neg ea] at e1 e2
        exact absurd e2 e1
      · simp only [va_up, if_neg ea, if_neg eb] at e1 e2
        exact h.2.2.2.2.2.2 a b (by omega) (by omega) e1 e2
theorem iv_order {k z u d : Nat} (h : IV n q g nf F f no O) (hn : no < 20) (hk : k < 4) (hz1 : 1 ≤ z) (hz9 : z ≤ 9) (hu1 : 1 ≤ u) (hu : u ≤ 60) (hd : d ≤ 1000) : IV n q g nf F f (no + 1) (va_up O no (N_O (nI k) (nI z) (nI u) (nI d))) := by
  refine ⟨h.1, by omega, h.2.2.1, h.fr, fun j hj => ?_, h.2.2.2.2.2⟩
  by_cases e : j = no
  · subst e; rw [va_upat]
    exact ⟨⟨k, z, u, hk, hz1, hz9, hu1, hu, rfl, rfl, rfl⟩, d, hd, rfl⟩
  · simp only [va_up, if_neg e]; exact h.or j (by omega)
theorem coolV (h : FrV φ) : FrV (p_coolF φ) := by
  obtain ⟨⟨h1, t, m, c, ht, hm, hc, e2, e3, e4⟩, hp, hb⟩ := h
  obtain ⟨x, hx, ex⟩ := cooling_n φ
  obtain ⟨M, hM, eM⟩ := cool_n hm hx
  refine ⟨⟨h1, t, M, c, ht, hM, hc, e2, ?_, e4⟩, hp, hb⟩
  show jmax 0 (φ 3 - p_cooling φ) = nI M
  rw [e3, ex, eM]
theorem coolTo_V {b : Nat} (h : ∀ i, i < nf → FrV (F i)) : ∀ i, i < nf → FrV (m_coolTo nf b F i) := fun i hi => by
  unfold m_coolTo
  split
  · exact coolV (h i hi)
  · exact h i hi
theorem coolTo_5 {b z : Nat} : m_coolTo nf b F z 5 = F z 5 := by
  unfold m_coolTo
  split <;> rfl
theorem qO_V (h : ∀ j, j < no → OrV (O j)) : ∀ j, j < no → OrV (m_qO no g O j) := fun j hj => by
  unfold m_qO
  split
  · unfold m_lateTo
    split
    · exact ⟨(h j hj).1, (h j hj).2⟩
    · exact h j hj
  · exact h j hj
theorem disj_cool {b : Nat} (h : disj nf F) : disj nf (m_coolTo nf b F) := fun a c ha hc h1 h2 => by
  rw [coolTo_5] at h1
  rw [coolTo_5, coolTo_5] at h2
  exact h a c ha hc h1 h2
theorem iv_pass {b : Nat} (h : IV n q g nf F f no O) : IV (n + 1) q (m_qG g) nf (m_coolTo nf b F) f no (m_qO no g O) :=
  ⟨h.1, h.2.1, qG_GN h.2.2.1, coolTo_V h.fr, qO_V h.or, h.2.2.2.2.2.1, disj_cool h.2.2.2.2.2.2⟩
abbrev dG (φ g : Nat → Int32) : Nat → Int32 := upd (p_dipV φ g) 4 (p_dipV φ g 4 + 1)
theorem iv_dip0 (h : IV n q g nf F f no O) (hi : i < nf) (hc : p_can (F i) g) : IV n q (dG (F i) g) nf (va_up F i (p_dipF (F i) (g 1))) f no O := by
  obtain ⟨a, b⟩ := dip_FrV (h.fr i hi) h.2.2.1 hc
  exact ⟨h.1, h.2.1, b, FrV_up h.fr a, h.or, h.2.2.2.2.2.1, disj_up h.2.2.2.2.2.2 (dipF_hi (by decide) (by decide) (by decide) (by decide))⟩
theorem iv_dip (h : IV n q g nf F f no O) (hi : i < nf) (hc : p_can (F i) g) : IV (n + 1) q (m_qG (dG (F i) g)) nf (m_coolTo nf i (va_up F i (p_dipF (F i) (g 1)))) f no (m_qO no (dG (F i) g) O) := iv_pass (iv_dip0 h hi hc)
theorem renewV (h : FrV φ) : FrV (p_renewF φ) := ⟨renew_FrI h.1, h.2.1, fun _ => rfl⟩
theorem iv_cut (h : IV n q g nf F f no O) (hi : i < nf) : IV n (q + 1) (CG_cut g (F i)) nf (va_up F i (p_renewF (F i))) (Cf_cut f (F i)) no O := by
  have hφ := h.fr i hi
  refine ⟨h.1, h.2.1, ?_, FrV_up h.fr (renewV hφ), h.or, ?_, disj_up h.2.2.2.2.2.2 rfl⟩
  · obtain ⟨⟨a, hh, ha, hh2, g0, g1⟩, hl, hm⟩ := h.2.2.1
    obtain ⟨⟨⟨k, w, hk, hw1, hw, e0, e1⟩, t, m, c, ht, -, -, e2, -, -⟩, -⟩ := hφ
    unfold CG_cut
    split
    · refine ⟨⟨min 20000 (a + t * (8 + k) * w / 10), hh, Nat.min_le_left _ _, hh2, ?_, g1⟩, hl, hm⟩
      show jmin 20000 (g 0 + p_wax (F i) (F i 2)) = _
      rw [e2, wax_n hk hw ht e0 e1, g0, nI_add, show (20000 : Int32) = nI 20000 from rfl]
      have hb : t * (8 + k) * w ≤ 400 * 11 * 20 := Nat.mul_le_mul (Nat.mul_le_mul ht (by omega)) hw
      exact jmin_nI (by decide) (by have := Nat.div_le_self (t * (8 + k) * w) 10; omega)
    · exact ⟨⟨a, hh, ha, hh2, g0, g1⟩, hl, hm⟩
  · unfold Cf_cut
    split
    · exact h.2.2.2.2.2.1.mono (by omega)
    · obtain ⟨zz, hz1, hz9, hzz⟩ := size_zz hφ.size0 ‹_›
      obtain ⟨⟨⟨k, w, hk, hw1, hw, e0, e1⟩, -⟩, -⟩ := hφ
      rw [e0, nn_nI (by omega), hzz, nn_nI (by omega), e1]
      exact h.2.2.2.2.2.1.put hk hz1 hz9 hw
theorem take_Sh {k z w : Nat} (h : ShI q f) (hq : q ≤ 512) (hk : k < 4) (hz1 : 1 ≤ z) (hz9 : z ≤ 9) (hw : w ≤ 100) : ShI q (p_take f k z (nI w)) := fun j hj => by
  obtain ⟨r1, r2, r3⟩ := take_fill (10 - z) z w f (h.ok hq) hk hz1 (by omega) hw
  unfold p_take
  rw [r1]
  obtain ⟨e, -⟩ := okS_nn r2 hj
  obtain ⟨a, ha, ea⟩ := h j hj
  have := r3 j hj
  rw [ea, nn_nI (by omega)] at this
  exact ⟨_, by omega, e⟩
theorem iv_fill {k z w : Nat} (h : IV n q g nf F f no O) (hq : q ≤ 512) (hi : i < no) (hk : k < 4) (hz1 : 1 ≤ z) (hz9 : z ≤ 9) (hw : w ≤ 100) : IV n q g nf F (p_take f k z (nI w)) no (va_up O i (upd (O i) 4 1)) :=
  ⟨h.1, h.2.1, h.2.2.1, h.fr, OrV_up h.or ⟨(h.or i hi).1, (h.or i hi).2⟩, take_Sh h.2.2.2.2.2.1 hq hk hz1 hz9 hw, h.2.2.2.2.2.2⟩
end IVS
section WSg
variable {G : mG} {ad : Nat → Nat} {g g' : Nat → Int32} {nf no : Nat} {F O : Nat → Nat → Int32} {f φ : Nat → Int32} {R : mM} {w : Int32}
theorem WS_g (h : ∀ i, i < 5 → g i = g' i) : WS G ad g nf F f no O w R = WS G ad g' nf F f no O w R := by
  have e : mU (WS G ad g nf F f no O w R) 50 (sO ad g w) = WS G ad g nf F f no O w R := WS_w0
  have e2 : mU (WS G ad g nf F f no O w R) 50 (sO ad g' w) = WS G ad g' nf F f no O w R := WS_w0
  rw [← e2]
  rw [show sO ad g' w = sO ad g w from by simp only [sO]; rw [h 0 (by decide), h 1 (by decide), h 2 (by decide), h 3 (by decide), h 4 (by decide)], e]
theorem renew_eq : upd (upd (upd (upd φ 2 0) 3 0) 6 0) 4 0 = p_renewF φ := by
  unfold p_renewF
  funext q
  simp only [upd]
  by_cases a : q = 4
  · subst a; simp
  · by_cases b : q = 6
    · subst b; simp
    · simp [a, b]
end WSg
