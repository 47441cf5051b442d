/-! ===== .. the other calls ===== -/
section INW
variable {q nf no i : Nat} {g f φ : Nat → Int32} {F O : Nat → Nat → Int32} {a b y w z : Int32}
theorem frI_size (hφ : FrI φ) : p_size φ = m_size (φ 2) (φ 4) ∧ 0 ≤ p_size φ := by
  obtain ⟨hk, t, m, c, ht, hm, hc, e2, e3, e4⟩ := hφ
  refine ⟨size_sync hc e4, ?_⟩
  unfold p_size
  rw [e2, e4]
  rcases (show c = 0 ∨ c = 1 by omega) with rfl | rfl
  · rw [if_pos (show nI 0 = 0 from rfl), show (40 : Int32) = nI 40 from rfl, pk_div (by omega) (by decide) (by decide), show (9 : Int32) = nI 9 from rfl, jmin_nI (by decide) (by omega)]
    exact nI_pos' (by have := Nat.min_le_left 9 (t / 40); omega)
  · rw [if_neg (by decide), show (80 : Int32) = nI 80 from rfl, pk_div (by omega) (by decide) (by decide), show (9 : Int32) = nI 9 from rfl, jmin_nI (by decide) (by omega)]
    exact nI_pos' (by have := Nat.min_le_left 9 (t / 80); omega)
theorem renew_FrI (hφ : FrI φ) : FrI (p_renewF φ) := by
  obtain ⟨⟨k, w, h1, h2, h3, e0, e1⟩, -⟩ := hφ
  exact ⟨⟨k, w, h1, h2, h3, e0, e1⟩, 0, 0, 0, by omega, by omega, by omega, rfl, rfl, rfl⟩
theorem ShI.put {k z m : Nat} (h : ShI q f) (hk : k < 4) (hz1 : 1 ≤ z) (hz9 : z ≤ 9) (hm : m ≤ 20) : ShI (q + 1) (upd f (9 * k + z - 1) (f (9 * k + z - 1) + nI m)) := fun j hj => by
  by_cases e : j = 9 * k + z - 1
  · subst e
    obtain ⟨x, hx, ex⟩ := h (9 * k + z - 1) hj
    exact ⟨x + m, by omega, by rw [upd_at, ex, nI_add]⟩
  · obtain ⟨x, hx, ex⟩ := h j hj
    exact ⟨x, by omega, by rw [upd_no e, ex]⟩
theorem s_cutOff (hI : Inv q g nf F f no O) (h : K_cutOff nf F a = 0) :
    p_size (F (nn a)) = S_cut (F (nn a)) ∧ CG_cut g (F (nn a)) = G_cut g (F (nn a)) ∧ Cf_cut f (F (nn a)) = f_cut f (F (nn a)) ∧ Inv (q + 1) (G_cut g (F (nn a))) nf (va_up F (nn a) (p_renewF (F (nn a)))) (f_cut f (F (nn a))) no O := by
  obtain ⟨h12, h20, hg, hF, hO, hS⟩ := hI
  obtain ⟨h1, h2, h3⟩ := K0_cutOff h
  obtain ⟨i, hi, rfl⟩ := fr_of (by omega) h1
  rw [nn_nI (by omega)]
  have hφ := hF i hi
  obtain ⟨es, hs0⟩ := frI_size hφ
  have es' : p_size (F i) = S_cut (F i) := es
  have eg : CG_cut g (F i) = G_cut g (F i) := by
    unfold CG_cut G_cut
    rw [← es']
    by_cases q0 : p_size (F i) = 0
    · rw [if_pos q0, if_neg (by rw [q0]; decide)]
      unfold p_backV
      funext j
      by_cases e5 : j = 5
      · subst e5; rw [upd_no (by decide), upd_at, upd_at]
      · rw [upd_no (k := 5) e5]
        by_cases e0 : j = 0
        · subst e0; rw [upd_at, upd_at, upd_no (by decide)]
        · rw [upd_no e0, upd_no e5, upd_no e0]
    · have hp : 0 < p_size (F i) := by
        obtain ⟨zz, hz1, hz9, ez⟩ := size_zz hs0 q0
        rw [ez]; exact nI_lt (a := 0) (by omega) (by omega)
      rw [if_neg q0, if_pos hp]
      funext j
      by_cases e5 : j = 5
      · subst e5; rw [upd_at, Int32.add_zero]
      · rw [upd_no e5]
  have ef : Cf_cut f (F i) = f_cut f (F i) := by
    unfold Cf_cut f_cut
    rw [← es']
    by_cases q0 : p_size (F i) = 0
    · rw [if_pos q0, if_neg (by rw [q0]; decide)]
    · have hp : 0 < p_size (F i) := by
        obtain ⟨zz, hz1, hz9, ez⟩ := size_zz hs0 q0
        rw [ez]; exact nI_lt (a := 0) (by omega) (by omega)
      rw [if_neg q0, if_pos hp]
  refine ⟨es', eg, ef, h12, h20, ?_, FrI.fr hF (renew_FrI hφ), hO, ?_⟩
  · rw [← eg]
    unfold CG_cut
    obtain ⟨⟨k, w, hk, hw1, hw2, e0, e1⟩, t, m, c, ht, hm, hc, e2, e3, e4⟩ := hφ
    split
    · obtain ⟨⟨x, hh, hx, hh1, g0, g1⟩, hl, n, hn, g3⟩ := hg
      have hwx := wax_n (φ := F i) hk hw2 ht e0 e1
      have hb1 : t * (8 + k) ≤ 400 * 11 := Nat.mul_le_mul ht (by omega)
      have hb2 : t * (8 + k) * w ≤ 400 * 11 * 20 := Nat.mul_le_mul hb1 hw2
      refine ⟨⟨min 20000 (x + t * (8 + k) * w / 10), hh, Nat.min_le_left _ _, hh1, ?_, g1⟩, hl, n, by omega, g3⟩
      show jmin 20000 (g 0 + p_wax (F i) (F i 2)) = _
      rw [g0, e2, hwx, nI_add, show (20000 : Int32) = nI 20000 from rfl, jmin_nI (by decide) (by omega)]
    · exact hg.up
  · rw [← ef]
    unfold Cf_cut
    obtain ⟨⟨k, w, hk, hw1, hw2, e0, e1⟩, -⟩ := hφ
    split
    · exact hS.up
    · rename_i q0
      obtain ⟨zz, hz1, hz9, ez⟩ := size_zz hs0 q0
      rw [e0, nn_nI (by omega), ez, nn_nI (by omega), e1]
      exact hS.put hk hz1 hz9 hw2
theorem s_place (hI : Inv q g nf F f no O) {x : Int32} : Inv (q + 1) g nf (va_up F i (upd (F i) 5 x)) f no O ∨ nf ≤ i := by
  obtain ⟨h12, h20, hg, hF, hO, hS⟩ := hI
  by_cases hi : i < nf
  · refine Or.inl ⟨h12, h20, hg.up, FrI.fr hF ?_, hO, hS.up⟩
    obtain ⟨⟨k, w, h1, h2, h3, e0, e1⟩, t, m, c, ht, hm, hc, e2, e3, e4⟩ := hF i hi
    exact ⟨⟨k, w, h1, h2, h3, e0, e1⟩, t, m, c, ht, hm, hc, e2, e3, e4⟩
  · exact Or.inr (Nat.not_lt.mp hi)
theorem s_hang (hI : Inv q g nf F f no O) (h : K_hang nf F a b = 0) : Inv (q + 1) g nf (va_up F (nn a) (upd (F (nn a)) 5 b)) f no O := by
  obtain ⟨i, hi, rfl⟩ := fr_of (by have := hI.1; omega) (K0_hang h).1
  rw [nn_nI (by have := hI.1; omega)]
  exact (s_place hI).resolve_right (by omega)
theorem s_layAside (hI : Inv q g nf F f no O) (h : K_layAside nf F a = 0) : Inv (q + 1) g nf (va_up F (nn a) (upd (F (nn a)) 5 (-1))) f no O := by
  obtain ⟨i, hi, rfl⟩ := fr_of (by have := hI.1; omega) (K0_layAside h).1
  rw [nn_nI (by have := hI.1; omega)]
  exact (s_place hI).resolve_right (by omega)
theorem s_addFrame (hI : Inv q g nf F f no O) (h : K_addFrame nf a b = 0) : Inv (q + 1) g (nf + 1) (va_up F nf (N_F a b)) f no O := by
  obtain ⟨h12, h20, hg, hF, hO, hS⟩ := hI
  obtain ⟨h1, h2, h3⟩ := K0_addFrame h12 h
  obtain ⟨k, -, hk, rfl⟩ := in_of (a := 0) (b := 3) (by decide) (by decide) h1
  obtain ⟨w, hw1, hw2, rfl⟩ := in_of (a := 1) (b := 20) (by decide) (by decide) h2
  refine ⟨by omega, h20, hg.up, fun j hj => ?_, hO, hS.up⟩
  by_cases e : j = nf
  · subst e; simp only [va_up, if_pos]
    exact ⟨⟨k, w, by omega, hw1, hw2, rfl, rfl⟩, 0, 0, 0, by omega, by omega, by omega, rfl, rfl, rfl⟩
  · simp only [va_up, if_neg e]; exact hF j (by omega)
theorem s_addOrder (hI : Inv q g nf F f no O) (h : K_addOrder g no a b y w = 0) : Inv (q + 1) g nf F f (no + 1) (va_up O no (N_O a b y w)) := by
  obtain ⟨h12, h20, hg, hF, hO, hS⟩ := hI
  obtain ⟨h1, h2, h3, h4, h5⟩ := K0_addOrder h20 h
  obtain ⟨k, -, hk, rfl⟩ := in_of (a := 0) (b := 3) (by decide) (by decide) h1
  obtain ⟨zz, hz1, hz9, rfl⟩ := in_of (a := 1) (b := 9) (by decide) (by decide) h2
  obtain ⟨mm, hm1, hm6, rfl⟩ := in_of (a := 1) (b := 60) (by decide) (by decide) h3
  refine ⟨h12, by omega, hg.up, hF, fun j hj => ?_, hS.up⟩
  by_cases e : j = no
  · subst e; simp only [va_up, if_pos]
    exact ⟨k, zz, mm, by omega, hz1, hz9, hm1, hm6, rfl, rfl, rfl⟩
  · simp only [va_up, if_neg e]; exact hO j (by omega)
/-! fill -/
theorem takeL_0 {k : Nat} : ∀ (n b : Nat) (f : Nat → Int32), okS f → k < 4 → 1 ≤ b → b + n ≤ 10 → p_takeL n f k b 0 = f
  | 0, _, _, _, _, _, _ => rfl
  | n + 1, b, f, h, hk, hb, hn => by
    obtain ⟨e, hle⟩ := okS_nn h (j := 9 * k + b - 1) (by omega)
    have hj : jmin 0 (f (9 * k + b - 1)) = 0 := by rw [e, show (0 : Int32) = nI 0 from rfl, jmin_nI (by decide) (by omega), Nat.zero_min]
    have hu : upd f (9 * k + b - 1) (f (9 * k + b - 1) + -0) = f := by
      funext x
      by_cases ex : x = 9 * k + b - 1
      · subst ex; rw [upd_at]; simp
      · rw [upd_no ex]
    rw [p_takeL, hj, hu]
    exact takeL_0 n (b + 1) f h hk (by omega) (by omega)
theorem take_fill {k : Nat} : ∀ (n b w : Nat) (f : Nat → Int32), okS f → k < 4 → 1 ≤ b → b + n ≤ 10 → w ≤ 100 → p_takeL n f k b (nI w) = m_fillL n f k b (nI w) ∧ okS (m_fillL n f k b (nI w)) ∧ ∀ j, j < 36 → nn (m_fillL n f k b (nI w) j) ≤ nn (f j)
  | 0, _, _, _, h, _, _, _, _ => ⟨rfl, h, fun _ _ => Nat.le_refl _⟩
  | n + 1, b, w, f, h, hk, hb, hn, hw => by
    by_cases h0 : w = 0
    · subst h0
      rw [m_fillL_0]
      exact ⟨takeL_0 (n + 1) b f h hk hb hn, h, fun _ _ => Nat.le_refl _⟩
    · obtain ⟨e, hle⟩ := okS_nn h (j := 9 * k + b - 1) (by omega)
      generalize hv : nn (f (9 * k + b - 1)) = v at e hle
      have hj : jmin (nI w) (f (9 * k + b - 1)) = nI (min w v) := by rw [e, jmin_nI (by omega) (by omega)]
      have h1 : f (9 * k + b - 1) - nI (min w v) = nI (v - min w v) := by rw [e, pk_sub (Nat.min_le_right _ _)]
      have h2 : nI w - nI (min w v) = nI (w - min w v) := pk_sub (Nat.min_le_left _ _)
      have ho : okS (upd f (9 * k + b - 1) (nI (v - min w v))) := okS_upd h (by omega)
      obtain ⟨r1, r2, r3⟩ := take_fill n (b + 1) (w - min w v) _ ho hk (by omega) (by omega) (by omega)
      rw [p_takeL, m_fillL, if_pos (show (0 : Int32) < nI w from nI_lt (a := 0) (by omega) (by omega)), hj, ← Int32.sub_eq_add_neg, h1, h2]
      refine ⟨r1, r2, fun j hj2 => Nat.le_trans (r3 j hj2) ?_⟩
      by_cases ej : j = 9 * k + b - 1
      · subst ej; rw [upd_at, nn_nI (by omega), hv]; omega
      · rw [upd_no ej]; exact Nat.le_refl _
theorem sum_st (f : Nat → Int32) : p_sum 36 f 0 0 = p_sum 40 (stF f) 0 0 := by
  simp [p_sum, stF]
theorem s_fill (hI : Inv q g nf F f no O) (hq : q ≤ 512) (h : K_fill f no O a = 0) : c_fill f (O (nn a)) = f_fill f (O (nn a)) ∧ Inv (q + 1) g nf F (f_fill f (O (nn a))) no (va_up O (nn a) (upd (O (nn a)) 4 1)) := by
  obtain ⟨h12, h20, hg, hF, hO, hS⟩ := hI
  obtain ⟨h1, h2⟩ := K0_fill h
  obtain ⟨i, hi, rfl⟩ := fr_of (by omega) h1
  rw [nn_nI (by omega)]
  obtain ⟨kk, zz, mm, k1, k2, k3, k4, k5, e0, e1, e2⟩ := hO i hi
  have hok := hS.ok hq
  have ht := take_fill (k := kk) (10 - zz) zz mm f hok k1 k2 (by omega) (by omega)
  have ec : c_fill f (O i) = f_fill f (O i) := by
    unfold c_fill f_fill p_take m_fill
    rw [e0, e1, e2, nn_nI (by omega), nn_nI (by omega)]
    exact ht.1
  have ef : f_fill f (O i) = m_fillL (10 - zz) f kk zz (nI mm) := by
    unfold f_fill m_fill
    rw [e0, e1, e2, nn_nI (by omega), nn_nI (by omega)]
  refine ⟨ec, h12, h20, hg.up, hF, OrI.fr hO ⟨kk, zz, mm, k1, k2, k3, k4, k5, e0, e1, e2⟩, fun j hj => ?_⟩
  rw [ef]
  obtain ⟨x, hx, ex⟩ := ht.2.1 j hj
  have h3 := ht.2.2 j hj
  obtain ⟨v, hv, ev⟩ := hS j hj
  rw [ex, ev, nn_nI (by omega), nn_nI (by omega)] at h3
  exact ⟨x, by omega, ex⟩
/-! reads -/
theorem frame_eq (hφ : FrI φ) (k : Nat) : c_frame φ k = m_frame φ k := by
  unfold c_frame m_frame
  split
  · rfl
  · exact (frI_size hφ).1
theorem count_eq : ∀ k : Nat, c_count g nf F f no O k = m_count g nf F f no O k
  | 0 => rfl
  | 1 => rfl
  | 2 => rfl
  | 3 => sum_st f
  | 4 => rfl
  | 5 => rfl
  | 6 => rfl
  | 7 => rfl
  | _ + 8 => rfl
theorem dgL_congr {h h' : Nat → Int32} : ∀ (n i : Nat) (d : Int64), (∀ j, i ≤ j → j < i + n → h j = h' j) → dgL n i h d = dgL n i h' d
  | 0, _, _, _ => rfl
  | n + 1, i, d, hh => by
    rw [dgL, dgL, hh i (Nat.le_refl _) (by omega)]
    exact dgL_congr n (i + 1) _ (fun j a b => hh j (by omega) (by omega))
theorem dgN_congr {h h' : Nat → Int64 → Int64} : ∀ (n i : Nat) (d : Int64), (∀ j e, i ≤ j → j < i + n → h j e = h' j e) → dgN n i h d = dgN n i h' d
  | 0, _, _, _ => rfl
  | n + 1, i, d, hh => by
    rw [dgN, dgN, hh i d (Nat.le_refl _) (by omega)]
    exact dgN_congr n (i + 1) _ (fun j e a b => hh j e (by omega) (by omega))
theorem digest_eq (hF : ∀ i, i < nf → FrI (F i)) : cg_5 g nf F f no O = dg_5 g nf F f no O := by
  have h1 : cg_1 g nf F f no O = dg_1 g nf F f no O := dgL_congr 9 0 _ (fun j _ _ => count_eq j)
  have h2 : cg_2 g nf F f no O = dg_2 g nf F f no O := by unfold cg_2 dg_2; rw [h1]
  have h3 : cg_3 g nf F f no O = dg_3 g nf F f no O := by
    unfold cg_3 dg_3
    rw [h2]
    exact dgN_congr nf 0 _ (fun j e _ hj => dgL_congr 8 0 e (fun k _ _ => frame_eq (hF j (by omega)) k))
  have h4 : cg_4 g nf F f no O = dg_4 g nf F f no O := by unfold cg_4 dg_4; rw [h3]
  unfold cg_5 dg_5
  rw [h4]
theorem s_would (hI : Inv q g nf F f no O) (h : K_would nf F a b = 0) : p_try (nn b) (F (nn a)) g = m_tryL (nn b) (g 2) (F (nn a)) (m_t g (F (nn a))) := by
  obtain ⟨h12, h20, hg, hF, hO, hS⟩ := hI
  obtain ⟨h1, h2, h3⟩ := K0_would h
  obtain ⟨i, hi, rfl⟩ := fr_of (by omega) h1
  rw [nn_nI (by omega)] at h3 ⊢
  obtain ⟨hR, hIR⟩ := R_of (hF i hi) hg
  exact try_sync _ hR hIR h3
theorem s_dipsTo (hI : Inv q g nf F f no O) (h : K_dipsTo nf F a b z = 0) : p_need (nn b) z (F (nn a)) g = m_need (nn b) z (g 2) (F (nn a)) (m_t g (F (nn a))) := by
  obtain ⟨h12, h20, hg, hF, hO, hS⟩ := hI
  obtain ⟨h1, h2, h3, h4⟩ := K0_dipsTo h
  obtain ⟨i, hi, rfl⟩ := fr_of (by omega) h1
  rw [nn_nI (by omega)] at h4 ⊢
  obtain ⟨hR, hIR⟩ := R_of (hF i hi) hg
  exact need_eq hR hIR h4
end INW
