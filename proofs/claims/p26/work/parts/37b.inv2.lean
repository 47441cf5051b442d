/-! ===== .. the other calls ===== -/
section INW
variable {q nf no i : Nat} {g f φ : Nat → Int32} {F O : Nat → Nat → Int32} {a b y w z : Int32}
theorem frI_size (hφ : FrI φ) : p_size φ = m_size (φ 2) (φ 4) ∧ 0 ≤ p_size φ := by
  obtain ⟨hk, t, m, c, ht, hm, hc, e2, e3, e4⟩ := hφ
  refine ⟨size_sync hc e4, ?_⟩
  unfold p_size
  rw [e2, e4]
  rcases (show c = 0 ∨ c = 1 by omega) with rfl | rfl
  · rw [if_pos (show nI 0 = 0 from rfl), show (40 : Int32) = nI 40 from rfl, pk_div (by omega) (by decide) (by decide), show (9 : Int32) = nI 9 from rfl, jmin_nI (by decide) (by omega)]
    exact nI_pos' (by have := Nat.min_le_left 9 (t / 40); omega)
  · rw [if_neg (by decide), show (80 : Int32) = nI 80 from rfl, pk_div (by omega) (by decide) (by decide), show (9 : Int32) = nI 9 from rfl, jmin_nI (by decide) (by omega)]
    exact nI_pos' (by have := Nat.min_le_left 9 (t / 80); omega)
theorem renew_FrI (hφ : FrI φ) : FrI (p_renewF φ) := by
  obtain ⟨⟨k, w, h1, h2, h3, e0, e1⟩, -⟩ := hφ
  exact ⟨⟨k, w, h1, h2, h3, e0, e1⟩, 0, 0, 0, by omega, by omega, by omega, rfl, rfl, rfl⟩
theorem ShI.put {k z m : Nat} (h : ShI q f) (hk : k < 4) (hz1 : 1 ≤ z) (hz9 : z ≤ 9) (hm : m ≤ 20) : ShI (q + 1) (upd f (9 * k + z - 1) (f (9 * k + z - 1) + nI m)) := fun j hj => by
  by_cases e : j = 9 * k + z - 1
  · subst e
    obtain ⟨x, hx, ex⟩ := h (9 * k + z - 1) hj
    exact ⟨x + m, by omega, by rw [upd_at, ex, nI_add]⟩
  · obtain ⟨x, hx, ex⟩ := h j hj
    exact ⟨x, by omega, by rw [upd_no e, ex]⟩
/-! fill -/
theorem takeL_0 {k : Nat} : ∀ (n b : Nat) (f : Nat → Int32), okS f → k < 4 → 1 ≤ b → b + n ≤ 10 → p_takeL n f k b 0 = f
  | 0, _, _, _, _, _, _ => rfl
  | n + 1, b, f, h, hk, hb, hn => by
    obtain ⟨e, hle⟩ := okS_nn h (j := 9 * k + b - 1) (by omega)
    have hj : jmin 0 (f (9 * k + b - 1)) = 0 := by rw [e, show (0 : Int32) = nI 0 from rfl, jmin_nI (by decide) (by omega), Nat.zero_min]
    have hu : upd f (9 * k + b - 1) (f (9 * k + b - 1) + -0) = f := by
      funext x
      by_cases ex : x = 9 * k + b - 1
      · subst ex; rw [upd_at]; simp
      · rw [upd_no ex]
    rw [p_takeL, hj, hu]
    exact takeL_0 n (b + 1) f h hk (by omega) (by omega)
theorem take_fill {k : Nat} : ∀ (n b w : Nat) (f : Nat → Int32), okS f → k < 4 → 1 ≤ b → b + n ≤ 10 → w ≤ 100 → p_takeL n f k b (nI w) = m_fillL n f k b (nI w) ∧ okS (m_fillL n f k b (nI w)) ∧ ∀ j, j < 36 → nn (m_fillL n f k b (nI w) j) ≤ nn (f j)
  | 0, _, _, _, h, _, _, _, _ => ⟨rfl, h, fun _ _ => Nat.le_refl _⟩
  | n + 1, b, w, f, h, hk, hb, hn, hw => by
    by_cases h0 : w = 0
    · subst h0
      rw [m_fillL_0]
      exact ⟨takeL_0 (n + 1) b f h hk hb hn, h, fun _ _ => Nat.le_refl _⟩
    · obtain ⟨e, hle⟩ := okS_nn h (j := 9 * k + b - 1) (by omega)
      generalize hv : nn (f (9 * k + b - 1)) = v at e hle
      have hj : jmin (nI w) (f (9 * k + b - 1)) = nI (min w v) := by rw [e, jmin_nI (by omega) (by omega)]
      have h1 : f (9 * k + b - 1) - nI (min w v) = nI (v - min w v) := by rw [e, pk_sub (Nat.min_le_right _ _)]
      have h2 : nI w - nI (min w v) = nI (w - min w v) := pk_sub (Nat.min_le_left _ _)
      have ho : okS (upd f (9 * k + b - 1) (nI (v - min w v))) := okS_upd h (by omega)
      obtain ⟨r1, r2, r3⟩ := take_fill n (b + 1) (w - min w v) _ ho hk (by omega) (by omega) (by omega)
      rw [p_takeL, m_fillL, if_pos (show (0 : Int32) < nI w from nI_lt (a := 0) (by omega) (by omega)), hj, ← Int32.sub_eq_add_neg, h1, h2]
      refine ⟨r1, r2, fun j hj2 => Nat.le_trans (r3 j hj2) ?_⟩
      by_cases ej : j = 9 * k + b - 1
      · subst ej; rw [upd_at, nn_nI (by omega), hv]; omega
      · rw [upd_no ej]; exact Nat.le_refl _
theorem sum_st (f : Nat → Int32) : p_sum 36 f 0 0 = p_sum 40 (stF f) 0 0 := by
  simp [p_sum, stF]
/-! reads -/
theorem frame_eq (hφ : FrI φ) (k : Nat) : c_frame φ k = m_frame φ k := by
  unfold c_frame m_frame
  split
  · rfl
  · exact (frI_size hφ).1
theorem count_eq : ∀ k : Nat, c_count g nf F f no O k = m_count g nf F f no O k
  | 0 => rfl
  | 1 => rfl
  | 2 => rfl
  | 3 => sum_st f
  | 4 => rfl
  | 5 => rfl
  | 6 => rfl
  | 7 => rfl
  | _ + 8 => rfl
theorem dgL_congr {h h' : Nat → Int32} : ∀ (n i : Nat) (d : Int64), (∀ j, i ≤ j → j < i + n → h j = h' j) → dgL n i h d = dgL n i h' d
  | 0, _, _, _ => rfl
  | n + 1, i, d, hh => by
    rw [dgL, dgL, hh i (Nat.le_refl _) (by omega)]
    exact dgL_congr n (i + 1) _ (fun j a b => hh j (by omega) (by omega))
theorem dgN_congr {h h' : Nat → Int64 → Int64} : ∀ (n i : Nat) (d : Int64), (∀ j e, i ≤ j → j < i + n → h j e = h' j e) → dgN n i h d = dgN n i h' d
  | 0, _, _, _ => rfl
  | n + 1, i, d, hh => by
    rw [dgN, dgN, hh i d (Nat.le_refl _) (by omega)]
    exact dgN_congr n (i + 1) _ (fun j e a b => hh j e (by omega) (by omega))
end INW
