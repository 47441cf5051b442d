/-! ===== the law's growth and dip against the class's ===== -/
def s_up (φ g : Nat → Int32) : Int32 := if 70 < φ 3 then jmax 0 (φ 2 - (g 1 - 55) / 5) - φ 2 else p_gain φ (g 1)
theorem m55 : ∀ k : Nat, k < 61 → ((55 : Int32) - nI (60 + k)) / 5 = -(nI ((5 + k) / 5)) ∧ (nI (60 + k) - 55) / 5 = nI ((5 + k) / 5) := by decide +kernel
theorem m55a {h : Nat} (h6 : 60 ≤ h) (h2 : h ≤ 120) : ((55 : Int32) - nI h) / 5 = -(nI ((h - 55) / 5)) ∧ (nI h - 55) / 5 = nI ((h - 55) / 5) := by
  have := m55 (h - 60) (by omega)
  rw [show 60 + (h - 60) = h by omega, show 5 + (h - 60) = h - 55 by omega] at this
  exact this
theorem sub_back {t q : Nat} (h : q ≤ t) : nI (t - q) - nI t = -(nI q) := by
  have e : nI (t - q) = nI t - nI q := (pk_sub h).symm
  rw [e]; grind
theorem s_b_n {φ : Nat → Int32} {k t h : Nat} (hk : k < 4) (ht : t ≤ 400) (h6 : 60 ≤ h) (h2 : h ≤ 120) (e0 : φ 0 = nI k) (e2 : φ 2 = nI t) :
    s_b φ (nI h) = nI (12 - (h - 60) / 8 + (if t = 0 then 4 else 0) - (if k = 3 then 3 else 0)) := by
  have eb := base_n h6 h2
  have c0 : φ 0 = 3 ↔ k = 3 := by rw [e0]; exact nI_eq (a := k) (b := 3) (by omega) (by decide)
  have c2 : φ 2 = 0 ↔ t = 0 := by rw [e2]; exact nI_eq (a := t) (b := 0) (by omega) (by decide)
  have m3 : ∀ z : Nat, 3 ≤ z → nI z + (-3) = nI (z - 3) := fun z hz => by
    rw [← pk_sub hz, show (nI 3 : Int32) = 3 from rfl]; grind
  unfold s_b
  rw [eb]
  by_cases a : k = 3 <;> by_cases b : t = 0
  · rw [if_pos (c0.mpr a), if_pos (c2.mpr b), if_pos a, if_pos b, show (4 : Int32) = nI 4 from rfl, nI_add, m3 _ (by omega)]
  · rw [if_pos (c0.mpr a), if_neg (fun q => b (c2.mp q)), if_pos a, if_neg b, m3 _ (by omega), Nat.add_zero]
  · rw [if_neg (fun q => a (c0.mp q)), if_pos (c2.mpr b), if_neg a, if_pos b, show (4 : Int32) = nI 4 from rfl, nI_add, Nat.sub_zero]
  · rw [if_neg (fun q => a (c0.mp q)), if_neg (fun q => b (c2.mp q)), if_neg a, if_neg b, Nat.add_zero, Nat.sub_zero]
theorem s_c_n {φ : Nat → Int32} {k t h m : Nat} (hk : k < 4) (ht : t ≤ 400) (h6 : 60 ≤ h) (h2 : h ≤ 120) (hm : m ≤ 70) (e0 : φ 0 = nI k) (e2 : φ 2 = nI t) (e3 : φ 3 = nI m) : s_c φ (nI h) = p_gain φ (nI h) := by
  rw [gain_n hk ht h6 h2 hm e0 e2 e3]
  unfold s_c
  rw [s_b_n hk ht h6 h2 e0 e2, e2, nI_add, show (400 : Int32) = nI 400 from rfl]
  unfold gN
  generalize hb : 12 - (h - 60) / 8 + (if t = 0 then 4 else 0) - (if k = 3 then 3 else 0) = b
  have hb9 : b ≤ 16 := by rw [← hb]; split <;> split <;> omega
  by_cases c : 400 < t + b
  · rw [if_pos (nI_lt c (by omega)), pk_sub ht, Nat.min_eq_right (by omega)]
  · rw [if_neg (fun q => c ((nI_ltI (by omega) (by omega)).mp q)), Nat.min_eq_left (by omega)]
section GRW
variable {φ g : Nat → Int32} {n : Nat}
theorem can_melt (h70 : 70 < φ 3) (hg : GN n g) (h5 : φ 5 ≠ -1) (h6 : 60 ≤ g 1) : p_can φ g := by
  obtain ⟨⟨a, h, ha, hh, g0, g1⟩, -⟩ := hg
  refine ⟨h5, h6, ?_⟩
  rw [show p_gain φ (g 1) = 0 from if_pos h70, wax_0, g0]
  exact nI_le (a := 0) (b := a) (by omega) (by omega)
theorem s_grow_eq (hφ : FrV φ) (hg : GN n g) : s_grow φ g = if p_can φ g then s_up φ g else -1000 := by
  have hg' := hg
  obtain ⟨⟨⟨k, w, hk, hw1, hw, e0, e1⟩, t, m, c, ht, hm, hc, e2, e3, e4⟩, hpl, -⟩ := hφ
  obtain ⟨⟨a, h, ha, hh, g0, g1⟩, -⟩ := hg
  unfold s_grow
  by_cases h5 : φ 5 = -1
  · rw [if_pos (Or.inl ((place_n hpl).mpr h5)), if_neg (fun q => q.1 h5)]
  by_cases h6 : g 1 < 60
  · rw [if_pos (Or.inr h6), if_neg (fun q => absurd q.2.1 (Int32.not_le.mpr h6))]
  rw [if_neg (fun q => q.elim (fun z => h5 ((place_n hpl).mp z)) h6)]
  have h60 : 60 ≤ h := Nat.not_lt.mp (fun q => h6 (by rw [g1]; exact nI_lt q (by decide)))
  by_cases h7 : 70 < φ 3
  · rw [if_pos h7, if_pos (can_melt h7 hg' h5 (Int32.not_lt.mp h6))]
    unfold s_up
    rw [if_pos h7, g1, e2, (m55a h60 hh).1, (m55a h60 hh).2]
    have hq9 : (h - 55) / 5 ≤ 13 := by omega
    generalize (h - 55) / 5 = q at hq9 ⊢
    rw [coolB (m := t) (k := q) (by omega) (by omega) rfl rfl] 
    by_cases c9 : q < t
    · rw [if_pos (nI_lt c9 (by omega)), if_neg (fun z => by have := (nI_leI (by omega) (by omega)).mp z; omega), pk_sub (by omega), sub_back (by omega)]
    · rw [if_neg (fun z => c9 ((nI_ltI (by omega) (by omega)).mp z)), if_pos (nI_le (by omega) (by omega))]; grind
  · rw [if_neg h7]
    have h70 : m ≤ 70 := Nat.not_lt.mp (fun q => h7 (by rw [e3]; exact nI_lt q (by omega)))
    have ec : s_c φ (g 1) = p_gain φ (g 1) := by rw [g1]; exact s_c_n hk ht h60 hh h70 e0 e2 e3
    rw [ec]
    by_cases c9 : g 0 < p_gain φ (g 1) * (8 + φ 0) * φ 1 / 10
    · rw [if_pos c9, if_neg (fun q => absurd q.2.2 (Int32.not_le.mpr c9))]
    · rw [if_neg c9, if_pos ⟨h5, Int32.not_lt.mp h6, Int32.not_lt.mp c9⟩, s_up, if_neg h7]
theorem s_grow_can (hφ : FrV φ) (hg : GN n g) (hc : p_can φ g) : s_grow φ g = s_up φ g := by rw [s_grow_eq hφ hg, if_pos hc]
theorem s_can_of (hφ : FrV φ) (hg : GN n g) (h : s_grow φ g ≠ -1000) : p_can φ g := by
  by_cases hc : p_can φ g
  · exact hc
  · exact absurd (by rw [s_grow_eq hφ hg, if_neg hc]) h
/-! the dip's two cases -/
theorem thick_m (h70 : 70 < φ 3) : φ 2 + s_up φ g = jmax 0 (φ 2 - (g 1 - 55) / 5) := by
  unfold s_up; rw [if_pos h70]; grind
theorem sd_melt (h70 : 70 < φ 3) : (φ 2 + s_up φ g = 0 → upd (upd (upd (upd φ 2 (φ 2 + s_up φ g)) 3 100) 4 0) 6 (φ 6 + 1) = p_dipF φ (g 1)) ∧ (φ 2 + s_up φ g ≠ 0 → upd (upd (upd φ 2 (φ 2 + s_up φ g)) 3 100) 6 (φ 6 + 1) = p_dipF φ (g 1)) ∧ upd g 4 (g 4 + 1) = upd (p_dipV φ g) 4 (p_dipV φ g 4 + 1) := by
  rw [thick_m h70]
  refine ⟨fun h => ?_, fun h => ?_, ?_⟩
  · unfold p_dipF p_meltF
    rw [if_pos h70, if_pos (show jmax 0 (upd φ 6 (φ 6 + 1) 2 - (g 1 - 55) / 5) = 0 from h)]
    show _ = upd (upd (upd (upd φ 6 (φ 6 + 1)) 2 (jmax 0 (φ 2 - (g 1 - 55) / 5))) 4 0) 3 100
    funext q
    simp only [upd]
    by_cases a : q = 6
    · subst a; simp
    · by_cases b : q = 4
      · subst b; simp
      · by_cases c : q = 3
        · subst c; simp
        · simp [a, b, c]
  · unfold p_dipF p_meltF
    rw [if_pos h70, if_neg (show ¬ jmax 0 (upd φ 6 (φ 6 + 1) 2 - (g 1 - 55) / 5) = 0 from h)]
    show _ = upd (upd (upd φ 6 (φ 6 + 1)) 2 (jmax 0 (φ 2 - (g 1 - 55) / 5))) 3 100
    funext q
    simp only [upd]
    by_cases a : q = 6
    · subst a; simp
    · by_cases c : q = 3
      · subst c; simp
      · simp [a, c]
  · unfold p_dipV
    rw [if_pos h70]
theorem sd_up (h70 : ¬ 70 < φ 3) : ((0 < φ 2 ∧ φ 3 < 10) → φ 2 ≠ 0 → upd (upd (upd (upd φ 4 1) 2 (φ 2 + s_up φ g)) 3 (jmin 100 ((φ 3 + g 1) / 2))) 6 (φ 6 + 1) = p_dipF φ (g 1)) ∧
    (¬ (φ 2 ≠ 0 ∧ φ 3 < 10) → upd (upd (upd φ 2 (φ 2 + s_up φ g)) 3 (jmin 100 ((φ 3 + g 1) / 2))) 6 (φ 6 + 1) = p_dipF φ (g 1)) ∧
    upd (upd g 0 (g 0 - s_up φ g * (8 + φ 0) * φ 1 / 10)) 4 (g 4 + 1) = upd (p_dipV φ g) 4 (p_dipV φ g 4 + 1) := by
  have eu : s_up φ g = p_gain φ (g 1) := by unfold s_up; rw [if_neg h70]
  rw [eu]
  refine ⟨fun h h0 => ?_, fun h => ?_, ?_⟩
  · unfold p_dipF p_upF
    rw [if_neg h70, if_pos (show upd φ 6 (φ 6 + 1) 2 ≠ 0 ∧ upd φ 6 (φ 6 + 1) 3 < 10 from ⟨h0, h.2⟩)]
    show _ = upd (upd (upd (upd φ 6 (φ 6 + 1)) 4 1) 2 (φ 2 + p_gain φ (g 1))) 3 (jmin 100 ((φ 3 + g 1) / 2))
    funext q
    simp only [upd]
    by_cases a : q = 6
    · subst a; simp
    · by_cases c : q = 3
      · subst c; simp
      · simp [a, c]
  · unfold p_dipF p_upF
    rw [if_neg h70, if_neg (show ¬ (upd φ 6 (φ 6 + 1) 2 ≠ 0 ∧ upd φ 6 (φ 6 + 1) 3 < 10) from h)]
    show _ = upd (upd (upd φ 6 (φ 6 + 1)) 2 (φ 2 + p_gain φ (g 1))) 3 (jmin 100 ((φ 3 + g 1) / 2))
    funext q
    simp only [upd]
    by_cases a : q = 6
    · subst a; simp
    · by_cases c : q = 3
      · subst c; simp
      · simp [a, c]
  · unfold p_dipV p_upV
    rw [if_neg h70]
    rfl
theorem dip_FrV (hφ : FrV φ) (hg : GN n g) (hc : p_can φ g) : FrV (p_dipF φ (g 1)) ∧ GN n (upd (p_dipV φ g) 4 (p_dipV φ g 4 + 1)) := by
  have hgi : GI n g := by obtain ⟨a, b, m, hm, e⟩ := hg; exact ⟨a, b, m, by omega, e⟩
  obtain ⟨d1, d2, d3, d4⟩ := dip_eq hφ.1 hgi hc
  refine ⟨⟨by rw [d1]; exact d3, by rw [dipF_hi (by decide) (by decide) (by decide) (by decide)]; exact hφ.2.1, fun h0 => ?_⟩, ?_⟩
  · obtain ⟨⟨⟨k, w, hk, hw1, hw, e0, e1⟩, t, m, c, ht, hm, hc9, e2, e3, e4⟩, hpl, hb⟩ := hφ
    obtain ⟨⟨a, h, ha, hh, g0, g1⟩, -⟩ := hg
    have h60 : 60 ≤ h := by
      have := hc.2.1; rw [g1] at this; exact (nI_leI (by decide) (by omega)).mp this
    by_cases h7 : 70 < φ 3
    · obtain ⟨m1, m2, -⟩ := sd_melt (g := g) h7
      by_cases hz : φ 2 + s_up φ g = 0
      · rw [← m1 hz]; rfl
      · rw [← m2 hz] at h0; exact absurd h0 hz
    · have h70 : m ≤ 70 := Nat.not_lt.mp (fun q => h7 (by rw [e3]; exact nI_lt q (by omega)))
      have eg := gain_n hk ht h60 hh h70 e0 e2 e3
      have hz : p_dipF φ (g 1) 2 = φ 2 + p_gain φ (g 1) := by unfold p_dipF p_upF; rw [if_neg h7]; rfl
      rw [hz, g1, eg, e2, nI_add] at h0
      have h1 := (nI_eq (a := t + gN k t h) (b := 0) (by have := @gN_le k t h; omega) (by decide)).mp h0
      have ht0 : t = 0 := by omega
      subst ht0
      have : gN k 0 h ≠ 0 := by unfold gN; rw [if_pos rfl]; split <;> omega
      omega
  · rw [d2]
    obtain ⟨x1, x2, -⟩ := d4
    obtain ⟨-, -, m, hm, e⟩ := hg
    refine ⟨x1, x2, m, hm, ?_⟩
    rw [← d2]
    show p_dipV φ g 3 = _
    rw [dipV_hi (by decide), e]
theorem thick_0 (hφ : FrV φ) (h : φ 2 ≤ 0) : φ 2 = 0 := by
  obtain ⟨⟨-, t, m, c, ht, hm, hc9, e2, e3, e4⟩, -⟩ := hφ
  rw [e2] at h ⊢
  have := (nI_leI (a := t) (b := 0) (by omega) (by decide)).mp h
  rw [show t = 0 by omega]
  rfl
theorem FrV_up {F : Nat → Nat → Int32} {nf i : Nat} {ψ : Nat → Int32} (h : ∀ j, j < nf → FrV (F j)) (hψ : FrV ψ) : ∀ j, j < nf → FrV (va_up F i ψ j) := fun j hj => by
  by_cases e : j = i
  · subst e; simp only [va_up, if_pos]; exact hψ
  · simp only [va_up, if_neg e]; exact h j hj
theorem OrV_up {O : Nat → Nat → Int32} {no i : Nat} {ψ : Nat → Int32} (h : ∀ j, j < no → OrV (O j)) (hψ : OrV ψ) : ∀ j, j < no → OrV (va_up O i ψ j) := fun j hj => by
  by_cases e : j = i
  · subst e; simp only [va_up, if_pos]; exact hψ
  · simp only [va_up, if_neg e]; exact h j hj
end GRW
/-! a new frame, a new order: the row of them is another one -/
section NEWS
variable {G : mG} {lo : Nat} {ad : Nat → Nat} {g : Nat → Int32} {nf no : Nat} {F O : Nat → Nat → Int32} {f φ ω : Nat → Int32} {w : Int32} {R : mM} {H : Heap}
theorem up51 {a b x : Nat} (h : x ≠ a) : va_up ad a b x = ad x := by simp [va_up, h]
theorem up51s {a b : Nat} : va_up ad a b a = b := by simp [va_up]
theorem fr_fin (hn : nf < 12) (hz : R 58 = none) (hO : mO G lo ad (mU (mU (mU (WS G ad g nf F f no O w R) 58 (rfA G 2 (nf + 1) (adF ad 200 (nf + 1)))) (200 + nf) (lfO φ)) 50 (.inr (7, [.int (g 0), .int (g 1), .int (g 2), .ref (ad 58), .ref (ad 52), .ref (ad 57), .int (g 3), .int (g 4), .int w]))) H) :
    mO G lo (va_up ad 51 (ad 58)) (WS G (va_up ad 51 (ad 58)) g (nf + 1) (va_up F nf φ) f no O w R) H := by
  refine hO.ren (fun q => if q = 51 then 58 else q) (fun q e hq => ?_) (fun q q' e e' h1 h2 h3 => ?_)
  · by_cases h50 : q = 50
    · subst h50
      cases hq
      exact ⟨by simp only [if_neg (show ¬ (50 : Nat) = 51 by decide)]; exact mU_self, up51 (by decide)⟩
    by_cases h51 : q = 51
    · subst h51
      cases hq
      refine ⟨?_, up51s⟩
      simp only [if_pos]
      rw [mU_ne (by decide), mU_ne (by omega), mU_self]
      show _ = some (rfA G 2 (nf + 1) (adF (va_up ad 51 (ad 58)) 200 (nf + 1)))
      rw [adF_ad (ad := va_up ad 51 (ad 58)) (ad1 := ad) (fun x hx => up51 (by omega))]
    refine ⟨?_, by rw [up51 h51, if_neg h51]⟩
    simp only [if_neg h51]
    have h58 : q ≠ 58 := fun z => by subst z; rw [WS_at (by omega) hz] at hq; cases hq
    rw [mU_ne h50]
    by_cases hf : q = 200 + nf
    · subst hf
      rw [WS_F (by omega) (by omega), va_upat] at hq
      rw [mU_self, hq]
    rw [mU_ne hf, mU_ne h58]
    rw [← hq]
    unfold WS
    by_cases h2 : 50 ≤ q ∧ q < 58
    · rw [if_pos h2, if_pos h2]
      rcases (show q = 52 ∨ q = 53 ∨ q = 54 ∨ q = 55 ∨ q = 56 ∨ q = 57 by omega) with rfl | rfl | rfl | rfl | rfl | rfl
      · show some (rfA G 1 4 (adF ad 53 4)) = some (rfA G 1 4 (adF (va_up ad 51 (ad 58)) 53 4))
        rw [adF_ad (ad := va_up ad 51 (ad 58)) (ad1 := ad) (fun x hx => up51 (by omega))]
      · rfl
      · rfl
      · rfl
      · rfl
      · show some (rfA G 1 no (adF ad 220 no)) = some (rfA G 1 no (adF (va_up ad 51 (ad 58)) 220 no))
        rw [adF_ad (ad := va_up ad 51 (ad 58)) (ad1 := ad) (fun x hx => up51 (by omega))]
    · rw [if_neg h2, if_neg h2]
      by_cases h3 : 200 ≤ q ∧ q < 212
      · rw [if_pos h3, if_pos h3]
        by_cases h4 : q < 200 + nf
        · have h5 : ¬ q - 200 = nf := by omega
          rw [if_pos h4, if_pos (by omega)]
          simp [va_up, h5]
        · rw [if_neg h4, if_neg (by omega)]
      · rw [if_neg h3, if_neg h3]
  · have h58 : ∀ (z : Nat) (x : va_E), WS G (va_up ad 51 (ad 58)) g (nf + 1) (va_up F nf φ) f no O w R z = some x → z ≠ 58 := fun z x hz9 q9 => by subst q9; rw [WS_at (by omega) hz] at hz9; cases hz9
    have a := h58 q e h1
    have b := h58 q' e' h2
    by_cases c : q = 51 <;> by_cases d : q' = 51
    · omega
    · rw [if_pos c, if_neg d] at h3; omega
    · rw [if_neg c, if_pos d] at h3; omega
    · rw [if_neg c, if_neg d] at h3; exact h3
theorem or_fin (hn : no < 20) (hz : R 58 = none) (hO : mO G lo ad (mU (mU (mU (WS G ad g nf F f no O w R) 58 (rfA G 1 (no + 1) (adF ad 220 (no + 1)))) (220 + no) (.inl (G.2 0, 5, .inl ω))) 50 (.inr (7, [.int (g 0), .int (g 1), .int (g 2), .ref (ad 51), .ref (ad 52), .ref (ad 58), .int (g 3), .int (g 4), .int w]))) H) :
    mO G lo (va_up ad 57 (ad 58)) (WS G (va_up ad 57 (ad 58)) g nf F f (no + 1) (va_up O no ω) w R) H := by
  refine hO.ren (fun q => if q = 57 then 58 else q) (fun q e hq => ?_) (fun q q' e e' h1 h2 h3 => ?_)
  · by_cases h50 : q = 50
    · subst h50
      cases hq
      exact ⟨by simp only [if_neg (show ¬ (50 : Nat) = 57 by decide)]; exact mU_self, up51 (by decide)⟩
    by_cases h51 : q = 57
    · subst h51
      cases hq
      refine ⟨?_, up51s⟩
      simp only [if_pos]
      rw [mU_ne (by decide), mU_ne (by omega), mU_self]
      show _ = some (rfA G 1 (no + 1) (adF (va_up ad 57 (ad 58)) 220 (no + 1)))
      rw [adF_ad (ad := va_up ad 57 (ad 58)) (ad1 := ad) (fun x hx => up51 (by omega))]
    refine ⟨?_, by rw [up51 h51, if_neg h51]⟩
    simp only [if_neg h51]
    have h58 : q ≠ 58 := fun z => by subst z; rw [WS_at (by omega) hz] at hq; cases hq
    rw [mU_ne h50]
    by_cases hf : q = 220 + no
    · subst hf
      rw [WS_O (by omega) (by omega), va_upat] at hq
      rw [mU_self, hq]
    rw [mU_ne hf, mU_ne h58]
    rw [← hq]
    unfold WS
    by_cases h2 : 50 ≤ q ∧ q < 58
    · rw [if_pos h2, if_pos h2]
      rcases (show q = 51 ∨ q = 52 ∨ q = 53 ∨ q = 54 ∨ q = 55 ∨ q = 56 by omega) with rfl | rfl | rfl | rfl | rfl | rfl
      · show some (rfA G 2 nf (adF ad 200 nf)) = some (rfA G 2 nf (adF (va_up ad 57 (ad 58)) 200 nf))
        rw [adF_ad (ad := va_up ad 57 (ad 58)) (ad1 := ad) (fun x hx => up51 (by omega))]
      · show some (rfA G 1 4 (adF ad 53 4)) = some (rfA G 1 4 (adF (va_up ad 57 (ad 58)) 53 4))
        rw [adF_ad (ad := va_up ad 57 (ad 58)) (ad1 := ad) (fun x hx => up51 (by omega))]
      · rfl
      · rfl
      · rfl
      · rfl
    · rw [if_neg h2, if_neg h2]
      by_cases h3 : 200 ≤ q ∧ q < 212
      · rw [if_pos h3, if_pos h3]
      · rw [if_neg h3, if_neg h3]
        by_cases h6 : 220 ≤ q ∧ q < 240
        · rw [if_pos h6, if_pos h6]
          by_cases h4 : q < 220 + no
          · have h5 : ¬ q - 220 = no := by omega
            rw [if_pos h4, if_pos (by omega)]
            simp [va_up, h5]
          · rw [if_neg h4, if_neg (by omega)]
        · rw [if_neg h6, if_neg h6]
  · have h58 : ∀ (z : Nat) (x : va_E), WS G (va_up ad 57 (ad 58)) g nf F f (no + 1) (va_up O no ω) w R z = some x → z ≠ 58 := fun z x hz9 q9 => by subst q9; rw [WS_at (by omega) hz] at hz9; cases hz9
    have a := h58 q e h1
    have b := h58 q' e' h2
    by_cases c : q = 57 <;> by_cases d : q' = 57
    · omega
    · rw [if_pos c, if_neg d] at h3; omega
    · rw [if_neg c, if_pos d] at h3; omega
    · rw [if_neg c, if_neg d] at h3; exact h3
theorem N_O_eq {k z u y : Int32} : upd (upd (upd (upd (upd (fun _ => 0) 0 k) 1 z) 2 u) 3 y) 4 0 = N_O k z u y := by
  unfold N_O
  funext q
  simp only [upd]
  by_cases a : q = 4
  · subst a; simp
  · simp [a]
end NEWS
