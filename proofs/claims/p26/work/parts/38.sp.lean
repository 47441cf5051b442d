/-! ===== what the law's small methods do, word for word ===== -/
section WSu
variable {G : mG} {ad : Nat → Nat} {g : Nat → Int32} {nf no : Nat} {F O : Nat → Nat → Int32} {f x y : Nat → Int32} {R : mM} {i : Nat} {w : Int32}
theorem WS_Fu (hi : i < nf) (hn : nf ≤ 12) : WS G ad g nf (va_up F i x) f no O w R (200 + i) = some (lfO x) := by
  rw [WS_F hi hn, va_upat]
theorem WS_wFu (hi : i < nf) (hn : nf ≤ 12) : mU (WS G ad g nf (va_up F i x) f no O w R) (200 + i) (lfO y) = WS G ad g nf (va_up F i y) f no O w R := by
  rw [WS_wF hi hn]
  congr 1
  funext q
  by_cases h : q = i
  · subst h; simp [va_up]
  · simp [va_up, h]
theorem WS_Ou (hi : i < no) (hn : no ≤ 20) : WS G ad g nf F f no (va_up O i x) w R (220 + i) = some (.inl (G.2 0, 5, .inl x)) := by
  rw [WS_O hi hn, va_upat]
theorem WS_wOu (hi : i < no) (hn : no ≤ 20) : mU (WS G ad g nf F f no (va_up O i x) w R) (220 + i) (.inl (G.2 0, 5, .inl y)) = WS G ad g nf F f no (va_up O i y) w R := by
  rw [WS_wO hi hn]
  congr 1
  funext q
  by_cases h : q = i
  · subst h; simp [va_up]
  · simp [va_up, h]
end WSu
def s_b (φ : Nat → Int32) (h : Int32) : Int32 := if φ 0 = 3 then (if φ 2 = 0 then 12 - (h - 60) / 8 + 4 else 12 - (h - 60) / 8) + (-3) else (if φ 2 = 0 then 12 - (h - 60) / 8 + 4 else 12 - (h - 60) / 8)
def s_c (φ : Nat → Int32) (h : Int32) : Int32 := if 400 < φ 2 + s_b φ h then 400 - φ 2 else s_b φ h
def s_grow (φ g : Nat → Int32) : Int32 :=
  if φ 5 < 0 ∨ g 1 < 60 then -1000
  else if 70 < φ 3 then (if (g 1 - 55) / 5 < φ 2 then (55 - g 1) / 5 else -(φ 2))
  else if g 0 < s_c φ (g 1) * (8 + φ 0) * φ 1 / 10 then -1000 else s_c φ (g 1)
def s_lateTo (n : Nat) (q : Int32) (O : Nat → Nat → Int32) : Nat → Nat → Int32 := if q - q / 40 * 40 = 0 then m_lateTo n (q / 40) O else O
theorem s_lateTo_at {n : Nat} {q : Int32} {O : Nat → Nat → Int32} : s_lateTo n q O n = O n := by
  unfold s_lateTo
  split
  · exact m_lateTo_at
  · rfl
theorem s_lateTo_0 {q : Int32} {O : Nat → Nat → Int32} : s_lateTo 0 q O = O := by
  unfold s_lateTo
  split
  · exact m_lateTo_0
  · rfl
theorem s_lateTo_n {n : Nat} {q : Int32} {O : Nat → Nat → Int32} (h : ¬ q - q / 40 * 40 = 0) : s_lateTo n q O = s_lateTo (n + 1) q O := by
  unfold s_lateTo
  rw [if_neg h, if_neg h]
theorem s_lateTo_b {n : Nat} {q : Int32} {O : Nat → Nat → Int32} (h0 : q - q / 40 * 40 = 0) (h : ¬ (O n 4 = 0 ∧ O n 3 < q / 40)) : s_lateTo n q O = s_lateTo (n + 1) q O := by
  unfold s_lateTo
  rw [if_pos h0, if_pos h0]
  exact m_lateTo_b h
theorem s_lateTo_s {n : Nat} {q : Int32} {O : Nat → Nat → Int32} (h0 : q - q / 40 * 40 = 0) (h : O n 4 = 0 ∧ O n 3 < q / 40) : va_up (s_lateTo n q O) n (upd (s_lateTo n q O n) 4 2) = s_lateTo (n + 1) q O := by
  unfold s_lateTo
  rw [if_pos h0, if_pos h0]
  exact m_lateTo_s h
/-- the day that is over: the law's test and the class's -/
theorem day_lt {o3 q : Int32} {d n : Nat} (e3 : o3 = nI d) (hd : d ≤ 1000000) (eq : q = nI n) (hn : n ≤ 1000000) (h0 : q - q / 40 * 40 = 0) : o3 < q / 40 ↔ 40 * o3 + 40 ≤ q := by
  subst e3; subst eq
  have e40 : (40 : Int32) = nI 40 := rfl
  have hr : nI (n % 40) = nI 0 := by rw [← pk_rem (a := n) (d := 40) (by omega) (by decide) (by decide)]; exact h0
  have hr0 : n % 40 = 0 := (nI_eq (by omega) (by decide)).mp hr
  rw [e40, pk_div (by omega) (by decide) (by decide), pk_mul, nI_add, nI_ltI (by omega) (by omega), nI_leI (by omega) (by omega)]
  omega
theorem clampB {x : Int32} : jmax 0 (jmin 120 x) = if x < 0 then 0 else if x ≤ 120 then x else 120 := by
  unfold jmax jmin
  by_cases h0 : x < 0
  · have h1 : x < 120 := Int32.lt_trans h0 (by decide)
    rw [if_pos h1, if_pos h0, if_neg (fun h => Int32.lt_irrefl (Int32.lt_trans h h0))]
  · rw [if_neg h0]
    have h0' := Int32.not_lt.mp h0
    by_cases h1 : x < 120
    · rw [if_pos h1, if_pos (Int32.le_of_lt h1)]
      by_cases h2 : 0 < x
      · rw [if_pos h2]
      · rw [if_neg h2]; exact Int32.le_antisymm h0' (Int32.not_lt.mp h2)
    · rw [if_neg h1, if_pos (by decide)]
      by_cases h2 : x ≤ 120
      · rw [if_pos h2]; exact (Int32.le_antisymm h2 (Int32.not_lt.mp h1)).symm
      · rw [if_neg h2]
theorem coolB {x y : Int32} {m k : Nat} (hm : m ≤ 1000) (hk : k ≤ 1000) (ex : x = nI m) (ey : y = nI k) : jmax 0 (x - y) = if x ≤ y then 0 else x - y := by
  subst ex; subst ey
  unfold jmax
  by_cases h : nI m ≤ nI k
  · rw [if_pos h]
    have h1 := (nI_leI (by omega) (by omega)).mp h
    rw [if_neg]
    intro h2
    have h3 := Int32.lt_iff_toInt_lt.mp h2
    rw [pk_sub_toInt (by omega) (by omega)] at h3
    have : (0 : Int32).toInt = 0 := rfl
    omega
  · rw [if_neg h]
    have h1 : k < m := Nat.not_le.mp (fun q => h ((nI_leI (by omega) (by omega)).mpr q))
    rw [pk_sub (by omega), if_pos]
    exact nI_lt (a := 0) (b := m - k) (by omega) (by omega)
/-- what holds of a frame, of the numbers, of an order, all the time -/
def FrV (φ : Nat → Int32) : Prop := FrI φ ∧ (φ 5 = -1 ∨ ∃ h : Nat, h ≤ 11 ∧ φ 5 = nI h) ∧ (φ 2 = 0 → φ 4 = 0)
def OrV (ω : Nat → Int32) : Prop := OrI ω ∧ ∃ d : Nat, d ≤ 1000 ∧ ω 3 = nI d
theorem nI_nm {m : Nat} (h : m < 2 ^ 31) : nI m ≠ -1 := fun q => nI_nneg h (by rw [q]; decide)
theorem place_n {φ : Nat → Int32} (h : φ 5 = -1 ∨ ∃ h : Nat, h ≤ 11 ∧ φ 5 = nI h) : φ 5 < 0 ↔ φ 5 = -1 := by
  rcases h with e | ⟨k, hk, e⟩
  · rw [e]; exact ⟨fun _ => rfl, fun _ => by decide⟩
  · rw [e]
    exact ⟨fun q => absurd q (nI_nneg (by omega)), fun q => absurd q (nI_nm (by omega))⟩
theorem cooling_p {φ : Nat → Int32} (h : φ 5 = -1 ∨ ∃ h : Nat, h ≤ 11 ∧ φ 5 = nI h) : p_cooling φ = if φ 5 < 0 then 3 else if φ 5 < 6 then 12 else 6 := by
  unfold p_cooling
  by_cases e : φ 5 = -1
  · rw [if_pos e, if_pos ((place_n h).mpr e)]
  · rw [if_neg e, if_neg (fun q => e ((place_n h).mp q))]
theorem sumR {f : Nat → Int32} : p_sum 10 (rowF f 3) 0 (p_sum 10 (rowF f 2) 0 (p_sum 10 (rowF f 1) 0 (p_sum 10 (rowF f 0) 0 0))) = p_sum 36 f 0 0 := by
  simp [p_sum, rowF]
