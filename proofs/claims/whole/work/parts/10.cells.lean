/-! ===== cells, and what one of them does (a word for word reading of the small methods) ===== -/
theorem mU_in1 {R : mM} {r v : Nat} {a b x : va_E} (h : r ≠ v) : mU (mU (mU R r a) v b) r x = mU (mU R r x) v b := by
  funext q
  by_cases h1 : q = r
  · subst h1; rw [mU_self, mU_ne h, mU_self]
  · rw [mU_ne h1]
    by_cases h2 : q = v
    · subst h2; rw [mU_self, mU_self]
    · rw [mU_ne h2, mU_ne h2, mU_ne h1, mU_ne h1]
theorem mU_in2 {R : mM} {r v w : Nat} {a b d x : va_E} (h2 : r ≠ w) (h1 : r ≠ v) : mU (mU (mU (mU R r a) v b) w d) r x = mU (mU (mU R r x) v b) w d := by
  rw [show mU (mU (mU (mU R r a) v b) w d) r x = mU (mU (mU (mU R r a) v b) r x) w d from by
    funext q
    by_cases e1 : q = r
    · subst e1; rw [mU_self, mU_ne h2, mU_self]
    · rw [mU_ne e1]
      by_cases e2 : q = w
      · subst e2; rw [mU_self, mU_self]
      · rw [mU_ne e2, mU_ne e2, mU_ne e1], mU_in1 h1]
def mBo (P : Prop) (v : Int32) : Prop := (v = 1 ∧ P) ∨ (v = 0 ∧ ¬ P)
theorem mBo_t {P : Prop} (h : P) : mBo P 1 := Or.inl ⟨rfl, h⟩
theorem mBo_f {P : Prop} (h : ¬ P) : mBo P 0 := Or.inr ⟨rfl, h⟩
abbrev frO (φ : Nat → Int32) : va_E := .inr (0, [.int (φ 0), .int (φ 1), .int (φ 2), .int (φ 3), .int (φ 4), .int (φ 5), .int (φ 6)])
abbrev vO (ν : Nat → Int32) : va_E := .inr (4, [.int (ν 0), .int (ν 1), .int (ν 2)])
theorem frO_congr {φ ψ : Nat → Int32} (h : ∀ i, i < 7 → φ i = ψ i) : frO φ = frO ψ := by
  simp only [frO]
  rw [h 0 (by decide), h 1 (by decide), h 2 (by decide), h 3 (by decide), h 4 (by decide), h 5 (by decide), h 6 (by decide)]
theorem vO_congr {φ ψ : Nat → Int32} (h : ∀ i, i < 3 → φ i = ψ i) : vO φ = vO ψ := by
  simp only [vO]
  rw [h 0 (by decide), h 1 (by decide), h 2 (by decide)]
theorem upd_at {f : Nat → Int32} {k : Nat} {x : Int32} : upd f k x k = x := by simp [upd]
theorem upd_no {f : Nat → Int32} {k j : Nat} {x : Int32} (h : j ≠ k) : upd f k x j = f j := by simp [upd, h]
/-- Vat.burn -/
def p_burn (lv h : Int32) : Int32 := jmax 0 (jmin 120 ((h + 6 * lv) - ((h + 6 * lv) - 20) / 10))
def p_burnV (ν : Nat → Int32) : Nat → Int32 := upd ν 1 (p_burn (ν 2) (ν 1))
/-- Vat.throwIn -/
def p_throwV (ν : Nat → Int32) (a : Int32) : Nat → Int32 := if 0 < ν 0 + a then upd (upd ν 1 ((ν 1 * ν 0 + 20 * a) / (ν 0 + a))) 0 (ν 0 + a) else upd ν 0 (ν 0 + a)
def p_backV (ν : Nat → Int32) (a : Int32) : Nat → Int32 := upd ν 0 (jmin 20000 (ν 0 + a))
/-- Frame.coolingOfPlace, cool, size -/
def p_cooling (φ : Nat → Int32) : Int32 := if φ 5 = -1 then 3 else if φ 5 < 6 then 12 else 6
def p_coolF (φ : Nat → Int32) : Nat → Int32 := upd φ 3 (jmax 0 (φ 3 - p_cooling φ))
def p_size (φ : Nat → Int32) : Int32 := jmin 9 (φ 2 / (if φ 4 = 0 then 40 else 80))
def p_wax (φ : Nat → Int32) (layer : Int32) : Int32 := layer * (8 + φ 0) * φ 1 / 10
def p_gain (φ : Nat → Int32) (h : Int32) : Int32 :=
  if 70 < φ 3 then 0 else jmin (if φ 0 = 3 then (if φ 2 = 0 then 12 - (h - 60) / 8 + 4 else 12 - (h - 60) / 8) + (-3) else (if φ 2 = 0 then 12 - (h - 60) / 8 + 4 else 12 - (h - 60) / 8)) (400 - φ 2)
/-- Frame.canBeDipped -/
def p_can (φ ν : Nat → Int32) : Prop := φ 5 ≠ -1 ∧ 60 ≤ ν 1 ∧ p_wax φ (p_gain φ (ν 1)) ≤ ν 0
def p_meltF (φ : Nat → Int32) (h : Int32) : Nat → Int32 :=
  upd (if jmax 0 (φ 2 - (h - 55) / 5) = 0 then upd (upd φ 2 (jmax 0 (φ 2 - (h - 55) / 5))) 4 0 else upd φ 2 (jmax 0 (φ 2 - (h - 55) / 5))) 3 100
def p_upF (φ : Nat → Int32) (h : Int32) : Nat → Int32 :=
  upd (upd (if φ 2 ≠ 0 ∧ φ 3 < 10 then upd φ 4 1 else φ) 2 (φ 2 + p_gain φ h)) 3 (jmin 100 ((φ 3 + h) / 2))
def p_upV (φ ν : Nat → Int32) : Nat → Int32 := upd ν 0 (ν 0 - p_wax φ (p_gain φ (ν 1)))
def p_dipF (φ : Nat → Int32) (h : Int32) : Nat → Int32 := if 70 < φ 3 then p_meltF (upd φ 6 (φ 6 + 1)) h else p_upF (upd φ 6 (φ 6 + 1)) h
def p_dipV (φ ν : Nat → Int32) : Nat → Int32 := if 70 < φ 3 then ν else p_upV (upd φ 6 (φ 6 + 1)) ν
def p_renewF (φ : Nat → Int32) : Nat → Int32 := upd (upd (upd (upd φ 2 0) 3 0) 4 0) 6 0
