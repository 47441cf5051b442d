/-! ===== cells, and what one of them does (a word for word reading of the small methods) ===== -/
theorem mU_in1 {R : mM} {r v : Nat} {a b x : va_E} (h : r ≠ v) : mU (mU (mU R r a) v b) r x = mU (mU R r x) v b := by
  funext q
  by_cases h1 : q = r
  · subst h1; rw [mU_self, mU_ne h, mU_self]
  · rw [mU_ne h1]
    by_cases h2 : q = v
    · subst h2; rw [mU_self, mU_self]
    · rw [mU_ne h2, mU_ne h2, mU_ne h1, mU_ne h1]
theorem mU_in2 {R : mM} {r v w : Nat} {a b d x : va_E} (h2 : r ≠ w) (h1 : r ≠ v) : mU (mU (mU (mU R r a) v b) w d) r x = mU (mU (mU R r x) v b) w d := by
  rw [show mU (mU (mU (mU R r a) v b) w d) r x = mU (mU (mU (mU R r a) v b) r x) w d from by
    funext q
    by_cases e1 : q = r
    · subst e1; rw [mU_self, mU_ne h2, mU_self]
    · rw [mU_ne e1]
      by_cases e2 : q = w
      · subst e2; rw [mU_self, mU_self]
      · rw [mU_ne e2, mU_ne e2, mU_ne e1], mU_in1 h1]
def mBo (P : Prop) (v : Int32) : Prop := (v = 1 ∧ P) ∨ (v = 0 ∧ ¬ P)
theorem mBo_t {P : Prop} (h : P) : mBo P 1 := Or.inl ⟨rfl, h⟩
theorem mBo_f {P : Prop} (h : ¬ P) : mBo P 0 := Or.inr ⟨rfl, h⟩
abbrev frO (φ : Nat → Int32) : va_E := .inr (0, [.int (φ 0), .int (φ 1), .int (φ 2), .int (φ 3), .int (φ 4), .int (φ 5), .int (φ 6)])
abbrev vO (ν : Nat → Int32) : va_E := .inr (4, [.int (ν 0), .int (ν 1), .int (ν 2)])
theorem frO_congr {φ ψ : Nat → Int32} (h : ∀ i, i < 7 → φ i = ψ i) : frO φ = frO ψ := by
  simp only [frO]
  rw [h 0 (by decide), h 1 (by decide), h 2 (by decide), h 3 (by decide), h 4 (by decide), h 5 (by decide), h 6 (by decide)]
theorem vO_congr {φ ψ : Nat → Int32} (h : ∀ i, i < 3 → φ i = ψ i) : vO φ = vO ψ := by
  simp only [vO]
  rw [h 0 (by decide), h 1 (by decide), h 2 (by decide)]
theorem upd_at {f : Nat → Int32} {k : Nat} {x : Int32} : upd f k x k = x := by simp [upd]
theorem upd_no {f : Nat → Int32} {k j : Nat} {x : Int32} (h : j ≠ k) : upd f k x j = f j := by simp [upd, h]
/-- Vat.burn -/
def p_burn (lv h : Int32) : Int32 := jmax 0 (jmin 120 ((h + 6 * lv) - ((h + 6 * lv) - 20) / 10))
def p_burnV (ν : Nat → Int32) : Nat → Int32 := upd ν 1 (p_burn (ν 2) (ν 1))
/-- Vat.throwIn -/
def p_throwV (ν : Nat → Int32) (a : Int32) : Nat → Int32 := if 0 < ν 0 + a then upd (upd ν 1 ((ν 1 * ν 0 + 20 * a) / (ν 0 + a))) 0 (ν 0 + a) else upd ν 0 (ν 0 + a)
def p_backV (ν : Nat → Int32) (a : Int32) : Nat → Int32 := upd ν 0 (jmin 20000 (ν 0 + a))
/-- Frame.coolingOfPlace, cool, size -/
def p_cooling (φ : Nat → Int32) : Int32 := if φ 5 = -1 then 3 else if φ 5 < 6 then 12 else 6
def p_coolF (φ : Nat → Int32) : Nat → Int32 := upd φ 3 (jmax 0 (φ 3 - p_cooling φ))
def p_size (φ : Nat → Int32) : Int32 := jmin 9 (φ 2 / (if φ 4 = 0 then 40 else 80))
def p_wax (φ : Nat → Int32) (layer : Int32) : Int32 := layer * (8 + φ 0) * φ 1 / 10
def p_gain (φ : Nat → Int32) (h : Int32) : Int32 :=
  if 70 < φ 3 then 0 else jmin (if φ 0 = 3 then (if φ 2 = 0 then 12 - (h - 60) / 8 + 4 else 12 - (h - 60) / 8) + (-3) else (if φ 2 = 0 then 12 - (h - 60) / 8 + 4 else 12 - (h - 60) / 8)) (400 - φ 2)
/-- Frame.canBeDipped -/
abbrev p_can (φ ν : Nat → Int32) : Prop := φ 5 ≠ -1 ∧ 60 ≤ ν 1 ∧ p_wax φ (p_gain φ (ν 1)) ≤ ν 0
def p_meltF (φ : Nat → Int32) (h : Int32) : Nat → Int32 :=
  upd (if jmax 0 (φ 2 - (h - 55) / 5) = 0 then upd (upd φ 2 (jmax 0 (φ 2 - (h - 55) / 5))) 4 0 else upd φ 2 (jmax 0 (φ 2 - (h - 55) / 5))) 3 100
def p_upF (φ : Nat → Int32) (h : Int32) : Nat → Int32 :=
  upd (upd (if φ 2 ≠ 0 ∧ φ 3 < 10 then upd φ 4 1 else φ) 2 (φ 2 + p_gain φ h)) 3 (jmin 100 ((φ 3 + h) / 2))
def p_upV (φ ν : Nat → Int32) : Nat → Int32 := upd ν 0 (ν 0 - p_wax φ (p_gain φ (ν 1)))
def p_dipF (φ : Nat → Int32) (h : Int32) : Nat → Int32 := if 70 < φ 3 then p_meltF (upd φ 6 (φ 6 + 1)) h else p_upF (upd φ 6 (φ 6 + 1)) h
def p_dipV (φ ν : Nat → Int32) : Nat → Int32 := if 70 < φ 3 then ν else p_upV (upd φ 6 (φ 6 + 1)) ν
def p_renewF (φ : Nat → Int32) : Nat → Int32 := upd (upd (upd (upd φ 2 0) 3 0) 4 0) 6 0
theorem nI_inc (i : Nat) : nI i + Int32.ofInt 1 = nI (i + 1) := nI_1 i
theorem nI_mul (a b : Nat) : nI a * nI b = nI (a * b) := pk_mul a b
/-! Trial -/
def p_coolN : Nat → (Nat → Int32) → (Nat → Int32)
  | 0, φ => φ
  | n + 1, φ => p_coolN n (p_coolF φ)
def p_burnN : Nat → (Nat → Int32) → (Nat → Int32)
  | 0, ν => ν
  | n + 1, ν => p_burnN n (p_burnV ν)
def p_try : Nat → (Nat → Int32) → (Nat → Int32) → Int32
  | 0, φ, _ => φ 2
  | n + 1, φ, ν => if p_can φ ν then p_try n (p_dipF φ (ν 1)) (p_burnV (p_dipV φ ν)) else φ 2
def p_needL : Nat → Nat → Nat → Int32 → (Nat → Int32) → (Nat → Int32) → Int32
  | 0, _, _, _, _, _ => -1
  | f + 1, d, k, z, φ, ν => if p_can φ ν then (if z ≤ p_size (p_dipF φ (ν 1)) then nI d else p_needL f (d + 1) k z (p_coolN k (p_dipF φ (ν 1))) (p_burnN k (p_burnV (p_dipV φ ν)))) else -1
def p_need (k : Nat) (z : Int32) (φ ν : Nat → Int32) : Int32 := if z ≤ p_size φ then 0 else p_needL 60 1 k z φ ν
/-- Trial.quickestRest from the rest i on -/
def p_quickL : Nat → Nat → Int32 → Int32 → Int32 → (Nat → Int32) → (Nat → Int32) → Int32
  | 0, _, best, _, _, _, _ => best
  | f + 1, i, best, few, z, φ, ν =>
    if p_need i z φ ν = 0 then 0
    else if 0 < p_need i z φ ν ∧ (best < 0 ∨ p_need i z φ ν + (p_need i z φ ν - 1) * nI i < few) then p_quickL f (i + 1) (nI i) (p_need i z φ ν + (p_need i z φ ν - 1) * nI i) z φ ν
    else p_quickL f (i + 1) best few z φ ν
/-! Store -/
abbrev p_in (x a b : Int32) : Prop := a ≤ x ∧ x ≤ b
abbrev p_shelf (k z : Int32) : Prop := p_in k 0 3 ∧ p_in z 1 9
/-- shelves a .. of the kind k from the size b on, f of them -/
def p_from : Nat → (Nat → Int32) → Nat → Nat → Int32 → Int32
  | 0, _, _, _, acc => acc
  | n + 1, f, k, b, acc => p_from n f k (b + 1) (acc + f (9 * k + b - 1))
def p_amountFrom (f : Nat → Int32) (k b : Nat) : Int32 := p_from (10 - b) f k b 0
def p_sum : Nat → (Nat → Int32) → Nat → Int32 → Int32
  | 0, _, _, acc => acc
  | n + 1, f, i, acc => p_sum n f (i + 1) (acc + f i)
def p_takeL : Nat → (Nat → Int32) → Nat → Nat → Int32 → (Nat → Int32)
  | 0, f, _, _, _ => f
  | n + 1, f, k, b, w => p_takeL n (upd f (9 * k + b - 1) (f (9 * k + b - 1) + -(jmin w (f (9 * k + b - 1))))) k (b + 1) (w - jmin w (f (9 * k + b - 1)))
def p_take (f : Nat → Int32) (k b : Nat) (w : Int32) : Nat → Int32 := p_takeL (10 - b) f k b w
theorem p_in_nI {a x b : Nat} (ha : a ≤ x) (hb : x ≤ b) (h : b < 2 ^ 31) : p_in (nI x) (nI a) (nI b) := ⟨nI_le ha (by omega), nI_le hb h⟩
theorem p_shelf_nI {k z : Nat} (hk : k < 4) (h1 : 1 ≤ z) (h9 : z ≤ 9) : p_shelf (nI k) (nI z) := ⟨p_in_nI (Nat.zero_le k) (by omega : k ≤ 3) (by decide), p_in_nI h1 h9 (by decide)⟩
theorem p_ix {k z : Nat} (hz : 1 ≤ z) : nI k * 9 + nI z - 1 = nI (9 * k + z - 1) := by
  rw [show (9 : Int32) = nI 9 from rfl, pk_mul, nI_add, show (1 : Int32) = nI 1 from rfl, pk_sub (by omega), Nat.mul_comm]
theorem nI_L {a b : Nat} (ha : a < 2 ^ 31) (hb : b < 2 ^ 31) (h : nI a < nI b) : a < b := (nI_ltI ha hb).mp h
theorem nI_nL {a b : Nat} (ha : a < 2 ^ 31) (hb : b < 2 ^ 31) (h : ¬ nI a < nI b) : b ≤ a := Nat.not_lt.mp fun q => h ((nI_ltI ha hb).mpr q)
theorem nI_E {a b : Nat} (ha : a < 2 ^ 31) (hb : b < 2 ^ 31) (h : nI a ≤ nI b) : a ≤ b := (nI_leI ha hb).mp h
theorem nI_nE {a b : Nat} (ha : a < 2 ^ 31) (hb : b < 2 ^ 31) (h : ¬ nI a ≤ nI b) : b < a := Nat.not_le.mp fun q => h ((nI_leI ha hb).mpr q)
abbrev orO (ω : Nat → Int32) : va_E := .inr (1, [.int (ω 0), .int (ω 1), .int (ω 2), .int (ω 3), .int (ω 4)])
theorem orO_congr {φ ψ : Nat → Int32} (h : ∀ i, i < 5 → φ i = ψ i) : orO φ = orO ψ := by
  simp only [orO]
  rw [h 0 (by decide), h 1 (by decide), h 2 (by decide), h 3 (by decide), h 4 (by decide)]
theorem mU_sw {X : mM} {r v : Nat} {b x : va_E} (h : r ≠ v) : mU (mU X v b) r x = mU (mU X r x) v b := by
  funext q
  by_cases h1 : q = r
  · subst h1; rw [mU_self, mU_ne h, mU_self]
  · rw [mU_ne h1]
    by_cases h2 : q = v
    · subst h2; rw [mU_self, mU_self]
    · rw [mU_ne h2, mU_ne h2, mU_ne h1]
