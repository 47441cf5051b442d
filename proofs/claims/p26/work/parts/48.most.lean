/-! ===== no more orders are possible than there are ===== -/
theorem cnt_split : ∀ (n : Nat) {p q r : Nat → Bool}, (∀ j, j < n → p j = true → r j = true) → (∀ j, j < n → q j = true → r j = true) → (∀ j, j < n → p j = true → q j = true → False) → cntP n p + cntP n q ≤ cntP n r
  | 0, _, _, _, _, _, _ => Nat.le_refl _
  | n + 1, p, q, r, h1, h2, h3 => by
    have := cnt_split n (p := p) (q := q) (r := r) (fun j hj => h1 j (by omega)) (fun j hj => h2 j (by omega)) (fun j hj => h3 j (by omega))
    rw [cntP, cntP, cntP]
    by_cases hp : p n = true
    · have hq : ¬ q n = true := fun hq => h3 n (Nat.lt_succ_self n) hp hq
      rw [if_pos hp, if_neg hq, if_pos (h1 n (Nat.lt_succ_self n) hp)]; omega
    · rw [if_neg hp]
      by_cases hq : q n = true
      · rw [if_pos hq, if_pos (h2 n (Nat.lt_succ_self n) hq)]; omega
      · rw [if_neg hq]; split <;> omega
section MST
variable {O : Nat → Nat → Int32} {f : Nat → Int32} {no : Nat}
theorem dC_len {k z s : Nat} {p : Nat → Bool} (hp : ∀ j, O j 4 = 0 ∧ O j 0 = nI k ∧ O j 1 = nI z → p j = true) : ∀ (m i : Nat) (D : List Nat), (dC O k z s m i D).length + cntP i p ≤ D.length + cntP (i + m) p
  | 0, i, D => Nat.le_refl _
  | m + 1, i, D => by
    rw [dC]
    have e : cntP (i + 1) p = cntP i p + (if p i = true then 1 else 0) := by rw [cntP]
    by_cases h : O i 4 = 0 ∧ O i 0 = nI k ∧ O i 1 = nI z
    · rw [if_pos h]
      have h1 := dC_len (s := s) hp m (i + 1) (lstep s (nn (O i 2)) D)
      have h2 := len_step_le s (nn (O i 2)) D
      rw [e, if_pos (hp i h), show i + 1 + m = i + (m + 1) by omega] at h1
      omega
    · rw [if_neg h]
      have h1 := dC_len (s := s) hp m (i + 1) D
      rw [e, show i + 1 + m = i + (m + 1) by omega] at h1
      split at h1 <;> omega
theorem dCz_len {k : Nat} : ∀ (z : Nat) (D : List Nat), z < 1000 → (dCz O f no k z D).length ≤ D.length + cntP no (fun j => decide (O j 0 = nI k ∧ nn (O j 1) ≤ z))
  | 0, D, _ => Nat.le_add_right _ _
  | z + 1, D, hz => by
    rw [dCz]
    have h1 := dCz_len (k := k) z (dC O k (z + 1) (sN (10 - (z + 1)) f k (z + 1)) no 0 D) (by omega)
    have h2 := dC_len (O := O) (k := k) (z := z + 1) (s := sN (10 - (z + 1)) f k (z + 1)) (p := fun j => decide (O j 0 = nI k ∧ nn (O j 1) = z + 1)) (fun j hj => decide_eq_true ⟨hj.2.1, by rw [hj.2.2]; exact nn_nI (by omega)⟩) no 0 D
    rw [Nat.zero_add] at h2
    have h0 : cntP 0 (fun j => decide (O j 0 = nI k ∧ nn (O j 1) = z + 1)) = 0 := rfl
    have h3 := cnt_split no (p := fun j => decide (O j 0 = nI k ∧ nn (O j 1) ≤ z)) (q := fun j => decide (O j 0 = nI k ∧ nn (O j 1) = z + 1)) (r := fun j => decide (O j 0 = nI k ∧ nn (O j 1) ≤ z + 1))
      (fun j _ h => by simp only [decide_eq_true_eq] at h ⊢; exact ⟨h.1, by omega⟩) (fun j _ h => by simp only [decide_eq_true_eq] at h ⊢; exact ⟨h.1, by omega⟩) (fun j _ h h' => by simp only [decide_eq_true_eq] at h h'; omega)
    omega
theorem kinds_le : ∀ k k1 : Nat, k < 1000 → k1 = k + 1 → cntP no (fun j => decide (nn (O j 0) < k)) + cntP no (fun j => decide (O j 0 = nI k ∧ nn (O j 1) ≤ 9)) ≤ cntP no (fun j => decide (nn (O j 0) < k1)) := fun k k1 hk e1 =>
  cnt_split no (fun j _ h => by simp only [decide_eq_true_eq] at h ⊢; omega) (fun j _ h => by simp only [decide_eq_true_eq] at h ⊢; rw [h.1, nn_nI (by omega)]; omega)
    (fun j _ h h' => by simp only [decide_eq_true_eq] at h h'; rw [h'.1, nn_nI (by omega)] at h; omega)
theorem most_le (hn : no ≤ 20) : dSum (fun k => (dCz O f no k 9 []).length) 4 0 0 ≤ nI no := by
  have a := fun k => dCz_len (O := O) (f := f) (no := no) (k := k) 9 [] (by decide)
  have b := fun k k1 hk e1 => kinds_le (O := O) (no := no) k k1 hk e1
  have a0 := a 0; have a1 := a 1; have a2 := a 2; have a3 := a 3
  have b0 := b 0 1 (by decide) rfl; have b1 := b 1 2 (by decide) rfl; have b2 := b 2 3 (by decide) rfl; have b3 := b 3 4 (by decide) rfl
  have c := cntP_le no (fun j => decide (nn (O j 0) < 4))
  simp only [List.length_nil, Nat.zero_add] at a0 a1 a2 a3 b0 b1 b2 b3
  have e : dSum (fun k => (dCz O f no k 9 []).length) 4 0 0 = nI ((dCz O f no 0 9 []).length + (dCz O f no 1 9 []).length + (dCz O f no 2 9 []).length + (dCz O f no 3 9 []).length) := by
    show (((0 + nI _) + nI _) + nI _) + nI _ = _
    rw [Int32.zero_add, nI_add, nI_add, nI_add]
  rw [e]
  exact nI_le (by omega) (by omega)
end MST
