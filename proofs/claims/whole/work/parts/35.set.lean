/-! ===== the reference's plan: a set of orders, listed downwards ===== -/
def dR (O : Nat → Nat → Int32) (k z : Nat) : Nat → Nat → List Nat → List Nat
  | 0, _, D => D
  | n + 1, i, D => if O i 4 = 0 ∧ O i 0 = nI k ∧ O i 1 = nI z then dR O k z n (i + 1) (lins (nn (O i 2)) D) else dR O k z n (i + 1) D
def dRz (O : Nat → Nat → Int32) (f : Nat → Int32) (no k : Nat) : Nat → List Nat → List Nat
  | 0, D => D
  | z + 1, D => dRz O f no k z (ltrim (sN (10 - (z + 1)) f k (z + 1)) (dR O k (z + 1) no 0 D))
def lSt (O : Nat → Nat → Int32) (no : Nat) (c : Nat → Int32) (D : List Nat) (z i : Nat) : Prop :=
  ldesc D ∧ (∀ y ∈ D, y ≤ 60) ∧ (∀ j, j < no → c j = 0 ∨ c j = 1) ∧ (∀ j, j < no → c j = 1 → z < nn (O j 1) ∨ (nn (O j 1) = z ∧ j < i)) ∧
  (∀ x, lcount x D = cntP no (fun j => decide (c j = 1 ∧ nn (O j 2) = x))) ∧ D.length ≤ cntP no (fun j => decide (z < nn (O j 1) ∨ (nn (O j 1) = z ∧ j < i)))
theorem cntP_0 : ∀ (n : Nat) {p : Nat → Bool}, (∀ j, j < n → p j = false) → cntP n p = 0
  | 0, _, _ => rfl
  | n + 1, p, h => by rw [cntP, cntP_0 n (fun j hj => h j (by omega)), h n (by omega)]; rfl
theorem lSt_0 {O : Nat → Nat → Int32} {no : Nat} {c : Nat → Int32} (h : ∀ j, j < no → c j = 0) : lSt O no c [] 9 0 := by
  refine ⟨trivial, fun y hy => (by cases hy), fun j hj => Or.inl (h j hj), fun j hj h1 => ?_, fun x => ?_, Nat.zero_le _⟩
  · rw [h j hj] at h1; exact absurd h1 (by decide)
  · rw [cntP_0 no]
    · rfl
    · intro j hj
      simp [h j hj]
theorem lSt_bd {O : Nat → Nat → Int32} {no : Nat} {c : Nat → Int32} {D : List Nat} {z i : Nat} (h : lSt O no c D z i) : D.length ≤ no ∧ lsum D ≤ 60 * no := by
  have h1 := Nat.le_trans h.2.2.2.2.2 (cntP_le no _)
  have h2 := lsum_le h.2.1
  exact ⟨h1, by omega⟩
theorem lSt_skip {O : Nat → Nat → Int32} {no : Nat} {c : Nat → Int32} {D : List Nat} {z i : Nat} (h : lSt O no c D z i) : lSt O no c D z (i + 1) := by
  obtain ⟨h1, h2, h3, h4, h5, h6⟩ := h
  exact ⟨h1, h2, h3, fun j hj hc => (h4 j hj hc).elim Or.inl (fun q => Or.inr ⟨q.1, by omega⟩), h5, Nat.le_trans h6 (cntP_mono no (fun j _ hj => by simp only [decide_eq_true_eq] at hj ⊢; omega))⟩
theorem lSt_next {O : Nat → Nat → Int32} {no : Nat} {c : Nat → Int32} {D : List Nat} {z i : Nat} (h : lSt O no c D (z + 1) i) : lSt O no c D z 0 := by
  obtain ⟨h1, h2, h3, h4, h5, h6⟩ := h
  exact ⟨h1, h2, h3, fun j hj hc => Or.inl (by have := h4 j hj hc; omega), h5, Nat.le_trans h6 (cntP_mono no (fun j _ hj => by simp only [decide_eq_true_eq] at hj ⊢; omega))⟩
theorem lSt_in {O : Nat → Nat → Int32} {no : Nat} {c : Nat → Int32} {D : List Nat} {z : Nat} (h : lSt O no c D z 0) : ∀ j, j < no → c j = 1 → z < nn (O j 1) := fun j hj hc => (h.2.2.2.1 j hj hc).elim id (fun q => absurd q.2 (Nat.not_lt_zero _))
theorem lSt_mark {O : Nat → Nat → Int32} {no : Nat} {c : Nat → Int32} {D : List Nat} {z i m : Nat} (h : lSt O no c D z i) (hi : i < no) (hz : nn (O i 1) = z) (hm : nn (O i 2) = m) (hm6 : m ≤ 60) : lSt O no (upd c i 1) (lins m D) z (i + 1) := by
  obtain ⟨h1, h2, h3, h4, h5, h6⟩ := h
  have hc0 : c i = 0 := (h3 i hi).resolve_right (fun q => by have := h4 i hi q; omega)
  refine ⟨desc_lins m D h1, fun y hy => (mem_lins hy).elim (fun q => by omega) (fun q => h2 y q), fun j hj => ?_, fun j hj hc => ?_, fun x => ?_, ?_⟩
  · by_cases e : j = i
    · subst e; rw [upd_at]; exact Or.inr rfl
    · rw [upd_no e]; exact h3 j hj
  · by_cases e : j = i
    · subst e; exact Or.inr ⟨hz, by omega⟩
    · rw [upd_no e] at hc
      exact (h4 j hj hc).elim Or.inl (fun q => Or.inr ⟨q.1, by omega⟩)
  · rw [lcount_ins, h5]
    by_cases e : m = x
    · subst e
      rw [if_pos rfl, cntP_add no (fun j => decide (c j = 1 ∧ nn (O j 2) = m)) (fun j => decide (upd c i 1 j = 1 ∧ nn (O j 2) = m)) i hi (by simp [hc0]) (by simp [upd_at, hm]) (fun j _ hj => by simp only [upd_no hj]), Nat.add_comm]
    · rw [if_neg e, Nat.zero_add]
      refine cntP_congr no (fun j _ => ?_)
      by_cases e2 : j = i
      · subst e2
        have : ¬ nn (O j 2) = x := by rw [hm]; exact e
        simp [this]
      · simp only [upd_no e2]
  · rw [len_lins, cntP_add no (fun j => decide (z < nn (O j 1) ∨ (nn (O j 1) = z ∧ j < i))) (fun j => decide (z < nn (O j 1) ∨ (nn (O j 1) = z ∧ j < i + 1))) i hi (by simp [hz]) (by simp [hz]) (fun j _ hj => by apply decide_eq_decide.mpr; omega)]
    omega
theorem lSt_max {O : Nat → Nat → Int32} {no : Nat} {c : Nat → Int32} {w : Nat} {I : List Nat} {z i : Nat} (h : lSt O no c (w :: I) z i) : (∀ j, j < no → c j = 1 → nn (O j 2) ≤ w) ∧ ∃ j, j < no ∧ c j = 1 ∧ nn (O j 2) = w := by
  obtain ⟨h1, h2, h3, h4, h5, h6⟩ := h
  refine ⟨fun j hj hc => ?_, ?_⟩
  · have hp : 0 < lcount (nn (O j 2)) (w :: I) := by
      rw [h5]
      exact cntP_in no _ j hj (by simp [hc])
    rcases List.mem_cons.mp (lcount_mem hp) with q | q
    · omega
    · exact h1.1 _ q
  · have hp : 0 < lcount w (w :: I) := by rw [lcount, if_pos rfl]; omega
    rw [h5] at hp
    obtain ⟨j, hj, hp⟩ := cntP_pos no _ hp
    simp only [decide_eq_true_eq] at hp
    exact ⟨j, hj, hp.1, hp.2⟩
theorem lSt_drop {O : Nat → Nat → Int32} {no : Nat} {c : Nat → Int32} {w b : Nat} {I : List Nat} {z i : Nat} (h : lSt O no c (w :: I) z i) (hb : b < no) (hc : c b = 1) (hw : nn (O b 2) = w) : lSt O no (upd c b 0) I z i := by
  obtain ⟨h1, h2, h3, h4, h5, h6⟩ := h
  refine ⟨h1.2, fun y hy => h2 y (List.mem_cons.mpr (Or.inr hy)), fun j hj => ?_, fun j hj q => ?_, fun x => ?_, ?_⟩
  · by_cases e : j = b
    · subst e; rw [upd_at]; exact Or.inl rfl
    · rw [upd_no e]; exact h3 j hj
  · by_cases e : j = b
    · subst e; rw [upd_at] at q; exact absurd q (by decide)
    · rw [upd_no e] at q; exact h4 j hj q
  · have h9 := h5 x
    rw [lcount] at h9
    by_cases e : w = x
    · subst e
      rw [if_pos rfl, cntP_add no (fun j => decide (upd c b 0 j = 1 ∧ nn (O j 2) = w)) (fun j => decide (c j = 1 ∧ nn (O j 2) = w)) b hb (by simp [upd_at]) (by simp [hc, hw]) (fun j _ hj => by simp only [upd_no hj])] at h9
      omega
    · rw [if_neg e, Nat.zero_add] at h9
      rw [h9]
      refine cntP_congr no (fun j _ => ?_)
      by_cases e2 : j = b
      · subst e2
        have : ¬ nn (O j 2) = x := by rw [hw]; exact e
        simp [this]
      · simp only [upd_no e2]
  · have h9 : (w :: I).length ≤ _ := h6
    rw [List.length_cons] at h9
    omega
/-! both plans are one -/
theorem dC_dR {O : Nat → Nat → Int32} {k z s N : Nat} (hpos : ∀ i, i < N → 1 ≤ nn (O i 2)) : ∀ (n i : Nat) (D : List Nat), i + n ≤ N → ldesc D → dC O k z s n i (ltrim s D) = ltrim s (dR O k z n i D)
  | 0, _, _, _, _ => rfl
  | n + 1, i, D, hN, h => by
    rw [dC, dR]
    by_cases hm : O i 4 = 0 ∧ O i 0 = nI k ∧ O i 1 = nI z
    · rw [if_pos hm, if_pos hm, step_trim (desc_trim s D h) (sum_trim s D), trim_ins (hpos i (by omega)) D h]
      exact dC_dR hpos n (i + 1) _ (by omega) (desc_lins _ D h)
    · rw [if_neg hm, if_neg hm]
      exact dC_dR hpos n (i + 1) D (by omega) h
theorem dR_desc {O : Nat → Nat → Int32} {k z : Nat} : ∀ (n i : Nat) (D : List Nat), ldesc D → ldesc (dR O k z n i D)
  | 0, _, _, h => h
  | n + 1, i, D, h => by
    rw [dR]
    split
    · exact dR_desc n (i + 1) _ (desc_lins _ D h)
    · exact dR_desc n (i + 1) D h

theorem sN_mono {f : Nat → Int32} {k z : Nat} (hz : z ≤ 8) : sN (10 - (z + 1 + 1)) f k (z + 1 + 1) ≤ sN (10 - (z + 1)) f k (z + 1) := by
  rw [show 10 - (z + 1) = (10 - (z + 1 + 1)) + 1 by omega, sN]
  omega
theorem dCz_dRz {O : Nat → Nat → Int32} {f : Nat → Int32} {no k : Nat} (hpos : ∀ i, i < no → 1 ≤ nn (O i 2)) : ∀ (z : Nat) (D : List Nat), z ≤ 9 → ldesc D → (∀ z1, z = z1 + 1 → lsum D ≤ sN (10 - (z1 + 1)) f k (z1 + 1)) → dCz O f no k z D = dRz O f no k z D
  | 0, _, _, _, _ => rfl
  | z + 1, D, hz, hd, hs => by
    rw [dCz, dRz]
    have h1 := hs z rfl
    rw [← dC_dR hpos no 0 D (by omega) hd, trim_le h1]
    have e : dC O k (z + 1) (sN (10 - (z + 1)) f k (z + 1)) no 0 D = ltrim (sN (10 - (z + 1)) f k (z + 1)) (dR O k (z + 1) no 0 D) := by
      have := dC_dR (O := O) (k := k) (z := z + 1) (s := sN (10 - (z + 1)) f k (z + 1)) hpos no 0 D (by omega) hd
      rw [trim_le h1] at this
      exact this
    rw [e]
    refine dCz_dRz hpos z _ (by omega) (desc_trim _ _ (dR_desc no 0 D hd)) (fun z1 hz1 => ?_)
    subst hz1
    exact Nat.le_trans (sum_trim _ _) (sN_mono (by omega))
theorem poss_eq {O : Nat → Nat → Int32} {f : Nat → Int32} {no k : Nat} (hpos : ∀ i, i < no → 1 ≤ nn (O i 2)) : dCz O f no k 9 [] = dRz O f no k 9 [] := dCz_dRz hpos 9 [] (Nat.le_refl _) trivial (fun _ _ => Nat.zero_le _)
