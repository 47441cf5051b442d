/-! ===== the plan of orders: descending rows of amounts; the class's table, the reference's set ===== -/
def lsum : List Nat → Nat
  | [] => 0
  | x :: xs => x + lsum xs
def lins (v : Nat) : List Nat → List Nat
  | [] => [v]
  | x :: xs => if x < v then v :: x :: xs else x :: lins v xs
def ltrim (s : Nat) : List Nat → List Nat
  | [] => []
  | x :: xs => if x + lsum xs ≤ s then x :: xs else ltrim s xs
/-- descending -/
def ldesc : List Nat → Prop
  | [] => True
  | x :: xs => (∀ y ∈ xs, y ≤ x) ∧ ldesc xs
def lstep (s v : Nat) (D : List Nat) : List Nat := if lsum (lins v D) ≤ s then lins v D else (lins v D).tail
theorem lsum_lins (v : Nat) : ∀ D, lsum (lins v D) = v + lsum D
  | [] => rfl
  | x :: xs => by
    unfold lins
    split
    · rfl
    · simp only [lsum, lsum_lins v xs]; omega
theorem len_lins (v : Nat) : ∀ D : List Nat, (lins v D).length = D.length + 1
  | [] => rfl
  | x :: xs => by
    unfold lins
    split
    · rfl
    · simp only [List.length_cons, len_lins v xs]
theorem mem_lins {v y : Nat} : ∀ {D : List Nat}, y ∈ lins v D → y = v ∨ y ∈ D
  | [], h => by
    rcases List.mem_cons.mp h with h | h
    · exact Or.inl h
    · cases h
  | x :: xs, h => by
    unfold lins at h
    split at h
    · rcases List.mem_cons.mp h with h | h
      · exact Or.inl h
      · exact Or.inr h
    · rcases List.mem_cons.mp h with h | h
      · exact Or.inr (List.mem_cons.mpr (Or.inl h))
      · rcases mem_lins h with h | h
        · exact Or.inl h
        · exact Or.inr (List.mem_cons.mpr (Or.inr h))
theorem desc_lins (v : Nat) : ∀ D, ldesc D → ldesc (lins v D)
  | [], _ => ⟨fun y h => (by cases h), trivial⟩
  | x :: xs, h => by
    unfold lins
    split
    · rename_i hx
      refine ⟨fun y hy => ?_, h⟩
      rcases List.mem_cons.mp hy with q | q
      · omega
      · have := h.1 y q; omega
    · rename_i hx
      refine ⟨fun y hy => ?_, desc_lins v xs h.2⟩
      rcases mem_lins hy with q | q
      · omega
      · exact h.1 y q
theorem desc_trim (s : Nat) : ∀ D, ldesc D → ldesc (ltrim s D)
  | [], _ => trivial
  | x :: xs, h => by
    unfold ltrim
    split
    · exact h
    · exact desc_trim s xs h.2
theorem sum_trim (s : Nat) : ∀ D, lsum (ltrim s D) ≤ s
  | [] => Nat.zero_le _
  | x :: xs => by
    unfold ltrim
    split
    · assumption
    · exact sum_trim s xs
theorem trim_le {s : Nat} {D : List Nat} (h : lsum D ≤ s) : ltrim s D = D := by
  cases D with
  | nil => rfl
  | cons x xs => unfold ltrim; exact if_pos h
theorem trim_gt {s x : Nat} {xs : List Nat} (h : s < x + lsum xs) : ltrim s (x :: xs) = ltrim s xs := by
  show (if x + lsum xs ≤ s then x :: xs else ltrim s xs) = _
  rw [if_neg (by omega)]
theorem lins_top {v : Nat} {D : List Nat} (h : ∀ y ∈ D, y < v) : lins v D = v :: D := by
  cases D with
  | nil => rfl
  | cons x xs => unfold lins; rw [if_pos (h x List.mem_cons_self)]
/-- trimming first or not -/
theorem trim_ins {s v : Nat} (hv : 1 ≤ v) : ∀ D, ldesc D → ltrim s (lins v (ltrim s D)) = ltrim s (lins v D)
  | [], _ => rfl
  | w :: I, h => by
    by_cases hs : w + lsum I ≤ s
    · rw [trim_le (D := w :: I) hs]
    · rw [trim_gt (by omega), trim_ins hv I h.2]
      by_cases hwv : w < v
      · have e1 : lins v (w :: I) = v :: w :: I := by show (if w < v then _ else _) = _; rw [if_pos hwv]
        have e2 : lins v I = v :: I := lins_top (fun y hy => by have := h.1 y hy; omega)
        rw [e1, e2, trim_gt (by omega), trim_gt (x := v) (by show s < v + (w + lsum I); omega), trim_gt (by omega)]
      · have e1 : lins v (w :: I) = w :: lins v I := by show (if w < v then _ else _) = _; rw [if_neg hwv]
        rw [e1, trim_gt (by rw [lsum_lins]; omega)]
theorem tail_sum (v : Nat) : ∀ D, ldesc D → lsum (lins v D).tail ≤ lsum D
  | [], _ => Nat.le_refl _
  | x :: xs, h => by
    unfold lins
    split
    · exact Nat.le_refl _
    · rename_i hx
      show lsum (lins v xs) ≤ x + lsum xs
      rw [lsum_lins]; omega
theorem step_trim {s v : Nat} {D : List Nat} (hd : ldesc D) (h : lsum D ≤ s) : lstep s v D = ltrim s (lins v D) := by
  unfold lstep
  by_cases h1 : lsum (lins v D) ≤ s
  · rw [if_pos h1, trim_le h1]
  · rw [if_neg h1]
    have h2 := tail_sum v D hd
    cases hl : lins v D with
    | nil => have := len_lins v D; rw [hl] at this; cases this
    | cons x xs =>
      rw [hl] at h1 h2
      have h3 : lsum xs ≤ lsum D := h2
      rw [trim_gt (by show s < lsum (x :: xs); omega)]
      exact (trim_le (Nat.le_trans h3 h)).symm
theorem desc_tail {D : List Nat} (h : ldesc D) : ldesc D.tail := by
  cases D with
  | nil => trivial
  | cons x xs => exact h.2
theorem desc_step {s v : Nat} {D : List Nat} (h : ldesc D) : ldesc (lstep s v D) := by
  unfold lstep
  split
  · exact desc_lins v D h
  · exact desc_tail (desc_lins v D h)
/-! the table -/
def lTab (fw : Nat → Int32) : List Nat → Prop
  | [] => fw 0 = 0
  | x :: xs => fw (xs.length + 1) = nI (x + lsum xs) ∧ lTab fw xs
theorem lTab_at {fw : Nat → Int32} : ∀ {D : List Nat}, lTab fw D → fw D.length = nI (lsum D)
  | [], h => h
  | _ :: _, h => h.1
theorem lTab_congr {fw fw' : Nat → Int32} : ∀ {D : List Nat}, (∀ k, k ≤ D.length → fw' k = fw k) → lTab fw D → lTab fw' D
  | [], hk, h => by rw [lTab, hk 0 (Nat.le_refl _)]; exact h
  | x :: xs, hk, h => ⟨(hk _ (Nat.le_refl _)).trans h.1, lTab_congr (fun k q => hk k (Nat.le_succ_of_le q)) h.2⟩
/-- the loop of planOneMore -/
def planL : Nat → (Nat → Int32) → Int32 → (Nat → Int32)
  | 0, fw, _ => fw
  | k + 1, fw, v => planL k (upd fw (k + 1) (jmin (fw (k + 1)) (fw k + v))) v
def p_planF (c : Nat) (fw : Nat → Int32) (v : Int32) : Nat → Int32 := planL c (upd fw (c + 1) (fw c + v)) v
theorem planL_hi {v : Int32} : ∀ (k : Nat) (fw : Nat → Int32) (j : Nat), k < j → planL k fw v j = fw j
  | 0, _, _, _ => rfl
  | k + 1, fw, j, h => by
    rw [planL, planL_hi k _ j (by omega), upd_no (by omega)]
theorem planL_0 {v : Int32} : ∀ (k : Nat) (fw : Nat → Int32), planL k fw v 0 = fw 0
  | 0, _ => rfl
  | k + 1, fw => by rw [planL, planL_0 k, upd_no (by omega)]
theorem planL_lo {v : Int32} : ∀ (k : Nat) (fw : Nat → Int32) (j : Nat), 1 ≤ j → j ≤ k → planL k fw v j = jmin (fw j) (fw (j - 1) + v)
  | 0, _, _, h1, h2 => by omega
  | k + 1, fw, j, h1, h2 => by
    rw [planL]
    by_cases h : j = k + 1
    · subst h
      rw [planL_hi k _ _ (Nat.lt_succ_self _), upd_at]; rfl
    · rw [planL_lo k _ j h1 (by omega), upd_no h, upd_no (by omega)]
/-- what the table is behind one order more -/
def lMore (fw fw' : Nat → Int32) (c v : Nat) : Prop := fw' 0 = fw 0 ∧ fw' (c + 1) = fw c + nI v ∧ ∀ k, 1 ≤ k → k ≤ c → fw' k = jmin (fw k) (fw (k - 1) + nI v)
theorem planF_more {fw : Nat → Int32} {c v : Nat} : lMore fw (p_planF c fw (nI v)) c v := by
  refine ⟨?_, ?_, fun k h1 h2 => ?_⟩
  · rw [p_planF, planL_0, upd_no (by omega)]
  · rw [p_planF, planL_hi _ _ _ (Nat.lt_succ_self _), upd_at]
  · rw [p_planF, planL_lo _ _ k h1 h2, upd_no (by omega), upd_no (by omega)]
theorem lTab_all {fw fw' : Nat → Int32} {v : Nat} : ∀ {D : List Nat}, lsum D + v < 2 ^ 31 → (∀ y ∈ D, y ≤ v) → fw' 0 = fw 0 → (∀ k, 1 ≤ k → k ≤ D.length → fw' k = jmin (fw k) (fw (k - 1) + nI v)) → lTab fw D → lTab fw' D
  | [], _, _, h0, _, h => by rw [lTab, h0]; exact h
  | x :: xs, hb, hv, h0, hk, h => by
    have hx := hv x List.mem_cons_self
    have hb2 : x + lsum xs + v < 2 ^ 31 := hb
    refine ⟨?_, lTab_all (by omega) (fun y hy => hv y (List.mem_cons.mpr (Or.inr hy))) h0 (fun k a b => hk k a (Nat.le_succ_of_le b)) h.2⟩
    rw [hk (xs.length + 1) (by omega) (Nat.le_refl _), h.1, Nat.add_sub_cancel, lTab_at h.2, nI_add, jmin_nI (by omega) (by omega), Nat.min_eq_left (by omega)]
theorem lTab_ins {fw fw' : Nat → Int32} {v : Nat} : ∀ {D : List Nat}, lsum D + v < 2 ^ 31 → ldesc D → lMore fw fw' D.length v → lTab fw D → lTab fw' (lins v D)
  | [], _, _, hm, h => ⟨by
      have h2 : fw' (0 + 1) = fw 0 + nI v := hm.2.1
      have h3 : fw 0 = nI 0 := h
      show fw' (0 + 1) = nI (v + 0)
      rw [h2, h3, nI_add, Nat.zero_add, Nat.add_zero], by
      show fw' 0 = 0
      rw [hm.1]; exact h⟩
  | w :: I, hb, hd, hm, h => by
    have hb2 : w + lsum I + v < 2 ^ 31 := hb
    unfold lins
    split
    · rename_i hwv
      refine ⟨?_, lTab_all (v := v) hb (fun y hy => ?_) hm.1 hm.2.2 h⟩
      · rw [hm.2.1, lTab_at h, nI_add, Nat.add_comm]
      · rcases List.mem_cons.mp hy with q | q
        · omega
        · have := hd.1 y q; omega
    · rename_i hwv
      refine ⟨?_, lTab_ins (by omega) hd.2 ⟨hm.1, ?_, fun k a b => hm.2.2 k a (Nat.le_succ_of_le b)⟩ h.2⟩
      · rw [len_lins, lsum_lins, show I.length + 1 + 1 = (w :: I).length + 1 from rfl, hm.2.1, lTab_at h, nI_add]
        congr 1
        show w + lsum I + v = w + (v + lsum I)
        omega
      · have h1 := hm.2.2 (I.length + 1) (by omega) (Nat.le_refl _)
        rw [h1, h.1, Nat.add_sub_cancel, lTab_at h.2, nI_add, jmin_nI (by omega) (by omega), Nat.min_eq_right (by omega)]
theorem lTab_tail {fw : Nat → Int32} {D : List Nat} (hne : D ≠ []) (h : lTab fw D) : lTab fw D.tail := by
  cases D with
  | nil => exact absurd rfl hne
  | cons x xs => exact h.2
theorem lTab_step {fw : Nat → Int32} {s v : Nat} {D : List Nat} (hb : lsum D + v < 2 ^ 31) (hd : ldesc D) (h : lTab fw D) : lTab (p_planF D.length fw (nI v)) (lstep s v D) := by
  have h1 := lTab_ins hb hd (planF_more (fw := fw) (c := D.length) (v := v)) h
  unfold lstep
  split
  · exact h1
  · refine lTab_tail (fun q => ?_) h1
    have := len_lins v D
    rw [q] at this
    cases this
/-- how many are filled then -/
theorem len_step {fw : Nat → Int32} {s v : Nat} {D : List Nat} (hb : lsum D + v < 2 ^ 31) (hs : s < 2 ^ 31) (h : lTab fw D) : nI (lstep s v D).length = if p_planF D.length fw (nI v) (D.length + 1) ≤ nI s then nI (D.length + 1) else nI D.length := by
  rw [(planF_more (fw := fw) (c := D.length) (v := v)).2.1, lTab_at h, nI_add]
  unfold lstep
  rw [lsum_lins]
  by_cases h1 : v + lsum D ≤ s
  · rw [if_pos h1, if_pos (nI_le (by omega) hs), len_lins]
  · rw [if_neg h1, if_neg (fun q => h1 (by have := nI_E (a := lsum D + v) (b := s) hb hs q; omega)), List.length_tail, len_lins]
    rfl
/-! counting -/
def cntP : Nat → (Nat → Bool) → Nat
  | 0, _ => 0
  | n + 1, p => cntP n p + (if p n then 1 else 0)
theorem cntP_congr : ∀ (n : Nat) {p q : Nat → Bool}, (∀ i, i < n → p i = q i) → cntP n p = cntP n q
  | 0, _, _, _ => rfl
  | n + 1, p, q, h => by rw [cntP, cntP, cntP_congr n (fun i hi => h i (by omega)), h n (by omega)]
theorem cntP_le : ∀ (n : Nat) (p : Nat → Bool), cntP n p ≤ n
  | 0, _ => Nat.le_refl _
  | n + 1, p => by have := cntP_le n p; rw [cntP]; split <;> omega
theorem cntP_lt : ∀ (n : Nat) (p : Nat → Bool) (i : Nat), i < n → p i = false → cntP n p < n
  | 0, _, _, h, _ => by omega
  | n + 1, p, i, h, hp => by
    rw [cntP]
    by_cases hi : i = n
    · subst hi
      have := cntP_le i p
      rw [hp]
      show cntP i p + 0 < i + 1
      omega
    · have := cntP_lt n p i (by omega) hp
      split <;> omega
theorem cntP_add : ∀ (n : Nat) (p q : Nat → Bool) (i : Nat), i < n → p i = false → q i = true → (∀ j, j < n → j ≠ i → p j = q j) → cntP n q = cntP n p + 1
  | 0, _, _, _, h, _, _, _ => by omega
  | n + 1, p, q, i, h, hp, hq, hj => by
    rw [cntP, cntP]
    by_cases hi : i = n
    · subst hi
      rw [hp, hq, cntP_congr i (p := p) (q := q) (fun j hj2 => hj j (by omega) (by omega))]
      rfl
    · rw [cntP_add n p q i (by omega) hp hq (fun j a b => hj j (by omega) b), hj n (by omega) (fun z => hi z.symm)]
      omega
theorem cntP_pos : ∀ (n : Nat) (p : Nat → Bool), 0 < cntP n p → ∃ i, i < n ∧ p i = true
  | 0, _, h => by cases h
  | n + 1, p, h => by
    rw [cntP] at h
    by_cases hp : p n = true
    · exact ⟨n, by omega, hp⟩
    · rw [if_neg hp] at h
      obtain ⟨i, hi, hpi⟩ := cntP_pos n p h
      exact ⟨i, by omega, hpi⟩
theorem cntP_in : ∀ (n : Nat) (p : Nat → Bool) (i : Nat), i < n → p i = true → 0 < cntP n p
  | 0, _, _, h, _ => by omega
  | n + 1, p, i, h, hp => by
    rw [cntP]
    by_cases hi : i = n
    · subst hi; rw [if_pos hp]; omega
    · have := cntP_in n p i (by omega) hp
      omega
def lcount (x : Nat) : List Nat → Nat
  | [] => 0
  | y :: ys => (if y = x then 1 else 0) + lcount x ys
theorem lcount_ins {v x : Nat} : ∀ D, lcount x (lins v D) = (if v = x then 1 else 0) + lcount x D
  | [] => rfl
  | y :: ys => by
    unfold lins
    split
    · rfl
    · simp only [lcount, lcount_ins ys]; omega
theorem lcount_mem {x : Nat} : ∀ {D : List Nat}, 0 < lcount x D → x ∈ D
  | [], h => by cases h
  | y :: ys, h => by
    by_cases e : y = x
    · subst e; exact List.mem_cons_self
    · rw [lcount, if_neg e, Nat.zero_add] at h
      exact List.mem_cons.mpr (Or.inr (lcount_mem h))
