theorem lTab_0 {fw : Nat → Int32} : ∀ {D : List Nat}, lTab fw D → fw 0 = 0
  | [], h => h
  | _ :: _, h => lTab_0 h.2
def dSum (h : Nat → Nat) : Nat → Nat → Int32 → Int32
  | 0, _, acc => acc
  | n + 1, k, acc => dSum h n (k + 1) (acc + nI (h k))
def dC (O : Nat → Nat → Int32) (k z s : Nat) : Nat → Nat → List Nat → List Nat
  | 0, _, D => D
  | n + 1, i, D => if O i 4 = 0 ∧ O i 0 = nI k ∧ O i 1 = nI z then dC O k z s n (i + 1) (lstep s (nn (O i 2)) D) else dC O k z s n (i + 1) D
def dCz (O : Nat → Nat → Int32) (f : Nat → Int32) (no k : Nat) : Nat → List Nat → List Nat
  | 0, D => D
  | z + 1, D => dCz O f no k z (dC O k (z + 1) (sN (10 - (z + 1)) f k (z + 1)) no 0 D)
theorem lsum_le : ∀ {D : List Nat}, (∀ y ∈ D, y ≤ 60) → lsum D ≤ 60 * D.length
  | [], _ => Nat.le_refl _
  | x :: xs, h => by
    have h1 := h x List.mem_cons_self
    have h2 := lsum_le (D := xs) (fun y hy => h y (List.mem_cons.mpr (Or.inr hy)))
    show x + lsum xs ≤ 60 * (xs.length + 1)
    omega
theorem mem_tl {y : Nat} {D : List Nat} (h : y ∈ D.tail) : y ∈ D := by
  cases D with
  | nil => exact h
  | cons x xs => exact List.mem_cons.mpr (Or.inr h)
theorem mem_step {s v y : Nat} {D : List Nat} (h : y ∈ lstep s v D) : y = v ∨ y ∈ D := by
  unfold lstep at h
  split at h
  · exact mem_lins h
  · exact mem_lins (mem_tl h)
theorem len_step_le (s v : Nat) (D : List Nat) : (lstep s v D).length ≤ D.length + 1 := by
  unfold lstep
  split
  · rw [len_lins]; omega
  · rw [List.length_tail, len_lins]; omega
theorem cntP_mono : ∀ (n : Nat) {p q : Nat → Bool}, (∀ i, i < n → p i = true → q i = true) → cntP n p ≤ cntP n q
  | 0, _, _, _ => Nat.le_refl _
  | n + 1, p, q, h => by
    have h1 := cntP_mono n (p := p) (q := q) (fun i hi => h i (by omega))
    rw [cntP, cntP]
    by_cases hp : p n = true
    · rw [if_pos hp, if_pos (h n (by omega) hp)]; omega
    · rw [if_neg hp]; split <;> omega
theorem ok_X5_planOneMore : mOK RX5 yX5_planOneMore cX5_planOneMore 6 (some .int) 3 := ⟨q_462, qs_15, q_1, q_463, by decide +kernel⟩
set_option maxHeartbeats 400000 in
set_option maxRecDepth 100000 in
theorem k_X5_planOneMore (l : Launch) (G : mG) (lo : Nat) (sa : mSc) (ad : Nat → Nat) (R : mM) (g : Nat → Int32) (nf : Nat) (F : Nat → Nat → Int32) (f : Nat → Int32) (no : Nat) (O : Nat → Nat → Int32) (tf tv fw : Nat → Int32) (c9 : Nat) (v9 s9 : Int32) (hnf : nf ≤ 12) (hno : no ≤ 20) (hc20 : c9 < 20) : mI l yX5_planOneMore cX5_planOneMore 6 .int 1 21 G lo sa ad (WC G ad g nf F f no O tf tv fw R) [.ref (ad 0), .int (nI c9), .int v9, .int s9] (fun v R' => v = (if p_planF c9 fw v9 (c9 + 1) ≤ s9 then nI (c9 + 1) else nI c9) ∧ R' = (WC G ad g nf F f no O tf tv (p_planF c9 fw v9) R)) := by
  refine mI_of (by decide) (Nat.le_of_ble_eq_true rfl) ?_
  intro p e s m args below meth c hF hr hlk hC ls hl hO hS Q hQ
  have hx := hF.1
  have hb := hF.2.1
  have hl : lv_has ls 6 [(0, .ref (ad 0)), (1, .int (nI c9)), (2, .int v9), (3, .int s9)] := hl
  refine lv_iload_n hx hb dX5_planOneMore_0 rfl (lv_at hl 1 rfl) ?_
  refine lv_iconst (v := 1) hx hb dX5_planOneMore_1 (by decide) ?_
  refine lv_iadd hx hb dX5_planOneMore_2 ?_
  refine lv_istore (lv' := [(4, .int ((nI c9) + 1)), (0, .ref (ad 0)), (1, .int (nI c9)), (2, .int v9), (3, .int s9)]) hx hb dX5_planOneMore_3 hl (by decide) rfl (fun ls hl => ?_)
  refine lv_iload_n hx hb dX5_planOneMore_5 rfl (lv_at hl 2 rfl) ?_
  refine lv_if_lt (tgt := 19) hx hb dX5_planOneMore_6 (by decide) (fun c6 => absurd c6 (nI_nneg (by omega))) (fun c6 => ?_)
  refine lv_iload hx hb dX5_planOneMore_9 (lv_at hl 0 rfl) ?_
  refine lv_aload_n hx hb dX5_planOneMore_11 rfl (lv_at hl 1 rfl) ?_
  refine m_get inX5 hF hC hO rfl rfl 5 (by decide) q_116 (v := .ref (ad 9)) rfl dX5_planOneMore_12 ?_
  refine m_alen 0 hF hC hO rfl rfl (v := 21) rfl dX5_planOneMore_15 ?_
  refine lv_icmp_lt (tgt := 21) hx hb dX5_planOneMore_16 (by decide) (fun c16 => ?_) (fun c16 => absurd ((by rw [nI_1]; exact nI_lt (a := c9 + 1) (b := 21) (by omega) (by decide))) c16)
  refine lv_aload_n hx hb dX5_planOneMore_21 rfl (lv_at hl 1 rfl) ?_
  refine m_get inX5 hF hC hO rfl rfl 5 (by decide) q_116 (v := .ref (ad 9)) rfl dX5_planOneMore_22 ?_
  refine lv_iload hx hb dX5_planOneMore_25 (lv_at hl 0 rfl) ?_
  refine lv_aload_n hx hb dX5_planOneMore_27 rfl (lv_at hl 1 rfl) ?_
  refine m_get inX5 hF hC hO rfl rfl 5 (by decide) q_116 (v := .ref (ad 9)) rfl dX5_planOneMore_28 ?_
  refine lv_iload_n hx hb dX5_planOneMore_31 rfl (lv_at hl 2 rfl) ?_
  refine m_iald hF hC hO rfl (j := c9) (nI_clamp (by omega)) (vp_in_nI (by omega) (by decide)) dX5_planOneMore_32 ?_
  refine lv_iload_n hx hb dX5_planOneMore_33 rfl (lv_at hl 3 rfl) ?_
  refine lv_iadd hx hb dX5_planOneMore_34 ?_
  refine m_iast hF hC hO hS rfl (j := (c9 + 1)) (by rw [nI_1]; exact nI_clamp (by omega)) (by rw [nI_1]; exact vp_in_nI (by omega) (by decide)) dX5_planOneMore_35 (fun H locs hO hS => ?_)
  have hO : mO G lo ad (mU (WC G ad g nf F f no O tf tv fw R) 9 (.inl (G.2 0, 21, .inl (upd fw (c9 + 1) ((fw c9) + v9))))) H := hO
  rw [WC_w9] at hO
  refine lv_iload_n hx hb dX5_planOneMore_36 rfl (lv_at hl 2 rfl) ?_
  refine lv_istore (lv' := [(5, .int (nI c9)), (4, .int ((nI c9) + 1)), (0, .ref (ad 0)), (1, .int (nI c9)), (2, .int v9), (3, .int s9)]) hx hb dX5_planOneMore_37 hl (by decide) rfl (fun ls hl => ?_)
  have L39 : ∀ (n : Nat) (kk : Nat) (f9 : Nat → Int32) (H : Heap) (locs : List Loc) (ls : Array Slot), kk < n → kk ≤ c9 → planL kk f9 v9 = p_planF c9 fw v9 → lv_has ls 6 [(0, .ref (ad 0)), (1, .int (nI c9)), (2, .int v9), (3, .int s9), (4, .int ((nI c9) + 1)), (5, .int (nI kk))] → mO G lo ad (WC G ad g nf F f no O tf tv f9 R) H → va_S (mA lo) s.heap H locs → W p l e (mRm 1 21) s m args below meth c H locs 0 0 Q (F0 m 39 ls []) := by
    intro n
    induction n with
    | zero => intro kk f9 H locs ls hn; exact absurd hn (Nat.not_lt_zero _)
    | succ n ih39 =>
      intro kk f9 H locs ls hn39 hkk hv hl hO hS
      refine lv_iload hx hb dX5_planOneMore_39 (lv_at hl 5 rfl) ?_
      refine lv_iconst (v := 1) hx hb dX5_planOneMore_41 (by decide) ?_
      refine lv_icmp_lt (tgt := 79) hx hb dX5_planOneMore_42 (by decide) (fun c42 => ?_) (fun c42 => ?_)
      · refine lv_aload_n hx hb dX5_planOneMore_79 rfl (lv_at hl 0 rfl) ?_
        refine m_get inX5 hF hC hO rfl rfl 5 (by decide) q_116 (v := .ref (ad 9)) rfl dX5_planOneMore_80 ?_
        refine lv_iload hx hb dX5_planOneMore_83 (lv_at hl 4 rfl) ?_
        refine m_iald hF hC hO rfl (j := (c9 + 1)) (by rw [nI_1]; exact nI_clamp (by omega)) (by rw [nI_1]; exact vp_in_nI (by omega) (by decide)) dX5_planOneMore_85 ?_
        refine lv_iload_n hx hb dX5_planOneMore_86 rfl (lv_at hl 3 rfl) ?_
        refine lv_icmp_gt (tgt := 95) hx hb dX5_planOneMore_87 (by decide) (fun c87 => ?_) (fun c87 => ?_)
        · refine lv_iload_n hx hb dX5_planOneMore_95 rfl (lv_at hl 1 rfl) ?_
          refine m_iret hF hr hlk hQ rfl hO hS dX5_planOneMore_96 ?_
          have e9 : kk = 0 := by
            cases kk with
            | zero => rfl
            | succ k1 => exact absurd (nI_lt (a := k1 + 1) (b := 1) |> fun _ => c42) (nI_nlt (a := k1 + 1) (b := 1) (by omega) (by omega))
          subst e9
          rw [← hv]
          exact ⟨by rw [planL, if_neg (show ¬ f9 (c9 + 1) ≤ s9 from Int32.not_le.mpr c87)], rfl⟩
        · refine lv_iload hx hb dX5_planOneMore_90 (lv_at hl 4 rfl) ?_
          refine lv_goto (tgt := 96) hx hb dX5_planOneMore_92 (by decide) ?_
          refine m_iret hF hr hlk hQ rfl hO hS dX5_planOneMore_96 ?_
          have e9 : kk = 0 := by
            cases kk with
            | zero => rfl
            | succ k1 => exact absurd (nI_lt (a := k1 + 1) (b := 1) |> fun _ => c42) (nI_nlt (a := k1 + 1) (b := 1) (by omega) (by omega))
          subst e9
          rw [← hv]
          exact ⟨by rw [planL, if_pos (show f9 (c9 + 1) ≤ s9 from Int32.not_lt.mp c87)]; exact nI_1 c9, rfl⟩
      · obtain ⟨k1, rfl⟩ : ∃ k1, kk = k1 + 1 := by
          cases kk with
          | zero => exact absurd (by decide) c42
          | succ k1 => exact ⟨k1, rfl⟩
        refine lv_aload_n hx hb dX5_planOneMore_45 rfl (lv_at hl 0 rfl) ?_
        refine m_get inX5 hF hC hO rfl rfl 5 (by decide) q_116 (v := .ref (ad 9)) rfl dX5_planOneMore_46 ?_
        refine lv_iload hx hb dX5_planOneMore_49 (lv_at hl 5 rfl) ?_
        refine lv_aload_n hx hb dX5_planOneMore_51 rfl (lv_at hl 0 rfl) ?_
        refine m_get inX5 hF hC hO rfl rfl 5 (by decide) q_116 (v := .ref (ad 9)) rfl dX5_planOneMore_52 ?_
        refine lv_iload hx hb dX5_planOneMore_55 (lv_at hl 5 rfl) ?_
        refine m_iald hF hC hO rfl (j := (k1 + 1)) (nI_clamp (by omega)) (vp_in_nI (by omega) (by decide)) dX5_planOneMore_57 ?_
        refine lv_aload_n hx hb dX5_planOneMore_58 rfl (lv_at hl 0 rfl) ?_
        refine m_get inX5 hF hC hO rfl rfl 5 (by decide) q_116 (v := .ref (ad 9)) rfl dX5_planOneMore_59 ?_
        refine lv_iload hx hb dX5_planOneMore_62 (lv_at hl 5 rfl) ?_
        refine lv_iconst (v := 1) hx hb dX5_planOneMore_64 (by decide) ?_
        refine lv_isub hx hb dX5_planOneMore_65 ?_
        refine m_iald hF hC hO rfl (j := k1) (by rw [nI_pred]; exact nI_clamp (by omega)) (by rw [nI_pred]; exact vp_in_nI (by omega) (by decide)) dX5_planOneMore_66 ?_
        refine lv_iload_n hx hb dX5_planOneMore_67 rfl (lv_at hl 2 rfl) ?_
        refine lv_iadd hx hb dX5_planOneMore_68 ?_
        refine m_min hF hl.1 q_464 q_246 q_14 q_247 (Nat.le_of_ble_eq_true rfl) (Nat.le_of_ble_eq_true rfl) ⟨Nat.le_of_ble_eq_true rfl, Nat.le_of_ble_eq_true rfl⟩ dX5_planOneMore_69 ?_
        refine m_iast hF hC hO hS rfl (j := (k1 + 1)) (nI_clamp (by omega)) (vp_in_nI (by omega) (by decide)) dX5_planOneMore_72 (fun H locs hO hS => ?_)
        have hO : mO G lo ad (mU (WC G ad g nf F f no O tf tv f9 R) 9 (.inl (G.2 0, 21, .inl (upd f9 (k1 + 1) (jmin (f9 (k1 + 1)) ((f9 k1) + v9)))))) H := hO
        rw [WC_w9] at hO
        refine lv_iinc (v := (nI k1)) (lv' := [(5, .int (nI k1)), (0, .ref (ad 0)), (1, .int (nI c9)), (2, .int v9), (3, .int s9), (4, .int ((nI c9) + 1))]) hx hb dX5_planOneMore_73 hl (k := 5) rfl ((nI_dec (k1 + 1)).trans (nI_pred k1)) (by decide) rfl (fun ls hl => ?_)
        refine lv_goto (tgt := 39) hx hb dX5_planOneMore_76 (by decide) ?_
        exact ih39 k1 (upd f9 (k1 + 1) (jmin (f9 (k1 + 1)) ((f9 k1) + v9))) _ _ _ (by omega) (by omega) (by rw [← hv]; rfl) (lv_sub hl [1, 2, 3, 4, 5, 0] rfl) hO hS
  exact L39 _ c9 (upd fw (c9 + 1) ((fw c9) + v9)) _ _ _ (Nat.lt_succ_self _) (Nat.le_refl _) rfl (lv_sub hl [2, 3, 4, 5, 1, 0] rfl) hO hS
theorem ok_X5_possibleOfKind : mOK RX5 yX5_possibleOfKind cX5_possibleOfKind 9 (some .int) 1 := ⟨q_449, qs_14, q_1, q_450, by decide +kernel⟩
set_option maxHeartbeats 400000 in
set_option maxRecDepth 100000 in
theorem k_X5_possibleOfKind (l : Launch) (G : mG) (lo : Nat) (sa : mSc) (ad : Nat → Nat) (R : mM) (g : Nat → Int32) (nf : Nat) (F : Nat → Nat → Int32) (f : Nat → Int32) (no : Nat) (O : Nat → Nat → Int32) (tf tv fw : Nat → Int32) (k : Nat) (hnf : nf ≤ 12) (hno : no ≤ 20) (hk4 : k < 4) (hfw : fw 0 = 0) (hOk : ∀ j, j < no → ∃ kk zz mm : Nat, kk < 4 ∧ 1 ≤ zz ∧ zz ≤ 9 ∧ 1 ≤ mm ∧ mm ≤ 60 ∧ O j 0 = nI kk ∧ O j 1 = nI zz ∧ O j 2 = nI mm) (hfS : okS f) : mI l yX5_possibleOfKind cX5_possibleOfKind 9 .int 4 89 G lo sa ad (WC G ad g nf F f no O tf tv fw R) [.ref (ad 0), .int (nI k)] (fun v R' => v = nI (dCz O f no k 9 []).length ∧ ∃ (fw' : Nat → Int32), fw' 0 = 0 ∧ R' = (WC G ad g nf F f no O tf tv fw' R)) := by
  refine mI_of (by decide) (Nat.le_of_ble_eq_true rfl) ?_
  intro p e s m args below meth c hF hr hlk hC ls hl hO hS Q hQ
  have hx := hF.1
  have hb := hF.2.1
  have hl : lv_has ls 9 [(0, .ref (ad 0)), (1, .int (nI k))] := hl
  refine lv_iconst (v := 0) hx hb dX5_possibleOfKind_0 (by decide) ?_
  refine lv_istore_n (lv' := [(2, .int 0), (0, .ref (ad 0)), (1, .int (nI k))]) hx hb dX5_possibleOfKind_1 rfl hl (by decide) rfl (fun ls hl => ?_)
  refine lv_bipush (v := 9) hx hb dX5_possibleOfKind_2 (by decide) ?_
  refine lv_istore_n (lv' := [(3, .int 9), (2, .int 0), (0, .ref (ad 0)), (1, .int (nI k))]) hx hb dX5_possibleOfKind_4 rfl hl (by decide) rfl (fun ls hl => ?_)
  have L5 : ∀ (n : Nat) (z : Nat) (Dz : List Nat) (fz : Nat → Int32) (H : Heap) (locs : List Loc) (ls : Array Slot), z < n → z ≤ 9 → dCz O f no k z Dz = dCz O f no k 9 [] → ldesc Dz → lTab fz Dz → (∀ y ∈ Dz, y ≤ 60) → Dz.length ≤ cntP no (fun j => decide (z < nn (O j 1))) → lv_has ls 9 [(0, .ref (ad 0)), (1, .int (nI k)), (3, .int (nI z)), (2, .int (nI Dz.length))] → mO G lo ad (WC G ad g nf F f no O tf tv fz R) H → va_S (mA lo) s.heap H locs → W p l e (mRm 4 89) s m args below meth c H locs 0 0 Q (F0 m 5 ls []) := by
    intro n
    induction n with
    | zero => intro z Dz fz H locs ls hn; exact absurd hn (Nat.not_lt_zero _)
    | succ n ih5 =>
      intro z Dz fz H locs ls hn5 hz9 hvz hDz hTz hmz hcz hl hO hS
      refine lv_iload_n hx hb dX5_possibleOfKind_5 rfl (lv_at hl 2 rfl) ?_
      refine lv_iconst (v := 1) hx hb dX5_possibleOfKind_6 (by decide) ?_
      refine lv_icmp_lt (tgt := 89) hx hb dX5_possibleOfKind_7 (by decide) (fun c7 => ?_) (fun c7 => ?_)
      · refine lv_iload_n hx hb dX5_possibleOfKind_89 rfl (lv_at hl 3 rfl) ?_
        refine m_iret hF hr hlk hQ rfl hO hS dX5_possibleOfKind_90 ?_
        have e9 : z = 0 := by
          cases z with
          | zero => rfl
          | succ z1 => exact absurd c7 (nI_nlt (a := z1 + 1) (b := 1) (by omega) (by omega))
        subst e9
        exact ⟨by rw [← hvz]; rfl, _, lTab_0 hTz, rfl⟩
      · obtain ⟨z1, rfl⟩ : ∃ z1, z = z1 + 1 := by
          cases z with
          | zero => exact absurd (by decide) c7
          | succ z1 => exact ⟨z1, rfl⟩
        have hsN := amount_sN hfS (k := k) (b := z1 + 1) hk4 (by omega) hz9
        have hsB := sN_le hfS (10 - (z1 + 1)) k (z1 + 1) hk4 (by omega) (by omega)
        refine lv_aload_n hx hb dX5_possibleOfKind_10 rfl (lv_at hl 0 rfl) ?_
        refine m_get inX5 hF hC hO rfl rfl 2 (by decide) q_113 (v := .ref (ad 3)) rfl dX5_possibleOfKind_11 ?_
        refine lv_iload_n hx hb dX5_possibleOfKind_14 rfl (lv_at hl 1 rfl) ?_
        refine lv_iload_n hx hb dX5_possibleOfKind_15 rfl (lv_at hl 2 rfl) ?_
        refine m_vI (As := [.int (nI k), .int (nI (z1 + 1))]) (rest := []) (n := 2) hF hC hO hS (k_X2_amountFrom l G lo sa ad _ f k (z1 + 1) rfl rfl hk4 (by omega) hz9) ok_X2_amountFrom q_451 rfl rfl ⟨Nat.le_of_ble_eq_true rfl, Nat.le_of_ble_eq_true rfl⟩ rfl hl.1 rfl (Nat.le_of_ble_eq_true rfl) ⟨Nat.le_of_ble_eq_true rfl, Nat.le_of_ble_eq_true rfl⟩ dX5_possibleOfKind_16 (fun v16 R' H locs hp hO hS => ?_)
        obtain ⟨rfl, hR⟩ := hp
        rw [hR] at hO
        rw [hsN]
        refine lv_istore (lv' := [(4, .int (nI (sN (10 - (z1 + 1)) f k (z1 + 1)))), (0, .ref (ad 0)), (1, .int (nI k)), (3, .int (nI (z1 + 1))), (2, .int (nI Dz.length))]) hx hb dX5_possibleOfKind_19 hl (by decide) rfl (fun ls hl => ?_)
        refine lv_aload_n hx hb dX5_possibleOfKind_21 rfl (lv_at hl 1 rfl) ?_
        refine m_get inX5 hF hC hO rfl rfl 3 (by decide) q_114 (v := .ref (ad 5)) rfl dX5_possibleOfKind_22 ?_
        refine lv_astore (lv' := [(5, .ref (ad 5)), (4, .int (nI (sN (10 - (z1 + 1)) f k (z1 + 1)))), (0, .ref (ad 0)), (1, .int (nI k)), (3, .int (nI (z1 + 1))), (2, .int (nI Dz.length))]) hx hb dX5_possibleOfKind_25 hl (by decide) rfl (fun ls hl => ?_)
        refine lv_aload hx hb dX5_possibleOfKind_27 (lv_at hl 0 rfl) ?_
        refine m_alen 4 hF hC hO rfl rfl (v := 20) rfl dX5_possibleOfKind_29 ?_
        refine lv_istore (lv' := [(6, .int 20), (5, .ref (ad 5)), (4, .int (nI (sN (10 - (z1 + 1)) f k (z1 + 1)))), (0, .ref (ad 0)), (1, .int (nI k)), (3, .int (nI (z1 + 1))), (2, .int (nI Dz.length))]) hx hb dX5_possibleOfKind_30 hl (by decide) rfl (fun ls hl => ?_)
        refine lv_iconst (v := 0) hx hb dX5_possibleOfKind_32 (by decide) ?_
        refine lv_istore (lv' := [(7, .int 0), (6, .int 20), (5, .ref (ad 5)), (4, .int (nI (sN (10 - (z1 + 1)) f k (z1 + 1)))), (0, .ref (ad 0)), (1, .int (nI k)), (3, .int (nI (z1 + 1))), (2, .int (nI Dz.length))]) hx hb dX5_possibleOfKind_33 hl (by decide) rfl (fun ls hl => ?_)
        have L35 : ∀ (n : Nat) (i : Nat) (Dd : List Nat) (f9 : Nat → Int32) (H : Heap) (locs : List Loc) (ls : Array Slot), 20 - i < n → i ≤ 20 → dC O k (z1 + 1) (sN (10 - (z1 + 1)) f k (z1 + 1)) (no - i) i Dd = dC O k (z1 + 1) (sN (10 - (z1 + 1)) f k (z1 + 1)) no 0 Dz → ldesc Dd → lTab f9 Dd → (∀ y ∈ Dd, y ≤ 60) → Dd.length ≤ cntP no (fun j => decide (z1 + 1 < nn (O j 1) ∨ (nn (O j 1) = z1 + 1 ∧ j < i))) → lv_has ls 9 [(0, .ref (ad 0)), (1, .int (nI k)), (3, .int (nI (z1 + 1))), (4, .int (nI (sN (10 - (z1 + 1)) f k (z1 + 1)))), (5, .ref (ad 5)), (6, .int 20), (7, .int (nI i)), (2, .int (nI Dd.length))] → mO G lo ad (WC G ad g nf F f no O tf tv f9 R) H → va_S (mA lo) s.heap H locs → W p l e (mRm 4 89) s m args below meth c H locs 0 0 Q (F0 m 35 ls []) := by
          intro n
          induction n with
          | zero => intro i Dd f9 H locs ls hn; exact absurd hn (Nat.not_lt_zero _)
          | succ n ih35 =>
            intro i Dd f9 H locs ls hn35 hi hv hD hT hm60 hcn hl hO hS
            refine lv_iload hx hb dX5_possibleOfKind_35 (lv_at hl 6 rfl) ?_
            refine lv_iload hx hb dX5_possibleOfKind_37 (lv_at hl 5 rfl) ?_
            refine lv_icmp_ge (tgt := 83) hx hb dX5_possibleOfKind_39 (by decide) (fun c39 => ?_) (fun c39 => ?_)
            · refine lv_iinc (v := (nI z1)) (lv' := [(3, .int (nI z1)), (0, .ref (ad 0)), (1, .int (nI k)), (4, .int (nI (sN (10 - (z1 + 1)) f k (z1 + 1)))), (5, .ref (ad 5)), (6, .int 20), (7, .int (nI i)), (2, .int (nI Dd.length))]) hx hb dX5_possibleOfKind_83 hl (k := 2) rfl ((nI_dec (z1 + 1)).trans (nI_pred z1)) (by decide) rfl (fun ls hl => ?_)
              refine lv_goto (tgt := 5) hx hb dX5_possibleOfKind_86 (by decide) ?_
              have e9 : i = 20 := Nat.le_antisymm hi (nI_E (a := 20) (b := i) (by decide) (by omega) c39)
              rw [show no - i = 0 from by omega] at hv
              exact ih5 z1 Dd f9 _ _ _ (by omega) (by omega) (by rw [← hvz, dCz, ← hv]; rfl) hD hT hm60 (Nat.le_trans hcn (cntP_mono no (fun j _ hj => by simp only [decide_eq_true_eq] at hj ⊢; omega))) (lv_sub hl [1, 2, 0, 7] rfl) hO hS
            · refine lv_aload hx hb dX5_possibleOfKind_42 (lv_at hl 4 rfl) ?_
              refine lv_iload hx hb dX5_possibleOfKind_44 (lv_at hl 6 rfl) ?_
              rcases Nat.lt_or_ge i no with hin | hout
              · refine m_aldO hF hC hO rfl (j := i) (nI_clamp (by omega)) (vp_in_nI (nI_nE (a := 20) (b := i) (by decide) (by omega) c39) (by decide)) dX5_possibleOfKind_46 (v := .ref (ad (120 + i))) (adF_in hin) ?_
                refine lv_astore (lv' := [(8, .ref (ad (120 + i))), (0, .ref (ad 0)), (1, .int (nI k)), (3, .int (nI (z1 + 1))), (4, .int (nI (sN (10 - (z1 + 1)) f k (z1 + 1)))), (5, .ref (ad 5)), (6, .int 20), (7, .int (nI i)), (2, .int (nI Dd.length))]) hx hb dX5_possibleOfKind_47 hl (by decide) rfl (fun ls hl => ?_)
                refine lv_aload hx hb dX5_possibleOfKind_49 (lv_at hl 0 rfl) ?_
                refine lv_ifnull hx hb dX5_possibleOfKind_51 ?_
                refine lv_aload hx hb dX5_possibleOfKind_54 (lv_at hl 0 rfl) ?_
                refine lv_iload_n hx hb dX5_possibleOfKind_56 rfl (lv_at hl 2 rfl) ?_
                refine lv_iload_n hx hb dX5_possibleOfKind_57 rfl (lv_at hl 3 rfl) ?_
                refine m_vI (As := [.int (nI k), .int (nI (z1 + 1))]) (rest := []) (n := 2) hF hC hO hS (k_X1_isOpenFor l G lo sa ad _ (120 + i) (O i) (nI k) (nI (z1 + 1)) (WC_O (i := i) (by assumption) hno)) ok_X1_isOpenFor q_456 (WC_O (i := i) (by assumption) hno) rfl ⟨Nat.le_of_ble_eq_true rfl, Nat.le_of_ble_eq_true rfl⟩ rfl hl.1 rfl (Nat.le_of_ble_eq_true rfl) ⟨Nat.le_of_ble_eq_true rfl, Nat.le_of_ble_eq_true rfl⟩ dX5_possibleOfKind_58 (fun v58 R' H locs hp hO hS => ?_)
                obtain ⟨⟨rfl, b58⟩ | ⟨rfl, b58⟩, hR⟩ := hp
                · rw [hR] at hO
                  refine lv_if_eq (tgt := 77) hx hb dX5_possibleOfKind_61 (by decide) (fun c61 => absurd c61 (by decide)) (fun c61 => ?_)
                  refine lv_aload_n hx hb dX5_possibleOfKind_64 rfl (lv_at hl 1 rfl) ?_
                  refine lv_iload_n hx hb dX5_possibleOfKind_65 rfl (lv_at hl 8 rfl) ?_
                  refine lv_aload hx hb dX5_possibleOfKind_66 (lv_at hl 0 rfl) ?_
                  refine m_get inX1 hF hC hO (WC_O (i := i) (by assumption) hno) rfl 2 (by decide) q_643 (v := .int ((O i) 2)) rfl dX5_possibleOfKind_68 ?_
                  refine lv_iload hx hb dX5_possibleOfKind_71 (lv_at hl 4 rfl) ?_
                  obtain ⟨kk, zz, mm, hkk, hzz1, hzz9, hmm1, hmm60, hw0, hw1, hw2⟩ := hOk i (by assumption)
                  rw [hw2]
                  have hzi : zz = z1 + 1 := (nI_eq (by omega) (by omega)).mp (hw1.symm.trans b58.2.2)
                  have hsz : nn (O i 1) = z1 + 1 := by rw [hw1, hzi]; exact nn_nI (by omega)
                  have hlt9 : Dd.length < 20 := Nat.lt_of_lt_of_le (Nat.lt_of_le_of_lt hcn (cntP_lt no _ i (by assumption) (by simp [hsz]))) hno
                  have hsum := lsum_le hm60
                  have hvm : nn (O i 2) = mm := by rw [hw2]; exact nn_nI (by omega)
                  refine m_vI (As := [.int (nI Dd.length), .int (nI mm), .int (nI (sN (10 - (z1 + 1)) f k (z1 + 1)))]) (rest := []) (n := 3) hF hC hO hS (k_X5_planOneMore l G lo sa ad R g nf F f no O tf tv f9 Dd.length (nI mm) (nI (sN (10 - (z1 + 1)) f k (z1 + 1))) hnf hno hlt9) ok_X5_planOneMore q_460 rfl rfl ⟨Nat.le_of_ble_eq_true rfl, Nat.le_of_ble_eq_true rfl⟩ rfl hl.1 rfl (Nat.le_of_ble_eq_true rfl) ⟨Nat.le_of_ble_eq_true rfl, Nat.le_of_ble_eq_true rfl⟩ dX5_possibleOfKind_73 (fun v73 R' H locs hp hO hS => ?_)
                  obtain ⟨rfl, hR⟩ := hp
                  rw [hR] at hO
                  refine lv_istore_n (lv' := [(2, .int (if p_planF Dd.length f9 (nI mm) (Dd.length + 1) ≤ (nI (sN (10 - (z1 + 1)) f k (z1 + 1))) then nI (Dd.length + 1) else nI Dd.length)), (8, .ref (ad (120 + i))), (0, .ref (ad 0)), (1, .int (nI k)), (3, .int (nI (z1 + 1))), (4, .int (nI (sN (10 - (z1 + 1)) f k (z1 + 1)))), (5, .ref (ad 5)), (6, .int 20), (7, .int (nI i))]) hx hb dX5_possibleOfKind_76 rfl hl (by decide) rfl (fun ls hl => ?_)
                  refine lv_iinc (v := (nI (i + 1))) (lv' := [(7, .int (nI (i + 1))), (2, .int (if p_planF Dd.length f9 (nI mm) (Dd.length + 1) ≤ (nI (sN (10 - (z1 + 1)) f k (z1 + 1))) then nI (Dd.length + 1) else nI Dd.length)), (8, .ref (ad (120 + i))), (0, .ref (ad 0)), (1, .int (nI k)), (3, .int (nI (z1 + 1))), (4, .int (nI (sN (10 - (z1 + 1)) f k (z1 + 1)))), (5, .ref (ad 5)), (6, .int 20)]) hx hb dX5_possibleOfKind_77 hl (k := 8) rfl (nI_inc i) (by decide) rfl (fun ls hl => ?_)
                  refine lv_goto (tgt := 35) hx hb dX5_possibleOfKind_80 (by decide) ?_
                  rw [← len_step (v := mm) (by omega) (by omega) hT] at hl
                  have hne9 : ∀ j, j < no → j ≠ i → (decide (z1 + 1 < nn (O j 1) ∨ (nn (O j 1) = z1 + 1 ∧ j < i))) = (decide (z1 + 1 < nn (O j 1) ∨ (nn (O j 1) = z1 + 1 ∧ j < i + 1))) := fun j _ hj => by apply decide_eq_decide.mpr; omega
                  have hca := cntP_add no _ (fun j => decide (z1 + 1 < nn (O j 1) ∨ (nn (O j 1) = z1 + 1 ∧ j < i + 1))) i (by assumption) (by simp [hsz]) (by simp [hsz]) hne9
                  exact ih35 (i + 1) (lstep (sN (10 - (z1 + 1)) f k (z1 + 1)) mm Dd) (p_planF Dd.length f9 (nI mm)) _ _ _ (by have := (nI_nE (a := 20) (b := i) (by decide) (by omega) c39); omega) (by have := (nI_nE (a := 20) (b := i) (by decide) (by omega) c39); omega) (by rw [← hv, show no - i = (no - (i + 1)) + 1 from by omega, dC, if_pos (show O i 4 = 0 ∧ O i 0 = nI k ∧ O i 1 = nI (z1 + 1) from b58), hvm]) (desc_step hD) (lTab_step (by omega) hD hT) (fun y hy => (mem_step hy).elim (fun h => by omega) (fun h => hm60 y h)) (by have := len_step_le (sN (10 - (z1 + 1)) f k (z1 + 1)) mm Dd; omega) (lv_sub hl [3, 4, 5, 6, 7, 8, 0, 1] rfl) hO hS
                · rw [hR] at hO
                  refine lv_if_eq (tgt := 77) hx hb dX5_possibleOfKind_61 (by decide) (fun c61 => ?_) (fun c61 => absurd (by decide) c61)
                  refine lv_iinc (v := (nI (i + 1))) (lv' := [(7, .int (nI (i + 1))), (8, .ref (ad (120 + i))), (0, .ref (ad 0)), (1, .int (nI k)), (3, .int (nI (z1 + 1))), (4, .int (nI (sN (10 - (z1 + 1)) f k (z1 + 1)))), (5, .ref (ad 5)), (6, .int 20), (2, .int (nI Dd.length))]) hx hb dX5_possibleOfKind_77 hl (k := 7) rfl (nI_inc i) (by decide) rfl (fun ls hl => ?_)
                  refine lv_goto (tgt := 35) hx hb dX5_possibleOfKind_80 (by decide) ?_
                  exact ih35 (i + 1) Dd f9 _ _ _ (by have := (nI_nE (a := 20) (b := i) (by decide) (by omega) c39); omega) (by have := (nI_nE (a := 20) (b := i) (by decide) (by omega) c39); omega) (by rw [← hv, show no - i = (no - (i + 1)) + 1 from by omega, dC, if_neg (show ¬ (O i 4 = 0 ∧ O i 0 = nI k ∧ O i 1 = nI (z1 + 1)) from b58)]) hD hT hm60 (Nat.le_trans hcn (cntP_mono no (fun j _ hj => by simp only [decide_eq_true_eq] at hj ⊢; omega))) (lv_sub hl [2, 3, 4, 5, 6, 7, 0, 8] rfl) hO hS
              · refine m_aldO hF hC hO rfl (j := i) (nI_clamp (by omega)) (vp_in_nI (nI_nE (a := 20) (b := i) (by decide) (by omega) c39) (by decide)) dX5_possibleOfKind_46 (v := .null) (adF_out hout) ?_
                refine lv_astoreN (lv' := [(8, .null), (0, .ref (ad 0)), (1, .int (nI k)), (3, .int (nI (z1 + 1))), (4, .int (nI (sN (10 - (z1 + 1)) f k (z1 + 1)))), (5, .ref (ad 5)), (6, .int 20), (7, .int (nI i)), (2, .int (nI Dd.length))]) hx hb dX5_possibleOfKind_47 hl (by decide) rfl (fun ls hl => ?_)
                refine lv_aloadN hx hb dX5_possibleOfKind_49 (lv_at hl 0 rfl) ?_
                refine lv_ifnullN (tgt := 77) hx hb dX5_possibleOfKind_51 (by decide) ?_
                refine lv_iinc (v := (nI (i + 1))) (lv' := [(7, .int (nI (i + 1))), (8, .null), (0, .ref (ad 0)), (1, .int (nI k)), (3, .int (nI (z1 + 1))), (4, .int (nI (sN (10 - (z1 + 1)) f k (z1 + 1)))), (5, .ref (ad 5)), (6, .int 20), (2, .int (nI Dd.length))]) hx hb dX5_possibleOfKind_77 hl (k := 7) rfl (nI_inc i) (by decide) rfl (fun ls hl => ?_)
                refine lv_goto (tgt := 35) hx hb dX5_possibleOfKind_80 (by decide) ?_
                exact ih35 (i + 1) Dd f9 _ _ _ (by have := (nI_nE (a := 20) (b := i) (by decide) (by omega) c39); omega) (by have := (nI_nE (a := 20) (b := i) (by decide) (by omega) c39); omega) (by rw [← hv, show no - (i + 1) = 0 from by omega, show no - i = 0 from by omega]; rfl) hD hT hm60 (Nat.le_trans hcn (cntP_mono no (fun j _ hj => by simp only [decide_eq_true_eq] at hj ⊢; omega))) (lv_sub hl [2, 3, 4, 5, 6, 7, 0, 8] rfl) hO hS
        exact L35 _ 0 Dz fz _ _ _ (Nat.lt_succ_self _) (by omega) rfl hDz hTz hmz (Nat.le_trans hcz (cntP_mono no (fun j _ hj => by simp only [decide_eq_true_eq] at hj ⊢; omega))) (lv_sub hl [4, 5, 6, 3, 2, 1, 0, 7] rfl) hO hS
  exact L5 _ 9 ([]) fw _ _ _ (Nat.lt_succ_self _) (by omega) rfl trivial hfw (fun y hy => nomatch hy) (Nat.zero_le _) (lv_sub hl [2, 3, 0, 1] rfl) hO hS
theorem ok_X5_possible : mOK RX5 yX5_possible cX5_possible 3 (some .int) 0 := ⟨q_444, q_445, q_1, q_446, by decide +kernel⟩
set_option maxHeartbeats 400000 in
set_option maxRecDepth 100000 in
theorem k_X5_possible (l : Launch) (G : mG) (lo : Nat) (sa : mSc) (ad : Nat → Nat) (R : mM) (g : Nat → Int32) (nf : Nat) (F : Nat → Nat → Int32) (f : Nat → Int32) (no : Nat) (O : Nat → Nat → Int32) (tf tv fw : Nat → Int32) (hnf : nf ≤ 12) (hno : no ≤ 20) (hfw : fw 0 = 0) (hOk : ∀ j, j < no → ∃ kk zz mm : Nat, kk < 4 ∧ 1 ≤ zz ∧ zz ≤ 9 ∧ 1 ≤ mm ∧ mm ≤ 60 ∧ O j 0 = nI kk ∧ O j 1 = nI zz ∧ O j 2 = nI mm) (hfS : okS f) : mI l yX5_possible cX5_possible 3 .int 5 117 G lo sa ad (WC G ad g nf F f no O tf tv fw R) [.ref (ad 0)] (fun v R' => v = dSum (fun k => (dCz O f no k 9 []).length) 4 0 0 ∧ ∃ (fw' : Nat → Int32), fw' 0 = 0 ∧ R' = (WC G ad g nf F f no O tf tv fw' R)) := by
  refine mI_of (by decide) (Nat.le_of_ble_eq_true rfl) ?_
  intro p e s m args below meth c hF hr hlk hC ls hl hO hS Q hQ
  have hx := hF.1
  have hb := hF.2.1
  have hl : lv_has ls 3 [(0, .ref (ad 0))] := hl
  refine lv_iconst (v := 0) hx hb dX5_possible_0 (by decide) ?_
  refine lv_istore_n (lv' := [(1, .int 0), (0, .ref (ad 0))]) hx hb dX5_possible_1 rfl hl (by decide) rfl (fun ls hl => ?_)
  refine lv_iconst (v := 0) hx hb dX5_possible_2 (by decide) ?_
  refine lv_istore_n (lv' := [(2, .int 0), (1, .int 0), (0, .ref (ad 0))]) hx hb dX5_possible_3 rfl hl (by decide) rfl (fun ls hl => ?_)
  have L4 : ∀ (n : Nat) (k : Nat) (acc : Int32) (f9 : Nat → Int32) (H : Heap) (locs : List Loc) (ls : Array Slot), 4 - k < n → k ≤ 4 → dSum (fun k => (dCz O f no k 9 []).length) (4 - k) k acc = dSum (fun k => (dCz O f no k 9 []).length) 4 0 0 → f9 0 = 0 → lv_has ls 3 [(0, .ref (ad 0)), (2, .int (nI k)), (1, .int acc)] → mO G lo ad (WC G ad g nf F f no O tf tv f9 R) H → va_S (mA lo) s.heap H locs → W p l e (mRm 5 117) s m args below meth c H locs 0 0 Q (F0 m 4 ls []) := by
    intro n
    induction n with
    | zero => intro k acc f9 H locs ls hn; exact absurd hn (Nat.not_lt_zero _)
    | succ n ih4 =>
      intro k acc f9 H locs ls hn4 hk hv hf9 hl hO hS
      refine lv_iload_n hx hb dX5_possible_4 rfl (lv_at hl 1 rfl) ?_
      refine lv_iconst (v := 4) hx hb dX5_possible_5 (by decide) ?_
      refine lv_icmp_ge (tgt := 23) hx hb dX5_possible_6 (by decide) (fun c6 => ?_) (fun c6 => ?_)
      · refine lv_iload_n hx hb dX5_possible_23 rfl (lv_at hl 2 rfl) ?_
        refine m_iret hF hr hlk hQ rfl hO hS dX5_possible_24 ?_
        have e9 : k = 4 := Nat.le_antisymm hk (nI_E (a := 4) (b := k) (by decide) (by omega) c6)
        subst e9
        exact ⟨hv, _, hf9, rfl⟩
      · refine lv_iload_n hx hb dX5_possible_9 rfl (lv_at hl 2 rfl) ?_
        refine lv_aload_n hx hb dX5_possible_10 rfl (lv_at hl 0 rfl) ?_
        refine lv_iload_n hx hb dX5_possible_11 rfl (lv_at hl 1 rfl) ?_
        refine m_vI (As := [.int (nI k)]) (rest := [.int acc]) (n := 1) hF hC hO hS (k_X5_possibleOfKind l G lo sa ad R g nf F f no O tf tv f9 k hnf hno (by have := (nI_nE (a := 4) (b := k) (by decide) (by omega) c6); omega) hf9 hOk hfS) ok_X5_possibleOfKind q_447 rfl rfl ⟨Nat.le_of_ble_eq_true rfl, Nat.le_of_ble_eq_true rfl⟩ rfl hl.1 rfl (Nat.le_of_ble_eq_true rfl) ⟨Nat.le_of_ble_eq_true rfl, Nat.le_of_ble_eq_true rfl⟩ dX5_possible_12 (fun v12 R' H locs hp hO hS => ?_)
        obtain ⟨rfl, fw_12, hx12, hR⟩ := hp
        rw [hR] at hO
        refine lv_iadd hx hb dX5_possible_15 ?_
        refine lv_istore_n (lv' := [(1, .int (acc + (nI (dCz O f no k 9 []).length))), (0, .ref (ad 0)), (2, .int (nI k))]) hx hb dX5_possible_16 rfl hl (by decide) rfl (fun ls hl => ?_)
        refine lv_iinc (v := (nI (k + 1))) (lv' := [(2, .int (nI (k + 1))), (1, .int (acc + (nI (dCz O f no k 9 []).length))), (0, .ref (ad 0))]) hx hb dX5_possible_17 hl (k := 2) rfl (nI_inc k) (by decide) rfl (fun ls hl => ?_)
        refine lv_goto (tgt := 4) hx hb dX5_possible_20 (by decide) ?_
        exact ih4 (k + 1) (acc + (nI (dCz O f no k 9 []).length)) fw_12 _ _ _ (by have := (nI_nE (a := 4) (b := k) (by decide) (by omega) c6); omega) (by have := (nI_nE (a := 4) (b := k) (by decide) (by omega) c6); omega) (by have := (nI_nE (a := 4) (b := k) (by decide) (by omega) c6); rw [← hv, show 4 - k = (4 - (k + 1)) + 1 from by omega]; rfl) hx12 (lv_sub hl [2, 0, 1] rfl) hO hS
  exact L4 _ 0 0 fw _ _ _ (Nat.lt_succ_self _) (by omega) rfl hfw (lv_sub hl [2, 0, 1] rfl) hO hS
