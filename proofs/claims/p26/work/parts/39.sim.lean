def s_rows : Nat → (Nat → Int32) → Nat → Int32 → Int32
  | 0, _, _, acc => acc
  | n + 1, f, k, acc => s_rows n f (k + 1) (p_sum 10 (rowF f k) 0 acc)
theorem sumR4 {f : Nat → Int32} : s_rows (4 - 0) f 0 0 = p_sum 36 f 0 0 := sumR
theorem ok_L_below : mOS yL_below cL_below 2 (some .int) 2 := ⟨q_480, q_0, q_481, by decide +kernel⟩
set_option maxHeartbeats 400000 in
set_option maxRecDepth 100000 in
theorem k_L_below (l : Launch) (G : mG) (lo : Nat) (sa : mSc) (ad : Nat → Nat) (R : mM) (x : Int32) (n : Nat) (h0 : 0 < n) (hn : n < 2 ^ 31) : mI l yL_below cL_below 2 .int 0 0 G lo sa ad R [.int x, .int (nI n)] (fun v R' => (∃ k9 : Nat, k9 < n ∧ v = nI k9) ∧ R' = R) := by
  refine mI_of (by decide) (Nat.le_of_ble_eq_true rfl) ?_
  intro p e s m args below meth c hF hr hlk hC ls hl hO hS Q hQ
  have hx := hF.1
  have hb := hF.2.1
  have hl : lv_has ls 2 [(0, .int x), (1, .int (nI n))] := hl
  refine lv_iload_n hx hb dL_below_0 rfl (lv_at hl 0 rfl) ?_
  refine lv_ldc hx hb hF.2.2.2.1 (hF.2.2.2.2 _ q_482) dL_below_1 ?_
  refine lv_iand hx hb dL_below_3 ?_
  refine lv_iload_n hx hb dL_below_4 rfl (lv_at hl 1 rfl) ?_
  refine lv_irem hx hb dL_below_5 (nI_ne0 h0 hn) ?_
  refine m_iret hF hr hlk hQ rfl hO hS dL_below_6 ?_
  exact ⟨b_mod h0 hn, rfl⟩
theorem ok_L_cell : mOS yL_cell cL_cell 2 (some .int) 2 := ⟨q_484, q_0, q_485, by decide +kernel⟩
set_option maxHeartbeats 400000 in
set_option maxRecDepth 100000 in
theorem k_L_cell (l : Launch) (G : mG) (lo : Nat) (sa : mSc) (ad : Nat → Nat) (R : mM) (k : Nat) (hk : k < 2 ^ 31) : mI l yL_cell cL_cell 2 .int 0 0 G lo sa ad R [.ref sa.1, .int (nI k)] (fun v R' => True ∧ R' = R) := by
  refine mI_of (by decide) (Nat.le_of_ble_eq_true rfl) ?_
  intro p e s m args below meth c hF hr hlk hC ls hl hO hS Q hQ
  have hx := hF.1
  have hb := hF.2.1
  have hl : lv_has ls 2 [(0, .ref sa.1), (1, .int (nI k))] := hl
  have hbl9 : sa.1 < s.heap.size := Nat.lt_of_lt_of_le hC.2.1.1 hC.2.2.2.2.2.2.1
  have hbA9 : ¬ mA lo sa.1 := Nat.not_le.mpr hC.2.1.1
  refine lv_iload_n hx hb dL_cell_0 rfl (lv_at hl 1 rfl) ?_
  refine lv_aload_n hx hb dL_cell_1 rfl (lv_at hl 0 rfl) ?_
  refine va_slen (A := mA lo) hx hb hC.2.1.2.2 hbl9 hbA9 hS dL_cell_2 ?_
  refine lv_icmp_ge (tgt := 12) hx hb dL_cell_3 (by decide) (fun c3 => ?_) (fun c3 => ?_)
  · refine lv_ldc hx hb hF.2.2.2.1 (hF.2.2.2.2 _ q_486) dL_cell_12 ?_
    refine lv_iload_n hx hb dL_cell_14 rfl (lv_at hl 1 rfl) ?_
    refine lv_iconst (v := 3) hx hb dL_cell_15 (by decide) ?_
    refine lv_iadd hx hb dL_cell_16 ?_
    refine lv_imul hx hb dL_cell_17 ?_
    refine m_iret hF hr hlk hQ rfl hO hS dL_cell_18 ?_
    exact ⟨trivial, rfl⟩
  · refine lv_aload_n hx hb dL_cell_6 rfl (lv_at hl 0 rfl) ?_
    refine lv_iload_n hx hb dL_cell_7 rfl (lv_at hl 1 rfl) ?_
    refine va_sld (A := mA lo) (i := nI k) hx hb hC.2.1.2.2 hbl9 hbA9 hS (vp_in_nI (nI_nE (a := sa.2.1) (b := k) (by have := hC.2.1.2.1; omega) (by omega) c3) (by have := hC.2.1.2.1; omega)) dL_cell_8 ?_
    generalize sa.2.2 (nI k).toNatClampNeg = x8
    refine lv_goto (tgt := 18) hx hb dL_cell_9 (by decide) ?_
    refine m_iret hF hr hlk hQ rfl hO hS dL_cell_18 ?_
    exact ⟨trivial, rfl⟩
theorem ok_X6_size : mOK RX6 yX6_size cX6_size 1 (some .int) 0 := ⟨q_617, q_618, q_12, q_619, by decide +kernel⟩
set_option maxHeartbeats 400000 in
set_option maxRecDepth 100000 in
theorem k_X6_size (l : Launch) (G : mG) (lo : Nat) (sa : mSc) (ad : Nat → Nat) (R : mM) (r : Nat) (φ : Nat → Int32) (h0 : R r = some (lfO φ)) : mI l yX6_size cX6_size 1 .int 1 21 G lo sa ad R [.ref (ad r)] (fun v R' => v = (p_size φ) ∧ R' = R) := by
  refine mI_of (by decide) (Nat.le_of_ble_eq_true rfl) ?_
  intro p e s m args below meth c hF hr hlk hC ls hl hO hS Q hQ
  have hx := hF.1
  have hb := hF.2.1
  have hl : lv_has ls 1 [(0, .ref (ad r))] := hl
  have hO : mO G lo ad (mU R r (lfO φ)) s.heap := by
    rw [mU_id h0]
    exact hO
  refine lv_bipush (v := 9) hx hb dX6_size_0 (by decide) ?_
  refine lv_aload_n hx hb dX6_size_2 rfl (lv_at hl 0 rfl) ?_
  refine m_get inX6 hF hC hO (mU_self) rfl 4 (by decide) q_576 (v := .int (φ 4)) rfl dX6_size_3 ?_
  refine lv_if_eq (tgt := 19) hx hb dX6_size_6 (by decide) (fun c6 => ?_) (fun c6 => ?_)
  · refine lv_aload_n hx hb dX6_size_19 rfl (lv_at hl 0 rfl) ?_
    refine m_get inX6 hF hC hO (mU_self) rfl 2 (by decide) q_571 (v := .int (φ 2)) rfl dX6_size_20 ?_
    refine lv_bipush (v := 40) hx hb dX6_size_23 (by decide) ?_
    refine lv_idiv hx hb dX6_size_25 (by decide) ?_
    refine m_min hF hl.1 q_620 q_246 q_14 q_247 (Nat.le_of_ble_eq_true rfl) (Nat.le_of_ble_eq_true rfl) ⟨Nat.le_of_ble_eq_true rfl, Nat.le_of_ble_eq_true rfl⟩ dX6_size_26 ?_
    rw [mU_id (show R r = some (lfO φ) from h0)] at hO
    refine m_iret hF hr hlk hQ rfl hO hS dX6_size_29 ?_
    exact ⟨by first | rw [p_size, if_pos c6] | rw [p_size, if_neg c6], rfl⟩
  · refine lv_aload_n hx hb dX6_size_9 rfl (lv_at hl 0 rfl) ?_
    refine m_get inX6 hF hC hO (mU_self) rfl 2 (by decide) q_571 (v := .int (φ 2)) rfl dX6_size_10 ?_
    refine lv_bipush (v := 80) hx hb dX6_size_13 (by decide) ?_
    refine lv_idiv hx hb dX6_size_15 (by decide) ?_
    refine lv_goto (tgt := 26) hx hb dX6_size_16 (by decide) ?_
    refine m_min hF hl.1 q_620 q_246 q_14 q_247 (Nat.le_of_ble_eq_true rfl) (Nat.le_of_ble_eq_true rfl) ⟨Nat.le_of_ble_eq_true rfl, Nat.le_of_ble_eq_true rfl⟩ dX6_size_26 ?_
    rw [mU_id (show R r = some (lfO φ) from h0)] at hO
    refine m_iret hF hr hlk hQ rfl hO hS dX6_size_29 ?_
    exact ⟨by first | rw [p_size, if_pos c6] | rw [p_size, if_neg c6], rfl⟩
theorem ok_X7_at : mOK RX7 yX7_at cX7_at 3 (some .int) 1 := ⟨q_600, q_601, q_6, q_602, by decide +kernel⟩
set_option maxHeartbeats 400000 in
set_option maxRecDepth 100000 in
theorem k_X7_at (l : Launch) (G : mG) (lo : Nat) (sa : mSc) (ad : Nat → Nat) (R : mM) (g : Nat → Int32) (nf : Nat) (F : Nat → Nat → Int32) (f : Nat → Int32) (no : Nat) (O : Nat → Nat → Int32) (w : Int32) (h : Int32) (hnf : nf ≤ 12) (hno : no ≤ 20) : mI l yX7_at cX7_at 3 .int 0 0 G lo sa ad (WS G ad g nf F f no O w R) [.ref (ad 50), .int h] (fun v R' => v = (m_at nf F h) ∧ R' = (WS G ad g nf F f no O w R)) := by
  refine mI_of (by decide) (Nat.le_of_ble_eq_true rfl) ?_
  intro p e s m args below meth c hF hr hlk hC ls hl hO hS Q hQ
  have hx := hF.1
  have hb := hF.2.1
  have hl : lv_has ls 3 [(0, .ref (ad 50)), (1, .int h)] := hl
  refine lv_iconst (v := 0) hx hb dX7_at_0 (by decide) ?_
  refine lv_istore_n (lv' := [(2, .int 0), (0, .ref (ad 50)), (1, .int h)]) hx hb dX7_at_1 rfl hl (by decide) rfl (fun ls hl => ?_)
  have L2 : ∀ (n : Nat) (i : Nat) (H : Heap) (locs : List Loc) (ls : Array Slot), nf - i < n → i ≤ nf → m_atL (nf - i) i F h = m_at nf F h → lv_has ls 3 [(0, .ref (ad 50)), (1, .int h), (2, .int (nI i))] → mO G lo ad (WS G ad g nf F f no O w R) H → va_S (mA lo) s.heap H locs → W p l e (mRm 0 0) s m args below meth c H locs 0 0 Q (F0 m 2 ls []) := by
    intro n
    induction n with
    | zero => intro i H locs ls hn; exact absurd hn (Nat.not_lt_zero _)
    | succ n ih2 =>
      intro i H locs ls hn2 hi hv hl hO hS
      refine lv_iload_n hx hb dX7_at_2 rfl (lv_at hl 2 rfl) ?_
      refine lv_aload_n hx hb dX7_at_3 rfl (lv_at hl 0 rfl) ?_
      refine m_get inX7 hF hC hO rfl rfl 3 (by decide) q_507 (v := .ref (ad 51)) rfl dX7_at_4 ?_
      refine m_alen 2 hF hC hO rfl rfl (v := (nI nf)) rfl dX7_at_7 ?_
      refine lv_icmp_ge (tgt := 32) hx hb dX7_at_8 (by decide) (fun c8 => ?_) (fun c8 => ?_)
      · refine lv_iconst (v := -1) hx hb dX7_at_32 (by decide) ?_
        refine m_iret hF hr hlk hQ rfl hO hS dX7_at_33 ?_
        have e : i = nf := Nat.le_antisymm hi (nI_E (a := nf) (b := i) (by omega) (by omega) c8)
        subst e
        rw [Nat.sub_self] at hv
        exact ⟨hv, rfl⟩
      · have hin : i < nf := (nI_nE (a := nf) (b := i) (by omega) (by omega) c8)
        refine lv_aload_n hx hb dX7_at_11 rfl (lv_at hl 0 rfl) ?_
        refine m_get inX7 hF hC hO rfl rfl 3 (by decide) q_507 (v := .ref (ad 51)) rfl dX7_at_12 ?_
        refine lv_iload_n hx hb dX7_at_15 rfl (lv_at hl 2 rfl) ?_
        refine m_aldP hF hC hO rfl (j := i) (nI_clamp (by omega)) (vp_in_nI hin (by omega)) dX7_at_16 (v := .ref (ad (200 + i))) (adF_in (by first | assumption | omega)) ?_
        refine m_get inX6 hF hC hO (WS_F (i := i) (by assumption) hnf) rfl 5 (by decide) q_581 (v := .int ((F i) 5)) rfl dX7_at_17 ?_
        refine lv_iload_n hx hb dX7_at_20 rfl (lv_at hl 1 rfl) ?_
        refine lv_icmp_ne (tgt := 26) hx hb dX7_at_21 (by decide) (fun c21 => ?_) (fun c21 => ?_)
        · refine lv_iinc (v := (nI (i + 1))) (lv' := [(2, .int (nI (i + 1))), (0, .ref (ad 50)), (1, .int h)]) hx hb dX7_at_26 hl (k := 2) rfl (nI_inc i) (by decide) rfl (fun ls hl => ?_)
          refine lv_goto (tgt := 2) hx hb dX7_at_29 (by decide) ?_
          exact ih2 (i + 1) _ _ _ (by omega) (by omega) (by rw [← hv, show nf - i = (nf - (i + 1)) + 1 from by omega, m_atL, if_neg c21]) (lv_sub hl [1, 2, 0] rfl) hO hS
        · refine lv_iload_n hx hb dX7_at_24 rfl (lv_at hl 2 rfl) ?_
          refine m_iret hF hr hlk hQ rfl hO hS dX7_at_25 ?_
          rw [show nf - i = (nf - (i + 1)) + 1 from by omega, m_atL, if_pos c21] at hv
          exact ⟨hv, rfl⟩
  exact L2 _ 0 _ _ _ (Nat.lt_succ_self _) (by omega) rfl (lv_sub hl [1, 2, 0] rfl) hO hS
theorem ok_X7_grows : mOK RX7 yX7_grows cX7_grows 3 (some .int) 1 := ⟨q_470, q_471, q_6, q_472, by decide +kernel⟩
set_option maxHeartbeats 400000 in
set_option maxRecDepth 100000 in
theorem k_X7_grows (l : Launch) (G : mG) (lo : Nat) (sa : mSc) (ad : Nat → Nat) (R : mM) (g : Nat → Int32) (nf : Nat) (F : Nat → Nat → Int32) (f : Nat → Int32) (no : Nat) (O : Nat → Nat → Int32) (w : Int32) (i : Nat) (hnf : nf ≤ 12) (hno : no ≤ 20) (hi : i < nf) : mI l yX7_grows cX7_grows 3 .int 0 0 G lo sa ad (WS G ad g nf F f no O w R) [.ref (ad 50), .ref (ad (200 + i))] (fun v R' => v = s_grow (F i) g ∧ R' = (WS G ad g nf F f no O w R)) := by
  refine mI_of (by decide) (Nat.le_of_ble_eq_true rfl) ?_
  intro p e s m args below meth c hF hr hlk hC ls hl hO hS Q hQ
  have hx := hF.1
  have hb := hF.2.1
  have hl : lv_has ls 3 [(0, .ref (ad 50)), (1, .ref (ad (200 + i)))] := hl
  refine lv_aload_n hx hb dX7_grows_0 rfl (lv_at hl 1 rfl) ?_
  refine m_get inX6 hF hC hO (WS_F (i := i) (by assumption) hnf) rfl 5 (by decide) q_581 (v := .int ((F i) 5)) rfl dX7_grows_1 ?_
  refine lv_if_lt (tgt := 16) hx hb dX7_grows_4 (by decide) (fun c4 => ?_) (fun c4 => ?_)
  · refine lv_sipush (v := -1000) hx hb dX7_grows_16 (by decide) ?_
    refine m_iret hF hr hlk hQ rfl hO hS dX7_grows_19 ?_
    exact ⟨by rw [s_grow, if_pos (Or.inl c4)], rfl⟩
  · refine lv_aload_n hx hb dX7_grows_7 rfl (lv_at hl 0 rfl) ?_
    refine m_get inX7 hF hC hO rfl rfl 1 (by decide) q_503 (v := .int (g 1)) rfl dX7_grows_8 ?_
    refine lv_bipush (v := 60) hx hb dX7_grows_11 (by decide) ?_
    refine lv_icmp_ge (tgt := 20) hx hb dX7_grows_13 (by decide) (fun c13 => ?_) (fun c13 => ?_)
    · refine lv_aload_n hx hb dX7_grows_20 rfl (lv_at hl 1 rfl) ?_
      refine m_get inX6 hF hC hO (WS_F (i := i) (by assumption) hnf) rfl 3 (by decide) q_575 (v := .int ((F i) 3)) rfl dX7_grows_21 ?_
      refine lv_bipush (v := 70) hx hb dX7_grows_24 (by decide) ?_
      refine lv_icmp_le (tgt := 63) hx hb dX7_grows_26 (by decide) (fun c26 => ?_) (fun c26 => ?_)
      · refine lv_bipush (v := 12) hx hb dX7_grows_63 (by decide) ?_
        refine lv_aload_n hx hb dX7_grows_65 rfl (lv_at hl 0 rfl) ?_
        refine m_get inX7 hF hC hO rfl rfl 1 (by decide) q_503 (v := .int (g 1)) rfl dX7_grows_66 ?_
        refine lv_bipush (v := 60) hx hb dX7_grows_69 (by decide) ?_
        refine lv_isub hx hb dX7_grows_71 ?_
        refine lv_bipush (v := 8) hx hb dX7_grows_72 (by decide) ?_
        refine lv_idiv hx hb dX7_grows_74 (by decide) ?_
        refine lv_isub hx hb dX7_grows_75 ?_
        refine lv_istore_n (lv' := [(2, .int (12 - (((g 1) - 60) / 8))), (0, .ref (ad 50)), (1, .ref (ad (200 + i)))]) hx hb dX7_grows_76 rfl hl (by decide) rfl (fun ls hl => ?_)
        refine lv_aload_n hx hb dX7_grows_77 rfl (lv_at hl 2 rfl) ?_
        refine m_get inX6 hF hC hO (WS_F (i := i) (by assumption) hnf) rfl 2 (by decide) q_573 (v := .int ((F i) 2)) rfl dX7_grows_78 ?_
        refine lv_if_ne (tgt := 87) hx hb dX7_grows_81 (by decide) (fun c81 => ?_) (fun c81 => ?_)
        · refine lv_aload_n hx hb dX7_grows_87 rfl (lv_at hl 2 rfl) ?_
          refine m_get inX6 hF hC hO (WS_F (i := i) (by assumption) hnf) rfl 0 (by decide) q_567 (v := .int ((F i) 0)) rfl dX7_grows_88 ?_
          refine lv_iconst (v := 3) hx hb dX7_grows_91 (by decide) ?_
          refine lv_icmp_ne (tgt := 98) hx hb dX7_grows_92 (by decide) (fun c92 => ?_) (fun c92 => ?_)
          · refine lv_aload_n hx hb dX7_grows_98 rfl (lv_at hl 2 rfl) ?_
            refine m_get inX6 hF hC hO (WS_F (i := i) (by assumption) hnf) rfl 2 (by decide) q_573 (v := .int ((F i) 2)) rfl dX7_grows_99 ?_
            refine lv_iload_n hx hb dX7_grows_102 rfl (lv_at hl 0 rfl) ?_
            refine lv_iadd hx hb dX7_grows_103 ?_
            refine lv_sipush (v := 400) hx hb dX7_grows_104 (by decide) ?_
            refine lv_icmp_le (tgt := 119) hx hb dX7_grows_107 (by decide) (fun c107 => ?_) (fun c107 => ?_)
            · refine lv_iload_n hx hb dX7_grows_119 rfl (lv_at hl 0 rfl) ?_
              refine lv_bipush (v := 8) hx hb dX7_grows_120 (by decide) ?_
              refine lv_aload_n hx hb dX7_grows_122 rfl (lv_at hl 2 rfl) ?_
              refine m_get inX6 hF hC hO (WS_F (i := i) (by assumption) hnf) rfl 0 (by decide) q_567 (v := .int ((F i) 0)) rfl dX7_grows_123 ?_
              refine lv_iadd hx hb dX7_grows_126 ?_
              refine lv_imul hx hb dX7_grows_127 ?_
              refine lv_aload_n hx hb dX7_grows_128 rfl (lv_at hl 2 rfl) ?_
              refine m_get inX6 hF hC hO (WS_F (i := i) (by assumption) hnf) rfl 1 (by decide) q_569 (v := .int ((F i) 1)) rfl dX7_grows_129 ?_
              refine lv_imul hx hb dX7_grows_132 ?_
              refine lv_bipush (v := 10) hx hb dX7_grows_133 (by decide) ?_
              refine lv_idiv hx hb dX7_grows_135 (by decide) ?_
              refine lv_aload_n hx hb dX7_grows_136 rfl (lv_at hl 1 rfl) ?_
              refine m_get inX7 hF hC hO rfl rfl 0 (by decide) q_502 (v := .int (g 0)) rfl dX7_grows_137 ?_
              refine lv_icmp_le (tgt := 149) hx hb dX7_grows_140 (by decide) (fun c140 => ?_) (fun c140 => ?_)
              · refine lv_iload_n hx hb dX7_grows_149 rfl (lv_at hl 0 rfl) ?_
                refine m_iret hF hr hlk hQ rfl hO hS dX7_grows_150 ?_
                exact ⟨by rw [s_grow, if_neg (fun h => h.elim (fun q => c4 q) (fun q => absurd q (Int32.not_lt.mpr c13))), if_neg (Int32.not_lt.mpr c26), s_c, s_b, if_neg c92, if_neg c81, if_neg (Int32.not_lt.mpr c107), if_neg (Int32.not_lt.mpr c140)], rfl⟩
              · refine lv_sipush (v := -1000) hx hb dX7_grows_143 (by decide) ?_
                refine lv_goto (tgt := 150) hx hb dX7_grows_146 (by decide) ?_
                refine m_iret hF hr hlk hQ rfl hO hS dX7_grows_150 ?_
                exact ⟨by rw [s_grow, if_neg (fun h => h.elim (fun q => c4 q) (fun q => absurd q (Int32.not_lt.mpr c13))), if_neg (Int32.not_lt.mpr c26), s_c, s_b, if_neg c92, if_neg c81, if_neg (Int32.not_lt.mpr c107), if_pos (Int32.not_le.mp c140)], rfl⟩
            · refine lv_sipush (v := 400) hx hb dX7_grows_110 (by decide) ?_
              refine lv_aload_n hx hb dX7_grows_113 rfl (lv_at hl 2 rfl) ?_
              refine m_get inX6 hF hC hO (WS_F (i := i) (by assumption) hnf) rfl 2 (by decide) q_573 (v := .int ((F i) 2)) rfl dX7_grows_114 ?_
              refine lv_isub hx hb dX7_grows_117 ?_
              refine lv_istore_n (lv' := [(2, .int (400 - ((F i) 2))), (0, .ref (ad 50)), (1, .ref (ad (200 + i)))]) hx hb dX7_grows_118 rfl hl (by decide) rfl (fun ls hl => ?_)
              refine lv_iload_n hx hb dX7_grows_119 rfl (lv_at hl 0 rfl) ?_
              refine lv_bipush (v := 8) hx hb dX7_grows_120 (by decide) ?_
              refine lv_aload_n hx hb dX7_grows_122 rfl (lv_at hl 2 rfl) ?_
              refine m_get inX6 hF hC hO (WS_F (i := i) (by assumption) hnf) rfl 0 (by decide) q_567 (v := .int ((F i) 0)) rfl dX7_grows_123 ?_
              refine lv_iadd hx hb dX7_grows_126 ?_
              refine lv_imul hx hb dX7_grows_127 ?_
              refine lv_aload_n hx hb dX7_grows_128 rfl (lv_at hl 2 rfl) ?_
              refine m_get inX6 hF hC hO (WS_F (i := i) (by assumption) hnf) rfl 1 (by decide) q_569 (v := .int ((F i) 1)) rfl dX7_grows_129 ?_
              refine lv_imul hx hb dX7_grows_132 ?_
              refine lv_bipush (v := 10) hx hb dX7_grows_133 (by decide) ?_
              refine lv_idiv hx hb dX7_grows_135 (by decide) ?_
              refine lv_aload_n hx hb dX7_grows_136 rfl (lv_at hl 1 rfl) ?_
              refine m_get inX7 hF hC hO rfl rfl 0 (by decide) q_502 (v := .int (g 0)) rfl dX7_grows_137 ?_
              refine lv_icmp_le (tgt := 149) hx hb dX7_grows_140 (by decide) (fun c140 => ?_) (fun c140 => ?_)
              · refine lv_iload_n hx hb dX7_grows_149 rfl (lv_at hl 0 rfl) ?_
                refine m_iret hF hr hlk hQ rfl hO hS dX7_grows_150 ?_
                exact ⟨by rw [s_grow, if_neg (fun h => h.elim (fun q => c4 q) (fun q => absurd q (Int32.not_lt.mpr c13))), if_neg (Int32.not_lt.mpr c26), s_c, s_b, if_neg c92, if_neg c81, if_pos (Int32.not_le.mp c107), if_neg (Int32.not_lt.mpr c140)], rfl⟩
              · refine lv_sipush (v := -1000) hx hb dX7_grows_143 (by decide) ?_
                refine lv_goto (tgt := 150) hx hb dX7_grows_146 (by decide) ?_
                refine m_iret hF hr hlk hQ rfl hO hS dX7_grows_150 ?_
                exact ⟨by rw [s_grow, if_neg (fun h => h.elim (fun q => c4 q) (fun q => absurd q (Int32.not_lt.mpr c13))), if_neg (Int32.not_lt.mpr c26), s_c, s_b, if_neg c92, if_neg c81, if_pos (Int32.not_le.mp c107), if_pos (Int32.not_le.mp c140)], rfl⟩
          · refine lv_iinc (v := ((12 - (((g 1) - 60) / 8)) + (-3))) (lv' := [(2, .int ((12 - (((g 1) - 60) / 8)) + (-3))), (0, .ref (ad 50)), (1, .ref (ad (200 + i)))]) hx hb dX7_grows_95 hl (k := 0) rfl rfl (by decide) rfl (fun ls hl => ?_)
            refine lv_aload_n hx hb dX7_grows_98 rfl (lv_at hl 2 rfl) ?_
            refine m_get inX6 hF hC hO (WS_F (i := i) (by assumption) hnf) rfl 2 (by decide) q_573 (v := .int ((F i) 2)) rfl dX7_grows_99 ?_
            refine lv_iload_n hx hb dX7_grows_102 rfl (lv_at hl 0 rfl) ?_
            refine lv_iadd hx hb dX7_grows_103 ?_
            refine lv_sipush (v := 400) hx hb dX7_grows_104 (by decide) ?_
            refine lv_icmp_le (tgt := 119) hx hb dX7_grows_107 (by decide) (fun c107 => ?_) (fun c107 => ?_)
            · refine lv_iload_n hx hb dX7_grows_119 rfl (lv_at hl 0 rfl) ?_
              refine lv_bipush (v := 8) hx hb dX7_grows_120 (by decide) ?_
              refine lv_aload_n hx hb dX7_grows_122 rfl (lv_at hl 2 rfl) ?_
              refine m_get inX6 hF hC hO (WS_F (i := i) (by assumption) hnf) rfl 0 (by decide) q_567 (v := .int ((F i) 0)) rfl dX7_grows_123 ?_
              refine lv_iadd hx hb dX7_grows_126 ?_
              refine lv_imul hx hb dX7_grows_127 ?_
              refine lv_aload_n hx hb dX7_grows_128 rfl (lv_at hl 2 rfl) ?_
              refine m_get inX6 hF hC hO (WS_F (i := i) (by assumption) hnf) rfl 1 (by decide) q_569 (v := .int ((F i) 1)) rfl dX7_grows_129 ?_
              refine lv_imul hx hb dX7_grows_132 ?_
              refine lv_bipush (v := 10) hx hb dX7_grows_133 (by decide) ?_
              refine lv_idiv hx hb dX7_grows_135 (by decide) ?_
              refine lv_aload_n hx hb dX7_grows_136 rfl (lv_at hl 1 rfl) ?_
              refine m_get inX7 hF hC hO rfl rfl 0 (by decide) q_502 (v := .int (g 0)) rfl dX7_grows_137 ?_
              refine lv_icmp_le (tgt := 149) hx hb dX7_grows_140 (by decide) (fun c140 => ?_) (fun c140 => ?_)
              · refine lv_iload_n hx hb dX7_grows_149 rfl (lv_at hl 0 rfl) ?_
                refine m_iret hF hr hlk hQ rfl hO hS dX7_grows_150 ?_
                exact ⟨by rw [s_grow, if_neg (fun h => h.elim (fun q => c4 q) (fun q => absurd q (Int32.not_lt.mpr c13))), if_neg (Int32.not_lt.mpr c26), s_c, s_b, if_pos c92, if_neg c81, if_neg (Int32.not_lt.mpr c107), if_neg (Int32.not_lt.mpr c140)], rfl⟩
              · refine lv_sipush (v := -1000) hx hb dX7_grows_143 (by decide) ?_
                refine lv_goto (tgt := 150) hx hb dX7_grows_146 (by decide) ?_
                refine m_iret hF hr hlk hQ rfl hO hS dX7_grows_150 ?_
                exact ⟨by rw [s_grow, if_neg (fun h => h.elim (fun q => c4 q) (fun q => absurd q (Int32.not_lt.mpr c13))), if_neg (Int32.not_lt.mpr c26), s_c, s_b, if_pos c92, if_neg c81, if_neg (Int32.not_lt.mpr c107), if_pos (Int32.not_le.mp c140)], rfl⟩
            · refine lv_sipush (v := 400) hx hb dX7_grows_110 (by decide) ?_
              refine lv_aload_n hx hb dX7_grows_113 rfl (lv_at hl 2 rfl) ?_
              refine m_get inX6 hF hC hO (WS_F (i := i) (by assumption) hnf) rfl 2 (by decide) q_573 (v := .int ((F i) 2)) rfl dX7_grows_114 ?_
              refine lv_isub hx hb dX7_grows_117 ?_
              refine lv_istore_n (lv' := [(2, .int (400 - ((F i) 2))), (0, .ref (ad 50)), (1, .ref (ad (200 + i)))]) hx hb dX7_grows_118 rfl hl (by decide) rfl (fun ls hl => ?_)
              refine lv_iload_n hx hb dX7_grows_119 rfl (lv_at hl 0 rfl) ?_
              refine lv_bipush (v := 8) hx hb dX7_grows_120 (by decide) ?_
              refine lv_aload_n hx hb dX7_grows_122 rfl (lv_at hl 2 rfl) ?_
              refine m_get inX6 hF hC hO (WS_F (i := i) (by assumption) hnf) rfl 0 (by decide) q_567 (v := .int ((F i) 0)) rfl dX7_grows_123 ?_
              refine lv_iadd hx hb dX7_grows_126 ?_
              refine lv_imul hx hb dX7_grows_127 ?_
              refine lv_aload_n hx hb dX7_grows_128 rfl (lv_at hl 2 rfl) ?_
              refine m_get inX6 hF hC hO (WS_F (i := i) (by assumption) hnf) rfl 1 (by decide) q_569 (v := .int ((F i) 1)) rfl dX7_grows_129 ?_
              refine lv_imul hx hb dX7_grows_132 ?_
              refine lv_bipush (v := 10) hx hb dX7_grows_133 (by decide) ?_
              refine lv_idiv hx hb dX7_grows_135 (by decide) ?_
              refine lv_aload_n hx hb dX7_grows_136 rfl (lv_at hl 1 rfl) ?_
              refine m_get inX7 hF hC hO rfl rfl 0 (by decide) q_502 (v := .int (g 0)) rfl dX7_grows_137 ?_
              refine lv_icmp_le (tgt := 149) hx hb dX7_grows_140 (by decide) (fun c140 => ?_) (fun c140 => ?_)
              · refine lv_iload_n hx hb dX7_grows_149 rfl (lv_at hl 0 rfl) ?_
                refine m_iret hF hr hlk hQ rfl hO hS dX7_grows_150 ?_
                exact ⟨by rw [s_grow, if_neg (fun h => h.elim (fun q => c4 q) (fun q => absurd q (Int32.not_lt.mpr c13))), if_neg (Int32.not_lt.mpr c26), s_c, s_b, if_pos c92, if_neg c81, if_pos (Int32.not_le.mp c107), if_neg (Int32.not_lt.mpr c140)], rfl⟩
              · refine lv_sipush (v := -1000) hx hb dX7_grows_143 (by decide) ?_
                refine lv_goto (tgt := 150) hx hb dX7_grows_146 (by decide) ?_
                refine m_iret hF hr hlk hQ rfl hO hS dX7_grows_150 ?_
                exact ⟨by rw [s_grow, if_neg (fun h => h.elim (fun q => c4 q) (fun q => absurd q (Int32.not_lt.mpr c13))), if_neg (Int32.not_lt.mpr c26), s_c, s_b, if_pos c92, if_neg c81, if_pos (Int32.not_le.mp c107), if_pos (Int32.not_le.mp c140)], rfl⟩
        · refine lv_iinc (v := ((12 - (((g 1) - 60) / 8)) + 4)) (lv' := [(2, .int ((12 - (((g 1) - 60) / 8)) + 4)), (0, .ref (ad 50)), (1, .ref (ad (200 + i)))]) hx hb dX7_grows_84 hl (k := 0) rfl rfl (by decide) rfl (fun ls hl => ?_)
          refine lv_aload_n hx hb dX7_grows_87 rfl (lv_at hl 2 rfl) ?_
          refine m_get inX6 hF hC hO (WS_F (i := i) (by assumption) hnf) rfl 0 (by decide) q_567 (v := .int ((F i) 0)) rfl dX7_grows_88 ?_
          refine lv_iconst (v := 3) hx hb dX7_grows_91 (by decide) ?_
          refine lv_icmp_ne (tgt := 98) hx hb dX7_grows_92 (by decide) (fun c92 => ?_) (fun c92 => ?_)
          · refine lv_aload_n hx hb dX7_grows_98 rfl (lv_at hl 2 rfl) ?_
            refine m_get inX6 hF hC hO (WS_F (i := i) (by assumption) hnf) rfl 2 (by decide) q_573 (v := .int ((F i) 2)) rfl dX7_grows_99 ?_
            refine lv_iload_n hx hb dX7_grows_102 rfl (lv_at hl 0 rfl) ?_
            refine lv_iadd hx hb dX7_grows_103 ?_
            refine lv_sipush (v := 400) hx hb dX7_grows_104 (by decide) ?_
            refine lv_icmp_le (tgt := 119) hx hb dX7_grows_107 (by decide) (fun c107 => ?_) (fun c107 => ?_)
            · refine lv_iload_n hx hb dX7_grows_119 rfl (lv_at hl 0 rfl) ?_
              refine lv_bipush (v := 8) hx hb dX7_grows_120 (by decide) ?_
              refine lv_aload_n hx hb dX7_grows_122 rfl (lv_at hl 2 rfl) ?_
              refine m_get inX6 hF hC hO (WS_F (i := i) (by assumption) hnf) rfl 0 (by decide) q_567 (v := .int ((F i) 0)) rfl dX7_grows_123 ?_
              refine lv_iadd hx hb dX7_grows_126 ?_
              refine lv_imul hx hb dX7_grows_127 ?_
              refine lv_aload_n hx hb dX7_grows_128 rfl (lv_at hl 2 rfl) ?_
              refine m_get inX6 hF hC hO (WS_F (i := i) (by assumption) hnf) rfl 1 (by decide) q_569 (v := .int ((F i) 1)) rfl dX7_grows_129 ?_
              refine lv_imul hx hb dX7_grows_132 ?_
              refine lv_bipush (v := 10) hx hb dX7_grows_133 (by decide) ?_
              refine lv_idiv hx hb dX7_grows_135 (by decide) ?_
              refine lv_aload_n hx hb dX7_grows_136 rfl (lv_at hl 1 rfl) ?_
              refine m_get inX7 hF hC hO rfl rfl 0 (by decide) q_502 (v := .int (g 0)) rfl dX7_grows_137 ?_
              refine lv_icmp_le (tgt := 149) hx hb dX7_grows_140 (by decide) (fun c140 => ?_) (fun c140 => ?_)
              · refine lv_iload_n hx hb dX7_grows_149 rfl (lv_at hl 0 rfl) ?_
                refine m_iret hF hr hlk hQ rfl hO hS dX7_grows_150 ?_
                exact ⟨by rw [s_grow, if_neg (fun h => h.elim (fun q => c4 q) (fun q => absurd q (Int32.not_lt.mpr c13))), if_neg (Int32.not_lt.mpr c26), s_c, s_b, if_neg c92, if_pos c81, if_neg (Int32.not_lt.mpr c107), if_neg (Int32.not_lt.mpr c140)], rfl⟩
              · refine lv_sipush (v := -1000) hx hb dX7_grows_143 (by decide) ?_
                refine lv_goto (tgt := 150) hx hb dX7_grows_146 (by decide) ?_
                refine m_iret hF hr hlk hQ rfl hO hS dX7_grows_150 ?_
                exact ⟨by rw [s_grow, if_neg (fun h => h.elim (fun q => c4 q) (fun q => absurd q (Int32.not_lt.mpr c13))), if_neg (Int32.not_lt.mpr c26), s_c, s_b, if_neg c92, if_pos c81, if_neg (Int32.not_lt.mpr c107), if_pos (Int32.not_le.mp c140)], rfl⟩
            · refine lv_sipush (v := 400) hx hb dX7_grows_110 (by decide) ?_
              refine lv_aload_n hx hb dX7_grows_113 rfl (lv_at hl 2 rfl) ?_
              refine m_get inX6 hF hC hO (WS_F (i := i) (by assumption) hnf) rfl 2 (by decide) q_573 (v := .int ((F i) 2)) rfl dX7_grows_114 ?_
              refine lv_isub hx hb dX7_grows_117 ?_
              refine lv_istore_n (lv' := [(2, .int (400 - ((F i) 2))), (0, .ref (ad 50)), (1, .ref (ad (200 + i)))]) hx hb dX7_grows_118 rfl hl (by decide) rfl (fun ls hl => ?_)
              refine lv_iload_n hx hb dX7_grows_119 rfl (lv_at hl 0 rfl) ?_
              refine lv_bipush (v := 8) hx hb dX7_grows_120 (by decide) ?_
              refine lv_aload_n hx hb dX7_grows_122 rfl (lv_at hl 2 rfl) ?_
              refine m_get inX6 hF hC hO (WS_F (i := i) (by assumption) hnf) rfl 0 (by decide) q_567 (v := .int ((F i) 0)) rfl dX7_grows_123 ?_
              refine lv_iadd hx hb dX7_grows_126 ?_
              refine lv_imul hx hb dX7_grows_127 ?_
              refine lv_aload_n hx hb dX7_grows_128 rfl (lv_at hl 2 rfl) ?_
              refine m_get inX6 hF hC hO (WS_F (i := i) (by assumption) hnf) rfl 1 (by decide) q_569 (v := .int ((F i) 1)) rfl dX7_grows_129 ?_
              refine lv_imul hx hb dX7_grows_132 ?_
              refine lv_bipush (v := 10) hx hb dX7_grows_133 (by decide) ?_
              refine lv_idiv hx hb dX7_grows_135 (by decide) ?_
              refine lv_aload_n hx hb dX7_grows_136 rfl (lv_at hl 1 rfl) ?_
              refine m_get inX7 hF hC hO rfl rfl 0 (by decide) q_502 (v := .int (g 0)) rfl dX7_grows_137 ?_
              refine lv_icmp_le (tgt := 149) hx hb dX7_grows_140 (by decide) (fun c140 => ?_) (fun c140 => ?_)
              · refine lv_iload_n hx hb dX7_grows_149 rfl (lv_at hl 0 rfl) ?_
                refine m_iret hF hr hlk hQ rfl hO hS dX7_grows_150 ?_
                exact ⟨by rw [s_grow, if_neg (fun h => h.elim (fun q => c4 q) (fun q => absurd q (Int32.not_lt.mpr c13))), if_neg (Int32.not_lt.mpr c26), s_c, s_b, if_neg c92, if_pos c81, if_pos (Int32.not_le.mp c107), if_neg (Int32.not_lt.mpr c140)], rfl⟩
              · refine lv_sipush (v := -1000) hx hb dX7_grows_143 (by decide) ?_
                refine lv_goto (tgt := 150) hx hb dX7_grows_146 (by decide) ?_
                refine m_iret hF hr hlk hQ rfl hO hS dX7_grows_150 ?_
                exact ⟨by rw [s_grow, if_neg (fun h => h.elim (fun q => c4 q) (fun q => absurd q (Int32.not_lt.mpr c13))), if_neg (Int32.not_lt.mpr c26), s_c, s_b, if_neg c92, if_pos c81, if_pos (Int32.not_le.mp c107), if_pos (Int32.not_le.mp c140)], rfl⟩
          · refine lv_iinc (v := (((12 - (((g 1) - 60) / 8)) + 4) + (-3))) (lv' := [(2, .int (((12 - (((g 1) - 60) / 8)) + 4) + (-3))), (0, .ref (ad 50)), (1, .ref (ad (200 + i)))]) hx hb dX7_grows_95 hl (k := 0) rfl rfl (by decide) rfl (fun ls hl => ?_)
            refine lv_aload_n hx hb dX7_grows_98 rfl (lv_at hl 2 rfl) ?_
            refine m_get inX6 hF hC hO (WS_F (i := i) (by assumption) hnf) rfl 2 (by decide) q_573 (v := .int ((F i) 2)) rfl dX7_grows_99 ?_
            refine lv_iload_n hx hb dX7_grows_102 rfl (lv_at hl 0 rfl) ?_
            refine lv_iadd hx hb dX7_grows_103 ?_
            refine lv_sipush (v := 400) hx hb dX7_grows_104 (by decide) ?_
            refine lv_icmp_le (tgt := 119) hx hb dX7_grows_107 (by decide) (fun c107 => ?_) (fun c107 => ?_)
            · refine lv_iload_n hx hb dX7_grows_119 rfl (lv_at hl 0 rfl) ?_
              refine lv_bipush (v := 8) hx hb dX7_grows_120 (by decide) ?_
              refine lv_aload_n hx hb dX7_grows_122 rfl (lv_at hl 2 rfl) ?_
              refine m_get inX6 hF hC hO (WS_F (i := i) (by assumption) hnf) rfl 0 (by decide) q_567 (v := .int ((F i) 0)) rfl dX7_grows_123 ?_
              refine lv_iadd hx hb dX7_grows_126 ?_
              refine lv_imul hx hb dX7_grows_127 ?_
              refine lv_aload_n hx hb dX7_grows_128 rfl (lv_at hl 2 rfl) ?_
              refine m_get inX6 hF hC hO (WS_F (i := i) (by assumption) hnf) rfl 1 (by decide) q_569 (v := .int ((F i) 1)) rfl dX7_grows_129 ?_
              refine lv_imul hx hb dX7_grows_132 ?_
              refine lv_bipush (v := 10) hx hb dX7_grows_133 (by decide) ?_
              refine lv_idiv hx hb dX7_grows_135 (by decide) ?_
              refine lv_aload_n hx hb dX7_grows_136 rfl (lv_at hl 1 rfl) ?_
              refine m_get inX7 hF hC hO rfl rfl 0 (by decide) q_502 (v := .int (g 0)) rfl dX7_grows_137 ?_
              refine lv_icmp_le (tgt := 149) hx hb dX7_grows_140 (by decide) (fun c140 => ?_) (fun c140 => ?_)
              · refine lv_iload_n hx hb dX7_grows_149 rfl (lv_at hl 0 rfl) ?_
                refine m_iret hF hr hlk hQ rfl hO hS dX7_grows_150 ?_
                exact ⟨by rw [s_grow, if_neg (fun h => h.elim (fun q => c4 q) (fun q => absurd q (Int32.not_lt.mpr c13))), if_neg (Int32.not_lt.mpr c26), s_c, s_b, if_pos c92, if_pos c81, if_neg (Int32.not_lt.mpr c107), if_neg (Int32.not_lt.mpr c140)], rfl⟩
              · refine lv_sipush (v := -1000) hx hb dX7_grows_143 (by decide) ?_
                refine lv_goto (tgt := 150) hx hb dX7_grows_146 (by decide) ?_
                refine m_iret hF hr hlk hQ rfl hO hS dX7_grows_150 ?_
                exact ⟨by rw [s_grow, if_neg (fun h => h.elim (fun q => c4 q) (fun q => absurd q (Int32.not_lt.mpr c13))), if_neg (Int32.not_lt.mpr c26), s_c, s_b, if_pos c92, if_pos c81, if_neg (Int32.not_lt.mpr c107), if_pos (Int32.not_le.mp c140)], rfl⟩
            · refine lv_sipush (v := 400) hx hb dX7_grows_110 (by decide) ?_
              refine lv_aload_n hx hb dX7_grows_113 rfl (lv_at hl 2 rfl) ?_
              refine m_get inX6 hF hC hO (WS_F (i := i) (by assumption) hnf) rfl 2 (by decide) q_573 (v := .int ((F i) 2)) rfl dX7_grows_114 ?_
              refine lv_isub hx hb dX7_grows_117 ?_
              refine lv_istore_n (lv' := [(2, .int (400 - ((F i) 2))), (0, .ref (ad 50)), (1, .ref (ad (200 + i)))]) hx hb dX7_grows_118 rfl hl (by decide) rfl (fun ls hl => ?_)
              refine lv_iload_n hx hb dX7_grows_119 rfl (lv_at hl 0 rfl) ?_
              refine lv_bipush (v := 8) hx hb dX7_grows_120 (by decide) ?_
              refine lv_aload_n hx hb dX7_grows_122 rfl (lv_at hl 2 rfl) ?_
              refine m_get inX6 hF hC hO (WS_F (i := i) (by assumption) hnf) rfl 0 (by decide) q_567 (v := .int ((F i) 0)) rfl dX7_grows_123 ?_
              refine lv_iadd hx hb dX7_grows_126 ?_
              refine lv_imul hx hb dX7_grows_127 ?_
              refine lv_aload_n hx hb dX7_grows_128 rfl (lv_at hl 2 rfl) ?_
              refine m_get inX6 hF hC hO (WS_F (i := i) (by assumption) hnf) rfl 1 (by decide) q_569 (v := .int ((F i) 1)) rfl dX7_grows_129 ?_
              refine lv_imul hx hb dX7_grows_132 ?_
              refine lv_bipush (v := 10) hx hb dX7_grows_133 (by decide) ?_
              refine lv_idiv hx hb dX7_grows_135 (by decide) ?_
              refine lv_aload_n hx hb dX7_grows_136 rfl (lv_at hl 1 rfl) ?_
              refine m_get inX7 hF hC hO rfl rfl 0 (by decide) q_502 (v := .int (g 0)) rfl dX7_grows_137 ?_
              refine lv_icmp_le (tgt := 149) hx hb dX7_grows_140 (by decide) (fun c140 => ?_) (fun c140 => ?_)
              · refine lv_iload_n hx hb dX7_grows_149 rfl (lv_at hl 0 rfl) ?_
                refine m_iret hF hr hlk hQ rfl hO hS dX7_grows_150 ?_
                exact ⟨by rw [s_grow, if_neg (fun h => h.elim (fun q => c4 q) (fun q => absurd q (Int32.not_lt.mpr c13))), if_neg (Int32.not_lt.mpr c26), s_c, s_b, if_pos c92, if_pos c81, if_pos (Int32.not_le.mp c107), if_neg (Int32.not_lt.mpr c140)], rfl⟩
              · refine lv_sipush (v := -1000) hx hb dX7_grows_143 (by decide) ?_
                refine lv_goto (tgt := 150) hx hb dX7_grows_146 (by decide) ?_
                refine m_iret hF hr hlk hQ rfl hO hS dX7_grows_150 ?_
                exact ⟨by rw [s_grow, if_neg (fun h => h.elim (fun q => c4 q) (fun q => absurd q (Int32.not_lt.mpr c13))), if_neg (Int32.not_lt.mpr c26), s_c, s_b, if_pos c92, if_pos c81, if_pos (Int32.not_le.mp c107), if_pos (Int32.not_le.mp c140)], rfl⟩
      · refine lv_aload_n hx hb dX7_grows_29 rfl (lv_at hl 1 rfl) ?_
        refine m_get inX6 hF hC hO (WS_F (i := i) (by assumption) hnf) rfl 2 (by decide) q_573 (v := .int ((F i) 2)) rfl dX7_grows_30 ?_
        refine lv_aload_n hx hb dX7_grows_33 rfl (lv_at hl 0 rfl) ?_
        refine m_get inX7 hF hC hO rfl rfl 1 (by decide) q_503 (v := .int (g 1)) rfl dX7_grows_34 ?_
        refine lv_bipush (v := 55) hx hb dX7_grows_37 (by decide) ?_
        refine lv_isub hx hb dX7_grows_39 ?_
        refine lv_iconst (v := 5) hx hb dX7_grows_40 (by decide) ?_
        refine lv_idiv hx hb dX7_grows_41 (by decide) ?_
        refine lv_icmp_le (tgt := 57) hx hb dX7_grows_42 (by decide) (fun c42 => ?_) (fun c42 => ?_)
        · refine lv_aload_n hx hb dX7_grows_57 rfl (lv_at hl 1 rfl) ?_
          refine m_get inX6 hF hC hO (WS_F (i := i) (by assumption) hnf) rfl 2 (by decide) q_573 (v := .int ((F i) 2)) rfl dX7_grows_58 ?_
          refine lv_ineg hx hb dX7_grows_61 ?_
          refine m_iret hF hr hlk hQ rfl hO hS dX7_grows_62 ?_
          exact ⟨by rw [s_grow, if_neg (fun h => h.elim (fun q => c4 q) (fun q => absurd q (Int32.not_lt.mpr c13))), if_pos (Int32.not_le.mp c26), if_neg (Int32.not_lt.mpr c42)], rfl⟩
        · refine lv_bipush (v := 55) hx hb dX7_grows_45 (by decide) ?_
          refine lv_aload_n hx hb dX7_grows_47 rfl (lv_at hl 0 rfl) ?_
          refine m_get inX7 hF hC hO rfl rfl 1 (by decide) q_503 (v := .int (g 1)) rfl dX7_grows_48 ?_
          refine lv_isub hx hb dX7_grows_51 ?_
          refine lv_iconst (v := 5) hx hb dX7_grows_52 (by decide) ?_
          refine lv_idiv hx hb dX7_grows_53 (by decide) ?_
          refine lv_goto (tgt := 62) hx hb dX7_grows_54 (by decide) ?_
          refine m_iret hF hr hlk hQ rfl hO hS dX7_grows_62 ?_
          exact ⟨by rw [s_grow, if_neg (fun h => h.elim (fun q => c4 q) (fun q => absurd q (Int32.not_lt.mpr c13))), if_pos (Int32.not_le.mp c26), if_pos (Int32.not_le.mp c42)], rfl⟩
    · refine lv_sipush (v := -1000) hx hb dX7_grows_16 (by decide) ?_
      refine m_iret hF hr hlk hQ rfl hO hS dX7_grows_19 ?_
      exact ⟨by rw [s_grow, if_pos (Or.inr (Int32.not_le.mp c13))], rfl⟩
theorem ok_X7_enough : mOK RX7 yX7_enough cX7_enough 5 (some .int) 2 := ⟨q_660, q_661, q_6, q_662, by decide +kernel⟩
set_option maxHeartbeats 400000 in
set_option maxRecDepth 100000 in
theorem k_X7_enough (l : Launch) (G : mG) (lo : Nat) (sa : mSc) (ad : Nat → Nat) (R : mM) (g : Nat → Int32) (nf : Nat) (F : Nat → Nat → Int32) (f : Nat → Int32) (no : Nat) (O : Nat → Nat → Int32) (w : Int32) (k z : Nat) (hnf : nf ≤ 12) (hno : no ≤ 20) (hk : k < 4) (hz1 : 1 ≤ z) (hz9 : z ≤ 9) : mI l yX7_enough cX7_enough 5 .int 0 0 G lo sa ad (WS G ad g nf F f no O w R) [.ref (ad 50), .int (nI k), .int (nI z)] (fun v R' => v = (p_amountFrom f k z) ∧ R' = (WS G ad g nf F f no O w R)) := by
  refine mI_of (by decide) (Nat.le_of_ble_eq_true rfl) ?_
  intro p e s m args below meth c hF hr hlk hC ls hl hO hS Q hQ
  have hx := hF.1
  have hb := hF.2.1
  have hl : lv_has ls 5 [(0, .ref (ad 50)), (1, .int (nI k)), (2, .int (nI z))] := hl
  refine lv_iconst (v := 0) hx hb dX7_enough_0 (by decide) ?_
  refine lv_istore_n (lv' := [(3, .int 0), (0, .ref (ad 50)), (1, .int (nI k)), (2, .int (nI z))]) hx hb dX7_enough_1 rfl hl (by decide) rfl (fun ls hl => ?_)
  refine lv_iload_n hx hb dX7_enough_2 rfl (lv_at hl 3 rfl) ?_
  refine lv_istore (lv' := [(4, .int (nI z)), (3, .int 0), (0, .ref (ad 50)), (1, .int (nI k)), (2, .int (nI z))]) hx hb dX7_enough_3 hl (by decide) rfl (fun ls hl => ?_)
  have L5 : ∀ (n : Nat) (i : Nat) (acc : Int32) (H : Heap) (locs : List Loc) (ls : Array Slot), 10 - i < n → i ≤ 10 → 1 ≤ i → p_from (10 - i) f k i acc = p_amountFrom f k z → lv_has ls 5 [(0, .ref (ad 50)), (1, .int (nI k)), (2, .int (nI z)), (4, .int (nI i)), (3, .int acc)] → mO G lo ad (WS G ad g nf F f no O w R) H → va_S (mA lo) s.heap H locs → W p l e (mRm 0 0) s m args below meth c H locs 0 0 Q (F0 m 5 ls []) := by
    intro n
    induction n with
    | zero => intro i acc H locs ls hn; exact absurd hn (Nat.not_lt_zero _)
    | succ n ih5 =>
      intro i acc H locs ls hn5 hi hi1 hv hl hO hS
      refine lv_iload hx hb dX7_enough_5 (lv_at hl 3 rfl) ?_
      refine lv_bipush (v := 10) hx hb dX7_enough_7 (by decide) ?_
      refine lv_icmp_ge (tgt := 30) hx hb dX7_enough_9 (by decide) (fun c9 => ?_) (fun c9 => ?_)
      · refine lv_iload_n hx hb dX7_enough_30 rfl (lv_at hl 4 rfl) ?_
        refine m_iret hF hr hlk hQ rfl hO hS dX7_enough_31 ?_
        have e : i = 10 := Nat.le_antisymm hi (nI_E (a := 10) (b := i) (by decide) (by omega) c9)
        subst e
        exact ⟨hv, rfl⟩
      · have hin : i < 10 := (nI_nE (a := 10) (b := i) (by decide) (by omega) c9)
        refine lv_iload_n hx hb dX7_enough_12 rfl (lv_at hl 4 rfl) ?_
        refine lv_aload_n hx hb dX7_enough_13 rfl (lv_at hl 0 rfl) ?_
        refine m_get inX7 hF hC hO rfl rfl 4 (by decide) q_509 (v := .ref (ad 52)) rfl dX7_enough_14 ?_
        refine lv_iload_n hx hb dX7_enough_17 rfl (lv_at hl 1 rfl) ?_
        refine m_aldA hF hC hO rfl (j := k) (nI_clamp (by omega)) (vp_in_nI hk (by decide)) dX7_enough_18 (v := .ref (ad (53 + k))) (adF_in (by first | assumption | omega)) ?_
        refine lv_iload hx hb dX7_enough_19 (lv_at hl 3 rfl) ?_
        refine m_iald hF hC hO (WS_S (k := k) (by first | assumption | omega)) (j := i) (nI_clamp (by omega)) (vp_in_nI hin (by decide)) dX7_enough_21 ?_
        rw [show ((rowF f k) i) = (f (9 * k + i - 1)) from rowF_at hi1 (by omega)]
        refine lv_iadd hx hb dX7_enough_22 ?_
        refine lv_istore_n (lv' := [(3, .int (acc + (f (9 * k + i - 1)))), (0, .ref (ad 50)), (1, .int (nI k)), (2, .int (nI z)), (4, .int (nI i))]) hx hb dX7_enough_23 rfl hl (by decide) rfl (fun ls hl => ?_)
        refine lv_iinc (v := (nI (i + 1))) (lv' := [(4, .int (nI (i + 1))), (3, .int (acc + (f (9 * k + i - 1)))), (0, .ref (ad 50)), (1, .int (nI k)), (2, .int (nI z))]) hx hb dX7_enough_24 hl (k := 4) rfl (nI_inc i) (by decide) rfl (fun ls hl => ?_)
        refine lv_goto (tgt := 5) hx hb dX7_enough_27 (by decide) ?_
        exact ih5 (i + 1) (acc + f (9 * k + i - 1)) _ _ _ (by omega) (by omega) (by omega) (by rw [← hv, show 10 - i = (10 - (i + 1)) + 1 from by omega]; rfl) (lv_sub hl [2, 3, 4, 0, 1] rfl) hO hS
  exact L5 _ z 0 _ _ _ (Nat.lt_succ_self _) (by omega) hz1 rfl (lv_sub hl [2, 3, 4, 0, 1] rfl) hO hS
theorem ok_X7_all : mOK RX7 yX7_all cX7_all 10 (some .int) 0 := ⟨q_685, q_686, q_6, q_687, by decide +kernel⟩
set_option maxHeartbeats 400000 in
set_option maxRecDepth 100000 in
theorem k_X7_all (l : Launch) (G : mG) (lo : Nat) (sa : mSc) (ad : Nat → Nat) (R : mM) (g : Nat → Int32) (nf : Nat) (F : Nat → Nat → Int32) (f : Nat → Int32) (no : Nat) (O : Nat → Nat → Int32) (w : Int32) (hnf : nf ≤ 12) (hno : no ≤ 20) : mI l yX7_all cX7_all 10 .int 0 0 G lo sa ad (WS G ad g nf F f no O w R) [.ref (ad 50)] (fun v R' => v = (p_sum 36 f 0 0) ∧ R' = (WS G ad g nf F f no O w R)) := by
  refine mI_of (by decide) (Nat.le_of_ble_eq_true rfl) ?_
  intro p e s m args below meth c hF hr hlk hC ls hl hO hS Q hQ
  have hx := hF.1
  have hb := hF.2.1
  have hl : lv_has ls 10 [(0, .ref (ad 50))] := hl
  refine lv_iconst (v := 0) hx hb dX7_all_0 (by decide) ?_
  refine lv_istore_n (lv' := [(1, .int 0), (0, .ref (ad 50))]) hx hb dX7_all_1 rfl hl (by decide) rfl (fun ls hl => ?_)
  refine lv_aload_n hx hb dX7_all_2 rfl (lv_at hl 1 rfl) ?_
  refine m_get inX7 hF hC hO rfl rfl 4 (by decide) q_509 (v := .ref (ad 52)) rfl dX7_all_3 ?_
  refine lv_astore_n (lv' := [(2, .ref (ad 52)), (1, .int 0), (0, .ref (ad 50))]) hx hb dX7_all_6 rfl hl (by decide) rfl (fun ls hl => ?_)
  refine lv_aload_n hx hb dX7_all_7 rfl (lv_at hl 0 rfl) ?_
  refine m_alen 1 hF hC hO rfl rfl (v := 4) rfl dX7_all_8 ?_
  refine lv_istore_n (lv' := [(3, .int 4), (2, .ref (ad 52)), (1, .int 0), (0, .ref (ad 50))]) hx hb dX7_all_9 rfl hl (by decide) rfl (fun ls hl => ?_)
  refine lv_iconst (v := 0) hx hb dX7_all_10 (by decide) ?_
  refine lv_istore (lv' := [(4, .int 0), (3, .int 4), (2, .ref (ad 52)), (1, .int 0), (0, .ref (ad 50))]) hx hb dX7_all_11 hl (by decide) rfl (fun ls hl => ?_)
  have L13 : ∀ (n : Nat) (k : Nat) (acc : Int32) (H : Heap) (locs : List Loc) (ls : Array Slot), 4 - k < n → k ≤ 4 → s_rows (4 - k) f k acc = p_sum 36 f 0 0 → lv_has ls 10 [(0, .ref (ad 50)), (2, .ref (ad 52)), (3, .int 4), (4, .int (nI k)), (1, .int acc)] → mO G lo ad (WS G ad g nf F f no O w R) H → va_S (mA lo) s.heap H locs → W p l e (mRm 0 0) s m args below meth c H locs 0 0 Q (F0 m 13 ls []) := by
    intro n
    induction n with
    | zero => intro k acc H locs ls hn; exact absurd hn (Nat.not_lt_zero _)
    | succ n ih13 =>
      intro k acc H locs ls hn13 hk hv hl hO hS
      refine lv_iload hx hb dX7_all_13 (lv_at hl 3 rfl) ?_
      refine lv_iload_n hx hb dX7_all_15 rfl (lv_at hl 2 rfl) ?_
      refine lv_icmp_ge (tgt := 68) hx hb dX7_all_16 (by decide) (fun c16 => ?_) (fun c16 => ?_)
      · refine lv_iload_n hx hb dX7_all_68 rfl (lv_at hl 4 rfl) ?_
        refine m_iret hF hr hlk hQ rfl hO hS dX7_all_69 ?_
        have e : k = 4 := Nat.le_antisymm hk (nI_E (a := 4) (b := k) (by decide) (by omega) c16)
        subst e
        exact ⟨hv, rfl⟩
      · have hin : k < 4 := (nI_nE (a := 4) (b := k) (by decide) (by omega) c16)
        refine lv_aload_n hx hb dX7_all_19 rfl (lv_at hl 1 rfl) ?_
        refine lv_iload hx hb dX7_all_20 (lv_at hl 3 rfl) ?_
        refine m_aldA hF hC hO rfl (j := k) (nI_clamp (by omega)) (vp_in_nI hin (by decide)) dX7_all_22 (v := .ref (ad (53 + k))) (adF_in (by first | assumption | omega)) ?_
        refine lv_astore (lv' := [(5, .ref (ad (53 + k))), (0, .ref (ad 50)), (2, .ref (ad 52)), (3, .int 4), (4, .int (nI k)), (1, .int acc)]) hx hb dX7_all_23 hl (by decide) rfl (fun ls hl => ?_)
        refine lv_aload hx hb dX7_all_25 (lv_at hl 0 rfl) ?_
        refine lv_astore (lv' := [(6, .ref (ad (53 + k))), (5, .ref (ad (53 + k))), (0, .ref (ad 50)), (2, .ref (ad 52)), (3, .int 4), (4, .int (nI k)), (1, .int acc)]) hx hb dX7_all_27 hl (by decide) rfl (fun ls hl => ?_)
        refine lv_aload hx hb dX7_all_29 (lv_at hl 0 rfl) ?_
        refine m_alen 0 hF hC hO (WS_S (k := k) (by first | assumption | omega)) rfl (v := 10) rfl dX7_all_31 ?_
        refine lv_istore (lv' := [(7, .int 10), (6, .ref (ad (53 + k))), (5, .ref (ad (53 + k))), (0, .ref (ad 50)), (2, .ref (ad 52)), (3, .int 4), (4, .int (nI k)), (1, .int acc)]) hx hb dX7_all_32 hl (by decide) rfl (fun ls hl => ?_)
        refine lv_iconst (v := 0) hx hb dX7_all_34 (by decide) ?_
        refine lv_istore (lv' := [(8, .int 0), (7, .int 10), (6, .ref (ad (53 + k))), (5, .ref (ad (53 + k))), (0, .ref (ad 50)), (2, .ref (ad 52)), (3, .int 4), (4, .int (nI k)), (1, .int acc)]) hx hb dX7_all_35 hl (by decide) rfl (fun ls hl => ?_)
        have L37 : ∀ (n : Nat) (z : Nat) (b : Int32) (H : Heap) (locs : List Loc) (ls : Array Slot), 10 - z < n → z ≤ 10 → p_sum (10 - z) (rowF f k) z b = p_sum 10 (rowF f k) 0 acc → lv_has ls 10 [(0, .ref (ad 50)), (2, .ref (ad 52)), (3, .int 4), (4, .int (nI k)), (5, .ref (ad (53 + k))), (6, .ref (ad (53 + k))), (7, .int 10), (8, .int (nI z)), (1, .int b)] → mO G lo ad (WS G ad g nf F f no O w R) H → va_S (mA lo) s.heap H locs → W p l e (mRm 0 0) s m args below meth c H locs 0 0 Q (F0 m 37 ls []) := by
          intro n
          induction n with
          | zero => intro z b H locs ls hn; exact absurd hn (Nat.not_lt_zero _)
          | succ n ih37 =>
            intro z b H locs ls hn37 hz hvz hl hO hS
            refine lv_iload hx hb dX7_all_37 (lv_at hl 7 rfl) ?_
            refine lv_iload hx hb dX7_all_39 (lv_at hl 6 rfl) ?_
            refine lv_icmp_ge (tgt := 62) hx hb dX7_all_41 (by decide) (fun c41 => ?_) (fun c41 => ?_)
            · refine lv_iinc (v := (nI (k + 1))) (lv' := [(4, .int (nI (k + 1))), (0, .ref (ad 50)), (2, .ref (ad 52)), (3, .int 4), (5, .ref (ad (53 + k))), (6, .ref (ad (53 + k))), (7, .int 10), (8, .int (nI z)), (1, .int b)]) hx hb dX7_all_62 hl (k := 3) rfl (nI_inc k) (by decide) rfl (fun ls hl => ?_)
              refine lv_goto (tgt := 13) hx hb dX7_all_65 (by decide) ?_
              have e9 : z = 10 := Nat.le_antisymm hz (nI_E (a := 10) (b := z) (by decide) (by omega) c41)
              exact ih13 (k + 1) b _ _ _ (by omega) (by omega) (by rw [← hv, show 4 - k = (4 - (k + 1)) + 1 from by omega, s_rows, ← hvz, e9]; rfl) (lv_sub hl [1, 2, 3, 0, 8] rfl) hO hS
            · have hzn : z < 10 := (nI_nE (a := 10) (b := z) (by decide) (by omega) c41)
              refine lv_aload hx hb dX7_all_44 (lv_at hl 5 rfl) ?_
              refine lv_iload hx hb dX7_all_46 (lv_at hl 7 rfl) ?_
              refine m_iald hF hC hO (WS_S (k := k) (by first | assumption | omega)) (j := z) (nI_clamp (by omega)) (vp_in_nI hzn (by decide)) dX7_all_48 ?_
              refine lv_istore (lv' := [(9, .int ((rowF f k) z)), (0, .ref (ad 50)), (2, .ref (ad 52)), (3, .int 4), (4, .int (nI k)), (5, .ref (ad (53 + k))), (6, .ref (ad (53 + k))), (7, .int 10), (8, .int (nI z)), (1, .int b)]) hx hb dX7_all_49 hl (by decide) rfl (fun ls hl => ?_)
              refine lv_iload_n hx hb dX7_all_51 rfl (lv_at hl 9 rfl) ?_
              refine lv_iload hx hb dX7_all_52 (lv_at hl 0 rfl) ?_
              refine lv_iadd hx hb dX7_all_54 ?_
              refine lv_istore_n (lv' := [(1, .int (b + ((rowF f k) z))), (9, .int ((rowF f k) z)), (0, .ref (ad 50)), (2, .ref (ad 52)), (3, .int 4), (4, .int (nI k)), (5, .ref (ad (53 + k))), (6, .ref (ad (53 + k))), (7, .int 10), (8, .int (nI z))]) hx hb dX7_all_55 rfl hl (by decide) rfl (fun ls hl => ?_)
              refine lv_iinc (v := (nI (z + 1))) (lv' := [(8, .int (nI (z + 1))), (1, .int (b + ((rowF f k) z))), (9, .int ((rowF f k) z)), (0, .ref (ad 50)), (2, .ref (ad 52)), (3, .int 4), (4, .int (nI k)), (5, .ref (ad (53 + k))), (6, .ref (ad (53 + k))), (7, .int 10)]) hx hb dX7_all_56 hl (k := 9) rfl (nI_inc z) (by decide) rfl (fun ls hl => ?_)
              refine lv_goto (tgt := 37) hx hb dX7_all_59 (by decide) ?_
              exact ih37 (z + 1) (b + ((rowF f k) z)) _ _ _ (by omega) (by omega) (by rw [← hvz, show 10 - z = (10 - (z + 1)) + 1 from by omega]; rfl) (lv_sub hl [3, 4, 5, 6, 7, 8, 9, 0, 1] rfl) hO hS
        exact L37 _ 0 acc _ _ _ (Nat.lt_succ_self _) (by omega) rfl (lv_sub hl [4, 5, 6, 7, 3, 2, 1, 0, 8] rfl) hO hS
  exact L13 _ 0 0 _ _ _ (Nat.lt_succ_self _) (by omega) sumR4 (lv_sub hl [4, 2, 1, 0, 3] rfl) hO hS
theorem ok_X7_pass : mOK RX7 yX7_pass cX7_pass 8 none 1 := ⟨q_475, q_476, q_6, q_477, by decide +kernel⟩
set_option maxHeartbeats 400000 in
set_option maxRecDepth 100000 in
theorem k_X7_pass (l : Launch) (G : mG) (lo : Nat) (sa : mSc) (ad : Nat → Nat) (R : mM) (g : Nat → Int32) (nf : Nat) (F : Nat → Nat → Int32) (f : Nat → Int32) (no : Nat) (O : Nat → Nat → Int32) (w : Int32) (b qn : Nat) (hnf : nf ≤ 12) (hno : no ≤ 20) (hb9 : b < nf) (hFv : ∀ i, i < nf → FrV (F i)) (hOv : ∀ j, j < no → OrV (O j)) (hq : g 3 = nI qn) (hqn : qn ≤ 900000) : mV l yX7_pass cX7_pass 8 0 0 G lo sa ad (WS G ad g nf F f no O w R) [.ref (ad 50), .ref (ad (200 + b))] (fun R' => R' = (WS G ad (m_qG g) nf (m_coolTo nf b F) f no (m_qO no g O) w R)) := by
  refine mV_of (by decide) (Nat.le_of_ble_eq_true rfl) ?_
  intro p e s m args below meth c hF hr hlk hC ls hl hO hS Q hQ
  have hx := hF.1
  have hb := hF.2.1
  have hl : lv_has ls 8 [(0, .ref (ad 50)), (1, .ref (ad (200 + b)))] := hl
  refine lv_aload_n hx hb dX7_pass_0 rfl (lv_at hl 0 rfl) ?_
  refine m_get inX7 hF hC hO rfl rfl 1 (by decide) q_503 (v := .int (g 1)) rfl dX7_pass_1 ?_
  refine lv_bipush (v := 6) hx hb dX7_pass_4 (by decide) ?_
  refine lv_aload_n hx hb dX7_pass_6 rfl (lv_at hl 0 rfl) ?_
  refine m_get inX7 hF hC hO rfl rfl 2 (by decide) q_506 (v := .int (g 2)) rfl dX7_pass_7 ?_
  refine lv_imul hx hb dX7_pass_10 ?_
  refine lv_iadd hx hb dX7_pass_11 ?_
  refine lv_istore_n (lv' := [(2, .int ((g 1) + (6 * (g 2)))), (0, .ref (ad 50)), (1, .ref (ad (200 + b)))]) hx hb dX7_pass_12 rfl hl (by decide) rfl (fun ls hl => ?_)
  refine lv_iload_n hx hb dX7_pass_13 rfl (lv_at hl 0 rfl) ?_
  refine lv_iload_n hx hb dX7_pass_14 rfl (lv_at hl 0 rfl) ?_
  refine lv_bipush (v := 20) hx hb dX7_pass_15 (by decide) ?_
  refine lv_isub hx hb dX7_pass_17 ?_
  refine lv_bipush (v := 10) hx hb dX7_pass_18 (by decide) ?_
  refine lv_idiv hx hb dX7_pass_20 (by decide) ?_
  refine lv_isub hx hb dX7_pass_21 ?_
  refine lv_istore_n (lv' := [(2, .int (((g 1) + (6 * (g 2))) - ((((g 1) + (6 * (g 2))) - 20) / 10))), (0, .ref (ad 50)), (1, .ref (ad (200 + b)))]) hx hb dX7_pass_22 rfl hl (by decide) rfl (fun ls hl => ?_)
  refine lv_aload_n hx hb dX7_pass_23 rfl (lv_at hl 1 rfl) ?_
  refine lv_iload_n hx hb dX7_pass_24 rfl (lv_at hl 0 rfl) ?_
  have J44 : ∀ (x44 : Int32) (H : Heap) (locs : List Loc) (ls : Array Slot), x44 = p_burn (g 2) (g 1) → lv_has ls 8 [(2, .int (((g 1) + (6 * (g 2))) - ((((g 1) + (6 * (g 2))) - 20) / 10))), (0, .ref (ad 50)), (1, .ref (ad (200 + b)))] → mO G lo ad (WS G ad g nf F f no O w R) H → va_S (mA lo) s.heap H locs → W p l e (mRm 0 0) s m args below meth c H locs 0 0 Q (F0 m 44 ls [.int x44, .ref (ad 50)]) := by
    intro x44 H locs ls hx44 hl hO hS
    subst hx44
    refine m_put (ty := .int) tyX7 tyX7_ok nmX7 inX7 hF hC hO hS rfl rfl 1 (by decide) q_503 rfl (by decide +kernel) rfl rfl (fs' := [.int (g 0), .int (p_burn (g 2) (g 1)), .int (g 2), .ref (ad 51), .ref (ad 52), .ref (ad 57), .int (g 3), .int (g 4), .int w]) (Nat.le_of_ble_eq_true rfl) rfl dX7_pass_44 (fun H locs hO hS => ?_)
    have hO : mO G lo ad (mU (WS G ad g nf F f no O w R) 50 (sO ad (upd g 1 (p_burn (g 2) (g 1))) w)) H := hO
    rw [WS_w0] at hO
    refine lv_aload_n hx hb dX7_pass_47 rfl (lv_at hl 1 rfl) ?_
    refine m_get inX7 hF hC hO rfl rfl 3 (by decide) q_507 (v := .ref (ad 51)) rfl dX7_pass_48 ?_
    refine lv_astore_n (lv' := [(3, .ref (ad 51)), (2, .int (((g 1) + (6 * (g 2))) - ((((g 1) + (6 * (g 2))) - 20) / 10))), (0, .ref (ad 50)), (1, .ref (ad (200 + b)))]) hx hb dX7_pass_51 rfl hl (by decide) rfl (fun ls hl => ?_)
    refine lv_aload_n hx hb dX7_pass_52 rfl (lv_at hl 0 rfl) ?_
    refine m_alen 2 hF hC hO rfl rfl (v := (nI nf)) rfl dX7_pass_53 ?_
    refine lv_istore (lv' := [(4, .int (nI nf)), (3, .ref (ad 51)), (2, .int (((g 1) + (6 * (g 2))) - ((((g 1) + (6 * (g 2))) - 20) / 10))), (0, .ref (ad 50)), (1, .ref (ad (200 + b)))]) hx hb dX7_pass_54 hl (by decide) rfl (fun ls hl => ?_)
    refine lv_iconst (v := 0) hx hb dX7_pass_56 (by decide) ?_
    refine lv_istore (lv' := [(5, .int 0), (4, .int (nI nf)), (3, .ref (ad 51)), (2, .int (((g 1) + (6 * (g 2))) - ((((g 1) + (6 * (g 2))) - 20) / 10))), (0, .ref (ad 50)), (1, .ref (ad (200 + b)))]) hx hb dX7_pass_57 hl (by decide) rfl (fun ls hl => ?_)
    have L59 : ∀ (n : Nat) (i : Nat) (H : Heap) (locs : List Loc) (ls : Array Slot), nf - i < n → i ≤ nf → lv_has ls 8 [(0, .ref (ad 50)), (1, .ref (ad (200 + b))), (3, .ref (ad 51)), (4, .int (nI nf)), (5, .int (nI i))] → mO G lo ad (WS G ad (upd g 1 (p_burn (g 2) (g 1))) nf (m_coolTo i b F) f no O w R) H → va_S (mA lo) s.heap H locs → W p l e (mRm 0 0) s m args below meth c H locs 0 0 Q (F0 m 59 ls []) := by
      intro n
      induction n with
      | zero => intro i H locs ls hn; exact absurd hn (Nat.not_lt_zero _)
      | succ n ih59 =>
        intro i H locs ls hn59 hi hl hO hS
        refine lv_iload hx hb dX7_pass_59 (lv_at hl 4 rfl) ?_
        refine lv_iload hx hb dX7_pass_61 (lv_at hl 3 rfl) ?_
        refine lv_icmp_ge (tgt := 142) hx hb dX7_pass_63 (by decide) (fun c63 => ?_) (fun c63 => ?_)
        · have e8 : i = nf := Nat.le_antisymm hi (nI_E (a := nf) (b := i) (by omega) (by omega) c63)
          rw [e8] at hO
          refine lv_aload_n hx hb dX7_pass_142 rfl (lv_at hl 0 rfl) ?_
          refine lv_dup hx hb dX7_pass_143 rfl ?_
          refine m_get inX7 hF hC hO rfl rfl 6 (by decide) q_514 (v := .int (g 3)) rfl dX7_pass_144 ?_
          refine lv_iconst (v := 1) hx hb dX7_pass_147 (by decide) ?_
          refine lv_iadd hx hb dX7_pass_148 ?_
          refine m_put (ty := .int) tyX7 tyX7_ok nmX7 inX7 hF hC hO hS rfl rfl 6 (by decide) q_514 rfl (by decide +kernel) rfl rfl (fs' := [.int (g 0), .int (p_burn (g 2) (g 1)), .int (g 2), .ref (ad 51), .ref (ad 52), .ref (ad 57), .int ((g 3) + 1), .int (g 4), .int w]) (Nat.le_of_ble_eq_true rfl) rfl dX7_pass_149 (fun H locs hO hS => ?_)
          have hO : mO G lo ad (mU (WS G ad (upd g 1 (p_burn (g 2) (g 1))) nf (m_coolTo nf b F) f no O w R) 50 (sO ad (upd (upd g 1 (p_burn (g 2) (g 1))) 3 ((g 3) + 1)) w)) H := hO
          rw [WS_w0] at hO
          refine lv_aload_n hx hb dX7_pass_152 rfl (lv_at hl 0 rfl) ?_
          refine m_get inX7 hF hC hO rfl rfl 5 (by decide) q_511 (v := .ref (ad 57)) rfl dX7_pass_153 ?_
          refine lv_astore_n (lv' := [(3, .ref (ad 57)), (0, .ref (ad 50)), (1, .ref (ad (200 + b))), (4, .int (nI nf)), (5, .int (nI i))]) hx hb dX7_pass_156 rfl hl (by decide) rfl (fun ls hl => ?_)
          refine lv_aload_n hx hb dX7_pass_157 rfl (lv_at hl 0 rfl) ?_
          refine m_alen 1 hF hC hO rfl rfl (v := (nI no)) rfl dX7_pass_158 ?_
          refine lv_istore (lv' := [(4, .int (nI no)), (3, .ref (ad 57)), (0, .ref (ad 50)), (1, .ref (ad (200 + b))), (5, .int (nI i))]) hx hb dX7_pass_159 hl (by decide) rfl (fun ls hl => ?_)
          have hO : mO G lo ad (WS G ad (m_qG g) nf (m_coolTo nf b F) f no O w R) H := hO
          refine lv_iconst (v := 0) hx hb dX7_pass_161 (by decide) ?_
          refine lv_istore (lv' := [(5, .int 0), (4, .int (nI no)), (3, .ref (ad 57)), (0, .ref (ad 50)), (1, .ref (ad (200 + b)))]) hx hb dX7_pass_162 hl (by decide) rfl (fun ls hl => ?_)
          have L164 : ∀ (n : Nat) (j : Nat) (H : Heap) (locs : List Loc) (ls : Array Slot), no - j < n → j ≤ no → lv_has ls 8 [(0, .ref (ad 50)), (1, .ref (ad (200 + b))), (3, .ref (ad 57)), (4, .int (nI no)), (5, .int (nI j))] → mO G lo ad (WS G ad (m_qG g) nf (m_coolTo nf b F) f no (s_lateTo j (g 3 + 1) O) w R) H → va_S (mA lo) s.heap H locs → W p l e (mRm 0 0) s m args below meth c H locs 0 0 Q (F0 m 164 ls []) := by
            intro n
            induction n with
            | zero => intro j H locs ls hn; exact absurd hn (Nat.not_lt_zero _)
            | succ n ih164 =>
              intro j H locs ls hn164 hj hl hO hS
              refine lv_iload hx hb dX7_pass_164 (lv_at hl 4 rfl) ?_
              refine lv_iload hx hb dX7_pass_166 (lv_at hl 3 rfl) ?_
              refine lv_icmp_ge (tgt := 222) hx hb dX7_pass_168 (by decide) (fun c168 => ?_) (fun c168 => ?_)
              · refine m_vret hF hr hlk hQ hO hS dX7_pass_222 ?_
                have e9 : j = no := Nat.le_antisymm hj (nI_E (a := no) (b := j) (by omega) (by omega) c168)
                subst e9
                rfl
              · have hjn : j < no := (nI_nE (a := no) (b := j) (by omega) (by omega) c168)
                obtain ⟨-, dd, hdd, ed⟩ := hOv j hjn
                have hq1 : g 3 + 1 = nI (qn + 1) := by rw [hq]; exact nI_1 qn
                refine lv_aload_n hx hb dX7_pass_171 rfl (lv_at hl 2 rfl) ?_
                refine lv_iload hx hb dX7_pass_172 (lv_at hl 4 rfl) ?_
                refine m_aldA hF hC hO rfl (j := j) (nI_clamp (by omega)) (vp_in_nI hjn (by omega)) dX7_pass_174 (v := .ref (ad (220 + j))) (adF_in (by first | assumption | omega)) ?_
                refine lv_astore (lv' := [(6, .ref (ad (220 + j))), (0, .ref (ad 50)), (1, .ref (ad (200 + b))), (3, .ref (ad 57)), (4, .int (nI no)), (5, .int (nI j))]) hx hb dX7_pass_175 hl (by decide) rfl (fun ls hl => ?_)
                refine lv_aload_n hx hb dX7_pass_177 rfl (lv_at hl 1 rfl) ?_
                refine m_get inX7 hF hC hO rfl rfl 6 (by decide) q_514 (v := .int ((m_qG g) 3)) rfl dX7_pass_178 ?_
                refine lv_bipush (v := 40) hx hb dX7_pass_181 (by decide) ?_
                refine lv_irem hx hb dX7_pass_183 (by decide) ?_
                refine lv_if_ne (tgt := 216) hx hb dX7_pass_184 (by decide) (fun c184 => ?_) (fun c184 => ?_)
                · refine lv_iinc (v := (nI (j + 1))) (lv' := [(5, .int (nI (j + 1))), (6, .ref (ad (220 + j))), (0, .ref (ad 50)), (1, .ref (ad (200 + b))), (3, .ref (ad 57)), (4, .int (nI no))]) hx hb dX7_pass_216 hl (k := 5) rfl (nI_inc j) (by decide) rfl (fun ls hl => ?_)
                  refine lv_goto (tgt := 164) hx hb dX7_pass_219 (by decide) ?_
                  have c184 : ¬ (g 3 + 1) - (g 3 + 1) / 40 * 40 = 0 := c184
                  rw [s_lateTo_n c184] at hO
                  exact ih164 (j + 1) _ _ _ (by omega) (by omega) (lv_sub hl [2, 3, 4, 5, 0] rfl) hO hS
                · refine lv_aload hx hb dX7_pass_187 (lv_at hl 0 rfl) ?_
                  refine lv_iconst (v := 4) hx hb dX7_pass_189 (by decide) ?_
                  refine m_iald hF hC hO (WS_O (i := j) (by assumption) hno) (j := 4) (by decide) (vp_in_nI (n := 4) (by decide) (by decide)) dX7_pass_190 ?_
                  refine lv_if_ne (tgt := 216) hx hb dX7_pass_191 (by decide) (fun c191 => ?_) (fun c191 => ?_)
                  · refine lv_iinc (v := (nI (j + 1))) (lv' := [(5, .int (nI (j + 1))), (6, .ref (ad (220 + j))), (0, .ref (ad 50)), (1, .ref (ad (200 + b))), (3, .ref (ad 57)), (4, .int (nI no))]) hx hb dX7_pass_216 hl (k := 5) rfl (nI_inc j) (by decide) rfl (fun ls hl => ?_)
                    refine lv_goto (tgt := 164) hx hb dX7_pass_219 (by decide) ?_
                    have c184 : (g 3 + 1) - (g 3 + 1) / 40 * 40 = 0 := c184
                    rw [s_lateTo_at] at c191
                    rw [s_lateTo_b c184 (fun h => c191 h.1)] at hO
                    exact ih164 (j + 1) _ _ _ (by omega) (by omega) (lv_sub hl [2, 3, 4, 5, 0] rfl) hO hS
                  · refine lv_bipush (v := 40) hx hb dX7_pass_194 (by decide) ?_
                    refine lv_aload hx hb dX7_pass_196 (lv_at hl 0 rfl) ?_
                    refine lv_iconst (v := 3) hx hb dX7_pass_198 (by decide) ?_
                    refine m_iald hF hC hO (WS_O (i := j) (by assumption) hno) (j := 3) (by decide) (vp_in_nI (n := 3) (by decide) (by decide)) dX7_pass_199 ?_
                    refine lv_imul hx hb dX7_pass_200 ?_
                    refine lv_bipush (v := 40) hx hb dX7_pass_201 (by decide) ?_
                    refine lv_iadd hx hb dX7_pass_203 ?_
                    refine lv_aload_n hx hb dX7_pass_204 rfl (lv_at hl 1 rfl) ?_
                    refine m_get inX7 hF hC hO rfl rfl 6 (by decide) q_514 (v := .int ((m_qG g) 3)) rfl dX7_pass_205 ?_
                    refine lv_icmp_gt (tgt := 216) hx hb dX7_pass_208 (by decide) (fun c208 => ?_) (fun c208 => ?_)
                    · refine lv_iinc (v := (nI (j + 1))) (lv' := [(5, .int (nI (j + 1))), (6, .ref (ad (220 + j))), (0, .ref (ad 50)), (1, .ref (ad (200 + b))), (3, .ref (ad 57)), (4, .int (nI no))]) hx hb dX7_pass_216 hl (k := 5) rfl (nI_inc j) (by decide) rfl (fun ls hl => ?_)
                      refine lv_goto (tgt := 164) hx hb dX7_pass_219 (by decide) ?_
                      have c184 : (g 3 + 1) - (g 3 + 1) / 40 * 40 = 0 := c184
                      rw [s_lateTo_at] at c208
                      rw [s_lateTo_b c184 (fun h => absurd ((day_lt ed (by omega) hq1 (by omega) c184).mp h.2) (Int32.not_le.mpr c208))] at hO
                      exact ih164 (j + 1) _ _ _ (by omega) (by omega) (lv_sub hl [2, 3, 4, 5, 0] rfl) hO hS
                    · refine lv_aload hx hb dX7_pass_211 (lv_at hl 0 rfl) ?_
                      refine lv_iconst (v := 4) hx hb dX7_pass_213 (by decide) ?_
                      refine lv_iconst (v := 2) hx hb dX7_pass_214 (by decide) ?_
                      refine m_iast hF hC hO hS (WS_O (i := j) (by assumption) hno) (j := 4) (by decide) (vp_in_nI (n := 4) (by decide) (by decide)) dX7_pass_215 (fun H locs hO hS => ?_)
                      have hO : mO G lo ad (mU (WS G ad (m_qG g) nf (m_coolTo nf b F) f no (s_lateTo j (g 3 + 1) O) w R) (220 + j) (.inl (G.2 0, 5, .inl (upd ((s_lateTo j (g 3 + 1) O) j) 4 2)))) H := hO
                      rw [WS_wO (by assumption) hno] at hO
                      refine lv_iinc (v := (nI (j + 1))) (lv' := [(5, .int (nI (j + 1))), (6, .ref (ad (220 + j))), (0, .ref (ad 50)), (1, .ref (ad (200 + b))), (3, .ref (ad 57)), (4, .int (nI no))]) hx hb dX7_pass_216 hl (k := 5) rfl (nI_inc j) (by decide) rfl (fun ls hl => ?_)
                      refine lv_goto (tgt := 164) hx hb dX7_pass_219 (by decide) ?_
                      have c184 : (g 3 + 1) - (g 3 + 1) / 40 * 40 = 0 := c184
                      rw [s_lateTo_at] at c191 c208
                      rw [s_lateTo_s c184 ⟨c191, (day_lt ed (by omega) hq1 (by omega) c184).mpr (Int32.not_lt.mp c208)⟩] at hO
                      exact ih164 (j + 1) _ _ _ (by omega) (by omega) (lv_sub hl [2, 3, 4, 5, 0] rfl) hO hS
          rw [show WS G ad (m_qG g) nf (m_coolTo nf b F) f no O w R = WS G ad (m_qG g) nf (m_coolTo nf b F) f no (s_lateTo 0 (g 3 + 1) O) w R from by rw [s_lateTo_0]] at hO
          exact L164 _ 0 _ _ _ (Nat.lt_succ_self _) (by omega) (lv_sub hl [3, 4, 2, 1, 0] rfl) hO hS
        · have hin : i < nf := (nI_nE (a := nf) (b := i) (by omega) (by omega) c63)
          have hfr : FrV (m_coolTo i b F i) := by rw [m_coolTo_at]; exact hFv i hin
          have hpl := hfr.2.1
          refine lv_aload_n hx hb dX7_pass_66 rfl (lv_at hl 2 rfl) ?_
          refine lv_iload hx hb dX7_pass_67 (lv_at hl 4 rfl) ?_
          refine m_aldP hF hC hO rfl (j := i) (nI_clamp (by omega)) (vp_in_nI hin (by omega)) dX7_pass_69 (v := .ref (ad (200 + i))) (adF_in (by first | assumption | omega)) ?_
          refine lv_astore (lv' := [(6, .ref (ad (200 + i))), (0, .ref (ad 50)), (1, .ref (ad (200 + b))), (3, .ref (ad 51)), (4, .int (nI nf)), (5, .int (nI i))]) hx hb dX7_pass_70 hl (by decide) rfl (fun ls hl => ?_)
          refine lv_aload hx hb dX7_pass_72 (lv_at hl 0 rfl) ?_
          refine m_get inX6 hF hC hO (WS_F (i := i) (by assumption) hnf) rfl 5 (by decide) q_581 (v := .int (((m_coolTo i b F) i) 5)) rfl dX7_pass_74 ?_
          have J101 : ∀ (x101 : Int32) (H : Heap) (locs : List Loc) (ls : Array Slot), x101 = p_cooling (m_coolTo i b F i) → lv_has ls 8 [(6, .ref (ad (200 + i))), (0, .ref (ad 50)), (1, .ref (ad (200 + b))), (3, .ref (ad 51)), (4, .int (nI nf)), (5, .int (nI i))] → mO G lo ad (WS G ad (upd g 1 (p_burn (g 2) (g 1))) nf (m_coolTo i b F) f no O w R) H → va_S (mA lo) s.heap H locs → W p l e (mRm 0 0) s m args below meth c H locs 0 0 Q (F0 m 101 ls [.int x101]) := by
            intro x101 H locs ls hx101 hl hO hS
            subst hx101
            refine lv_istore (lv' := [(7, .int (p_cooling (m_coolTo i b F i))), (6, .ref (ad (200 + i))), (0, .ref (ad 50)), (1, .ref (ad (200 + b))), (3, .ref (ad 51)), (4, .int (nI nf)), (5, .int (nI i))]) hx hb dX7_pass_101 hl (by decide) rfl (fun ls hl => ?_)
            refine lv_aload hx hb dX7_pass_103 (lv_at hl 1 rfl) ?_
            refine lv_aload_n hx hb dX7_pass_105 rfl (lv_at hl 3 rfl) ?_
            refine lv_acmp_eq (rx := (some (ad (200 + i)))) (ry := (some (ad (200 + b)))) (tgt := 136) hx hb dX7_pass_106 (by decide) (fun c106 => ?_) (fun c106 => ?_)
            · refine lv_iinc (v := (nI (i + 1))) (lv' := [(5, .int (nI (i + 1))), (7, .int (p_cooling (m_coolTo i b F i))), (6, .ref (ad (200 + i))), (0, .ref (ad 50)), (1, .ref (ad (200 + b))), (3, .ref (ad 51)), (4, .int (nI nf))]) hx hb dX7_pass_136 hl (k := 6) rfl (nI_inc i) (by decide) rfl (fun ls hl => ?_)
              refine lv_goto (tgt := 59) hx hb dX7_pass_139 (by decide) ?_
              have eib : i = b := by have := (hO.inj (WS_F (i := i) (by assumption) hnf) (WS_F (i := b) hb9 hnf)).mp c106; omega
              rw [m_coolTo_b eib] at hO
              exact ih59 (i + 1) _ _ _ (by omega) (by omega) (lv_sub hl [3, 4, 5, 6, 0] rfl) hO hS
            · refine lv_aload hx hb dX7_pass_109 (lv_at hl 1 rfl) ?_
              refine lv_aload hx hb dX7_pass_111 (lv_at hl 1 rfl) ?_
              refine m_get inX6 hF hC hO (WS_F (i := i) (by assumption) hnf) rfl 3 (by decide) q_575 (v := .int (((m_coolTo i b F) i) 3)) rfl dX7_pass_113 ?_
              refine lv_iload hx hb dX7_pass_116 (lv_at hl 0 rfl) ?_
              refine lv_icmp_le (tgt := 132) hx hb dX7_pass_118 (by decide) (fun c118 => ?_) (fun c118 => ?_)
              · refine lv_iconst (v := 0) hx hb dX7_pass_132 (by decide) ?_
                obtain ⟨-, tt, mm, cc9, -, hm9, -, -, em9, -⟩ := hfr.1
                obtain ⟨kk9, hk9, ek9⟩ := cooling_n (m_coolTo i b F i)
                rw [show 0 = (jmax 0 (m_coolTo i b F i 3 - p_cooling (m_coolTo i b F i))) from by rw [coolB (m := mm) (k := kk9) (by omega) (by omega) em9 ek9, if_pos c118]]
                refine m_put (ty := .int) tyX6 tyX6_ok nmX6 inX6 hF hC hO hS (WS_F (i := i) (by assumption) hnf) rfl 3 (by decide) q_575 rfl (by decide +kernel) rfl rfl (fs' := [.int (((m_coolTo i b F) i) 0), .int (((m_coolTo i b F) i) 1), .int (((m_coolTo i b F) i) 2), .int (jmax 0 (m_coolTo i b F i 3 - p_cooling (m_coolTo i b F i))), .int (((m_coolTo i b F) i) 4), .int (((m_coolTo i b F) i) 5), .int (((m_coolTo i b F) i) 6)]) (Nat.le_of_ble_eq_true rfl) rfl dX7_pass_133 (fun H locs hO hS => ?_)
                have hO : mO G lo ad (mU (WS G ad (upd g 1 (p_burn (g 2) (g 1))) nf (m_coolTo i b F) f no O w R) (200 + i) (lfO (upd ((m_coolTo i b F) i) 3 (jmax 0 (m_coolTo i b F i 3 - p_cooling (m_coolTo i b F i)))))) H := hO
                rw [WS_wF (by assumption) hnf] at hO
                refine lv_iinc (v := (nI (i + 1))) (lv' := [(5, .int (nI (i + 1))), (7, .int (p_cooling (m_coolTo i b F i))), (6, .ref (ad (200 + i))), (0, .ref (ad 50)), (1, .ref (ad (200 + b))), (3, .ref (ad 51)), (4, .int (nI nf))]) hx hb dX7_pass_136 hl (k := 6) rfl (nI_inc i) (by decide) rfl (fun ls hl => ?_)
                refine lv_goto (tgt := 59) hx hb dX7_pass_139 (by decide) ?_
                rw [show va_up (m_coolTo i b F) i (upd (m_coolTo i b F i) 3 (jmax 0 (m_coolTo i b F i 3 - p_cooling (m_coolTo i b F i)))) = m_coolTo (i + 1) b F from m_coolTo_s (fun h => c106 (by rw [h]))] at hO
                exact ih59 (i + 1) _ _ _ (by omega) (by omega) (lv_sub hl [3, 4, 5, 6, 0] rfl) hO hS
              · refine lv_aload hx hb dX7_pass_121 (lv_at hl 1 rfl) ?_
                refine m_get inX6 hF hC hO (WS_F (i := i) (by assumption) hnf) rfl 3 (by decide) q_575 (v := .int (((m_coolTo i b F) i) 3)) rfl dX7_pass_123 ?_
                refine lv_iload hx hb dX7_pass_126 (lv_at hl 0 rfl) ?_
                refine lv_isub hx hb dX7_pass_128 ?_
                refine lv_goto (tgt := 133) hx hb dX7_pass_129 (by decide) ?_
                obtain ⟨-, tt, mm, cc9, -, hm9, -, -, em9, -⟩ := hfr.1
                obtain ⟨kk9, hk9, ek9⟩ := cooling_n (m_coolTo i b F i)
                rw [show ((((m_coolTo i b F) i) 3) - (p_cooling (m_coolTo i b F i))) = (jmax 0 (m_coolTo i b F i 3 - p_cooling (m_coolTo i b F i))) from by rw [coolB (m := mm) (k := kk9) (by omega) (by omega) em9 ek9, if_neg c118]]
                refine m_put (ty := .int) tyX6 tyX6_ok nmX6 inX6 hF hC hO hS (WS_F (i := i) (by assumption) hnf) rfl 3 (by decide) q_575 rfl (by decide +kernel) rfl rfl (fs' := [.int (((m_coolTo i b F) i) 0), .int (((m_coolTo i b F) i) 1), .int (((m_coolTo i b F) i) 2), .int (jmax 0 (m_coolTo i b F i 3 - p_cooling (m_coolTo i b F i))), .int (((m_coolTo i b F) i) 4), .int (((m_coolTo i b F) i) 5), .int (((m_coolTo i b F) i) 6)]) (Nat.le_of_ble_eq_true rfl) rfl dX7_pass_133 (fun H locs hO hS => ?_)
                have hO : mO G lo ad (mU (WS G ad (upd g 1 (p_burn (g 2) (g 1))) nf (m_coolTo i b F) f no O w R) (200 + i) (lfO (upd ((m_coolTo i b F) i) 3 (jmax 0 (m_coolTo i b F i 3 - p_cooling (m_coolTo i b F i)))))) H := hO
                rw [WS_wF (by assumption) hnf] at hO
                refine lv_iinc (v := (nI (i + 1))) (lv' := [(5, .int (nI (i + 1))), (7, .int (p_cooling (m_coolTo i b F i))), (6, .ref (ad (200 + i))), (0, .ref (ad 50)), (1, .ref (ad (200 + b))), (3, .ref (ad 51)), (4, .int (nI nf))]) hx hb dX7_pass_136 hl (k := 6) rfl (nI_inc i) (by decide) rfl (fun ls hl => ?_)
                refine lv_goto (tgt := 59) hx hb dX7_pass_139 (by decide) ?_
                rw [show va_up (m_coolTo i b F) i (upd (m_coolTo i b F i) 3 (jmax 0 (m_coolTo i b F i 3 - p_cooling (m_coolTo i b F i)))) = m_coolTo (i + 1) b F from m_coolTo_s (fun h => c106 (by rw [h]))] at hO
                exact ih59 (i + 1) _ _ _ (by omega) (by omega) (lv_sub hl [3, 4, 5, 6, 0] rfl) hO hS
          refine lv_if_ge (tgt := 84) hx hb dX7_pass_77 (by decide) (fun c77 => ?_) (fun c77 => ?_)
          · refine lv_aload hx hb dX7_pass_84 (lv_at hl 0 rfl) ?_
            refine m_get inX6 hF hC hO (WS_F (i := i) (by assumption) hnf) rfl 5 (by decide) q_581 (v := .int (((m_coolTo i b F) i) 5)) rfl dX7_pass_86 ?_
            refine lv_bipush (v := 6) hx hb dX7_pass_89 (by decide) ?_
            refine lv_icmp_ge (tgt := 99) hx hb dX7_pass_91 (by decide) (fun c91 => ?_) (fun c91 => ?_)
            · refine lv_bipush (v := 6) hx hb dX7_pass_99 (by decide) ?_
              exact J101 6 _ _ _ (by rw [cooling_p hpl, if_neg (Int32.not_lt.mpr c77), if_neg (Int32.not_lt.mpr c91)]) (lv_sub hl [0, 1, 2, 3, 4, 5] rfl) hO hS
            · refine lv_bipush (v := 12) hx hb dX7_pass_94 (by decide) ?_
              refine lv_goto (tgt := 101) hx hb dX7_pass_96 (by decide) ?_
              exact J101 12 _ _ _ (by rw [cooling_p hpl, if_neg (Int32.not_lt.mpr c77), if_pos (Int32.not_le.mp c91)]) (lv_sub hl [0, 1, 2, 3, 4, 5] rfl) hO hS
          · refine lv_iconst (v := 3) hx hb dX7_pass_80 (by decide) ?_
            refine lv_goto (tgt := 101) hx hb dX7_pass_81 (by decide) ?_
            exact J101 3 _ _ _ (by rw [cooling_p hpl, if_pos (Int32.not_le.mp c77)]) (lv_sub hl [0, 1, 2, 3, 4, 5] rfl) hO hS
    rw [show F = m_coolTo 0 b F from m_coolTo_0.symm] at hO
    exact L59 _ 0 _ _ _ (Nat.lt_succ_self _) (by omega) (lv_sub hl [4, 5, 2, 1, 0] rfl) hO hS
  refine lv_if_ge (tgt := 32) hx hb dX7_pass_25 (by decide) (fun c25 => ?_) (fun c25 => ?_)
  · refine lv_iload_n hx hb dX7_pass_32 rfl (lv_at hl 0 rfl) ?_
    refine lv_bipush (v := 120) hx hb dX7_pass_33 (by decide) ?_
    refine lv_icmp_le (tgt := 43) hx hb dX7_pass_35 (by decide) (fun c35 => ?_) (fun c35 => ?_)
    · refine lv_iload_n hx hb dX7_pass_43 rfl (lv_at hl 0 rfl) ?_
      exact J44 (((g 1) + (6 * (g 2))) - ((((g 1) + (6 * (g 2))) - 20) / 10)) _ _ _ (by rw [p_burn, clampB, if_neg (Int32.not_lt.mpr c25), if_pos c35]) (lv_sub hl [0, 1, 2] rfl) hO hS
    · refine lv_bipush (v := 120) hx hb dX7_pass_38 (by decide) ?_
      refine lv_goto (tgt := 44) hx hb dX7_pass_40 (by decide) ?_
      exact J44 120 _ _ _ (by rw [p_burn, clampB, if_neg (Int32.not_lt.mpr c25), if_neg c35]) (lv_sub hl [0, 1, 2] rfl) hO hS
  · refine lv_iconst (v := 0) hx hb dX7_pass_28 (by decide) ?_
    refine lv_goto (tgt := 44) hx hb dX7_pass_29 (by decide) ?_
    exact J44 0 _ _ _ (by rw [p_burn, clampB, if_pos (Int32.not_le.mp c25)]) (lv_sub hl [0, 1, 2] rfl) hO hS
-- 
set_option maxHeartbeats 400000 in
set_option maxRecDepth 100000 in
theorem k_X7_pass0 (l : Launch) (G : mG) (lo : Nat) (sa : mSc) (ad : Nat → Nat) (R : mM) (g : Nat → Int32) (nf : Nat) (F : Nat → Nat → Int32) (f : Nat → Int32) (no : Nat) (O : Nat → Nat → Int32) (w : Int32) (b qn : Nat) (hnf : nf ≤ 12) (hno : no ≤ 20) (hb9 : nf ≤ b) (hFv : ∀ i, i < nf → FrV (F i)) (hOv : ∀ j, j < no → OrV (O j)) (hq : g 3 = nI qn) (hqn : qn ≤ 900000) : mV l yX7_pass cX7_pass 8 0 0 G lo sa ad (WS G ad g nf F f no O w R) [.ref (ad 50), .null] (fun R' => R' = (WS G ad (m_qG g) nf (m_coolTo nf b F) f no (m_qO no g O) w R)) := by
  refine mV_of (by decide) (Nat.le_of_ble_eq_true rfl) ?_
  intro p e s m args below meth c hF hr hlk hC ls hl hO hS Q hQ
  have hx := hF.1
  have hb := hF.2.1
  have hl : lv_has ls 8 [(0, .ref (ad 50)), (1, .null)] := hl
  refine lv_aload_n hx hb dX7_pass_0 rfl (lv_at hl 0 rfl) ?_
  refine m_get inX7 hF hC hO rfl rfl 1 (by decide) q_503 (v := .int (g 1)) rfl dX7_pass_1 ?_
  refine lv_bipush (v := 6) hx hb dX7_pass_4 (by decide) ?_
  refine lv_aload_n hx hb dX7_pass_6 rfl (lv_at hl 0 rfl) ?_
  refine m_get inX7 hF hC hO rfl rfl 2 (by decide) q_506 (v := .int (g 2)) rfl dX7_pass_7 ?_
  refine lv_imul hx hb dX7_pass_10 ?_
  refine lv_iadd hx hb dX7_pass_11 ?_
  refine lv_istore_n (lv' := [(2, .int ((g 1) + (6 * (g 2)))), (0, .ref (ad 50)), (1, .null)]) hx hb dX7_pass_12 rfl hl (by decide) rfl (fun ls hl => ?_)
  refine lv_iload_n hx hb dX7_pass_13 rfl (lv_at hl 0 rfl) ?_
  refine lv_iload_n hx hb dX7_pass_14 rfl (lv_at hl 0 rfl) ?_
  refine lv_bipush (v := 20) hx hb dX7_pass_15 (by decide) ?_
  refine lv_isub hx hb dX7_pass_17 ?_
  refine lv_bipush (v := 10) hx hb dX7_pass_18 (by decide) ?_
  refine lv_idiv hx hb dX7_pass_20 (by decide) ?_
  refine lv_isub hx hb dX7_pass_21 ?_
  refine lv_istore_n (lv' := [(2, .int (((g 1) + (6 * (g 2))) - ((((g 1) + (6 * (g 2))) - 20) / 10))), (0, .ref (ad 50)), (1, .null)]) hx hb dX7_pass_22 rfl hl (by decide) rfl (fun ls hl => ?_)
  refine lv_aload_n hx hb dX7_pass_23 rfl (lv_at hl 1 rfl) ?_
  refine lv_iload_n hx hb dX7_pass_24 rfl (lv_at hl 0 rfl) ?_
  have J44 : ∀ (x44 : Int32) (H : Heap) (locs : List Loc) (ls : Array Slot), x44 = p_burn (g 2) (g 1) → lv_has ls 8 [(2, .int (((g 1) + (6 * (g 2))) - ((((g 1) + (6 * (g 2))) - 20) / 10))), (0, .ref (ad 50)), (1, .null)] → mO G lo ad (WS G ad g nf F f no O w R) H → va_S (mA lo) s.heap H locs → W p l e (mRm 0 0) s m args below meth c H locs 0 0 Q (F0 m 44 ls [.int x44, .ref (ad 50)]) := by
    intro x44 H locs ls hx44 hl hO hS
    subst hx44
    refine m_put (ty := .int) tyX7 tyX7_ok nmX7 inX7 hF hC hO hS rfl rfl 1 (by decide) q_503 rfl (by decide +kernel) rfl rfl (fs' := [.int (g 0), .int (p_burn (g 2) (g 1)), .int (g 2), .ref (ad 51), .ref (ad 52), .ref (ad 57), .int (g 3), .int (g 4), .int w]) (Nat.le_of_ble_eq_true rfl) rfl dX7_pass_44 (fun H locs hO hS => ?_)
    have hO : mO G lo ad (mU (WS G ad g nf F f no O w R) 50 (sO ad (upd g 1 (p_burn (g 2) (g 1))) w)) H := hO
    rw [WS_w0] at hO
    refine lv_aload_n hx hb dX7_pass_47 rfl (lv_at hl 1 rfl) ?_
    refine m_get inX7 hF hC hO rfl rfl 3 (by decide) q_507 (v := .ref (ad 51)) rfl dX7_pass_48 ?_
    refine lv_astore_n (lv' := [(3, .ref (ad 51)), (2, .int (((g 1) + (6 * (g 2))) - ((((g 1) + (6 * (g 2))) - 20) / 10))), (0, .ref (ad 50)), (1, .null)]) hx hb dX7_pass_51 rfl hl (by decide) rfl (fun ls hl => ?_)
    refine lv_aload_n hx hb dX7_pass_52 rfl (lv_at hl 0 rfl) ?_
    refine m_alen 2 hF hC hO rfl rfl (v := (nI nf)) rfl dX7_pass_53 ?_
    refine lv_istore (lv' := [(4, .int (nI nf)), (3, .ref (ad 51)), (2, .int (((g 1) + (6 * (g 2))) - ((((g 1) + (6 * (g 2))) - 20) / 10))), (0, .ref (ad 50)), (1, .null)]) hx hb dX7_pass_54 hl (by decide) rfl (fun ls hl => ?_)
    refine lv_iconst (v := 0) hx hb dX7_pass_56 (by decide) ?_
    refine lv_istore (lv' := [(5, .int 0), (4, .int (nI nf)), (3, .ref (ad 51)), (2, .int (((g 1) + (6 * (g 2))) - ((((g 1) + (6 * (g 2))) - 20) / 10))), (0, .ref (ad 50)), (1, .null)]) hx hb dX7_pass_57 hl (by decide) rfl (fun ls hl => ?_)
    have L59 : ∀ (n : Nat) (i : Nat) (H : Heap) (locs : List Loc) (ls : Array Slot), nf - i < n → i ≤ nf → lv_has ls 8 [(0, .ref (ad 50)), (1, .null), (3, .ref (ad 51)), (4, .int (nI nf)), (5, .int (nI i))] → mO G lo ad (WS G ad (upd g 1 (p_burn (g 2) (g 1))) nf (m_coolTo i b F) f no O w R) H → va_S (mA lo) s.heap H locs → W p l e (mRm 0 0) s m args below meth c H locs 0 0 Q (F0 m 59 ls []) := by
      intro n
      induction n with
      | zero => intro i H locs ls hn; exact absurd hn (Nat.not_lt_zero _)
      | succ n ih59 =>
        intro i H locs ls hn59 hi hl hO hS
        refine lv_iload hx hb dX7_pass_59 (lv_at hl 4 rfl) ?_
        refine lv_iload hx hb dX7_pass_61 (lv_at hl 3 rfl) ?_
        refine lv_icmp_ge (tgt := 142) hx hb dX7_pass_63 (by decide) (fun c63 => ?_) (fun c63 => ?_)
        · have e8 : i = nf := Nat.le_antisymm hi (nI_E (a := nf) (b := i) (by omega) (by omega) c63)
          rw [e8] at hO
          refine lv_aload_n hx hb dX7_pass_142 rfl (lv_at hl 0 rfl) ?_
          refine lv_dup hx hb dX7_pass_143 rfl ?_
          refine m_get inX7 hF hC hO rfl rfl 6 (by decide) q_514 (v := .int (g 3)) rfl dX7_pass_144 ?_
          refine lv_iconst (v := 1) hx hb dX7_pass_147 (by decide) ?_
          refine lv_iadd hx hb dX7_pass_148 ?_
          refine m_put (ty := .int) tyX7 tyX7_ok nmX7 inX7 hF hC hO hS rfl rfl 6 (by decide) q_514 rfl (by decide +kernel) rfl rfl (fs' := [.int (g 0), .int (p_burn (g 2) (g 1)), .int (g 2), .ref (ad 51), .ref (ad 52), .ref (ad 57), .int ((g 3) + 1), .int (g 4), .int w]) (Nat.le_of_ble_eq_true rfl) rfl dX7_pass_149 (fun H locs hO hS => ?_)
          have hO : mO G lo ad (mU (WS G ad (upd g 1 (p_burn (g 2) (g 1))) nf (m_coolTo nf b F) f no O w R) 50 (sO ad (upd (upd g 1 (p_burn (g 2) (g 1))) 3 ((g 3) + 1)) w)) H := hO
          rw [WS_w0] at hO
          refine lv_aload_n hx hb dX7_pass_152 rfl (lv_at hl 0 rfl) ?_
          refine m_get inX7 hF hC hO rfl rfl 5 (by decide) q_511 (v := .ref (ad 57)) rfl dX7_pass_153 ?_
          refine lv_astore_n (lv' := [(3, .ref (ad 57)), (0, .ref (ad 50)), (1, .null), (4, .int (nI nf)), (5, .int (nI i))]) hx hb dX7_pass_156 rfl hl (by decide) rfl (fun ls hl => ?_)
          refine lv_aload_n hx hb dX7_pass_157 rfl (lv_at hl 0 rfl) ?_
          refine m_alen 1 hF hC hO rfl rfl (v := (nI no)) rfl dX7_pass_158 ?_
          refine lv_istore (lv' := [(4, .int (nI no)), (3, .ref (ad 57)), (0, .ref (ad 50)), (1, .null), (5, .int (nI i))]) hx hb dX7_pass_159 hl (by decide) rfl (fun ls hl => ?_)
          have hO : mO G lo ad (WS G ad (m_qG g) nf (m_coolTo nf b F) f no O w R) H := hO
          refine lv_iconst (v := 0) hx hb dX7_pass_161 (by decide) ?_
          refine lv_istore (lv' := [(5, .int 0), (4, .int (nI no)), (3, .ref (ad 57)), (0, .ref (ad 50)), (1, .null)]) hx hb dX7_pass_162 hl (by decide) rfl (fun ls hl => ?_)
          have L164 : ∀ (n : Nat) (j : Nat) (H : Heap) (locs : List Loc) (ls : Array Slot), no - j < n → j ≤ no → lv_has ls 8 [(0, .ref (ad 50)), (1, .null), (3, .ref (ad 57)), (4, .int (nI no)), (5, .int (nI j))] → mO G lo ad (WS G ad (m_qG g) nf (m_coolTo nf b F) f no (s_lateTo j (g 3 + 1) O) w R) H → va_S (mA lo) s.heap H locs → W p l e (mRm 0 0) s m args below meth c H locs 0 0 Q (F0 m 164 ls []) := by
            intro n
            induction n with
            | zero => intro j H locs ls hn; exact absurd hn (Nat.not_lt_zero _)
            | succ n ih164 =>
              intro j H locs ls hn164 hj hl hO hS
              refine lv_iload hx hb dX7_pass_164 (lv_at hl 4 rfl) ?_
              refine lv_iload hx hb dX7_pass_166 (lv_at hl 3 rfl) ?_
              refine lv_icmp_ge (tgt := 222) hx hb dX7_pass_168 (by decide) (fun c168 => ?_) (fun c168 => ?_)
              · refine m_vret hF hr hlk hQ hO hS dX7_pass_222 ?_
                have e9 : j = no := Nat.le_antisymm hj (nI_E (a := no) (b := j) (by omega) (by omega) c168)
                subst e9
                rfl
              · have hjn : j < no := (nI_nE (a := no) (b := j) (by omega) (by omega) c168)
                obtain ⟨-, dd, hdd, ed⟩ := hOv j hjn
                have hq1 : g 3 + 1 = nI (qn + 1) := by rw [hq]; exact nI_1 qn
                refine lv_aload_n hx hb dX7_pass_171 rfl (lv_at hl 2 rfl) ?_
                refine lv_iload hx hb dX7_pass_172 (lv_at hl 4 rfl) ?_
                refine m_aldA hF hC hO rfl (j := j) (nI_clamp (by omega)) (vp_in_nI hjn (by omega)) dX7_pass_174 (v := .ref (ad (220 + j))) (adF_in (by first | assumption | omega)) ?_
                refine lv_astore (lv' := [(6, .ref (ad (220 + j))), (0, .ref (ad 50)), (1, .null), (3, .ref (ad 57)), (4, .int (nI no)), (5, .int (nI j))]) hx hb dX7_pass_175 hl (by decide) rfl (fun ls hl => ?_)
                refine lv_aload_n hx hb dX7_pass_177 rfl (lv_at hl 1 rfl) ?_
                refine m_get inX7 hF hC hO rfl rfl 6 (by decide) q_514 (v := .int ((m_qG g) 3)) rfl dX7_pass_178 ?_
                refine lv_bipush (v := 40) hx hb dX7_pass_181 (by decide) ?_
                refine lv_irem hx hb dX7_pass_183 (by decide) ?_
                refine lv_if_ne (tgt := 216) hx hb dX7_pass_184 (by decide) (fun c184 => ?_) (fun c184 => ?_)
                · refine lv_iinc (v := (nI (j + 1))) (lv' := [(5, .int (nI (j + 1))), (6, .ref (ad (220 + j))), (0, .ref (ad 50)), (1, .null), (3, .ref (ad 57)), (4, .int (nI no))]) hx hb dX7_pass_216 hl (k := 5) rfl (nI_inc j) (by decide) rfl (fun ls hl => ?_)
                  refine lv_goto (tgt := 164) hx hb dX7_pass_219 (by decide) ?_
                  have c184 : ¬ (g 3 + 1) - (g 3 + 1) / 40 * 40 = 0 := c184
                  rw [s_lateTo_n c184] at hO
                  exact ih164 (j + 1) _ _ _ (by omega) (by omega) (lv_sub hl [2, 3, 4, 5, 0] rfl) hO hS
                · refine lv_aload hx hb dX7_pass_187 (lv_at hl 0 rfl) ?_
                  refine lv_iconst (v := 4) hx hb dX7_pass_189 (by decide) ?_
                  refine m_iald hF hC hO (WS_O (i := j) (by assumption) hno) (j := 4) (by decide) (vp_in_nI (n := 4) (by decide) (by decide)) dX7_pass_190 ?_
                  refine lv_if_ne (tgt := 216) hx hb dX7_pass_191 (by decide) (fun c191 => ?_) (fun c191 => ?_)
                  · refine lv_iinc (v := (nI (j + 1))) (lv' := [(5, .int (nI (j + 1))), (6, .ref (ad (220 + j))), (0, .ref (ad 50)), (1, .null), (3, .ref (ad 57)), (4, .int (nI no))]) hx hb dX7_pass_216 hl (k := 5) rfl (nI_inc j) (by decide) rfl (fun ls hl => ?_)
                    refine lv_goto (tgt := 164) hx hb dX7_pass_219 (by decide) ?_
                    have c184 : (g 3 + 1) - (g 3 + 1) / 40 * 40 = 0 := c184
                    rw [s_lateTo_at] at c191
                    rw [s_lateTo_b c184 (fun h => c191 h.1)] at hO
                    exact ih164 (j + 1) _ _ _ (by omega) (by omega) (lv_sub hl [2, 3, 4, 5, 0] rfl) hO hS
                  · refine lv_bipush (v := 40) hx hb dX7_pass_194 (by decide) ?_
                    refine lv_aload hx hb dX7_pass_196 (lv_at hl 0 rfl) ?_
                    refine lv_iconst (v := 3) hx hb dX7_pass_198 (by decide) ?_
                    refine m_iald hF hC hO (WS_O (i := j) (by assumption) hno) (j := 3) (by decide) (vp_in_nI (n := 3) (by decide) (by decide)) dX7_pass_199 ?_
                    refine lv_imul hx hb dX7_pass_200 ?_
                    refine lv_bipush (v := 40) hx hb dX7_pass_201 (by decide) ?_
                    refine lv_iadd hx hb dX7_pass_203 ?_
                    refine lv_aload_n hx hb dX7_pass_204 rfl (lv_at hl 1 rfl) ?_
                    refine m_get inX7 hF hC hO rfl rfl 6 (by decide) q_514 (v := .int ((m_qG g) 3)) rfl dX7_pass_205 ?_
                    refine lv_icmp_gt (tgt := 216) hx hb dX7_pass_208 (by decide) (fun c208 => ?_) (fun c208 => ?_)
                    · refine lv_iinc (v := (nI (j + 1))) (lv' := [(5, .int (nI (j + 1))), (6, .ref (ad (220 + j))), (0, .ref (ad 50)), (1, .null), (3, .ref (ad 57)), (4, .int (nI no))]) hx hb dX7_pass_216 hl (k := 5) rfl (nI_inc j) (by decide) rfl (fun ls hl => ?_)
                      refine lv_goto (tgt := 164) hx hb dX7_pass_219 (by decide) ?_
                      have c184 : (g 3 + 1) - (g 3 + 1) / 40 * 40 = 0 := c184
                      rw [s_lateTo_at] at c208
                      rw [s_lateTo_b c184 (fun h => absurd ((day_lt ed (by omega) hq1 (by omega) c184).mp h.2) (Int32.not_le.mpr c208))] at hO
                      exact ih164 (j + 1) _ _ _ (by omega) (by omega) (lv_sub hl [2, 3, 4, 5, 0] rfl) hO hS
                    · refine lv_aload hx hb dX7_pass_211 (lv_at hl 0 rfl) ?_
                      refine lv_iconst (v := 4) hx hb dX7_pass_213 (by decide) ?_
                      refine lv_iconst (v := 2) hx hb dX7_pass_214 (by decide) ?_
                      refine m_iast hF hC hO hS (WS_O (i := j) (by assumption) hno) (j := 4) (by decide) (vp_in_nI (n := 4) (by decide) (by decide)) dX7_pass_215 (fun H locs hO hS => ?_)
                      have hO : mO G lo ad (mU (WS G ad (m_qG g) nf (m_coolTo nf b F) f no (s_lateTo j (g 3 + 1) O) w R) (220 + j) (.inl (G.2 0, 5, .inl (upd ((s_lateTo j (g 3 + 1) O) j) 4 2)))) H := hO
                      rw [WS_wO (by assumption) hno] at hO
                      refine lv_iinc (v := (nI (j + 1))) (lv' := [(5, .int (nI (j + 1))), (6, .ref (ad (220 + j))), (0, .ref (ad 50)), (1, .null), (3, .ref (ad 57)), (4, .int (nI no))]) hx hb dX7_pass_216 hl (k := 5) rfl (nI_inc j) (by decide) rfl (fun ls hl => ?_)
                      refine lv_goto (tgt := 164) hx hb dX7_pass_219 (by decide) ?_
                      have c184 : (g 3 + 1) - (g 3 + 1) / 40 * 40 = 0 := c184
                      rw [s_lateTo_at] at c191 c208
                      rw [s_lateTo_s c184 ⟨c191, (day_lt ed (by omega) hq1 (by omega) c184).mpr (Int32.not_lt.mp c208)⟩] at hO
                      exact ih164 (j + 1) _ _ _ (by omega) (by omega) (lv_sub hl [2, 3, 4, 5, 0] rfl) hO hS
          rw [show WS G ad (m_qG g) nf (m_coolTo nf b F) f no O w R = WS G ad (m_qG g) nf (m_coolTo nf b F) f no (s_lateTo 0 (g 3 + 1) O) w R from by rw [s_lateTo_0]] at hO
          exact L164 _ 0 _ _ _ (Nat.lt_succ_self _) (by omega) (lv_sub hl [3, 4, 2, 1, 0] rfl) hO hS
        · have hin : i < nf := (nI_nE (a := nf) (b := i) (by omega) (by omega) c63)
          have hfr : FrV (m_coolTo i b F i) := by rw [m_coolTo_at]; exact hFv i hin
          have hpl := hfr.2.1
          refine lv_aload_n hx hb dX7_pass_66 rfl (lv_at hl 2 rfl) ?_
          refine lv_iload hx hb dX7_pass_67 (lv_at hl 4 rfl) ?_
          refine m_aldP hF hC hO rfl (j := i) (nI_clamp (by omega)) (vp_in_nI hin (by omega)) dX7_pass_69 (v := .ref (ad (200 + i))) (adF_in (by first | assumption | omega)) ?_
          refine lv_astore (lv' := [(6, .ref (ad (200 + i))), (0, .ref (ad 50)), (1, .null), (3, .ref (ad 51)), (4, .int (nI nf)), (5, .int (nI i))]) hx hb dX7_pass_70 hl (by decide) rfl (fun ls hl => ?_)
          refine lv_aload hx hb dX7_pass_72 (lv_at hl 0 rfl) ?_
          refine m_get inX6 hF hC hO (WS_F (i := i) (by assumption) hnf) rfl 5 (by decide) q_581 (v := .int (((m_coolTo i b F) i) 5)) rfl dX7_pass_74 ?_
          have J101 : ∀ (x101 : Int32) (H : Heap) (locs : List Loc) (ls : Array Slot), x101 = p_cooling (m_coolTo i b F i) → lv_has ls 8 [(6, .ref (ad (200 + i))), (0, .ref (ad 50)), (1, .null), (3, .ref (ad 51)), (4, .int (nI nf)), (5, .int (nI i))] → mO G lo ad (WS G ad (upd g 1 (p_burn (g 2) (g 1))) nf (m_coolTo i b F) f no O w R) H → va_S (mA lo) s.heap H locs → W p l e (mRm 0 0) s m args below meth c H locs 0 0 Q (F0 m 101 ls [.int x101]) := by
            intro x101 H locs ls hx101 hl hO hS
            subst hx101
            refine lv_istore (lv' := [(7, .int (p_cooling (m_coolTo i b F i))), (6, .ref (ad (200 + i))), (0, .ref (ad 50)), (1, .null), (3, .ref (ad 51)), (4, .int (nI nf)), (5, .int (nI i))]) hx hb dX7_pass_101 hl (by decide) rfl (fun ls hl => ?_)
            refine lv_aload hx hb dX7_pass_103 (lv_at hl 1 rfl) ?_
            refine lv_aload_nN hx hb dX7_pass_105 rfl (lv_at hl 3 rfl) ?_
            refine lv_acmp_eq (rx := (some (ad (200 + i)))) (ry := none) (tgt := 136) hx hb dX7_pass_106 (by decide) (fun c106 => nomatch c106) (fun c106 => ?_)
            refine lv_aload hx hb dX7_pass_109 (lv_at hl 1 rfl) ?_
            refine lv_aload hx hb dX7_pass_111 (lv_at hl 1 rfl) ?_
            refine m_get inX6 hF hC hO (WS_F (i := i) (by assumption) hnf) rfl 3 (by decide) q_575 (v := .int (((m_coolTo i b F) i) 3)) rfl dX7_pass_113 ?_
            refine lv_iload hx hb dX7_pass_116 (lv_at hl 0 rfl) ?_
            refine lv_icmp_le (tgt := 132) hx hb dX7_pass_118 (by decide) (fun c118 => ?_) (fun c118 => ?_)
            · refine lv_iconst (v := 0) hx hb dX7_pass_132 (by decide) ?_
              obtain ⟨-, tt, mm, cc9, -, hm9, -, -, em9, -⟩ := hfr.1
              obtain ⟨kk9, hk9, ek9⟩ := cooling_n (m_coolTo i b F i)
              rw [show 0 = (jmax 0 (m_coolTo i b F i 3 - p_cooling (m_coolTo i b F i))) from by rw [coolB (m := mm) (k := kk9) (by omega) (by omega) em9 ek9, if_pos c118]]
              refine m_put (ty := .int) tyX6 tyX6_ok nmX6 inX6 hF hC hO hS (WS_F (i := i) (by assumption) hnf) rfl 3 (by decide) q_575 rfl (by decide +kernel) rfl rfl (fs' := [.int (((m_coolTo i b F) i) 0), .int (((m_coolTo i b F) i) 1), .int (((m_coolTo i b F) i) 2), .int (jmax 0 (m_coolTo i b F i 3 - p_cooling (m_coolTo i b F i))), .int (((m_coolTo i b F) i) 4), .int (((m_coolTo i b F) i) 5), .int (((m_coolTo i b F) i) 6)]) (Nat.le_of_ble_eq_true rfl) rfl dX7_pass_133 (fun H locs hO hS => ?_)
              have hO : mO G lo ad (mU (WS G ad (upd g 1 (p_burn (g 2) (g 1))) nf (m_coolTo i b F) f no O w R) (200 + i) (lfO (upd ((m_coolTo i b F) i) 3 (jmax 0 (m_coolTo i b F i 3 - p_cooling (m_coolTo i b F i)))))) H := hO
              rw [WS_wF (by assumption) hnf] at hO
              refine lv_iinc (v := (nI (i + 1))) (lv' := [(5, .int (nI (i + 1))), (7, .int (p_cooling (m_coolTo i b F i))), (6, .ref (ad (200 + i))), (0, .ref (ad 50)), (1, .null), (3, .ref (ad 51)), (4, .int (nI nf))]) hx hb dX7_pass_136 hl (k := 6) rfl (nI_inc i) (by decide) rfl (fun ls hl => ?_)
              refine lv_goto (tgt := 59) hx hb dX7_pass_139 (by decide) ?_
              rw [show va_up (m_coolTo i b F) i (upd (m_coolTo i b F i) 3 (jmax 0 (m_coolTo i b F i 3 - p_cooling (m_coolTo i b F i)))) = m_coolTo (i + 1) b F from m_coolTo_s (by omega)] at hO
              exact ih59 (i + 1) _ _ _ (by omega) (by omega) (lv_sub hl [3, 4, 5, 6, 0] rfl) hO hS
            · refine lv_aload hx hb dX7_pass_121 (lv_at hl 1 rfl) ?_
              refine m_get inX6 hF hC hO (WS_F (i := i) (by assumption) hnf) rfl 3 (by decide) q_575 (v := .int (((m_coolTo i b F) i) 3)) rfl dX7_pass_123 ?_
              refine lv_iload hx hb dX7_pass_126 (lv_at hl 0 rfl) ?_
              refine lv_isub hx hb dX7_pass_128 ?_
              refine lv_goto (tgt := 133) hx hb dX7_pass_129 (by decide) ?_
              obtain ⟨-, tt, mm, cc9, -, hm9, -, -, em9, -⟩ := hfr.1
              obtain ⟨kk9, hk9, ek9⟩ := cooling_n (m_coolTo i b F i)
              rw [show ((((m_coolTo i b F) i) 3) - (p_cooling (m_coolTo i b F i))) = (jmax 0 (m_coolTo i b F i 3 - p_cooling (m_coolTo i b F i))) from by rw [coolB (m := mm) (k := kk9) (by omega) (by omega) em9 ek9, if_neg c118]]
              refine m_put (ty := .int) tyX6 tyX6_ok nmX6 inX6 hF hC hO hS (WS_F (i := i) (by assumption) hnf) rfl 3 (by decide) q_575 rfl (by decide +kernel) rfl rfl (fs' := [.int (((m_coolTo i b F) i) 0), .int (((m_coolTo i b F) i) 1), .int (((m_coolTo i b F) i) 2), .int (jmax 0 (m_coolTo i b F i 3 - p_cooling (m_coolTo i b F i))), .int (((m_coolTo i b F) i) 4), .int (((m_coolTo i b F) i) 5), .int (((m_coolTo i b F) i) 6)]) (Nat.le_of_ble_eq_true rfl) rfl dX7_pass_133 (fun H locs hO hS => ?_)
              have hO : mO G lo ad (mU (WS G ad (upd g 1 (p_burn (g 2) (g 1))) nf (m_coolTo i b F) f no O w R) (200 + i) (lfO (upd ((m_coolTo i b F) i) 3 (jmax 0 (m_coolTo i b F i 3 - p_cooling (m_coolTo i b F i)))))) H := hO
              rw [WS_wF (by assumption) hnf] at hO
              refine lv_iinc (v := (nI (i + 1))) (lv' := [(5, .int (nI (i + 1))), (7, .int (p_cooling (m_coolTo i b F i))), (6, .ref (ad (200 + i))), (0, .ref (ad 50)), (1, .null), (3, .ref (ad 51)), (4, .int (nI nf))]) hx hb dX7_pass_136 hl (k := 6) rfl (nI_inc i) (by decide) rfl (fun ls hl => ?_)
              refine lv_goto (tgt := 59) hx hb dX7_pass_139 (by decide) ?_
              rw [show va_up (m_coolTo i b F) i (upd (m_coolTo i b F i) 3 (jmax 0 (m_coolTo i b F i 3 - p_cooling (m_coolTo i b F i)))) = m_coolTo (i + 1) b F from m_coolTo_s (by omega)] at hO
              exact ih59 (i + 1) _ _ _ (by omega) (by omega) (lv_sub hl [3, 4, 5, 6, 0] rfl) hO hS
          refine lv_if_ge (tgt := 84) hx hb dX7_pass_77 (by decide) (fun c77 => ?_) (fun c77 => ?_)
          · refine lv_aload hx hb dX7_pass_84 (lv_at hl 0 rfl) ?_
            refine m_get inX6 hF hC hO (WS_F (i := i) (by assumption) hnf) rfl 5 (by decide) q_581 (v := .int (((m_coolTo i b F) i) 5)) rfl dX7_pass_86 ?_
            refine lv_bipush (v := 6) hx hb dX7_pass_89 (by decide) ?_
            refine lv_icmp_ge (tgt := 99) hx hb dX7_pass_91 (by decide) (fun c91 => ?_) (fun c91 => ?_)
            · refine lv_bipush (v := 6) hx hb dX7_pass_99 (by decide) ?_
              exact J101 6 _ _ _ (by rw [cooling_p hpl, if_neg (Int32.not_lt.mpr c77), if_neg (Int32.not_lt.mpr c91)]) (lv_sub hl [0, 1, 2, 3, 4, 5] rfl) hO hS
            · refine lv_bipush (v := 12) hx hb dX7_pass_94 (by decide) ?_
              refine lv_goto (tgt := 101) hx hb dX7_pass_96 (by decide) ?_
              exact J101 12 _ _ _ (by rw [cooling_p hpl, if_neg (Int32.not_lt.mpr c77), if_pos (Int32.not_le.mp c91)]) (lv_sub hl [0, 1, 2, 3, 4, 5] rfl) hO hS
          · refine lv_iconst (v := 3) hx hb dX7_pass_80 (by decide) ?_
            refine lv_goto (tgt := 101) hx hb dX7_pass_81 (by decide) ?_
            exact J101 3 _ _ _ (by rw [cooling_p hpl, if_pos (Int32.not_le.mp c77)]) (lv_sub hl [0, 1, 2, 3, 4, 5] rfl) hO hS
    rw [show F = m_coolTo 0 b F from m_coolTo_0.symm] at hO
    exact L59 _ 0 _ _ _ (Nat.lt_succ_self _) (by omega) (lv_sub hl [4, 5, 2, 1, 0] rfl) hO hS
  refine lv_if_ge (tgt := 32) hx hb dX7_pass_25 (by decide) (fun c25 => ?_) (fun c25 => ?_)
  · refine lv_iload_n hx hb dX7_pass_32 rfl (lv_at hl 0 rfl) ?_
    refine lv_bipush (v := 120) hx hb dX7_pass_33 (by decide) ?_
    refine lv_icmp_le (tgt := 43) hx hb dX7_pass_35 (by decide) (fun c35 => ?_) (fun c35 => ?_)
    · refine lv_iload_n hx hb dX7_pass_43 rfl (lv_at hl 0 rfl) ?_
      exact J44 (((g 1) + (6 * (g 2))) - ((((g 1) + (6 * (g 2))) - 20) / 10)) _ _ _ (by rw [p_burn, clampB, if_neg (Int32.not_lt.mpr c25), if_pos c35]) (lv_sub hl [0, 1, 2] rfl) hO hS
    · refine lv_bipush (v := 120) hx hb dX7_pass_38 (by decide) ?_
      refine lv_goto (tgt := 44) hx hb dX7_pass_40 (by decide) ?_
      exact J44 120 _ _ _ (by rw [p_burn, clampB, if_neg (Int32.not_lt.mpr c25), if_neg c35]) (lv_sub hl [0, 1, 2] rfl) hO hS
  · refine lv_iconst (v := 0) hx hb dX7_pass_28 (by decide) ?_
    refine lv_goto (tgt := 44) hx hb dX7_pass_29 (by decide) ?_
    exact J44 0 _ _ _ (by rw [p_burn, clampB, if_pos (Int32.not_le.mp c25)]) (lv_sub hl [0, 1, 2] rfl) hO hS
