theorem ok_X6_possible : mOK RX6 yX6_possible cX6_possible 3 (some .int) 0 := ⟨q_898, q_899, q_6, q_900, by decide +kernel⟩
set_option maxHeartbeats 400000 in
set_option maxRecDepth 100000 in
theorem k_X6_possible (l : Launch) (G : mG) (lo : Nat) (sa ad : Nat → Nat) (R : mM) (th : Int32) (g : Nat → Int32) (nf : Nat) (F : Nat → Nat → Int32) (f : Nat → Int32) (no : Nat) (O : Nat → Nat → Int32) (it ch : Nat → Int32) (hnf : nf ≤ 12) (hno : no ≤ 20) (hOk : ∀ j, j < no → ∃ kk zz mm : Nat, kk < 4 ∧ 1 ≤ zz ∧ zz ≤ 9 ∧ 1 ≤ mm ∧ mm ≤ 60 ∧ O j 0 = nI kk ∧ O j 1 = nI zz ∧ O j 2 = nI mm) (hfS : okS f) : mI l yX6_possible cX6_possible 3 .int 2 50 G lo sa ad (WM G ad th g nf F f no O it ch R) [.ref (ad 50)] (fun v R' => v = dSum (fun k => (dRz O f no k 9 []).length) 4 0 0 ∧ ∃ (ch' : Nat → Int32), R' = (WM G ad 0 g nf F f no O it ch' R)) := by
  refine mI_of (by decide) (Nat.le_of_ble_eq_true rfl) ?_
  intro p e s m args below meth c hF hr hlk hC ls hl hO hS Q hQ
  have hx := hF.1
  have hb := hF.2.1
  have hl : lv_has ls 3 [(0, .ref (ad 50))] := hl
  refine lv_aload_n hx hb dX6_possible_0 rfl (lv_at hl 0 rfl) ?_
  refine lv_iconst (v := 0) hx hb dX6_possible_1 (by decide) ?_
  refine m_put (ty := .int) tyX6 tyX6_ok nmX6 inX6 hF hC hO hS rfl rfl 0 (by decide) q_662 rfl (by decide +kernel) rfl rfl (fs' := [.int 0, .int (g 0), .int (g 1), .int (g 2), .int (nI nf), .ref (ad 51), .ref (ad 52), .int (nI no), .ref (ad 53), .int (g 3), .int (g 4), .int (g 5), .ref (ad 54), .ref (ad 55)]) (Nat.le_of_ble_eq_true rfl) rfl dX6_possible_2 (fun H locs hO hS => ?_)
  have hO : mO G lo ad (mU (WM G ad th g nf F f no O it ch R) 50 (mxO ad 0 g nf no)) H := hO
  rw [WM_w0] at hO
  refine lv_iconst (v := 0) hx hb dX6_possible_5 (by decide) ?_
  refine lv_istore_n (lv' := [(1, .int 0), (0, .ref (ad 50))]) hx hb dX6_possible_6 rfl hl (by decide) rfl (fun ls hl => ?_)
  refine lv_iconst (v := 0) hx hb dX6_possible_7 (by decide) ?_
  refine lv_istore_n (lv' := [(2, .int 0), (1, .int 0), (0, .ref (ad 50))]) hx hb dX6_possible_8 rfl hl (by decide) rfl (fun ls hl => ?_)
  have L9 : ∀ (n : Nat) (k : Nat) (acc : Int32) (c9 : Nat → Int32) (H : Heap) (locs : List Loc) (ls : Array Slot), 4 - k < n → k ≤ 4 → dSum (fun k => (dRz O f no k 9 []).length) (4 - k) k acc = dSum (fun k => (dRz O f no k 9 []).length) 4 0 0 → lv_has ls 3 [(0, .ref (ad 50)), (2, .int (nI k)), (1, .int acc)] → mO G lo ad (WM G ad 0 g nf F f no O it c9 R) H → va_S (mA lo) s.heap H locs → W p l e (mRm 2 50) s m args below meth c H locs 0 0 Q (F0 m 9 ls []) := by
    intro n
    induction n with
    | zero => intro k acc c9 H locs ls hn; exact absurd hn (Nat.not_lt_zero _)
    | succ n ih9 =>
      intro k acc c9 H locs ls hn9 hk hv hl hO hS
      refine lv_iload_n hx hb dX6_possible_9 rfl (lv_at hl 1 rfl) ?_
      refine lv_iconst (v := 4) hx hb dX6_possible_10 (by decide) ?_
      refine lv_icmp_ge (tgt := 28) hx hb dX6_possible_11 (by decide) (fun c11 => ?_) (fun c11 => ?_)
      · refine lv_iload_n hx hb dX6_possible_28 rfl (lv_at hl 2 rfl) ?_
        refine m_iret hF hr hlk hQ rfl hO hS dX6_possible_29 ?_
        have e9 : k = 4 := Nat.le_antisymm hk (nI_E (a := 4) (b := k) (by decide) (by omega) c11)
        subst e9
        exact ⟨hv, _, rfl⟩
      · refine lv_iload_n hx hb dX6_possible_14 rfl (lv_at hl 2 rfl) ?_
        refine lv_aload_n hx hb dX6_possible_15 rfl (lv_at hl 0 rfl) ?_
        refine lv_iload_n hx hb dX6_possible_16 rfl (lv_at hl 1 rfl) ?_
        refine m_vI (As := [.int (nI k)]) (rest := [.int acc]) (n := 1) hF hC hO hS (k_X6_possibleOf l G lo sa ad R 0 g nf F f no O it c9 k hnf hno (by have := (nI_nE (a := 4) (b := k) (by decide) (by omega) c11); omega) hOk hfS) ok_X6_possibleOf q_901 rfl rfl ⟨Nat.le_of_ble_eq_true rfl, Nat.le_of_ble_eq_true rfl⟩ rfl hl.1 rfl (Nat.le_of_ble_eq_true rfl) ⟨Nat.le_of_ble_eq_true rfl, Nat.le_of_ble_eq_true rfl⟩ dX6_possible_17 (fun v17 R' H locs hp hO hS => ?_)
        obtain ⟨rfl, ch_17, hR⟩ := hp
        rw [hR] at hO
        refine lv_iadd hx hb dX6_possible_20 ?_
        refine lv_istore_n (lv' := [(1, .int (acc + (nI (dRz O f no k 9 []).length))), (0, .ref (ad 50)), (2, .int (nI k))]) hx hb dX6_possible_21 rfl hl (by decide) rfl (fun ls hl => ?_)
        refine lv_iinc (v := (nI (k + 1))) (lv' := [(2, .int (nI (k + 1))), (1, .int (acc + (nI (dRz O f no k 9 []).length))), (0, .ref (ad 50))]) hx hb dX6_possible_22 hl (k := 2) rfl (nI_inc k) (by decide) rfl (fun ls hl => ?_)
        refine lv_goto (tgt := 9) hx hb dX6_possible_25 (by decide) ?_
        exact ih9 (k + 1) (acc + (nI (dRz O f no k 9 []).length)) ch_17 _ _ _ (by have := (nI_nE (a := 4) (b := k) (by decide) (by omega) c11); omega) (by have := (nI_nE (a := 4) (b := k) (by decide) (by omega) c11); omega) (by have := (nI_nE (a := 4) (b := k) (by decide) (by omega) c11); rw [← hv, show 4 - k = (4 - (k + 1)) + 1 from by omega]; rfl) (lv_sub hl [2, 0, 1] rfl) hO hS
  exact L9 _ 0 0 ch _ _ _ (Nat.lt_succ_self _) (by omega) rfl (lv_sub hl [2, 0, 1] rfl) hO hS
theorem ok_X5_mean : mOK RX5 yX5_mean cX5_mean 7 (some .double) 0 := ⟨q_207, q_208, q_1, q_209, by decide +kernel⟩
set_option maxHeartbeats 400000 in
set_option maxRecDepth 100000 in
theorem k_X5_mean (l : Launch) (G : mG) (lo : Nat) (sa ad : Nat → Nat) (R : mM) (g : Nat → Int32) (nf : Nat) (F : Nat → Nat → Int32) (f : Nat → Int32) (no : Nat) (O : Nat → Nat → Int32) (tf tv fw : Nat → Int32) (hnf : nf ≤ 12) (hno : no ≤ 20) : mD l yX5_mean cX5_mean 7 0 0 G lo sa ad (WC G ad g nf F f no O tf tv fw R) [.ref (ad 0)] (fun v R' => ((0 < mnW nf 0 F 0 ∧ alike64 v (FP.ddiv (FP.i2d (mnS nf 0 F 0)) (FP.i2d (mnW nf 0 F 0))) = true) ∨ (¬ 0 < mnW nf 0 F 0 ∧ v = FP.dconst0)) ∧ R' = (WC G ad g nf F f no O tf tv fw R)) := by
  refine mD_of (by decide) (Nat.le_of_ble_eq_true rfl) ?_
  intro p e s m args below meth c hF hr hlk hC ls hl hO hS Q hQ
  have hx := hF.1
  have hb := hF.2.1
  have hl : lv_has ls 7 [(0, .ref (ad 0))] := hl
  refine lv_iconst (v := 0) hx hb dX5_mean_0 (by decide) ?_
  refine lv_istore_n (lv' := [(1, .int 0), (0, .ref (ad 0))]) hx hb dX5_mean_1 rfl hl (by decide) rfl (fun ls hl => ?_)
  refine lv_iconst (v := 0) hx hb dX5_mean_2 (by decide) ?_
  refine lv_istore_n (lv' := [(2, .int 0), (1, .int 0), (0, .ref (ad 0))]) hx hb dX5_mean_3 rfl hl (by decide) rfl (fun ls hl => ?_)
  refine lv_aload_n hx hb dX5_mean_4 rfl (lv_at hl 2 rfl) ?_
  refine m_get inX5 hF hC hO rfl rfl 1 (by decide) q_112 (v := .ref (ad 2)) rfl dX5_mean_5 ?_
  refine lv_astore_n (lv' := [(3, .ref (ad 2)), (2, .int 0), (1, .int 0), (0, .ref (ad 0))]) hx hb dX5_mean_8 rfl hl (by decide) rfl (fun ls hl => ?_)
  refine lv_aload_n hx hb dX5_mean_9 rfl (lv_at hl 0 rfl) ?_
  refine m_alen 3 hF hC hO rfl rfl (v := 12) rfl dX5_mean_10 ?_
  refine lv_istore (lv' := [(4, .int 12), (3, .ref (ad 2)), (2, .int 0), (1, .int 0), (0, .ref (ad 0))]) hx hb dX5_mean_11 hl (by decide) rfl (fun ls hl => ?_)
  refine lv_iconst (v := 0) hx hb dX5_mean_13 (by decide) ?_
  refine lv_istore (lv' := [(5, .int 0), (4, .int 12), (3, .ref (ad 2)), (2, .int 0), (1, .int 0), (0, .ref (ad 0))]) hx hb dX5_mean_14 hl (by decide) rfl (fun ls hl => ?_)
  have L16 : ∀ (n : Nat) (i : Nat) (ss : Int32) (ww : Int32) (H : Heap) (locs : List Loc) (ls : Array Slot), 12 - i < n → i ≤ 12 → mnS (nf - i) i F ss = mnS nf 0 F 0 → mnW (nf - i) i F ww = mnW nf 0 F 0 → lv_has ls 7 [(0, .ref (ad 0)), (3, .ref (ad 2)), (4, .int 12), (5, .int (nI i)), (1, .int ss), (2, .int ww)] → mO G lo ad (WC G ad g nf F f no O tf tv fw R) H → va_S (mA lo) s.heap H locs → W p l e (mRm 0 0) s m args below meth c H locs 0 0 Q (F0 m 16 ls []) := by
    intro n
    induction n with
    | zero => intro i ss ww H locs ls hn; exact absurd hn (Nat.not_lt_zero _)
    | succ n ih16 =>
      intro i ss ww H locs ls hn16 hi hv0 hv1 hl hO hS
      refine lv_iload hx hb dX5_mean_16 (lv_at hl 3 rfl) ?_
      refine lv_iload hx hb dX5_mean_18 (lv_at hl 2 rfl) ?_
      refine lv_icmp_ge (tgt := 62) hx hb dX5_mean_20 (by decide) (fun c20 => ?_) (fun c20 => ?_)
      · have e9 : i = 12 := Nat.le_antisymm hi (nI_E (a := 12) (b := i) (by omega) (by omega) c20)
        rw [show nf - i = 0 from by omega] at hv0 hv1
        have hs9 : ss = mnS nf 0 F 0 := hv0
        have hw9 : ww = mnW nf 0 F 0 := hv1
        refine lv_iload_n hx hb dX5_mean_62 rfl (lv_at hl 5 rfl) ?_
        refine lv_if_le (tgt := 74) hx hb dX5_mean_63 (by decide) (fun c63 => ?_) (fun c63 => ?_)
        · have hW9 : ¬ 0 < mnW nf 0 F 0 := by rw [← hw9]; exact Int32.not_lt.mpr c63
          refine lv_dconst0 hx hb dX5_mean_74 ?_
          refine W.base ?_
          refine m_dret (Drawn.sameBut.refl s.drawn lw_cs) hF hr hlk hQ hO hS dX5_mean_75 ?_
          exact ⟨Or.inr ⟨hW9, rfl⟩, rfl⟩
        · have hW9 : 0 < mnW nf 0 F 0 := by rw [← hw9]; exact Int32.not_le.mp c63
          refine lv_iload_n hx hb dX5_mean_66 rfl (lv_at hl 4 rfl) ?_
          refine lv_i2d hx hb dX5_mean_67 ?_
          refine lv_iload_n hx hb dX5_mean_68 rfl (lv_at hl 5 rfl) ?_
          refine lv_i2d hx hb dX5_mean_69 ?_
          refine W.base ?_
          refine lv_ddiv_any (Drawn.sameBut.refl s.drawn lw_cs) lw_bits hx hb dX5_mean_70 (fun r9 d1 hal hd1 => ?_)
          refine lv_goto (tgt := 75) hx hb dX5_mean_71 (by decide) ?_
          refine m_dret hd1 hF hr hlk hQ hO hS dX5_mean_75 ?_
          exact ⟨Or.inl ⟨hW9, by rw [← hs9, ← hw9]; exact hal⟩, rfl⟩
      · refine lv_aload_n hx hb dX5_mean_23 rfl (lv_at hl 1 rfl) ?_
        refine lv_iload hx hb dX5_mean_24 (lv_at hl 3 rfl) ?_
        rcases Nat.lt_or_ge i nf with hin | hout
        · refine m_aldF hF hC hO rfl (j := i) (nI_clamp (by omega)) (vp_in_nI (nI_nE (a := 12) (b := i) (by decide) (by omega) c20) (by decide)) dX5_mean_26 (v := .ref (ad (100 + i))) (adF_in hin) ?_
          refine lv_astore (lv' := [(6, .ref (ad (100 + i))), (0, .ref (ad 0)), (3, .ref (ad 2)), (4, .int 12), (5, .int (nI i)), (1, .int ss), (2, .int ww)]) hx hb dX5_mean_27 hl (by decide) rfl (fun ls hl => ?_)
          refine lv_aload hx hb dX5_mean_29 (lv_at hl 0 rfl) ?_
          refine lv_ifnull hx hb dX5_mean_31 ?_
          refine lv_iload_n hx hb dX5_mean_34 rfl (lv_at hl 5 rfl) ?_
          refine lv_aload hx hb dX5_mean_35 (lv_at hl 0 rfl) ?_
          refine m_get inX0 hF hC hO (WC_F (i := i) (by assumption) hnf) rfl 2 (by decide) q_78 (v := .int ((F i) 2)) rfl dX5_mean_37 ?_
          refine lv_aload hx hb dX5_mean_40 (lv_at hl 0 rfl) ?_
          refine m_get inX0 hF hC hO (WC_F (i := i) (by assumption) hnf) rfl 1 (by decide) q_75 (v := .int ((F i) 1)) rfl dX5_mean_42 ?_
          refine lv_imul hx hb dX5_mean_45 ?_
          refine lv_iadd hx hb dX5_mean_46 ?_
          refine lv_istore_n (lv' := [(1, .int (ss + (((F i) 2) * ((F i) 1)))), (6, .ref (ad (100 + i))), (0, .ref (ad 0)), (3, .ref (ad 2)), (4, .int 12), (5, .int (nI i)), (2, .int ww)]) hx hb dX5_mean_47 rfl hl (by decide) rfl (fun ls hl => ?_)
          refine lv_iload_n hx hb dX5_mean_48 rfl (lv_at hl 6 rfl) ?_
          refine lv_aload hx hb dX5_mean_49 (lv_at hl 1 rfl) ?_
          refine m_get inX0 hF hC hO (WC_F (i := i) (by assumption) hnf) rfl 1 (by decide) q_75 (v := .int ((F i) 1)) rfl dX5_mean_51 ?_
          refine lv_iadd hx hb dX5_mean_54 ?_
          refine lv_istore_n (lv' := [(2, .int (ww + ((F i) 1))), (1, .int (ss + (((F i) 2) * ((F i) 1)))), (6, .ref (ad (100 + i))), (0, .ref (ad 0)), (3, .ref (ad 2)), (4, .int 12), (5, .int (nI i))]) hx hb dX5_mean_55 rfl hl (by decide) rfl (fun ls hl => ?_)
          refine lv_iinc (v := (nI (i + 1))) (lv' := [(5, .int (nI (i + 1))), (2, .int (ww + ((F i) 1))), (1, .int (ss + (((F i) 2) * ((F i) 1)))), (6, .ref (ad (100 + i))), (0, .ref (ad 0)), (3, .ref (ad 2)), (4, .int 12)]) hx hb dX5_mean_56 hl (k := 6) rfl (nI_inc i) (by decide) rfl (fun ls hl => ?_)
          refine lv_goto (tgt := 16) hx hb dX5_mean_59 (by decide) ?_
          exact ih16 (i + 1) (ss + (((F i) 2) * ((F i) 1))) (ww + ((F i) 1)) _ _ _ (by have := (nI_nE (a := 12) (b := i) (by decide) (by omega) c20); omega) (by have := (nI_nE (a := 12) (b := i) (by decide) (by omega) c20); omega) (by rw [← hv0, show nf - i = (nf - (i + 1)) + 1 from by omega]; rfl) (by rw [← hv1, show nf - i = (nf - (i + 1)) + 1 from by omega]; rfl) (lv_sub hl [4, 5, 6, 0, 2, 1] rfl) hO hS
        · refine m_aldF hF hC hO rfl (j := i) (nI_clamp (by omega)) (vp_in_nI (nI_nE (a := 12) (b := i) (by decide) (by omega) c20) (by decide)) dX5_mean_26 (v := .null) (adF_out hout) ?_
          refine lv_astoreN (lv' := [(6, .null), (0, .ref (ad 0)), (3, .ref (ad 2)), (4, .int 12), (5, .int (nI i)), (1, .int ss), (2, .int ww)]) hx hb dX5_mean_27 hl (by decide) rfl (fun ls hl => ?_)
          refine lv_aloadN hx hb dX5_mean_29 (lv_at hl 0 rfl) ?_
          refine lv_ifnullN (tgt := 56) hx hb dX5_mean_31 (by decide) ?_
          refine lv_iinc (v := (nI (i + 1))) (lv' := [(5, .int (nI (i + 1))), (6, .null), (0, .ref (ad 0)), (3, .ref (ad 2)), (4, .int 12), (1, .int ss), (2, .int ww)]) hx hb dX5_mean_56 hl (k := 4) rfl (nI_inc i) (by decide) rfl (fun ls hl => ?_)
          refine lv_goto (tgt := 16) hx hb dX5_mean_59 (by decide) ?_
          exact ih16 (i + 1) ss ww _ _ _ (by have := (nI_nE (a := 12) (b := i) (by decide) (by omega) c20); omega) (by have := (nI_nE (a := 12) (b := i) (by decide) (by omega) c20); omega) (by rw [← hv0, show nf - (i + 1) = 0 from by omega, show nf - i = 0 from by omega]; rfl) (by rw [← hv1, show nf - (i + 1) = 0 from by omega, show nf - i = 0 from by omega]; rfl) (lv_sub hl [2, 3, 4, 0, 5, 6] rfl) hO hS
  exact L16 _ 0 0 0 _ _ _ (Nat.lt_succ_self _) (by omega) rfl rfl (lv_sub hl [5, 2, 1, 0, 4, 3] rfl) hO hS
theorem ok_X6_mean : mOK RX6 yX6_mean cX6_mean 4 (some .double) 0 := ⟨q_906, q_907, q_6, q_908, by decide +kernel⟩
set_option maxHeartbeats 400000 in
set_option maxRecDepth 100000 in
theorem k_X6_mean (l : Launch) (G : mG) (lo : Nat) (sa ad : Nat → Nat) (R : mM) (th : Int32) (g : Nat → Int32) (nf : Nat) (F : Nat → Nat → Int32) (f : Nat → Int32) (no : Nat) (O : Nat → Nat → Int32) (it ch : Nat → Int32) (hnf : nf ≤ 12) (hno : no ≤ 20) : mD l yX6_mean cX6_mean 4 1 22 G lo sa ad (WM G ad th g nf F f no O it ch R) [.ref (ad 50)] (fun v R' => ((¬ mnW nf 0 F 0 = 0 ∧ alike64 v (FP.ddiv (FP.i2d (mnS nf 0 F 0)) (FP.i2d (mnW nf 0 F 0))) = true) ∨ (¬ ¬ mnW nf 0 F 0 = 0 ∧ v = FP.dconst0)) ∧ R' = (WM G ad 0 g nf F f no O it ch R)) := by
  refine mD_of (by decide) (Nat.le_of_ble_eq_true rfl) ?_
  intro p e s m args below meth c hF hr hlk hC ls hl hO hS Q hQ
  have hx := hF.1
  have hb := hF.2.1
  have hl : lv_has ls 4 [(0, .ref (ad 50))] := hl
  refine lv_aload_n hx hb dX6_mean_0 rfl (lv_at hl 0 rfl) ?_
  refine lv_iconst (v := 0) hx hb dX6_mean_1 (by decide) ?_
  refine m_put (ty := .int) tyX6 tyX6_ok nmX6 inX6 hF hC hO hS rfl rfl 0 (by decide) q_662 rfl (by decide +kernel) rfl rfl (fs' := [.int 0, .int (g 0), .int (g 1), .int (g 2), .int (nI nf), .ref (ad 51), .ref (ad 52), .int (nI no), .ref (ad 53), .int (g 3), .int (g 4), .int (g 5), .ref (ad 54), .ref (ad 55)]) (Nat.le_of_ble_eq_true rfl) rfl dX6_mean_2 (fun H locs hO hS => ?_)
  have hO : mO G lo ad (mU (WM G ad th g nf F f no O it ch R) 50 (mxO ad 0 g nf no)) H := hO
  rw [WM_w0] at hO
  refine lv_iconst (v := 0) hx hb dX6_mean_5 (by decide) ?_
  refine lv_istore_n (lv' := [(1, .int 0), (0, .ref (ad 50))]) hx hb dX6_mean_6 rfl hl (by decide) rfl (fun ls hl => ?_)
  refine lv_iconst (v := 0) hx hb dX6_mean_7 (by decide) ?_
  refine lv_istore_n (lv' := [(2, .int 0), (1, .int 0), (0, .ref (ad 50))]) hx hb dX6_mean_8 rfl hl (by decide) rfl (fun ls hl => ?_)
  refine lv_iconst (v := 0) hx hb dX6_mean_9 (by decide) ?_
  refine lv_istore_n (lv' := [(3, .int 0), (2, .int 0), (1, .int 0), (0, .ref (ad 50))]) hx hb dX6_mean_10 rfl hl (by decide) rfl (fun ls hl => ?_)
  have L11 : ∀ (n : Nat) (i : Nat) (ss : Int32) (ww : Int32) (H : Heap) (locs : List Loc) (ls : Array Slot), nf - i < n → i ≤ nf → mnS (nf - i) i F ss = mnS nf 0 F 0 → mnW (nf - i) i F ww = mnW nf 0 F 0 → lv_has ls 4 [(0, .ref (ad 50)), (3, .int (nI i)), (1, .int ss), (2, .int ww)] → mO G lo ad (WM G ad 0 g nf F f no O it ch R) H → va_S (mA lo) s.heap H locs → W p l e (mRm 1 22) s m args below meth c H locs 0 0 Q (F0 m 11 ls []) := by
    intro n
    induction n with
    | zero => intro i ss ww H locs ls hn; exact absurd hn (Nat.not_lt_zero _)
    | succ n ih11 =>
      intro i ss ww H locs ls hn11 hi hv0 hv1 hl hO hS
      refine lv_iload_n hx hb dX6_mean_11 rfl (lv_at hl 1 rfl) ?_
      refine lv_aload_n hx hb dX6_mean_12 rfl (lv_at hl 0 rfl) ?_
      refine m_get inX6 hF hC hO rfl rfl 4 (by decide) q_666 (v := .int (nI nf)) rfl dX6_mean_13 ?_
      refine lv_icmp_ge (tgt := 50) hx hb dX6_mean_16 (by decide) (fun c16 => ?_) (fun c16 => ?_)
      · have e9 : i = nf := Nat.le_antisymm hi (nI_E (a := nf) (b := i) (by omega) (by omega) c16)
        rw [show nf - i = 0 from by omega] at hv0 hv1
        have hs9 : ss = mnS nf 0 F 0 := hv0
        have hw9 : ww = mnW nf 0 F 0 := hv1
        refine lv_iload_n hx hb dX6_mean_50 rfl (lv_at hl 3 rfl) ?_
        refine lv_if_ne (tgt := 58) hx hb dX6_mean_51 (by decide) (fun c51 => ?_) (fun c51 => ?_)
        · have hW9 : ¬ mnW nf 0 F 0 = 0 := by rw [← hw9]; exact c51
          refine lv_iload_n hx hb dX6_mean_58 rfl (lv_at hl 2 rfl) ?_
          refine lv_i2d hx hb dX6_mean_59 ?_
          refine lv_iload_n hx hb dX6_mean_60 rfl (lv_at hl 3 rfl) ?_
          refine lv_i2d hx hb dX6_mean_61 ?_
          refine W.base ?_
          refine lv_ddiv_any (Drawn.sameBut.refl s.drawn lw_cs) lw_bits hx hb dX6_mean_62 (fun r9 d1 hal hd1 => ?_)
          refine m_dret hd1 hF hr hlk hQ hO hS dX6_mean_63 ?_
          exact ⟨Or.inl ⟨hW9, by rw [← hs9, ← hw9]; exact hal⟩, rfl⟩
        · have hW9 : ¬ ¬ mnW nf 0 F 0 = 0 := by rw [← hw9]; exact fun h => h c51
          refine lv_dconst0 hx hb dX6_mean_54 ?_
          refine lv_goto (tgt := 63) hx hb dX6_mean_55 (by decide) ?_
          refine W.base ?_
          refine m_dret (Drawn.sameBut.refl s.drawn lw_cs) hF hr hlk hQ hO hS dX6_mean_63 ?_
          exact ⟨Or.inr ⟨hW9, rfl⟩, rfl⟩
      · refine lv_iload_n hx hb dX6_mean_19 rfl (lv_at hl 2 rfl) ?_
        refine lv_aload_n hx hb dX6_mean_20 rfl (lv_at hl 0 rfl) ?_
        refine lv_iload_n hx hb dX6_mean_21 rfl (lv_at hl 1 rfl) ?_
        refine lv_iconst (v := 2) hx hb dX6_mean_22 (by decide) ?_
        refine m_vI (As := [.int (nI i), .int 2]) (rest := [.int ss]) (n := 2) hF hC hO hS (k_X6_fr l G lo sa ad R 0 g nf F f no O it ch i 2 hnf hno (Nat.lt_of_lt_of_le (nI_nE (a := nf) (b := i) (by omega) (by omega) c16) hnf) (by omega)) ok_X6_fr q_752 rfl rfl ⟨Nat.le_of_ble_eq_true rfl, Nat.le_of_ble_eq_true rfl⟩ rfl hl.1 rfl (Nat.le_of_ble_eq_true rfl) ⟨Nat.le_of_ble_eq_true rfl, Nat.le_of_ble_eq_true rfl⟩ dX6_mean_23 (fun v23 R' H locs hp hO hS => ?_)
        obtain ⟨rfl, hR⟩ := hp
        rw [hR] at hO
        refine lv_aload_n hx hb dX6_mean_26 rfl (lv_at hl 0 rfl) ?_
        refine lv_iload_n hx hb dX6_mean_27 rfl (lv_at hl 1 rfl) ?_
        refine lv_iconst (v := 1) hx hb dX6_mean_28 (by decide) ?_
        refine m_vI (As := [.int (nI i), .int 1]) (rest := [.int (F i 2), .int ss]) (n := 2) hF hC hO hS (k_X6_fr l G lo sa ad R 0 g nf F f no O it ch i 1 hnf hno (Nat.lt_of_lt_of_le (nI_nE (a := nf) (b := i) (by omega) (by omega) c16) hnf) (by omega)) ok_X6_fr q_752 rfl rfl ⟨Nat.le_of_ble_eq_true rfl, Nat.le_of_ble_eq_true rfl⟩ rfl hl.1 rfl (Nat.le_of_ble_eq_true rfl) ⟨Nat.le_of_ble_eq_true rfl, Nat.le_of_ble_eq_true rfl⟩ dX6_mean_29 (fun v29 R' H locs hp hO hS => ?_)
        obtain ⟨rfl, hR⟩ := hp
        rw [hR] at hO
        refine lv_imul hx hb dX6_mean_32 ?_
        refine lv_iadd hx hb dX6_mean_33 ?_
        refine lv_istore_n (lv' := [(1, .int (ss + ((F i 2) * (F i 1)))), (0, .ref (ad 50)), (3, .int (nI i)), (2, .int ww)]) hx hb dX6_mean_34 rfl hl (by decide) rfl (fun ls hl => ?_)
        refine lv_iload_n hx hb dX6_mean_35 rfl (lv_at hl 3 rfl) ?_
        refine lv_aload_n hx hb dX6_mean_36 rfl (lv_at hl 1 rfl) ?_
        refine lv_iload_n hx hb dX6_mean_37 rfl (lv_at hl 2 rfl) ?_
        refine lv_iconst (v := 1) hx hb dX6_mean_38 (by decide) ?_
        refine m_vI (As := [.int (nI i), .int 1]) (rest := [.int ww]) (n := 2) hF hC hO hS (k_X6_fr l G lo sa ad R 0 g nf F f no O it ch i 1 hnf hno (Nat.lt_of_lt_of_le (nI_nE (a := nf) (b := i) (by omega) (by omega) c16) hnf) (by omega)) ok_X6_fr q_752 rfl rfl ⟨Nat.le_of_ble_eq_true rfl, Nat.le_of_ble_eq_true rfl⟩ rfl hl.1 rfl (Nat.le_of_ble_eq_true rfl) ⟨Nat.le_of_ble_eq_true rfl, Nat.le_of_ble_eq_true rfl⟩ dX6_mean_39 (fun v39 R' H locs hp hO hS => ?_)
        obtain ⟨rfl, hR⟩ := hp
        rw [hR] at hO
        refine lv_iadd hx hb dX6_mean_42 ?_
        refine lv_istore_n (lv' := [(2, .int (ww + (F i 1))), (1, .int (ss + ((F i 2) * (F i 1)))), (0, .ref (ad 50)), (3, .int (nI i))]) hx hb dX6_mean_43 rfl hl (by decide) rfl (fun ls hl => ?_)
        refine lv_iinc (v := (nI (i + 1))) (lv' := [(3, .int (nI (i + 1))), (2, .int (ww + (F i 1))), (1, .int (ss + ((F i 2) * (F i 1)))), (0, .ref (ad 50))]) hx hb dX6_mean_44 hl (k := 3) rfl (nI_inc i) (by decide) rfl (fun ls hl => ?_)
        refine lv_goto (tgt := 11) hx hb dX6_mean_47 (by decide) ?_
        exact ih11 (i + 1) (ss + ((F i 2) * (F i 1))) (ww + (F i 1)) _ _ _ (by have := (nI_nE (a := nf) (b := i) (by omega) (by omega) c16); omega) (by have := (nI_nE (a := nf) (b := i) (by omega) (by omega) c16); omega) (by have := (nI_nE (a := nf) (b := i) (by omega) (by omega) c16); rw [← hv0, show nf - i = (nf - (i + 1)) + 1 from by omega]; rfl) (by have := (nI_nE (a := nf) (b := i) (by omega) (by omega) c16); rw [← hv1, show nf - i = (nf - (i + 1)) + 1 from by omega]; rfl) (lv_sub hl [3, 0, 2, 1] rfl) hO hS
  exact L11 _ 0 0 0 _ _ _ (Nat.lt_succ_self _) (by omega) rfl rfl (lv_sub hl [3, 0, 2, 1] rfl) hO hS
