theorem ok_X6_fill : mOK RX6 yX6_fill cX6_fill 6 (some .int) 1 := ⟨q_838, q_839, q_6, q_840, by decide +kernel⟩
set_option maxHeartbeats 400000 in
set_option maxRecDepth 100000 in
theorem k_X6_fill (l : Launch) (G : mG) (lo : Nat) (sa ad : Nat → Nat) (R : mM) (th : Int32) (g : Nat → Int32) (nf : Nat) (F : Nat → Nat → Int32) (f : Nat → Int32) (no : Nat) (O : Nat → Nat → Int32) (it ch : Nat → Int32) (x : Int32) (hnf : nf ≤ 12) (hno : no ≤ 20) (hOk : ∀ j, j < no → ∃ kk zz, kk < 4 ∧ 1 ≤ zz ∧ zz ≤ 9 ∧ O j 0 = nI kk ∧ O j 1 = nI zz) (hOm : ∀ j, j < no → ∃ a, 1 ≤ a ∧ a ≤ 60 ∧ O j 2 = nI a) (hfS : okS f) : mI l yX6_fill cX6_fill 6 .int 2 45 G lo sa ad (WM G ad th g nf F f no O it ch R) [.ref (ad 50), .int x] (fun v R' => (K_fill f no O x = 0 ∧ v = p_sum 40 (stF (f_fill f (O (nn x)))) 0 0 ∧ ∃ (it' ch' : Nat → Int32), R' = (WM G ad 0 g nf F (f_fill f (O (nn x))) no (va_up O (nn x) (upd (O (nn x)) 4 1)) it' ch' R)) ∨ (¬ K_fill f no O x = 0 ∧ ∃ (it' ch' : Nat → Int32), R' = (WM G ad (K_fill f no O x) g nf F f no O it' ch' R))) := by
  refine mI_of (by decide) (Nat.le_of_ble_eq_true rfl) ?_
  intro p e s m args below meth c hF hr hlk hC ls hl hO hS Q hQ
  have hx := hF.1
  have hb := hF.2.1
  have hl : lv_has ls 6 [(0, .ref (ad 50)), (1, .int x)] := hl
  refine lv_aload_n hx hb dX6_fill_0 rfl (lv_at hl 0 rfl) ?_
  refine lv_iconst (v := 0) hx hb dX6_fill_1 (by decide) ?_
  refine m_put (ty := .int) tyX6 tyX6_ok nmX6 inX6 hF hC hO hS rfl rfl 0 (by decide) q_662 rfl (by decide +kernel) rfl rfl (fs' := [.int 0, .int (g 0), .int (g 1), .int (g 2), .int (nI nf), .ref (ad 51), .ref (ad 52), .int (nI no), .ref (ad 53), .int (g 3), .int (g 4), .int (g 5), .ref (ad 54), .ref (ad 55)]) (Nat.le_of_ble_eq_true rfl) rfl dX6_fill_2 (fun H locs hO hS => ?_)
  have hO : mO G lo ad (mU (WM G ad th g nf F f no O it ch R) 50 (mxO ad 0 g nf no)) H := hO
  rw [WM_w0] at hO
  refine lv_iload_n hx hb dX6_fill_5 rfl (lv_at hl 1 rfl) ?_
  refine lv_iconst (v := 0) hx hb dX6_fill_6 (by decide) ?_
  refine lv_aload_n hx hb dX6_fill_7 rfl (lv_at hl 0 rfl) ?_
  refine m_get inX6 hF hC hO rfl rfl 7 (by decide) q_669 (v := .int (nI no)) rfl dX6_fill_8 ?_
  refine lv_iconst (v := 1) hx hb dX6_fill_11 (by decide) ?_
  refine lv_isub hx hb dX6_fill_12 ?_
  refine m_sI (As := [.int x, .int 0, .int ((nI no) - 1)]) (rest := []) (n := 3) hF hC hO hS (k_X6_isIn l G lo sa ad _ x 0 ((nI no) - 1) ) ok_X6_isIn q_714 ⟨Nat.le_of_ble_eq_true rfl, Nat.le_of_ble_eq_true rfl⟩ rfl hl.1 rfl (Nat.le_of_ble_eq_true rfl) ⟨Nat.le_of_ble_eq_true rfl, Nat.le_of_ble_eq_true rfl⟩ dX6_fill_13 (fun v13 R' H locs hp hO hS => ?_)
  obtain ⟨⟨rfl, b13⟩ | ⟨rfl, b13⟩, hR⟩ := hp
  · rw [hR] at hO
    refine lv_if_ne (tgt := 25) hx hb dX6_fill_16 (by decide) (fun c16 => ?_) (fun c16 => absurd c16 (by decide))
    obtain ⟨i, hi, rfl⟩ := fr_of (by omega) b13
    have hcl : nn (nI i) = i := nn_nI (by omega)
    obtain ⟨kk, zz, hkk, hz1, hz9, hw0, hw1⟩ := hOk i hi
    have hn0 : nn (O i 0) = kk := by rw [hw0]; exact nn_nI (by omega)
    have hn1 : nn (O i 1) = zz := by rw [hw1]; exact nn_nI (by omega)
    obtain ⟨mq, hm1, hm60, hm2⟩ := hOm i hi
    refine lv_aload_n hx hb dX6_fill_25 rfl (lv_at hl 0 rfl) ?_
    refine lv_iload_n hx hb dX6_fill_26 rfl (lv_at hl 1 rfl) ?_
    refine m_vI (As := [.int (nI i)]) (rest := []) (n := 1) hF hC hO hS (k_X6_canFill l G lo sa ad R 0 g nf F f no O it ch i kk zz hnf hno (by omega) (by omega) (by omega) (by omega) hw0 hw1) ok_X6_canFill q_841 rfl rfl ⟨Nat.le_of_ble_eq_true rfl, Nat.le_of_ble_eq_true rfl⟩ rfl hl.1 rfl (Nat.le_of_ble_eq_true rfl) ⟨Nat.le_of_ble_eq_true rfl, Nat.le_of_ble_eq_true rfl⟩ dX6_fill_27 (fun v27 R' H locs hp hO hS => ?_)
    obtain ⟨⟨rfl, b27⟩ | ⟨rfl, b27⟩, hR⟩ := hp
    · rw [hR] at hO
      refine lv_if_ne (tgt := 39) hx hb dX6_fill_30 (by decide) (fun c30 => ?_) (fun c30 => absurd c30 (by decide))
      refine lv_aload_n hx hb dX6_fill_39 rfl (lv_at hl 0 rfl) ?_
      refine lv_iload_n hx hb dX6_fill_40 rfl (lv_at hl 1 rfl) ?_
      refine lv_iconst (v := 2) hx hb dX6_fill_41 (by decide) ?_
      refine m_vI (As := [.int (nI i), .int 2]) (rest := []) (n := 2) hF hC hO hS (k_X6_or l G lo sa ad R 0 g nf F f no O it ch i 2 hnf hno (by omega) (by omega)) ok_X6_or q_806 rfl rfl ⟨Nat.le_of_ble_eq_true rfl, Nat.le_of_ble_eq_true rfl⟩ rfl hl.1 rfl (Nat.le_of_ble_eq_true rfl) ⟨Nat.le_of_ble_eq_true rfl, Nat.le_of_ble_eq_true rfl⟩ dX6_fill_42 (fun v42 R' H locs hp hO hS => ?_)
      obtain ⟨rfl, hR⟩ := hp
      rw [hR] at hO
      rw [hm2]
      refine lv_istore_n (lv' := [(2, .int (nI mq)), (0, .ref (ad 50)), (1, .int (nI i))]) hx hb dX6_fill_45 rfl hl (by decide) rfl (fun ls hl => ?_)
      refine lv_aload_n hx hb dX6_fill_46 rfl (lv_at hl 1 rfl) ?_
      refine lv_iload_n hx hb dX6_fill_47 rfl (lv_at hl 2 rfl) ?_
      refine lv_iconst (v := 1) hx hb dX6_fill_48 (by decide) ?_
      refine m_vI (As := [.int (nI i), .int 1]) (rest := []) (n := 2) hF hC hO hS (k_X6_or l G lo sa ad R 0 g nf F f no O it ch i 1 hnf hno (by omega) (by omega)) ok_X6_or q_806 rfl rfl ⟨Nat.le_of_ble_eq_true rfl, Nat.le_of_ble_eq_true rfl⟩ rfl hl.1 rfl (Nat.le_of_ble_eq_true rfl) ⟨Nat.le_of_ble_eq_true rfl, Nat.le_of_ble_eq_true rfl⟩ dX6_fill_49 (fun v49 R' H locs hp hO hS => ?_)
      obtain ⟨rfl, hR⟩ := hp
      rw [hR] at hO
      rw [hw1]
      refine lv_istore_n (lv' := [(3, .int (nI zz)), (2, .int (nI mq)), (0, .ref (ad 50)), (1, .int (nI i))]) hx hb dX6_fill_52 rfl hl (by decide) rfl (fun ls hl => ?_)
      have L53 : ∀ (n : Nat) (z : Nat) (wn : Nat) (f9 : Nat → Int32) (H : Heap) (locs : List Loc) (ls : Array Slot), 10 - z < n → zz ≤ z → z ≤ 10 → wn ≤ 60 → okS f9 → wn ≤ sN (10 - z) f9 kk z → m_fillL (10 - z) f9 kk z (nI wn) = m_fill f kk zz (nI mq) → lv_has ls 6 [(0, .ref (ad 50)), (1, .int (nI i)), (3, .int (nI z)), (2, .int (nI wn))] → mO G lo ad (WM G ad 0 g nf F f9 no O it ch R) H → va_S (mA lo) s.heap H locs → W p l e (mRm 2 45) s m args below meth c H locs 0 0 Q (F0 m 53 ls []) := by
        intro n
        induction n with
        | zero => intro z wn f9 H locs ls hn; exact absurd hn (Nat.not_lt_zero _)
        | succ n ih53 =>
          intro z wn f9 H locs ls hn53 hz hz10 hwn hs hle hv hl hO hS
          refine lv_iload_n hx hb dX6_fill_53 rfl (lv_at hl 3 rfl) ?_
          refine lv_if_le (tgt := 106) hx hb dX6_fill_54 (by decide) (fun c54 => ?_) (fun c54 => ?_)
          · refine lv_aload_n hx hb dX6_fill_106 rfl (lv_at hl 0 rfl) ?_
            refine m_get inX6 hF hC hO rfl rfl 8 (by decide) q_670 (v := .ref (ad 53)) rfl dX6_fill_107 ?_
            refine lv_iconst (v := 5) hx hb dX6_fill_110 (by decide) ?_
            refine lv_iload_n hx hb dX6_fill_111 rfl (lv_at hl 1 rfl) ?_
            refine lv_imul hx hb dX6_fill_112 ?_
            refine lv_iconst (v := 4) hx hb dX6_fill_113 (by decide) ?_
            refine lv_iadd hx hb dX6_fill_114 ?_
            refine lv_iconst (v := 1) hx hb dX6_fill_115 (by decide) ?_
            refine m_iast hF hC hO hS rfl (j := (5 * i + 4)) (by rw [show (4 : Int32) = nI 4 from rfl, p_ixO]; exact nI_clamp (by omega)) (by rw [show (4 : Int32) = nI 4 from rfl, p_ixO]; exact vp_in_nI (by omega) (by decide)) dX6_fill_116 (fun H locs hO hS => ?_)
            have hO : mO G lo ad (mU (WM G ad 0 g nf F f9 no O it ch R) 53 (.inl (G.2 0, 100, .inl (upd (otF O) (5 * i + 4) 1)))) H := hO
            rw [WM_w3 (ot_wr (by decide))] at hO
            refine lv_aload_n hx hb dX6_fill_117 rfl (lv_at hl 0 rfl) ?_
            refine m_vI (As := []) (rest := []) (n := 0) hF hC hO hS (k_X6_inStore l G lo sa ad R 0 g nf F f9 no (va_up O i (upd (O i) 4 1)) it ch hnf hno) ok_X6_inStore q_849 rfl rfl ⟨Nat.le_of_ble_eq_true rfl, Nat.le_of_ble_eq_true rfl⟩ rfl hl.1 rfl (Nat.le_of_ble_eq_true rfl) ⟨Nat.le_of_ble_eq_true rfl, Nat.le_of_ble_eq_true rfl⟩ dX6_fill_118 (fun v118 R' H locs hp hO hS => ?_)
            obtain ⟨rfl, hR⟩ := hp
            rw [hR] at hO
            refine m_iret hF hr hlk hQ rfl hO hS dX6_fill_121 ?_
            have hw00 : wn = 0 := Nat.le_zero.mp (nI_E (a := wn) (b := 0) (by omega) (by decide) c54)
            rw [hw00, m_fillL_0] at hv
            have hff : f9 = f_fill f (O i) := by rw [f_fill, hn0, hn1, hm2]; exact hv
            have hK : K_fill f no O (nI i) = 0 := by rw [K_fill, if_pos b13, hcl, if_pos ((p_canFill_k hn0 hn1).mpr b27)]
            exact Or.inl ⟨hK, by rw [hcl, ← hff], it, ch, by rw [hcl, ← hff]⟩
          · have hwp : 0 < wn := Nat.pos_of_ne_zero (fun h => c54 (by rw [h]; decide))
            have hz9b : z ≤ 9 := by
              rcases Nat.lt_or_ge z 10 with h | h
              · omega
              · exfalso
                rw [show 10 - z = 0 by omega, sN] at hle
                omega
            obtain ⟨hfa, hfb⟩ := okS_nn hs (j := 9 * kk + z - 1) (by omega)
            refine lv_bipush (v := 10) hx hb dX6_fill_57 (by decide) ?_
            refine lv_aload_n hx hb dX6_fill_59 rfl (lv_at hl 0 rfl) ?_
            refine lv_iload_n hx hb dX6_fill_60 rfl (lv_at hl 1 rfl) ?_
            refine lv_iconst (v := 0) hx hb dX6_fill_61 (by decide) ?_
            refine m_vI (As := [.int (nI i), .int 0]) (rest := [.int 10]) (n := 2) hF hC hO hS (k_X6_or l G lo sa ad R 0 g nf F f9 no O it ch i 0 hnf hno (by omega) (by omega)) ok_X6_or q_806 rfl rfl ⟨Nat.le_of_ble_eq_true rfl, Nat.le_of_ble_eq_true rfl⟩ rfl hl.1 rfl (Nat.le_of_ble_eq_true rfl) ⟨Nat.le_of_ble_eq_true rfl, Nat.le_of_ble_eq_true rfl⟩ dX6_fill_62 (fun v62 R' H locs hp hO hS => ?_)
            obtain ⟨rfl, hR⟩ := hp
            rw [hR] at hO
            rw [hw0]
            refine lv_imul hx hb dX6_fill_65 ?_
            refine lv_iload_n hx hb dX6_fill_66 rfl (lv_at hl 2 rfl) ?_
            refine lv_iadd hx hb dX6_fill_67 ?_
            refine lv_istore (lv' := [(4, .int ((10 * (nI kk)) + (nI z))), (0, .ref (ad 50)), (1, .int (nI i)), (3, .int (nI z)), (2, .int (nI wn))]) hx hb dX6_fill_68 hl (by decide) rfl (fun ls hl => ?_)
            refine lv_iload_n hx hb dX6_fill_70 rfl (lv_at hl 4 rfl) ?_
            refine lv_aload_n hx hb dX6_fill_71 rfl (lv_at hl 1 rfl) ?_
            refine m_get inX6 hF hC hO rfl rfl 6 (by decide) q_668 (v := .ref (ad 52)) rfl dX6_fill_72 ?_
            refine lv_iload hx hb dX6_fill_75 (lv_at hl 0 rfl) ?_
            refine m_iald hF hC hO rfl (j := (10 * kk + z)) (by rw [p_ixS]; exact nI_clamp (by omega)) (by rw [p_ixS]; exact vp_in_nI (by omega) (by decide)) dX6_fill_77 ?_
            rw [show ((stF f9) (10 * kk + z)) = (f9 (9 * kk + z - 1)) from st_rd (by omega) (by omega)]
            refine m_min hF hl.1 q_784 q_168 q_14 q_169 (Nat.le_of_ble_eq_true rfl) (Nat.le_of_ble_eq_true rfl) ⟨Nat.le_of_ble_eq_true rfl, Nat.le_of_ble_eq_true rfl⟩ dX6_fill_78 ?_
            refine lv_istore (lv' := [(5, .int (jmin (nI wn) (f9 (9 * kk + z - 1)))), (4, .int ((10 * (nI kk)) + (nI z))), (0, .ref (ad 50)), (1, .int (nI i)), (3, .int (nI z)), (2, .int (nI wn))]) hx hb dX6_fill_81 hl (by decide) rfl (fun ls hl => ?_)
            refine lv_aload_n hx hb dX6_fill_83 rfl (lv_at hl 2 rfl) ?_
            refine m_get inX6 hF hC hO rfl rfl 6 (by decide) q_668 (v := .ref (ad 52)) rfl dX6_fill_84 ?_
            refine lv_iload hx hb dX6_fill_87 (lv_at hl 1 rfl) ?_
            refine lv_dup2_11 hx hb dX6_fill_89 rfl rfl ?_
            refine m_iald hF hC hO rfl (j := (10 * kk + z)) (by rw [p_ixS]; exact nI_clamp (by omega)) (by rw [p_ixS]; exact vp_in_nI (by omega) (by decide)) dX6_fill_90 ?_
            rw [show ((stF f9) (10 * kk + z)) = (f9 (9 * kk + z - 1)) from st_rd (by omega) (by omega)]
            refine lv_iload hx hb dX6_fill_91 (lv_at hl 0 rfl) ?_
            refine lv_isub hx hb dX6_fill_93 ?_
            refine m_iast hF hC hO hS rfl (j := (10 * kk + z)) (by rw [p_ixS]; exact nI_clamp (by omega)) (by rw [p_ixS]; exact vp_in_nI (by omega) (by decide)) dX6_fill_94 (fun H locs hO hS => ?_)
            have hO : mO G lo ad (mU (WM G ad 0 g nf F f9 no O it ch R) 52 (.inl (G.2 0, 40, .inl (upd (stF f9) (10 * kk + z) ((f9 (9 * kk + z - 1)) - (jmin (nI wn) (f9 (9 * kk + z - 1)))))))) H := hO
            rw [WM_w2 (st_wr (by omega) (by omega))] at hO
            refine lv_iload_n hx hb dX6_fill_95 rfl (lv_at hl 5 rfl) ?_
            refine lv_iload hx hb dX6_fill_96 (lv_at hl 0 rfl) ?_
            refine lv_isub hx hb dX6_fill_98 ?_
            refine lv_istore_n (lv' := [(2, .int ((nI wn) - (jmin (nI wn) (f9 (9 * kk + z - 1))))), (5, .int (jmin (nI wn) (f9 (9 * kk + z - 1)))), (4, .int ((10 * (nI kk)) + (nI z))), (0, .ref (ad 50)), (1, .int (nI i)), (3, .int (nI z))]) hx hb dX6_fill_99 rfl hl (by decide) rfl (fun ls hl => ?_)
            refine lv_iinc (v := (nI (z + 1))) (lv' := [(3, .int (nI (z + 1))), (2, .int ((nI wn) - (jmin (nI wn) (f9 (9 * kk + z - 1))))), (5, .int (jmin (nI wn) (f9 (9 * kk + z - 1)))), (4, .int ((10 * (nI kk)) + (nI z))), (0, .ref (ad 50)), (1, .int (nI i))]) hx hb dX6_fill_100 hl (k := 5) rfl (nI_inc z) (by decide) rfl (fun ls hl => ?_)
            refine lv_goto (tgt := 53) hx hb dX6_fill_103 (by decide) ?_
            have ea : jmin (nI wn) (f9 (9 * kk + z - 1)) = nI (min wn (nn (f9 (9 * kk + z - 1)))) := by rw [hfa, nn_nI (by omega)]; exact jmin_nI (by omega) (by omega)
            have e1 : (nI wn) - (jmin (nI wn) (f9 (9 * kk + z - 1))) = nI (wn - min wn (nn (f9 (9 * kk + z - 1)))) := by rw [ea]; exact pk_sub (Nat.min_le_left _ _)
            have e2 : (f9 (9 * kk + z - 1)) - (jmin (nI wn) (f9 (9 * kk + z - 1))) = nI (nn (f9 (9 * kk + z - 1)) - min wn (nn (f9 (9 * kk + z - 1)))) := by rw [ea, hfa, nn_nI (by omega)]; exact pk_sub (Nat.min_le_right _ _)
            have hv2 : m_fillL (10 - (z + 1)) (upd f9 (9 * kk + z - 1) ((f9 (9 * kk + z - 1)) - (jmin (nI wn) (f9 (9 * kk + z - 1))))) kk (z + 1) ((nI wn) - (jmin (nI wn) (f9 (9 * kk + z - 1)))) = m_fill f kk zz (nI mq) := by rw [← hv, show 10 - z = (10 - (z + 1)) + 1 from by omega, m_fillL, if_pos (show (0 : Int32) < nI wn from nI_lt (a := 0) (b := wn) hwp (by omega))]
            have hle2 : wn - min wn (nn (f9 (9 * kk + z - 1))) ≤ sN (10 - (z + 1)) (upd f9 (9 * kk + z - 1) ((f9 (9 * kk + z - 1)) - (jmin (nI wn) (f9 (9 * kk + z - 1))))) kk (z + 1) := by
              rw [show 10 - z = (10 - (z + 1)) + 1 from by omega, sN_step (v := (f9 (9 * kk + z - 1)) - (jmin (nI wn) (f9 (9 * kk + z - 1)))) (by omega)] at hle
              omega
            rw [e1] at hl hv2
            rw [e2] at hv2 hle2 hO
            exact ih53 (z + 1) (wn - min wn (nn (f9 (9 * kk + z - 1)))) (upd f9 (9 * kk + z - 1) (nI (nn (f9 (9 * kk + z - 1)) - min wn (nn (f9 (9 * kk + z - 1)))))) _ _ _ (by omega) (by omega) (by omega) (by omega) (okS_upd hs (by omega)) hle2 hv2 (lv_sub hl [4, 5, 0, 1] rfl) hO hS
      exact L53 _ zz mq f _ _ _ (Nat.lt_succ_self _) (by omega) (by omega) (by omega) hfS (by have h := b27.2; rw [hm2, amount_sN hfS hkk hz1 hz9] at h; exact nI_E (by omega) (by have := sN_le hfS (10 - zz) kk zz hkk hz1 (by omega); omega) h) rfl (lv_sub hl [2, 3, 0, 1] rfl) hO hS
    · rw [hR] at hO
      refine lv_if_ne (tgt := 39) hx hb dX6_fill_30 (by decide) (fun c30 => absurd (by decide) c30) (fun c30 => ?_)
      refine lv_aload_n hx hb dX6_fill_33 rfl (lv_at hl 0 rfl) ?_
      refine lv_iconst (v := 2) hx hb dX6_fill_34 (by decide) ?_
      refine m_vI (As := [.int 2]) (rest := []) (n := 1) hF hC hO hS (k_X6_fail l G lo sa ad R 0 g nf F f no O it ch 2 hnf hno) ok_X6_fail q_717 rfl rfl ⟨Nat.le_of_ble_eq_true rfl, Nat.le_of_ble_eq_true rfl⟩ rfl hl.1 rfl (Nat.le_of_ble_eq_true rfl) ⟨Nat.le_of_ble_eq_true rfl, Nat.le_of_ble_eq_true rfl⟩ dX6_fill_35 (fun v35 R' H locs hp hO hS => ?_)
      obtain ⟨rfl, hR⟩ := hp
      rw [hR] at hO
      refine m_iret hF hr hlk hQ rfl hO hS dX6_fill_38 ?_
      have hK : K_fill f no O (nI i) = 2 := by rw [K_fill, if_pos b13, hcl, if_neg (fun h => b27 ((p_canFill_k hn0 hn1).mp h))]
      exact Or.inr ⟨by rw [hK]; decide, it, ch, by rw [hK]⟩
  · rw [hR] at hO
    refine lv_if_ne (tgt := 25) hx hb dX6_fill_16 (by decide) (fun c16 => absurd (by decide) c16) (fun c16 => ?_)
    refine lv_aload_n hx hb dX6_fill_19 rfl (lv_at hl 0 rfl) ?_
    refine lv_iconst (v := 1) hx hb dX6_fill_20 (by decide) ?_
    refine m_vI (As := [.int 1]) (rest := []) (n := 1) hF hC hO hS (k_X6_fail l G lo sa ad R 0 g nf F f no O it ch 1 hnf hno) ok_X6_fail q_717 rfl rfl ⟨Nat.le_of_ble_eq_true rfl, Nat.le_of_ble_eq_true rfl⟩ rfl hl.1 rfl (Nat.le_of_ble_eq_true rfl) ⟨Nat.le_of_ble_eq_true rfl, Nat.le_of_ble_eq_true rfl⟩ dX6_fill_21 (fun v21 R' H locs hp hO hS => ?_)
    obtain ⟨rfl, hR⟩ := hp
    rw [hR] at hO
    refine m_iret hF hr hlk hQ rfl hO hS dX6_fill_24 ?_
    have hK : K_fill f no O x = 1 := by rw [K_fill, if_neg b13]
    exact Or.inr ⟨by rw [hK]; decide, it, ch, by rw [hK]⟩
theorem ok_X6_digest : mOK RX6 yX6_digest cX6_digest 5 (some .long) 0 := ⟨q_910, q_911, q_6, q_912, by decide +kernel⟩
set_option maxHeartbeats 400000 in
set_option maxRecDepth 100000 in
theorem k_X6_digest (l : Launch) (G : mG) (lo : Nat) (sa ad : Nat → Nat) (R : mM) (th : Int32) (g : Nat → Int32) (nf : Nat) (F : Nat → Nat → Int32) (f : Nat → Int32) (no : Nat) (O : Nat → Nat → Int32) (it ch : Nat → Int32) (hnf : nf ≤ 12) (hno : no ≤ 20) (hOk : ∀ j, j < no → ∃ kk zz, kk < 4 ∧ 1 ≤ zz ∧ zz ≤ 9 ∧ O j 0 = nI kk ∧ O j 1 = nI zz) : mL l yX6_digest cX6_digest 5 3 68 G lo sa ad (WM G ad th g nf F f no O it ch R) [.ref (ad 50)] (fun v R' => v = dg_5 g nf F f no O ∧ R' = (WM G ad 0 g nf F f no O it ch R)) := by
  refine mL_of (by decide) (Nat.le_of_ble_eq_true rfl) ?_
  intro p e s m args below meth c hF hr hlk hC ls hl hO hS Q hQ
  have hx := hF.1
  have hb := hF.2.1
  have hl : lv_has ls 5 [(0, .ref (ad 50))] := hl
  refine lv_aload_n hx hb dX6_digest_0 rfl (lv_at hl 0 rfl) ?_
  refine lv_iconst (v := 0) hx hb dX6_digest_1 (by decide) ?_
  refine m_put (ty := .int) tyX6 tyX6_ok nmX6 inX6 hF hC hO hS rfl rfl 0 (by decide) q_662 rfl (by decide +kernel) rfl rfl (fs' := [.int 0, .int (g 0), .int (g 1), .int (g 2), .int (nI nf), .ref (ad 51), .ref (ad 52), .int (nI no), .ref (ad 53), .int (g 3), .int (g 4), .int (g 5), .ref (ad 54), .ref (ad 55)]) (Nat.le_of_ble_eq_true rfl) rfl dX6_digest_2 (fun H locs hO hS => ?_)
  have hO : mO G lo ad (mU (WM G ad th g nf F f no O it ch R) 50 (mxO ad 0 g nf no)) H := hO
  rw [WM_w0] at hO
  refine lv_ldc2 hx hb hF.2.2.2.1 (hF.2.2.2.2 _ q_913) dX6_digest_5 ?_
  refine lv_lstore_n (lv' := [(1, .long 613), (0, .ref (ad 50))]) hx hb dX6_digest_8 rfl hl (by decide) rfl (fun ls hl => ?_)
  refine lv_iconst (v := 0) hx hb dX6_digest_9 (by decide) ?_
  refine lv_istore_n (lv' := [(3, .int 0), (1, .long 613), (0, .ref (ad 50))]) hx hb dX6_digest_10 rfl hl (by decide) rfl (fun ls hl => ?_)
  have L11 : ∀ (n : Nat) (a1 : Nat) (d1 : Int64) (H : Heap) (locs : List Loc) (ls : Array Slot), 9 - a1 < n → a1 ≤ 9 → 0 ≤ a1 → dgL (9 - a1) a1 (m_count g nf F f no O) d1 = dg_1 g nf F f no O → lv_has ls 5 [(0, .ref (ad 50)), (3, .int (nI a1)), (1, .long d1)] → mO G lo ad (WM G ad 0 g nf F f no O it ch R) H → va_S (mA lo) s.heap H locs → W p l e (mRm 3 68) s m args below meth c H locs 0 0 Q (F0 m 11 ls []) := by
    intro n
    induction n with
    | zero => intro a1 d1 H locs ls hn; exact absurd hn (Nat.not_lt_zero _)
    | succ n ih11 =>
      intro a1 d1 H locs ls hn11 ha1 h0a1 hva1 hl hO hS
      refine lv_iload_n hx hb dX6_digest_11 rfl (lv_at hl 1 rfl) ?_
      refine lv_bipush (v := 9) hx hb dX6_digest_12 (by decide) ?_
      refine lv_icmp_ge (tgt := 36) hx hb dX6_digest_14 (by decide) (fun c14 => ?_) (fun c14 => ?_)
      · refine lv_iconst (v := 0) hx hb dX6_digest_36 (by decide) ?_
        refine lv_istore_n (lv' := [(3, .int 0), (0, .ref (ad 50)), (1, .long d1)]) hx hb dX6_digest_37 rfl hl (by decide) rfl (fun ls hl => ?_)
        have L38 : ∀ (n : Nat) (a2 : Nat) (d2 : Int64) (H : Heap) (locs : List Loc) (ls : Array Slot), 4 - a2 < n → a2 ≤ 4 → 0 ≤ a2 → dgL (4 - a2) a2 (fun k => m_vat g (nI k)) d2 = dg_2 g nf F f no O → lv_has ls 5 [(0, .ref (ad 50)), (3, .int (nI a2)), (1, .long d2)] → mO G lo ad (WM G ad 0 g nf F f no O it ch R) H → va_S (mA lo) s.heap H locs → W p l e (mRm 3 68) s m args below meth c H locs 0 0 Q (F0 m 38 ls []) := by
          intro n
          induction n with
          | zero => intro a2 d2 H locs ls hn; exact absurd hn (Nat.not_lt_zero _)
          | succ n ih38 =>
            intro a2 d2 H locs ls hn38 ha2 h0a2 hva2 hl hO hS
            refine lv_iload_n hx hb dX6_digest_38 rfl (lv_at hl 1 rfl) ?_
            refine lv_iconst (v := 4) hx hb dX6_digest_39 (by decide) ?_
            refine lv_icmp_ge (tgt := 62) hx hb dX6_digest_40 (by decide) (fun c40 => ?_) (fun c40 => ?_)
            · refine lv_iconst (v := 0) hx hb dX6_digest_62 (by decide) ?_
              refine lv_istore_n (lv' := [(3, .int 0), (0, .ref (ad 50)), (1, .long d2)]) hx hb dX6_digest_63 rfl hl (by decide) rfl (fun ls hl => ?_)
              have L64 : ∀ (n : Nat) (a3 : Nat) (d3 : Int64) (H : Heap) (locs : List Loc) (ls : Array Slot), nf - a3 < n → a3 ≤ nf → 0 ≤ a3 → dgN (nf - a3) a3 (fun i d => dgL 8 0 (m_frame (F i)) d) d3 = dg_3 g nf F f no O → lv_has ls 5 [(0, .ref (ad 50)), (3, .int (nI a3)), (1, .long d3)] → mO G lo ad (WM G ad 0 g nf F f no O it ch R) H → va_S (mA lo) s.heap H locs → W p l e (mRm 3 68) s m args below meth c H locs 0 0 Q (F0 m 64 ls []) := by
                intro n
                induction n with
                | zero => intro a3 d3 H locs ls hn; exact absurd hn (Nat.not_lt_zero _)
                | succ n ih64 =>
                  intro a3 d3 H locs ls hn64 ha3 h0a3 hva3 hl hO hS
                  refine lv_iload_n hx hb dX6_digest_64 rfl (lv_at hl 1 rfl) ?_
                  refine lv_aload_n hx hb dX6_digest_65 rfl (lv_at hl 0 rfl) ?_
                  refine m_get inX6 hF hC hO rfl rfl 4 (by decide) q_666 (v := .int (nI nf)) rfl dX6_digest_66 ?_
                  refine lv_icmp_ge (tgt := 109) hx hb dX6_digest_69 (by decide) (fun c69 => ?_) (fun c69 => ?_)
                  · refine lv_iconst (v := 0) hx hb dX6_digest_109 (by decide) ?_
                    refine lv_istore_n (lv' := [(3, .int 0), (0, .ref (ad 50)), (1, .long d3)]) hx hb dX6_digest_110 rfl hl (by decide) rfl (fun ls hl => ?_)
                    have L111 : ∀ (n : Nat) (a4 : Nat) (d4 : Int64) (H : Heap) (locs : List Loc) (ls : Array Slot), 4 - a4 < n → a4 ≤ 4 → 0 ≤ a4 → dgN (4 - a4) a4 (fun k d => dgL 9 1 (fun z => f (9 * k + z - 1)) d) d4 = dg_4 g nf F f no O → lv_has ls 5 [(0, .ref (ad 50)), (3, .int (nI a4)), (1, .long d4)] → mO G lo ad (WM G ad 0 g nf F f no O it ch R) H → va_S (mA lo) s.heap H locs → W p l e (mRm 3 68) s m args below meth c H locs 0 0 Q (F0 m 111 ls []) := by
                      intro n
                      induction n with
                      | zero => intro a4 d4 H locs ls hn; exact absurd hn (Nat.not_lt_zero _)
                      | succ n ih111 =>
                        intro a4 d4 H locs ls hn111 ha4 h0a4 hva4 hl hO hS
                        refine lv_iload_n hx hb dX6_digest_111 rfl (lv_at hl 1 rfl) ?_
                        refine lv_iconst (v := 4) hx hb dX6_digest_112 (by decide) ?_
                        refine lv_icmp_ge (tgt := 158) hx hb dX6_digest_113 (by decide) (fun c113 => ?_) (fun c113 => ?_)
                        · refine lv_iconst (v := 0) hx hb dX6_digest_158 (by decide) ?_
                          refine lv_istore_n (lv' := [(3, .int 0), (0, .ref (ad 50)), (1, .long d4)]) hx hb dX6_digest_159 rfl hl (by decide) rfl (fun ls hl => ?_)
                          have L160 : ∀ (n : Nat) (a5 : Nat) (d5 : Int64) (H : Heap) (locs : List Loc) (ls : Array Slot), no - a5 < n → a5 ≤ no → 0 ≤ a5 → dgN (no - a5) a5 (fun j d => dgL 6 0 (V_order f (O j)) d) d5 = dg_5 g nf F f no O → lv_has ls 5 [(0, .ref (ad 50)), (3, .int (nI a5)), (1, .long d5)] → mO G lo ad (WM G ad 0 g nf F f no O it ch R) H → va_S (mA lo) s.heap H locs → W p l e (mRm 3 68) s m args below meth c H locs 0 0 Q (F0 m 160 ls []) := by
                            intro n
                            induction n with
                            | zero => intro a5 d5 H locs ls hn; exact absurd hn (Nat.not_lt_zero _)
                            | succ n ih160 =>
                              intro a5 d5 H locs ls hn160 ha5 h0a5 hva5 hl hO hS
                              refine lv_iload_n hx hb dX6_digest_160 rfl (lv_at hl 1 rfl) ?_
                              refine lv_aload_n hx hb dX6_digest_161 rfl (lv_at hl 0 rfl) ?_
                              refine m_get inX6 hF hC hO rfl rfl 7 (by decide) q_669 (v := .int (nI no)) rfl dX6_digest_162 ?_
                              refine lv_icmp_ge (tgt := 205) hx hb dX6_digest_165 (by decide) (fun c165 => ?_) (fun c165 => ?_)
                              · refine lv_lload_n hx hb dX6_digest_205 rfl (lv_at hl 2 rfl) ?_
                                refine m_lret hF hr hlk hQ hO hS dX6_digest_206 ?_
                                have e9 : a5 = no := Nat.le_antisymm ha5 (nI_E (a := no) (b := a5) (by omega) (by omega) c165)
                                rw [e9, Nat.sub_self] at hva5
                                exact ⟨hva5, rfl⟩
                              · have ha5 := (nI_nE (a := no) (b := a5) (by omega) (by omega) c165)
                                obtain ⟨kk, zz, hkk, hz1, hz9, hw0, hw1⟩ := hOk a5 ha5
                                have hn0 : nn (O a5 0) = kk := by rw [hw0]; exact nn_nI (by omega)
                                have hn1 : nn (O a5 1) = zz := by rw [hw1]; exact nn_nI (by omega)
                                refine lv_iconst (v := 0) hx hb dX6_digest_168 (by decide) ?_
                                refine lv_istore (lv' := [(4, .int 0), (0, .ref (ad 50)), (3, .int (nI a5)), (1, .long d5)]) hx hb dX6_digest_169 hl (by decide) rfl (fun ls hl => ?_)
                                have L171 : ∀ (n : Nat) (b5 : Nat) (e5 : Int64) (H : Heap) (locs : List Loc) (ls : Array Slot), 6 - b5 < n → b5 ≤ 6 → 0 ≤ b5 → dgL (6 - b5) b5 (V_order f (O a5)) e5 = dgL 6 0 (V_order f (O a5)) d5 → lv_has ls 5 [(0, .ref (ad 50)), (3, .int (nI a5)), (4, .int (nI b5)), (1, .long e5)] → mO G lo ad (WM G ad 0 g nf F f no O it ch R) H → va_S (mA lo) s.heap H locs → W p l e (mRm 3 68) s m args below meth c H locs 0 0 Q (F0 m 171 ls []) := by
                                  intro n
                                  induction n with
                                  | zero => intro b5 e5 H locs ls hn; exact absurd hn (Nat.not_lt_zero _)
                                  | succ n ih171 =>
                                    intro b5 e5 H locs ls hn171 hb5 h0b5 hvb5 hl hO hS
                                    refine lv_iload hx hb dX6_digest_171 (lv_at hl 2 rfl) ?_
                                    refine lv_bipush (v := 6) hx hb dX6_digest_173 (by decide) ?_
                                    refine lv_icmp_ge (tgt := 199) hx hb dX6_digest_175 (by decide) (fun c175 => ?_) (fun c175 => ?_)
                                    · refine lv_iinc (v := (nI (a5 + 1))) (lv' := [(3, .int (nI (a5 + 1))), (0, .ref (ad 50)), (4, .int (nI b5)), (1, .long e5)]) hx hb dX6_digest_199 hl (k := 1) rfl (nI_inc a5) (by decide) rfl (fun ls hl => ?_)
                                      refine lv_goto (tgt := 160) hx hb dX6_digest_202 (by decide) ?_
                                      exact ih160 (a5 + 1) e5 _ _ _ (by have := (nI_nE (a := no) (b := a5) (by omega) (by omega) c165); omega) (by have := (nI_nE (a := no) (b := a5) (by omega) (by omega) c165); omega) (by omega) (by have := (nI_nE (a := no) (b := a5) (by omega) (by omega) c165); have e9 : b5 = 6 := Nat.le_antisymm hb5 (nI_E (a := 6) (b := b5) (by omega) (by omega) c175); rw [e9, Nat.sub_self] at hvb5; rw [← hva5, show no - a5 = (no - (a5 + 1)) + 1 from by omega, dgN, ← hvb5]; rfl) (lv_sub hl [1, 0, 3] rfl) hO hS
                                    · refine lv_lload_n hx hb dX6_digest_178 rfl (lv_at hl 3 rfl) ?_
                                      refine lv_ldc2 hx hb hF.2.2.2.1 (hF.2.2.2.2 _ q_914) dX6_digest_179 ?_
                                      refine lv_lmul hx hb dX6_digest_182 ?_
                                      refine lv_aload_n hx hb dX6_digest_183 rfl (lv_at hl 0 rfl) ?_
                                      refine lv_iload_n hx hb dX6_digest_184 rfl (lv_at hl 1 rfl) ?_
                                      refine lv_iload hx hb dX6_digest_185 (lv_at hl 2 rfl) ?_
                                      refine m_vI (As := [.int (nI a5), .int (nI b5)]) (rest := [.long (e5 * 31)]) (n := 2) hF hC hO hS (k_X6_orderTold l G lo sa ad R 0 g nf F f no O it ch a5 b5 kk zz hnf hno (by omega) (nI_nE (a := 6) (b := b5) (by omega) (by omega) c175) hkk hz1 hz9 hw0 hw1) ok_X6_orderTold q_857 rfl rfl ⟨Nat.le_of_ble_eq_true rfl, Nat.le_of_ble_eq_true rfl⟩ rfl hl.1 rfl (Nat.le_of_ble_eq_true rfl) ⟨Nat.le_of_ble_eq_true rfl, Nat.le_of_ble_eq_true rfl⟩ dX6_digest_187 (fun v187 R' H locs hp hO hS => ?_)
                                      obtain ⟨rfl, hR⟩ := hp
                                      rw [hR] at hO
                                      rw [show (if b5 < 5 then O a5 b5 else if O a5 4 ≠ 1 ∧ O a5 2 ≤ p_amountFrom f kk zz then 1 else 0) = V_order f (O a5) b5 from (V_order_k hn0 hn1).symm]
                                      refine lv_i2l (v := ((V_order f (O a5) b5).toInt64)) hx hb dX6_digest_190 rfl ?_
                                      refine lv_ladd hx hb dX6_digest_191 ?_
                                      refine lv_lstore_n (lv' := [(1, .long ((e5 * 31) + (V_order f (O a5) b5).toInt64)), (0, .ref (ad 50)), (3, .int (nI a5)), (4, .int (nI b5))]) hx hb dX6_digest_192 rfl hl (by decide) rfl (fun ls hl => ?_)
                                      refine lv_iinc (v := (nI (b5 + 1))) (lv' := [(4, .int (nI (b5 + 1))), (1, .long ((e5 * 31) + (V_order f (O a5) b5).toInt64)), (0, .ref (ad 50)), (3, .int (nI a5))]) hx hb dX6_digest_193 hl (k := 3) rfl (nI_inc b5) (by decide) rfl (fun ls hl => ?_)
                                      refine lv_goto (tgt := 171) hx hb dX6_digest_196 (by decide) ?_
                                      exact ih171 (b5 + 1) ((e5 * 31) + (V_order f (O a5) b5).toInt64) _ _ _ (by have := (nI_nE (a := 6) (b := b5) (by omega) (by omega) c175); omega) (by have := (nI_nE (a := 6) (b := b5) (by omega) (by omega) c175); omega) (by omega) (by have := (nI_nE (a := 6) (b := b5) (by omega) (by omega) c175); rw [← hvb5, show 6 - b5 = (6 - (b5 + 1)) + 1 from by omega]; rfl) (lv_sub hl [2, 3, 0, 1] rfl) hO hS
                                exact L171 _ 0 d5 _ _ _ (Nat.lt_succ_self _) (by omega) (by omega) rfl (lv_sub hl [1, 2, 0, 3] rfl) hO hS
                          exact L160 _ 0 d4 _ _ _ (Nat.lt_succ_self _) (by omega) (by omega) (by have e9 : a4 = 4 := Nat.le_antisymm ha4 (nI_E (a := 4) (b := a4) (by omega) (by omega) c113); rw [e9, Nat.sub_self] at hva4; rw [show d4 = dg_4 g nf F f no O from hva4]; rfl) (lv_sub hl [1, 0, 2] rfl) hO hS
                        · refine lv_iconst (v := 1) hx hb dX6_digest_116 (by decide) ?_
                          refine lv_istore (lv' := [(4, .int 1), (0, .ref (ad 50)), (3, .int (nI a4)), (1, .long d4)]) hx hb dX6_digest_117 hl (by decide) rfl (fun ls hl => ?_)
                          have L119 : ∀ (n : Nat) (b4 : Nat) (e4 : Int64) (H : Heap) (locs : List Loc) (ls : Array Slot), 10 - b4 < n → b4 ≤ 10 → 1 ≤ b4 → dgL (10 - b4) b4 (fun z => f (9 * a4 + z - 1)) e4 = dgL 9 1 (fun z => f (9 * a4 + z - 1)) d4 → lv_has ls 5 [(0, .ref (ad 50)), (3, .int (nI a4)), (4, .int (nI b4)), (1, .long e4)] → mO G lo ad (WM G ad 0 g nf F f no O it ch R) H → va_S (mA lo) s.heap H locs → W p l e (mRm 3 68) s m args below meth c H locs 0 0 Q (F0 m 119 ls []) := by
                            intro n
                            induction n with
                            | zero => intro b4 e4 H locs ls hn; exact absurd hn (Nat.not_lt_zero _)
                            | succ n ih119 =>
                              intro b4 e4 H locs ls hn119 hb4 h0b4 hvb4 hl hO hS
                              refine lv_iload hx hb dX6_digest_119 (lv_at hl 2 rfl) ?_
                              refine lv_bipush (v := 10) hx hb dX6_digest_121 (by decide) ?_
                              refine lv_icmp_ge (tgt := 152) hx hb dX6_digest_123 (by decide) (fun c123 => ?_) (fun c123 => ?_)
                              · refine lv_iinc (v := (nI (a4 + 1))) (lv' := [(3, .int (nI (a4 + 1))), (0, .ref (ad 50)), (4, .int (nI b4)), (1, .long e4)]) hx hb dX6_digest_152 hl (k := 1) rfl (nI_inc a4) (by decide) rfl (fun ls hl => ?_)
                                refine lv_goto (tgt := 111) hx hb dX6_digest_155 (by decide) ?_
                                exact ih111 (a4 + 1) e4 _ _ _ (by have := (nI_nE (a := 4) (b := a4) (by omega) (by omega) c113); omega) (by have := (nI_nE (a := 4) (b := a4) (by omega) (by omega) c113); omega) (by omega) (by have := (nI_nE (a := 4) (b := a4) (by omega) (by omega) c113); have e9 : b4 = 10 := Nat.le_antisymm hb4 (nI_E (a := 10) (b := b4) (by omega) (by omega) c123); rw [e9, Nat.sub_self] at hvb4; rw [← hva4, show 4 - a4 = (4 - (a4 + 1)) + 1 from by omega, dgN, ← hvb4]; rfl) (lv_sub hl [1, 0, 3] rfl) hO hS
                              · refine lv_lload_n hx hb dX6_digest_126 rfl (lv_at hl 3 rfl) ?_
                                refine lv_ldc2 hx hb hF.2.2.2.1 (hF.2.2.2.2 _ q_914) dX6_digest_127 ?_
                                refine lv_lmul hx hb dX6_digest_130 ?_
                                refine lv_aload_n hx hb dX6_digest_131 rfl (lv_at hl 0 rfl) ?_
                                refine m_get inX6 hF hC hO rfl rfl 6 (by decide) q_668 (v := .ref (ad 52)) rfl dX6_digest_132 ?_
                                refine lv_bipush (v := 10) hx hb dX6_digest_135 (by decide) ?_
                                refine lv_iload_n hx hb dX6_digest_137 rfl (lv_at hl 1 rfl) ?_
                                refine lv_imul hx hb dX6_digest_138 ?_
                                refine lv_iload hx hb dX6_digest_139 (lv_at hl 2 rfl) ?_
                                refine lv_iadd hx hb dX6_digest_141 ?_
                                refine m_iald hF hC hO rfl (j := (10 * a4 + b4)) (by rw [p_ixS]; exact nI_clamp (by omega)) (by have := (nI_nE (a := 4) (b := a4) (by omega) (by omega) c113); have := (nI_nE (a := 10) (b := b4) (by omega) (by omega) c123); rw [p_ixS]; exact vp_in_nI (by omega) (by decide)) dX6_digest_142 ?_
                                rw [show ((stF f) (10 * a4 + b4)) = (f (9 * a4 + b4 - 1)) from st_rd h0b4 (by have := (nI_nE (a := 10) (b := b4) (by omega) (by omega) c123); omega)]
                                refine lv_i2l (v := ((f (9 * a4 + b4 - 1)).toInt64)) hx hb dX6_digest_143 rfl ?_
                                refine lv_ladd hx hb dX6_digest_144 ?_
                                refine lv_lstore_n (lv' := [(1, .long ((e4 * 31) + (f (9 * a4 + b4 - 1)).toInt64)), (0, .ref (ad 50)), (3, .int (nI a4)), (4, .int (nI b4))]) hx hb dX6_digest_145 rfl hl (by decide) rfl (fun ls hl => ?_)
                                refine lv_iinc (v := (nI (b4 + 1))) (lv' := [(4, .int (nI (b4 + 1))), (1, .long ((e4 * 31) + (f (9 * a4 + b4 - 1)).toInt64)), (0, .ref (ad 50)), (3, .int (nI a4))]) hx hb dX6_digest_146 hl (k := 3) rfl (nI_inc b4) (by decide) rfl (fun ls hl => ?_)
                                refine lv_goto (tgt := 119) hx hb dX6_digest_149 (by decide) ?_
                                exact ih119 (b4 + 1) ((e4 * 31) + (f (9 * a4 + b4 - 1)).toInt64) _ _ _ (by have := (nI_nE (a := 10) (b := b4) (by omega) (by omega) c123); omega) (by have := (nI_nE (a := 10) (b := b4) (by omega) (by omega) c123); omega) (by omega) (by have := (nI_nE (a := 10) (b := b4) (by omega) (by omega) c123); rw [← hvb4, show 10 - b4 = (10 - (b4 + 1)) + 1 from by omega]; rfl) (lv_sub hl [2, 3, 0, 1] rfl) hO hS
                          exact L119 _ 1 d4 _ _ _ (Nat.lt_succ_self _) (by omega) (by omega) rfl (lv_sub hl [1, 2, 0, 3] rfl) hO hS
                    exact L111 _ 0 d3 _ _ _ (Nat.lt_succ_self _) (by omega) (by omega) (by have e9 : a3 = nf := Nat.le_antisymm ha3 (nI_E (a := nf) (b := a3) (by omega) (by omega) c69); rw [e9, Nat.sub_self] at hva3; rw [show d3 = dg_3 g nf F f no O from hva3]; rfl) (lv_sub hl [1, 0, 2] rfl) hO hS
                  · refine lv_iconst (v := 0) hx hb dX6_digest_72 (by decide) ?_
                    refine lv_istore (lv' := [(4, .int 0), (0, .ref (ad 50)), (3, .int (nI a3)), (1, .long d3)]) hx hb dX6_digest_73 hl (by decide) rfl (fun ls hl => ?_)
                    have L75 : ∀ (n : Nat) (b3 : Nat) (e3 : Int64) (H : Heap) (locs : List Loc) (ls : Array Slot), 8 - b3 < n → b3 ≤ 8 → 0 ≤ b3 → dgL (8 - b3) b3 (m_frame (F a3)) e3 = dgL 8 0 (m_frame (F a3)) d3 → lv_has ls 5 [(0, .ref (ad 50)), (3, .int (nI a3)), (4, .int (nI b3)), (1, .long e3)] → mO G lo ad (WM G ad 0 g nf F f no O it ch R) H → va_S (mA lo) s.heap H locs → W p l e (mRm 3 68) s m args below meth c H locs 0 0 Q (F0 m 75 ls []) := by
                      intro n
                      induction n with
                      | zero => intro b3 e3 H locs ls hn; exact absurd hn (Nat.not_lt_zero _)
                      | succ n ih75 =>
                        intro b3 e3 H locs ls hn75 hb3 h0b3 hvb3 hl hO hS
                        refine lv_iload hx hb dX6_digest_75 (lv_at hl 2 rfl) ?_
                        refine lv_bipush (v := 8) hx hb dX6_digest_77 (by decide) ?_
                        refine lv_icmp_ge (tgt := 103) hx hb dX6_digest_79 (by decide) (fun c79 => ?_) (fun c79 => ?_)
                        · refine lv_iinc (v := (nI (a3 + 1))) (lv' := [(3, .int (nI (a3 + 1))), (0, .ref (ad 50)), (4, .int (nI b3)), (1, .long e3)]) hx hb dX6_digest_103 hl (k := 1) rfl (nI_inc a3) (by decide) rfl (fun ls hl => ?_)
                          refine lv_goto (tgt := 64) hx hb dX6_digest_106 (by decide) ?_
                          exact ih64 (a3 + 1) e3 _ _ _ (by have := (nI_nE (a := nf) (b := a3) (by omega) (by omega) c69); omega) (by have := (nI_nE (a := nf) (b := a3) (by omega) (by omega) c69); omega) (by omega) (by have := (nI_nE (a := nf) (b := a3) (by omega) (by omega) c69); have e9 : b3 = 8 := Nat.le_antisymm hb3 (nI_E (a := 8) (b := b3) (by omega) (by omega) c79); rw [e9, Nat.sub_self] at hvb3; rw [← hva3, show nf - a3 = (nf - (a3 + 1)) + 1 from by omega, dgN, ← hvb3]; rfl) (lv_sub hl [1, 0, 3] rfl) hO hS
                        · refine lv_lload_n hx hb dX6_digest_82 rfl (lv_at hl 3 rfl) ?_
                          refine lv_ldc2 hx hb hF.2.2.2.1 (hF.2.2.2.2 _ q_914) dX6_digest_83 ?_
                          refine lv_lmul hx hb dX6_digest_86 ?_
                          refine lv_aload_n hx hb dX6_digest_87 rfl (lv_at hl 0 rfl) ?_
                          refine lv_iload_n hx hb dX6_digest_88 rfl (lv_at hl 1 rfl) ?_
                          refine lv_iload hx hb dX6_digest_89 (lv_at hl 2 rfl) ?_
                          refine m_vI (As := [.int (nI a3), .int (nI b3)]) (rest := [.long (e3 * 31)]) (n := 2) hF hC hO hS (k_X6_frameTold l G lo sa ad R 0 g nf F f no O it ch a3 b3 hnf hno (by have := (nI_nE (a := nf) (b := a3) (by omega) (by omega) c69); omega) (nI_nE (a := 8) (b := b3) (by omega) (by omega) c79)) ok_X6_frameTold q_821 rfl rfl ⟨Nat.le_of_ble_eq_true rfl, Nat.le_of_ble_eq_true rfl⟩ rfl hl.1 rfl (Nat.le_of_ble_eq_true rfl) ⟨Nat.le_of_ble_eq_true rfl, Nat.le_of_ble_eq_true rfl⟩ dX6_digest_91 (fun v91 R' H locs hp hO hS => ?_)
                          obtain ⟨rfl, hR⟩ := hp
                          rw [hR] at hO
                          refine lv_i2l (v := ((m_frame (F a3) b3).toInt64)) hx hb dX6_digest_94 rfl ?_
                          refine lv_ladd hx hb dX6_digest_95 ?_
                          refine lv_lstore_n (lv' := [(1, .long ((e3 * 31) + (m_frame (F a3) b3).toInt64)), (0, .ref (ad 50)), (3, .int (nI a3)), (4, .int (nI b3))]) hx hb dX6_digest_96 rfl hl (by decide) rfl (fun ls hl => ?_)
                          refine lv_iinc (v := (nI (b3 + 1))) (lv' := [(4, .int (nI (b3 + 1))), (1, .long ((e3 * 31) + (m_frame (F a3) b3).toInt64)), (0, .ref (ad 50)), (3, .int (nI a3))]) hx hb dX6_digest_97 hl (k := 3) rfl (nI_inc b3) (by decide) rfl (fun ls hl => ?_)
                          refine lv_goto (tgt := 75) hx hb dX6_digest_100 (by decide) ?_
                          exact ih75 (b3 + 1) ((e3 * 31) + (m_frame (F a3) b3).toInt64) _ _ _ (by have := (nI_nE (a := 8) (b := b3) (by omega) (by omega) c79); omega) (by have := (nI_nE (a := 8) (b := b3) (by omega) (by omega) c79); omega) (by omega) (by have := (nI_nE (a := 8) (b := b3) (by omega) (by omega) c79); rw [← hvb3, show 8 - b3 = (8 - (b3 + 1)) + 1 from by omega]; rfl) (lv_sub hl [2, 3, 0, 1] rfl) hO hS
                    exact L75 _ 0 d3 _ _ _ (Nat.lt_succ_self _) (by omega) (by omega) rfl (lv_sub hl [1, 2, 0, 3] rfl) hO hS
              exact L64 _ 0 d2 _ _ _ (Nat.lt_succ_self _) (by omega) (by omega) (by have e9 : a2 = 4 := Nat.le_antisymm ha2 (nI_E (a := 4) (b := a2) (by omega) (by omega) c40); rw [e9, Nat.sub_self] at hva2; rw [show d2 = dg_2 g nf F f no O from hva2]; rfl) (lv_sub hl [1, 0, 2] rfl) hO hS
            · refine lv_lload_n hx hb dX6_digest_43 rfl (lv_at hl 2 rfl) ?_
              refine lv_ldc2 hx hb hF.2.2.2.1 (hF.2.2.2.2 _ q_914) dX6_digest_44 ?_
              refine lv_lmul hx hb dX6_digest_47 ?_
              refine lv_aload_n hx hb dX6_digest_48 rfl (lv_at hl 0 rfl) ?_
              refine lv_iload_n hx hb dX6_digest_49 rfl (lv_at hl 1 rfl) ?_
              refine m_vI (As := [.int (nI a2)]) (rest := [.long (d2 * 31)]) (n := 1) hF hC hO hS (k_X6_vatTold l G lo sa ad R 0 g nf F f no O it ch (nI a2) hnf hno) ok_X6_vatTold q_729 rfl rfl ⟨Nat.le_of_ble_eq_true rfl, Nat.le_of_ble_eq_true rfl⟩ rfl hl.1 rfl (Nat.le_of_ble_eq_true rfl) ⟨Nat.le_of_ble_eq_true rfl, Nat.le_of_ble_eq_true rfl⟩ dX6_digest_50 (fun v50 R' H locs hp hO hS => ?_)
              obtain ⟨rfl, hR⟩ := hp
              rw [hR] at hO
              refine lv_i2l (v := ((m_vat g (nI a2)).toInt64)) hx hb dX6_digest_53 rfl ?_
              refine lv_ladd hx hb dX6_digest_54 ?_
              refine lv_lstore_n (lv' := [(1, .long ((d2 * 31) + (m_vat g (nI a2)).toInt64)), (0, .ref (ad 50)), (3, .int (nI a2))]) hx hb dX6_digest_55 rfl hl (by decide) rfl (fun ls hl => ?_)
              refine lv_iinc (v := (nI (a2 + 1))) (lv' := [(3, .int (nI (a2 + 1))), (1, .long ((d2 * 31) + (m_vat g (nI a2)).toInt64)), (0, .ref (ad 50))]) hx hb dX6_digest_56 hl (k := 2) rfl (nI_inc a2) (by decide) rfl (fun ls hl => ?_)
              refine lv_goto (tgt := 38) hx hb dX6_digest_59 (by decide) ?_
              exact ih38 (a2 + 1) ((d2 * 31) + (m_vat g (nI a2)).toInt64) _ _ _ (by have := (nI_nE (a := 4) (b := a2) (by omega) (by omega) c40); omega) (by have := (nI_nE (a := 4) (b := a2) (by omega) (by omega) c40); omega) (by omega) (by have := (nI_nE (a := 4) (b := a2) (by omega) (by omega) c40); rw [← hva2, show 4 - a2 = (4 - (a2 + 1)) + 1 from by omega]; rfl) (lv_sub hl [2, 0, 1] rfl) hO hS
        exact L38 _ 0 d1 _ _ _ (Nat.lt_succ_self _) (by omega) (by omega) (by have e9 : a1 = 9 := Nat.le_antisymm ha1 (nI_E (a := 9) (b := a1) (by omega) (by omega) c14); rw [e9, Nat.sub_self] at hva1; rw [show d1 = dg_1 g nf F f no O from hva1]; rfl) (lv_sub hl [1, 0, 2] rfl) hO hS
      · refine lv_lload_n hx hb dX6_digest_17 rfl (lv_at hl 2 rfl) ?_
        refine lv_ldc2 hx hb hF.2.2.2.1 (hF.2.2.2.2 _ q_914) dX6_digest_18 ?_
        refine lv_lmul hx hb dX6_digest_21 ?_
        refine lv_aload_n hx hb dX6_digest_22 rfl (lv_at hl 0 rfl) ?_
        refine lv_iload_n hx hb dX6_digest_23 rfl (lv_at hl 1 rfl) ?_
        refine m_vI (As := [.int (nI a1)]) (rest := [.long (d1 * 31)]) (n := 1) hF hC hO hS (k_X6_counted l G lo sa ad R 0 g nf F f no O it ch a1 hnf hno (by have := (nI_nE (a := 9) (b := a1) (by omega) (by omega) c14); omega)) ok_X6_counted q_869 rfl rfl ⟨Nat.le_of_ble_eq_true rfl, Nat.le_of_ble_eq_true rfl⟩ rfl hl.1 rfl (Nat.le_of_ble_eq_true rfl) ⟨Nat.le_of_ble_eq_true rfl, Nat.le_of_ble_eq_true rfl⟩ dX6_digest_24 (fun v24 R' H locs hp hO hS => ?_)
        obtain ⟨rfl, hR⟩ := hp
        rw [hR] at hO
        refine lv_i2l (v := ((m_count g nf F f no O a1).toInt64)) hx hb dX6_digest_27 rfl ?_
        refine lv_ladd hx hb dX6_digest_28 ?_
        refine lv_lstore_n (lv' := [(1, .long ((d1 * 31) + (m_count g nf F f no O a1).toInt64)), (0, .ref (ad 50)), (3, .int (nI a1))]) hx hb dX6_digest_29 rfl hl (by decide) rfl (fun ls hl => ?_)
        refine lv_iinc (v := (nI (a1 + 1))) (lv' := [(3, .int (nI (a1 + 1))), (1, .long ((d1 * 31) + (m_count g nf F f no O a1).toInt64)), (0, .ref (ad 50))]) hx hb dX6_digest_30 hl (k := 2) rfl (nI_inc a1) (by decide) rfl (fun ls hl => ?_)
        refine lv_goto (tgt := 11) hx hb dX6_digest_33 (by decide) ?_
        exact ih11 (a1 + 1) ((d1 * 31) + (m_count g nf F f no O a1).toInt64) _ _ _ (by have := (nI_nE (a := 9) (b := a1) (by omega) (by omega) c14); omega) (by have := (nI_nE (a := 9) (b := a1) (by omega) (by omega) c14); omega) (by omega) (by have := (nI_nE (a := 9) (b := a1) (by omega) (by omega) c14); rw [← hva1, show 9 - a1 = (9 - (a1 + 1)) + 1 from by omega]; rfl) (lv_sub hl [2, 0, 1] rfl) hO hS
  exact L11 _ 0 613 _ _ _ (Nat.lt_succ_self _) (by omega) (by omega) rfl (lv_sub hl [2, 0, 1] rfl) hO hS
