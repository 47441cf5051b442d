theorem ok_X6_dip : mOK RX6 yX6_dip cX6_dip 2 (some .int) 1 := ⟨q_765, q_766, q_6, q_767, by decide +kernel⟩
set_option maxHeartbeats 400000 in
set_option maxRecDepth 100000 in
theorem k_X6_dip (l : Launch) (G : mG) (lo : Nat) (sa ad : Nat → Nat) (R : mM) (th : Int32) (g : Nat → Int32) (nf : Nat) (F : Nat → Nat → Int32) (f : Nat → Int32) (no : Nat) (O : Nat → Nat → Int32) (it ch : Nat → Int32) (x : Int32) (hnf : nf ≤ 12) (hno : no ≤ 20) : mI l yX6_dip cX6_dip 2 .int 3 66 G lo sa ad (WM G ad th g nf F f no O it ch R) [.ref (ad 50), .int x] (fun v R' => (K_dip g nf F x = 0 ∧ v = F_dip g nf F (nn x) (nn x) 2 ∧ ∃ (it' ch' : Nat → Int32), R' = (WM G ad 0 (G_dip g F (nn x)) nf (F_dip g nf F (nn x)) f no (O_dip g F no O (nn x)) it' ch' R)) ∨ (¬ K_dip g nf F x = 0 ∧ ∃ (it' ch' : Nat → Int32), R' = (WM G ad (K_dip g nf F x) g nf F f no O it' ch' R))) := by
  refine mI_of (by decide) (Nat.le_of_ble_eq_true rfl) ?_
  intro p e s m args below meth c hF hr hlk hC ls hl hO hS Q hQ
  have hx := hF.1
  have hb := hF.2.1
  have hl : lv_has ls 2 [(0, .ref (ad 50)), (1, .int x)] := hl
  refine lv_aload_n hx hb dX6_dip_0 rfl (lv_at hl 0 rfl) ?_
  refine lv_iconst (v := 0) hx hb dX6_dip_1 (by decide) ?_
  refine m_put (ty := .int) tyX6 tyX6_ok nmX6 inX6 hF hC hO hS rfl rfl 0 (by decide) q_662 rfl (by decide +kernel) rfl rfl (fs' := [.int 0, .int (g 0), .int (g 1), .int (g 2), .int (nI nf), .ref (ad 51), .ref (ad 52), .int (nI no), .ref (ad 53), .int (g 3), .int (g 4), .int (g 5), .ref (ad 54), .ref (ad 55)]) (Nat.le_of_ble_eq_true rfl) rfl dX6_dip_2 (fun H locs hO hS => ?_)
  have hO : mO G lo ad (mU (WM G ad th g nf F f no O it ch R) 50 (mxO ad 0 g nf no)) H := hO
  rw [WM_w0] at hO
  refine lv_aload_n hx hb dX6_dip_5 rfl (lv_at hl 0 rfl) ?_
  refine lv_iload_n hx hb dX6_dip_6 rfl (lv_at hl 1 rfl) ?_
  refine m_vI (As := [.int x]) (rest := []) (n := 1) hF hC hO hS (k_X6_isFrame l G lo sa ad R 0 g nf F f no O it ch x hnf hno) ok_X6_isFrame q_744 rfl rfl ⟨Nat.le_of_ble_eq_true rfl, Nat.le_of_ble_eq_true rfl⟩ rfl hl.1 rfl (Nat.le_of_ble_eq_true rfl) ⟨Nat.le_of_ble_eq_true rfl, Nat.le_of_ble_eq_true rfl⟩ dX6_dip_7 (fun v7 R' H locs hp hO hS => ?_)
  obtain ⟨⟨rfl, b7⟩ | ⟨rfl, b7⟩, hR⟩ := hp
  · rw [hR] at hO
    refine lv_if_ne (tgt := 19) hx hb dX6_dip_10 (by decide) (fun c10 => ?_) (fun c10 => absurd c10 (by decide))
    obtain ⟨i, hi, rfl⟩ := fr_of (by omega) b7
    have hcl : nn (nI i) = i := nn_nI (by omega)
    refine lv_aload_n hx hb dX6_dip_19 rfl (lv_at hl 0 rfl) ?_
    refine lv_iload_n hx hb dX6_dip_20 rfl (lv_at hl 1 rfl) ?_
    refine m_vV (As := [.int (nI i)]) (rest := []) (n := 1) hF hC hO hS (k_X6_take l G lo sa ad R 0 g nf F f no O it ch i hnf hno (by omega)) ok_X6_take q_768 rfl rfl ⟨Nat.le_of_ble_eq_true rfl, Nat.le_of_ble_eq_true rfl⟩ rfl hl.1 rfl (Nat.le_of_ble_eq_true rfl) ⟨Nat.le_of_ble_eq_true rfl, Nat.le_of_ble_eq_true rfl⟩ dX6_dip_21 (fun R' H locs hp hO hS => ?_)
    have hR := hp
    rw [hR] at hO
    refine lv_aload_n hx hb dX6_dip_24 rfl (lv_at hl 0 rfl) ?_
    refine lv_iload_n hx hb dX6_dip_25 rfl (lv_at hl 1 rfl) ?_
    refine m_vI (As := [.int (nI i)]) (rest := []) (n := 1) hF hC hO hS (k_X6_hangs l G lo sa ad R 0 g nf F f no O (m_take it g (F i)) ch i hnf hno (by omega)) ok_X6_hangs q_772 rfl rfl ⟨Nat.le_of_ble_eq_true rfl, Nat.le_of_ble_eq_true rfl⟩ rfl hl.1 rfl (Nat.le_of_ble_eq_true rfl) ⟨Nat.le_of_ble_eq_true rfl, Nat.le_of_ble_eq_true rfl⟩ dX6_dip_26 (fun v26 R' H locs hp hO hS => ?_)
    obtain ⟨⟨rfl, b26⟩ | ⟨rfl, b26⟩, hR⟩ := hp
    · rw [hR] at hO
      refine lv_if_eq (tgt := 40) hx hb dX6_dip_29 (by decide) (fun c29 => absurd c29 (by decide)) (fun c29 => ?_)
      refine lv_aload_n hx hb dX6_dip_32 rfl (lv_at hl 0 rfl) ?_
      refine lv_iload_n hx hb dX6_dip_33 rfl (lv_at hl 1 rfl) ?_
      refine m_vI (As := [.int (nI i)]) (rest := []) (n := 1) hF hC hO hS (k_X6_can l G lo sa ad R 0 g nf F f no O (m_take it g (F i)) ch i hnf hno (by omega)) ok_X6_can q_776 rfl rfl ⟨Nat.le_of_ble_eq_true rfl, Nat.le_of_ble_eq_true rfl⟩ rfl hl.1 rfl (Nat.le_of_ble_eq_true rfl) ⟨Nat.le_of_ble_eq_true rfl, Nat.le_of_ble_eq_true rfl⟩ dX6_dip_34 (fun v34 R' H locs hp hO hS => ?_)
      obtain ⟨⟨rfl, b34⟩ | ⟨rfl, b34⟩, hR⟩ := hp
      · rw [hR] at hO
        refine lv_if_ne (tgt := 46) hx hb dX6_dip_37 (by decide) (fun c37 => ?_) (fun c37 => absurd c37 (by decide))
        refine lv_aload_n hx hb dX6_dip_46 rfl (lv_at hl 0 rfl) ?_
        refine lv_iload_n hx hb dX6_dip_47 rfl (lv_at hl 1 rfl) ?_
        refine m_vV (As := [.int (nI i)]) (rest := []) (n := 1) hF hC hO hS (k_X6_dipIt l G lo sa ad R 0 g nf F f no O (m_take it g (F i)) ch i hnf hno (by omega)) ok_X6_dipIt q_789 rfl rfl ⟨Nat.le_of_ble_eq_true rfl, Nat.le_of_ble_eq_true rfl⟩ rfl hl.1 rfl (Nat.le_of_ble_eq_true rfl) ⟨Nat.le_of_ble_eq_true rfl, Nat.le_of_ble_eq_true rfl⟩ dX6_dip_48 (fun R' H locs hp hO hS => ?_)
        have hR := hp
        rw [hR] at hO
        refine lv_aload_n hx hb dX6_dip_51 rfl (lv_at hl 0 rfl) ?_
        refine lv_aload_n hx hb dX6_dip_52 rfl (lv_at hl 0 rfl) ?_
        refine m_get inX6 hF hC hO rfl rfl 12 (by decide) q_674 (v := .ref (ad 54)) rfl dX6_dip_53 ?_
        refine lv_iconst (v := 0) hx hb dX6_dip_56 (by decide) ?_
        refine m_iald hF hC hO rfl (j := 0) (by decide) (vp_in_nI (n := 0) (by decide) (by decide)) dX6_dip_57 ?_
        refine m_put (ty := .int) tyX6 tyX6_ok nmX6 inX6 hF hC hO hS rfl rfl 1 (by decide) q_663 rfl (by decide +kernel) rfl rfl (fs' := [.int 0, .int ((m_dip (m_take it g (F i)) (F i)) 0), .int (g 1), .int (g 2), .int (nI nf), .ref (ad 51), .ref (ad 52), .int (nI no), .ref (ad 53), .int (g 3), .int (g 4), .int (g 5), .ref (ad 54), .ref (ad 55)]) (Nat.le_of_ble_eq_true rfl) rfl dX6_dip_58 (fun H locs hO hS => ?_)
        have hO : mO G lo ad (mU (WM G ad 0 g nf F f no O (m_dip (m_take it g (F i)) (F i)) ch R) 50 (mxO ad 0 (upd g 0 ((m_dip (m_take it g (F i)) (F i)) 0)) nf no)) H := hO
        rw [WM_w0] at hO
        refine lv_aload_n hx hb dX6_dip_61 rfl (lv_at hl 0 rfl) ?_
        refine lv_iload_n hx hb dX6_dip_62 rfl (lv_at hl 1 rfl) ?_
        refine lv_iconst (v := 2) hx hb dX6_dip_63 (by decide) ?_
        refine lv_aload_n hx hb dX6_dip_64 rfl (lv_at hl 0 rfl) ?_
        refine m_get inX6 hF hC hO rfl rfl 12 (by decide) q_674 (v := .ref (ad 54)) rfl dX6_dip_65 ?_
        refine lv_iconst (v := 2) hx hb dX6_dip_68 (by decide) ?_
        refine m_iald hF hC hO rfl (j := 2) (by decide) (vp_in_nI (n := 2) (by decide) (by decide)) dX6_dip_69 ?_
        refine m_vV (As := [.int (nI i), .int 2, .int ((m_dip (m_take it g (F i)) (F i)) 2)]) (rest := []) (n := 3) hF hC hO hS (k_X6_set l G lo sa ad R 0 (upd g 0 ((m_dip (m_take it g (F i)) (F i)) 0)) nf F f no O (m_dip (m_take it g (F i)) (F i)) ch i 2 ((m_dip (m_take it g (F i)) (F i)) 2) hnf hno (by omega) (by omega)) ok_X6_set q_756 rfl rfl ⟨Nat.le_of_ble_eq_true rfl, Nat.le_of_ble_eq_true rfl⟩ rfl hl.1 rfl (Nat.le_of_ble_eq_true rfl) ⟨Nat.le_of_ble_eq_true rfl, Nat.le_of_ble_eq_true rfl⟩ dX6_dip_70 (fun R' H locs hp hO hS => ?_)
        have hR := hp
        rw [hR] at hO
        refine lv_aload_n hx hb dX6_dip_73 rfl (lv_at hl 0 rfl) ?_
        refine lv_iload_n hx hb dX6_dip_74 rfl (lv_at hl 1 rfl) ?_
        refine lv_iconst (v := 3) hx hb dX6_dip_75 (by decide) ?_
        refine lv_aload_n hx hb dX6_dip_76 rfl (lv_at hl 0 rfl) ?_
        refine m_get inX6 hF hC hO rfl rfl 12 (by decide) q_674 (v := .ref (ad 54)) rfl dX6_dip_77 ?_
        refine lv_iconst (v := 3) hx hb dX6_dip_80 (by decide) ?_
        refine m_iald hF hC hO rfl (j := 3) (by decide) (vp_in_nI (n := 3) (by decide) (by decide)) dX6_dip_81 ?_
        refine m_vV (As := [.int (nI i), .int 3, .int ((m_dip (m_take it g (F i)) (F i)) 3)]) (rest := []) (n := 3) hF hC hO hS (k_X6_set l G lo sa ad R 0 (upd g 0 ((m_dip (m_take it g (F i)) (F i)) 0)) nf (va_up F i (upd (F i) 2 ((m_dip (m_take it g (F i)) (F i)) 2))) f no O (m_dip (m_take it g (F i)) (F i)) ch i 3 ((m_dip (m_take it g (F i)) (F i)) 3) hnf hno (by omega) (by omega)) ok_X6_set q_756 rfl rfl ⟨Nat.le_of_ble_eq_true rfl, Nat.le_of_ble_eq_true rfl⟩ rfl hl.1 rfl (Nat.le_of_ble_eq_true rfl) ⟨Nat.le_of_ble_eq_true rfl, Nat.le_of_ble_eq_true rfl⟩ dX6_dip_82 (fun R' H locs hp hO hS => ?_)
        have hR := hp
        rw [hR] at hO
        rw [va_up2] at hO
        refine lv_aload_n hx hb dX6_dip_85 rfl (lv_at hl 0 rfl) ?_
        refine lv_iload_n hx hb dX6_dip_86 rfl (lv_at hl 1 rfl) ?_
        refine lv_iconst (v := 4) hx hb dX6_dip_87 (by decide) ?_
        refine lv_aload_n hx hb dX6_dip_88 rfl (lv_at hl 0 rfl) ?_
        refine m_get inX6 hF hC hO rfl rfl 12 (by decide) q_674 (v := .ref (ad 54)) rfl dX6_dip_89 ?_
        refine lv_iconst (v := 4) hx hb dX6_dip_92 (by decide) ?_
        refine m_iald hF hC hO rfl (j := 4) (by decide) (vp_in_nI (n := 4) (by decide) (by decide)) dX6_dip_93 ?_
        refine m_vV (As := [.int (nI i), .int 4, .int ((m_dip (m_take it g (F i)) (F i)) 4)]) (rest := []) (n := 3) hF hC hO hS (k_X6_set l G lo sa ad R 0 (upd g 0 ((m_dip (m_take it g (F i)) (F i)) 0)) nf (va_up F i (upd (upd (F i) 2 ((m_dip (m_take it g (F i)) (F i)) 2)) 3 ((m_dip (m_take it g (F i)) (F i)) 3))) f no O (m_dip (m_take it g (F i)) (F i)) ch i 4 ((m_dip (m_take it g (F i)) (F i)) 4) hnf hno (by omega) (by omega)) ok_X6_set q_756 rfl rfl ⟨Nat.le_of_ble_eq_true rfl, Nat.le_of_ble_eq_true rfl⟩ rfl hl.1 rfl (Nat.le_of_ble_eq_true rfl) ⟨Nat.le_of_ble_eq_true rfl, Nat.le_of_ble_eq_true rfl⟩ dX6_dip_94 (fun R' H locs hp hO hS => ?_)
        have hR := hp
        rw [hR] at hO
        rw [va_up2] at hO
        refine lv_aload_n hx hb dX6_dip_97 rfl (lv_at hl 0 rfl) ?_
        refine lv_iload_n hx hb dX6_dip_98 rfl (lv_at hl 1 rfl) ?_
        refine lv_bipush (v := 6) hx hb dX6_dip_99 (by decide) ?_
        refine lv_aload_n hx hb dX6_dip_101 rfl (lv_at hl 0 rfl) ?_
        refine lv_iload_n hx hb dX6_dip_102 rfl (lv_at hl 1 rfl) ?_
        refine lv_bipush (v := 6) hx hb dX6_dip_103 (by decide) ?_
        refine m_vI (As := [.int (nI i), .int 6]) (rest := [.int 6, .int (nI i), .ref (ad 50)]) (n := 2) hF hC hO hS (k_X6_fr l G lo sa ad R 0 (upd g 0 ((m_dip (m_take it g (F i)) (F i)) 0)) nf (va_up F i (upd (upd (upd (F i) 2 ((m_dip (m_take it g (F i)) (F i)) 2)) 3 ((m_dip (m_take it g (F i)) (F i)) 3)) 4 ((m_dip (m_take it g (F i)) (F i)) 4))) f no O (m_dip (m_take it g (F i)) (F i)) ch i 6 hnf hno (by omega) (by omega)) ok_X6_fr q_752 rfl rfl ⟨Nat.le_of_ble_eq_true rfl, Nat.le_of_ble_eq_true rfl⟩ rfl hl.1 rfl (Nat.le_of_ble_eq_true rfl) ⟨Nat.le_of_ble_eq_true rfl, Nat.le_of_ble_eq_true rfl⟩ dX6_dip_105 (fun v105 R' H locs hp hO hS => ?_)
        obtain ⟨rfl, hR⟩ := hp
        rw [hR] at hO
        rw [va_upat]
        rw [show (upd (upd (upd (F i) 2 ((m_dip (m_take it g (F i)) (F i)) 2)) 3 ((m_dip (m_take it g (F i)) (F i)) 3)) 4 ((m_dip (m_take it g (F i)) (F i)) 4)) 6 = (F i 6) from rfl]
        refine lv_iconst (v := 1) hx hb dX6_dip_108 (by decide) ?_
        refine lv_iadd hx hb dX6_dip_109 ?_
        refine m_vV (As := [.int (nI i), .int 6, .int ((F i 6) + 1)]) (rest := []) (n := 3) hF hC hO hS (k_X6_set l G lo sa ad R 0 (upd g 0 ((m_dip (m_take it g (F i)) (F i)) 0)) nf (va_up F i (upd (upd (upd (F i) 2 ((m_dip (m_take it g (F i)) (F i)) 2)) 3 ((m_dip (m_take it g (F i)) (F i)) 3)) 4 ((m_dip (m_take it g (F i)) (F i)) 4))) f no O (m_dip (m_take it g (F i)) (F i)) ch i 6 ((F i 6) + 1) hnf hno (by omega) (by omega)) ok_X6_set q_756 rfl rfl ⟨Nat.le_of_ble_eq_true rfl, Nat.le_of_ble_eq_true rfl⟩ rfl hl.1 rfl (Nat.le_of_ble_eq_true rfl) ⟨Nat.le_of_ble_eq_true rfl, Nat.le_of_ble_eq_true rfl⟩ dX6_dip_110 (fun R' H locs hp hO hS => ?_)
        have hR := hp
        rw [hR] at hO
        rw [va_up2] at hO
        refine lv_aload_n hx hb dX6_dip_113 rfl (lv_at hl 0 rfl) ?_
        refine lv_dup hx hb dX6_dip_114 rfl ?_
        refine m_get inX6 hF hC hO rfl rfl 10 (by decide) q_672 (v := .int (g 4)) rfl dX6_dip_115 ?_
        refine lv_iconst (v := 1) hx hb dX6_dip_118 (by decide) ?_
        refine lv_iadd hx hb dX6_dip_119 ?_
        refine m_put (ty := .int) tyX6 tyX6_ok nmX6 inX6 hF hC hO hS rfl rfl 10 (by decide) q_672 rfl (by decide +kernel) rfl rfl (fs' := [.int 0, .int ((m_dip (m_take it g (F i)) (F i)) 0), .int (g 1), .int (g 2), .int (nI nf), .ref (ad 51), .ref (ad 52), .int (nI no), .ref (ad 53), .int (g 3), .int ((g 4) + 1), .int (g 5), .ref (ad 54), .ref (ad 55)]) (Nat.le_of_ble_eq_true rfl) rfl dX6_dip_120 (fun H locs hO hS => ?_)
        have hO : mO G lo ad (mU (WM G ad 0 (upd g 0 ((m_dip (m_take it g (F i)) (F i)) 0)) nf (va_up F i (upd (upd (upd (upd (F i) 2 ((m_dip (m_take it g (F i)) (F i)) 2)) 3 ((m_dip (m_take it g (F i)) (F i)) 3)) 4 ((m_dip (m_take it g (F i)) (F i)) 4)) 6 ((F i 6) + 1))) f no O (m_dip (m_take it g (F i)) (F i)) ch R) 50 (mxO ad 0 (upd (upd g 0 ((m_dip (m_take it g (F i)) (F i)) 0)) 4 ((g 4) + 1)) nf no)) H := hO
        rw [WM_w0] at hO
        refine lv_aload_n hx hb dX6_dip_123 rfl (lv_at hl 0 rfl) ?_
        refine lv_iload_n hx hb dX6_dip_124 rfl (lv_at hl 1 rfl) ?_
        refine m_vV (As := [.int (nI i)]) (rest := []) (n := 1) hF hC hO hS (k_X6_quarterOn l G lo sa ad R 0 (upd (upd g 0 ((m_dip (m_take it g (F i)) (F i)) 0)) 4 ((g 4) + 1)) nf (va_up F i (upd (upd (upd (upd (F i) 2 ((m_dip (m_take it g (F i)) (F i)) 2)) 3 ((m_dip (m_take it g (F i)) (F i)) 3)) 4 ((m_dip (m_take it g (F i)) (F i)) 4)) 6 ((F i 6) + 1))) f no O (m_dip (m_take it g (F i)) (F i)) ch i (nI i) hnf hno (fun j hj => nI_eq (by omega) (by omega))) ok_X6_quarterOn q_793 rfl rfl ⟨Nat.le_of_ble_eq_true rfl, Nat.le_of_ble_eq_true rfl⟩ rfl hl.1 rfl (Nat.le_of_ble_eq_true rfl) ⟨Nat.le_of_ble_eq_true rfl, Nat.le_of_ble_eq_true rfl⟩ dX6_dip_125 (fun R' H locs hp hO hS => ?_)
        have hR := hp
        rw [hR] at hO
        refine lv_aload_n hx hb dX6_dip_128 rfl (lv_at hl 0 rfl) ?_
        refine lv_iload_n hx hb dX6_dip_129 rfl (lv_at hl 1 rfl) ?_
        refine lv_iconst (v := 2) hx hb dX6_dip_130 (by decide) ?_
        refine m_vI (As := [.int (nI i), .int 2]) (rest := []) (n := 2) hF hC hO hS (k_X6_fr l G lo sa ad R 0 (m_qG (upd (upd g 0 ((m_dip (m_take it g (F i)) (F i)) 0)) 4 ((g 4) + 1))) nf (m_coolTo nf i (va_up F i (upd (upd (upd (upd (F i) 2 ((m_dip (m_take it g (F i)) (F i)) 2)) 3 ((m_dip (m_take it g (F i)) (F i)) 3)) 4 ((m_dip (m_take it g (F i)) (F i)) 4)) 6 ((F i 6) + 1)))) f no (m_qO no (upd (upd g 0 ((m_dip (m_take it g (F i)) (F i)) 0)) 4 ((g 4) + 1)) O) (m_dip (m_take it g (F i)) (F i)) ch i 2 hnf hno (by omega) (by omega)) ok_X6_fr q_752 rfl rfl ⟨Nat.le_of_ble_eq_true rfl, Nat.le_of_ble_eq_true rfl⟩ rfl hl.1 rfl (Nat.le_of_ble_eq_true rfl) ⟨Nat.le_of_ble_eq_true rfl, Nat.le_of_ble_eq_true rfl⟩ dX6_dip_131 (fun v131 R' H locs hp hO hS => ?_)
        obtain ⟨rfl, hR⟩ := hp
        rw [hR] at hO
        refine m_iret hF hr hlk hQ rfl hO hS dX6_dip_134 ?_
        have hK : K_dip g nf F (nI i) = 0 := by rw [K_dip, if_pos b7, hcl, if_pos b26, if_pos (show m_can (m_t g (F i)) (F i) from b34)]
        have hd := ag5_dip (φ := F i) (ag5_take (it := it) (g := g) (φ := F i))
        have h0 : m_dip (m_take it g (F i)) (F i) 0 = m_it1 g (F i) 0 := hd 0 (by decide)
        have h2 : m_dip (m_take it g (F i)) (F i) 2 = m_it1 g (F i) 2 := hd 2 (by decide)
        have h3 : m_dip (m_take it g (F i)) (F i) 3 = m_it1 g (F i) 3 := hd 3 (by decide)
        have h4 : m_dip (m_take it g (F i)) (F i) 4 = m_it1 g (F i) 4 := hd 4 (by decide)
        refine Or.inl ⟨hK, ?_, m_dip (m_take it g (F i)) (F i), ch, ?_⟩
        · rw [h2, h3, h4, hcl]; rfl
        · rw [h0, h2, h3, h4, hcl]; rfl
      · rw [hR] at hO
        refine lv_if_ne (tgt := 46) hx hb dX6_dip_37 (by decide) (fun c37 => absurd (by decide) c37) (fun c37 => ?_)
        refine lv_aload_n hx hb dX6_dip_40 rfl (lv_at hl 0 rfl) ?_
        refine lv_iconst (v := 2) hx hb dX6_dip_41 (by decide) ?_
        refine m_vI (As := [.int 2]) (rest := []) (n := 1) hF hC hO hS (k_X6_fail l G lo sa ad R 0 g nf F f no O (m_take it g (F i)) ch 2 hnf hno) ok_X6_fail q_717 rfl rfl ⟨Nat.le_of_ble_eq_true rfl, Nat.le_of_ble_eq_true rfl⟩ rfl hl.1 rfl (Nat.le_of_ble_eq_true rfl) ⟨Nat.le_of_ble_eq_true rfl, Nat.le_of_ble_eq_true rfl⟩ dX6_dip_42 (fun v42 R' H locs hp hO hS => ?_)
        obtain ⟨rfl, hR⟩ := hp
        rw [hR] at hO
        refine m_iret hF hr hlk hQ rfl hO hS dX6_dip_45 ?_
        have hK : K_dip g nf F (nI i) = 2 := by rw [K_dip, if_pos b7, hcl, if_pos b26, if_neg (show ¬ m_can (m_t g (F i)) (F i) from b34)]
        exact Or.inr ⟨by rw [hK]; decide, (m_take it g (F i)), ch, by rw [hK]⟩
    · rw [hR] at hO
      refine lv_if_eq (tgt := 40) hx hb dX6_dip_29 (by decide) (fun c29 => ?_) (fun c29 => absurd (by decide) c29)
      refine lv_aload_n hx hb dX6_dip_40 rfl (lv_at hl 0 rfl) ?_
      refine lv_iconst (v := 2) hx hb dX6_dip_41 (by decide) ?_
      refine m_vI (As := [.int 2]) (rest := []) (n := 1) hF hC hO hS (k_X6_fail l G lo sa ad R 0 g nf F f no O (m_take it g (F i)) ch 2 hnf hno) ok_X6_fail q_717 rfl rfl ⟨Nat.le_of_ble_eq_true rfl, Nat.le_of_ble_eq_true rfl⟩ rfl hl.1 rfl (Nat.le_of_ble_eq_true rfl) ⟨Nat.le_of_ble_eq_true rfl, Nat.le_of_ble_eq_true rfl⟩ dX6_dip_42 (fun v42 R' H locs hp hO hS => ?_)
      obtain ⟨rfl, hR⟩ := hp
      rw [hR] at hO
      refine m_iret hF hr hlk hQ rfl hO hS dX6_dip_45 ?_
      have hK : K_dip g nf F (nI i) = 2 := by rw [K_dip, if_pos b7, hcl, if_neg b26]
      exact Or.inr ⟨by rw [hK]; decide, (m_take it g (F i)), ch, by rw [hK]⟩
  · rw [hR] at hO
    refine lv_if_ne (tgt := 19) hx hb dX6_dip_10 (by decide) (fun c10 => absurd (by decide) c10) (fun c10 => ?_)
    refine lv_aload_n hx hb dX6_dip_13 rfl (lv_at hl 0 rfl) ?_
    refine lv_iconst (v := 1) hx hb dX6_dip_14 (by decide) ?_
    refine m_vI (As := [.int 1]) (rest := []) (n := 1) hF hC hO hS (k_X6_fail l G lo sa ad R 0 g nf F f no O it ch 1 hnf hno) ok_X6_fail q_717 rfl rfl ⟨Nat.le_of_ble_eq_true rfl, Nat.le_of_ble_eq_true rfl⟩ rfl hl.1 rfl (Nat.le_of_ble_eq_true rfl) ⟨Nat.le_of_ble_eq_true rfl, Nat.le_of_ble_eq_true rfl⟩ dX6_dip_15 (fun v15 R' H locs hp hO hS => ?_)
    obtain ⟨rfl, hR⟩ := hp
    rw [hR] at hO
    refine m_iret hF hr hlk hQ rfl hO hS dX6_dip_18 ?_
    have hK : K_dip g nf F x = 1 := by rw [K_dip, if_neg b7]
    exact Or.inr ⟨by rw [hK]; decide, it, ch, by rw [hK]⟩
theorem ok_X6_cutOff : mOK RX6 yX6_cutOff cX6_cutOff 3 (some .int) 1 := ⟨q_811, q_812, q_6, q_813, by decide +kernel⟩
set_option maxHeartbeats 400000 in
set_option maxRecDepth 100000 in
theorem k_X6_cutOff (l : Launch) (G : mG) (lo : Nat) (sa ad : Nat → Nat) (R : mM) (th : Int32) (g : Nat → Int32) (nf : Nat) (F : Nat → Nat → Int32) (f : Nat → Int32) (no : Nat) (O : Nat → Nat → Int32) (it ch : Nat → Int32) (x : Int32) (hnf : nf ≤ 12) (hno : no ≤ 20) (hFk : ∀ i, i < nf → ∃ kk, kk < 4 ∧ F i 0 = nI kk) : mI l yX6_cutOff cX6_cutOff 3 .int 2 44 G lo sa ad (WM G ad th g nf F f no O it ch R) [.ref (ad 50), .int x] (fun v R' => (K_cutOff nf F x = 0 ∧ v = S_cut (F (nn x)) ∧ ∃ (it' ch' : Nat → Int32), R' = (WM G ad 0 (G_cut g (F (nn x))) nf (va_up F (nn x) (p_renewF (F (nn x)))) (f_cut f (F (nn x))) no O it' ch' R)) ∨ (¬ K_cutOff nf F x = 0 ∧ ∃ (it' ch' : Nat → Int32), R' = (WM G ad (K_cutOff nf F x) g nf F f no O it' ch' R))) := by
  refine mI_of (by decide) (Nat.le_of_ble_eq_true rfl) ?_
  intro p e s m args below meth c hF hr hlk hC ls hl hO hS Q hQ
  have hx := hF.1
  have hb := hF.2.1
  have hl : lv_has ls 3 [(0, .ref (ad 50)), (1, .int x)] := hl
  refine lv_aload_n hx hb dX6_cutOff_0 rfl (lv_at hl 0 rfl) ?_
  refine lv_iconst (v := 0) hx hb dX6_cutOff_1 (by decide) ?_
  refine m_put (ty := .int) tyX6 tyX6_ok nmX6 inX6 hF hC hO hS rfl rfl 0 (by decide) q_662 rfl (by decide +kernel) rfl rfl (fs' := [.int 0, .int (g 0), .int (g 1), .int (g 2), .int (nI nf), .ref (ad 51), .ref (ad 52), .int (nI no), .ref (ad 53), .int (g 3), .int (g 4), .int (g 5), .ref (ad 54), .ref (ad 55)]) (Nat.le_of_ble_eq_true rfl) rfl dX6_cutOff_2 (fun H locs hO hS => ?_)
  have hO : mO G lo ad (mU (WM G ad th g nf F f no O it ch R) 50 (mxO ad 0 g nf no)) H := hO
  rw [WM_w0] at hO
  refine lv_aload_n hx hb dX6_cutOff_5 rfl (lv_at hl 0 rfl) ?_
  refine lv_iload_n hx hb dX6_cutOff_6 rfl (lv_at hl 1 rfl) ?_
  refine m_vI (As := [.int x]) (rest := []) (n := 1) hF hC hO hS (k_X6_isFrame l G lo sa ad R 0 g nf F f no O it ch x hnf hno) ok_X6_isFrame q_744 rfl rfl ⟨Nat.le_of_ble_eq_true rfl, Nat.le_of_ble_eq_true rfl⟩ rfl hl.1 rfl (Nat.le_of_ble_eq_true rfl) ⟨Nat.le_of_ble_eq_true rfl, Nat.le_of_ble_eq_true rfl⟩ dX6_cutOff_7 (fun v7 R' H locs hp hO hS => ?_)
  obtain ⟨⟨rfl, b7⟩ | ⟨rfl, b7⟩, hR⟩ := hp
  · rw [hR] at hO
    refine lv_if_ne (tgt := 19) hx hb dX6_cutOff_10 (by decide) (fun c10 => ?_) (fun c10 => absurd c10 (by decide))
    obtain ⟨i, hi, rfl⟩ := fr_of (by omega) b7
    have hcl : nn (nI i) = i := nn_nI (by omega)
    refine lv_aload_n hx hb dX6_cutOff_19 rfl (lv_at hl 0 rfl) ?_
    refine lv_iload_n hx hb dX6_cutOff_20 rfl (lv_at hl 1 rfl) ?_
    refine lv_iconst (v := 2) hx hb dX6_cutOff_21 (by decide) ?_
    refine m_vI (As := [.int (nI i), .int 2]) (rest := []) (n := 2) hF hC hO hS (k_X6_fr l G lo sa ad R 0 g nf F f no O it ch i 2 hnf hno (by omega) (by omega)) ok_X6_fr q_752 rfl rfl ⟨Nat.le_of_ble_eq_true rfl, Nat.le_of_ble_eq_true rfl⟩ rfl hl.1 rfl (Nat.le_of_ble_eq_true rfl) ⟨Nat.le_of_ble_eq_true rfl, Nat.le_of_ble_eq_true rfl⟩ dX6_cutOff_22 (fun v22 R' H locs hp hO hS => ?_)
    obtain ⟨rfl, hR⟩ := hp
    rw [hR] at hO
    refine lv_if_eq (tgt := 39) hx hb dX6_cutOff_25 (by decide) (fun c25 => ?_) (fun c25 => ?_)
    · refine lv_aload_n hx hb dX6_cutOff_39 rfl (lv_at hl 0 rfl) ?_
      refine lv_iconst (v := 2) hx hb dX6_cutOff_40 (by decide) ?_
      refine m_vI (As := [.int 2]) (rest := []) (n := 1) hF hC hO hS (k_X6_fail l G lo sa ad R 0 g nf F f no O it ch 2 hnf hno) ok_X6_fail q_717 rfl rfl ⟨Nat.le_of_ble_eq_true rfl, Nat.le_of_ble_eq_true rfl⟩ rfl hl.1 rfl (Nat.le_of_ble_eq_true rfl) ⟨Nat.le_of_ble_eq_true rfl, Nat.le_of_ble_eq_true rfl⟩ dX6_cutOff_41 (fun v41 R' H locs hp hO hS => ?_)
      obtain ⟨rfl, hR⟩ := hp
      rw [hR] at hO
      refine m_iret hF hr hlk hQ rfl hO hS dX6_cutOff_44 ?_
      have hK : K_cutOff nf F (nI i) = 2 := by rw [K_cutOff, if_pos b7, hcl, if_pos c25]
      exact Or.inr ⟨by rw [hK]; decide, it, ch, by rw [hK]⟩
    · refine lv_aload_n hx hb dX6_cutOff_28 rfl (lv_at hl 0 rfl) ?_
      refine lv_iload_n hx hb dX6_cutOff_29 rfl (lv_at hl 1 rfl) ?_
      refine lv_iconst (v := 3) hx hb dX6_cutOff_30 (by decide) ?_
      refine m_vI (As := [.int (nI i), .int 3]) (rest := []) (n := 2) hF hC hO hS (k_X6_fr l G lo sa ad R 0 g nf F f no O it ch i 3 hnf hno (by omega) (by omega)) ok_X6_fr q_752 rfl rfl ⟨Nat.le_of_ble_eq_true rfl, Nat.le_of_ble_eq_true rfl⟩ rfl hl.1 rfl (Nat.le_of_ble_eq_true rfl) ⟨Nat.le_of_ble_eq_true rfl, Nat.le_of_ble_eq_true rfl⟩ dX6_cutOff_31 (fun v31 R' H locs hp hO hS => ?_)
      obtain ⟨rfl, hR⟩ := hp
      rw [hR] at hO
      refine lv_bipush (v := 20) hx hb dX6_cutOff_34 (by decide) ?_
      refine lv_icmp_le (tgt := 45) hx hb dX6_cutOff_36 (by decide) (fun c36 => ?_) (fun c36 => ?_)
      · refine lv_aload_n hx hb dX6_cutOff_45 rfl (lv_at hl 0 rfl) ?_
        refine lv_iload_n hx hb dX6_cutOff_46 rfl (lv_at hl 1 rfl) ?_
        refine lv_iconst (v := 2) hx hb dX6_cutOff_47 (by decide) ?_
        refine m_vI (As := [.int (nI i), .int 2]) (rest := []) (n := 2) hF hC hO hS (k_X6_fr l G lo sa ad R 0 g nf F f no O it ch i 2 hnf hno (by omega) (by omega)) ok_X6_fr q_752 rfl rfl ⟨Nat.le_of_ble_eq_true rfl, Nat.le_of_ble_eq_true rfl⟩ rfl hl.1 rfl (Nat.le_of_ble_eq_true rfl) ⟨Nat.le_of_ble_eq_true rfl, Nat.le_of_ble_eq_true rfl⟩ dX6_cutOff_48 (fun v48 R' H locs hp hO hS => ?_)
        obtain ⟨rfl, hR⟩ := hp
        rw [hR] at hO
        refine lv_aload_n hx hb dX6_cutOff_51 rfl (lv_at hl 0 rfl) ?_
        refine lv_iload_n hx hb dX6_cutOff_52 rfl (lv_at hl 1 rfl) ?_
        refine lv_iconst (v := 4) hx hb dX6_cutOff_53 (by decide) ?_
        refine m_vI (As := [.int (nI i), .int 4]) (rest := [.int (F i 2)]) (n := 2) hF hC hO hS (k_X6_fr l G lo sa ad R 0 g nf F f no O it ch i 4 hnf hno (by omega) (by omega)) ok_X6_fr q_752 rfl rfl ⟨Nat.le_of_ble_eq_true rfl, Nat.le_of_ble_eq_true rfl⟩ rfl hl.1 rfl (Nat.le_of_ble_eq_true rfl) ⟨Nat.le_of_ble_eq_true rfl, Nat.le_of_ble_eq_true rfl⟩ dX6_cutOff_54 (fun v54 R' H locs hp hO hS => ?_)
        obtain ⟨rfl, hR⟩ := hp
        rw [hR] at hO
        refine m_sI (As := [.int (F i 2), .int (F i 4)]) (rest := []) (n := 2) hF hC hO hS (k_X6_size l G lo sa ad _ (F i 2) (F i 4) ) ok_X6_size q_814 ⟨Nat.le_of_ble_eq_true rfl, Nat.le_of_ble_eq_true rfl⟩ rfl hl.1 rfl (Nat.le_of_ble_eq_true rfl) ⟨Nat.le_of_ble_eq_true rfl, Nat.le_of_ble_eq_true rfl⟩ dX6_cutOff_57 (fun v57 R' H locs hp hO hS => ?_)
        obtain ⟨rfl, hR⟩ := hp
        rw [hR] at hO
        refine lv_istore_n (lv' := [(2, .int (m_size (F i 2) (F i 4))), (0, .ref (ad 50)), (1, .int (nI i))]) hx hb dX6_cutOff_60 rfl hl (by decide) rfl (fun ls hl => ?_)
        refine lv_iload_n hx hb dX6_cutOff_61 rfl (lv_at hl 0 rfl) ?_
        refine lv_if_le (tgt := 93) hx hb dX6_cutOff_62 (by decide) (fun c62 => ?_) (fun c62 => ?_)
        · refine lv_aload_n hx hb dX6_cutOff_93 rfl (lv_at hl 1 rfl) ?_
          refine lv_sipush (v := 20000) hx hb dX6_cutOff_94 (by decide) ?_
          refine lv_aload_n hx hb dX6_cutOff_97 rfl (lv_at hl 1 rfl) ?_
          refine m_get inX6 hF hC hO rfl rfl 1 (by decide) q_663 (v := .int (g 0)) rfl dX6_cutOff_98 ?_
          refine lv_aload_n hx hb dX6_cutOff_101 rfl (lv_at hl 1 rfl) ?_
          refine lv_iload_n hx hb dX6_cutOff_102 rfl (lv_at hl 2 rfl) ?_
          refine lv_aload_n hx hb dX6_cutOff_103 rfl (lv_at hl 1 rfl) ?_
          refine lv_iload_n hx hb dX6_cutOff_104 rfl (lv_at hl 2 rfl) ?_
          refine lv_iconst (v := 2) hx hb dX6_cutOff_105 (by decide) ?_
          refine m_vI (As := [.int (nI i), .int 2]) (rest := [.int (nI i), .ref (ad 50), .int (g 0), .int 20000, .ref (ad 50)]) (n := 2) hF hC hO hS (k_X6_fr l G lo sa ad R 0 g nf F f no O it ch i 2 hnf hno (by omega) (by omega)) ok_X6_fr q_752 rfl rfl ⟨Nat.le_of_ble_eq_true rfl, Nat.le_of_ble_eq_true rfl⟩ rfl hl.1 rfl (Nat.le_of_ble_eq_true rfl) ⟨Nat.le_of_ble_eq_true rfl, Nat.le_of_ble_eq_true rfl⟩ dX6_cutOff_106 (fun v106 R' H locs hp hO hS => ?_)
          obtain ⟨rfl, hR⟩ := hp
          rw [hR] at hO
          refine m_vI (As := [.int (nI i), .int (F i 2)]) (rest := [.int (g 0), .int 20000, .ref (ad 50)]) (n := 2) hF hC hO hS (k_X6_waxOf l G lo sa ad R 0 g nf F f no O it ch i (F i 2) hnf hno (by omega)) ok_X6_waxOf q_785 rfl rfl ⟨Nat.le_of_ble_eq_true rfl, Nat.le_of_ble_eq_true rfl⟩ rfl hl.1 rfl (Nat.le_of_ble_eq_true rfl) ⟨Nat.le_of_ble_eq_true rfl, Nat.le_of_ble_eq_true rfl⟩ dX6_cutOff_109 (fun v109 R' H locs hp hO hS => ?_)
          obtain ⟨rfl, hR⟩ := hp
          rw [hR] at hO
          refine lv_iadd hx hb dX6_cutOff_112 ?_
          refine m_min hF hl.1 q_784 q_168 q_14 q_169 (Nat.le_of_ble_eq_true rfl) (Nat.le_of_ble_eq_true rfl) ⟨Nat.le_of_ble_eq_true rfl, Nat.le_of_ble_eq_true rfl⟩ dX6_cutOff_113 ?_
          refine m_put (ty := .int) tyX6 tyX6_ok nmX6 inX6 hF hC hO hS rfl rfl 1 (by decide) q_663 rfl (by decide +kernel) rfl rfl (fs' := [.int 0, .int (jmin 20000 ((g 0) + (p_wax (F i) (F i 2)))), .int (g 1), .int (g 2), .int (nI nf), .ref (ad 51), .ref (ad 52), .int (nI no), .ref (ad 53), .int (g 3), .int (g 4), .int (g 5), .ref (ad 54), .ref (ad 55)]) (Nat.le_of_ble_eq_true rfl) rfl dX6_cutOff_116 (fun H locs hO hS => ?_)
          have hO : mO G lo ad (mU (WM G ad 0 g nf F f no O it ch R) 50 (mxO ad 0 (upd g 0 (jmin 20000 ((g 0) + (p_wax (F i) (F i 2))))) nf no)) H := hO
          rw [WM_w0] at hO
          refine lv_aload_n hx hb dX6_cutOff_119 rfl (lv_at hl 1 rfl) ?_
          refine lv_dup hx hb dX6_cutOff_120 rfl ?_
          refine m_get inX6 hF hC hO rfl rfl 11 (by decide) q_673 (v := .int (g 5)) rfl dX6_cutOff_121 ?_
          refine lv_iload_n hx hb dX6_cutOff_124 rfl (lv_at hl 0 rfl) ?_
          refine lv_if_le (tgt := 132) hx hb dX6_cutOff_125 (by decide) (fun c125 => ?_) (fun c125 => absurd c62 c125)
          refine lv_aload_n hx hb dX6_cutOff_132 rfl (lv_at hl 1 rfl) ?_
          refine lv_iload_n hx hb dX6_cutOff_133 rfl (lv_at hl 2 rfl) ?_
          refine lv_iconst (v := 1) hx hb dX6_cutOff_134 (by decide) ?_
          refine m_vI (As := [.int (nI i), .int 1]) (rest := [.int (g 5), .ref (ad 50)]) (n := 2) hF hC hO hS (k_X6_fr l G lo sa ad R 0 (upd g 0 (jmin 20000 ((g 0) + (p_wax (F i) (F i 2))))) nf F f no O it ch i 1 hnf hno (by omega) (by omega)) ok_X6_fr q_752 rfl rfl ⟨Nat.le_of_ble_eq_true rfl, Nat.le_of_ble_eq_true rfl⟩ rfl hl.1 rfl (Nat.le_of_ble_eq_true rfl) ⟨Nat.le_of_ble_eq_true rfl, Nat.le_of_ble_eq_true rfl⟩ dX6_cutOff_135 (fun v135 R' H locs hp hO hS => ?_)
          obtain ⟨rfl, hR⟩ := hp
          rw [hR] at hO
          refine lv_iadd hx hb dX6_cutOff_138 ?_
          refine m_put (ty := .int) tyX6 tyX6_ok nmX6 inX6 hF hC hO hS rfl rfl 11 (by decide) q_673 rfl (by decide +kernel) rfl rfl (fs' := [.int 0, .int (jmin 20000 ((g 0) + (p_wax (F i) (F i 2)))), .int (g 1), .int (g 2), .int (nI nf), .ref (ad 51), .ref (ad 52), .int (nI no), .ref (ad 53), .int (g 3), .int (g 4), .int ((g 5) + (F i 1)), .ref (ad 54), .ref (ad 55)]) (Nat.le_of_ble_eq_true rfl) rfl dX6_cutOff_139 (fun H locs hO hS => ?_)
          have hO : mO G lo ad (mU (WM G ad 0 (upd g 0 (jmin 20000 ((g 0) + (p_wax (F i) (F i 2))))) nf F f no O it ch R) 50 (mxO ad 0 (upd (upd g 0 (jmin 20000 ((g 0) + (p_wax (F i) (F i 2))))) 5 ((g 5) + (F i 1))) nf no)) H := hO
          rw [WM_w0] at hO
          refine lv_aload_n hx hb dX6_cutOff_142 rfl (lv_at hl 1 rfl) ?_
          refine lv_iload_n hx hb dX6_cutOff_143 rfl (lv_at hl 2 rfl) ?_
          refine lv_iconst (v := 2) hx hb dX6_cutOff_144 (by decide) ?_
          refine lv_iconst (v := 0) hx hb dX6_cutOff_145 (by decide) ?_
          refine m_vV (As := [.int (nI i), .int 2, .int 0]) (rest := []) (n := 3) hF hC hO hS (k_X6_set l G lo sa ad R 0 (upd (upd g 0 (jmin 20000 ((g 0) + (p_wax (F i) (F i 2))))) 5 ((g 5) + (F i 1))) nf F f no O it ch i 2 0 hnf hno (by omega) (by omega)) ok_X6_set q_756 rfl rfl ⟨Nat.le_of_ble_eq_true rfl, Nat.le_of_ble_eq_true rfl⟩ rfl hl.1 rfl (Nat.le_of_ble_eq_true rfl) ⟨Nat.le_of_ble_eq_true rfl, Nat.le_of_ble_eq_true rfl⟩ dX6_cutOff_146 (fun R' H locs hp hO hS => ?_)
          have hR := hp
          rw [hR] at hO
          refine lv_aload_n hx hb dX6_cutOff_149 rfl (lv_at hl 1 rfl) ?_
          refine lv_iload_n hx hb dX6_cutOff_150 rfl (lv_at hl 2 rfl) ?_
          refine lv_iconst (v := 3) hx hb dX6_cutOff_151 (by decide) ?_
          refine lv_iconst (v := 0) hx hb dX6_cutOff_152 (by decide) ?_
          refine m_vV (As := [.int (nI i), .int 3, .int 0]) (rest := []) (n := 3) hF hC hO hS (k_X6_set l G lo sa ad R 0 (upd (upd g 0 (jmin 20000 ((g 0) + (p_wax (F i) (F i 2))))) 5 ((g 5) + (F i 1))) nf (va_up F i (upd (F i) 2 0)) f no O it ch i 3 0 hnf hno (by omega) (by omega)) ok_X6_set q_756 rfl rfl ⟨Nat.le_of_ble_eq_true rfl, Nat.le_of_ble_eq_true rfl⟩ rfl hl.1 rfl (Nat.le_of_ble_eq_true rfl) ⟨Nat.le_of_ble_eq_true rfl, Nat.le_of_ble_eq_true rfl⟩ dX6_cutOff_153 (fun R' H locs hp hO hS => ?_)
          have hR := hp
          rw [hR] at hO
          rw [va_up2] at hO
          refine lv_aload_n hx hb dX6_cutOff_156 rfl (lv_at hl 1 rfl) ?_
          refine lv_iload_n hx hb dX6_cutOff_157 rfl (lv_at hl 2 rfl) ?_
          refine lv_iconst (v := 4) hx hb dX6_cutOff_158 (by decide) ?_
          refine lv_iconst (v := 0) hx hb dX6_cutOff_159 (by decide) ?_
          refine m_vV (As := [.int (nI i), .int 4, .int 0]) (rest := []) (n := 3) hF hC hO hS (k_X6_set l G lo sa ad R 0 (upd (upd g 0 (jmin 20000 ((g 0) + (p_wax (F i) (F i 2))))) 5 ((g 5) + (F i 1))) nf (va_up F i (upd (upd (F i) 2 0) 3 0)) f no O it ch i 4 0 hnf hno (by omega) (by omega)) ok_X6_set q_756 rfl rfl ⟨Nat.le_of_ble_eq_true rfl, Nat.le_of_ble_eq_true rfl⟩ rfl hl.1 rfl (Nat.le_of_ble_eq_true rfl) ⟨Nat.le_of_ble_eq_true rfl, Nat.le_of_ble_eq_true rfl⟩ dX6_cutOff_160 (fun R' H locs hp hO hS => ?_)
          have hR := hp
          rw [hR] at hO
          rw [va_up2] at hO
          refine lv_aload_n hx hb dX6_cutOff_163 rfl (lv_at hl 1 rfl) ?_
          refine lv_iload_n hx hb dX6_cutOff_164 rfl (lv_at hl 2 rfl) ?_
          refine lv_bipush (v := 6) hx hb dX6_cutOff_165 (by decide) ?_
          refine lv_iconst (v := 0) hx hb dX6_cutOff_167 (by decide) ?_
          refine m_vV (As := [.int (nI i), .int 6, .int 0]) (rest := []) (n := 3) hF hC hO hS (k_X6_set l G lo sa ad R 0 (upd (upd g 0 (jmin 20000 ((g 0) + (p_wax (F i) (F i 2))))) 5 ((g 5) + (F i 1))) nf (va_up F i (upd (upd (upd (F i) 2 0) 3 0) 4 0)) f no O it ch i 6 0 hnf hno (by omega) (by omega)) ok_X6_set q_756 rfl rfl ⟨Nat.le_of_ble_eq_true rfl, Nat.le_of_ble_eq_true rfl⟩ rfl hl.1 rfl (Nat.le_of_ble_eq_true rfl) ⟨Nat.le_of_ble_eq_true rfl, Nat.le_of_ble_eq_true rfl⟩ dX6_cutOff_168 (fun R' H locs hp hO hS => ?_)
          have hR := hp
          rw [hR] at hO
          rw [va_up2] at hO
          refine lv_iload_n hx hb dX6_cutOff_171 rfl (lv_at hl 0 rfl) ?_
          refine m_iret hF hr hlk hQ rfl hO hS dX6_cutOff_172 ?_
          have hK : K_cutOff nf F (nI i) = 0 := by rw [K_cutOff, if_pos b7, hcl, if_neg c25, if_pos c36]
          have hs : ¬ 0 < S_cut (F i) := (Int32.not_lt.mpr c62)
          refine Or.inl ⟨hK, by rw [hcl]; rfl, it, ch, ?_⟩
          rw [hcl, G_cut, f_cut, if_neg hs, if_neg hs]
          rfl
        · obtain ⟨kk, hkk, hkk0⟩ := hFk i hi
          obtain ⟨zz, hz1, hz9, hzz⟩ := cut_zz (Int32.not_le.mp c62)
          refine lv_aload_n hx hb dX6_cutOff_65 rfl (lv_at hl 1 rfl) ?_
          refine m_get inX6 hF hC hO rfl rfl 6 (by decide) q_668 (v := .ref (ad 52)) rfl dX6_cutOff_66 ?_
          refine lv_bipush (v := 10) hx hb dX6_cutOff_69 (by decide) ?_
          refine lv_aload_n hx hb dX6_cutOff_71 rfl (lv_at hl 1 rfl) ?_
          refine lv_iload_n hx hb dX6_cutOff_72 rfl (lv_at hl 2 rfl) ?_
          refine lv_iconst (v := 0) hx hb dX6_cutOff_73 (by decide) ?_
          refine m_vI (As := [.int (nI i), .int 0]) (rest := [.int 10, .ref (ad 52)]) (n := 2) hF hC hO hS (k_X6_fr l G lo sa ad R 0 g nf F f no O it ch i 0 hnf hno (by omega) (by omega)) ok_X6_fr q_752 rfl rfl ⟨Nat.le_of_ble_eq_true rfl, Nat.le_of_ble_eq_true rfl⟩ rfl hl.1 rfl (Nat.le_of_ble_eq_true rfl) ⟨Nat.le_of_ble_eq_true rfl, Nat.le_of_ble_eq_true rfl⟩ dX6_cutOff_74 (fun v74 R' H locs hp hO hS => ?_)
          obtain ⟨rfl, hR⟩ := hp
          rw [hR] at hO
          rw [hkk0]
          refine lv_imul hx hb dX6_cutOff_77 ?_
          refine lv_iload_n hx hb dX6_cutOff_78 rfl (lv_at hl 0 rfl) ?_
          rw [show m_size (F i 2) (F i 4) = nI zz from hzz]
          refine lv_iadd hx hb dX6_cutOff_79 ?_
          refine lv_dup2_11 hx hb dX6_cutOff_80 rfl rfl ?_
          refine m_iald hF hC hO rfl (j := (10 * kk + zz)) (by rw [p_ixS]; exact nI_clamp (by omega)) (by rw [p_ixS]; exact vp_in_nI (by omega) (by decide)) dX6_cutOff_81 ?_
          rw [show ((stF f) (10 * kk + zz)) = (f (9 * kk + zz - 1)) from st_rd hz1 hz9]
          refine lv_aload_n hx hb dX6_cutOff_82 rfl (lv_at hl 1 rfl) ?_
          refine lv_iload_n hx hb dX6_cutOff_83 rfl (lv_at hl 2 rfl) ?_
          refine lv_iconst (v := 1) hx hb dX6_cutOff_84 (by decide) ?_
          refine m_vI (As := [.int (nI i), .int 1]) (rest := [.int (f (9 * kk + zz - 1)), .int ((10 * (nI kk)) + (nI zz)), .ref (ad 52)]) (n := 2) hF hC hO hS (k_X6_fr l G lo sa ad R 0 g nf F f no O it ch i 1 hnf hno (by omega) (by omega)) ok_X6_fr q_752 rfl rfl ⟨Nat.le_of_ble_eq_true rfl, Nat.le_of_ble_eq_true rfl⟩ rfl hl.1 rfl (Nat.le_of_ble_eq_true rfl) ⟨Nat.le_of_ble_eq_true rfl, Nat.le_of_ble_eq_true rfl⟩ dX6_cutOff_85 (fun v85 R' H locs hp hO hS => ?_)
          obtain ⟨rfl, hR⟩ := hp
          rw [hR] at hO
          refine lv_iadd hx hb dX6_cutOff_88 ?_
          refine m_iast hF hC hO hS rfl (j := (10 * kk + zz)) (by rw [p_ixS]; exact nI_clamp (by omega)) (by rw [p_ixS]; exact vp_in_nI (by omega) (by decide)) dX6_cutOff_89 (fun H locs hO hS => ?_)
          have hO : mO G lo ad (mU (WM G ad 0 g nf F f no O it ch R) 52 (.inl (G.2 0, 40, .inl (upd (stF f) (10 * kk + zz) ((f (9 * kk + zz - 1)) + (F i 1)))))) H := hO
          rw [WM_w2 (st_wr hz1 hz9)] at hO
          refine lv_goto (tgt := 119) hx hb dX6_cutOff_90 (by decide) ?_
          refine lv_aload_n hx hb dX6_cutOff_119 rfl (lv_at hl 1 rfl) ?_
          refine lv_dup hx hb dX6_cutOff_120 rfl ?_
          refine m_get inX6 hF hC hO rfl rfl 11 (by decide) q_673 (v := .int (g 5)) rfl dX6_cutOff_121 ?_
          refine lv_iload_n hx hb dX6_cutOff_124 rfl (lv_at hl 0 rfl) ?_
          refine lv_if_le (tgt := 132) hx hb dX6_cutOff_125 (by decide) (fun c125 => absurd c125 c62) (fun c125 => ?_)
          refine lv_iconst (v := 0) hx hb dX6_cutOff_128 (by decide) ?_
          refine lv_goto (tgt := 138) hx hb dX6_cutOff_129 (by decide) ?_
          refine lv_iadd hx hb dX6_cutOff_138 ?_
          refine m_put (ty := .int) tyX6 tyX6_ok nmX6 inX6 hF hC hO hS rfl rfl 11 (by decide) q_673 rfl (by decide +kernel) rfl rfl (fs' := [.int 0, .int (g 0), .int (g 1), .int (g 2), .int (nI nf), .ref (ad 51), .ref (ad 52), .int (nI no), .ref (ad 53), .int (g 3), .int (g 4), .int ((g 5) + 0), .ref (ad 54), .ref (ad 55)]) (Nat.le_of_ble_eq_true rfl) rfl dX6_cutOff_139 (fun H locs hO hS => ?_)
          have hO : mO G lo ad (mU (WM G ad 0 g nf F (upd f (9 * kk + zz - 1) ((f (9 * kk + zz - 1)) + (F i 1))) no O it ch R) 50 (mxO ad 0 (upd g 5 ((g 5) + 0)) nf no)) H := hO
          rw [WM_w0] at hO
          refine lv_aload_n hx hb dX6_cutOff_142 rfl (lv_at hl 1 rfl) ?_
          refine lv_iload_n hx hb dX6_cutOff_143 rfl (lv_at hl 2 rfl) ?_
          refine lv_iconst (v := 2) hx hb dX6_cutOff_144 (by decide) ?_
          refine lv_iconst (v := 0) hx hb dX6_cutOff_145 (by decide) ?_
          refine m_vV (As := [.int (nI i), .int 2, .int 0]) (rest := []) (n := 3) hF hC hO hS (k_X6_set l G lo sa ad R 0 (upd g 5 ((g 5) + 0)) nf F (upd f (9 * kk + zz - 1) ((f (9 * kk + zz - 1)) + (F i 1))) no O it ch i 2 0 hnf hno (by omega) (by omega)) ok_X6_set q_756 rfl rfl ⟨Nat.le_of_ble_eq_true rfl, Nat.le_of_ble_eq_true rfl⟩ rfl hl.1 rfl (Nat.le_of_ble_eq_true rfl) ⟨Nat.le_of_ble_eq_true rfl, Nat.le_of_ble_eq_true rfl⟩ dX6_cutOff_146 (fun R' H locs hp hO hS => ?_)
          have hR := hp
          rw [hR] at hO
          refine lv_aload_n hx hb dX6_cutOff_149 rfl (lv_at hl 1 rfl) ?_
          refine lv_iload_n hx hb dX6_cutOff_150 rfl (lv_at hl 2 rfl) ?_
          refine lv_iconst (v := 3) hx hb dX6_cutOff_151 (by decide) ?_
          refine lv_iconst (v := 0) hx hb dX6_cutOff_152 (by decide) ?_
          refine m_vV (As := [.int (nI i), .int 3, .int 0]) (rest := []) (n := 3) hF hC hO hS (k_X6_set l G lo sa ad R 0 (upd g 5 ((g 5) + 0)) nf (va_up F i (upd (F i) 2 0)) (upd f (9 * kk + zz - 1) ((f (9 * kk + zz - 1)) + (F i 1))) no O it ch i 3 0 hnf hno (by omega) (by omega)) ok_X6_set q_756 rfl rfl ⟨Nat.le_of_ble_eq_true rfl, Nat.le_of_ble_eq_true rfl⟩ rfl hl.1 rfl (Nat.le_of_ble_eq_true rfl) ⟨Nat.le_of_ble_eq_true rfl, Nat.le_of_ble_eq_true rfl⟩ dX6_cutOff_153 (fun R' H locs hp hO hS => ?_)
          have hR := hp
          rw [hR] at hO
          rw [va_up2] at hO
          refine lv_aload_n hx hb dX6_cutOff_156 rfl (lv_at hl 1 rfl) ?_
          refine lv_iload_n hx hb dX6_cutOff_157 rfl (lv_at hl 2 rfl) ?_
          refine lv_iconst (v := 4) hx hb dX6_cutOff_158 (by decide) ?_
          refine lv_iconst (v := 0) hx hb dX6_cutOff_159 (by decide) ?_
          refine m_vV (As := [.int (nI i), .int 4, .int 0]) (rest := []) (n := 3) hF hC hO hS (k_X6_set l G lo sa ad R 0 (upd g 5 ((g 5) + 0)) nf (va_up F i (upd (upd (F i) 2 0) 3 0)) (upd f (9 * kk + zz - 1) ((f (9 * kk + zz - 1)) + (F i 1))) no O it ch i 4 0 hnf hno (by omega) (by omega)) ok_X6_set q_756 rfl rfl ⟨Nat.le_of_ble_eq_true rfl, Nat.le_of_ble_eq_true rfl⟩ rfl hl.1 rfl (Nat.le_of_ble_eq_true rfl) ⟨Nat.le_of_ble_eq_true rfl, Nat.le_of_ble_eq_true rfl⟩ dX6_cutOff_160 (fun R' H locs hp hO hS => ?_)
          have hR := hp
          rw [hR] at hO
          rw [va_up2] at hO
          refine lv_aload_n hx hb dX6_cutOff_163 rfl (lv_at hl 1 rfl) ?_
          refine lv_iload_n hx hb dX6_cutOff_164 rfl (lv_at hl 2 rfl) ?_
          refine lv_bipush (v := 6) hx hb dX6_cutOff_165 (by decide) ?_
          refine lv_iconst (v := 0) hx hb dX6_cutOff_167 (by decide) ?_
          refine m_vV (As := [.int (nI i), .int 6, .int 0]) (rest := []) (n := 3) hF hC hO hS (k_X6_set l G lo sa ad R 0 (upd g 5 ((g 5) + 0)) nf (va_up F i (upd (upd (upd (F i) 2 0) 3 0) 4 0)) (upd f (9 * kk + zz - 1) ((f (9 * kk + zz - 1)) + (F i 1))) no O it ch i 6 0 hnf hno (by omega) (by omega)) ok_X6_set q_756 rfl rfl ⟨Nat.le_of_ble_eq_true rfl, Nat.le_of_ble_eq_true rfl⟩ rfl hl.1 rfl (Nat.le_of_ble_eq_true rfl) ⟨Nat.le_of_ble_eq_true rfl, Nat.le_of_ble_eq_true rfl⟩ dX6_cutOff_168 (fun R' H locs hp hO hS => ?_)
          have hR := hp
          rw [hR] at hO
          rw [va_up2] at hO
          refine lv_iload_n hx hb dX6_cutOff_171 rfl (lv_at hl 0 rfl) ?_
          refine m_iret hF hr hlk hQ rfl hO hS dX6_cutOff_172 ?_
          have hK : K_cutOff nf F (nI i) = 0 := by rw [K_cutOff, if_pos b7, hcl, if_neg c25, if_pos c36]
          have hs : 0 < S_cut (F i) := (Int32.not_le.mp c62)
          refine Or.inl ⟨hK, by rw [hcl]; rfl, it, ch, ?_⟩
          rw [hcl, G_cut, f_cut, if_pos hs, if_pos hs]
          rw [show nn (F i 0) = kk from by rw [hkk0]; exact nn_nI (by omega), show nn (S_cut (F i)) = zz from by rw [show S_cut (F i) = nI zz from hzz]; exact nn_nI (by omega)]
          rfl
      · refine lv_aload_n hx hb dX6_cutOff_39 rfl (lv_at hl 0 rfl) ?_
        refine lv_iconst (v := 2) hx hb dX6_cutOff_40 (by decide) ?_
        refine m_vI (As := [.int 2]) (rest := []) (n := 1) hF hC hO hS (k_X6_fail l G lo sa ad R 0 g nf F f no O it ch 2 hnf hno) ok_X6_fail q_717 rfl rfl ⟨Nat.le_of_ble_eq_true rfl, Nat.le_of_ble_eq_true rfl⟩ rfl hl.1 rfl (Nat.le_of_ble_eq_true rfl) ⟨Nat.le_of_ble_eq_true rfl, Nat.le_of_ble_eq_true rfl⟩ dX6_cutOff_41 (fun v41 R' H locs hp hO hS => ?_)
        obtain ⟨rfl, hR⟩ := hp
        rw [hR] at hO
        refine m_iret hF hr hlk hQ rfl hO hS dX6_cutOff_44 ?_
        have hK : K_cutOff nf F (nI i) = 2 := by rw [K_cutOff, if_pos b7, hcl, if_neg c25, if_neg c36]
        exact Or.inr ⟨by rw [hK]; decide, it, ch, by rw [hK]⟩
  · rw [hR] at hO
    refine lv_if_ne (tgt := 19) hx hb dX6_cutOff_10 (by decide) (fun c10 => absurd (by decide) c10) (fun c10 => ?_)
    refine lv_aload_n hx hb dX6_cutOff_13 rfl (lv_at hl 0 rfl) ?_
    refine lv_iconst (v := 1) hx hb dX6_cutOff_14 (by decide) ?_
    refine m_vI (As := [.int 1]) (rest := []) (n := 1) hF hC hO hS (k_X6_fail l G lo sa ad R 0 g nf F f no O it ch 1 hnf hno) ok_X6_fail q_717 rfl rfl ⟨Nat.le_of_ble_eq_true rfl, Nat.le_of_ble_eq_true rfl⟩ rfl hl.1 rfl (Nat.le_of_ble_eq_true rfl) ⟨Nat.le_of_ble_eq_true rfl, Nat.le_of_ble_eq_true rfl⟩ dX6_cutOff_15 (fun v15 R' H locs hp hO hS => ?_)
    obtain ⟨rfl, hR⟩ := hp
    rw [hR] at hO
    refine m_iret hF hr hlk hQ rfl hO hS dX6_cutOff_18 ?_
    have hK : K_cutOff nf F x = 1 := by rw [K_cutOff, if_neg b7]
    exact Or.inr ⟨by rw [hK]; decide, it, ch, by rw [hK]⟩
theorem ok_X6_would : mOK RX6 yX6_would cX6_would 4 (some .int) 2 := ⟨q_878, q_879, q_6, q_880, by decide +kernel⟩
set_option maxHeartbeats 400000 in
set_option maxRecDepth 100000 in
theorem k_X6_would (l : Launch) (G : mG) (lo : Nat) (sa ad : Nat → Nat) (R : mM) (th : Int32) (g : Nat → Int32) (nf : Nat) (F : Nat → Nat → Int32) (f : Nat → Int32) (no : Nat) (O : Nat → Nat → Int32) (it ch : Nat → Int32) (x w : Int32) (hnf : nf ≤ 12) (hno : no ≤ 20) : mI l yX6_would cX6_would 4 .int 3 66 G lo sa ad (WM G ad th g nf F f no O it ch R) [.ref (ad 50), .int x, .int w] (fun v R' => (K_would nf F x w = 0 ∧ v = m_tryL (nn w) (g 2) (F (nn x)) (m_t g (F (nn x))) ∧ ∃ (it' ch' : Nat → Int32), R' = (WM G ad 0 g nf F f no O it' ch' R)) ∨ (¬ K_would nf F x w = 0 ∧ ∃ (it' ch' : Nat → Int32), R' = (WM G ad (K_would nf F x w) g nf F f no O it' ch' R))) := by
  refine mI_of (by decide) (Nat.le_of_ble_eq_true rfl) ?_
  intro p e s m args below meth c hF hr hlk hC ls hl hO hS Q hQ
  have hx := hF.1
  have hb := hF.2.1
  have hl : lv_has ls 4 [(0, .ref (ad 50)), (1, .int x), (2, .int w)] := hl
  refine lv_aload_n hx hb dX6_would_0 rfl (lv_at hl 0 rfl) ?_
  refine lv_iconst (v := 0) hx hb dX6_would_1 (by decide) ?_
  refine m_put (ty := .int) tyX6 tyX6_ok nmX6 inX6 hF hC hO hS rfl rfl 0 (by decide) q_662 rfl (by decide +kernel) rfl rfl (fs' := [.int 0, .int (g 0), .int (g 1), .int (g 2), .int (nI nf), .ref (ad 51), .ref (ad 52), .int (nI no), .ref (ad 53), .int (g 3), .int (g 4), .int (g 5), .ref (ad 54), .ref (ad 55)]) (Nat.le_of_ble_eq_true rfl) rfl dX6_would_2 (fun H locs hO hS => ?_)
  have hO : mO G lo ad (mU (WM G ad th g nf F f no O it ch R) 50 (mxO ad 0 g nf no)) H := hO
  rw [WM_w0] at hO
  refine lv_aload_n hx hb dX6_would_5 rfl (lv_at hl 0 rfl) ?_
  refine lv_iload_n hx hb dX6_would_6 rfl (lv_at hl 1 rfl) ?_
  refine m_vI (As := [.int x]) (rest := []) (n := 1) hF hC hO hS (k_X6_isFrame l G lo sa ad R 0 g nf F f no O it ch x hnf hno) ok_X6_isFrame q_744 rfl rfl ⟨Nat.le_of_ble_eq_true rfl, Nat.le_of_ble_eq_true rfl⟩ rfl hl.1 rfl (Nat.le_of_ble_eq_true rfl) ⟨Nat.le_of_ble_eq_true rfl, Nat.le_of_ble_eq_true rfl⟩ dX6_would_7 (fun v7 R' H locs hp hO hS => ?_)
  obtain ⟨⟨rfl, b7⟩ | ⟨rfl, b7⟩, hR⟩ := hp
  · rw [hR] at hO
    refine lv_if_ne (tgt := 19) hx hb dX6_would_10 (by decide) (fun c10 => ?_) (fun c10 => absurd c10 (by decide))
    obtain ⟨i, hi, rfl⟩ := fr_of (by omega) b7
    have hcl : nn (nI i) = i := nn_nI (by omega)
    refine lv_iload_n hx hb dX6_would_19 rfl (lv_at hl 2 rfl) ?_
    refine lv_iconst (v := 1) hx hb dX6_would_20 (by decide) ?_
    refine lv_bipush (v := 40) hx hb dX6_would_21 (by decide) ?_
    refine m_sI (As := [.int w, .int 1, .int 40]) (rest := []) (n := 3) hF hC hO hS (k_X6_isIn l G lo sa ad _ w 1 40 ) ok_X6_isIn q_714 ⟨Nat.le_of_ble_eq_true rfl, Nat.le_of_ble_eq_true rfl⟩ rfl hl.1 rfl (Nat.le_of_ble_eq_true rfl) ⟨Nat.le_of_ble_eq_true rfl, Nat.le_of_ble_eq_true rfl⟩ dX6_would_23 (fun v23 R' H locs hp hO hS => ?_)
    obtain ⟨⟨rfl, b23⟩ | ⟨rfl, b23⟩, hR⟩ := hp
    · rw [hR] at hO
      refine lv_if_ne (tgt := 35) hx hb dX6_would_26 (by decide) (fun c26 => ?_) (fun c26 => absurd c26 (by decide))
      obtain ⟨N, hN1, hN4, rfl⟩ := in_of (a := 1) (b := 40) (by decide) (by decide) b23
      have hcw : nn (nI N) = N := nn_nI (by omega)
      refine lv_aload_n hx hb dX6_would_35 rfl (lv_at hl 0 rfl) ?_
      refine lv_iload_n hx hb dX6_would_36 rfl (lv_at hl 1 rfl) ?_
      refine m_vI (As := [.int (nI i)]) (rest := []) (n := 1) hF hC hO hS (k_X6_hangs l G lo sa ad R 0 g nf F f no O it ch i hnf hno (by omega)) ok_X6_hangs q_772 rfl rfl ⟨Nat.le_of_ble_eq_true rfl, Nat.le_of_ble_eq_true rfl⟩ rfl hl.1 rfl (Nat.le_of_ble_eq_true rfl) ⟨Nat.le_of_ble_eq_true rfl, Nat.le_of_ble_eq_true rfl⟩ dX6_would_37 (fun v37 R' H locs hp hO hS => ?_)
      obtain ⟨⟨rfl, b37⟩ | ⟨rfl, b37⟩, hR⟩ := hp
      · rw [hR] at hO
        refine lv_if_ne (tgt := 49) hx hb dX6_would_40 (by decide) (fun c40 => ?_) (fun c40 => absurd c40 (by decide))
        refine lv_aload_n hx hb dX6_would_49 rfl (lv_at hl 0 rfl) ?_
        refine lv_iload_n hx hb dX6_would_50 rfl (lv_at hl 1 rfl) ?_
        refine m_vV (As := [.int (nI i)]) (rest := []) (n := 1) hF hC hO hS (k_X6_take l G lo sa ad R 0 g nf F f no O it ch i hnf hno (by omega)) ok_X6_take q_768 rfl rfl ⟨Nat.le_of_ble_eq_true rfl, Nat.le_of_ble_eq_true rfl⟩ rfl hl.1 rfl (Nat.le_of_ble_eq_true rfl) ⟨Nat.le_of_ble_eq_true rfl, Nat.le_of_ble_eq_true rfl⟩ dX6_would_51 (fun R' H locs hp hO hS => ?_)
        have hR := hp
        rw [hR] at hO
        refine lv_iconst (v := 0) hx hb dX6_would_54 (by decide) ?_
        refine lv_istore_n (lv' := [(3, .int 0), (0, .ref (ad 50)), (1, .int (nI i)), (2, .int (nI N))]) hx hb dX6_would_55 rfl hl (by decide) rfl (fun ls hl => ?_)
        have L56 : ∀ (n : Nat) (j : Nat) (it9 : Nat → Int32) (H : Heap) (locs : List Loc) (ls : Array Slot), N - j < n → j ≤ N → m_tryL (N - j) (g 2) (F i) it9 = m_tryL N (g 2) (F i) (m_t g (F i)) → lv_has ls 4 [(0, .ref (ad 50)), (1, .int (nI i)), (2, .int (nI N)), (3, .int (nI j))] → mO G lo ad (WM G ad 0 g nf F f no O it9 ch R) H → va_S (mA lo) s.heap H locs → W p l e (mRm 3 66) s m args below meth c H locs 0 0 Q (F0 m 56 ls []) := by
          intro n
          induction n with
          | zero => intro j it9 H locs ls hn; exact absurd hn (Nat.not_lt_zero _)
          | succ n ih56 =>
            intro j it9 H locs ls hn56 hj hv hl hO hS
            refine lv_iload_n hx hb dX6_would_56 rfl (lv_at hl 3 rfl) ?_
            refine lv_iload_n hx hb dX6_would_57 rfl (lv_at hl 2 rfl) ?_
            refine lv_icmp_ge (tgt := 96) hx hb dX6_would_58 (by decide) (fun c58 => ?_) (fun c58 => ?_)
            · refine lv_aload_n hx hb dX6_would_96 rfl (lv_at hl 0 rfl) ?_
              refine m_get inX6 hF hC hO rfl rfl 12 (by decide) q_674 (v := .ref (ad 54)) rfl dX6_would_97 ?_
              refine lv_iconst (v := 2) hx hb dX6_would_100 (by decide) ?_
              refine m_iald hF hC hO rfl (j := 2) (by decide) (vp_in_nI (n := 2) (by decide) (by decide)) dX6_would_101 ?_
              refine m_iret hF hr hlk hQ rfl hO hS dX6_would_102 ?_
              have hK : K_would nf F (nI i) (nI N) = 0 := by rw [K_would, if_pos b7, if_pos b23, hcl, if_pos b37]
              have e9 : j = N := Nat.le_antisymm hj (nI_E (a := N) (b := j) (by omega) (by omega) c58)
              rw [e9, Nat.sub_self] at hv
              exact Or.inl ⟨hK, by rw [hcl, hcw, ← hv]; rfl, _, _, rfl⟩
            · refine lv_aload_n hx hb dX6_would_61 rfl (lv_at hl 0 rfl) ?_
              refine lv_iload_n hx hb dX6_would_62 rfl (lv_at hl 1 rfl) ?_
              refine m_vI (As := [.int (nI i)]) (rest := []) (n := 1) hF hC hO hS (k_X6_can l G lo sa ad R 0 g nf F f no O it9 ch i hnf hno (by omega)) ok_X6_can q_776 rfl rfl ⟨Nat.le_of_ble_eq_true rfl, Nat.le_of_ble_eq_true rfl⟩ rfl hl.1 rfl (Nat.le_of_ble_eq_true rfl) ⟨Nat.le_of_ble_eq_true rfl, Nat.le_of_ble_eq_true rfl⟩ dX6_would_63 (fun v63 R' H locs hp hO hS => ?_)
              obtain ⟨⟨rfl, b63⟩ | ⟨rfl, b63⟩, hR⟩ := hp
              · rw [hR] at hO
                refine lv_if_eq (tgt := 96) hx hb dX6_would_66 (by decide) (fun c66 => absurd c66 (by decide)) (fun c66 => ?_)
                refine lv_aload_n hx hb dX6_would_69 rfl (lv_at hl 0 rfl) ?_
                refine lv_iload_n hx hb dX6_would_70 rfl (lv_at hl 1 rfl) ?_
                refine m_vV (As := [.int (nI i)]) (rest := []) (n := 1) hF hC hO hS (k_X6_dipIt l G lo sa ad R 0 g nf F f no O it9 ch i hnf hno (by omega)) ok_X6_dipIt q_789 rfl rfl ⟨Nat.le_of_ble_eq_true rfl, Nat.le_of_ble_eq_true rfl⟩ rfl hl.1 rfl (Nat.le_of_ble_eq_true rfl) ⟨Nat.le_of_ble_eq_true rfl, Nat.le_of_ble_eq_true rfl⟩ dX6_would_71 (fun R' H locs hp hO hS => ?_)
                have hR := hp
                rw [hR] at hO
                refine lv_aload_n hx hb dX6_would_74 rfl (lv_at hl 0 rfl) ?_
                refine m_get inX6 hF hC hO rfl rfl 12 (by decide) q_674 (v := .ref (ad 54)) rfl dX6_would_75 ?_
                refine lv_iconst (v := 1) hx hb dX6_would_78 (by decide) ?_
                refine lv_aload_n hx hb dX6_would_79 rfl (lv_at hl 0 rfl) ?_
                refine lv_aload_n hx hb dX6_would_80 rfl (lv_at hl 0 rfl) ?_
                refine m_get inX6 hF hC hO rfl rfl 12 (by decide) q_674 (v := .ref (ad 54)) rfl dX6_would_81 ?_
                refine lv_iconst (v := 1) hx hb dX6_would_84 (by decide) ?_
                refine m_iald hF hC hO rfl (j := 1) (by decide) (vp_in_nI (n := 1) (by decide) (by decide)) dX6_would_85 ?_
                refine m_vI (As := [.int ((m_dip it9 (F i)) 1)]) (rest := [.int 1, .ref (ad 54)]) (n := 1) hF hC hO hS (k_X6_heatBehind l G lo sa ad R 0 g nf F f no O (m_dip it9 (F i)) ch ((m_dip it9 (F i)) 1) hnf hno) ok_X6_heatBehind q_797 rfl rfl ⟨Nat.le_of_ble_eq_true rfl, Nat.le_of_ble_eq_true rfl⟩ rfl hl.1 rfl (Nat.le_of_ble_eq_true rfl) ⟨Nat.le_of_ble_eq_true rfl, Nat.le_of_ble_eq_true rfl⟩ dX6_would_86 (fun v86 R' H locs hp hO hS => ?_)
                obtain ⟨rfl, hR⟩ := hp
                rw [hR] at hO
                refine m_iast hF hC hO hS rfl (j := 1) (by decide) (vp_in_nI (n := 1) (by decide) (by decide)) dX6_would_89 (fun H locs hO hS => ?_)
                have hO : mO G lo ad (mU (WM G ad 0 g nf F f no O (m_dip it9 (F i)) ch R) 54 (.inl (G.2 0, 5, .inl (upd (m_dip it9 (F i)) 1 (p_burn (g 2) ((m_dip it9 (F i)) 1)))))) H := hO
                rw [WM_w4] at hO
                refine lv_iinc (v := (nI (j + 1))) (lv' := [(3, .int (nI (j + 1))), (0, .ref (ad 50)), (1, .int (nI i)), (2, .int (nI N))]) hx hb dX6_would_90 hl (k := 3) rfl (nI_inc j) (by decide) rfl (fun ls hl => ?_)
                refine lv_goto (tgt := 56) hx hb dX6_would_93 (by decide) ?_
                exact ih56 (j + 1) (upd (m_dip it9 (F i)) 1 (p_burn (g 2) ((m_dip it9 (F i)) 1))) _ _ _ (by have := (nI_nE (a := N) (b := j) (by omega) (by omega) c58); omega) (by have := (nI_nE (a := N) (b := j) (by omega) (by omega) c58); omega) (by have := (nI_nE (a := N) (b := j) (by omega) (by omega) c58); rw [← hv, show N - j = (N - (j + 1)) + 1 from by omega, m_tryL, if_pos b63]) (lv_sub hl [1, 2, 3, 0] rfl) hO hS
              · rw [hR] at hO
                refine lv_if_eq (tgt := 96) hx hb dX6_would_66 (by decide) (fun c66 => ?_) (fun c66 => absurd (by decide) c66)
                refine lv_aload_n hx hb dX6_would_96 rfl (lv_at hl 0 rfl) ?_
                refine m_get inX6 hF hC hO rfl rfl 12 (by decide) q_674 (v := .ref (ad 54)) rfl dX6_would_97 ?_
                refine lv_iconst (v := 2) hx hb dX6_would_100 (by decide) ?_
                refine m_iald hF hC hO rfl (j := 2) (by decide) (vp_in_nI (n := 2) (by decide) (by decide)) dX6_would_101 ?_
                refine m_iret hF hr hlk hQ rfl hO hS dX6_would_102 ?_
                have hK : K_would nf F (nI i) (nI N) = 0 := by rw [K_would, if_pos b7, if_pos b23, hcl, if_pos b37]
                have h9 := (nI_nE (a := N) (b := j) (by omega) (by omega) c58)
                rw [show N - j = (N - (j + 1)) + 1 from by omega, m_tryL, if_neg b63] at hv
                exact Or.inl ⟨hK, by rw [hcl, hcw, ← hv], _, _, rfl⟩
        exact L56 _ 0 (m_take it g (F i)) _ _ _ (Nat.lt_succ_self _) (by omega) (ag5_tryL N ag5_take) (lv_sub hl [1, 2, 3, 0] rfl) hO hS
      · rw [hR] at hO
        refine lv_if_ne (tgt := 49) hx hb dX6_would_40 (by decide) (fun c40 => absurd (by decide) c40) (fun c40 => ?_)
        refine lv_aload_n hx hb dX6_would_43 rfl (lv_at hl 0 rfl) ?_
        refine lv_iconst (v := 3) hx hb dX6_would_44 (by decide) ?_
        refine m_vI (As := [.int 3]) (rest := []) (n := 1) hF hC hO hS (k_X6_fail l G lo sa ad R 0 g nf F f no O it ch 3 hnf hno) ok_X6_fail q_717 rfl rfl ⟨Nat.le_of_ble_eq_true rfl, Nat.le_of_ble_eq_true rfl⟩ rfl hl.1 rfl (Nat.le_of_ble_eq_true rfl) ⟨Nat.le_of_ble_eq_true rfl, Nat.le_of_ble_eq_true rfl⟩ dX6_would_45 (fun v45 R' H locs hp hO hS => ?_)
        obtain ⟨rfl, hR⟩ := hp
        rw [hR] at hO
        refine m_iret hF hr hlk hQ rfl hO hS dX6_would_48 ?_
        have hK : K_would nf F (nI i) (nI N) = 3 := by rw [K_would, if_pos b7, if_pos b23, hcl, if_neg b37]
        exact Or.inr ⟨by rw [hK]; decide, it, ch, by rw [hK]⟩
    · rw [hR] at hO
      refine lv_if_ne (tgt := 35) hx hb dX6_would_26 (by decide) (fun c26 => absurd (by decide) c26) (fun c26 => ?_)
      refine lv_aload_n hx hb dX6_would_29 rfl (lv_at hl 0 rfl) ?_
      refine lv_iconst (v := 2) hx hb dX6_would_30 (by decide) ?_
      refine m_vI (As := [.int 2]) (rest := []) (n := 1) hF hC hO hS (k_X6_fail l G lo sa ad R 0 g nf F f no O it ch 2 hnf hno) ok_X6_fail q_717 rfl rfl ⟨Nat.le_of_ble_eq_true rfl, Nat.le_of_ble_eq_true rfl⟩ rfl hl.1 rfl (Nat.le_of_ble_eq_true rfl) ⟨Nat.le_of_ble_eq_true rfl, Nat.le_of_ble_eq_true rfl⟩ dX6_would_31 (fun v31 R' H locs hp hO hS => ?_)
      obtain ⟨rfl, hR⟩ := hp
      rw [hR] at hO
      refine m_iret hF hr hlk hQ rfl hO hS dX6_would_34 ?_
      have hK : K_would nf F (nI i) w = 2 := by rw [K_would, if_pos b7, if_neg b23]
      exact Or.inr ⟨by rw [hK]; decide, it, ch, by rw [hK]⟩
  · rw [hR] at hO
    refine lv_if_ne (tgt := 19) hx hb dX6_would_10 (by decide) (fun c10 => absurd (by decide) c10) (fun c10 => ?_)
    refine lv_aload_n hx hb dX6_would_13 rfl (lv_at hl 0 rfl) ?_
    refine lv_iconst (v := 1) hx hb dX6_would_14 (by decide) ?_
    refine m_vI (As := [.int 1]) (rest := []) (n := 1) hF hC hO hS (k_X6_fail l G lo sa ad R 0 g nf F f no O it ch 1 hnf hno) ok_X6_fail q_717 rfl rfl ⟨Nat.le_of_ble_eq_true rfl, Nat.le_of_ble_eq_true rfl⟩ rfl hl.1 rfl (Nat.le_of_ble_eq_true rfl) ⟨Nat.le_of_ble_eq_true rfl, Nat.le_of_ble_eq_true rfl⟩ dX6_would_15 (fun v15 R' H locs hp hO hS => ?_)
    obtain ⟨rfl, hR⟩ := hp
    rw [hR] at hO
    refine m_iret hF hr hlk hQ rfl hO hS dX6_would_18 ?_
    have hK : K_would nf F x w = 1 := by rw [K_would, if_neg b7]
    exact Or.inr ⟨by rw [hK]; decide, it, ch, by rw [hK]⟩
theorem ok_X6_dipsTo : mOK RX6 yX6_dipsTo cX6_dipsTo 4 (some .int) 3 := ⟨q_882, q_883, q_6, q_884, by decide +kernel⟩
set_option maxHeartbeats 400000 in
set_option maxRecDepth 100000 in
theorem k_X6_dipsTo (l : Launch) (G : mG) (lo : Nat) (sa ad : Nat → Nat) (R : mM) (th : Int32) (g : Nat → Int32) (nf : Nat) (F : Nat → Nat → Int32) (f : Nat → Int32) (no : Nat) (O : Nat → Nat → Int32) (it ch : Nat → Int32) (x r z : Int32) (hnf : nf ≤ 12) (hno : no ≤ 20) : mI l yX6_dipsTo cX6_dipsTo 4 .int 4 91 G lo sa ad (WM G ad th g nf F f no O it ch R) [.ref (ad 50), .int x, .int r, .int z] (fun v R' => (K_dipsTo nf F x r z = 0 ∧ v = m_need (nn r) z (g 2) (F (nn x)) (m_t g (F (nn x))) ∧ ∃ (it' ch' : Nat → Int32), R' = (WM G ad 0 g nf F f no O it' ch' R)) ∨ (¬ K_dipsTo nf F x r z = 0 ∧ ∃ (it' ch' : Nat → Int32), R' = (WM G ad (K_dipsTo nf F x r z) g nf F f no O it' ch' R))) := by
  refine mI_of (by decide) (Nat.le_of_ble_eq_true rfl) ?_
  intro p e s m args below meth c hF hr hlk hC ls hl hO hS Q hQ
  have hx := hF.1
  have hb := hF.2.1
  have hl : lv_has ls 4 [(0, .ref (ad 50)), (1, .int x), (2, .int r), (3, .int z)] := hl
  refine lv_aload_n hx hb dX6_dipsTo_0 rfl (lv_at hl 0 rfl) ?_
  refine lv_iconst (v := 0) hx hb dX6_dipsTo_1 (by decide) ?_
  refine m_put (ty := .int) tyX6 tyX6_ok nmX6 inX6 hF hC hO hS rfl rfl 0 (by decide) q_662 rfl (by decide +kernel) rfl rfl (fs' := [.int 0, .int (g 0), .int (g 1), .int (g 2), .int (nI nf), .ref (ad 51), .ref (ad 52), .int (nI no), .ref (ad 53), .int (g 3), .int (g 4), .int (g 5), .ref (ad 54), .ref (ad 55)]) (Nat.le_of_ble_eq_true rfl) rfl dX6_dipsTo_2 (fun H locs hO hS => ?_)
  have hO : mO G lo ad (mU (WM G ad th g nf F f no O it ch R) 50 (mxO ad 0 g nf no)) H := hO
  rw [WM_w0] at hO
  refine lv_aload_n hx hb dX6_dipsTo_5 rfl (lv_at hl 0 rfl) ?_
  refine lv_iload_n hx hb dX6_dipsTo_6 rfl (lv_at hl 1 rfl) ?_
  refine m_vI (As := [.int x]) (rest := []) (n := 1) hF hC hO hS (k_X6_isFrame l G lo sa ad R 0 g nf F f no O it ch x hnf hno) ok_X6_isFrame q_744 rfl rfl ⟨Nat.le_of_ble_eq_true rfl, Nat.le_of_ble_eq_true rfl⟩ rfl hl.1 rfl (Nat.le_of_ble_eq_true rfl) ⟨Nat.le_of_ble_eq_true rfl, Nat.le_of_ble_eq_true rfl⟩ dX6_dipsTo_7 (fun v7 R' H locs hp hO hS => ?_)
  obtain ⟨⟨rfl, b7⟩ | ⟨rfl, b7⟩, hR⟩ := hp
  · rw [hR] at hO
    refine lv_if_ne (tgt := 19) hx hb dX6_dipsTo_10 (by decide) (fun c10 => ?_) (fun c10 => absurd c10 (by decide))
    obtain ⟨i, hi, rfl⟩ := fr_of (by omega) b7
    have hcl : nn (nI i) = i := nn_nI (by omega)
    refine lv_iload_n hx hb dX6_dipsTo_19 rfl (lv_at hl 2 rfl) ?_
    refine lv_iconst (v := 0) hx hb dX6_dipsTo_20 (by decide) ?_
    refine lv_bipush (v := 20) hx hb dX6_dipsTo_21 (by decide) ?_
    refine m_sI (As := [.int r, .int 0, .int 20]) (rest := []) (n := 3) hF hC hO hS (k_X6_isIn l G lo sa ad _ r 0 20 ) ok_X6_isIn q_714 ⟨Nat.le_of_ble_eq_true rfl, Nat.le_of_ble_eq_true rfl⟩ rfl hl.1 rfl (Nat.le_of_ble_eq_true rfl) ⟨Nat.le_of_ble_eq_true rfl, Nat.le_of_ble_eq_true rfl⟩ dX6_dipsTo_23 (fun v23 R' H locs hp hO hS => ?_)
    obtain ⟨⟨rfl, b23⟩ | ⟨rfl, b23⟩, hR⟩ := hp
    · rw [hR] at hO
      refine lv_if_eq (tgt := 39) hx hb dX6_dipsTo_26 (by decide) (fun c26 => absurd c26 (by decide)) (fun c26 => ?_)
      refine lv_iload_n hx hb dX6_dipsTo_29 rfl (lv_at hl 3 rfl) ?_
      refine lv_iconst (v := 1) hx hb dX6_dipsTo_30 (by decide) ?_
      refine lv_bipush (v := 9) hx hb dX6_dipsTo_31 (by decide) ?_
      refine m_sI (As := [.int z, .int 1, .int 9]) (rest := []) (n := 3) hF hC hO hS (k_X6_isIn l G lo sa ad _ z 1 9 ) ok_X6_isIn q_714 ⟨Nat.le_of_ble_eq_true rfl, Nat.le_of_ble_eq_true rfl⟩ rfl hl.1 rfl (Nat.le_of_ble_eq_true rfl) ⟨Nat.le_of_ble_eq_true rfl, Nat.le_of_ble_eq_true rfl⟩ dX6_dipsTo_33 (fun v33 R' H locs hp hO hS => ?_)
      obtain ⟨⟨rfl, b33⟩ | ⟨rfl, b33⟩, hR⟩ := hp
      · rw [hR] at hO
        refine lv_if_ne (tgt := 45) hx hb dX6_dipsTo_36 (by decide) (fun c36 => ?_) (fun c36 => absurd c36 (by decide))
        obtain ⟨k, -, hk20, rfl⟩ := in_of (a := 0) (b := 20) (by decide) (by decide) b23
        have hcw : nn (nI k) = k := nn_nI (by omega)
        refine lv_aload_n hx hb dX6_dipsTo_45 rfl (lv_at hl 0 rfl) ?_
        refine lv_iload_n hx hb dX6_dipsTo_46 rfl (lv_at hl 1 rfl) ?_
        refine m_vI (As := [.int (nI i)]) (rest := []) (n := 1) hF hC hO hS (k_X6_hangs l G lo sa ad R 0 g nf F f no O it ch i hnf hno (by omega)) ok_X6_hangs q_772 rfl rfl ⟨Nat.le_of_ble_eq_true rfl, Nat.le_of_ble_eq_true rfl⟩ rfl hl.1 rfl (Nat.le_of_ble_eq_true rfl) ⟨Nat.le_of_ble_eq_true rfl, Nat.le_of_ble_eq_true rfl⟩ dX6_dipsTo_47 (fun v47 R' H locs hp hO hS => ?_)
        obtain ⟨⟨rfl, b47⟩ | ⟨rfl, b47⟩, hR⟩ := hp
        · rw [hR] at hO
          refine lv_if_eq (tgt := 63) hx hb dX6_dipsTo_50 (by decide) (fun c50 => absurd c50 (by decide)) (fun c50 => ?_)
          refine lv_aload_n hx hb dX6_dipsTo_53 rfl (lv_at hl 0 rfl) ?_
          refine lv_iload_n hx hb dX6_dipsTo_54 rfl (lv_at hl 1 rfl) ?_
          refine lv_iload_n hx hb dX6_dipsTo_55 rfl (lv_at hl 2 rfl) ?_
          refine lv_iload_n hx hb dX6_dipsTo_56 rfl (lv_at hl 3 rfl) ?_
          refine m_vI (As := [.int (nI i), .int (nI k), .int z]) (rest := []) (n := 3) hF hC hO hS (k_X6_needs l G lo sa ad R 0 g nf F f no O it ch i k z hnf hno (by omega) (by omega)) ok_X6_needs q_885 rfl rfl ⟨Nat.le_of_ble_eq_true rfl, Nat.le_of_ble_eq_true rfl⟩ rfl hl.1 rfl (Nat.le_of_ble_eq_true rfl) ⟨Nat.le_of_ble_eq_true rfl, Nat.le_of_ble_eq_true rfl⟩ dX6_dipsTo_57 (fun v57 R' H locs hp hO hS => ?_)
          obtain ⟨rfl, it_57, hR⟩ := hp
          rw [hR] at hO
          refine lv_goto (tgt := 68) hx hb dX6_dipsTo_60 (by decide) ?_
          refine m_iret hF hr hlk hQ rfl hO hS dX6_dipsTo_68 ?_
          have hK : K_dipsTo nf F (nI i) (nI k) z = 0 := by rw [K_dipsTo, if_pos b7, if_pos b23, if_pos b33, hcl, if_pos b47]
          exact Or.inl ⟨hK, by rw [hcl, hcw]; exact ag5_need ag5_take, _, _, rfl⟩
        · rw [hR] at hO
          refine lv_if_eq (tgt := 63) hx hb dX6_dipsTo_50 (by decide) (fun c50 => ?_) (fun c50 => absurd (by decide) c50)
          refine lv_aload_n hx hb dX6_dipsTo_63 rfl (lv_at hl 0 rfl) ?_
          refine lv_iconst (v := 3) hx hb dX6_dipsTo_64 (by decide) ?_
          refine m_vI (As := [.int 3]) (rest := []) (n := 1) hF hC hO hS (k_X6_fail l G lo sa ad R 0 g nf F f no O it ch 3 hnf hno) ok_X6_fail q_717 rfl rfl ⟨Nat.le_of_ble_eq_true rfl, Nat.le_of_ble_eq_true rfl⟩ rfl hl.1 rfl (Nat.le_of_ble_eq_true rfl) ⟨Nat.le_of_ble_eq_true rfl, Nat.le_of_ble_eq_true rfl⟩ dX6_dipsTo_65 (fun v65 R' H locs hp hO hS => ?_)
          obtain ⟨rfl, hR⟩ := hp
          rw [hR] at hO
          refine m_iret hF hr hlk hQ rfl hO hS dX6_dipsTo_68 ?_
          have hK : K_dipsTo nf F (nI i) (nI k) z = 3 := by rw [K_dipsTo, if_pos b7, if_pos b23, if_pos b33, hcl, if_neg b47]
          exact Or.inr ⟨by rw [hK]; decide, it, ch, by rw [hK]⟩
      · rw [hR] at hO
        refine lv_if_ne (tgt := 45) hx hb dX6_dipsTo_36 (by decide) (fun c36 => absurd (by decide) c36) (fun c36 => ?_)
        refine lv_aload_n hx hb dX6_dipsTo_39 rfl (lv_at hl 0 rfl) ?_
        refine lv_iconst (v := 2) hx hb dX6_dipsTo_40 (by decide) ?_
        refine m_vI (As := [.int 2]) (rest := []) (n := 1) hF hC hO hS (k_X6_fail l G lo sa ad R 0 g nf F f no O it ch 2 hnf hno) ok_X6_fail q_717 rfl rfl ⟨Nat.le_of_ble_eq_true rfl, Nat.le_of_ble_eq_true rfl⟩ rfl hl.1 rfl (Nat.le_of_ble_eq_true rfl) ⟨Nat.le_of_ble_eq_true rfl, Nat.le_of_ble_eq_true rfl⟩ dX6_dipsTo_41 (fun v41 R' H locs hp hO hS => ?_)
        obtain ⟨rfl, hR⟩ := hp
        rw [hR] at hO
        refine m_iret hF hr hlk hQ rfl hO hS dX6_dipsTo_44 ?_
        have hK : K_dipsTo nf F (nI i) r z = 2 := by rw [K_dipsTo, if_pos b7, if_pos b23, if_neg b33]
        exact Or.inr ⟨by rw [hK]; decide, it, ch, by rw [hK]⟩
    · rw [hR] at hO
      refine lv_if_eq (tgt := 39) hx hb dX6_dipsTo_26 (by decide) (fun c26 => ?_) (fun c26 => absurd (by decide) c26)
      refine lv_aload_n hx hb dX6_dipsTo_39 rfl (lv_at hl 0 rfl) ?_
      refine lv_iconst (v := 2) hx hb dX6_dipsTo_40 (by decide) ?_
      refine m_vI (As := [.int 2]) (rest := []) (n := 1) hF hC hO hS (k_X6_fail l G lo sa ad R 0 g nf F f no O it ch 2 hnf hno) ok_X6_fail q_717 rfl rfl ⟨Nat.le_of_ble_eq_true rfl, Nat.le_of_ble_eq_true rfl⟩ rfl hl.1 rfl (Nat.le_of_ble_eq_true rfl) ⟨Nat.le_of_ble_eq_true rfl, Nat.le_of_ble_eq_true rfl⟩ dX6_dipsTo_41 (fun v41 R' H locs hp hO hS => ?_)
      obtain ⟨rfl, hR⟩ := hp
      rw [hR] at hO
      refine m_iret hF hr hlk hQ rfl hO hS dX6_dipsTo_44 ?_
      have hK : K_dipsTo nf F (nI i) r z = 2 := by rw [K_dipsTo, if_pos b7, if_neg b23]
      exact Or.inr ⟨by rw [hK]; decide, it, ch, by rw [hK]⟩
  · rw [hR] at hO
    refine lv_if_ne (tgt := 19) hx hb dX6_dipsTo_10 (by decide) (fun c10 => absurd (by decide) c10) (fun c10 => ?_)
    refine lv_aload_n hx hb dX6_dipsTo_13 rfl (lv_at hl 0 rfl) ?_
    refine lv_iconst (v := 1) hx hb dX6_dipsTo_14 (by decide) ?_
    refine m_vI (As := [.int 1]) (rest := []) (n := 1) hF hC hO hS (k_X6_fail l G lo sa ad R 0 g nf F f no O it ch 1 hnf hno) ok_X6_fail q_717 rfl rfl ⟨Nat.le_of_ble_eq_true rfl, Nat.le_of_ble_eq_true rfl⟩ rfl hl.1 rfl (Nat.le_of_ble_eq_true rfl) ⟨Nat.le_of_ble_eq_true rfl, Nat.le_of_ble_eq_true rfl⟩ dX6_dipsTo_15 (fun v15 R' H locs hp hO hS => ?_)
    obtain ⟨rfl, hR⟩ := hp
    rw [hR] at hO
    refine m_iret hF hr hlk hQ rfl hO hS dX6_dipsTo_18 ?_
    have hK : K_dipsTo nf F x r z = 1 := by rw [K_dipsTo, if_neg b7]
    exact Or.inr ⟨by rw [hK]; decide, it, ch, by rw [hK]⟩
theorem ok_X6_bestRest : mOK RX6 yX6_bestRest cX6_bestRest 8 (some .int) 2 := ⟨q_890, q_891, q_6, q_892, by decide +kernel⟩
set_option maxHeartbeats 400000 in
set_option maxRecDepth 100000 in
theorem k_X6_bestRest (l : Launch) (G : mG) (lo : Nat) (sa ad : Nat → Nat) (R : mM) (th : Int32) (g : Nat → Int32) (nf : Nat) (F : Nat → Nat → Int32) (f : Nat → Int32) (no : Nat) (O : Nat → Nat → Int32) (it ch : Nat → Int32) (x z : Int32) (hnf : nf ≤ 12) (hno : no ≤ 20) : mI l yX6_bestRest cX6_bestRest 8 .int 4 91 G lo sa ad (WM G ad th g nf F f no O it ch R) [.ref (ad 50), .int x, .int z] (fun v R' => (K_bestRest nf F x z = 0 ∧ v = m_bestL 21 (-1) 0 z g (F (nn x)) ∧ ∃ (it' ch' : Nat → Int32), R' = (WM G ad 0 g nf F f no O it' ch' R)) ∨ (¬ K_bestRest nf F x z = 0 ∧ ∃ (it' ch' : Nat → Int32), R' = (WM G ad (K_bestRest nf F x z) g nf F f no O it' ch' R))) := by
  refine mI_of (by decide) (Nat.le_of_ble_eq_true rfl) ?_
  intro p e s m args below meth c hF hr hlk hC ls hl hO hS Q hQ
  have hx := hF.1
  have hb := hF.2.1
  have hl : lv_has ls 8 [(0, .ref (ad 50)), (1, .int x), (2, .int z)] := hl
  refine lv_aload_n hx hb dX6_bestRest_0 rfl (lv_at hl 0 rfl) ?_
  refine lv_iconst (v := 0) hx hb dX6_bestRest_1 (by decide) ?_
  refine m_put (ty := .int) tyX6 tyX6_ok nmX6 inX6 hF hC hO hS rfl rfl 0 (by decide) q_662 rfl (by decide +kernel) rfl rfl (fs' := [.int 0, .int (g 0), .int (g 1), .int (g 2), .int (nI nf), .ref (ad 51), .ref (ad 52), .int (nI no), .ref (ad 53), .int (g 3), .int (g 4), .int (g 5), .ref (ad 54), .ref (ad 55)]) (Nat.le_of_ble_eq_true rfl) rfl dX6_bestRest_2 (fun H locs hO hS => ?_)
  have hO : mO G lo ad (mU (WM G ad th g nf F f no O it ch R) 50 (mxO ad 0 g nf no)) H := hO
  rw [WM_w0] at hO
  refine lv_aload_n hx hb dX6_bestRest_5 rfl (lv_at hl 0 rfl) ?_
  refine lv_iload_n hx hb dX6_bestRest_6 rfl (lv_at hl 1 rfl) ?_
  refine m_vI (As := [.int x]) (rest := []) (n := 1) hF hC hO hS (k_X6_isFrame l G lo sa ad R 0 g nf F f no O it ch x hnf hno) ok_X6_isFrame q_744 rfl rfl ⟨Nat.le_of_ble_eq_true rfl, Nat.le_of_ble_eq_true rfl⟩ rfl hl.1 rfl (Nat.le_of_ble_eq_true rfl) ⟨Nat.le_of_ble_eq_true rfl, Nat.le_of_ble_eq_true rfl⟩ dX6_bestRest_7 (fun v7 R' H locs hp hO hS => ?_)
  obtain ⟨⟨rfl, b7⟩ | ⟨rfl, b7⟩, hR⟩ := hp
  · rw [hR] at hO
    refine lv_if_ne (tgt := 19) hx hb dX6_bestRest_10 (by decide) (fun c10 => ?_) (fun c10 => absurd c10 (by decide))
    obtain ⟨i, hi, rfl⟩ := fr_of (by omega) b7
    have hcl : nn (nI i) = i := nn_nI (by omega)
    refine lv_iload_n hx hb dX6_bestRest_19 rfl (lv_at hl 2 rfl) ?_
    refine lv_iconst (v := 1) hx hb dX6_bestRest_20 (by decide) ?_
    refine lv_bipush (v := 9) hx hb dX6_bestRest_21 (by decide) ?_
    refine m_sI (As := [.int z, .int 1, .int 9]) (rest := []) (n := 3) hF hC hO hS (k_X6_isIn l G lo sa ad _ z 1 9 ) ok_X6_isIn q_714 ⟨Nat.le_of_ble_eq_true rfl, Nat.le_of_ble_eq_true rfl⟩ rfl hl.1 rfl (Nat.le_of_ble_eq_true rfl) ⟨Nat.le_of_ble_eq_true rfl, Nat.le_of_ble_eq_true rfl⟩ dX6_bestRest_23 (fun v23 R' H locs hp hO hS => ?_)
    obtain ⟨⟨rfl, b23⟩ | ⟨rfl, b23⟩, hR⟩ := hp
    · rw [hR] at hO
      refine lv_if_ne (tgt := 35) hx hb dX6_bestRest_26 (by decide) (fun c26 => ?_) (fun c26 => absurd c26 (by decide))
      refine lv_aload_n hx hb dX6_bestRest_35 rfl (lv_at hl 0 rfl) ?_
      refine lv_iload_n hx hb dX6_bestRest_36 rfl (lv_at hl 1 rfl) ?_
      refine m_vI (As := [.int (nI i)]) (rest := []) (n := 1) hF hC hO hS (k_X6_hangs l G lo sa ad R 0 g nf F f no O it ch i hnf hno (by omega)) ok_X6_hangs q_772 rfl rfl ⟨Nat.le_of_ble_eq_true rfl, Nat.le_of_ble_eq_true rfl⟩ rfl hl.1 rfl (Nat.le_of_ble_eq_true rfl) ⟨Nat.le_of_ble_eq_true rfl, Nat.le_of_ble_eq_true rfl⟩ dX6_bestRest_37 (fun v37 R' H locs hp hO hS => ?_)
      obtain ⟨⟨rfl, b37⟩ | ⟨rfl, b37⟩, hR⟩ := hp
      · rw [hR] at hO
        refine lv_if_ne (tgt := 49) hx hb dX6_bestRest_40 (by decide) (fun c40 => ?_) (fun c40 => absurd c40 (by decide))
        refine lv_iconst (v := -1) hx hb dX6_bestRest_49 (by decide) ?_
        refine lv_istore_n (lv' := [(3, .int (-1)), (0, .ref (ad 50)), (1, .int (nI i)), (2, .int z)]) hx hb dX6_bestRest_50 rfl hl (by decide) rfl (fun ls hl => ?_)
        refine lv_iconst (v := 0) hx hb dX6_bestRest_51 (by decide) ?_
        refine lv_istore (lv' := [(4, .int 0), (3, .int (-1)), (0, .ref (ad 50)), (1, .int (nI i)), (2, .int z)]) hx hb dX6_bestRest_52 hl (by decide) rfl (fun ls hl => ?_)
        refine lv_bipush (v := 20) hx hb dX6_bestRest_54 (by decide) ?_
        refine lv_istore (lv' := [(5, .int 20), (4, .int 0), (3, .int (-1)), (0, .ref (ad 50)), (1, .int (nI i)), (2, .int z)]) hx hb dX6_bestRest_56 hl (by decide) rfl (fun ls hl => ?_)
        have L58 : ∀ (n : Nat) (qq : Nat) (best : Int32) (few : Int32) (itb : Nat → Int32) (H : Heap) (locs : List Loc) (ls : Array Slot), qq < n → qq ≤ 21 → m_bestL qq best few z g (F i) = m_bestL 21 (-1) 0 z g (F i) → lv_has ls 8 [(0, .ref (ad 50)), (1, .int (nI i)), (2, .int z), (5, .int (nI qq - 1)), (3, .int best), (4, .int few)] → mO G lo ad (WM G ad 0 g nf F f no O itb ch R) H → va_S (mA lo) s.heap H locs → W p l e (mRm 4 91) s m args below meth c H locs 0 0 Q (F0 m 58 ls []) := by
          intro n
          induction n with
          | zero => intro qq best few itb H locs ls hn; exact absurd hn (Nat.not_lt_zero _)
          | succ n ih58 =>
            intro qq best few itb H locs ls hn58 hqq hv hl hO hS
            refine lv_iload hx hb dX6_bestRest_58 (lv_at hl 3 rfl) ?_
            refine lv_if_lt (tgt := 126) hx hb dX6_bestRest_60 (by decide) (fun c60 => ?_) (fun c60 => ?_)
            · refine lv_iload_n hx hb dX6_bestRest_126 rfl (lv_at hl 4 rfl) ?_
              refine m_iret hF hr hlk hQ rfl hO hS dX6_bestRest_127 ?_
              have hK : K_bestRest nf F (nI i) z = 0 := by rw [K_bestRest, if_pos b7, if_pos b23, hcl, if_pos b37]
              have e9 : qq = 0 := by
                cases qq with
                | zero => rfl
                | succ m9 => rw [nI_pred] at c60; exact absurd c60 (nI_pos (by omega))
              subst e9
              exact Or.inl ⟨hK, by rw [hcl]; exact hv, _, _, rfl⟩
            · obtain ⟨m9, rfl⟩ : ∃ m9, qq = m9 + 1 := by
                cases qq with
                | zero => exact absurd (by decide) c60
                | succ m9 => exact ⟨m9, rfl⟩
              rw [nI_pred] at hl
              have hnd := ag5_need (k := m9) (z := z) (lv := g 2) (φ := F i) (ag5_take (it := itb) (g := g) (φ := F i))
              refine lv_aload_n hx hb dX6_bestRest_63 rfl (lv_at hl 0 rfl) ?_
              refine lv_iload_n hx hb dX6_bestRest_64 rfl (lv_at hl 1 rfl) ?_
              refine lv_iload hx hb dX6_bestRest_65 (lv_at hl 3 rfl) ?_
              refine lv_iload_n hx hb dX6_bestRest_67 rfl (lv_at hl 2 rfl) ?_
              refine m_vI (As := [.int (nI i), .int (nI m9), .int z]) (rest := []) (n := 3) hF hC hO hS (k_X6_needs l G lo sa ad R 0 g nf F f no O itb ch i m9 z hnf hno (by omega) (by omega)) ok_X6_needs q_885 rfl rfl ⟨Nat.le_of_ble_eq_true rfl, Nat.le_of_ble_eq_true rfl⟩ rfl hl.1 rfl (Nat.le_of_ble_eq_true rfl) ⟨Nat.le_of_ble_eq_true rfl, Nat.le_of_ble_eq_true rfl⟩ dX6_bestRest_68 (fun v68 R' H locs hp hO hS => ?_)
              obtain ⟨rfl, it_68, hR⟩ := hp
              rw [hR] at hO
              refine lv_istore (lv' := [(6, .int (m_need m9 z (g 2) (F i) (m_take itb g (F i)))), (0, .ref (ad 50)), (1, .int (nI i)), (2, .int z), (5, .int (nI m9)), (3, .int best), (4, .int few)]) hx hb dX6_bestRest_71 hl (by decide) rfl (fun ls hl => ?_)
              refine lv_iload hx hb dX6_bestRest_73 (lv_at hl 0 rfl) ?_
              refine lv_if_ne (tgt := 80) hx hb dX6_bestRest_75 (by decide) (fun c75 => ?_) (fun c75 => ?_)
              · refine lv_iload hx hb dX6_bestRest_80 (lv_at hl 0 rfl) ?_
                refine lv_iload hx hb dX6_bestRest_82 (lv_at hl 4 rfl) ?_
                refine lv_iload hx hb dX6_bestRest_84 (lv_at hl 0 rfl) ?_
                refine lv_iconst (v := 1) hx hb dX6_bestRest_86 (by decide) ?_
                refine lv_isub hx hb dX6_bestRest_87 ?_
                refine lv_imul hx hb dX6_bestRest_88 ?_
                refine lv_iadd hx hb dX6_bestRest_89 ?_
                refine lv_istore (lv' := [(7, .int ((m_need m9 z (g 2) (F i) (m_take itb g (F i))) + ((nI m9) * ((m_need m9 z (g 2) (F i) (m_take itb g (F i))) - 1)))), (6, .int (m_need m9 z (g 2) (F i) (m_take itb g (F i)))), (0, .ref (ad 50)), (1, .int (nI i)), (2, .int z), (5, .int (nI m9)), (3, .int best), (4, .int few)]) hx hb dX6_bestRest_90 hl (by decide) rfl (fun ls hl => ?_)
                refine lv_iload hx hb dX6_bestRest_92 (lv_at hl 1 rfl) ?_
                refine lv_iconst (v := -1) hx hb dX6_bestRest_94 (by decide) ?_
                refine lv_icmp_eq (tgt := 120) hx hb dX6_bestRest_95 (by decide) (fun c95 => ?_) (fun c95 => ?_)
                · refine lv_iinc (v := (nI m9 - 1)) (lv' := [(5, .int (nI m9 - 1)), (7, .int ((m_need m9 z (g 2) (F i) (m_take itb g (F i))) + ((nI m9) * ((m_need m9 z (g 2) (F i) (m_take itb g (F i))) - 1)))), (6, .int (m_need m9 z (g 2) (F i) (m_take itb g (F i)))), (0, .ref (ad 50)), (1, .int (nI i)), (2, .int z), (3, .int best), (4, .int few)]) hx hb dX6_bestRest_120 hl (k := 5) rfl (nI_dec m9) (by decide) rfl (fun ls hl => ?_)
                  refine lv_goto (tgt := 58) hx hb dX6_bestRest_123 (by decide) ?_
                  exact ih58 m9 best few it_68 _ _ _ (by omega) (by omega) (by rw [← hv, m_bestL, if_neg (by rw [← hnd]; exact c75), ← hnd, if_pos (Or.inl c95)]) (lv_sub hl [3, 4, 5, 0, 6, 7] rfl) hO hS
                · refine lv_iload_n hx hb dX6_bestRest_98 rfl (lv_at hl 6 rfl) ?_
                  refine lv_iconst (v := -1) hx hb dX6_bestRest_99 (by decide) ?_
                  refine lv_icmp_eq (tgt := 113) hx hb dX6_bestRest_100 (by decide) (fun c100 => ?_) (fun c100 => ?_)
                  · refine lv_iload hx hb dX6_bestRest_113 (lv_at hl 5 rfl) ?_
                    refine lv_istore_n (lv' := [(3, .int (nI m9)), (7, .int ((m_need m9 z (g 2) (F i) (m_take itb g (F i))) + ((nI m9) * ((m_need m9 z (g 2) (F i) (m_take itb g (F i))) - 1)))), (6, .int (m_need m9 z (g 2) (F i) (m_take itb g (F i)))), (0, .ref (ad 50)), (1, .int (nI i)), (2, .int z), (5, .int (nI m9)), (4, .int few)]) hx hb dX6_bestRest_115 rfl hl (by decide) rfl (fun ls hl => ?_)
                    refine lv_iload hx hb dX6_bestRest_116 (lv_at hl 1 rfl) ?_
                    refine lv_istore (lv' := [(4, .int ((m_need m9 z (g 2) (F i) (m_take itb g (F i))) + ((nI m9) * ((m_need m9 z (g 2) (F i) (m_take itb g (F i))) - 1)))), (3, .int (nI m9)), (7, .int ((m_need m9 z (g 2) (F i) (m_take itb g (F i))) + ((nI m9) * ((m_need m9 z (g 2) (F i) (m_take itb g (F i))) - 1)))), (6, .int (m_need m9 z (g 2) (F i) (m_take itb g (F i)))), (0, .ref (ad 50)), (1, .int (nI i)), (2, .int z), (5, .int (nI m9))]) hx hb dX6_bestRest_118 hl (by decide) rfl (fun ls hl => ?_)
                    refine lv_iinc (v := (nI m9 - 1)) (lv' := [(5, .int (nI m9 - 1)), (4, .int ((m_need m9 z (g 2) (F i) (m_take itb g (F i))) + ((nI m9) * ((m_need m9 z (g 2) (F i) (m_take itb g (F i))) - 1)))), (3, .int (nI m9)), (7, .int ((m_need m9 z (g 2) (F i) (m_take itb g (F i))) + ((nI m9) * ((m_need m9 z (g 2) (F i) (m_take itb g (F i))) - 1)))), (6, .int (m_need m9 z (g 2) (F i) (m_take itb g (F i)))), (0, .ref (ad 50)), (1, .int (nI i)), (2, .int z)]) hx hb dX6_bestRest_120 hl (k := 7) rfl (nI_dec m9) (by decide) rfl (fun ls hl => ?_)
                    refine lv_goto (tgt := 58) hx hb dX6_bestRest_123 (by decide) ?_
                    exact ih58 m9 (nI m9) ((m_need m9 z (g 2) (F i) (m_take itb g (F i))) + ((nI m9) * ((m_need m9 z (g 2) (F i) (m_take itb g (F i))) - 1))) it_68 _ _ _ (by omega) (by omega) (by rw [← hv, m_bestL, if_neg (by rw [← hnd]; exact c75), ← hnd, if_neg (fun h => h.elim (fun q => c95 q) (fun q => q.1 c100))]) (lv_sub hl [5, 6, 7, 0, 2, 1] rfl) hO hS
                  · refine lv_iload hx hb dX6_bestRest_103 (lv_at hl 0 rfl) ?_
                    refine lv_iload hx hb dX6_bestRest_105 (lv_at hl 7 rfl) ?_
                    refine lv_icmp_le (tgt := 113) hx hb dX6_bestRest_107 (by decide) (fun c107 => ?_) (fun c107 => ?_)
                    · refine lv_iload hx hb dX6_bestRest_113 (lv_at hl 5 rfl) ?_
                      refine lv_istore_n (lv' := [(3, .int (nI m9)), (7, .int ((m_need m9 z (g 2) (F i) (m_take itb g (F i))) + ((nI m9) * ((m_need m9 z (g 2) (F i) (m_take itb g (F i))) - 1)))), (6, .int (m_need m9 z (g 2) (F i) (m_take itb g (F i)))), (0, .ref (ad 50)), (1, .int (nI i)), (2, .int z), (5, .int (nI m9)), (4, .int few)]) hx hb dX6_bestRest_115 rfl hl (by decide) rfl (fun ls hl => ?_)
                      refine lv_iload hx hb dX6_bestRest_116 (lv_at hl 1 rfl) ?_
                      refine lv_istore (lv' := [(4, .int ((m_need m9 z (g 2) (F i) (m_take itb g (F i))) + ((nI m9) * ((m_need m9 z (g 2) (F i) (m_take itb g (F i))) - 1)))), (3, .int (nI m9)), (7, .int ((m_need m9 z (g 2) (F i) (m_take itb g (F i))) + ((nI m9) * ((m_need m9 z (g 2) (F i) (m_take itb g (F i))) - 1)))), (6, .int (m_need m9 z (g 2) (F i) (m_take itb g (F i)))), (0, .ref (ad 50)), (1, .int (nI i)), (2, .int z), (5, .int (nI m9))]) hx hb dX6_bestRest_118 hl (by decide) rfl (fun ls hl => ?_)
                      refine lv_iinc (v := (nI m9 - 1)) (lv' := [(5, .int (nI m9 - 1)), (4, .int ((m_need m9 z (g 2) (F i) (m_take itb g (F i))) + ((nI m9) * ((m_need m9 z (g 2) (F i) (m_take itb g (F i))) - 1)))), (3, .int (nI m9)), (7, .int ((m_need m9 z (g 2) (F i) (m_take itb g (F i))) + ((nI m9) * ((m_need m9 z (g 2) (F i) (m_take itb g (F i))) - 1)))), (6, .int (m_need m9 z (g 2) (F i) (m_take itb g (F i)))), (0, .ref (ad 50)), (1, .int (nI i)), (2, .int z)]) hx hb dX6_bestRest_120 hl (k := 7) rfl (nI_dec m9) (by decide) rfl (fun ls hl => ?_)
                      refine lv_goto (tgt := 58) hx hb dX6_bestRest_123 (by decide) ?_
                      exact ih58 m9 (nI m9) ((m_need m9 z (g 2) (F i) (m_take itb g (F i))) + ((nI m9) * ((m_need m9 z (g 2) (F i) (m_take itb g (F i))) - 1))) it_68 _ _ _ (by omega) (by omega) (by rw [← hv, m_bestL, if_neg (by rw [← hnd]; exact c75), ← hnd, if_neg (fun h => h.elim (fun q => c95 q) (fun q => absurd q.2 (Int32.not_lt.mpr c107)))]) (lv_sub hl [5, 6, 7, 0, 2, 1] rfl) hO hS
                    · refine lv_goto (tgt := 120) hx hb dX6_bestRest_110 (by decide) ?_
                      refine lv_iinc (v := (nI m9 - 1)) (lv' := [(5, .int (nI m9 - 1)), (7, .int ((m_need m9 z (g 2) (F i) (m_take itb g (F i))) + ((nI m9) * ((m_need m9 z (g 2) (F i) (m_take itb g (F i))) - 1)))), (6, .int (m_need m9 z (g 2) (F i) (m_take itb g (F i)))), (0, .ref (ad 50)), (1, .int (nI i)), (2, .int z), (3, .int best), (4, .int few)]) hx hb dX6_bestRest_120 hl (k := 5) rfl (nI_dec m9) (by decide) rfl (fun ls hl => ?_)
                      refine lv_goto (tgt := 58) hx hb dX6_bestRest_123 (by decide) ?_
                      exact ih58 m9 best few it_68 _ _ _ (by omega) (by omega) (by rw [← hv, m_bestL, if_neg (by rw [← hnd]; exact c75), ← hnd, if_pos (Or.inr ⟨c100, Int32.not_le.mp c107⟩)]) (lv_sub hl [3, 4, 5, 0, 6, 7] rfl) hO hS
              · refine lv_iconst (v := 0) hx hb dX6_bestRest_78 (by decide) ?_
                refine m_iret hF hr hlk hQ rfl hO hS dX6_bestRest_79 ?_
                have hK : K_bestRest nf F (nI i) z = 0 := by rw [K_bestRest, if_pos b7, if_pos b23, hcl, if_pos b37]
                rw [m_bestL, if_pos (by rw [← hnd]; exact c75)] at hv
                exact Or.inl ⟨hK, by rw [hcl]; exact hv, _, _, rfl⟩
        have hl : lv_has ls 8 [(5, .int (nI 21 - 1)), (4, .int 0), (3, .int (-1)), (0, .ref (ad 50)), (1, .int (nI i)), (2, .int z)] := hl
        exact L58 _ 21 (-1) 0 it _ _ _ (Nat.lt_succ_self _) (by omega) rfl (lv_sub hl [3, 4, 5, 0, 2, 1] rfl) hO hS
      · rw [hR] at hO
        refine lv_if_ne (tgt := 49) hx hb dX6_bestRest_40 (by decide) (fun c40 => absurd (by decide) c40) (fun c40 => ?_)
        refine lv_aload_n hx hb dX6_bestRest_43 rfl (lv_at hl 0 rfl) ?_
        refine lv_iconst (v := 3) hx hb dX6_bestRest_44 (by decide) ?_
        refine m_vI (As := [.int 3]) (rest := []) (n := 1) hF hC hO hS (k_X6_fail l G lo sa ad R 0 g nf F f no O it ch 3 hnf hno) ok_X6_fail q_717 rfl rfl ⟨Nat.le_of_ble_eq_true rfl, Nat.le_of_ble_eq_true rfl⟩ rfl hl.1 rfl (Nat.le_of_ble_eq_true rfl) ⟨Nat.le_of_ble_eq_true rfl, Nat.le_of_ble_eq_true rfl⟩ dX6_bestRest_45 (fun v45 R' H locs hp hO hS => ?_)
        obtain ⟨rfl, hR⟩ := hp
        rw [hR] at hO
        refine m_iret hF hr hlk hQ rfl hO hS dX6_bestRest_48 ?_
        have hK : K_bestRest nf F (nI i) z = 3 := by rw [K_bestRest, if_pos b7, if_pos b23, hcl, if_neg b37]
        exact Or.inr ⟨by rw [hK]; decide, it, ch, by rw [hK]⟩
    · rw [hR] at hO
      refine lv_if_ne (tgt := 35) hx hb dX6_bestRest_26 (by decide) (fun c26 => absurd (by decide) c26) (fun c26 => ?_)
      refine lv_aload_n hx hb dX6_bestRest_29 rfl (lv_at hl 0 rfl) ?_
      refine lv_iconst (v := 2) hx hb dX6_bestRest_30 (by decide) ?_
      refine m_vI (As := [.int 2]) (rest := []) (n := 1) hF hC hO hS (k_X6_fail l G lo sa ad R 0 g nf F f no O it ch 2 hnf hno) ok_X6_fail q_717 rfl rfl ⟨Nat.le_of_ble_eq_true rfl, Nat.le_of_ble_eq_true rfl⟩ rfl hl.1 rfl (Nat.le_of_ble_eq_true rfl) ⟨Nat.le_of_ble_eq_true rfl, Nat.le_of_ble_eq_true rfl⟩ dX6_bestRest_31 (fun v31 R' H locs hp hO hS => ?_)
      obtain ⟨rfl, hR⟩ := hp
      rw [hR] at hO
      refine m_iret hF hr hlk hQ rfl hO hS dX6_bestRest_34 ?_
      have hK : K_bestRest nf F (nI i) z = 2 := by rw [K_bestRest, if_pos b7, if_neg b23]
      exact Or.inr ⟨by rw [hK]; decide, it, ch, by rw [hK]⟩
  · rw [hR] at hO
    refine lv_if_ne (tgt := 19) hx hb dX6_bestRest_10 (by decide) (fun c10 => absurd (by decide) c10) (fun c10 => ?_)
    refine lv_aload_n hx hb dX6_bestRest_13 rfl (lv_at hl 0 rfl) ?_
    refine lv_iconst (v := 1) hx hb dX6_bestRest_14 (by decide) ?_
    refine m_vI (As := [.int 1]) (rest := []) (n := 1) hF hC hO hS (k_X6_fail l G lo sa ad R 0 g nf F f no O it ch 1 hnf hno) ok_X6_fail q_717 rfl rfl ⟨Nat.le_of_ble_eq_true rfl, Nat.le_of_ble_eq_true rfl⟩ rfl hl.1 rfl (Nat.le_of_ble_eq_true rfl) ⟨Nat.le_of_ble_eq_true rfl, Nat.le_of_ble_eq_true rfl⟩ dX6_bestRest_15 (fun v15 R' H locs hp hO hS => ?_)
    obtain ⟨rfl, hR⟩ := hp
    rw [hR] at hO
    refine m_iret hF hr hlk hQ rfl hO hS dX6_bestRest_18 ?_
    have hK : K_bestRest nf F x z = 1 := by rw [K_bestRest, if_neg b7]
    exact Or.inr ⟨by rw [hK]; decide, it, ch, by rw [hK]⟩
theorem ok_X6_advise : mOK RX6 yX6_advise cX6_advise 4 (some .int) 0 := ⟨q_894, q_895, q_6, q_896, by decide +kernel⟩
set_option maxHeartbeats 400000 in
set_option maxRecDepth 100000 in
theorem k_X6_advise (l : Launch) (G : mG) (lo : Nat) (sa ad : Nat → Nat) (R : mM) (th : Int32) (g : Nat → Int32) (nf : Nat) (F : Nat → Nat → Int32) (f : Nat → Int32) (no : Nat) (O : Nat → Nat → Int32) (it ch : Nat → Int32) (hnf : nf ≤ 12) (hno : no ≤ 20) : mI l yX6_advise cX6_advise 4 .int 3 65 G lo sa ad (WM G ad th g nf F f no O it ch R) [.ref (ad 50)] (fun v R' => v = m_advL nf 0 (-1) 0 g F ∧ ∃ (it' : Nat → Int32), R' = (WM G ad 0 g nf F f no O it' ch R)) := by
  refine mI_of (by decide) (Nat.le_of_ble_eq_true rfl) ?_
  intro p e s m args below meth c hF hr hlk hC ls hl hO hS Q hQ
  have hx := hF.1
  have hb := hF.2.1
  have hl : lv_has ls 4 [(0, .ref (ad 50))] := hl
  refine lv_aload_n hx hb dX6_advise_0 rfl (lv_at hl 0 rfl) ?_
  refine lv_iconst (v := 0) hx hb dX6_advise_1 (by decide) ?_
  refine m_put (ty := .int) tyX6 tyX6_ok nmX6 inX6 hF hC hO hS rfl rfl 0 (by decide) q_662 rfl (by decide +kernel) rfl rfl (fs' := [.int 0, .int (g 0), .int (g 1), .int (g 2), .int (nI nf), .ref (ad 51), .ref (ad 52), .int (nI no), .ref (ad 53), .int (g 3), .int (g 4), .int (g 5), .ref (ad 54), .ref (ad 55)]) (Nat.le_of_ble_eq_true rfl) rfl dX6_advise_2 (fun H locs hO hS => ?_)
  have hO : mO G lo ad (mU (WM G ad th g nf F f no O it ch R) 50 (mxO ad 0 g nf no)) H := hO
  rw [WM_w0] at hO
  refine lv_iconst (v := -1) hx hb dX6_advise_5 (by decide) ?_
  refine lv_istore_n (lv' := [(1, .int (-1)), (0, .ref (ad 50))]) hx hb dX6_advise_6 rfl hl (by decide) rfl (fun ls hl => ?_)
  refine lv_iconst (v := 0) hx hb dX6_advise_7 (by decide) ?_
  refine lv_istore_n (lv' := [(2, .int 0), (1, .int (-1)), (0, .ref (ad 50))]) hx hb dX6_advise_8 rfl hl (by decide) rfl (fun ls hl => ?_)
  refine lv_iconst (v := 0) hx hb dX6_advise_9 (by decide) ?_
  refine lv_istore_n (lv' := [(3, .int 0), (2, .int 0), (1, .int (-1)), (0, .ref (ad 50))]) hx hb dX6_advise_10 rfl hl (by decide) rfl (fun ls hl => ?_)
  have L11 : ∀ (n : Nat) (i : Nat) (best : Int32) (most : Int32) (itb : Nat → Int32) (H : Heap) (locs : List Loc) (ls : Array Slot), nf - i < n → i ≤ nf → m_advL (nf - i) i best most g F = m_advL nf 0 (-1) 0 g F → lv_has ls 4 [(0, .ref (ad 50)), (3, .int (nI i)), (1, .int best), (2, .int most)] → mO G lo ad (WM G ad 0 g nf F f no O itb ch R) H → va_S (mA lo) s.heap H locs → W p l e (mRm 3 65) s m args below meth c H locs 0 0 Q (F0 m 11 ls []) := by
    intro n
    induction n with
    | zero => intro i best most itb H locs ls hn; exact absurd hn (Nat.not_lt_zero _)
    | succ n ih11 =>
      intro i best most itb H locs ls hn11 hi hv hl hO hS
      refine lv_iload_n hx hb dX6_advise_11 rfl (lv_at hl 1 rfl) ?_
      refine lv_aload_n hx hb dX6_advise_12 rfl (lv_at hl 0 rfl) ?_
      refine m_get inX6 hF hC hO rfl rfl 4 (by decide) q_666 (v := .int (nI nf)) rfl dX6_advise_13 ?_
      refine lv_icmp_ge (tgt := 66) hx hb dX6_advise_16 (by decide) (fun c16 => ?_) (fun c16 => ?_)
      · refine lv_iload_n hx hb dX6_advise_66 rfl (lv_at hl 2 rfl) ?_
        refine m_iret hF hr hlk hQ rfl hO hS dX6_advise_67 ?_
        have e9 : i = nf := Nat.le_antisymm hi (nI_E (a := nf) (b := i) (by omega) (by omega) c16)
        rw [e9, Nat.sub_self] at hv
        exact ⟨hv, _, rfl⟩
      · refine lv_aload_n hx hb dX6_advise_19 rfl (lv_at hl 0 rfl) ?_
        refine lv_iload_n hx hb dX6_advise_20 rfl (lv_at hl 1 rfl) ?_
        refine m_vV (As := [.int (nI i)]) (rest := []) (n := 1) hF hC hO hS (k_X6_take l G lo sa ad R 0 g nf F f no O itb ch i hnf hno (by have := (nI_nE (a := nf) (b := i) (by omega) (by omega) c16); omega)) ok_X6_take q_768 rfl rfl ⟨Nat.le_of_ble_eq_true rfl, Nat.le_of_ble_eq_true rfl⟩ rfl hl.1 rfl (Nat.le_of_ble_eq_true rfl) ⟨Nat.le_of_ble_eq_true rfl, Nat.le_of_ble_eq_true rfl⟩ dX6_advise_21 (fun R' H locs hp hO hS => ?_)
        have hR := hp
        rw [hR] at hO
        refine lv_aload_n hx hb dX6_advise_24 rfl (lv_at hl 0 rfl) ?_
        refine lv_iload_n hx hb dX6_advise_25 rfl (lv_at hl 1 rfl) ?_
        refine m_vI (As := [.int (nI i)]) (rest := []) (n := 1) hF hC hO hS (k_X6_hangs l G lo sa ad R 0 g nf F f no O (m_take itb g (F i)) ch i hnf hno (by have := (nI_nE (a := nf) (b := i) (by omega) (by omega) c16); omega)) ok_X6_hangs q_772 rfl rfl ⟨Nat.le_of_ble_eq_true rfl, Nat.le_of_ble_eq_true rfl⟩ rfl hl.1 rfl (Nat.le_of_ble_eq_true rfl) ⟨Nat.le_of_ble_eq_true rfl, Nat.le_of_ble_eq_true rfl⟩ dX6_advise_26 (fun v26 R' H locs hp hO hS => ?_)
        obtain ⟨⟨rfl, b26⟩ | ⟨rfl, b26⟩, hR⟩ := hp
        · rw [hR] at hO
          refine lv_if_eq (tgt := 60) hx hb dX6_advise_29 (by decide) (fun c29 => absurd c29 (by decide)) (fun c29 => ?_)
          refine lv_aload_n hx hb dX6_advise_32 rfl (lv_at hl 0 rfl) ?_
          refine lv_iload_n hx hb dX6_advise_33 rfl (lv_at hl 1 rfl) ?_
          refine m_vI (As := [.int (nI i)]) (rest := []) (n := 1) hF hC hO hS (k_X6_can l G lo sa ad R 0 g nf F f no O (m_take itb g (F i)) ch i hnf hno (by have := (nI_nE (a := nf) (b := i) (by omega) (by omega) c16); omega)) ok_X6_can q_776 rfl rfl ⟨Nat.le_of_ble_eq_true rfl, Nat.le_of_ble_eq_true rfl⟩ rfl hl.1 rfl (Nat.le_of_ble_eq_true rfl) ⟨Nat.le_of_ble_eq_true rfl, Nat.le_of_ble_eq_true rfl⟩ dX6_advise_34 (fun v34 R' H locs hp hO hS => ?_)
          obtain ⟨⟨rfl, b34⟩ | ⟨rfl, b34⟩, hR⟩ := hp
          · rw [hR] at hO
            refine lv_if_eq (tgt := 60) hx hb dX6_advise_37 (by decide) (fun c37 => absurd c37 (by decide)) (fun c37 => ?_)
            refine lv_aload_n hx hb dX6_advise_40 rfl (lv_at hl 0 rfl) ?_
            refine lv_iload_n hx hb dX6_advise_41 rfl (lv_at hl 1 rfl) ?_
            refine m_vI (As := [.int (nI i)]) (rest := []) (n := 1) hF hC hO hS (k_X6_grows l G lo sa ad R 0 g nf F f no O (m_take itb g (F i)) ch i hnf hno (by have := (nI_nE (a := nf) (b := i) (by omega) (by omega) c16); omega)) ok_X6_grows q_780 rfl rfl ⟨Nat.le_of_ble_eq_true rfl, Nat.le_of_ble_eq_true rfl⟩ rfl hl.1 rfl (Nat.le_of_ble_eq_true rfl) ⟨Nat.le_of_ble_eq_true rfl, Nat.le_of_ble_eq_true rfl⟩ dX6_advise_42 (fun v42 R' H locs hp hO hS => ?_)
            obtain ⟨rfl, hR⟩ := hp
            rw [hR] at hO
            refine lv_iload_n hx hb dX6_advise_45 rfl (lv_at hl 3 rfl) ?_
            refine lv_icmp_gt (tgt := 52) hx hb dX6_advise_46 (by decide) (fun c46 => ?_) (fun c46 => ?_)
            · refine lv_iload_n hx hb dX6_advise_52 rfl (lv_at hl 1 rfl) ?_
              refine lv_istore_n (lv' := [(1, .int (nI i)), (0, .ref (ad 50)), (3, .int (nI i)), (2, .int most)]) hx hb dX6_advise_53 rfl hl (by decide) rfl (fun ls hl => ?_)
              refine lv_aload_n hx hb dX6_advise_54 rfl (lv_at hl 1 rfl) ?_
              refine lv_iload_n hx hb dX6_advise_55 rfl (lv_at hl 2 rfl) ?_
              refine m_vI (As := [.int (nI i)]) (rest := []) (n := 1) hF hC hO hS (k_X6_grows l G lo sa ad R 0 g nf F f no O (m_take itb g (F i)) ch i hnf hno (by have := (nI_nE (a := nf) (b := i) (by omega) (by omega) c16); omega)) ok_X6_grows q_780 rfl rfl ⟨Nat.le_of_ble_eq_true rfl, Nat.le_of_ble_eq_true rfl⟩ rfl hl.1 rfl (Nat.le_of_ble_eq_true rfl) ⟨Nat.le_of_ble_eq_true rfl, Nat.le_of_ble_eq_true rfl⟩ dX6_advise_56 (fun v56 R' H locs hp hO hS => ?_)
              obtain ⟨rfl, hR⟩ := hp
              rw [hR] at hO
              refine lv_istore_n (lv' := [(2, .int (m_grow (m_take itb g (F i)) (F i))), (1, .int (nI i)), (0, .ref (ad 50)), (3, .int (nI i))]) hx hb dX6_advise_59 rfl hl (by decide) rfl (fun ls hl => ?_)
              refine lv_iinc (v := (nI (i + 1))) (lv' := [(3, .int (nI (i + 1))), (2, .int (m_grow (m_take itb g (F i)) (F i))), (1, .int (nI i)), (0, .ref (ad 50))]) hx hb dX6_advise_60 hl (k := 3) rfl (nI_inc i) (by decide) rfl (fun ls hl => ?_)
              refine lv_goto (tgt := 11) hx hb dX6_advise_63 (by decide) ?_
              exact ih11 (i + 1) (nI i) (m_grow (m_take itb g (F i)) (F i)) (m_take itb g (F i)) _ _ _ (by have := (nI_nE (a := nf) (b := i) (by omega) (by omega) c16); omega) (by have := (nI_nE (a := nf) (b := i) (by omega) (by omega) c16); omega) (by have := (nI_nE (a := nf) (b := i) (by omega) (by omega) c16); rw [← hv, show nf - i = (nf - (i + 1)) + 1 from by omega, m_advL, if_pos ⟨b26, (show m_can (m_t g (F i)) (F i) from b34), (show most < m_grow (m_t g (F i)) (F i) from c46)⟩]; rfl) (lv_sub hl [3, 0, 2, 1] rfl) hO hS
            · refine lv_goto (tgt := 60) hx hb dX6_advise_49 (by decide) ?_
              refine lv_iinc (v := (nI (i + 1))) (lv' := [(3, .int (nI (i + 1))), (0, .ref (ad 50)), (1, .int best), (2, .int most)]) hx hb dX6_advise_60 hl (k := 1) rfl (nI_inc i) (by decide) rfl (fun ls hl => ?_)
              refine lv_goto (tgt := 11) hx hb dX6_advise_63 (by decide) ?_
              exact ih11 (i + 1) best most (m_take itb g (F i)) _ _ _ (by have := (nI_nE (a := nf) (b := i) (by omega) (by omega) c16); omega) (by have := (nI_nE (a := nf) (b := i) (by omega) (by omega) c16); omega) (by have := (nI_nE (a := nf) (b := i) (by omega) (by omega) c16); rw [← hv, show nf - i = (nf - (i + 1)) + 1 from by omega, m_advL, if_neg (fun h => c46 h.2.2)]) (lv_sub hl [1, 0, 2, 3] rfl) hO hS
          · rw [hR] at hO
            refine lv_if_eq (tgt := 60) hx hb dX6_advise_37 (by decide) (fun c37 => ?_) (fun c37 => absurd (by decide) c37)
            refine lv_iinc (v := (nI (i + 1))) (lv' := [(3, .int (nI (i + 1))), (0, .ref (ad 50)), (1, .int best), (2, .int most)]) hx hb dX6_advise_60 hl (k := 1) rfl (nI_inc i) (by decide) rfl (fun ls hl => ?_)
            refine lv_goto (tgt := 11) hx hb dX6_advise_63 (by decide) ?_
            exact ih11 (i + 1) best most (m_take itb g (F i)) _ _ _ (by have := (nI_nE (a := nf) (b := i) (by omega) (by omega) c16); omega) (by have := (nI_nE (a := nf) (b := i) (by omega) (by omega) c16); omega) (by have := (nI_nE (a := nf) (b := i) (by omega) (by omega) c16); rw [← hv, show nf - i = (nf - (i + 1)) + 1 from by omega, m_advL, if_neg (fun h => b34 h.2.1)]) (lv_sub hl [1, 0, 2, 3] rfl) hO hS
        · rw [hR] at hO
          refine lv_if_eq (tgt := 60) hx hb dX6_advise_29 (by decide) (fun c29 => ?_) (fun c29 => absurd (by decide) c29)
          refine lv_iinc (v := (nI (i + 1))) (lv' := [(3, .int (nI (i + 1))), (0, .ref (ad 50)), (1, .int best), (2, .int most)]) hx hb dX6_advise_60 hl (k := 1) rfl (nI_inc i) (by decide) rfl (fun ls hl => ?_)
          refine lv_goto (tgt := 11) hx hb dX6_advise_63 (by decide) ?_
          exact ih11 (i + 1) best most (m_take itb g (F i)) _ _ _ (by have := (nI_nE (a := nf) (b := i) (by omega) (by omega) c16); omega) (by have := (nI_nE (a := nf) (b := i) (by omega) (by omega) c16); omega) (by have := (nI_nE (a := nf) (b := i) (by omega) (by omega) c16); rw [← hv, show nf - i = (nf - (i + 1)) + 1 from by omega, m_advL, if_neg (fun h => b26 h.1)]) (lv_sub hl [1, 0, 2, 3] rfl) hO hS
  exact L11 _ 0 (-1) 0 it _ _ _ (Nat.lt_succ_self _) (by omega) rfl (lv_sub hl [3, 0, 2, 1] rfl) hO hS
