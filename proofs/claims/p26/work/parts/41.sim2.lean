theorem ok_X7_dip : mOK RX7 yX7_dip cX7_dip 3 none 1 := ⟨q_466, q_467, q_6, q_468, by decide +kernel⟩
set_option maxHeartbeats 400000 in
set_option maxRecDepth 100000 in
theorem k_X7_dip (l : Launch) (G : mG) (lo : Nat) (sa : mSc) (ad : Nat → Nat) (R : mM) (g : Nat → Int32) (nf : Nat) (F : Nat → Nat → Int32) (f : Nat → Int32) (no : Nat) (O : Nat → Nat → Int32) (w : Int32) (i qn : Nat) (hnf : nf ≤ 12) (hno : no ≤ 20) (hi : i < nf) (hc : p_can (F i) g) (hgn : GN qn g) (hFv : ∀ i, i < nf → FrV (F i)) (hOv : ∀ j, j < no → OrV (O j)) (hq : g 3 = nI qn) (hqn : qn ≤ 900000) : mV l yX7_dip cX7_dip 3 1 27 G lo sa ad (WS G ad g nf F f no O w R) [.ref (ad 50), .ref (ad (200 + i))] (fun R' => R' = (WS G ad (m_qG (upd (p_dipV (F i) g) 4 (p_dipV (F i) g 4 + 1))) nf (m_coolTo nf i (va_up F i (p_dipF (F i) (g 1)))) f no (m_qO no (upd (p_dipV (F i) g) 4 (p_dipV (F i) g 4 + 1)) O) w R)) := by
  refine mV_of (by decide) (Nat.le_of_ble_eq_true rfl) ?_
  intro p e s m args below meth c hF hr hlk hC ls hl hO hS Q hQ
  have hx := hF.1
  have hb := hF.2.1
  have hl : lv_has ls 3 [(0, .ref (ad 50)), (1, .ref (ad (200 + i)))] := hl
  refine lv_aload_n hx hb dX7_dip_0 rfl (lv_at hl 0 rfl) ?_
  refine lv_aload_n hx hb dX7_dip_1 rfl (lv_at hl 1 rfl) ?_
  refine m_vI (As := [.ref (ad (200 + i))]) (rest := []) (n := 1) hF hC hO hS (k_X7_grows l G lo sa ad R g nf F f no O w i hnf hno (by assumption)) ok_X7_grows q_469 rfl rfl ⟨Nat.le_of_ble_eq_true rfl, Nat.le_of_ble_eq_true rfl⟩ rfl hl.1 rfl (Nat.le_of_ble_eq_true rfl) ⟨Nat.le_of_ble_eq_true rfl, Nat.le_of_ble_eq_true rfl⟩ dX7_dip_2 (fun v2 R' H locs hp hO hS => ?_)
  obtain ⟨rfl, hR⟩ := hp
  rw [hR] at hO
  rw [s_grow_can (hFv i hi) hgn hc]
  refine lv_istore_n (lv' := [(2, .int (s_up (F i) g)), (0, .ref (ad 50)), (1, .ref (ad (200 + i)))]) hx hb dX7_dip_5 rfl hl (by decide) rfl (fun ls hl => ?_)
  refine lv_aload_n hx hb dX7_dip_6 rfl (lv_at hl 2 rfl) ?_
  refine m_get inX6 hF hC hO (WS_F (i := i) (by assumption) hnf) rfl 3 (by decide) q_575 (v := .int ((F i) 3)) rfl dX7_dip_7 ?_
  refine lv_bipush (v := 70) hx hb dX7_dip_10 (by decide) ?_
  refine lv_icmp_le (tgt := 46) hx hb dX7_dip_12 (by decide) (fun c12 => ?_) (fun c12 => ?_)
  · refine lv_aload_n hx hb dX7_dip_46 rfl (lv_at hl 1 rfl) ?_
    refine lv_dup hx hb dX7_dip_47 rfl ?_
    refine m_get inX7 hF hC hO rfl rfl 0 (by decide) q_502 (v := .int (g 0)) rfl dX7_dip_48 ?_
    refine lv_iload_n hx hb dX7_dip_51 rfl (lv_at hl 0 rfl) ?_
    refine lv_bipush (v := 8) hx hb dX7_dip_52 (by decide) ?_
    refine lv_aload_n hx hb dX7_dip_54 rfl (lv_at hl 2 rfl) ?_
    refine m_get inX6 hF hC hO (WS_F (i := i) (by assumption) hnf) rfl 0 (by decide) q_567 (v := .int ((F i) 0)) rfl dX7_dip_55 ?_
    refine lv_iadd hx hb dX7_dip_58 ?_
    refine lv_imul hx hb dX7_dip_59 ?_
    refine lv_aload_n hx hb dX7_dip_60 rfl (lv_at hl 2 rfl) ?_
    refine m_get inX6 hF hC hO (WS_F (i := i) (by assumption) hnf) rfl 1 (by decide) q_569 (v := .int ((F i) 1)) rfl dX7_dip_61 ?_
    refine lv_imul hx hb dX7_dip_64 ?_
    refine lv_bipush (v := 10) hx hb dX7_dip_65 (by decide) ?_
    refine lv_idiv hx hb dX7_dip_67 (by decide) ?_
    refine lv_isub hx hb dX7_dip_68 ?_
    refine m_put (ty := .int) tyX7 tyX7_ok nmX7 inX7 hF hC hO hS rfl rfl 0 (by decide) q_502 rfl (by decide +kernel) rfl rfl (fs' := [.int ((g 0) - ((((s_up (F i) g) * (8 + ((F i) 0))) * ((F i) 1)) / 10)), .int (g 1), .int (g 2), .ref (ad 51), .ref (ad 52), .ref (ad 57), .int (g 3), .int (g 4), .int w]) (Nat.le_of_ble_eq_true rfl) rfl dX7_dip_69 (fun H locs hO hS => ?_)
    have hO : mO G lo ad (mU (WS G ad g nf F f no O w R) 50 (sO ad (upd g 0 ((g 0) - ((((s_up (F i) g) * (8 + ((F i) 0))) * ((F i) 1)) / 10))) w)) H := hO
    rw [WS_w0] at hO
    refine lv_aload_n hx hb dX7_dip_72 rfl (lv_at hl 2 rfl) ?_
    refine m_get inX6 hF hC hO (WS_F (i := i) (by assumption) hnf) rfl 2 (by decide) q_573 (v := .int ((F i) 2)) rfl dX7_dip_73 ?_
    refine lv_if_le (tgt := 93) hx hb dX7_dip_76 (by decide) (fun c76 => ?_) (fun c76 => ?_)
    · refine lv_aload_n hx hb dX7_dip_93 rfl (lv_at hl 2 rfl) ?_
      refine lv_dup hx hb dX7_dip_94 rfl ?_
      refine m_get inX6 hF hC hO (WS_F (i := i) (by assumption) hnf) rfl 2 (by decide) q_573 (v := .int ((F i) 2)) rfl dX7_dip_95 ?_
      refine lv_iload_n hx hb dX7_dip_98 rfl (lv_at hl 0 rfl) ?_
      refine lv_iadd hx hb dX7_dip_99 ?_
      refine m_put (ty := .int) tyX6 tyX6_ok nmX6 inX6 hF hC hO hS (WS_F (i := i) (by assumption) hnf) rfl 2 (by decide) q_573 rfl (by decide +kernel) rfl rfl (fs' := [.int ((F i) 0), .int ((F i) 1), .int (((F i) 2) + (s_up (F i) g)), .int ((F i) 3), .int ((F i) 4), .int ((F i) 5), .int ((F i) 6)]) (Nat.le_of_ble_eq_true rfl) rfl dX7_dip_100 (fun H locs hO hS => ?_)
      have hO : mO G lo ad (mU (WS G ad (upd g 0 ((g 0) - ((((s_up (F i) g) * (8 + ((F i) 0))) * ((F i) 1)) / 10))) nf F f no O w R) (200 + i) (lfO (upd (F i) 2 (((F i) 2) + (s_up (F i) g))))) H := hO
      rw [WS_wF (by assumption) hnf] at hO
      refine lv_aload_n hx hb dX7_dip_103 rfl (lv_at hl 2 rfl) ?_
      refine lv_bipush (v := 100) hx hb dX7_dip_104 (by decide) ?_
      refine lv_aload_n hx hb dX7_dip_106 rfl (lv_at hl 2 rfl) ?_
      refine m_get inX6 hF hC hO (WS_Fu (i := i) (by assumption) hnf) rfl 3 (by decide) q_575 (v := .int ((upd (F i) 2 (((F i) 2) + (s_up (F i) g))) 3)) rfl dX7_dip_107 ?_
      refine lv_aload_n hx hb dX7_dip_110 rfl (lv_at hl 1 rfl) ?_
      refine m_get inX7 hF hC hO rfl rfl 1 (by decide) q_503 (v := .int (g 1)) rfl dX7_dip_111 ?_
      refine lv_iadd hx hb dX7_dip_114 ?_
      refine lv_iconst (v := 2) hx hb dX7_dip_115 (by decide) ?_
      refine lv_idiv hx hb dX7_dip_116 (by decide) ?_
      refine m_min hF hl.1 q_473 q_246 q_14 q_247 (Nat.le_of_ble_eq_true rfl) (Nat.le_of_ble_eq_true rfl) ⟨Nat.le_of_ble_eq_true rfl, Nat.le_of_ble_eq_true rfl⟩ dX7_dip_117 ?_
      refine m_put (ty := .int) tyX6 tyX6_ok nmX6 inX6 hF hC hO hS (WS_Fu (i := i) (by assumption) hnf) rfl 3 (by decide) q_575 rfl (by decide +kernel) rfl rfl (fs' := [.int ((upd (F i) 2 (((F i) 2) + (s_up (F i) g))) 0), .int ((upd (F i) 2 (((F i) 2) + (s_up (F i) g))) 1), .int ((upd (F i) 2 (((F i) 2) + (s_up (F i) g))) 2), .int (jmin 100 ((((upd (F i) 2 (((F i) 2) + (s_up (F i) g))) 3) + (g 1)) / 2)), .int ((upd (F i) 2 (((F i) 2) + (s_up (F i) g))) 4), .int ((upd (F i) 2 (((F i) 2) + (s_up (F i) g))) 5), .int ((upd (F i) 2 (((F i) 2) + (s_up (F i) g))) 6)]) (Nat.le_of_ble_eq_true rfl) rfl dX7_dip_120 (fun H locs hO hS => ?_)
      have hO : mO G lo ad (mU (WS G ad (upd g 0 ((g 0) - ((((s_up (F i) g) * (8 + ((F i) 0))) * ((F i) 1)) / 10))) nf (va_up F i (upd (F i) 2 (((F i) 2) + (s_up (F i) g)))) f no O w R) (200 + i) (lfO (upd (upd (F i) 2 (((F i) 2) + (s_up (F i) g))) 3 (jmin 100 ((((upd (F i) 2 (((F i) 2) + (s_up (F i) g))) 3) + (g 1)) / 2))))) H := hO
      rw [WS_wFu (by assumption) hnf] at hO
      refine lv_aload_n hx hb dX7_dip_123 rfl (lv_at hl 2 rfl) ?_
      refine lv_dup hx hb dX7_dip_124 rfl ?_
      refine m_get inX6 hF hC hO (WS_Fu (i := i) (by assumption) hnf) rfl 6 (by decide) q_583 (v := .int ((upd (upd (F i) 2 (((F i) 2) + (s_up (F i) g))) 3 (jmin 100 ((((upd (F i) 2 (((F i) 2) + (s_up (F i) g))) 3) + (g 1)) / 2))) 6)) rfl dX7_dip_125 ?_
      refine lv_iconst (v := 1) hx hb dX7_dip_128 (by decide) ?_
      refine lv_iadd hx hb dX7_dip_129 ?_
      refine m_put (ty := .int) tyX6 tyX6_ok nmX6 inX6 hF hC hO hS (WS_Fu (i := i) (by assumption) hnf) rfl 6 (by decide) q_583 rfl (by decide +kernel) rfl rfl (fs' := [.int ((upd (upd (F i) 2 (((F i) 2) + (s_up (F i) g))) 3 (jmin 100 ((((upd (F i) 2 (((F i) 2) + (s_up (F i) g))) 3) + (g 1)) / 2))) 0), .int ((upd (upd (F i) 2 (((F i) 2) + (s_up (F i) g))) 3 (jmin 100 ((((upd (F i) 2 (((F i) 2) + (s_up (F i) g))) 3) + (g 1)) / 2))) 1), .int ((upd (upd (F i) 2 (((F i) 2) + (s_up (F i) g))) 3 (jmin 100 ((((upd (F i) 2 (((F i) 2) + (s_up (F i) g))) 3) + (g 1)) / 2))) 2), .int ((upd (upd (F i) 2 (((F i) 2) + (s_up (F i) g))) 3 (jmin 100 ((((upd (F i) 2 (((F i) 2) + (s_up (F i) g))) 3) + (g 1)) / 2))) 3), .int ((upd (upd (F i) 2 (((F i) 2) + (s_up (F i) g))) 3 (jmin 100 ((((upd (F i) 2 (((F i) 2) + (s_up (F i) g))) 3) + (g 1)) / 2))) 4), .int ((upd (upd (F i) 2 (((F i) 2) + (s_up (F i) g))) 3 (jmin 100 ((((upd (F i) 2 (((F i) 2) + (s_up (F i) g))) 3) + (g 1)) / 2))) 5), .int (((upd (upd (F i) 2 (((F i) 2) + (s_up (F i) g))) 3 (jmin 100 ((((upd (F i) 2 (((F i) 2) + (s_up (F i) g))) 3) + (g 1)) / 2))) 6) + 1)]) (Nat.le_of_ble_eq_true rfl) rfl dX7_dip_130 (fun H locs hO hS => ?_)
      have hO : mO G lo ad (mU (WS G ad (upd g 0 ((g 0) - ((((s_up (F i) g) * (8 + ((F i) 0))) * ((F i) 1)) / 10))) nf (va_up F i (upd (upd (F i) 2 (((F i) 2) + (s_up (F i) g))) 3 (jmin 100 ((((upd (F i) 2 (((F i) 2) + (s_up (F i) g))) 3) + (g 1)) / 2)))) f no O w R) (200 + i) (lfO (upd (upd (upd (F i) 2 (((F i) 2) + (s_up (F i) g))) 3 (jmin 100 ((((upd (F i) 2 (((F i) 2) + (s_up (F i) g))) 3) + (g 1)) / 2))) 6 (((upd (upd (F i) 2 (((F i) 2) + (s_up (F i) g))) 3 (jmin 100 ((((upd (F i) 2 (((F i) 2) + (s_up (F i) g))) 3) + (g 1)) / 2))) 6) + 1)))) H := hO
      rw [WS_wFu (by assumption) hnf] at hO
      refine lv_aload_n hx hb dX7_dip_133 rfl (lv_at hl 1 rfl) ?_
      refine lv_dup hx hb dX7_dip_134 rfl ?_
      refine m_get inX7 hF hC hO rfl rfl 7 (by decide) q_515 (v := .int (g 4)) rfl dX7_dip_135 ?_
      refine lv_iconst (v := 1) hx hb dX7_dip_138 (by decide) ?_
      refine lv_iadd hx hb dX7_dip_139 ?_
      refine m_put (ty := .int) tyX7 tyX7_ok nmX7 inX7 hF hC hO hS rfl rfl 7 (by decide) q_515 rfl (by decide +kernel) rfl rfl (fs' := [.int ((g 0) - ((((s_up (F i) g) * (8 + ((F i) 0))) * ((F i) 1)) / 10)), .int (g 1), .int (g 2), .ref (ad 51), .ref (ad 52), .ref (ad 57), .int (g 3), .int ((g 4) + 1), .int w]) (Nat.le_of_ble_eq_true rfl) rfl dX7_dip_140 (fun H locs hO hS => ?_)
      have hO : mO G lo ad (mU (WS G ad (upd g 0 ((g 0) - ((((s_up (F i) g) * (8 + ((F i) 0))) * ((F i) 1)) / 10))) nf (va_up F i (upd (upd (upd (F i) 2 (((F i) 2) + (s_up (F i) g))) 3 (jmin 100 ((((upd (F i) 2 (((F i) 2) + (s_up (F i) g))) 3) + (g 1)) / 2))) 6 (((upd (upd (F i) 2 (((F i) 2) + (s_up (F i) g))) 3 (jmin 100 ((((upd (F i) 2 (((F i) 2) + (s_up (F i) g))) 3) + (g 1)) / 2))) 6) + 1))) f no O w R) 50 (sO ad (upd (upd g 0 ((g 0) - ((((s_up (F i) g) * (8 + ((F i) 0))) * ((F i) 1)) / 10))) 4 ((g 4) + 1)) w)) H := hO
      rw [WS_w0] at hO
      rw [show ((upd (upd (upd (F i) 2 (((F i) 2) + (s_up (F i) g))) 3 (jmin 100 ((((upd (F i) 2 (((F i) 2) + (s_up (F i) g))) 3) + (g 1)) / 2))) 6 (((upd (upd (F i) 2 (((F i) 2) + (s_up (F i) g))) 3 (jmin 100 ((((upd (F i) 2 (((F i) 2) + (s_up (F i) g))) 3) + (g 1)) / 2))) 6) + 1)) : Nat → Int32) = p_dipF (F i) (g 1) from (sd_up (g := g) (Int32.not_lt.mpr c12)).2.1 (fun q => q.1 (thick_0 (hFv i hi) c76)), show ((upd (upd g 0 ((g 0) - ((((s_up (F i) g) * (8 + ((F i) 0))) * ((F i) 1)) / 10))) 4 ((g 4) + 1)) : Nat → Int32) = (upd (p_dipV (F i) g) 4 (p_dipV (F i) g 4 + 1)) from (sd_up (g := g) (Int32.not_lt.mpr c12)).2.2] at hO
      refine lv_aload_n hx hb dX7_dip_143 rfl (lv_at hl 1 rfl) ?_
      refine lv_aload_n hx hb dX7_dip_144 rfl (lv_at hl 2 rfl) ?_
      refine m_vV (As := [.ref (ad (200 + i))]) (rest := []) (n := 1) hF hC hO hS (k_X7_pass l G lo sa ad R (upd (p_dipV (F i) g) 4 (p_dipV (F i) g 4 + 1)) nf (va_up F i (p_dipF (F i) (g 1))) f no O w i qn hnf hno hi (FrV_up hFv (dip_FrV (hFv i hi) hgn hc).1) hOv (by show p_dipV (F i) g 3 = nI qn; rw [p_dipV_3]; exact hq) hqn) ok_X7_pass q_474 rfl rfl ⟨Nat.le_of_ble_eq_true rfl, Nat.le_of_ble_eq_true rfl⟩ rfl hl.1 rfl (Nat.le_of_ble_eq_true rfl) ⟨Nat.le_of_ble_eq_true rfl, Nat.le_of_ble_eq_true rfl⟩ dX7_dip_145 (fun R' H locs hp hO hS => ?_)
      have hR := hp
      rw [hR] at hO
      refine m_vret hF hr hlk hQ hO hS dX7_dip_148 ?_
      rfl
    · refine lv_aload_n hx hb dX7_dip_79 rfl (lv_at hl 2 rfl) ?_
      refine m_get inX6 hF hC hO (WS_F (i := i) (by assumption) hnf) rfl 3 (by decide) q_575 (v := .int ((F i) 3)) rfl dX7_dip_80 ?_
      refine lv_bipush (v := 10) hx hb dX7_dip_83 (by decide) ?_
      refine lv_icmp_ge (tgt := 93) hx hb dX7_dip_85 (by decide) (fun c85 => ?_) (fun c85 => ?_)
      · refine lv_aload_n hx hb dX7_dip_93 rfl (lv_at hl 2 rfl) ?_
        refine lv_dup hx hb dX7_dip_94 rfl ?_
        refine m_get inX6 hF hC hO (WS_F (i := i) (by assumption) hnf) rfl 2 (by decide) q_573 (v := .int ((F i) 2)) rfl dX7_dip_95 ?_
        refine lv_iload_n hx hb dX7_dip_98 rfl (lv_at hl 0 rfl) ?_
        refine lv_iadd hx hb dX7_dip_99 ?_
        refine m_put (ty := .int) tyX6 tyX6_ok nmX6 inX6 hF hC hO hS (WS_F (i := i) (by assumption) hnf) rfl 2 (by decide) q_573 rfl (by decide +kernel) rfl rfl (fs' := [.int ((F i) 0), .int ((F i) 1), .int (((F i) 2) + (s_up (F i) g)), .int ((F i) 3), .int ((F i) 4), .int ((F i) 5), .int ((F i) 6)]) (Nat.le_of_ble_eq_true rfl) rfl dX7_dip_100 (fun H locs hO hS => ?_)
        have hO : mO G lo ad (mU (WS G ad (upd g 0 ((g 0) - ((((s_up (F i) g) * (8 + ((F i) 0))) * ((F i) 1)) / 10))) nf F f no O w R) (200 + i) (lfO (upd (F i) 2 (((F i) 2) + (s_up (F i) g))))) H := hO
        rw [WS_wF (by assumption) hnf] at hO
        refine lv_aload_n hx hb dX7_dip_103 rfl (lv_at hl 2 rfl) ?_
        refine lv_bipush (v := 100) hx hb dX7_dip_104 (by decide) ?_
        refine lv_aload_n hx hb dX7_dip_106 rfl (lv_at hl 2 rfl) ?_
        refine m_get inX6 hF hC hO (WS_Fu (i := i) (by assumption) hnf) rfl 3 (by decide) q_575 (v := .int ((upd (F i) 2 (((F i) 2) + (s_up (F i) g))) 3)) rfl dX7_dip_107 ?_
        refine lv_aload_n hx hb dX7_dip_110 rfl (lv_at hl 1 rfl) ?_
        refine m_get inX7 hF hC hO rfl rfl 1 (by decide) q_503 (v := .int (g 1)) rfl dX7_dip_111 ?_
        refine lv_iadd hx hb dX7_dip_114 ?_
        refine lv_iconst (v := 2) hx hb dX7_dip_115 (by decide) ?_
        refine lv_idiv hx hb dX7_dip_116 (by decide) ?_
        refine m_min hF hl.1 q_473 q_246 q_14 q_247 (Nat.le_of_ble_eq_true rfl) (Nat.le_of_ble_eq_true rfl) ⟨Nat.le_of_ble_eq_true rfl, Nat.le_of_ble_eq_true rfl⟩ dX7_dip_117 ?_
        refine m_put (ty := .int) tyX6 tyX6_ok nmX6 inX6 hF hC hO hS (WS_Fu (i := i) (by assumption) hnf) rfl 3 (by decide) q_575 rfl (by decide +kernel) rfl rfl (fs' := [.int ((upd (F i) 2 (((F i) 2) + (s_up (F i) g))) 0), .int ((upd (F i) 2 (((F i) 2) + (s_up (F i) g))) 1), .int ((upd (F i) 2 (((F i) 2) + (s_up (F i) g))) 2), .int (jmin 100 ((((upd (F i) 2 (((F i) 2) + (s_up (F i) g))) 3) + (g 1)) / 2)), .int ((upd (F i) 2 (((F i) 2) + (s_up (F i) g))) 4), .int ((upd (F i) 2 (((F i) 2) + (s_up (F i) g))) 5), .int ((upd (F i) 2 (((F i) 2) + (s_up (F i) g))) 6)]) (Nat.le_of_ble_eq_true rfl) rfl dX7_dip_120 (fun H locs hO hS => ?_)
        have hO : mO G lo ad (mU (WS G ad (upd g 0 ((g 0) - ((((s_up (F i) g) * (8 + ((F i) 0))) * ((F i) 1)) / 10))) nf (va_up F i (upd (F i) 2 (((F i) 2) + (s_up (F i) g)))) f no O w R) (200 + i) (lfO (upd (upd (F i) 2 (((F i) 2) + (s_up (F i) g))) 3 (jmin 100 ((((upd (F i) 2 (((F i) 2) + (s_up (F i) g))) 3) + (g 1)) / 2))))) H := hO
        rw [WS_wFu (by assumption) hnf] at hO
        refine lv_aload_n hx hb dX7_dip_123 rfl (lv_at hl 2 rfl) ?_
        refine lv_dup hx hb dX7_dip_124 rfl ?_
        refine m_get inX6 hF hC hO (WS_Fu (i := i) (by assumption) hnf) rfl 6 (by decide) q_583 (v := .int ((upd (upd (F i) 2 (((F i) 2) + (s_up (F i) g))) 3 (jmin 100 ((((upd (F i) 2 (((F i) 2) + (s_up (F i) g))) 3) + (g 1)) / 2))) 6)) rfl dX7_dip_125 ?_
        refine lv_iconst (v := 1) hx hb dX7_dip_128 (by decide) ?_
        refine lv_iadd hx hb dX7_dip_129 ?_
        refine m_put (ty := .int) tyX6 tyX6_ok nmX6 inX6 hF hC hO hS (WS_Fu (i := i) (by assumption) hnf) rfl 6 (by decide) q_583 rfl (by decide +kernel) rfl rfl (fs' := [.int ((upd (upd (F i) 2 (((F i) 2) + (s_up (F i) g))) 3 (jmin 100 ((((upd (F i) 2 (((F i) 2) + (s_up (F i) g))) 3) + (g 1)) / 2))) 0), .int ((upd (upd (F i) 2 (((F i) 2) + (s_up (F i) g))) 3 (jmin 100 ((((upd (F i) 2 (((F i) 2) + (s_up (F i) g))) 3) + (g 1)) / 2))) 1), .int ((upd (upd (F i) 2 (((F i) 2) + (s_up (F i) g))) 3 (jmin 100 ((((upd (F i) 2 (((F i) 2) + (s_up (F i) g))) 3) + (g 1)) / 2))) 2), .int ((upd (upd (F i) 2 (((F i) 2) + (s_up (F i) g))) 3 (jmin 100 ((((upd (F i) 2 (((F i) 2) + (s_up (F i) g))) 3) + (g 1)) / 2))) 3), .int ((upd (upd (F i) 2 (((F i) 2) + (s_up (F i) g))) 3 (jmin 100 ((((upd (F i) 2 (((F i) 2) + (s_up (F i) g))) 3) + (g 1)) / 2))) 4), .int ((upd (upd (F i) 2 (((F i) 2) + (s_up (F i) g))) 3 (jmin 100 ((((upd (F i) 2 (((F i) 2) + (s_up (F i) g))) 3) + (g 1)) / 2))) 5), .int (((upd (upd (F i) 2 (((F i) 2) + (s_up (F i) g))) 3 (jmin 100 ((((upd (F i) 2 (((F i) 2) + (s_up (F i) g))) 3) + (g 1)) / 2))) 6) + 1)]) (Nat.le_of_ble_eq_true rfl) rfl dX7_dip_130 (fun H locs hO hS => ?_)
        have hO : mO G lo ad (mU (WS G ad (upd g 0 ((g 0) - ((((s_up (F i) g) * (8 + ((F i) 0))) * ((F i) 1)) / 10))) nf (va_up F i (upd (upd (F i) 2 (((F i) 2) + (s_up (F i) g))) 3 (jmin 100 ((((upd (F i) 2 (((F i) 2) + (s_up (F i) g))) 3) + (g 1)) / 2)))) f no O w R) (200 + i) (lfO (upd (upd (upd (F i) 2 (((F i) 2) + (s_up (F i) g))) 3 (jmin 100 ((((upd (F i) 2 (((F i) 2) + (s_up (F i) g))) 3) + (g 1)) / 2))) 6 (((upd (upd (F i) 2 (((F i) 2) + (s_up (F i) g))) 3 (jmin 100 ((((upd (F i) 2 (((F i) 2) + (s_up (F i) g))) 3) + (g 1)) / 2))) 6) + 1)))) H := hO
        rw [WS_wFu (by assumption) hnf] at hO
        refine lv_aload_n hx hb dX7_dip_133 rfl (lv_at hl 1 rfl) ?_
        refine lv_dup hx hb dX7_dip_134 rfl ?_
        refine m_get inX7 hF hC hO rfl rfl 7 (by decide) q_515 (v := .int (g 4)) rfl dX7_dip_135 ?_
        refine lv_iconst (v := 1) hx hb dX7_dip_138 (by decide) ?_
        refine lv_iadd hx hb dX7_dip_139 ?_
        refine m_put (ty := .int) tyX7 tyX7_ok nmX7 inX7 hF hC hO hS rfl rfl 7 (by decide) q_515 rfl (by decide +kernel) rfl rfl (fs' := [.int ((g 0) - ((((s_up (F i) g) * (8 + ((F i) 0))) * ((F i) 1)) / 10)), .int (g 1), .int (g 2), .ref (ad 51), .ref (ad 52), .ref (ad 57), .int (g 3), .int ((g 4) + 1), .int w]) (Nat.le_of_ble_eq_true rfl) rfl dX7_dip_140 (fun H locs hO hS => ?_)
        have hO : mO G lo ad (mU (WS G ad (upd g 0 ((g 0) - ((((s_up (F i) g) * (8 + ((F i) 0))) * ((F i) 1)) / 10))) nf (va_up F i (upd (upd (upd (F i) 2 (((F i) 2) + (s_up (F i) g))) 3 (jmin 100 ((((upd (F i) 2 (((F i) 2) + (s_up (F i) g))) 3) + (g 1)) / 2))) 6 (((upd (upd (F i) 2 (((F i) 2) + (s_up (F i) g))) 3 (jmin 100 ((((upd (F i) 2 (((F i) 2) + (s_up (F i) g))) 3) + (g 1)) / 2))) 6) + 1))) f no O w R) 50 (sO ad (upd (upd g 0 ((g 0) - ((((s_up (F i) g) * (8 + ((F i) 0))) * ((F i) 1)) / 10))) 4 ((g 4) + 1)) w)) H := hO
        rw [WS_w0] at hO
        rw [show ((upd (upd (upd (F i) 2 (((F i) 2) + (s_up (F i) g))) 3 (jmin 100 ((((upd (F i) 2 (((F i) 2) + (s_up (F i) g))) 3) + (g 1)) / 2))) 6 (((upd (upd (F i) 2 (((F i) 2) + (s_up (F i) g))) 3 (jmin 100 ((((upd (F i) 2 (((F i) 2) + (s_up (F i) g))) 3) + (g 1)) / 2))) 6) + 1)) : Nat → Int32) = p_dipF (F i) (g 1) from (sd_up (g := g) (Int32.not_lt.mpr c12)).2.1 (fun q => absurd q.2 (Int32.not_lt.mpr c85)), show ((upd (upd g 0 ((g 0) - ((((s_up (F i) g) * (8 + ((F i) 0))) * ((F i) 1)) / 10))) 4 ((g 4) + 1)) : Nat → Int32) = (upd (p_dipV (F i) g) 4 (p_dipV (F i) g 4 + 1)) from (sd_up (g := g) (Int32.not_lt.mpr c12)).2.2] at hO
        refine lv_aload_n hx hb dX7_dip_143 rfl (lv_at hl 1 rfl) ?_
        refine lv_aload_n hx hb dX7_dip_144 rfl (lv_at hl 2 rfl) ?_
        refine m_vV (As := [.ref (ad (200 + i))]) (rest := []) (n := 1) hF hC hO hS (k_X7_pass l G lo sa ad R (upd (p_dipV (F i) g) 4 (p_dipV (F i) g 4 + 1)) nf (va_up F i (p_dipF (F i) (g 1))) f no O w i qn hnf hno hi (FrV_up hFv (dip_FrV (hFv i hi) hgn hc).1) hOv (by show p_dipV (F i) g 3 = nI qn; rw [p_dipV_3]; exact hq) hqn) ok_X7_pass q_474 rfl rfl ⟨Nat.le_of_ble_eq_true rfl, Nat.le_of_ble_eq_true rfl⟩ rfl hl.1 rfl (Nat.le_of_ble_eq_true rfl) ⟨Nat.le_of_ble_eq_true rfl, Nat.le_of_ble_eq_true rfl⟩ dX7_dip_145 (fun R' H locs hp hO hS => ?_)
        have hR := hp
        rw [hR] at hO
        refine m_vret hF hr hlk hQ hO hS dX7_dip_148 ?_
        rfl
      · refine lv_aload_n hx hb dX7_dip_88 rfl (lv_at hl 2 rfl) ?_
        refine lv_iconst (v := 1) hx hb dX7_dip_89 (by decide) ?_
        refine m_put (ty := .boolean) tyX6 tyX6_ok nmX6 inX6 hF hC hO hS (WS_F (i := i) (by assumption) hnf) rfl 4 (by decide) q_578 rfl (by decide +kernel) rfl rfl (fs' := [.int ((F i) 0), .int ((F i) 1), .int ((F i) 2), .int ((F i) 3), .int 1, .int ((F i) 5), .int ((F i) 6)]) (Nat.le_of_ble_eq_true rfl) rfl dX7_dip_90 (fun H locs hO hS => ?_)
        have hO : mO G lo ad (mU (WS G ad (upd g 0 ((g 0) - ((((s_up (F i) g) * (8 + ((F i) 0))) * ((F i) 1)) / 10))) nf F f no O w R) (200 + i) (lfO (upd (F i) 4 1))) H := hO
        rw [WS_wF (by assumption) hnf] at hO
        refine lv_aload_n hx hb dX7_dip_93 rfl (lv_at hl 2 rfl) ?_
        refine lv_dup hx hb dX7_dip_94 rfl ?_
        refine m_get inX6 hF hC hO (WS_Fu (i := i) (by assumption) hnf) rfl 2 (by decide) q_573 (v := .int ((upd (F i) 4 1) 2)) rfl dX7_dip_95 ?_
        refine lv_iload_n hx hb dX7_dip_98 rfl (lv_at hl 0 rfl) ?_
        refine lv_iadd hx hb dX7_dip_99 ?_
        refine m_put (ty := .int) tyX6 tyX6_ok nmX6 inX6 hF hC hO hS (WS_Fu (i := i) (by assumption) hnf) rfl 2 (by decide) q_573 rfl (by decide +kernel) rfl rfl (fs' := [.int ((upd (F i) 4 1) 0), .int ((upd (F i) 4 1) 1), .int (((upd (F i) 4 1) 2) + (s_up (F i) g)), .int ((upd (F i) 4 1) 3), .int ((upd (F i) 4 1) 4), .int ((upd (F i) 4 1) 5), .int ((upd (F i) 4 1) 6)]) (Nat.le_of_ble_eq_true rfl) rfl dX7_dip_100 (fun H locs hO hS => ?_)
        have hO : mO G lo ad (mU (WS G ad (upd g 0 ((g 0) - ((((s_up (F i) g) * (8 + ((F i) 0))) * ((F i) 1)) / 10))) nf (va_up F i (upd (F i) 4 1)) f no O w R) (200 + i) (lfO (upd (upd (F i) 4 1) 2 (((upd (F i) 4 1) 2) + (s_up (F i) g))))) H := hO
        rw [WS_wFu (by assumption) hnf] at hO
        refine lv_aload_n hx hb dX7_dip_103 rfl (lv_at hl 2 rfl) ?_
        refine lv_bipush (v := 100) hx hb dX7_dip_104 (by decide) ?_
        refine lv_aload_n hx hb dX7_dip_106 rfl (lv_at hl 2 rfl) ?_
        refine m_get inX6 hF hC hO (WS_Fu (i := i) (by assumption) hnf) rfl 3 (by decide) q_575 (v := .int ((upd (upd (F i) 4 1) 2 (((upd (F i) 4 1) 2) + (s_up (F i) g))) 3)) rfl dX7_dip_107 ?_
        refine lv_aload_n hx hb dX7_dip_110 rfl (lv_at hl 1 rfl) ?_
        refine m_get inX7 hF hC hO rfl rfl 1 (by decide) q_503 (v := .int (g 1)) rfl dX7_dip_111 ?_
        refine lv_iadd hx hb dX7_dip_114 ?_
        refine lv_iconst (v := 2) hx hb dX7_dip_115 (by decide) ?_
        refine lv_idiv hx hb dX7_dip_116 (by decide) ?_
        refine m_min hF hl.1 q_473 q_246 q_14 q_247 (Nat.le_of_ble_eq_true rfl) (Nat.le_of_ble_eq_true rfl) ⟨Nat.le_of_ble_eq_true rfl, Nat.le_of_ble_eq_true rfl⟩ dX7_dip_117 ?_
        refine m_put (ty := .int) tyX6 tyX6_ok nmX6 inX6 hF hC hO hS (WS_Fu (i := i) (by assumption) hnf) rfl 3 (by decide) q_575 rfl (by decide +kernel) rfl rfl (fs' := [.int ((upd (upd (F i) 4 1) 2 (((upd (F i) 4 1) 2) + (s_up (F i) g))) 0), .int ((upd (upd (F i) 4 1) 2 (((upd (F i) 4 1) 2) + (s_up (F i) g))) 1), .int ((upd (upd (F i) 4 1) 2 (((upd (F i) 4 1) 2) + (s_up (F i) g))) 2), .int (jmin 100 ((((upd (upd (F i) 4 1) 2 (((upd (F i) 4 1) 2) + (s_up (F i) g))) 3) + (g 1)) / 2)), .int ((upd (upd (F i) 4 1) 2 (((upd (F i) 4 1) 2) + (s_up (F i) g))) 4), .int ((upd (upd (F i) 4 1) 2 (((upd (F i) 4 1) 2) + (s_up (F i) g))) 5), .int ((upd (upd (F i) 4 1) 2 (((upd (F i) 4 1) 2) + (s_up (F i) g))) 6)]) (Nat.le_of_ble_eq_true rfl) rfl dX7_dip_120 (fun H locs hO hS => ?_)
        have hO : mO G lo ad (mU (WS G ad (upd g 0 ((g 0) - ((((s_up (F i) g) * (8 + ((F i) 0))) * ((F i) 1)) / 10))) nf (va_up F i (upd (upd (F i) 4 1) 2 (((upd (F i) 4 1) 2) + (s_up (F i) g)))) f no O w R) (200 + i) (lfO (upd (upd (upd (F i) 4 1) 2 (((upd (F i) 4 1) 2) + (s_up (F i) g))) 3 (jmin 100 ((((upd (upd (F i) 4 1) 2 (((upd (F i) 4 1) 2) + (s_up (F i) g))) 3) + (g 1)) / 2))))) H := hO
        rw [WS_wFu (by assumption) hnf] at hO
        refine lv_aload_n hx hb dX7_dip_123 rfl (lv_at hl 2 rfl) ?_
        refine lv_dup hx hb dX7_dip_124 rfl ?_
        refine m_get inX6 hF hC hO (WS_Fu (i := i) (by assumption) hnf) rfl 6 (by decide) q_583 (v := .int ((upd (upd (upd (F i) 4 1) 2 (((upd (F i) 4 1) 2) + (s_up (F i) g))) 3 (jmin 100 ((((upd (upd (F i) 4 1) 2 (((upd (F i) 4 1) 2) + (s_up (F i) g))) 3) + (g 1)) / 2))) 6)) rfl dX7_dip_125 ?_
        refine lv_iconst (v := 1) hx hb dX7_dip_128 (by decide) ?_
        refine lv_iadd hx hb dX7_dip_129 ?_
        refine m_put (ty := .int) tyX6 tyX6_ok nmX6 inX6 hF hC hO hS (WS_Fu (i := i) (by assumption) hnf) rfl 6 (by decide) q_583 rfl (by decide +kernel) rfl rfl (fs' := [.int ((upd (upd (upd (F i) 4 1) 2 (((upd (F i) 4 1) 2) + (s_up (F i) g))) 3 (jmin 100 ((((upd (upd (F i) 4 1) 2 (((upd (F i) 4 1) 2) + (s_up (F i) g))) 3) + (g 1)) / 2))) 0), .int ((upd (upd (upd (F i) 4 1) 2 (((upd (F i) 4 1) 2) + (s_up (F i) g))) 3 (jmin 100 ((((upd (upd (F i) 4 1) 2 (((upd (F i) 4 1) 2) + (s_up (F i) g))) 3) + (g 1)) / 2))) 1), .int ((upd (upd (upd (F i) 4 1) 2 (((upd (F i) 4 1) 2) + (s_up (F i) g))) 3 (jmin 100 ((((upd (upd (F i) 4 1) 2 (((upd (F i) 4 1) 2) + (s_up (F i) g))) 3) + (g 1)) / 2))) 2), .int ((upd (upd (upd (F i) 4 1) 2 (((upd (F i) 4 1) 2) + (s_up (F i) g))) 3 (jmin 100 ((((upd (upd (F i) 4 1) 2 (((upd (F i) 4 1) 2) + (s_up (F i) g))) 3) + (g 1)) / 2))) 3), .int ((upd (upd (upd (F i) 4 1) 2 (((upd (F i) 4 1) 2) + (s_up (F i) g))) 3 (jmin 100 ((((upd (upd (F i) 4 1) 2 (((upd (F i) 4 1) 2) + (s_up (F i) g))) 3) + (g 1)) / 2))) 4), .int ((upd (upd (upd (F i) 4 1) 2 (((upd (F i) 4 1) 2) + (s_up (F i) g))) 3 (jmin 100 ((((upd (upd (F i) 4 1) 2 (((upd (F i) 4 1) 2) + (s_up (F i) g))) 3) + (g 1)) / 2))) 5), .int (((upd (upd (upd (F i) 4 1) 2 (((upd (F i) 4 1) 2) + (s_up (F i) g))) 3 (jmin 100 ((((upd (upd (F i) 4 1) 2 (((upd (F i) 4 1) 2) + (s_up (F i) g))) 3) + (g 1)) / 2))) 6) + 1)]) (Nat.le_of_ble_eq_true rfl) rfl dX7_dip_130 (fun H locs hO hS => ?_)
        have hO : mO G lo ad (mU (WS G ad (upd g 0 ((g 0) - ((((s_up (F i) g) * (8 + ((F i) 0))) * ((F i) 1)) / 10))) nf (va_up F i (upd (upd (upd (F i) 4 1) 2 (((upd (F i) 4 1) 2) + (s_up (F i) g))) 3 (jmin 100 ((((upd (upd (F i) 4 1) 2 (((upd (F i) 4 1) 2) + (s_up (F i) g))) 3) + (g 1)) / 2)))) f no O w R) (200 + i) (lfO (upd (upd (upd (upd (F i) 4 1) 2 (((upd (F i) 4 1) 2) + (s_up (F i) g))) 3 (jmin 100 ((((upd (upd (F i) 4 1) 2 (((upd (F i) 4 1) 2) + (s_up (F i) g))) 3) + (g 1)) / 2))) 6 (((upd (upd (upd (F i) 4 1) 2 (((upd (F i) 4 1) 2) + (s_up (F i) g))) 3 (jmin 100 ((((upd (upd (F i) 4 1) 2 (((upd (F i) 4 1) 2) + (s_up (F i) g))) 3) + (g 1)) / 2))) 6) + 1)))) H := hO
        rw [WS_wFu (by assumption) hnf] at hO
        refine lv_aload_n hx hb dX7_dip_133 rfl (lv_at hl 1 rfl) ?_
        refine lv_dup hx hb dX7_dip_134 rfl ?_
        refine m_get inX7 hF hC hO rfl rfl 7 (by decide) q_515 (v := .int (g 4)) rfl dX7_dip_135 ?_
        refine lv_iconst (v := 1) hx hb dX7_dip_138 (by decide) ?_
        refine lv_iadd hx hb dX7_dip_139 ?_
        refine m_put (ty := .int) tyX7 tyX7_ok nmX7 inX7 hF hC hO hS rfl rfl 7 (by decide) q_515 rfl (by decide +kernel) rfl rfl (fs' := [.int ((g 0) - ((((s_up (F i) g) * (8 + ((F i) 0))) * ((F i) 1)) / 10)), .int (g 1), .int (g 2), .ref (ad 51), .ref (ad 52), .ref (ad 57), .int (g 3), .int ((g 4) + 1), .int w]) (Nat.le_of_ble_eq_true rfl) rfl dX7_dip_140 (fun H locs hO hS => ?_)
        have hO : mO G lo ad (mU (WS G ad (upd g 0 ((g 0) - ((((s_up (F i) g) * (8 + ((F i) 0))) * ((F i) 1)) / 10))) nf (va_up F i (upd (upd (upd (upd (F i) 4 1) 2 (((upd (F i) 4 1) 2) + (s_up (F i) g))) 3 (jmin 100 ((((upd (upd (F i) 4 1) 2 (((upd (F i) 4 1) 2) + (s_up (F i) g))) 3) + (g 1)) / 2))) 6 (((upd (upd (upd (F i) 4 1) 2 (((upd (F i) 4 1) 2) + (s_up (F i) g))) 3 (jmin 100 ((((upd (upd (F i) 4 1) 2 (((upd (F i) 4 1) 2) + (s_up (F i) g))) 3) + (g 1)) / 2))) 6) + 1))) f no O w R) 50 (sO ad (upd (upd g 0 ((g 0) - ((((s_up (F i) g) * (8 + ((F i) 0))) * ((F i) 1)) / 10))) 4 ((g 4) + 1)) w)) H := hO
        rw [WS_w0] at hO
        rw [show ((upd (upd (upd (upd (F i) 4 1) 2 (((upd (F i) 4 1) 2) + (s_up (F i) g))) 3 (jmin 100 ((((upd (upd (F i) 4 1) 2 (((upd (F i) 4 1) 2) + (s_up (F i) g))) 3) + (g 1)) / 2))) 6 (((upd (upd (upd (F i) 4 1) 2 (((upd (F i) 4 1) 2) + (s_up (F i) g))) 3 (jmin 100 ((((upd (upd (F i) 4 1) 2 (((upd (F i) 4 1) 2) + (s_up (F i) g))) 3) + (g 1)) / 2))) 6) + 1)) : Nat → Int32) = p_dipF (F i) (g 1) from (sd_up (g := g) (Int32.not_lt.mpr c12)).1 ⟨Int32.not_le.mp c76, Int32.not_le.mp c85⟩ (fun q => c76 (by rw [q]; decide)), show ((upd (upd g 0 ((g 0) - ((((s_up (F i) g) * (8 + ((F i) 0))) * ((F i) 1)) / 10))) 4 ((g 4) + 1)) : Nat → Int32) = (upd (p_dipV (F i) g) 4 (p_dipV (F i) g 4 + 1)) from (sd_up (g := g) (Int32.not_lt.mpr c12)).2.2] at hO
        refine lv_aload_n hx hb dX7_dip_143 rfl (lv_at hl 1 rfl) ?_
        refine lv_aload_n hx hb dX7_dip_144 rfl (lv_at hl 2 rfl) ?_
        refine m_vV (As := [.ref (ad (200 + i))]) (rest := []) (n := 1) hF hC hO hS (k_X7_pass l G lo sa ad R (upd (p_dipV (F i) g) 4 (p_dipV (F i) g 4 + 1)) nf (va_up F i (p_dipF (F i) (g 1))) f no O w i qn hnf hno hi (FrV_up hFv (dip_FrV (hFv i hi) hgn hc).1) hOv (by show p_dipV (F i) g 3 = nI qn; rw [p_dipV_3]; exact hq) hqn) ok_X7_pass q_474 rfl rfl ⟨Nat.le_of_ble_eq_true rfl, Nat.le_of_ble_eq_true rfl⟩ rfl hl.1 rfl (Nat.le_of_ble_eq_true rfl) ⟨Nat.le_of_ble_eq_true rfl, Nat.le_of_ble_eq_true rfl⟩ dX7_dip_145 (fun R' H locs hp hO hS => ?_)
        have hR := hp
        rw [hR] at hO
        refine m_vret hF hr hlk hQ hO hS dX7_dip_148 ?_
        rfl
  · refine lv_aload_n hx hb dX7_dip_15 rfl (lv_at hl 2 rfl) ?_
    refine lv_dup hx hb dX7_dip_16 rfl ?_
    refine m_get inX6 hF hC hO (WS_F (i := i) (by assumption) hnf) rfl 2 (by decide) q_573 (v := .int ((F i) 2)) rfl dX7_dip_17 ?_
    refine lv_iload_n hx hb dX7_dip_20 rfl (lv_at hl 0 rfl) ?_
    refine lv_iadd hx hb dX7_dip_21 ?_
    refine m_put (ty := .int) tyX6 tyX6_ok nmX6 inX6 hF hC hO hS (WS_F (i := i) (by assumption) hnf) rfl 2 (by decide) q_573 rfl (by decide +kernel) rfl rfl (fs' := [.int ((F i) 0), .int ((F i) 1), .int (((F i) 2) + (s_up (F i) g)), .int ((F i) 3), .int ((F i) 4), .int ((F i) 5), .int ((F i) 6)]) (Nat.le_of_ble_eq_true rfl) rfl dX7_dip_22 (fun H locs hO hS => ?_)
    have hO : mO G lo ad (mU (WS G ad g nf F f no O w R) (200 + i) (lfO (upd (F i) 2 (((F i) 2) + (s_up (F i) g))))) H := hO
    rw [WS_wF (by assumption) hnf] at hO
    refine lv_aload_n hx hb dX7_dip_25 rfl (lv_at hl 2 rfl) ?_
    refine lv_bipush (v := 100) hx hb dX7_dip_26 (by decide) ?_
    refine m_put (ty := .int) tyX6 tyX6_ok nmX6 inX6 hF hC hO hS (WS_Fu (i := i) (by assumption) hnf) rfl 3 (by decide) q_575 rfl (by decide +kernel) rfl rfl (fs' := [.int ((upd (F i) 2 (((F i) 2) + (s_up (F i) g))) 0), .int ((upd (F i) 2 (((F i) 2) + (s_up (F i) g))) 1), .int ((upd (F i) 2 (((F i) 2) + (s_up (F i) g))) 2), .int 100, .int ((upd (F i) 2 (((F i) 2) + (s_up (F i) g))) 4), .int ((upd (F i) 2 (((F i) 2) + (s_up (F i) g))) 5), .int ((upd (F i) 2 (((F i) 2) + (s_up (F i) g))) 6)]) (Nat.le_of_ble_eq_true rfl) rfl dX7_dip_28 (fun H locs hO hS => ?_)
    have hO : mO G lo ad (mU (WS G ad g nf (va_up F i (upd (F i) 2 (((F i) 2) + (s_up (F i) g)))) f no O w R) (200 + i) (lfO (upd (upd (F i) 2 (((F i) 2) + (s_up (F i) g))) 3 100))) H := hO
    rw [WS_wFu (by assumption) hnf] at hO
    refine lv_aload_n hx hb dX7_dip_31 rfl (lv_at hl 2 rfl) ?_
    refine m_get inX6 hF hC hO (WS_Fu (i := i) (by assumption) hnf) rfl 2 (by decide) q_573 (v := .int ((upd (upd (F i) 2 (((F i) 2) + (s_up (F i) g))) 3 100) 2)) rfl dX7_dip_32 ?_
    refine lv_if_ne (tgt := 123) hx hb dX7_dip_35 (by decide) (fun c35 => ?_) (fun c35 => ?_)
    · refine lv_aload_n hx hb dX7_dip_123 rfl (lv_at hl 2 rfl) ?_
      refine lv_dup hx hb dX7_dip_124 rfl ?_
      refine m_get inX6 hF hC hO (WS_Fu (i := i) (by assumption) hnf) rfl 6 (by decide) q_583 (v := .int ((upd (upd (F i) 2 (((F i) 2) + (s_up (F i) g))) 3 100) 6)) rfl dX7_dip_125 ?_
      refine lv_iconst (v := 1) hx hb dX7_dip_128 (by decide) ?_
      refine lv_iadd hx hb dX7_dip_129 ?_
      refine m_put (ty := .int) tyX6 tyX6_ok nmX6 inX6 hF hC hO hS (WS_Fu (i := i) (by assumption) hnf) rfl 6 (by decide) q_583 rfl (by decide +kernel) rfl rfl (fs' := [.int ((upd (upd (F i) 2 (((F i) 2) + (s_up (F i) g))) 3 100) 0), .int ((upd (upd (F i) 2 (((F i) 2) + (s_up (F i) g))) 3 100) 1), .int ((upd (upd (F i) 2 (((F i) 2) + (s_up (F i) g))) 3 100) 2), .int ((upd (upd (F i) 2 (((F i) 2) + (s_up (F i) g))) 3 100) 3), .int ((upd (upd (F i) 2 (((F i) 2) + (s_up (F i) g))) 3 100) 4), .int ((upd (upd (F i) 2 (((F i) 2) + (s_up (F i) g))) 3 100) 5), .int (((upd (upd (F i) 2 (((F i) 2) + (s_up (F i) g))) 3 100) 6) + 1)]) (Nat.le_of_ble_eq_true rfl) rfl dX7_dip_130 (fun H locs hO hS => ?_)
      have hO : mO G lo ad (mU (WS G ad g nf (va_up F i (upd (upd (F i) 2 (((F i) 2) + (s_up (F i) g))) 3 100)) f no O w R) (200 + i) (lfO (upd (upd (upd (F i) 2 (((F i) 2) + (s_up (F i) g))) 3 100) 6 (((upd (upd (F i) 2 (((F i) 2) + (s_up (F i) g))) 3 100) 6) + 1)))) H := hO
      rw [WS_wFu (by assumption) hnf] at hO
      refine lv_aload_n hx hb dX7_dip_133 rfl (lv_at hl 1 rfl) ?_
      refine lv_dup hx hb dX7_dip_134 rfl ?_
      refine m_get inX7 hF hC hO rfl rfl 7 (by decide) q_515 (v := .int (g 4)) rfl dX7_dip_135 ?_
      refine lv_iconst (v := 1) hx hb dX7_dip_138 (by decide) ?_
      refine lv_iadd hx hb dX7_dip_139 ?_
      refine m_put (ty := .int) tyX7 tyX7_ok nmX7 inX7 hF hC hO hS rfl rfl 7 (by decide) q_515 rfl (by decide +kernel) rfl rfl (fs' := [.int (g 0), .int (g 1), .int (g 2), .ref (ad 51), .ref (ad 52), .ref (ad 57), .int (g 3), .int ((g 4) + 1), .int w]) (Nat.le_of_ble_eq_true rfl) rfl dX7_dip_140 (fun H locs hO hS => ?_)
      have hO : mO G lo ad (mU (WS G ad g nf (va_up F i (upd (upd (upd (F i) 2 (((F i) 2) + (s_up (F i) g))) 3 100) 6 (((upd (upd (F i) 2 (((F i) 2) + (s_up (F i) g))) 3 100) 6) + 1))) f no O w R) 50 (sO ad (upd g 4 ((g 4) + 1)) w)) H := hO
      rw [WS_w0] at hO
      rw [show ((upd (upd (upd (F i) 2 (((F i) 2) + (s_up (F i) g))) 3 100) 6 (((upd (upd (F i) 2 (((F i) 2) + (s_up (F i) g))) 3 100) 6) + 1)) : Nat → Int32) = p_dipF (F i) (g 1) from (sd_melt (g := g) (Int32.not_le.mp c12)).2.1 c35, show ((upd g 4 ((g 4) + 1)) : Nat → Int32) = (upd (p_dipV (F i) g) 4 (p_dipV (F i) g 4 + 1)) from (sd_melt (g := g) (Int32.not_le.mp c12)).2.2] at hO
      refine lv_aload_n hx hb dX7_dip_143 rfl (lv_at hl 1 rfl) ?_
      refine lv_aload_n hx hb dX7_dip_144 rfl (lv_at hl 2 rfl) ?_
      refine m_vV (As := [.ref (ad (200 + i))]) (rest := []) (n := 1) hF hC hO hS (k_X7_pass l G lo sa ad R (upd (p_dipV (F i) g) 4 (p_dipV (F i) g 4 + 1)) nf (va_up F i (p_dipF (F i) (g 1))) f no O w i qn hnf hno hi (FrV_up hFv (dip_FrV (hFv i hi) hgn hc).1) hOv (by show p_dipV (F i) g 3 = nI qn; rw [p_dipV_3]; exact hq) hqn) ok_X7_pass q_474 rfl rfl ⟨Nat.le_of_ble_eq_true rfl, Nat.le_of_ble_eq_true rfl⟩ rfl hl.1 rfl (Nat.le_of_ble_eq_true rfl) ⟨Nat.le_of_ble_eq_true rfl, Nat.le_of_ble_eq_true rfl⟩ dX7_dip_145 (fun R' H locs hp hO hS => ?_)
      have hR := hp
      rw [hR] at hO
      refine m_vret hF hr hlk hQ hO hS dX7_dip_148 ?_
      rfl
    · refine lv_aload_n hx hb dX7_dip_38 rfl (lv_at hl 2 rfl) ?_
      refine lv_iconst (v := 0) hx hb dX7_dip_39 (by decide) ?_
      refine m_put (ty := .boolean) tyX6 tyX6_ok nmX6 inX6 hF hC hO hS (WS_Fu (i := i) (by assumption) hnf) rfl 4 (by decide) q_578 rfl (by decide +kernel) rfl rfl (fs' := [.int ((upd (upd (F i) 2 (((F i) 2) + (s_up (F i) g))) 3 100) 0), .int ((upd (upd (F i) 2 (((F i) 2) + (s_up (F i) g))) 3 100) 1), .int ((upd (upd (F i) 2 (((F i) 2) + (s_up (F i) g))) 3 100) 2), .int ((upd (upd (F i) 2 (((F i) 2) + (s_up (F i) g))) 3 100) 3), .int 0, .int ((upd (upd (F i) 2 (((F i) 2) + (s_up (F i) g))) 3 100) 5), .int ((upd (upd (F i) 2 (((F i) 2) + (s_up (F i) g))) 3 100) 6)]) (Nat.le_of_ble_eq_true rfl) rfl dX7_dip_40 (fun H locs hO hS => ?_)
      have hO : mO G lo ad (mU (WS G ad g nf (va_up F i (upd (upd (F i) 2 (((F i) 2) + (s_up (F i) g))) 3 100)) f no O w R) (200 + i) (lfO (upd (upd (upd (F i) 2 (((F i) 2) + (s_up (F i) g))) 3 100) 4 0))) H := hO
      rw [WS_wFu (by assumption) hnf] at hO
      refine lv_goto (tgt := 123) hx hb dX7_dip_43 (by decide) ?_
      refine lv_aload_n hx hb dX7_dip_123 rfl (lv_at hl 2 rfl) ?_
      refine lv_dup hx hb dX7_dip_124 rfl ?_
      refine m_get inX6 hF hC hO (WS_Fu (i := i) (by assumption) hnf) rfl 6 (by decide) q_583 (v := .int ((upd (upd (upd (F i) 2 (((F i) 2) + (s_up (F i) g))) 3 100) 4 0) 6)) rfl dX7_dip_125 ?_
      refine lv_iconst (v := 1) hx hb dX7_dip_128 (by decide) ?_
      refine lv_iadd hx hb dX7_dip_129 ?_
      refine m_put (ty := .int) tyX6 tyX6_ok nmX6 inX6 hF hC hO hS (WS_Fu (i := i) (by assumption) hnf) rfl 6 (by decide) q_583 rfl (by decide +kernel) rfl rfl (fs' := [.int ((upd (upd (upd (F i) 2 (((F i) 2) + (s_up (F i) g))) 3 100) 4 0) 0), .int ((upd (upd (upd (F i) 2 (((F i) 2) + (s_up (F i) g))) 3 100) 4 0) 1), .int ((upd (upd (upd (F i) 2 (((F i) 2) + (s_up (F i) g))) 3 100) 4 0) 2), .int ((upd (upd (upd (F i) 2 (((F i) 2) + (s_up (F i) g))) 3 100) 4 0) 3), .int ((upd (upd (upd (F i) 2 (((F i) 2) + (s_up (F i) g))) 3 100) 4 0) 4), .int ((upd (upd (upd (F i) 2 (((F i) 2) + (s_up (F i) g))) 3 100) 4 0) 5), .int (((upd (upd (upd (F i) 2 (((F i) 2) + (s_up (F i) g))) 3 100) 4 0) 6) + 1)]) (Nat.le_of_ble_eq_true rfl) rfl dX7_dip_130 (fun H locs hO hS => ?_)
      have hO : mO G lo ad (mU (WS G ad g nf (va_up F i (upd (upd (upd (F i) 2 (((F i) 2) + (s_up (F i) g))) 3 100) 4 0)) f no O w R) (200 + i) (lfO (upd (upd (upd (upd (F i) 2 (((F i) 2) + (s_up (F i) g))) 3 100) 4 0) 6 (((upd (upd (upd (F i) 2 (((F i) 2) + (s_up (F i) g))) 3 100) 4 0) 6) + 1)))) H := hO
      rw [WS_wFu (by assumption) hnf] at hO
      refine lv_aload_n hx hb dX7_dip_133 rfl (lv_at hl 1 rfl) ?_
      refine lv_dup hx hb dX7_dip_134 rfl ?_
      refine m_get inX7 hF hC hO rfl rfl 7 (by decide) q_515 (v := .int (g 4)) rfl dX7_dip_135 ?_
      refine lv_iconst (v := 1) hx hb dX7_dip_138 (by decide) ?_
      refine lv_iadd hx hb dX7_dip_139 ?_
      refine m_put (ty := .int) tyX7 tyX7_ok nmX7 inX7 hF hC hO hS rfl rfl 7 (by decide) q_515 rfl (by decide +kernel) rfl rfl (fs' := [.int (g 0), .int (g 1), .int (g 2), .ref (ad 51), .ref (ad 52), .ref (ad 57), .int (g 3), .int ((g 4) + 1), .int w]) (Nat.le_of_ble_eq_true rfl) rfl dX7_dip_140 (fun H locs hO hS => ?_)
      have hO : mO G lo ad (mU (WS G ad g nf (va_up F i (upd (upd (upd (upd (F i) 2 (((F i) 2) + (s_up (F i) g))) 3 100) 4 0) 6 (((upd (upd (upd (F i) 2 (((F i) 2) + (s_up (F i) g))) 3 100) 4 0) 6) + 1))) f no O w R) 50 (sO ad (upd g 4 ((g 4) + 1)) w)) H := hO
      rw [WS_w0] at hO
      rw [show ((upd (upd (upd (upd (F i) 2 (((F i) 2) + (s_up (F i) g))) 3 100) 4 0) 6 (((upd (upd (upd (F i) 2 (((F i) 2) + (s_up (F i) g))) 3 100) 4 0) 6) + 1)) : Nat → Int32) = p_dipF (F i) (g 1) from (sd_melt (g := g) (Int32.not_le.mp c12)).1 c35, show ((upd g 4 ((g 4) + 1)) : Nat → Int32) = (upd (p_dipV (F i) g) 4 (p_dipV (F i) g 4 + 1)) from (sd_melt (g := g) (Int32.not_le.mp c12)).2.2] at hO
      refine lv_aload_n hx hb dX7_dip_143 rfl (lv_at hl 1 rfl) ?_
      refine lv_aload_n hx hb dX7_dip_144 rfl (lv_at hl 2 rfl) ?_
      refine m_vV (As := [.ref (ad (200 + i))]) (rest := []) (n := 1) hF hC hO hS (k_X7_pass l G lo sa ad R (upd (p_dipV (F i) g) 4 (p_dipV (F i) g 4 + 1)) nf (va_up F i (p_dipF (F i) (g 1))) f no O w i qn hnf hno hi (FrV_up hFv (dip_FrV (hFv i hi) hgn hc).1) hOv (by show p_dipV (F i) g 3 = nI qn; rw [p_dipV_3]; exact hq) hqn) ok_X7_pass q_474 rfl rfl ⟨Nat.le_of_ble_eq_true rfl, Nat.le_of_ble_eq_true rfl⟩ rfl hl.1 rfl (Nat.le_of_ble_eq_true rfl) ⟨Nat.le_of_ble_eq_true rfl, Nat.le_of_ble_eq_true rfl⟩ dX7_dip_145 (fun R' H locs hp hO hS => ?_)
      have hR := hp
      rw [hR] at hO
      refine m_vret hF hr hlk hQ hO hS dX7_dip_148 ?_
      rfl
theorem ok_X6_init : mOC yX6_init cX6_init 1 0 := ⟨q_564, q_12, q_565, by decide +kernel, rfl⟩
set_option maxHeartbeats 400000 in
set_option maxRecDepth 100000 in
theorem k_X6_init (l : Launch) (G : mG) (lo : Nat) (sa : mSc) (ad : Nat → Nat) (R : mM) (r : Nat) (φ : Nat → Int32) (h0 : R r = some (lfO φ)) : mV l yX6_init cX6_init 1 1 20 G lo sa ad R [.ref (ad r)] (fun R' => R' = (mU R r (lfO (upd φ 5 (-1))))) := by
  refine mV_ofI (by decide) (Nat.le_of_ble_eq_true rfl) ?_
  intro p e s m args below meth c hF hr hlk hin hC ls hl hO hS Q hQ
  have hx := hF.1
  have hb := hF.2.1
  have hl : lv_has ls 1 [(0, .ref (ad r))] := hl
  have hO : mO G lo ad (mU R r (lfO φ)) s.heap := by
    rw [mU_id h0]
    exact hO
  refine lv_aload_n hx hb dX6_init_0 rfl (lv_at hl 0 rfl) ?_
  refine m_oini hF q_566 hl.1 dX6_init_1 ⟨Nat.le_of_ble_eq_true rfl, Nat.le_of_ble_eq_true rfl⟩ (Nat.le_of_ble_eq_true rfl) ?_
  refine lv_aload_n hx hb dX6_init_4 rfl (lv_at hl 0 rfl) ?_
  refine lv_iconst (v := -1) hx hb dX6_init_5 (by decide) ?_
  refine m_put (ty := .int) tyX6 tyX6_ok nmX6 inX6 hF hC hO hS (mU_self) rfl 5 (by decide) q_579 rfl (by decide +kernel) rfl rfl (fs' := [.int (φ 0), .int (φ 1), .int (φ 2), .int (φ 3), .int (φ 4), .int (-1), .int (φ 6)]) (Nat.le_of_ble_eq_true rfl) rfl dX6_init_6 (fun H locs hO hS => ?_)
  have hO : mO G lo ad (mU (mU R r (lfO φ)) r (lfO (upd φ 5 (-1)))) H := hO
  rw [mU_mU] at hO
  refine m_vret hF hr hlk hQ hO hS dX6_init_9 ?_
  rfl
theorem ok_X7_frame : mOK RX7 yX7_frame cX7_frame 5 none 2 := ⟨q_559, q_560, q_6, q_561, by decide +kernel⟩
set_option maxHeartbeats 400000 in
set_option maxRecDepth 100000 in
theorem k_X7_frame (l : Launch) (G : mG) (lo : Nat) (sa : mSc) (ad : Nat → Nat) (R : mM) (g : Nat → Int32) (nf : Nat) (F : Nat → Nat → Int32) (f : Nat → Int32) (no : Nat) (O : Nat → Nat → Int32) (w : Int32) (k y : Int32) (hnf : nf ≤ 12) (hno : no ≤ 20) (hlt : nf < 12) (hz : R 58 = none) : nV' l yX7_frame cX7_frame 5 2 40 2 20 G lo sa ad (WS G ad g nf F f no O w R) [.ref (ad 50), .int k, .int y] (fun u' => (∀ x, x ≠ 51 → x ≠ 58 → x ≠ 200 + nf → ad x = u'.1 x) ∧ u'.2 = WS G u'.1 g (nf + 1) (va_up F nf (N_F k y)) f no O w R) := by
  refine nV_of' (by decide) (Nat.le_of_ble_eq_true rfl) ?_
  intro p e s m args below meth c hF hr hlk hC ls hl hO hS Q hQ
  have hx := hF.1
  have hb := hF.2.1
  have hl : lv_has ls 5 [(0, .ref (ad 50)), (1, .int k), (2, .int y)] := hl
  refine lv_aload_n hx hb dX7_frame_0 rfl (lv_at hl 0 rfl) ?_
  refine m_get inX7 hF hC hO (rfl) rfl 3 (by decide) q_507 (v := .ref (ad 51)) rfl dX7_frame_1 ?_
  refine m_alen 2 hF hC hO (rfl) rfl (v := (nI nf)) rfl dX7_frame_4 ?_
  refine lv_iconst (v := 1) hx hb dX7_frame_5 (by decide) ?_
  refine lv_iadd hx hb dX7_frame_6 ?_
  rw [show nI nf + 1 = nI (nf + 1) from nI_1 nf]
  refine m_newq (C := RX6) (k := 2) (r := 58) (N := nf + 1) hF hC hO hS (WS_at (by omega) hz) q_496 hC.2.2.1.2 rfl (nI_nneg (by omega)) (nI_clamp (by omega)) (by omega) ⟨(by show 0 + 1 ≤ 2; omega), (by show 0 + (nf + 1) ≤ 20; omega)⟩ dX7_frame_7 (fun ad1 H had1 hO hS => ?_)
  refine W.widen (k := 1) (n := 13) (by omega) (by omega) ?_
  rw [WS_ad (ad1 := ad1) (fun x hx => had1 x (by omega))] at hO
  rw [had1 50 (by decide)] at hl
  refine lv_astore_n (lv' := [(3, .ref (ad1 58)), (0, .ref (ad1 50)), (1, .int k), (2, .int y)]) hx hb dX7_frame_10 rfl hl (by decide) rfl (fun ls hl => ?_)
  refine lv_iconst (v := 0) hx hb dX7_frame_11 (by decide) ?_
  refine lv_istore (lv' := [(4, .int 0), (3, .ref (ad1 58)), (0, .ref (ad1 50)), (1, .int k), (2, .int y)]) hx hb dX7_frame_12 hl (by decide) rfl (fun ls hl => ?_)
  have L14 : ∀ (n : Nat) (i : Nat) (H : Heap) (locs : List Loc) (ls : Array Slot), nf - i < n → i ≤ nf → lv_has ls 5 [(0, .ref (ad1 50)), (1, .int k), (2, .int y), (3, .ref (ad1 58)), (4, .int (nI i))] → mO G lo ad1 (mU (WS G ad1 g nf F f no O w R) 58 (.inl (G.2 2, (nf + 1), .inr (.inr (.inr (.inr (adF ad1 200 i))))))) H → va_S (mA lo) s.heap H locs → W p l e (nRm 2 40 2 20) s m args below meth c H locs 1 13 Q (F0 m 14 ls []) := by
    intro n
    induction n with
    | zero => intro i H locs ls hn; exact absurd hn (Nat.not_lt_zero _)
    | succ n ih14 =>
      intro i H locs ls hn14 hi hl hO hS
      refine lv_iload hx hb dX7_frame_14 (lv_at hl 4 rfl) ?_
      refine lv_aload_n hx hb dX7_frame_16 rfl (lv_at hl 0 rfl) ?_
      refine m_get inX7 hF hC hO ((mU_ne (by decide : (50 : Nat) ≠ 58)).trans (rfl)) rfl 3 (by decide) q_507 (v := .ref (ad1 51)) rfl dX7_frame_17 ?_
      refine m_alen 2 hF hC hO ((mU_ne (by decide : (51 : Nat) ≠ 58)).trans (rfl)) rfl (v := (nI nf)) rfl dX7_frame_20 ?_
      refine lv_icmp_ge (tgt := 41) hx hb dX7_frame_21 (by decide) (fun c21 => ?_) (fun c21 => ?_)
      · have e9 : i = nf := Nat.le_antisymm hi (nI_E (a := nf) (b := i) (by omega) (by omega) c21)
        rw [e9] at hO
        obtain ⟨zf, hzf⟩ : ∃ z, adF ad1 200 nf = z := ⟨_, rfl⟩
        have hO : mO G lo ad1 (mU (WS G ad1 g nf F f no O w R) 58 (.inl (G.2 2, (nf + 1), .inr (.inr (.inr (.inr zf)))))) H := by rw [← hzf]; exact hO
        refine m_new (ci := 6) (r := (200 + nf)) (fs := [.int 0, .int 0, .int 0, .int 0, .int 0, .int 0, .int 0]) tyX6 tyX6_ok inX6 hF hC hO hS ((mU_ne (by omega : (200 + nf) ≠ 58)).trans ((WS_Fn (by omega) (by omega)))) q_496 q_562 q_12 rfl (by decide) ⟨Nat.le_of_ble_eq_true rfl, Nat.le_of_ble_eq_true rfl⟩ dX7_frame_41 (fun ad2 H had2 hO hS => ?_)
        rw [WS_ad (ad1 := ad2) (fun x hx => had2 x (by omega))] at hO
        try simp only [had2 50 (by omega), had2 51 (by omega), had2 52 (by omega), had2 57 (by omega), had2 58 (by omega)] at hO
        try simp only [had2 50 (by omega), had2 51 (by omega), had2 52 (by omega), had2 57 (by omega), had2 58 (by omega)] at hl
        try simp only [had2 50 (by omega), had2 51 (by omega), had2 52 (by omega), had2 57 (by omega), had2 58 (by omega)]
        have hO : mO G lo ad2 (mU (mU (WS G ad2 g nf F f no O w R) 58 (.inl (G.2 2, (nf + 1), .inr (.inr (.inr (.inr zf)))))) (200 + nf) (lfO (fun _ => 0))) H := hO
        have hzf2 : zf = adF ad2 200 nf := hzf.symm.trans (adF_ad (fun x hx => had2 x (by omega)))
        refine lv_dup hx hb dX7_frame_44 rfl ?_
        refine m_iVH (As := []) (rest := [.ref (ad2 (200 + nf))]) (n := 0) hF hC hO hS (k_X6_init l G lo sa ad2 _ (200 + nf) (fun _ => 0) (mU_self)) ok_X6_init hC.2.2.2.2.1.2 ⟨Nat.le_of_ble_eq_true rfl, Nat.le_of_ble_eq_true rfl⟩ rfl hl.1 rfl (Nat.le_of_ble_eq_true rfl) ⟨Nat.le_of_ble_eq_true rfl, Nat.le_of_ble_eq_true rfl⟩ dX7_frame_45 (fun R' H locs hp hO hS => ?_)
        have hR := hp
        rw [hR] at hO
        have hO : mO G lo ad2 (mU (mU (mU (WS G ad2 g nf F f no O w R) 58 (.inl (G.2 2, (nf + 1), .inr (.inr (.inr (.inr zf)))))) (200 + nf) (lfO (fun _ => 0))) (200 + nf) (lfO (upd (fun _ => 0) 5 (-1)))) H := hO
        rw [mU_mU] at hO
        refine lv_astore (lv' := [(4, .ref (ad2 (200 + nf))), (0, .ref (ad2 50)), (1, .int k), (2, .int y), (3, .ref (ad2 58))]) hx hb dX7_frame_48 hl (by decide) rfl (fun ls hl => ?_)
        refine lv_aload hx hb dX7_frame_50 (lv_at hl 0 rfl) ?_
        refine lv_iload_n hx hb dX7_frame_52 rfl (lv_at hl 2 rfl) ?_
        refine m_put (ty := .int) tyX6 tyX6_ok nmX6 inX6 hF hC hO hS (mU_self) rfl 0 (by decide) q_567 rfl (by decide +kernel) rfl rfl (fs' := [.int k, .int ((upd (fun _ => 0) 5 (-1)) 1), .int ((upd (fun _ => 0) 5 (-1)) 2), .int ((upd (fun _ => 0) 5 (-1)) 3), .int ((upd (fun _ => 0) 5 (-1)) 4), .int ((upd (fun _ => 0) 5 (-1)) 5), .int ((upd (fun _ => 0) 5 (-1)) 6)]) (Nat.le_of_ble_eq_true rfl) rfl dX7_frame_53 (fun H locs hO hS => ?_)
        have hO : mO G lo ad2 (mU (mU (mU (WS G ad2 g nf F f no O w R) 58 (.inl (G.2 2, (nf + 1), .inr (.inr (.inr (.inr zf)))))) (200 + nf) (lfO (upd (fun _ => 0) 5 (-1)))) (200 + nf) (lfO (upd (upd (fun _ => 0) 5 (-1)) 0 k))) H := hO
        rw [mU_mU] at hO
        refine lv_aload hx hb dX7_frame_56 (lv_at hl 0 rfl) ?_
        refine lv_iload_n hx hb dX7_frame_58 rfl (lv_at hl 3 rfl) ?_
        refine m_put (ty := .int) tyX6 tyX6_ok nmX6 inX6 hF hC hO hS (mU_self) rfl 1 (by decide) q_569 rfl (by decide +kernel) rfl rfl (fs' := [.int k, .int y, .int ((upd (fun _ => 0) 5 (-1)) 2), .int ((upd (fun _ => 0) 5 (-1)) 3), .int ((upd (fun _ => 0) 5 (-1)) 4), .int ((upd (fun _ => 0) 5 (-1)) 5), .int ((upd (fun _ => 0) 5 (-1)) 6)]) (Nat.le_of_ble_eq_true rfl) rfl dX7_frame_59 (fun H locs hO hS => ?_)
        have hO : mO G lo ad2 (mU (mU (mU (WS G ad2 g nf F f no O w R) 58 (.inl (G.2 2, (nf + 1), .inr (.inr (.inr (.inr zf)))))) (200 + nf) (lfO (upd (upd (fun _ => 0) 5 (-1)) 0 k))) (200 + nf) (lfO (upd (upd (upd (fun _ => 0) 5 (-1)) 0 k) 1 y))) H := hO
        rw [mU_mU] at hO
        refine lv_aload_n hx hb dX7_frame_62 rfl (lv_at hl 4 rfl) ?_
        refine lv_aload_n hx hb dX7_frame_63 rfl (lv_at hl 1 rfl) ?_
        refine m_get inX7 hF hC hO ((mU_ne (by omega : 50 ≠ (200 + nf))).trans ((mU_ne (by decide : (50 : Nat) ≠ 58)).trans (rfl))) rfl 3 (by decide) q_507 (v := .ref (ad2 51)) rfl dX7_frame_64 ?_
        refine m_alen 2 hF hC hO ((mU_ne (by omega : 51 ≠ (200 + nf))).trans ((mU_ne (by decide : (51 : Nat) ≠ 58)).trans (rfl))) rfl (v := (nI nf)) rfl dX7_frame_67 ?_
        refine lv_aload hx hb dX7_frame_68 (lv_at hl 0 rfl) ?_
        refine m_qast (ci := 6) (j := nf) hF hC hO hS ((mU_ne (by omega : 58 ≠ (200 + nf))).trans (mU_self)) (mU_self) rfl rfl (nI_clamp (by omega)) (vp_in_nI (by omega) (by omega)) dX7_frame_70 (fun H locs hO hS => ?_)
        have hO : mO G lo ad2 (mU (mU (mU (WS G ad2 g nf F f no O w R) 58 (.inl (G.2 2, (nf + 1), .inr (.inr (.inr (.inr zf)))))) (200 + nf) (lfO (upd (upd (upd (fun _ => 0) 5 (-1)) 0 k) 1 y))) 58 (.inl (G.2 2, (nf + 1), .inr (.inr (.inr (.inr (va_up zf nf (some (ad2 (200 + nf)))))))))) H := hO
        rw [mU_sw (by omega : 58 ≠ (200 + nf)), mU_mU] at hO
        refine lv_aload_n hx hb dX7_frame_71 rfl (lv_at hl 1 rfl) ?_
        refine lv_aload_n hx hb dX7_frame_72 rfl (lv_at hl 4 rfl) ?_
        refine m_put (ty := (.array (.object "CandleDipLaw$Frame"))) tyX7 tyX7_ok nmX7 inX7 hF hC hO hS ((mU_ne (by omega : 50 ≠ (200 + nf))).trans ((mU_ne (by decide : (50 : Nat) ≠ 58)).trans (rfl))) rfl 3 (by decide) q_507 rfl (by decide +kernel) rfl rfl (fs' := [.int (g 0), .int (g 1), .int (g 2), .ref (ad2 58), .ref (ad2 52), .ref (ad2 57), .int (g 3), .int (g 4), .int w]) (Nat.le_of_ble_eq_true rfl) rfl dX7_frame_73 (fun H locs hO hS => ?_)
        rw [hzf2, adF_up] at hO
        have hO := fr_fin (by omega) hz hO
        refine m_nvret hF hr hlk hQ ⟨by omega, by omega⟩ hO hS dX7_frame_76 ?_
        refine ⟨fun x h1 h2 h3 => ?_, rfl⟩
        show ad x = va_up ad2 51 (ad2 58) x
        rw [up51 h1, ← had2 x h3]
        exact had1 x h2
      · have hin : i < nf := (nI_nE (a := nf) (b := i) (by omega) (by omega) c21)
        refine lv_aload_n hx hb dX7_frame_24 rfl (lv_at hl 3 rfl) ?_
        refine lv_iload hx hb dX7_frame_25 (lv_at hl 4 rfl) ?_
        refine lv_aload_n hx hb dX7_frame_27 rfl (lv_at hl 0 rfl) ?_
        refine m_get inX7 hF hC hO ((mU_ne (by decide : (50 : Nat) ≠ 58)).trans (rfl)) rfl 3 (by decide) q_507 (v := .ref (ad1 51)) rfl dX7_frame_28 ?_
        refine lv_iload hx hb dX7_frame_31 (lv_at hl 4 rfl) ?_
        refine m_aldP hF hC hO ((mU_ne (by decide : (51 : Nat) ≠ 58)).trans (rfl)) (j := i) (nI_clamp (by omega)) (vp_in_nI hin (by omega)) dX7_frame_33 (v := .ref (ad1 (200 + i))) (adF_in (by first | assumption | omega)) ?_
        refine m_qast (ci := 6) (j := i) hF hC hO hS (mU_self) ((mU_ne (by omega : (200 + i) ≠ 58)).trans ((WS_F (i := i) (by assumption) hnf))) rfl rfl (nI_clamp (by omega)) (vp_in_nI (by omega) (by omega)) dX7_frame_34 (fun H locs hO hS => ?_)
        have hO : mO G lo ad1 (mU (mU (WS G ad1 g nf F f no O w R) 58 (.inl (G.2 2, (nf + 1), .inr (.inr (.inr (.inr (adF ad1 200 i))))))) 58 (.inl (G.2 2, (nf + 1), .inr (.inr (.inr (.inr (va_up (adF ad1 200 i) i (some (ad1 (200 + i)))))))))) H := hO
        rw [mU_mU] at hO
        rw [adF_up] at hO
        refine lv_iinc (v := (nI (i + 1))) (lv' := [(4, .int (nI (i + 1))), (0, .ref (ad1 50)), (1, .int k), (2, .int y), (3, .ref (ad1 58))]) hx hb dX7_frame_35 hl (k := 4) rfl (nI_inc i) (by decide) rfl (fun ls hl => ?_)
        refine lv_goto (tgt := 14) hx hb dX7_frame_38 (by decide) ?_
        exact ih14 (i + 1) _ _ _ (by omega) (by omega) (lv_sub hl [1, 2, 3, 4, 0] rfl) hO hS
  rw [← @adF_0 ad1 200] at hO
  exact L14 _ 0 _ _ _ (Nat.lt_succ_self _) (by omega) (lv_sub hl [2, 3, 4, 1, 0] rfl) hO hS
theorem ok_X7_order : mOK RX7 yX7_order cX7_order 7 none 4 := ⟨q_623, q_624, q_6, q_625, by decide +kernel⟩
set_option maxHeartbeats 400000 in
set_option maxRecDepth 100000 in
theorem k_X7_order (l : Launch) (G : mG) (lo : Nat) (sa : mSc) (ad : Nat → Nat) (R : mM) (g : Nat → Int32) (nf : Nat) (F : Nat → Nat → Int32) (f : Nat → Int32) (no : Nat) (O : Nat → Nat → Int32) (w : Int32) (k z u y : Int32) (hnf : nf ≤ 12) (hno : no ≤ 20) (hlt : no < 20) (hz : R 58 = none) : nV' l yX7_order cX7_order 7 0 0 2 26 G lo sa ad (WS G ad g nf F f no O w R) [.ref (ad 50), .int k, .int z, .int u, .int y] (fun u' => (∀ x, x ≠ 57 → x ≠ 58 → x ≠ 220 + no → ad x = u'.1 x) ∧ u'.2 = WS G u'.1 g nf F f (no + 1) (va_up O no (N_O k z u y)) w R) := by
  refine nV_of' (by decide) (Nat.le_of_ble_eq_true rfl) ?_
  intro p e s m args below meth c hF hr hlk hC ls hl hO hS Q hQ
  have hx := hF.1
  have hb := hF.2.1
  have hl : lv_has ls 7 [(0, .ref (ad 50)), (1, .int k), (2, .int z), (3, .int u), (4, .int y)] := hl
  refine lv_aload_n hx hb dX7_order_0 rfl (lv_at hl 0 rfl) ?_
  refine m_get inX7 hF hC hO (rfl) rfl 5 (by decide) q_511 (v := .ref (ad 57)) rfl dX7_order_1 ?_
  refine m_alen 1 hF hC hO (rfl) rfl (v := (nI no)) rfl dX7_order_4 ?_
  refine lv_iconst (v := 1) hx hb dX7_order_5 (by decide) ?_
  refine lv_iadd hx hb dX7_order_6 ?_
  rw [show nI no + 1 = nI (no + 1) from nI_1 no]
  refine m_newqA (r := 58) (N := no + 1) hF hC hO hS (WS_at (by omega) hz) q_500 (nI_nneg (by omega)) (nI_clamp (by omega)) (by omega) ⟨(by show 0 + 1 ≤ 2; omega), (by show 0 + (no + 1) ≤ 26; omega)⟩ dX7_order_7 (fun ad1 H had1 hO hS => ?_)
  refine W.widen (k := 1) (n := 20) (by omega) (by omega) ?_
  rw [WS_ad (ad1 := ad1) (fun x hx => had1 x (by omega))] at hO
  rw [had1 50 (by decide)] at hl
  refine lv_astore (lv' := [(5, .ref (ad1 58)), (0, .ref (ad1 50)), (1, .int k), (2, .int z), (3, .int u), (4, .int y)]) hx hb dX7_order_10 hl (by decide) rfl (fun ls hl => ?_)
  refine lv_iconst (v := 0) hx hb dX7_order_12 (by decide) ?_
  refine lv_istore (lv' := [(6, .int 0), (5, .ref (ad1 58)), (0, .ref (ad1 50)), (1, .int k), (2, .int z), (3, .int u), (4, .int y)]) hx hb dX7_order_13 hl (by decide) rfl (fun ls hl => ?_)
  have L15 : ∀ (n : Nat) (i : Nat) (H : Heap) (locs : List Loc) (ls : Array Slot), no - i < n → i ≤ no → lv_has ls 7 [(0, .ref (ad1 50)), (1, .int k), (2, .int z), (3, .int u), (4, .int y), (5, .ref (ad1 58)), (6, .int (nI i))] → mO G lo ad1 (mU (WS G ad1 g nf F f no O w R) 58 (.inl (G.2 1, (no + 1), .inr (.inr (.inr (.inr (adF ad1 220 i))))))) H → va_S (mA lo) s.heap H locs → W p l e (nRm 0 0 2 26) s m args below meth c H locs 1 20 Q (F0 m 15 ls []) := by
    intro n
    induction n with
    | zero => intro i H locs ls hn; exact absurd hn (Nat.not_lt_zero _)
    | succ n ih15 =>
      intro i H locs ls hn15 hi hl hO hS
      refine lv_iload hx hb dX7_order_15 (lv_at hl 6 rfl) ?_
      refine lv_aload_n hx hb dX7_order_17 rfl (lv_at hl 0 rfl) ?_
      refine m_get inX7 hF hC hO ((mU_ne (by decide : (50 : Nat) ≠ 58)).trans (rfl)) rfl 5 (by decide) q_511 (v := .ref (ad1 57)) rfl dX7_order_18 ?_
      refine m_alen 1 hF hC hO ((mU_ne (by decide : (57 : Nat) ≠ 58)).trans (rfl)) rfl (v := (nI no)) rfl dX7_order_21 ?_
      refine lv_icmp_ge (tgt := 43) hx hb dX7_order_22 (by decide) (fun c22 => ?_) (fun c22 => ?_)
      · have e9 : i = no := Nat.le_antisymm hi (nI_E (a := no) (b := i) (by omega) (by omega) c22)
        rw [e9] at hO
        obtain ⟨zf, hzf⟩ : ∃ z, adF ad1 220 no = z := ⟨_, rfl⟩
        have hO : mO G lo ad1 (mU (WS G ad1 g nf F f no O w R) 58 (.inl (G.2 1, (no + 1), .inr (.inr (.inr (.inr zf)))))) H := by rw [← hzf]; exact hO
        refine lv_aload hx hb dX7_order_43 (lv_at hl 5 rfl) ?_
        refine lv_aload_n hx hb dX7_order_45 rfl (lv_at hl 0 rfl) ?_
        refine m_get inX7 hF hC hO ((mU_ne (by decide : (50 : Nat) ≠ 58)).trans (rfl)) rfl 5 (by decide) q_511 (v := .ref (ad1 57)) rfl dX7_order_46 ?_
        refine m_alen 1 hF hC hO ((mU_ne (by decide : (57 : Nat) ≠ 58)).trans (rfl)) rfl (v := (nI no)) rfl dX7_order_49 ?_
        refine lv_iconst (v := 5) hx hb dX7_order_50 (by decide) ?_
        refine m_newa (k := 0) (r := (220 + no)) (N := 5) (arr := (5, .inl (fun _ => 0))) hF hC hO hS ((mU_ne (by omega : (220 + no) ≠ 58)).trans ((WS_On (by omega) (by omega)))) q_57 rfl rfl (fun _ => rfl) (fun _ => rfl) (by decide) rfl (by decide) ⟨Nat.le_of_ble_eq_true rfl, Nat.le_of_ble_eq_true rfl⟩ dX7_order_51 (fun ad2 H had2 hO hS => ?_)
        rw [WS_ad (ad1 := ad2) (fun x hx => had2 x (by omega))] at hO
        try simp only [had2 50 (by omega), had2 51 (by omega), had2 52 (by omega), had2 57 (by omega), had2 58 (by omega)] at hO
        try simp only [had2 50 (by omega), had2 51 (by omega), had2 52 (by omega), had2 57 (by omega), had2 58 (by omega)] at hl
        try simp only [had2 50 (by omega), had2 51 (by omega), had2 52 (by omega), had2 57 (by omega), had2 58 (by omega)]
        have hO : mO G lo ad2 (mU (mU (WS G ad2 g nf F f no O w R) 58 (.inl (G.2 1, (no + 1), .inr (.inr (.inr (.inr zf)))))) (220 + no) (.inl (G.2 0, 5, .inl (fun _ => 0)))) H := hO
        have hzf2 : zf = adF ad2 220 no := hzf.symm.trans (adF_ad (fun x hx => had2 x (by omega)))
        refine lv_dup hx hb dX7_order_53 rfl ?_
        refine lv_iconst (v := 0) hx hb dX7_order_54 (by decide) ?_
        refine lv_iload_n hx hb dX7_order_55 rfl (lv_at hl 1 rfl) ?_
        refine m_iast hF hC hO hS (mU_self) (j := 0) (by decide) (vp_in_nI (n := 0) (by decide) (by decide)) dX7_order_56 (fun H locs hO hS => ?_)
        have hO : mO G lo ad2 (mU (mU (mU (WS G ad2 g nf F f no O w R) 58 (.inl (G.2 1, (no + 1), .inr (.inr (.inr (.inr zf)))))) (220 + no) (.inl (G.2 0, 5, .inl (fun _ => 0)))) (220 + no) (.inl (G.2 0, 5, .inl (upd (fun _ => 0) 0 k)))) H := hO
        rw [mU_mU] at hO
        refine lv_dup hx hb dX7_order_57 rfl ?_
        refine lv_iconst (v := 1) hx hb dX7_order_58 (by decide) ?_
        refine lv_iload_n hx hb dX7_order_59 rfl (lv_at hl 2 rfl) ?_
        refine m_iast hF hC hO hS (mU_self) (j := 1) (by decide) (vp_in_nI (n := 1) (by decide) (by decide)) dX7_order_60 (fun H locs hO hS => ?_)
        have hO : mO G lo ad2 (mU (mU (mU (WS G ad2 g nf F f no O w R) 58 (.inl (G.2 1, (no + 1), .inr (.inr (.inr (.inr zf)))))) (220 + no) (.inl (G.2 0, 5, .inl (upd (fun _ => 0) 0 k)))) (220 + no) (.inl (G.2 0, 5, .inl (upd (upd (fun _ => 0) 0 k) 1 z)))) H := hO
        rw [mU_mU] at hO
        refine lv_dup hx hb dX7_order_61 rfl ?_
        refine lv_iconst (v := 2) hx hb dX7_order_62 (by decide) ?_
        refine lv_iload_n hx hb dX7_order_63 rfl (lv_at hl 3 rfl) ?_
        refine m_iast hF hC hO hS (mU_self) (j := 2) (by decide) (vp_in_nI (n := 2) (by decide) (by decide)) dX7_order_64 (fun H locs hO hS => ?_)
        have hO : mO G lo ad2 (mU (mU (mU (WS G ad2 g nf F f no O w R) 58 (.inl (G.2 1, (no + 1), .inr (.inr (.inr (.inr zf)))))) (220 + no) (.inl (G.2 0, 5, .inl (upd (upd (fun _ => 0) 0 k) 1 z)))) (220 + no) (.inl (G.2 0, 5, .inl (upd (upd (upd (fun _ => 0) 0 k) 1 z) 2 u)))) H := hO
        rw [mU_mU] at hO
        refine lv_dup hx hb dX7_order_65 rfl ?_
        refine lv_iconst (v := 3) hx hb dX7_order_66 (by decide) ?_
        refine lv_iload hx hb dX7_order_67 (lv_at hl 4 rfl) ?_
        refine m_iast hF hC hO hS (mU_self) (j := 3) (by decide) (vp_in_nI (n := 3) (by decide) (by decide)) dX7_order_69 (fun H locs hO hS => ?_)
        have hO : mO G lo ad2 (mU (mU (mU (WS G ad2 g nf F f no O w R) 58 (.inl (G.2 1, (no + 1), .inr (.inr (.inr (.inr zf)))))) (220 + no) (.inl (G.2 0, 5, .inl (upd (upd (upd (fun _ => 0) 0 k) 1 z) 2 u)))) (220 + no) (.inl (G.2 0, 5, .inl (upd (upd (upd (upd (fun _ => 0) 0 k) 1 z) 2 u) 3 y)))) H := hO
        rw [mU_mU] at hO
        refine lv_dup hx hb dX7_order_70 rfl ?_
        refine lv_iconst (v := 4) hx hb dX7_order_71 (by decide) ?_
        refine lv_iconst (v := 0) hx hb dX7_order_72 (by decide) ?_
        refine m_iast hF hC hO hS (mU_self) (j := 4) (by decide) (vp_in_nI (n := 4) (by decide) (by decide)) dX7_order_73 (fun H locs hO hS => ?_)
        have hO : mO G lo ad2 (mU (mU (mU (WS G ad2 g nf F f no O w R) 58 (.inl (G.2 1, (no + 1), .inr (.inr (.inr (.inr zf)))))) (220 + no) (.inl (G.2 0, 5, .inl (upd (upd (upd (upd (fun _ => 0) 0 k) 1 z) 2 u) 3 y)))) (220 + no) (.inl (G.2 0, 5, .inl (upd (upd (upd (upd (upd (fun _ => 0) 0 k) 1 z) 2 u) 3 y) 4 0)))) H := hO
        rw [mU_mU] at hO
        refine m_aast (j := no) hF hC hO hS ((mU_ne (by omega : 58 ≠ (220 + no))).trans (mU_self)) (mU_self) (nI_clamp (by omega)) (vp_in_nI (by omega) (by omega)) dX7_order_74 (fun H locs hO hS => ?_)
        have hO : mO G lo ad2 (mU (mU (mU (WS G ad2 g nf F f no O w R) 58 (.inl (G.2 1, (no + 1), .inr (.inr (.inr (.inr zf)))))) (220 + no) (.inl (G.2 0, 5, .inl (upd (upd (upd (upd (upd (fun _ => 0) 0 k) 1 z) 2 u) 3 y) 4 0)))) 58 (.inl (G.2 1, (no + 1), .inr (.inr (.inr (.inr (va_up zf no (some (ad2 (220 + no)))))))))) H := hO
        rw [mU_sw (by omega : 58 ≠ (220 + no)), mU_mU] at hO
        refine lv_aload_n hx hb dX7_order_75 rfl (lv_at hl 0 rfl) ?_
        refine lv_aload hx hb dX7_order_76 (lv_at hl 5 rfl) ?_
        refine m_put (ty := (.array (.array .int))) tyX7 tyX7_ok nmX7 inX7 hF hC hO hS ((mU_ne (by omega : 50 ≠ (220 + no))).trans ((mU_ne (by decide : (50 : Nat) ≠ 58)).trans (rfl))) rfl 5 (by decide) q_511 rfl (by decide +kernel) rfl rfl (fs' := [.int (g 0), .int (g 1), .int (g 2), .ref (ad2 51), .ref (ad2 52), .ref (ad2 58), .int (g 3), .int (g 4), .int w]) (Nat.le_of_ble_eq_true rfl) rfl dX7_order_78 (fun H locs hO hS => ?_)
        rw [hzf2, adF_up] at hO
        rw [N_O_eq] at hO
        have hO := or_fin (by omega) hz hO
        refine m_nvret hF hr hlk hQ ⟨by omega, by omega⟩ hO hS dX7_order_81 ?_
        refine ⟨fun x h1 h2 h3 => ?_, rfl⟩
        show ad x = va_up ad2 57 (ad2 58) x
        rw [up51 h1, ← had2 x h3]
        exact had1 x h2
      · have hin : i < no := (nI_nE (a := no) (b := i) (by omega) (by omega) c22)
        refine lv_aload hx hb dX7_order_25 (lv_at hl 5 rfl) ?_
        refine lv_iload hx hb dX7_order_27 (lv_at hl 6 rfl) ?_
        refine lv_aload_n hx hb dX7_order_29 rfl (lv_at hl 0 rfl) ?_
        refine m_get inX7 hF hC hO ((mU_ne (by decide : (50 : Nat) ≠ 58)).trans (rfl)) rfl 5 (by decide) q_511 (v := .ref (ad1 57)) rfl dX7_order_30 ?_
        refine lv_iload hx hb dX7_order_33 (lv_at hl 6 rfl) ?_
        refine m_aldA hF hC hO ((mU_ne (by decide : (57 : Nat) ≠ 58)).trans (rfl)) (j := i) (nI_clamp (by omega)) (vp_in_nI hin (by omega)) dX7_order_35 (v := .ref (ad1 (220 + i))) (adF_in (by first | assumption | omega)) ?_
        refine m_aast (j := i) hF hC hO hS (mU_self) ((mU_ne (by omega : (220 + i) ≠ 58)).trans ((WS_O (i := i) (by assumption) hno))) (nI_clamp (by omega)) (vp_in_nI (by omega) (by omega)) dX7_order_36 (fun H locs hO hS => ?_)
        have hO : mO G lo ad1 (mU (mU (WS G ad1 g nf F f no O w R) 58 (.inl (G.2 1, (no + 1), .inr (.inr (.inr (.inr (adF ad1 220 i))))))) 58 (.inl (G.2 1, (no + 1), .inr (.inr (.inr (.inr (va_up (adF ad1 220 i) i (some (ad1 (220 + i)))))))))) H := hO
        rw [mU_mU] at hO
        rw [adF_up] at hO
        refine lv_iinc (v := (nI (i + 1))) (lv' := [(6, .int (nI (i + 1))), (0, .ref (ad1 50)), (1, .int k), (2, .int z), (3, .int u), (4, .int y), (5, .ref (ad1 58))]) hx hb dX7_order_37 hl (k := 6) rfl (nI_inc i) (by decide) rfl (fun ls hl => ?_)
        refine lv_goto (tgt := 15) hx hb dX7_order_40 (by decide) ?_
        exact ih15 (i + 1) _ _ _ (by omega) (by omega) (lv_sub hl [1, 2, 3, 4, 5, 6, 0] rfl) hO hS
  rw [← @adF_0 ad1 220] at hO
  exact L15 _ 0 _ _ _ (Nat.lt_succ_self _) (by omega) (lv_sub hl [2, 3, 4, 5, 6, 1, 0] rfl) hO hS
