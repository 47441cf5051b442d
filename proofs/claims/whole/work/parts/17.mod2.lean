theorem ok_X6_quarterOn : mOK RX6 yX6_quarterOn cX6_quarterOn 3 none 1 := ⟨q_795, qs_30, q_6, q_796, by decide +kernel⟩
set_option maxHeartbeats 400000 in
set_option maxRecDepth 100000 in
theorem k_X6_quarterOn (l : Launch) (G : mG) (lo : Nat) (sa ad : Nat → Nat) (R : mM) (th : Int32) (g : Nat → Int32) (nf : Nat) (F : Nat → Nat → Int32) (f : Nat → Int32) (no : Nat) (O : Nat → Nat → Int32) (it ch : Nat → Int32) (b : Nat) (b9 : Int32) (hnf : nf ≤ 12) (hno : no ≤ 20) (hb9 : ∀ i : Nat, i < 12 → (nI i = b9 ↔ i = b)) : mV l yX6_quarterOn cX6_quarterOn 3 2 43 G lo sa ad (WM G ad th g nf F f no O it ch R) [.ref (ad 50), .int b9] (fun R' => R' = (WM G ad th (m_qG g) nf (m_coolTo nf b F) f no (m_qO no g O) it ch R)) := by
  refine mV_of (by decide) (Nat.le_of_ble_eq_true rfl) ?_
  intro p e s m args below meth c hF hr hlk hC ls hl hO hS Q hQ
  have hx := hF.1
  have hb := hF.2.1
  have hl : lv_has ls 3 [(0, .ref (ad 50)), (1, .int b9)] := hl
  refine lv_aload_n hx hb dX6_quarterOn_0 rfl (lv_at hl 0 rfl) ?_
  refine lv_aload_n hx hb dX6_quarterOn_1 rfl (lv_at hl 0 rfl) ?_
  refine lv_aload_n hx hb dX6_quarterOn_2 rfl (lv_at hl 0 rfl) ?_
  refine m_get inX6 hF hC hO rfl rfl 2 (by decide) q_664 (v := .int (g 1)) rfl dX6_quarterOn_3 ?_
  refine m_vI (As := [.int (g 1)]) (rest := [.ref (ad 50)]) (n := 1) hF hC hO hS (k_X6_heatBehind l G lo sa ad R th g nf F f no O it ch (g 1) hnf hno) ok_X6_heatBehind q_797 rfl rfl ⟨Nat.le_of_ble_eq_true rfl, Nat.le_of_ble_eq_true rfl⟩ rfl hl.1 rfl (Nat.le_of_ble_eq_true rfl) ⟨Nat.le_of_ble_eq_true rfl, Nat.le_of_ble_eq_true rfl⟩ dX6_quarterOn_6 (fun v6 R' H locs hp hO hS => ?_)
  obtain ⟨rfl, hR⟩ := hp
  rw [hR] at hO
  refine m_put (ty := .int) tyX6 tyX6_ok nmX6 inX6 hF hC hO hS rfl rfl 2 (by decide) q_664 rfl (by decide +kernel) rfl rfl (fs' := [.int th, .int (g 0), .int (p_burn (g 2) (g 1)), .int (g 2), .int (nI nf), .ref (ad 51), .ref (ad 52), .int (nI no), .ref (ad 53), .int (g 3), .int (g 4), .int (g 5), .ref (ad 54), .ref (ad 55)]) (Nat.le_of_ble_eq_true rfl) rfl dX6_quarterOn_9 (fun H locs hO hS => ?_)
  have hO : mO G lo ad (mU (WM G ad th g nf F f no O it ch R) 50 (mxO ad th (upd g 1 (p_burn (g 2) (g 1))) nf no)) H := hO
  rw [WM_w0] at hO
  refine lv_iconst (v := 0) hx hb dX6_quarterOn_12 (by decide) ?_
  refine lv_istore_n (lv' := [(2, .int 0), (0, .ref (ad 50)), (1, .int b9)]) hx hb dX6_quarterOn_13 rfl hl (by decide) rfl (fun ls hl => ?_)
  have L14 : ∀ (n : Nat) (i : Nat) (H : Heap) (locs : List Loc) (ls : Array Slot), nf - i < n → i ≤ nf → lv_has ls 3 [(0, .ref (ad 50)), (1, .int b9), (2, .int (nI i))] → mO G lo ad (WM G ad th (upd g 1 (p_burn (g 2) (g 1))) nf (m_coolTo i b F) f no O it ch R) H → va_S (mA lo) s.heap H locs → W p l e (mRm 2 43) s m args below meth c H locs 0 0 Q (F0 m 14 ls []) := by
    intro n
    induction n with
    | zero => intro i H locs ls hn; exact absurd hn (Nat.not_lt_zero _)
    | succ n ih14 =>
      intro i H locs ls hn14 hi hl hO hS
      refine lv_iload_n hx hb dX6_quarterOn_14 rfl (lv_at hl 2 rfl) ?_
      refine lv_aload_n hx hb dX6_quarterOn_15 rfl (lv_at hl 0 rfl) ?_
      refine m_get inX6 hF hC hO rfl rfl 4 (by decide) q_666 (v := .int (nI nf)) rfl dX6_quarterOn_16 ?_
      refine lv_icmp_ge (tgt := 55) hx hb dX6_quarterOn_19 (by decide) (fun c19 => ?_) (fun c19 => ?_)
      · have e9 : i = nf := Nat.le_antisymm hi (nI_E (a := nf) (b := i) (by omega) (by omega) c19)
        rw [e9] at hO
        refine lv_aload_n hx hb dX6_quarterOn_55 rfl (lv_at hl 0 rfl) ?_
        refine lv_dup hx hb dX6_quarterOn_56 rfl ?_
        refine m_get inX6 hF hC hO rfl rfl 9 (by decide) q_671 (v := .int (g 3)) rfl dX6_quarterOn_57 ?_
        refine lv_iconst (v := 1) hx hb dX6_quarterOn_60 (by decide) ?_
        refine lv_iadd hx hb dX6_quarterOn_61 ?_
        refine m_put (ty := .int) tyX6 tyX6_ok nmX6 inX6 hF hC hO hS rfl rfl 9 (by decide) q_671 rfl (by decide +kernel) rfl rfl (fs' := [.int th, .int (g 0), .int (p_burn (g 2) (g 1)), .int (g 2), .int (nI nf), .ref (ad 51), .ref (ad 52), .int (nI no), .ref (ad 53), .int ((g 3) + 1), .int (g 4), .int (g 5), .ref (ad 54), .ref (ad 55)]) (Nat.le_of_ble_eq_true rfl) rfl dX6_quarterOn_62 (fun H locs hO hS => ?_)
        have hO : mO G lo ad (mU (WM G ad th (upd g 1 (p_burn (g 2) (g 1))) nf (m_coolTo nf b F) f no O it ch R) 50 (mxO ad th (upd (upd g 1 (p_burn (g 2) (g 1))) 3 ((g 3) + 1)) nf no)) H := hO
        rw [WM_w0] at hO
        refine lv_aload_n hx hb dX6_quarterOn_65 rfl (lv_at hl 0 rfl) ?_
        refine m_get inX6 hF hC hO rfl rfl 9 (by decide) q_671 (v := .int ((g 3) + 1)) rfl dX6_quarterOn_66 ?_
        refine lv_bipush (v := 40) hx hb dX6_quarterOn_69 (by decide) ?_
        refine lv_irem hx hb dX6_quarterOn_71 (by decide) ?_
        refine lv_if_eq (tgt := 76) hx hb dX6_quarterOn_72 (by decide) (fun c72 => ?_) (fun c72 => ?_)
        · refine lv_iconst (v := 0) hx hb dX6_quarterOn_76 (by decide) ?_
          refine lv_istore_n (lv' := [(2, .int 0), (0, .ref (ad 50)), (1, .int b9)]) hx hb dX6_quarterOn_77 rfl hl (by decide) rfl (fun ls hl => ?_)
          have L78 : ∀ (n : Nat) (i : Nat) (H : Heap) (locs : List Loc) (ls : Array Slot), no - i < n → i ≤ no → lv_has ls 3 [(0, .ref (ad 50)), (1, .int b9), (2, .int (nI i))] → mO G lo ad (WM G ad th (upd (upd g 1 (p_burn (g 2) (g 1))) 3 ((g 3) + 1)) nf (m_coolTo nf b F) f no (m_lateTo i ((g 3 + 1) / 40) O) it ch R) H → va_S (mA lo) s.heap H locs → W p l e (mRm 2 43) s m args below meth c H locs 0 0 Q (F0 m 78 ls []) := by
            intro n
            induction n with
            | zero => intro i H locs ls hn; exact absurd hn (Nat.not_lt_zero _)
            | succ n ih78 =>
              intro i H locs ls hn78 hi hl hO hS
              refine lv_iload_n hx hb dX6_quarterOn_78 rfl (lv_at hl 2 rfl) ?_
              refine lv_aload_n hx hb dX6_quarterOn_79 rfl (lv_at hl 0 rfl) ?_
              refine m_get inX6 hF hC hO rfl rfl 7 (by decide) q_669 (v := .int (nI no)) rfl dX6_quarterOn_80 ?_
              refine lv_icmp_ge (tgt := 128) hx hb dX6_quarterOn_83 (by decide) (fun c83 => ?_) (fun c83 => ?_)
              · refine m_vret hF hr hlk hQ hO hS dX6_quarterOn_128 ?_
                have e2 : i = no := Nat.le_antisymm hi (nI_E (a := no) (b := i) (by omega) (by omega) c83)
                rw [m_qO, if_pos c72, e2]
                rfl
              · refine lv_aload_n hx hb dX6_quarterOn_86 rfl (lv_at hl 0 rfl) ?_
                refine lv_iload_n hx hb dX6_quarterOn_87 rfl (lv_at hl 2 rfl) ?_
                refine lv_iconst (v := 4) hx hb dX6_quarterOn_88 (by decide) ?_
                refine m_vI (As := [.int (nI i), .int 4]) (rest := []) (n := 2) hF hC hO hS (k_X6_or l G lo sa ad R th (upd (upd g 1 (p_burn (g 2) (g 1))) 3 ((g 3) + 1)) nf (m_coolTo nf b F) f no (m_lateTo i ((g 3 + 1) / 40) O) it ch i 4 hnf hno (by have := (nI_nE (a := no) (b := i) (by omega) (by omega) c83); omega) (by omega)) ok_X6_or q_806 rfl rfl ⟨Nat.le_of_ble_eq_true rfl, Nat.le_of_ble_eq_true rfl⟩ rfl hl.1 rfl (Nat.le_of_ble_eq_true rfl) ⟨Nat.le_of_ble_eq_true rfl, Nat.le_of_ble_eq_true rfl⟩ dX6_quarterOn_89 (fun v89 R' H locs hp hO hS => ?_)
                obtain ⟨rfl, hR⟩ := hp
                rw [hR] at hO
                refine lv_if_ne (tgt := 122) hx hb dX6_quarterOn_92 (by decide) (fun c92 => ?_) (fun c92 => ?_)
                · refine lv_iinc (v := (nI (i + 1))) (lv' := [(2, .int (nI (i + 1))), (0, .ref (ad 50)), (1, .int b9)]) hx hb dX6_quarterOn_122 hl (k := 2) rfl (nI_inc i) (by decide) rfl (fun ls hl => ?_)
                  refine lv_goto (tgt := 78) hx hb dX6_quarterOn_125 (by decide) ?_
                  rw [m_lateTo_b (fun h => absurd (by rw [m_lateTo_at]; exact h.1) c92)] at hO
                  exact ih78 (i + 1) _ _ _ (by have := (nI_nE (a := no) (b := i) (by omega) (by omega) c83); omega) (by have := (nI_nE (a := no) (b := i) (by omega) (by omega) c83); omega) (lv_sub hl [1, 2, 0] rfl) hO hS
                · refine lv_aload_n hx hb dX6_quarterOn_95 rfl (lv_at hl 0 rfl) ?_
                  refine lv_iload_n hx hb dX6_quarterOn_96 rfl (lv_at hl 2 rfl) ?_
                  refine lv_iconst (v := 3) hx hb dX6_quarterOn_97 (by decide) ?_
                  refine m_vI (As := [.int (nI i), .int 3]) (rest := []) (n := 2) hF hC hO hS (k_X6_or l G lo sa ad R th (upd (upd g 1 (p_burn (g 2) (g 1))) 3 ((g 3) + 1)) nf (m_coolTo nf b F) f no (m_lateTo i ((g 3 + 1) / 40) O) it ch i 3 hnf hno (by have := (nI_nE (a := no) (b := i) (by omega) (by omega) c83); omega) (by omega)) ok_X6_or q_806 rfl rfl ⟨Nat.le_of_ble_eq_true rfl, Nat.le_of_ble_eq_true rfl⟩ rfl hl.1 rfl (Nat.le_of_ble_eq_true rfl) ⟨Nat.le_of_ble_eq_true rfl, Nat.le_of_ble_eq_true rfl⟩ dX6_quarterOn_98 (fun v98 R' H locs hp hO hS => ?_)
                  obtain ⟨rfl, hR⟩ := hp
                  rw [hR] at hO
                  refine lv_aload_n hx hb dX6_quarterOn_101 rfl (lv_at hl 0 rfl) ?_
                  refine m_get inX6 hF hC hO rfl rfl 9 (by decide) q_671 (v := .int ((g 3) + 1)) rfl dX6_quarterOn_102 ?_
                  refine lv_bipush (v := 40) hx hb dX6_quarterOn_105 (by decide) ?_
                  refine lv_idiv hx hb dX6_quarterOn_107 (by decide) ?_
                  refine lv_icmp_ge (tgt := 122) hx hb dX6_quarterOn_108 (by decide) (fun c108 => ?_) (fun c108 => ?_)
                  · refine lv_iinc (v := (nI (i + 1))) (lv' := [(2, .int (nI (i + 1))), (0, .ref (ad 50)), (1, .int b9)]) hx hb dX6_quarterOn_122 hl (k := 2) rfl (nI_inc i) (by decide) rfl (fun ls hl => ?_)
                    refine lv_goto (tgt := 78) hx hb dX6_quarterOn_125 (by decide) ?_
                    rw [m_lateTo_b (fun h => absurd (by rw [m_lateTo_at]; exact h.2) (Int32.not_lt.mpr c108))] at hO
                    exact ih78 (i + 1) _ _ _ (by have := (nI_nE (a := no) (b := i) (by omega) (by omega) c83); omega) (by have := (nI_nE (a := no) (b := i) (by omega) (by omega) c83); omega) (lv_sub hl [1, 2, 0] rfl) hO hS
                  · refine lv_aload_n hx hb dX6_quarterOn_111 rfl (lv_at hl 0 rfl) ?_
                    refine m_get inX6 hF hC hO rfl rfl 8 (by decide) q_670 (v := .ref (ad 53)) rfl dX6_quarterOn_112 ?_
                    refine lv_iconst (v := 5) hx hb dX6_quarterOn_115 (by decide) ?_
                    refine lv_iload_n hx hb dX6_quarterOn_116 rfl (lv_at hl 2 rfl) ?_
                    refine lv_imul hx hb dX6_quarterOn_117 ?_
                    refine lv_iconst (v := 4) hx hb dX6_quarterOn_118 (by decide) ?_
                    refine lv_iadd hx hb dX6_quarterOn_119 ?_
                    refine lv_iconst (v := 2) hx hb dX6_quarterOn_120 (by decide) ?_
                    refine m_iast hF hC hO hS rfl (j := (5 * i + 4)) (by rw [show (4 : Int32) = nI 4 from rfl, p_ixO]; exact nI_clamp (by omega)) (by have := (nI_nE (a := no) (b := i) (by omega) (by omega) c83); rw [show (4 : Int32) = nI 4 from rfl, p_ixO]; exact vp_in_nI (by omega) (by decide)) dX6_quarterOn_121 (fun H locs hO hS => ?_)
                    have hO : mO G lo ad (mU (WM G ad th (upd (upd g 1 (p_burn (g 2) (g 1))) 3 ((g 3) + 1)) nf (m_coolTo nf b F) f no (m_lateTo i ((g 3 + 1) / 40) O) it ch R) 53 (.inl (G.2 0, 100, .inl (upd (otF (m_lateTo i ((g 3 + 1) / 40) O)) (5 * i + 4) 2)))) H := hO
                    rw [WM_w3 (ot_wr (by decide))] at hO
                    refine lv_iinc (v := (nI (i + 1))) (lv' := [(2, .int (nI (i + 1))), (0, .ref (ad 50)), (1, .int b9)]) hx hb dX6_quarterOn_122 hl (k := 2) rfl (nI_inc i) (by decide) rfl (fun ls hl => ?_)
                    refine lv_goto (tgt := 78) hx hb dX6_quarterOn_125 (by decide) ?_
                    rw [m_lateTo_s (by rw [← m_lateTo_at (n := i) (q := (g 3 + 1) / 40) (O := O)]; exact ⟨c92, Int32.not_le.mp c108⟩)] at hO
                    exact ih78 (i + 1) _ _ _ (by have := (nI_nE (a := no) (b := i) (by omega) (by omega) c83); omega) (by have := (nI_nE (a := no) (b := i) (by omega) (by omega) c83); omega) (lv_sub hl [1, 2, 0] rfl) hO hS
          rw [← m_lateTo_0 (q := (g 3 + 1) / 40) (O := O)] at hO
          exact L78 _ 0 _ _ _ (Nat.lt_succ_self _) (by omega) (lv_sub hl [1, 2, 0] rfl) hO hS
        · refine m_vret hF hr hlk hQ hO hS dX6_quarterOn_75 ?_
          rw [m_qO, if_neg c72]
          rfl
      · refine lv_iload_n hx hb dX6_quarterOn_22 rfl (lv_at hl 2 rfl) ?_
        refine lv_iload_n hx hb dX6_quarterOn_23 rfl (lv_at hl 1 rfl) ?_
        refine lv_icmp_eq (tgt := 49) hx hb dX6_quarterOn_24 (by decide) (fun c24 => ?_) (fun c24 => ?_)
        · refine lv_iinc (v := (nI (i + 1))) (lv' := [(2, .int (nI (i + 1))), (0, .ref (ad 50)), (1, .int b9)]) hx hb dX6_quarterOn_49 hl (k := 2) rfl (nI_inc i) (by decide) rfl (fun ls hl => ?_)
          refine lv_goto (tgt := 14) hx hb dX6_quarterOn_52 (by decide) ?_
          rw [m_coolTo_b ((hb9 i (by have := (nI_nE (a := nf) (b := i) (by omega) (by omega) c19); omega)).mp c24)] at hO
          exact ih14 (i + 1) _ _ _ (by have := (nI_nE (a := nf) (b := i) (by omega) (by omega) c19); omega) (by have := (nI_nE (a := nf) (b := i) (by omega) (by omega) c19); omega) (lv_sub hl [1, 2, 0] rfl) hO hS
        · refine lv_aload_n hx hb dX6_quarterOn_27 rfl (lv_at hl 0 rfl) ?_
          refine lv_iload_n hx hb dX6_quarterOn_28 rfl (lv_at hl 2 rfl) ?_
          refine lv_iconst (v := 3) hx hb dX6_quarterOn_29 (by decide) ?_
          refine lv_iconst (v := 0) hx hb dX6_quarterOn_30 (by decide) ?_
          refine lv_aload_n hx hb dX6_quarterOn_31 rfl (lv_at hl 0 rfl) ?_
          refine lv_iload_n hx hb dX6_quarterOn_32 rfl (lv_at hl 2 rfl) ?_
          refine lv_iconst (v := 3) hx hb dX6_quarterOn_33 (by decide) ?_
          refine m_vI (As := [.int (nI i), .int 3]) (rest := [.int 0, .int 3, .int (nI i), .ref (ad 50)]) (n := 2) hF hC hO hS (k_X6_fr l G lo sa ad R th (upd g 1 (p_burn (g 2) (g 1))) nf (m_coolTo i b F) f no O it ch i 3 hnf hno (by have := (nI_nE (a := nf) (b := i) (by omega) (by omega) c19); omega) (by omega)) ok_X6_fr q_752 rfl rfl ⟨Nat.le_of_ble_eq_true rfl, Nat.le_of_ble_eq_true rfl⟩ rfl hl.1 rfl (Nat.le_of_ble_eq_true rfl) ⟨Nat.le_of_ble_eq_true rfl, Nat.le_of_ble_eq_true rfl⟩ dX6_quarterOn_34 (fun v34 R' H locs hp hO hS => ?_)
          obtain ⟨rfl, hR⟩ := hp
          rw [hR] at hO
          refine lv_aload_n hx hb dX6_quarterOn_37 rfl (lv_at hl 0 rfl) ?_
          refine lv_iload_n hx hb dX6_quarterOn_38 rfl (lv_at hl 2 rfl) ?_
          refine m_vI (As := [.int (nI i)]) (rest := [.int ((m_coolTo i b F) i 3), .int 0, .int 3, .int (nI i), .ref (ad 50)]) (n := 1) hF hC hO hS (k_X6_cools l G lo sa ad R th (upd g 1 (p_burn (g 2) (g 1))) nf (m_coolTo i b F) f no O it ch i hnf hno (by have := (nI_nE (a := nf) (b := i) (by omega) (by omega) c19); omega)) ok_X6_cools q_802 rfl rfl ⟨Nat.le_of_ble_eq_true rfl, Nat.le_of_ble_eq_true rfl⟩ rfl hl.1 rfl (Nat.le_of_ble_eq_true rfl) ⟨Nat.le_of_ble_eq_true rfl, Nat.le_of_ble_eq_true rfl⟩ dX6_quarterOn_39 (fun v39 R' H locs hp hO hS => ?_)
          obtain ⟨rfl, hR⟩ := hp
          rw [hR] at hO
          refine lv_isub hx hb dX6_quarterOn_42 ?_
          refine m_max hF hl.1 q_801 q_458 q_14 q_459 (Nat.le_of_ble_eq_true rfl) (Nat.le_of_ble_eq_true rfl) ⟨Nat.le_of_ble_eq_true rfl, Nat.le_of_ble_eq_true rfl⟩ dX6_quarterOn_43 ?_
          refine m_vV (As := [.int (nI i), .int 3, .int (jmax 0 (((m_coolTo i b F) i 3) - (p_cooling ((m_coolTo i b F) i))))]) (rest := []) (n := 3) hF hC hO hS (k_X6_set l G lo sa ad R th (upd g 1 (p_burn (g 2) (g 1))) nf (m_coolTo i b F) f no O it ch i 3 (jmax 0 (((m_coolTo i b F) i 3) - (p_cooling ((m_coolTo i b F) i)))) hnf hno (by have := (nI_nE (a := nf) (b := i) (by omega) (by omega) c19); omega) (by omega)) ok_X6_set q_756 rfl rfl ⟨Nat.le_of_ble_eq_true rfl, Nat.le_of_ble_eq_true rfl⟩ rfl hl.1 rfl (Nat.le_of_ble_eq_true rfl) ⟨Nat.le_of_ble_eq_true rfl, Nat.le_of_ble_eq_true rfl⟩ dX6_quarterOn_46 (fun R' H locs hp hO hS => ?_)
          have hR := hp
          rw [hR] at hO
          refine lv_iinc (v := (nI (i + 1))) (lv' := [(2, .int (nI (i + 1))), (0, .ref (ad 50)), (1, .int b9)]) hx hb dX6_quarterOn_49 hl (k := 2) rfl (nI_inc i) (by decide) rfl (fun ls hl => ?_)
          refine lv_goto (tgt := 14) hx hb dX6_quarterOn_52 (by decide) ?_
          rw [show upd (m_coolTo i b F i) 3 (jmax 0 (m_coolTo i b F i 3 - p_cooling (m_coolTo i b F i))) = p_coolF (m_coolTo i b F i) from rfl, m_coolTo_s (fun h => c24 ((hb9 i (by have := (nI_nE (a := nf) (b := i) (by omega) (by omega) c19); omega)).mpr h))] at hO
          exact ih14 (i + 1) _ _ _ (by have := (nI_nE (a := nf) (b := i) (by omega) (by omega) c19); omega) (by have := (nI_nE (a := nf) (b := i) (by omega) (by omega) c19); omega) (lv_sub hl [1, 2, 0] rfl) hO hS
  rw [← m_coolTo_0 (b := b) (F := F)] at hO
  exact L14 _ 0 _ _ _ (Nat.lt_succ_self _) (by omega) (lv_sub hl [1, 2, 0] rfl) hO hS
theorem ok_X6_needs : mOK RX6 yX6_needs cX6_needs 6 (some .int) 3 := ⟨q_887, qs_41, q_6, q_888, by decide +kernel⟩
set_option maxHeartbeats 400000 in
set_option maxRecDepth 100000 in
theorem k_X6_needs (l : Launch) (G : mG) (lo : Nat) (sa ad : Nat → Nat) (R : mM) (th : Int32) (g : Nat → Int32) (nf : Nat) (F : Nat → Nat → Int32) (f : Nat → Int32) (no : Nat) (O : Nat → Nat → Int32) (it ch : Nat → Int32) (i k : Nat) (z : Int32) (hnf : nf ≤ 12) (hno : no ≤ 20) (hi : i < 12) (hk : k < 1000) : mI l yX6_needs cX6_needs 6 .int 3 66 G lo sa ad (WM G ad th g nf F f no O it ch R) [.ref (ad 50), .int (nI i), .int (nI k), .int z] (fun v R' => v = (m_need k z (g 2) (F i) (m_take it g (F i))) ∧ ∃ (it' : Nat → Int32), R' = (WM G ad th g nf F f no O it' ch R)) := by
  refine mI_of (by decide) (Nat.le_of_ble_eq_true rfl) ?_
  intro p e s m args below meth c hF hr hlk hC ls hl hO hS Q hQ
  have hx := hF.1
  have hb := hF.2.1
  have hl : lv_has ls 6 [(0, .ref (ad 50)), (1, .int (nI i)), (2, .int (nI k)), (3, .int z)] := hl
  refine lv_aload_n hx hb dX6_needs_0 rfl (lv_at hl 0 rfl) ?_
  refine lv_iload_n hx hb dX6_needs_1 rfl (lv_at hl 1 rfl) ?_
  refine m_vV (As := [.int (nI i)]) (rest := []) (n := 1) hF hC hO hS (k_X6_take l G lo sa ad R th g nf F f no O it ch i hnf hno (by omega)) ok_X6_take q_768 rfl rfl ⟨Nat.le_of_ble_eq_true rfl, Nat.le_of_ble_eq_true rfl⟩ rfl hl.1 rfl (Nat.le_of_ble_eq_true rfl) ⟨Nat.le_of_ble_eq_true rfl, Nat.le_of_ble_eq_true rfl⟩ dX6_needs_2 (fun R' H locs hp hO hS => ?_)
  have hR := hp
  rw [hR] at hO
  refine lv_aload_n hx hb dX6_needs_5 rfl (lv_at hl 0 rfl) ?_
  refine m_get inX6 hF hC hO rfl rfl 12 (by decide) q_674 (v := .ref (ad 54)) rfl dX6_needs_6 ?_
  refine lv_iconst (v := 2) hx hb dX6_needs_9 (by decide) ?_
  refine m_iald hF hC hO rfl (j := 2) (by decide) (vp_in_nI (n := 2) (by decide) (by decide)) dX6_needs_10 ?_
  refine lv_aload_n hx hb dX6_needs_11 rfl (lv_at hl 0 rfl) ?_
  refine m_get inX6 hF hC hO rfl rfl 12 (by decide) q_674 (v := .ref (ad 54)) rfl dX6_needs_12 ?_
  refine lv_iconst (v := 4) hx hb dX6_needs_15 (by decide) ?_
  refine m_iald hF hC hO rfl (j := 4) (by decide) (vp_in_nI (n := 4) (by decide) (by decide)) dX6_needs_16 ?_
  refine m_sI (As := [.int ((m_take it g (F i)) 2), .int ((m_take it g (F i)) 4)]) (rest := []) (n := 2) hF hC hO hS (k_X6_size l G lo sa ad _ ((m_take it g (F i)) 2) ((m_take it g (F i)) 4) ) ok_X6_size q_814 ⟨Nat.le_of_ble_eq_true rfl, Nat.le_of_ble_eq_true rfl⟩ rfl hl.1 rfl (Nat.le_of_ble_eq_true rfl) ⟨Nat.le_of_ble_eq_true rfl, Nat.le_of_ble_eq_true rfl⟩ dX6_needs_17 (fun v17 R' H locs hp hO hS => ?_)
  obtain ⟨rfl, hR⟩ := hp
  rw [hR] at hO
  refine lv_iload_n hx hb dX6_needs_20 rfl (lv_at hl 3 rfl) ?_
  refine lv_icmp_lt (tgt := 26) hx hb dX6_needs_21 (by decide) (fun c21 => ?_) (fun c21 => ?_)
  · refine lv_iconst (v := 1) hx hb dX6_needs_26 (by decide) ?_
    refine lv_istore (lv' := [(4, .int 1), (0, .ref (ad 50)), (1, .int (nI i)), (2, .int (nI k)), (3, .int z)]) hx hb dX6_needs_27 hl (by decide) rfl (fun ls hl => ?_)
    have L29 : ∀ (n : Nat) (d : Nat) (it9 : Nat → Int32) (H : Heap) (locs : List Loc) (ls : Array Slot), 61 - d < n → d ≤ 61 → 1 ≤ d → m_needL (61 - d) d k z (g 2) (F i) it9 = m_need k z (g 2) (F i) (m_take it g (F i)) → lv_has ls 6 [(0, .ref (ad 50)), (1, .int (nI i)), (2, .int (nI k)), (3, .int z), (4, .int (nI d))] → mO G lo ad (WM G ad th g nf F f no O it9 ch R) H → va_S (mA lo) s.heap H locs → W p l e (mRm 3 66) s m args below meth c H locs 0 0 Q (F0 m 29 ls []) := by
      intro n
      induction n with
      | zero => intro d it9 H locs ls hn; exact absurd hn (Nat.not_lt_zero _)
      | succ n ih29 =>
        intro d it9 H locs ls hn29 hd hd1 hv hl hO hS
        refine lv_iload hx hb dX6_needs_29 (lv_at hl 4 rfl) ?_
        refine lv_bipush (v := 60) hx hb dX6_needs_31 (by decide) ?_
        refine lv_icmp_gt (tgt := 148) hx hb dX6_needs_33 (by decide) (fun c33 => ?_) (fun c33 => ?_)
        · refine lv_iconst (v := -1) hx hb dX6_needs_148 (by decide) ?_
          refine m_iret hF hr hlk hQ rfl hO hS dX6_needs_149 ?_
          have e : d = 61 := Nat.le_antisymm hd (nI_L (a := 60) (b := d) (by decide) (by omega) c33)
          subst e
          exact ⟨hv, _, rfl⟩
        · refine lv_aload_n hx hb dX6_needs_36 rfl (lv_at hl 0 rfl) ?_
          refine lv_iload_n hx hb dX6_needs_37 rfl (lv_at hl 1 rfl) ?_
          refine m_vI (As := [.int (nI i)]) (rest := []) (n := 1) hF hC hO hS (k_X6_can l G lo sa ad R th g nf F f no O it9 ch i hnf hno (by omega)) ok_X6_can q_776 rfl rfl ⟨Nat.le_of_ble_eq_true rfl, Nat.le_of_ble_eq_true rfl⟩ rfl hl.1 rfl (Nat.le_of_ble_eq_true rfl) ⟨Nat.le_of_ble_eq_true rfl, Nat.le_of_ble_eq_true rfl⟩ dX6_needs_38 (fun v38 R' H locs hp hO hS => ?_)
          obtain ⟨⟨rfl, b38⟩ | ⟨rfl, b38⟩, hR⟩ := hp
          · rw [hR] at hO
            refine lv_if_ne (tgt := 46) hx hb dX6_needs_41 (by decide) (fun c41 => ?_) (fun c41 => absurd c41 (by decide))
            refine lv_aload_n hx hb dX6_needs_46 rfl (lv_at hl 0 rfl) ?_
            refine lv_iload_n hx hb dX6_needs_47 rfl (lv_at hl 1 rfl) ?_
            refine m_vV (As := [.int (nI i)]) (rest := []) (n := 1) hF hC hO hS (k_X6_dipIt l G lo sa ad R th g nf F f no O it9 ch i hnf hno (by omega)) ok_X6_dipIt q_789 rfl rfl ⟨Nat.le_of_ble_eq_true rfl, Nat.le_of_ble_eq_true rfl⟩ rfl hl.1 rfl (Nat.le_of_ble_eq_true rfl) ⟨Nat.le_of_ble_eq_true rfl, Nat.le_of_ble_eq_true rfl⟩ dX6_needs_48 (fun R' H locs hp hO hS => ?_)
            have hR := hp
            rw [hR] at hO
            refine lv_aload_n hx hb dX6_needs_51 rfl (lv_at hl 0 rfl) ?_
            refine m_get inX6 hF hC hO rfl rfl 12 (by decide) q_674 (v := .ref (ad 54)) rfl dX6_needs_52 ?_
            refine lv_iconst (v := 2) hx hb dX6_needs_55 (by decide) ?_
            refine m_iald hF hC hO rfl (j := 2) (by decide) (vp_in_nI (n := 2) (by decide) (by decide)) dX6_needs_56 ?_
            refine lv_aload_n hx hb dX6_needs_57 rfl (lv_at hl 0 rfl) ?_
            refine m_get inX6 hF hC hO rfl rfl 12 (by decide) q_674 (v := .ref (ad 54)) rfl dX6_needs_58 ?_
            refine lv_iconst (v := 4) hx hb dX6_needs_61 (by decide) ?_
            refine m_iald hF hC hO rfl (j := 4) (by decide) (vp_in_nI (n := 4) (by decide) (by decide)) dX6_needs_62 ?_
            refine m_sI (As := [.int ((m_dip it9 (F i)) 2), .int ((m_dip it9 (F i)) 4)]) (rest := []) (n := 2) hF hC hO hS (k_X6_size l G lo sa ad _ ((m_dip it9 (F i)) 2) ((m_dip it9 (F i)) 4) ) ok_X6_size q_814 ⟨Nat.le_of_ble_eq_true rfl, Nat.le_of_ble_eq_true rfl⟩ rfl hl.1 rfl (Nat.le_of_ble_eq_true rfl) ⟨Nat.le_of_ble_eq_true rfl, Nat.le_of_ble_eq_true rfl⟩ dX6_needs_63 (fun v63 R' H locs hp hO hS => ?_)
            obtain ⟨rfl, hR⟩ := hp
            rw [hR] at hO
            refine lv_iload_n hx hb dX6_needs_66 rfl (lv_at hl 3 rfl) ?_
            refine lv_icmp_lt (tgt := 73) hx hb dX6_needs_67 (by decide) (fun c67 => ?_) (fun c67 => ?_)
            · refine lv_aload_n hx hb dX6_needs_73 rfl (lv_at hl 0 rfl) ?_
              refine m_get inX6 hF hC hO rfl rfl 12 (by decide) q_674 (v := .ref (ad 54)) rfl dX6_needs_74 ?_
              refine lv_iconst (v := 1) hx hb dX6_needs_77 (by decide) ?_
              refine lv_aload_n hx hb dX6_needs_78 rfl (lv_at hl 0 rfl) ?_
              refine lv_aload_n hx hb dX6_needs_79 rfl (lv_at hl 0 rfl) ?_
              refine m_get inX6 hF hC hO rfl rfl 12 (by decide) q_674 (v := .ref (ad 54)) rfl dX6_needs_80 ?_
              refine lv_iconst (v := 1) hx hb dX6_needs_83 (by decide) ?_
              refine m_iald hF hC hO rfl (j := 1) (by decide) (vp_in_nI (n := 1) (by decide) (by decide)) dX6_needs_84 ?_
              refine m_vI (As := [.int ((m_dip it9 (F i)) 1)]) (rest := [.int 1, .ref (ad 54)]) (n := 1) hF hC hO hS (k_X6_heatBehind l G lo sa ad R th g nf F f no O (m_dip it9 (F i)) ch ((m_dip it9 (F i)) 1) hnf hno) ok_X6_heatBehind q_797 rfl rfl ⟨Nat.le_of_ble_eq_true rfl, Nat.le_of_ble_eq_true rfl⟩ rfl hl.1 rfl (Nat.le_of_ble_eq_true rfl) ⟨Nat.le_of_ble_eq_true rfl, Nat.le_of_ble_eq_true rfl⟩ dX6_needs_85 (fun v85 R' H locs hp hO hS => ?_)
              obtain ⟨rfl, hR⟩ := hp
              rw [hR] at hO
              refine m_iast hF hC hO hS rfl (j := 1) (by decide) (vp_in_nI (n := 1) (by decide) (by decide)) dX6_needs_88 (fun H locs hO hS => ?_)
              have hO : mO G lo ad (mU (WM G ad th g nf F f no O (m_dip it9 (F i)) ch R) 54 (.inl (G.2 0, 5, .inl (upd (m_dip it9 (F i)) 1 (p_burn (g 2) ((m_dip it9 (F i)) 1)))))) H := hO
              rw [WM_w4] at hO
              refine lv_iconst (v := 0) hx hb dX6_needs_89 (by decide) ?_
              refine lv_istore (lv' := [(5, .int 0), (0, .ref (ad 50)), (1, .int (nI i)), (2, .int (nI k)), (3, .int z), (4, .int (nI d))]) hx hb dX6_needs_90 hl (by decide) rfl (fun ls hl => ?_)
              have L92 : ∀ (n : Nat) (j : Nat) (ir : Nat → Int32) (H : Heap) (locs : List Loc) (ls : Array Slot), k - j < n → j ≤ k → m_restN (k - j) (g 2) (p_cooling (F i)) ir = m_restN k (g 2) (p_cooling (F i)) (upd (m_dip it9 (F i)) 1 (p_burn (g 2) (m_dip it9 (F i) 1))) → lv_has ls 6 [(0, .ref (ad 50)), (1, .int (nI i)), (2, .int (nI k)), (3, .int z), (4, .int (nI d)), (5, .int (nI j))] → mO G lo ad (WM G ad th g nf F f no O ir ch R) H → va_S (mA lo) s.heap H locs → W p l e (mRm 3 66) s m args below meth c H locs 0 0 Q (F0 m 92 ls []) := by
                intro n
                induction n with
                | zero => intro j ir H locs ls hn; exact absurd hn (Nat.not_lt_zero _)
                | succ n ih92 =>
                  intro j ir H locs ls hn92 hj hw hl hO hS
                  refine lv_iload hx hb dX6_needs_92 (lv_at hl 5 rfl) ?_
                  refine lv_iload_n hx hb dX6_needs_94 rfl (lv_at hl 2 rfl) ?_
                  refine lv_icmp_ge (tgt := 142) hx hb dX6_needs_95 (by decide) (fun c95 => ?_) (fun c95 => ?_)
                  · refine lv_iinc (v := (nI (d + 1))) (lv' := [(4, .int (nI (d + 1))), (0, .ref (ad 50)), (1, .int (nI i)), (2, .int (nI k)), (3, .int z), (5, .int (nI j))]) hx hb dX6_needs_142 hl (k := 4) rfl (nI_inc d) (by decide) rfl (fun ls hl => ?_)
                    refine lv_goto (tgt := 29) hx hb dX6_needs_145 (by decide) ?_
                    exact ih29 (d + 1) ir _ _ _ (by have := (nI_nL (a := 60) (b := d) (by decide) (by omega) c33); omega) (by have := (nI_nL (a := 60) (b := d) (by decide) (by omega) c33); omega) (by omega) (by have := (nI_nL (a := 60) (b := d) (by decide) (by omega) c33); have e : j = k := Nat.le_antisymm hj (nI_E (a := k) (b := j) (by omega) (by omega) c95); rw [e, Nat.sub_self] at hw; rw [← hv, show 61 - d = (61 - (d + 1)) + 1 from by omega, m_needL, if_pos b38, if_neg (Int32.not_le.mpr c67), ← hw]; rfl) (lv_sub hl [1, 2, 3, 4, 0] rfl) hO hS
                  · refine lv_aload_n hx hb dX6_needs_98 rfl (lv_at hl 0 rfl) ?_
                    refine m_get inX6 hF hC hO rfl rfl 12 (by decide) q_674 (v := .ref (ad 54)) rfl dX6_needs_99 ?_
                    refine lv_iconst (v := 1) hx hb dX6_needs_102 (by decide) ?_
                    refine lv_aload_n hx hb dX6_needs_103 rfl (lv_at hl 0 rfl) ?_
                    refine lv_aload_n hx hb dX6_needs_104 rfl (lv_at hl 0 rfl) ?_
                    refine m_get inX6 hF hC hO rfl rfl 12 (by decide) q_674 (v := .ref (ad 54)) rfl dX6_needs_105 ?_
                    refine lv_iconst (v := 1) hx hb dX6_needs_108 (by decide) ?_
                    refine m_iald hF hC hO rfl (j := 1) (by decide) (vp_in_nI (n := 1) (by decide) (by decide)) dX6_needs_109 ?_
                    refine m_vI (As := [.int (ir 1)]) (rest := [.int 1, .ref (ad 54)]) (n := 1) hF hC hO hS (k_X6_heatBehind l G lo sa ad R th g nf F f no O ir ch (ir 1) hnf hno) ok_X6_heatBehind q_797 rfl rfl ⟨Nat.le_of_ble_eq_true rfl, Nat.le_of_ble_eq_true rfl⟩ rfl hl.1 rfl (Nat.le_of_ble_eq_true rfl) ⟨Nat.le_of_ble_eq_true rfl, Nat.le_of_ble_eq_true rfl⟩ dX6_needs_110 (fun v110 R' H locs hp hO hS => ?_)
                    obtain ⟨rfl, hR⟩ := hp
                    rw [hR] at hO
                    refine m_iast hF hC hO hS rfl (j := 1) (by decide) (vp_in_nI (n := 1) (by decide) (by decide)) dX6_needs_113 (fun H locs hO hS => ?_)
                    have hO : mO G lo ad (mU (WM G ad th g nf F f no O ir ch R) 54 (.inl (G.2 0, 5, .inl (upd ir 1 (p_burn (g 2) (ir 1)))))) H := hO
                    rw [WM_w4] at hO
                    refine lv_aload_n hx hb dX6_needs_114 rfl (lv_at hl 0 rfl) ?_
                    refine m_get inX6 hF hC hO rfl rfl 12 (by decide) q_674 (v := .ref (ad 54)) rfl dX6_needs_115 ?_
                    refine lv_iconst (v := 3) hx hb dX6_needs_118 (by decide) ?_
                    refine lv_iconst (v := 0) hx hb dX6_needs_119 (by decide) ?_
                    refine lv_aload_n hx hb dX6_needs_120 rfl (lv_at hl 0 rfl) ?_
                    refine m_get inX6 hF hC hO rfl rfl 12 (by decide) q_674 (v := .ref (ad 54)) rfl dX6_needs_121 ?_
                    refine lv_iconst (v := 3) hx hb dX6_needs_124 (by decide) ?_
                    refine m_iald hF hC hO rfl (j := 3) (by decide) (vp_in_nI (n := 3) (by decide) (by decide)) dX6_needs_125 ?_
                    rw [show ((upd ir 1 (p_burn (g 2) (ir 1))) 3) = (ir 3) from rfl]
                    refine lv_aload_n hx hb dX6_needs_126 rfl (lv_at hl 0 rfl) ?_
                    refine lv_iload_n hx hb dX6_needs_127 rfl (lv_at hl 1 rfl) ?_
                    refine m_vI (As := [.int (nI i)]) (rest := [.int (ir 3), .int 0, .int 3, .ref (ad 54)]) (n := 1) hF hC hO hS (k_X6_cools l G lo sa ad R th g nf F f no O (upd ir 1 (p_burn (g 2) (ir 1))) ch i hnf hno (by omega)) ok_X6_cools q_802 rfl rfl ⟨Nat.le_of_ble_eq_true rfl, Nat.le_of_ble_eq_true rfl⟩ rfl hl.1 rfl (Nat.le_of_ble_eq_true rfl) ⟨Nat.le_of_ble_eq_true rfl, Nat.le_of_ble_eq_true rfl⟩ dX6_needs_128 (fun v128 R' H locs hp hO hS => ?_)
                    obtain ⟨rfl, hR⟩ := hp
                    rw [hR] at hO
                    refine lv_isub hx hb dX6_needs_131 ?_
                    refine m_max hF hl.1 q_801 q_458 q_14 q_459 (Nat.le_of_ble_eq_true rfl) (Nat.le_of_ble_eq_true rfl) ⟨Nat.le_of_ble_eq_true rfl, Nat.le_of_ble_eq_true rfl⟩ dX6_needs_132 ?_
                    refine m_iast hF hC hO hS rfl (j := 3) (by decide) (vp_in_nI (n := 3) (by decide) (by decide)) dX6_needs_135 (fun H locs hO hS => ?_)
                    have hO : mO G lo ad (mU (WM G ad th g nf F f no O (upd ir 1 (p_burn (g 2) (ir 1))) ch R) 54 (.inl (G.2 0, 5, .inl (upd (upd ir 1 (p_burn (g 2) (ir 1))) 3 (jmax 0 ((ir 3) - (p_cooling (F i)))))))) H := hO
                    rw [WM_w4] at hO
                    refine lv_iinc (v := (nI (j + 1))) (lv' := [(5, .int (nI (j + 1))), (0, .ref (ad 50)), (1, .int (nI i)), (2, .int (nI k)), (3, .int z), (4, .int (nI d))]) hx hb dX6_needs_136 hl (k := 5) rfl (nI_inc j) (by decide) rfl (fun ls hl => ?_)
                    refine lv_goto (tgt := 92) hx hb dX6_needs_139 (by decide) ?_
                    exact ih92 (j + 1) (upd (upd ir 1 (p_burn (g 2) (ir 1))) 3 (jmax 0 ((ir 3) - (p_cooling (F i))))) _ _ _ (by have := (nI_nE (a := k) (b := j) (by omega) (by omega) c95); omega) (by have := (nI_nE (a := k) (b := j) (by omega) (by omega) c95); omega) (by have := (nI_nE (a := k) (b := j) (by omega) (by omega) c95); rw [← hw, show k - j = (k - (j + 1)) + 1 from by omega]; rfl) (lv_sub hl [1, 2, 3, 4, 5, 0] rfl) hO hS
              exact L92 _ 0 (upd (m_dip it9 (F i)) 1 (p_burn (g 2) ((m_dip it9 (F i)) 1))) _ _ _ (Nat.lt_succ_self _) (by omega) rfl (lv_sub hl [1, 2, 3, 4, 5, 0] rfl) hO hS
            · refine lv_iload hx hb dX6_needs_70 (lv_at hl 4 rfl) ?_
              refine m_iret hF hr hlk hQ rfl hO hS dX6_needs_72 ?_
              have h9 := (nI_nL (a := 60) (b := d) (by decide) (by omega) c33)
              rw [show 61 - d = (61 - (d + 1)) + 1 from by omega, m_needL, if_pos b38, if_pos (Int32.not_lt.mp c67)] at hv
              exact ⟨hv, _, rfl⟩
          · rw [hR] at hO
            refine lv_if_ne (tgt := 46) hx hb dX6_needs_41 (by decide) (fun c41 => absurd (by decide) c41) (fun c41 => ?_)
            refine lv_iconst (v := -1) hx hb dX6_needs_44 (by decide) ?_
            refine m_iret hF hr hlk hQ rfl hO hS dX6_needs_45 ?_
            have h9 := (nI_nL (a := 60) (b := d) (by decide) (by omega) c33)
            rw [show 61 - d = (61 - (d + 1)) + 1 from by omega, m_needL, if_neg b38] at hv
            exact ⟨hv, _, rfl⟩
    exact L29 _ 1 (m_take it g (F i)) _ _ _ (Nat.lt_succ_self _) (by omega) (by omega) (by rw [m_need, if_neg (Int32.not_le.mpr c21)]) (lv_sub hl [1, 2, 3, 4, 0] rfl) hO hS
  · refine lv_iconst (v := 0) hx hb dX6_needs_24 (by decide) ?_
    refine m_iret hF hr hlk hQ rfl hO hS dX6_needs_25 ?_
    exact ⟨by rw [m_need]; exact (if_pos (Int32.not_lt.mp c21)).symm, _, rfl⟩
theorem ok_X6_orderTold : mOK RX6 yX6_orderTold cX6_orderTold 3 (some .int) 2 := ⟨q_859, qs_38, q_6, q_860, by decide +kernel⟩
set_option maxHeartbeats 400000 in
set_option maxRecDepth 100000 in
theorem k_X6_orderTold (l : Launch) (G : mG) (lo : Nat) (sa ad : Nat → Nat) (R : mM) (th : Int32) (g : Nat → Int32) (nf : Nat) (F : Nat → Nat → Int32) (f : Nat → Int32) (no : Nat) (O : Nat → Nat → Int32) (it ch : Nat → Int32) (i k kk zz : Nat) (hnf : nf ≤ 12) (hno : no ≤ 20) (hi : i < 20) (hk6 : k < 6) (hk : kk < 4) (hz1 : 1 ≤ zz) (hz9 : zz ≤ 9) (hw0 : O i 0 = nI kk) (hw1 : O i 1 = nI zz) : mI l yX6_orderTold cX6_orderTold 3 .int 2 45 G lo sa ad (WM G ad th g nf F f no O it ch R) [.ref (ad 50), .int (nI i), .int (nI k)] (fun v R' => v = (if k < 5 then O i k else if O i 4 ≠ 1 ∧ O i 2 ≤ p_amountFrom f kk zz then 1 else 0) ∧ R' = (WM G ad th g nf F f no O it ch R)) := by
  refine mI_of (by decide) (Nat.le_of_ble_eq_true rfl) ?_
  intro p e s m args below meth c hF hr hlk hC ls hl hO hS Q hQ
  have hx := hF.1
  have hb := hF.2.1
  have hl : lv_has ls 3 [(0, .ref (ad 50)), (1, .int (nI i)), (2, .int (nI k))] := hl
  refine lv_iload_n hx hb dX6_orderTold_0 rfl (lv_at hl 2 rfl) ?_
  refine lv_iconst (v := 5) hx hb dX6_orderTold_1 (by decide) ?_
  refine lv_icmp_ge (tgt := 14) hx hb dX6_orderTold_2 (by decide) (fun c2 => ?_) (fun c2 => ?_)
  · refine lv_aload_n hx hb dX6_orderTold_14 rfl (lv_at hl 0 rfl) ?_
    refine lv_iload_n hx hb dX6_orderTold_15 rfl (lv_at hl 1 rfl) ?_
    refine m_vI (As := [.int (nI i)]) (rest := []) (n := 1) hF hC hO hS (k_X6_canFill l G lo sa ad R th g nf F f no O it ch i kk zz hnf hno (by omega) (by omega) (by omega) (by omega) hw0 hw1) ok_X6_canFill q_841 rfl rfl ⟨Nat.le_of_ble_eq_true rfl, Nat.le_of_ble_eq_true rfl⟩ rfl hl.1 rfl (Nat.le_of_ble_eq_true rfl) ⟨Nat.le_of_ble_eq_true rfl, Nat.le_of_ble_eq_true rfl⟩ dX6_orderTold_16 (fun v16 R' H locs hp hO hS => ?_)
    obtain ⟨⟨rfl, b16⟩ | ⟨rfl, b16⟩, hR⟩ := hp
    · rw [hR] at hO
      refine lv_if_eq (tgt := 26) hx hb dX6_orderTold_19 (by decide) (fun c19 => absurd c19 (by decide)) (fun c19 => ?_)
      refine lv_iconst (v := 1) hx hb dX6_orderTold_22 (by decide) ?_
      refine lv_goto (tgt := 27) hx hb dX6_orderTold_23 (by decide) ?_
      refine m_iret hF hr hlk hQ rfl hO hS dX6_orderTold_27 ?_
      exact ⟨by rw [if_neg (Nat.not_lt.mpr (nI_E (a := 5) (b := k) (by decide) (by omega) c2)), if_pos b16], rfl⟩
    · rw [hR] at hO
      refine lv_if_eq (tgt := 26) hx hb dX6_orderTold_19 (by decide) (fun c19 => ?_) (fun c19 => absurd (by decide) c19)
      refine lv_iconst (v := 0) hx hb dX6_orderTold_26 (by decide) ?_
      refine m_iret hF hr hlk hQ rfl hO hS dX6_orderTold_27 ?_
      exact ⟨by rw [if_neg (Nat.not_lt.mpr (nI_E (a := 5) (b := k) (by decide) (by omega) c2)), if_neg b16], rfl⟩
  · refine lv_aload_n hx hb dX6_orderTold_5 rfl (lv_at hl 0 rfl) ?_
    refine lv_iload_n hx hb dX6_orderTold_6 rfl (lv_at hl 1 rfl) ?_
    refine lv_iload_n hx hb dX6_orderTold_7 rfl (lv_at hl 2 rfl) ?_
    refine m_vI (As := [.int (nI i), .int (nI k)]) (rest := []) (n := 2) hF hC hO hS (k_X6_or l G lo sa ad R th g nf F f no O it ch i k hnf hno (by omega) (nI_nE (a := 5) (b := k) (by decide) (by omega) c2)) ok_X6_or q_806 rfl rfl ⟨Nat.le_of_ble_eq_true rfl, Nat.le_of_ble_eq_true rfl⟩ rfl hl.1 rfl (Nat.le_of_ble_eq_true rfl) ⟨Nat.le_of_ble_eq_true rfl, Nat.le_of_ble_eq_true rfl⟩ dX6_orderTold_8 (fun v8 R' H locs hp hO hS => ?_)
    obtain ⟨rfl, hR⟩ := hp
    rw [hR] at hO
    refine lv_goto (tgt := 27) hx hb dX6_orderTold_11 (by decide) ?_
    refine m_iret hF hr hlk hQ rfl hO hS dX6_orderTold_27 ?_
    exact ⟨(if_pos (nI_nE (a := 5) (b := k) (by decide) (by omega) c2)).symm, rfl⟩
theorem ok_X6_counted : mOK RX6 yX6_counted cX6_counted 4 (some .int) 1 := ⟨q_871, qs_39, q_6, q_872, by decide +kernel⟩
set_option maxHeartbeats 400000 in
set_option maxRecDepth 100000 in
theorem k_X6_counted (l : Launch) (G : mG) (lo : Nat) (sa ad : Nat → Nat) (R : mM) (th : Int32) (g : Nat → Int32) (nf : Nat) (F : Nat → Nat → Int32) (f : Nat → Int32) (no : Nat) (O : Nat → Nat → Int32) (it ch : Nat → Int32) (k : Nat) (hnf : nf ≤ 12) (hno : no ≤ 20) (hk8 : k ≤ 8) : mI l yX6_counted cX6_counted 4 .int 2 45 G lo sa ad (WM G ad th g nf F f no O it ch R) [.ref (ad 50), .int (nI k)] (fun v R' => v = (m_count g nf F f no O k) ∧ R' = (WM G ad th g nf F f no O it ch R)) := by
  refine mI_of (by decide) (Nat.le_of_ble_eq_true rfl) ?_
  intro p e s m args below meth c hF hr hlk hC ls hl hO hS Q hQ
  have hx := hF.1
  have hb := hF.2.1
  have hl : lv_has ls 4 [(0, .ref (ad 50)), (1, .int (nI k))] := hl
  refine lv_iconst (v := 0) hx hb dX6_counted_0 (by decide) ?_
  refine lv_istore_n (lv' := [(2, .int 0), (0, .ref (ad 50)), (1, .int (nI k))]) hx hb dX6_counted_1 rfl hl (by decide) rfl (fun ls hl => ?_)
  refine lv_iload_n hx hb dX6_counted_2 rfl (lv_at hl 2 rfl) ?_
  rcases (show k = 0 ∨ k = 1 ∨ k = 2 ∨ k = 3 ∨ k = 4 ∨ k = 5 ∨ k = 6 ∨ k = 7 ∨ k = 8 by omega) with rfl | rfl | rfl | rfl | rfl | rfl | rfl | rfl | rfl
  · refine lv_tableIn (off := 45) (tgt := 48) hx hb dX6_counted_3 (by decide) (by decide) (by decide) (by decide) ?_
    refine lv_aload_n hx hb dX6_counted_48 rfl (lv_at hl 1 rfl) ?_
    refine m_get inX6 hF hC hO rfl rfl 9 (by decide) q_671 (v := .int (g 3)) rfl dX6_counted_49 ?_
    refine m_iret hF hr hlk hQ rfl hO hS dX6_counted_52 ?_
    exact ⟨rfl, rfl⟩
  · refine lv_tableIn (off := 50) (tgt := 53) hx hb dX6_counted_3 (by decide) (by decide) (by decide) (by decide) ?_
    refine lv_aload_n hx hb dX6_counted_53 rfl (lv_at hl 1 rfl) ?_
    refine m_get inX6 hF hC hO rfl rfl 4 (by decide) q_666 (v := .int (nI nf)) rfl dX6_counted_54 ?_
    refine m_iret hF hr hlk hQ rfl hO hS dX6_counted_57 ?_
    exact ⟨rfl, rfl⟩
  · refine lv_tableIn (off := 55) (tgt := 58) hx hb dX6_counted_3 (by decide) (by decide) (by decide) (by decide) ?_
    refine lv_iconst (v := 0) hx hb dX6_counted_58 (by decide) ?_
    refine lv_istore_n (lv' := [(3, .int 0), (2, .int 0), (0, .ref (ad 50)), (1, .int (nI 2))]) hx hb dX6_counted_59 rfl hl (by decide) rfl (fun ls hl => ?_)
    have L60 : ∀ (n : Nat) (i : Nat) (acc : Int32) (H : Heap) (locs : List Loc) (ls : Array Slot), nf - i < n → i ≤ nf → m_hangL (nf - i) i F acc = m_hangL nf 0 F 0 → lv_has ls 4 [(0, .ref (ad 50)), (1, .int (nI 2)), (3, .int (nI i)), (2, .int acc)] → mO G lo ad (WM G ad th g nf F f no O it ch R) H → va_S (mA lo) s.heap H locs → W p l e (mRm 2 45) s m args below meth c H locs 0 0 Q (F0 m 60 ls []) := by
      intro n
      induction n with
      | zero => intro i acc H locs ls hn; exact absurd hn (Nat.not_lt_zero _)
      | succ n ih60 =>
        intro i acc H locs ls hn60 hi hv hl hO hS
        refine lv_iload_n hx hb dX6_counted_60 rfl (lv_at hl 2 rfl) ?_
        refine lv_aload_n hx hb dX6_counted_61 rfl (lv_at hl 0 rfl) ?_
        refine m_get inX6 hF hC hO rfl rfl 4 (by decide) q_666 (v := .int (nI nf)) rfl dX6_counted_62 ?_
        refine lv_icmp_ge (tgt := 90) hx hb dX6_counted_65 (by decide) (fun c65 => ?_) (fun c65 => ?_)
        · refine lv_iload_n hx hb dX6_counted_90 rfl (lv_at hl 3 rfl) ?_
          refine m_iret hF hr hlk hQ rfl hO hS dX6_counted_91 ?_
          have e : i = nf := Nat.le_antisymm hi (nI_E (a := nf) (b := i) (by omega) (by omega) c65)
          subst e
          rw [Nat.sub_self] at hv
          exact ⟨hv, rfl⟩
        · refine lv_iload_n hx hb dX6_counted_68 rfl (lv_at hl 3 rfl) ?_
          refine lv_aload_n hx hb dX6_counted_69 rfl (lv_at hl 0 rfl) ?_
          refine lv_iload_n hx hb dX6_counted_70 rfl (lv_at hl 2 rfl) ?_
          refine m_vI (As := [.int (nI i)]) (rest := [.int acc]) (n := 1) hF hC hO hS (k_X6_hangs l G lo sa ad R th g nf F f no O it ch i hnf hno (by have := (nI_nE (a := nf) (b := i) (by omega) (by omega) c65); omega)) ok_X6_hangs q_772 rfl rfl ⟨Nat.le_of_ble_eq_true rfl, Nat.le_of_ble_eq_true rfl⟩ rfl hl.1 rfl (Nat.le_of_ble_eq_true rfl) ⟨Nat.le_of_ble_eq_true rfl, Nat.le_of_ble_eq_true rfl⟩ dX6_counted_71 (fun v71 R' H locs hp hO hS => ?_)
          obtain ⟨⟨rfl, b71⟩ | ⟨rfl, b71⟩, hR⟩ := hp
          · rw [hR] at hO
            refine lv_if_eq (tgt := 81) hx hb dX6_counted_74 (by decide) (fun c74 => absurd c74 (by decide)) (fun c74 => ?_)
            refine lv_iconst (v := 1) hx hb dX6_counted_77 (by decide) ?_
            refine lv_goto (tgt := 82) hx hb dX6_counted_78 (by decide) ?_
            refine lv_iadd hx hb dX6_counted_82 ?_
            refine lv_istore_n (lv' := [(2, .int (acc + 1)), (0, .ref (ad 50)), (1, .int (nI 2)), (3, .int (nI i))]) hx hb dX6_counted_83 rfl hl (by decide) rfl (fun ls hl => ?_)
            refine lv_iinc (v := (nI (i + 1))) (lv' := [(3, .int (nI (i + 1))), (2, .int (acc + 1)), (0, .ref (ad 50)), (1, .int (nI 2))]) hx hb dX6_counted_84 hl (k := 3) rfl (nI_inc i) (by decide) rfl (fun ls hl => ?_)
            refine lv_goto (tgt := 60) hx hb dX6_counted_87 (by decide) ?_
            exact ih60 (i + 1) (acc + 1) _ _ _ (by have := (nI_nE (a := nf) (b := i) (by omega) (by omega) c65); omega) (by have := (nI_nE (a := nf) (b := i) (by omega) (by omega) c65); omega) (by have := (nI_nE (a := nf) (b := i) (by omega) (by omega) c65); rw [← hv, show nf - i = (nf - (i + 1)) + 1 from by omega, m_hangL, if_pos b71]) (lv_sub hl [2, 3, 0, 1] rfl) hO hS
          · rw [hR] at hO
            refine lv_if_eq (tgt := 81) hx hb dX6_counted_74 (by decide) (fun c74 => ?_) (fun c74 => absurd (by decide) c74)
            refine lv_iconst (v := 0) hx hb dX6_counted_81 (by decide) ?_
            refine lv_iadd hx hb dX6_counted_82 ?_
            refine lv_istore_n (lv' := [(2, .int (acc + 0)), (0, .ref (ad 50)), (1, .int (nI 2)), (3, .int (nI i))]) hx hb dX6_counted_83 rfl hl (by decide) rfl (fun ls hl => ?_)
            refine lv_iinc (v := (nI (i + 1))) (lv' := [(3, .int (nI (i + 1))), (2, .int (acc + 0)), (0, .ref (ad 50)), (1, .int (nI 2))]) hx hb dX6_counted_84 hl (k := 3) rfl (nI_inc i) (by decide) rfl (fun ls hl => ?_)
            refine lv_goto (tgt := 60) hx hb dX6_counted_87 (by decide) ?_
            exact ih60 (i + 1) (acc + 0) _ _ _ (by have := (nI_nE (a := nf) (b := i) (by omega) (by omega) c65); omega) (by have := (nI_nE (a := nf) (b := i) (by omega) (by omega) c65); omega) (by have := (nI_nE (a := nf) (b := i) (by omega) (by omega) c65); rw [← hv, show nf - i = (nf - (i + 1)) + 1 from by omega, m_hangL, if_neg b71]) (lv_sub hl [2, 3, 0, 1] rfl) hO hS
    exact L60 _ 0 0 _ _ _ (Nat.lt_succ_self _) (by omega) rfl (lv_sub hl [2, 3, 0, 1] rfl) hO hS
  · refine lv_tableIn (off := 89) (tgt := 92) hx hb dX6_counted_3 (by decide) (by decide) (by decide) (by decide) ?_
    refine lv_aload_n hx hb dX6_counted_92 rfl (lv_at hl 1 rfl) ?_
    refine m_vI (As := []) (rest := []) (n := 0) hF hC hO hS (k_X6_inStore l G lo sa ad R th g nf F f no O it ch hnf hno) ok_X6_inStore q_849 rfl rfl ⟨Nat.le_of_ble_eq_true rfl, Nat.le_of_ble_eq_true rfl⟩ rfl hl.1 rfl (Nat.le_of_ble_eq_true rfl) ⟨Nat.le_of_ble_eq_true rfl, Nat.le_of_ble_eq_true rfl⟩ dX6_counted_93 (fun v93 R' H locs hp hO hS => ?_)
    obtain ⟨rfl, hR⟩ := hp
    rw [hR] at hO
    refine m_iret hF hr hlk hQ rfl hO hS dX6_counted_96 ?_
    exact ⟨rfl, rfl⟩
  · refine lv_tableIn (off := 94) (tgt := 97) hx hb dX6_counted_3 (by decide) (by decide) (by decide) (by decide) ?_
    refine lv_aload_n hx hb dX6_counted_97 rfl (lv_at hl 1 rfl) ?_
    refine m_get inX6 hF hC hO rfl rfl 7 (by decide) q_669 (v := .int (nI no)) rfl dX6_counted_98 ?_
    refine m_iret hF hr hlk hQ rfl hO hS dX6_counted_101 ?_
    exact ⟨rfl, rfl⟩
  · refine lv_tableIn (off := 99) (tgt := 102) hx hb dX6_counted_3 (by decide) (by decide) (by decide) (by decide) ?_
    refine lv_aload_n hx hb dX6_counted_102 rfl (lv_at hl 1 rfl) ?_
    refine lv_iload_n hx hb dX6_counted_103 rfl (lv_at hl 2 rfl) ?_
    refine lv_iconst (v := 4) hx hb dX6_counted_104 (by decide) ?_
    refine lv_isub hx hb dX6_counted_105 ?_
    refine m_vI (As := [.int ((nI 5) - 4)]) (rest := []) (n := 1) hF hC hO hS (k_X6_with l G lo sa ad R th g nf F f no O it ch ((nI 5) - 4) hnf hno) ok_X6_with q_873 rfl rfl ⟨Nat.le_of_ble_eq_true rfl, Nat.le_of_ble_eq_true rfl⟩ rfl hl.1 rfl (Nat.le_of_ble_eq_true rfl) ⟨Nat.le_of_ble_eq_true rfl, Nat.le_of_ble_eq_true rfl⟩ dX6_counted_106 (fun v106 R' H locs hp hO hS => ?_)
    obtain ⟨rfl, hR⟩ := hp
    rw [hR] at hO
    refine m_iret hF hr hlk hQ rfl hO hS dX6_counted_109 ?_
    exact ⟨rfl, rfl⟩
  · refine lv_tableIn (off := 99) (tgt := 102) hx hb dX6_counted_3 (by decide) (by decide) (by decide) (by decide) ?_
    refine lv_aload_n hx hb dX6_counted_102 rfl (lv_at hl 1 rfl) ?_
    refine lv_iload_n hx hb dX6_counted_103 rfl (lv_at hl 2 rfl) ?_
    refine lv_iconst (v := 4) hx hb dX6_counted_104 (by decide) ?_
    refine lv_isub hx hb dX6_counted_105 ?_
    refine m_vI (As := [.int ((nI 6) - 4)]) (rest := []) (n := 1) hF hC hO hS (k_X6_with l G lo sa ad R th g nf F f no O it ch ((nI 6) - 4) hnf hno) ok_X6_with q_873 rfl rfl ⟨Nat.le_of_ble_eq_true rfl, Nat.le_of_ble_eq_true rfl⟩ rfl hl.1 rfl (Nat.le_of_ble_eq_true rfl) ⟨Nat.le_of_ble_eq_true rfl, Nat.le_of_ble_eq_true rfl⟩ dX6_counted_106 (fun v106 R' H locs hp hO hS => ?_)
    obtain ⟨rfl, hR⟩ := hp
    rw [hR] at hO
    refine m_iret hF hr hlk hQ rfl hO hS dX6_counted_109 ?_
    exact ⟨rfl, rfl⟩
  · refine lv_tableIn (off := 107) (tgt := 110) hx hb dX6_counted_3 (by decide) (by decide) (by decide) (by decide) ?_
    refine lv_aload_n hx hb dX6_counted_110 rfl (lv_at hl 1 rfl) ?_
    refine m_get inX6 hF hC hO rfl rfl 10 (by decide) q_672 (v := .int (g 4)) rfl dX6_counted_111 ?_
    refine m_iret hF hr hlk hQ rfl hO hS dX6_counted_114 ?_
    exact ⟨rfl, rfl⟩
  · refine lv_tableOut (tgt := 115) hx hb dX6_counted_3 (by decide) (by decide) ?_
    refine lv_aload_n hx hb dX6_counted_115 rfl (lv_at hl 1 rfl) ?_
    refine m_get inX6 hF hC hO rfl rfl 11 (by decide) q_673 (v := .int (g 5)) rfl dX6_counted_116 ?_
    refine m_iret hF hr hlk hQ rfl hO hS dX6_counted_119 ?_
    exact ⟨rfl, rfl⟩
