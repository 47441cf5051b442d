set_option maxHeartbeats 1000000 in
set_option maxRecDepth 100000 in
theorem seg_g {p : Program} {l : Launch} {e : Env} {s : State} {m : MethodId} {below : List Frame} {meth : Method} {c : Code} {lo : Nat} {G : mG} {sa : mSc} {R : mM} (X : LwX p s m meth c lo G sa) {t : Nat} (ht : t < 40) (hz : ∀ x, 50 ≤ x → R x = none) (h1297 : L1297 p l e s m below meth c lo G sa R t) : L964 p l e s m below meth c lo G sa R t := by
  intro ad g nf F f no O w tf tv fw A x H locs ls cells slots hI h1 hfw hO hS hl hc9 hs9
  have hF := X.1
  have hC := X.2.1
  have hx := hF.1
  have hb := hF.2.1
  have hnf : nf ≤ 12 := by have := hI.1; omega
  have hno : no ≤ 20 := hI.2.1
  have hFv := hI.fr
  have hOv := hI.or
  refine lv_iload hx hb dL_law_964 (lv_at hl 5 rfl) ?_
  refine lv_iconst (v := 5) hx hb dL_law_966 (by decide) ?_
  refine lv_ishr hx hb dL_law_967 ?_
  generalize (x >>> (5 &&& 31)) = sh967
  refine lv_iload_n hx hb dL_law_968 rfl (lv_at hl 3 rfl) ?_
  refine m_sI (As := [.int sh967, .int (nI nf)]) (rest := []) (n := 2) hF hC hO hS (k_L_below l G lo sa ad _ sh967 nf (by omega) (by omega)) ok_L_below q_479 ⟨Nat.le_of_ble_eq_true rfl, Nat.le_of_ble_eq_true rfl⟩ rfl hl.1 rfl (Nat.le_of_ble_eq_true rfl) ⟨(by show _ ≤ 600104; omega), (by show _ ≤ 7301314; omega)⟩ dL_law_969 (fun v969 R' H locs hp hO hS => ?_)
  obtain ⟨⟨k, hk, rfl⟩, hR⟩ := hp
  rw [hR] at hO
  refine lv_istore (lv' := [(14, .int (nI k)), (0, .ref sa.1), (1, .ref (ad 0)), (2, .ref (ad 50)), (3, .int (nI nf)), (4, .int (nI t)), (5, .int x), (6, .ref (ad 60))]) hx hb dL_law_972 hl (by decide) rfl (fun ls hl => ?_)
  refine lv_aload_n hx hb dL_law_974 rfl (lv_at hl 2 rfl) ?_
  refine lv_iload hx hb dL_law_975 (lv_at hl 0 rfl) ?_
  refine lv_iconst (v := 2) hx hb dL_law_977 (by decide) ?_
  rw [← WC_WS] at hO
  refine m_vI (As := [.int (nI k), .int 2]) (rest := []) (n := 2) hF hC hO hS (k_X5_frame l G lo sa ad (WS G ad g nf F f no O w (WW G ad nf A R)) g nf F f no O tf tv fw k 2 hnf hno hk (by decide) ((hFv k hk).c01)) ok_X5_frame q_338 rfl rfl ⟨Nat.le_of_ble_eq_true rfl, Nat.le_of_ble_eq_true rfl⟩ rfl hl.1 rfl (Nat.le_of_ble_eq_true rfl) ⟨(by show _ ≤ 600104; omega), (by show _ ≤ 7301314; omega)⟩ dL_law_978 (fun v978 R' H locs hp hO hS => ?_)
  obtain ⟨rfl, hR⟩ := hp
  rw [hR] at hO
  rw [show c_frame (F k) 2 = (F k 2) from rfl]
  refine lv_if_eq (tgt := 1297) hx hb dL_law_981 (by decide) (fun c981 => ?_) (fun c981 => ?_)
  · rw [WC_WS] at hO
    have hO := was_gone hz hO
    exact h1297 ad g nf F f no O w tf tv fw H _ _ _ _ (hI.mono (by omega) (by omega)) h1 hfw hO hS (lv_sub hl [1, 2, 3, 4, 5] rfl) hc9 hs9
  · refine lv_aload_n hx hb dL_law_984 rfl (lv_at hl 2 rfl) ?_
    refine lv_iload hx hb dL_law_985 (lv_at hl 0 rfl) ?_
    refine lv_iconst (v := 3) hx hb dL_law_987 (by decide) ?_
    refine m_vI (As := [.int (nI k), .int 3]) (rest := []) (n := 2) hF hC hO hS (k_X5_frame l G lo sa ad (WS G ad g nf F f no O w (WW G ad nf A R)) g nf F f no O tf tv fw k 3 hnf hno hk (by decide) ((hFv k hk).c01)) ok_X5_frame q_338 rfl rfl ⟨Nat.le_of_ble_eq_true rfl, Nat.le_of_ble_eq_true rfl⟩ rfl hl.1 rfl (Nat.le_of_ble_eq_true rfl) ⟨(by show _ ≤ 600104; omega), (by show _ ≤ 7301314; omega)⟩ dL_law_988 (fun v988 R' H locs hp hO hS => ?_)
    obtain ⟨rfl, hR⟩ := hp
    rw [hR] at hO
    rw [show c_frame (F k) 3 = (F k 3) from rfl]
    refine lv_bipush (v := 20) hx hb dL_law_991 (by decide) ?_
    refine lv_icmp_gt (tgt := 1297) hx hb dL_law_993 (by decide) (fun c993 => ?_) (fun c993 => ?_)
    · rw [WC_WS] at hO
      have hO := was_gone hz hO
      exact h1297 ad g nf F f no O w tf tv fw H _ _ _ _ (hI.mono (by omega) (by omega)) h1 hfw hO hS (lv_sub hl [1, 2, 3, 4, 5] rfl) hc9 hs9
    · refine lv_iload hx hb dL_law_996 (lv_at hl 6 rfl) ?_
      refine lv_bipush (v := 6) hx hb dL_law_998 (by decide) ?_
      refine lv_ishr hx hb dL_law_1000 ?_
      generalize (x >>> (6 &&& 31)) = sh1000
      refine lv_iconst (v := 3) hx hb dL_law_1001 (by decide) ?_
      refine m_sI (As := [.int sh1000, .int 3]) (rest := []) (n := 2) hF hC hO hS (k_L_below l G lo sa ad _ sh1000 3 (by omega) (by omega)) ok_L_below q_479 ⟨Nat.le_of_ble_eq_true rfl, Nat.le_of_ble_eq_true rfl⟩ rfl hl.1 rfl (Nat.le_of_ble_eq_true rfl) ⟨(by show _ ≤ 600104; omega), (by show _ ≤ 7301314; omega)⟩ dL_law_1002 (fun v1002 R' H locs hp hO hS => ?_)
      obtain ⟨⟨k3, hk3, rfl⟩, hR⟩ := hp
      rw [hR] at hO
      refine lv_if_le (tgt := 1011) hx hb dL_law_1005 (by decide) (fun c1005 => ?_) (fun c1005 => ?_)
      · refine lv_aload_n hx hb dL_law_1011 rfl (lv_at hl 2 rfl) ?_
        refine lv_iconst (v := 3) hx hb dL_law_1012 (by decide) ?_
        refine m_vI (As := [.int 3]) (rest := []) (n := 1) hF hC hO hS (k_X5_count l G lo sa ad (WS G ad g nf F f no O w (WW G ad nf A R)) g nf F f no O tf tv fw 3 hnf hno (by omega)) ok_X5_count q_383 rfl rfl ⟨Nat.le_of_ble_eq_true rfl, Nat.le_of_ble_eq_true rfl⟩ rfl hl.1 rfl (Nat.le_of_ble_eq_true rfl) ⟨(by show _ ≤ 600104; omega), (by show _ ≤ 7301314; omega)⟩ dL_law_1013 (fun v1013 R' H locs hp hO hS => ?_)
        obtain ⟨rfl, hR⟩ := hp
        rw [hR] at hO
        rw [show c_count g nf F f no O 3 = (p_sum 36 f 0 0) from rfl]
        refine lv_istore (lv' := [(15, .int (p_sum 36 f 0 0)), (14, .int (nI k)), (0, .ref sa.1), (1, .ref (ad 0)), (2, .ref (ad 50)), (3, .int (nI nf)), (4, .int (nI t)), (5, .int x), (6, .ref (ad 60))]) hx hb dL_law_1016 hl (by decide) rfl (fun ls hl => ?_)
        refine lv_aload_n hx hb dL_law_1018 rfl (lv_at hl 3 rfl) ?_
        refine lv_bipush (v := 8) hx hb dL_law_1019 (by decide) ?_
        refine m_vI (As := [.int 8]) (rest := []) (n := 1) hF hC hO hS (k_X5_count l G lo sa ad (WS G ad g nf F f no O w (WW G ad nf A R)) g nf F f no O tf tv fw 8 hnf hno (by omega)) ok_X5_count q_383 rfl rfl ⟨Nat.le_of_ble_eq_true rfl, Nat.le_of_ble_eq_true rfl⟩ rfl hl.1 rfl (Nat.le_of_ble_eq_true rfl) ⟨(by show _ ≤ 600104; omega), (by show _ ≤ 7301314; omega)⟩ dL_law_1021 (fun v1021 R' H locs hp hO hS => ?_)
        obtain ⟨rfl, hR⟩ := hp
        rw [hR] at hO
        rw [show c_count g nf F f no O 8 = (g 5) from rfl]
        refine lv_istore (lv' := [(16, .int (g 5)), (15, .int (p_sum 36 f 0 0)), (14, .int (nI k)), (0, .ref sa.1), (1, .ref (ad 0)), (2, .ref (ad 50)), (3, .int (nI nf)), (4, .int (nI t)), (5, .int x), (6, .ref (ad 60))]) hx hb dL_law_1024 hl (by decide) rfl (fun ls hl => ?_)
        refine lv_aload_n hx hb dL_law_1026 rfl (lv_at hl 4 rfl) ?_
        refine lv_iload hx hb dL_law_1027 (lv_at hl 2 rfl) ?_
        refine lv_bipush (v := 7) hx hb dL_law_1029 (by decide) ?_
        refine m_vI (As := [.int (nI k), .int 7]) (rest := []) (n := 2) hF hC hO hS (k_X5_frame l G lo sa ad (WS G ad g nf F f no O w (WW G ad nf A R)) g nf F f no O tf tv fw k 7 hnf hno hk (by decide) ((hFv k hk).c01)) ok_X5_frame q_338 rfl rfl ⟨Nat.le_of_ble_eq_true rfl, Nat.le_of_ble_eq_true rfl⟩ rfl hl.1 rfl (Nat.le_of_ble_eq_true rfl) ⟨(by show _ ≤ 600104; omega), (by show _ ≤ 7301314; omega)⟩ dL_law_1031 (fun v1031 R' H locs hp hO hS => ?_)
        obtain ⟨rfl, hR⟩ := hp
        rw [hR] at hO
        rw [show c_frame (F k) 7 = (p_size (F k)) from rfl]
        refine lv_istore (lv' := [(17, .int (p_size (F k))), (16, .int (g 5)), (15, .int (p_sum 36 f 0 0)), (14, .int (nI k)), (0, .ref sa.1), (1, .ref (ad 0)), (2, .ref (ad 50)), (3, .int (nI nf)), (4, .int (nI t)), (5, .int x), (6, .ref (ad 60))]) hx hb dL_law_1034 hl (by decide) rfl (fun ls hl => ?_)
        refine lv_aload_n hx hb dL_law_1036 rfl (lv_at hl 5 rfl) ?_
        refine lv_iload hx hb dL_law_1037 (lv_at hl 3 rfl) ?_
        refine lv_iconst (v := 1) hx hb dL_law_1039 (by decide) ?_
        refine m_vI (As := [.int (nI k), .int 1]) (rest := []) (n := 2) hF hC hO hS (k_X5_frame l G lo sa ad (WS G ad g nf F f no O w (WW G ad nf A R)) g nf F f no O tf tv fw k 1 hnf hno hk (by decide) ((hFv k hk).c01)) ok_X5_frame q_338 rfl rfl ⟨Nat.le_of_ble_eq_true rfl, Nat.le_of_ble_eq_true rfl⟩ rfl hl.1 rfl (Nat.le_of_ble_eq_true rfl) ⟨(by show _ ≤ 600104; omega), (by show _ ≤ 7301314; omega)⟩ dL_law_1040 (fun v1040 R' H locs hp hO hS => ?_)
        obtain ⟨rfl, hR⟩ := hp
        rw [hR] at hO
        rw [show c_frame (F k) 1 = (F k 1) from rfl]
        refine lv_istore (lv' := [(18, .int (F k 1)), (17, .int (p_size (F k))), (16, .int (g 5)), (15, .int (p_sum 36 f 0 0)), (14, .int (nI k)), (0, .ref sa.1), (1, .ref (ad 0)), (2, .ref (ad 50)), (3, .int (nI nf)), (4, .int (nI t)), (5, .int x), (6, .ref (ad 60))]) hx hb dL_law_1043 hl (by decide) rfl (fun ls hl => ?_)
        refine lv_iload hx hb dL_law_1045 (lv_at hl 1 rfl) ?_
        refine lv_if_le (tgt := 1066) hx hb dL_law_1047 (by decide) (fun c1047 => ?_) (fun c1047 => ?_)
        · refine lv_iconst (v := 0) hx hb dL_law_1066 (by decide) ?_
          have he : p_size (F k) = 0 := size_0 (hFv k hk).size0 c1047
          obtain ⟨kk, hkk, hk0⟩ := (hFv k hk).kind
          refine lv_istore (lv' := [(19, .int 0), (18, .int (F k 1)), (17, .int (p_size (F k))), (16, .int (g 5)), (15, .int (p_sum 36 f 0 0)), (14, .int (nI k)), (0, .ref sa.1), (1, .ref (ad 0)), (2, .ref (ad 50)), (3, .int (nI nf)), (4, .int (nI t)), (5, .int x), (6, .ref (ad 60))]) hx hb dL_law_1067 hl (by decide) rfl (fun ls hl => ?_)
          refine lv_aload_n hx hb dL_law_1069 rfl (lv_at hl 7 rfl) ?_
          refine lv_iload hx hb dL_law_1070 (lv_at hl 5 rfl) ?_
          refine m_vI (As := [.int (nI k)]) (rest := []) (n := 1) hF hC hO hS (k_X5_cutOff l G lo sa ad (WS G ad g nf F f no O w (WW G ad nf A R)) g nf F f no O tf tv fw k kk hnf hno hk hkk hk0 c981 (fun q9 => absurd q9 c993) ((hFv k hk).size0)) ok_X5_cutOff q_305 rfl rfl ⟨Nat.le_of_ble_eq_true rfl, Nat.le_of_ble_eq_true rfl⟩ rfl hl.1 rfl (Nat.le_of_ble_eq_true rfl) ⟨(by show _ ≤ 600104; omega), (by show _ ≤ 7301314; omega)⟩ dL_law_1072 (fun v1072 R' H locs hp hO hS => ?_)
          obtain ⟨rfl, hR⟩ := hp
          rw [hR] at hO
          obtain ⟨g1, hg1⟩ : ∃ z, z = CG_cut g (F k) := ⟨_, rfl⟩
          obtain ⟨F1, hF1⟩ : ∃ z, z = va_up F k (p_renewF (F k)) := ⟨_, rfl⟩
          obtain ⟨f1, hf1⟩ : ∃ z, z = Cf_cut f (F k) := ⟨_, rfl⟩
          rw [← hg1, ← hF1, ← hf1] at hO
          have hI1 : IV (37 + 3 * t) (3 * t + 2 + 1) g1 nf F1 f1 no O := by rw [hg1, hF1, hf1]; exact iv_cut hI hk
          have hff : f1 = f := hf1.trans (cutf_n he)
          have hF1k : F1 k = p_renewF (F k) := by rw [hF1, va_upat]
          refine lv_iload hx hb dL_law_1075 (lv_at hl 2 rfl) ?_
          refine lv_icmp_ne (tgt := 1172) hx hb dL_law_1077 (by decide) (fun c1077 => absurd rfl c1077) (fun c1077 => ?_)
          refine lv_aload_n hx hb dL_law_1080 rfl (lv_at hl 7 rfl) ?_
          refine lv_iconst (v := 3) hx hb dL_law_1081 (by decide) ?_
          refine m_vI (As := [.int 3]) (rest := []) (n := 1) hF hC hO hS (k_X5_count l G lo sa ad (WS G ad g nf F f no O w (WW G ad nf A R)) g1 nf F1 f1 no O tf tv fw 3 hnf hno (by omega)) ok_X5_count q_383 rfl rfl ⟨Nat.le_of_ble_eq_true rfl, Nat.le_of_ble_eq_true rfl⟩ rfl hl.1 rfl (Nat.le_of_ble_eq_true rfl) ⟨(by show _ ≤ 600104; omega), (by show _ ≤ 7301314; omega)⟩ dL_law_1082 (fun v1082 R' H locs hp hO hS => ?_)
          obtain ⟨rfl, hR⟩ := hp
          rw [hR] at hO
          rw [show c_count g1 nf F1 f1 no O 3 = (p_sum 36 f1 0 0) from rfl]
          refine lv_iload hx hb dL_law_1085 (lv_at hl 4 rfl) ?_
          refine lv_iload hx hb dL_law_1087 (lv_at hl 2 rfl) ?_
          refine lv_if_le (tgt := 1097) hx hb dL_law_1089 (by decide) (fun c1089 => ?_) (fun c1089 => absurd (c1047) c1089)
          refine lv_iconst (v := 0) hx hb dL_law_1097 (by decide) ?_
          refine lv_iadd hx hb dL_law_1098 ?_
          refine lv_icmp_ne (tgt := 1172) hx hb dL_law_1099 (by decide) (fun c1099 => absurd (by rw [hff, Int32.add_zero]) c1099) (fun c1099 => ?_)
          refine lv_aload_n hx hb dL_law_1102 rfl (lv_at hl 7 rfl) ?_
          refine lv_bipush (v := 8) hx hb dL_law_1103 (by decide) ?_
          refine m_vI (As := [.int 8]) (rest := []) (n := 1) hF hC hO hS (k_X5_count l G lo sa ad (WS G ad g nf F f no O w (WW G ad nf A R)) g1 nf F1 f1 no O tf tv fw 8 hnf hno (by omega)) ok_X5_count q_383 rfl rfl ⟨Nat.le_of_ble_eq_true rfl, Nat.le_of_ble_eq_true rfl⟩ rfl hl.1 rfl (Nat.le_of_ble_eq_true rfl) ⟨(by show _ ≤ 600104; omega), (by show _ ≤ 7301314; omega)⟩ dL_law_1105 (fun v1105 R' H locs hp hO hS => ?_)
          obtain ⟨rfl, hR⟩ := hp
          rw [hR] at hO
          rw [show c_count g1 nf F1 f1 no O 8 = (g1 5) from rfl]
          refine lv_iload hx hb dL_law_1108 (lv_at hl 3 rfl) ?_
          refine lv_iload hx hb dL_law_1110 (lv_at hl 2 rfl) ?_
          refine lv_if_le (tgt := 1119) hx hb dL_law_1112 (by decide) (fun c1112 => ?_) (fun c1112 => absurd (c1047) c1112)
          refine lv_iload hx hb dL_law_1119 (lv_at hl 1 rfl) ?_
          refine lv_iadd hx hb dL_law_1121 ?_
          refine lv_icmp_ne (tgt := 1172) hx hb dL_law_1122 (by decide) (fun c1122 => absurd (by rw [hg1, CG_cut, if_pos he]; rfl) c1122) (fun c1122 => ?_)
          refine lv_iload hx hb dL_law_1125 (lv_at hl 2 rfl) ?_
          refine lv_if_le (tgt := 1151) hx hb dL_law_1127 (by decide) (fun c1127 => ?_) (fun c1127 => absurd (c1047) c1127)
          refine lv_aload_n hx hb dL_law_1151 rfl (lv_at hl 7 rfl) ?_
          refine lv_iload hx hb dL_law_1152 (lv_at hl 5 rfl) ?_
          refine lv_iconst (v := 2) hx hb dL_law_1154 (by decide) ?_
          refine m_vI (As := [.int (nI k), .int 2]) (rest := []) (n := 2) hF hC hO hS (k_X5_frame l G lo sa ad (WS G ad g nf F f no O w (WW G ad nf A R)) g1 nf F1 f1 no O tf tv fw k 2 hnf hno hk (by decide) ((hI1.fr k hk).c01)) ok_X5_frame q_338 rfl rfl ⟨Nat.le_of_ble_eq_true rfl, Nat.le_of_ble_eq_true rfl⟩ rfl hl.1 rfl (Nat.le_of_ble_eq_true rfl) ⟨(by show _ ≤ 600104; omega), (by show _ ≤ 7301314; omega)⟩ dL_law_1155 (fun v1155 R' H locs hp hO hS => ?_)
          obtain ⟨rfl, hR⟩ := hp
          rw [hR] at hO
          rw [show c_frame (F1 k) 2 = (F1 k 2) from rfl]
          rw [show F1 k 2 = 0 from by rw [hF1k]; rfl]
          refine lv_if_ne (tgt := 1172) hx hb dL_law_1158 (by decide) (fun c1158 => absurd (by decide) c1158) (fun c1158 => ?_)
          refine lv_aload_n hx hb dL_law_1161 rfl (lv_at hl 7 rfl) ?_
          refine lv_iload hx hb dL_law_1162 (lv_at hl 5 rfl) ?_
          refine lv_bipush (v := 6) hx hb dL_law_1164 (by decide) ?_
          refine m_vI (As := [.int (nI k), .int 6]) (rest := []) (n := 2) hF hC hO hS (k_X5_frame l G lo sa ad (WS G ad g nf F f no O w (WW G ad nf A R)) g1 nf F1 f1 no O tf tv fw k 6 hnf hno hk (by decide) ((hI1.fr k hk).c01)) ok_X5_frame q_338 rfl rfl ⟨Nat.le_of_ble_eq_true rfl, Nat.le_of_ble_eq_true rfl⟩ rfl hl.1 rfl (Nat.le_of_ble_eq_true rfl) ⟨(by show _ ≤ 600104; omega), (by show _ ≤ 7301314; omega)⟩ dL_law_1166 (fun v1166 R' H locs hp hO hS => ?_)
          obtain ⟨rfl, hR⟩ := hp
          rw [hR] at hO
          rw [show c_frame (F1 k) 6 = (F1 k 6) from rfl]
          rw [show F1 k 6 = 0 from by rw [hF1k]; rfl]
          refine lv_if_eq (tgt := 1174) hx hb dL_law_1169 (by decide) (fun c1169 => ?_) (fun c1169 => absurd (by decide) c1169)
          refine lv_aload_n hx hb dL_law_1174 rfl (lv_at hl 8 rfl) ?_
          rw [WC_WS] at hO
          refine m_get inX7 hF hC hO rfl rfl 3 (by decide) q_508 (v := .ref (ad 51)) rfl dL_law_1175 ?_
          refine lv_iload hx hb dL_law_1178 (lv_at hl 5 rfl) ?_
          refine m_aldP hF hC hO rfl (j := k) (nI_clamp (by omega)) (vp_in_nI hk (by omega)) dL_law_1180 (v := .ref (ad (200 + k))) (adF_in (by first | assumption | omega)) ?_
          refine lv_astore (lv' := [(20, .ref (ad (200 + k))), (19, .int 0), (18, .int (F k 1)), (17, .int (p_size (F k))), (16, .int (g 5)), (15, .int (p_sum 36 f 0 0)), (14, .int (nI k)), (0, .ref sa.1), (1, .ref (ad 0)), (2, .ref (ad 50)), (3, .int (nI nf)), (4, .int (nI t)), (5, .int x), (6, .ref (ad 60))]) hx hb dL_law_1181 hl (by decide) rfl (fun ls hl => ?_)
          refine lv_iload hx hb dL_law_1183 (lv_at hl 3 rfl) ?_
          refine lv_if_le (tgt := 1209) hx hb dL_law_1185 (by decide) (fun c1185 => ?_) (fun c1185 => absurd (c1047) c1185)
          refine lv_aload_n hx hb dL_law_1209 rfl (lv_at hl 9 rfl) ?_
          refine lv_sipush (v := 20000) hx hb dL_law_1210 (by decide) ?_
          refine lv_aload_n hx hb dL_law_1213 rfl (lv_at hl 9 rfl) ?_
          refine m_get inX7 hF hC hO rfl rfl 0 (by decide) q_501 (v := .int (g 0)) rfl dL_law_1214 ?_
          refine lv_aload hx hb dL_law_1217 (lv_at hl 0 rfl) ?_
          refine m_get inX6 hF hC hO (WS_F (i := k) (by assumption) hnf) rfl 2 (by decide) q_572 (v := .int ((F k) 2)) rfl dL_law_1219 ?_
          refine lv_bipush (v := 8) hx hb dL_law_1222 (by decide) ?_
          refine lv_aload hx hb dL_law_1224 (lv_at hl 0 rfl) ?_
          refine m_get inX6 hF hC hO (WS_F (i := k) (by assumption) hnf) rfl 0 (by decide) q_568 (v := .int ((F k) 0)) rfl dL_law_1226 ?_
          refine lv_iadd hx hb dL_law_1229 ?_
          refine lv_imul hx hb dL_law_1230 ?_
          refine lv_aload hx hb dL_law_1231 (lv_at hl 0 rfl) ?_
          refine m_get inX6 hF hC hO (WS_F (i := k) (by assumption) hnf) rfl 1 (by decide) q_570 (v := .int ((F k) 1)) rfl dL_law_1233 ?_
          refine lv_imul hx hb dL_law_1236 ?_
          refine lv_bipush (v := 10) hx hb dL_law_1237 (by decide) ?_
          refine lv_idiv hx hb dL_law_1239 (by decide) ?_
          refine lv_iadd hx hb dL_law_1240 ?_
          refine m_min hF hl.1 q_621 q_246 q_14 q_247 (Nat.le_of_ble_eq_true rfl) (Nat.le_of_ble_eq_true rfl) ⟨(by show _ ≤ 600104; omega), (by show _ ≤ 7301314; omega)⟩ dL_law_1241 ?_
          refine m_put (ty := .int) tyX7 tyX7_ok nmX7 inX7 hF hC hO hS rfl rfl 0 (by decide) q_501 rfl (by decide +kernel) rfl rfl (fs' := [.int (jmin 20000 ((g 0) + (((((F k) 2) * (8 + ((F k) 0))) * ((F k) 1)) / 10))), .int (g 1), .int (g 2), .ref (ad 51), .ref (ad 52), .ref (ad 57), .int (g 3), .int (g 4), .int w]) (Nat.le_of_ble_eq_true rfl) rfl dL_law_1244 (fun H locs hO hS => ?_)
          have hO : mO G lo ad (mU (WS G ad g nf F f no O w (WC G ad g1 nf F1 f1 no O tf tv fw (WW G ad nf A R))) 50 (sO ad (upd g 0 (jmin 20000 ((g 0) + (((((F k) 2) * (8 + ((F k) 0))) * ((F k) 1)) / 10)))) w)) H := hO
          rw [WS_w0] at hO
          refine lv_aload hx hb dL_law_1247 (lv_at hl 0 rfl) ?_
          refine lv_iconst (v := 0) hx hb dL_law_1249 (by decide) ?_
          refine m_put (ty := .int) tyX6 tyX6_ok nmX6 inX6 hF hC hO hS (WS_F (i := k) (by assumption) hnf) rfl 2 (by decide) q_572 rfl (by decide +kernel) rfl rfl (fs' := [.int ((F k) 0), .int ((F k) 1), .int 0, .int ((F k) 3), .int ((F k) 4), .int ((F k) 5), .int ((F k) 6)]) (Nat.le_of_ble_eq_true rfl) rfl dL_law_1250 (fun H locs hO hS => ?_)
          have hO : mO G lo ad (mU (WS G ad (upd g 0 (jmin 20000 ((g 0) + (((((F k) 2) * (8 + ((F k) 0))) * ((F k) 1)) / 10)))) nf F f no O w (WC G ad g1 nf F1 f1 no O tf tv fw (WW G ad nf A R))) (200 + k) (lfO (upd (F k) 2 0))) H := hO
          rw [WS_wF (by assumption) hnf] at hO
          refine lv_aload hx hb dL_law_1253 (lv_at hl 0 rfl) ?_
          refine lv_iconst (v := 0) hx hb dL_law_1255 (by decide) ?_
          refine m_put (ty := .int) tyX6 tyX6_ok nmX6 inX6 hF hC hO hS (WS_Fu (i := k) (by assumption) hnf) rfl 3 (by decide) q_574 rfl (by decide +kernel) rfl rfl (fs' := [.int ((upd (F k) 2 0) 0), .int ((upd (F k) 2 0) 1), .int ((upd (F k) 2 0) 2), .int 0, .int ((upd (F k) 2 0) 4), .int ((upd (F k) 2 0) 5), .int ((upd (F k) 2 0) 6)]) (Nat.le_of_ble_eq_true rfl) rfl dL_law_1256 (fun H locs hO hS => ?_)
          have hO : mO G lo ad (mU (WS G ad (upd g 0 (jmin 20000 ((g 0) + (((((F k) 2) * (8 + ((F k) 0))) * ((F k) 1)) / 10)))) nf (va_up F k (upd (F k) 2 0)) f no O w (WC G ad g1 nf F1 f1 no O tf tv fw (WW G ad nf A R))) (200 + k) (lfO (upd (upd (F k) 2 0) 3 0))) H := hO
          rw [WS_wFu (by assumption) hnf] at hO
          refine lv_aload hx hb dL_law_1259 (lv_at hl 0 rfl) ?_
          refine lv_iconst (v := 0) hx hb dL_law_1261 (by decide) ?_
          refine m_put (ty := .int) tyX6 tyX6_ok nmX6 inX6 hF hC hO hS (WS_Fu (i := k) (by assumption) hnf) rfl 6 (by decide) q_582 rfl (by decide +kernel) rfl rfl (fs' := [.int ((upd (upd (F k) 2 0) 3 0) 0), .int ((upd (upd (F k) 2 0) 3 0) 1), .int ((upd (upd (F k) 2 0) 3 0) 2), .int ((upd (upd (F k) 2 0) 3 0) 3), .int ((upd (upd (F k) 2 0) 3 0) 4), .int ((upd (upd (F k) 2 0) 3 0) 5), .int 0]) (Nat.le_of_ble_eq_true rfl) rfl dL_law_1262 (fun H locs hO hS => ?_)
          have hO : mO G lo ad (mU (WS G ad (upd g 0 (jmin 20000 ((g 0) + (((((F k) 2) * (8 + ((F k) 0))) * ((F k) 1)) / 10)))) nf (va_up F k (upd (upd (F k) 2 0) 3 0)) f no O w (WC G ad g1 nf F1 f1 no O tf tv fw (WW G ad nf A R))) (200 + k) (lfO (upd (upd (upd (F k) 2 0) 3 0) 6 0))) H := hO
          rw [WS_wFu (by assumption) hnf] at hO
          refine lv_aload hx hb dL_law_1265 (lv_at hl 0 rfl) ?_
          refine lv_iconst (v := 0) hx hb dL_law_1267 (by decide) ?_
          refine m_put (ty := .boolean) tyX6 tyX6_ok nmX6 inX6 hF hC hO hS (WS_Fu (i := k) (by assumption) hnf) rfl 4 (by decide) q_577 rfl (by decide +kernel) rfl rfl (fs' := [.int ((upd (upd (upd (F k) 2 0) 3 0) 6 0) 0), .int ((upd (upd (upd (F k) 2 0) 3 0) 6 0) 1), .int ((upd (upd (upd (F k) 2 0) 3 0) 6 0) 2), .int ((upd (upd (upd (F k) 2 0) 3 0) 6 0) 3), .int 0, .int ((upd (upd (upd (F k) 2 0) 3 0) 6 0) 5), .int ((upd (upd (upd (F k) 2 0) 3 0) 6 0) 6)]) (Nat.le_of_ble_eq_true rfl) rfl dL_law_1268 (fun H locs hO hS => ?_)
          have hO : mO G lo ad (mU (WS G ad (upd g 0 (jmin 20000 ((g 0) + (((((F k) 2) * (8 + ((F k) 0))) * ((F k) 1)) / 10)))) nf (va_up F k (upd (upd (upd (F k) 2 0) 3 0) 6 0)) f no O w (WC G ad g1 nf F1 f1 no O tf tv fw (WW G ad nf A R))) (200 + k) (lfO (upd (upd (upd (upd (F k) 2 0) 3 0) 6 0) 4 0))) H := hO
          rw [WS_wFu (by assumption) hnf] at hO
          rw [renew_eq, ← hF1, ← hff] at hO
          rw [WS_g (g' := g1) (fun i hi => by rw [hg1, CG_cut, if_pos he]; rcases (show i = 0 ∨ i = 1 ∨ i = 2 ∨ i = 3 ∨ i = 4 by omega) with rfl | rfl | rfl | rfl | rfl <;> rfl)] at hO
          refine lv_aload_n hx hb dL_law_1271 rfl (lv_at hl 8 rfl) ?_
          refine lv_iconst (v := 0) hx hb dL_law_1272 (by decide) ?_
          rw [← WC_WS] at hO
          refine m_vI (As := [.int 0]) (rest := []) (n := 1) hF hC hO hS (k_X5_vat l G lo sa ad (WS G ad g1 nf F1 f1 no O w (WW G ad nf A R)) g1 nf F1 f1 no O tf tv fw 0 hnf hno (by omega)) ok_X5_vat q_139 rfl rfl ⟨Nat.le_of_ble_eq_true rfl, Nat.le_of_ble_eq_true rfl⟩ rfl hl.1 rfl (Nat.le_of_ble_eq_true rfl) ⟨(by show _ ≤ 600104; omega), (by show _ ≤ 7301314; omega)⟩ dL_law_1273 (fun v1273 R' H locs hp hO hS => ?_)
          obtain ⟨rfl, hR⟩ := hp
          rw [hR] at hO
          rw [show m_vat g1 (nI 0) = (g1 0) from by rw [m_vat, if_pos (by decide)]]
          refine lv_aload_n hx hb dL_law_1276 rfl (lv_at hl 9 rfl) ?_
          rw [WC_WS] at hO
          refine m_get inX7 hF hC hO rfl rfl 0 (by decide) q_501 (v := .int (g1 0)) rfl dL_law_1277 ?_
          refine lv_icmp_ne (tgt := 1295) hx hb dL_law_1280 (by decide) (fun c1280 => absurd rfl c1280) (fun c1280 => ?_)
          refine lv_aload_n hx hb dL_law_1283 rfl (lv_at hl 8 rfl) ?_
          rw [← WC_WS] at hO
          refine m_vI (As := []) (rest := []) (n := 0) hF hC hO hS (k_X5_possible l G lo sa ad (WS G ad g1 nf F1 f1 no O w (WW G ad nf A R)) g1 nf F1 f1 no O tf tv fw hnf hno hfw (fun j hj => (hI1.or j hj).1) (hI1.okS (by omega))) ok_X5_possible q_443 rfl rfl ⟨Nat.le_of_ble_eq_true rfl, Nat.le_of_ble_eq_true rfl⟩ rfl hl.1 rfl (Nat.le_of_ble_eq_true rfl) ⟨(by show _ ≤ 600104; omega), (by show _ ≤ 7301314; omega)⟩ dL_law_1284 (fun v1284 R' H locs hp hO hS => ?_)
          obtain ⟨rfl, fw_1284, hx1284, hR⟩ := hp
          rw [hR] at hO
          refine lv_aload_n hx hb dL_law_1287 rfl (lv_at hl 8 rfl) ?_
          refine lv_iconst (v := 4) hx hb dL_law_1288 (by decide) ?_
          refine m_vI (As := [.int 4]) (rest := [.int (dSum (fun k => (dCz O f1 no k 9 []).length) 4 0 0)]) (n := 1) hF hC hO hS (k_X5_count l G lo sa ad (WS G ad g1 nf F1 f1 no O w (WW G ad nf A R)) g1 nf F1 f1 no O tf tv fw_1284 4 hnf hno (by omega)) ok_X5_count q_383 rfl rfl ⟨Nat.le_of_ble_eq_true rfl, Nat.le_of_ble_eq_true rfl⟩ rfl hl.1 rfl (Nat.le_of_ble_eq_true rfl) ⟨(by show _ ≤ 600104; omega), (by show _ ≤ 7301314; omega)⟩ dL_law_1289 (fun v1289 R' H locs hp hO hS => ?_)
          obtain ⟨rfl, hR⟩ := hp
          rw [hR] at hO
          rw [show c_count g1 nf F1 f1 no O 4 = (nI no) from rfl]
          refine lv_icmp_le (tgt := 1297) hx hb dL_law_1292 (by decide) (fun c1292 => ?_) (fun c1292 => absurd (most_le hno) c1292)
          rw [WC_WS] at hO
          have hO := was_gone hz hO
          exact h1297 ad g1 nf F1 f1 no O w tf tv fw_1284 H _ _ _ _ (hI1.mono (by omega) (by omega)) h1 hx1284 hO hS (lv_sub hl [7, 8, 9, 10, 11] rfl) hc9 hs9
        · have hne : p_size (F k) ≠ 0 := (fun e9 => c1047 (by rw [e9]; decide))
          obtain ⟨kk, hkk, hk0⟩ := (hFv k hk).kind
          obtain ⟨zz, hz1, hz9, hzz⟩ := size_zz (hFv k hk).size0 hne
          refine lv_aload_n hx hb dL_law_1050 rfl (lv_at hl 6 rfl) ?_
          refine lv_aload_n hx hb dL_law_1051 rfl (lv_at hl 6 rfl) ?_
          refine lv_iload hx hb dL_law_1052 (lv_at hl 4 rfl) ?_
          refine lv_iconst (v := 0) hx hb dL_law_1054 (by decide) ?_
          refine m_vI (As := [.int (nI k), .int 0]) (rest := [.ref (ad 0)]) (n := 2) hF hC hO hS (k_X5_frame l G lo sa ad (WS G ad g nf F f no O w (WW G ad nf A R)) g nf F f no O tf tv fw k 0 hnf hno hk (by decide) ((hFv k hk).c01)) ok_X5_frame q_338 rfl rfl ⟨Nat.le_of_ble_eq_true rfl, Nat.le_of_ble_eq_true rfl⟩ rfl hl.1 rfl (Nat.le_of_ble_eq_true rfl) ⟨(by show _ ≤ 600104; omega), (by show _ ≤ 7301314; omega)⟩ dL_law_1055 (fun v1055 R' H locs hp hO hS => ?_)
          obtain ⟨rfl, hR⟩ := hp
          rw [hR] at hO
          rw [show c_frame (F k) 0 = (F k 0) from rfl]
          refine lv_iload hx hb dL_law_1058 (lv_at hl 1 rfl) ?_
          rw [hk0, hzz]
          refine m_vI (As := [.int (nI kk), .int (nI zz)]) (rest := []) (n := 2) hF hC hO hS (k_X5_store l G lo sa ad (WS G ad g nf F f no O w (WW G ad nf A R)) g nf F f no O tf tv fw kk zz hnf hno hkk hz1 hz9) ok_X5_store q_353 rfl rfl ⟨Nat.le_of_ble_eq_true rfl, Nat.le_of_ble_eq_true rfl⟩ rfl hl.1 rfl (Nat.le_of_ble_eq_true rfl) ⟨(by show _ ≤ 600104; omega), (by show _ ≤ 7301314; omega)⟩ dL_law_1060 (fun v1060 R' H locs hp hO hS => ?_)
          obtain ⟨rfl, hR⟩ := hp
          rw [hR] at hO
          refine lv_goto (tgt := 1067) hx hb dL_law_1063 (by decide) ?_
          refine lv_istore (lv' := [(19, .int (f (9 * kk + zz - 1))), (18, .int (F k 1)), (17, .int (p_size (F k))), (16, .int (g 5)), (15, .int (p_sum 36 f 0 0)), (14, .int (nI k)), (0, .ref sa.1), (1, .ref (ad 0)), (2, .ref (ad 50)), (3, .int (nI nf)), (4, .int (nI t)), (5, .int x), (6, .ref (ad 60))]) hx hb dL_law_1067 hl (by decide) rfl (fun ls hl => ?_)
          refine lv_aload_n hx hb dL_law_1069 rfl (lv_at hl 7 rfl) ?_
          refine lv_iload hx hb dL_law_1070 (lv_at hl 5 rfl) ?_
          refine m_vI (As := [.int (nI k)]) (rest := []) (n := 1) hF hC hO hS (k_X5_cutOff l G lo sa ad (WS G ad g nf F f no O w (WW G ad nf A R)) g nf F f no O tf tv fw k kk hnf hno hk hkk hk0 c981 (fun q9 => absurd q9 c993) ((hFv k hk).size0)) ok_X5_cutOff q_305 rfl rfl ⟨Nat.le_of_ble_eq_true rfl, Nat.le_of_ble_eq_true rfl⟩ rfl hl.1 rfl (Nat.le_of_ble_eq_true rfl) ⟨(by show _ ≤ 600104; omega), (by show _ ≤ 7301314; omega)⟩ dL_law_1072 (fun v1072 R' H locs hp hO hS => ?_)
          obtain ⟨rfl, hR⟩ := hp
          rw [hR] at hO
          obtain ⟨g1, hg1⟩ : ∃ z, z = CG_cut g (F k) := ⟨_, rfl⟩
          obtain ⟨F1, hF1⟩ : ∃ z, z = va_up F k (p_renewF (F k)) := ⟨_, rfl⟩
          obtain ⟨f1, hf1⟩ : ∃ z, z = Cf_cut f (F k) := ⟨_, rfl⟩
          rw [← hg1, ← hF1, ← hf1] at hO
          have hI1 : IV (37 + 3 * t) (3 * t + 2 + 1) g1 nf F1 f1 no O := by rw [hg1, hF1, hf1]; exact iv_cut hI hk
          have hgg : g1 = g := hg1.trans (cutG_y hne)
          have hff : f1 = upd f (9 * kk + zz - 1) (f (9 * kk + zz - 1) + F k 1) := by rw [hf1, Cf_cut, if_neg hne, hk0, nn_nI (by omega), hzz, nn_nI (by omega)]
          have hF1k : F1 k = p_renewF (F k) := by rw [hF1, va_upat]
          refine lv_iload hx hb dL_law_1075 (lv_at hl 2 rfl) ?_
          refine lv_icmp_ne (tgt := 1172) hx hb dL_law_1077 (by decide) (fun c1077 => absurd rfl c1077) (fun c1077 => ?_)
          refine lv_aload_n hx hb dL_law_1080 rfl (lv_at hl 7 rfl) ?_
          refine lv_iconst (v := 3) hx hb dL_law_1081 (by decide) ?_
          refine m_vI (As := [.int 3]) (rest := []) (n := 1) hF hC hO hS (k_X5_count l G lo sa ad (WS G ad g nf F f no O w (WW G ad nf A R)) g1 nf F1 f1 no O tf tv fw 3 hnf hno (by omega)) ok_X5_count q_383 rfl rfl ⟨Nat.le_of_ble_eq_true rfl, Nat.le_of_ble_eq_true rfl⟩ rfl hl.1 rfl (Nat.le_of_ble_eq_true rfl) ⟨(by show _ ≤ 600104; omega), (by show _ ≤ 7301314; omega)⟩ dL_law_1082 (fun v1082 R' H locs hp hO hS => ?_)
          obtain ⟨rfl, hR⟩ := hp
          rw [hR] at hO
          rw [show c_count g1 nf F1 f1 no O 3 = (p_sum 36 f1 0 0) from rfl]
          refine lv_iload hx hb dL_law_1085 (lv_at hl 4 rfl) ?_
          refine lv_iload hx hb dL_law_1087 (lv_at hl 2 rfl) ?_
          refine lv_if_le (tgt := 1097) hx hb dL_law_1089 (by decide) (fun c1089 => absurd c1089 c1047) (fun c1089 => ?_)
          refine lv_iload hx hb dL_law_1092 (lv_at hl 1 rfl) ?_
          refine lv_goto (tgt := 1098) hx hb dL_law_1094 (by decide) ?_
          refine lv_iadd hx hb dL_law_1098 ?_
          refine lv_icmp_ne (tgt := 1172) hx hb dL_law_1099 (by decide) (fun c1099 => absurd (by rw [hff]; exact sum_upd 36 0 0 (by omega) (by omega)) c1099) (fun c1099 => ?_)
          refine lv_aload_n hx hb dL_law_1102 rfl (lv_at hl 7 rfl) ?_
          refine lv_bipush (v := 8) hx hb dL_law_1103 (by decide) ?_
          refine m_vI (As := [.int 8]) (rest := []) (n := 1) hF hC hO hS (k_X5_count l G lo sa ad (WS G ad g nf F f no O w (WW G ad nf A R)) g1 nf F1 f1 no O tf tv fw 8 hnf hno (by omega)) ok_X5_count q_383 rfl rfl ⟨Nat.le_of_ble_eq_true rfl, Nat.le_of_ble_eq_true rfl⟩ rfl hl.1 rfl (Nat.le_of_ble_eq_true rfl) ⟨(by show _ ≤ 600104; omega), (by show _ ≤ 7301314; omega)⟩ dL_law_1105 (fun v1105 R' H locs hp hO hS => ?_)
          obtain ⟨rfl, hR⟩ := hp
          rw [hR] at hO
          rw [show c_count g1 nf F1 f1 no O 8 = (g1 5) from rfl]
          refine lv_iload hx hb dL_law_1108 (lv_at hl 3 rfl) ?_
          refine lv_iload hx hb dL_law_1110 (lv_at hl 2 rfl) ?_
          refine lv_if_le (tgt := 1119) hx hb dL_law_1112 (by decide) (fun c1112 => absurd c1112 c1047) (fun c1112 => ?_)
          refine lv_iconst (v := 0) hx hb dL_law_1115 (by decide) ?_
          refine lv_goto (tgt := 1121) hx hb dL_law_1116 (by decide) ?_
          refine lv_iadd hx hb dL_law_1121 ?_
          refine lv_icmp_ne (tgt := 1172) hx hb dL_law_1122 (by decide) (fun c1122 => absurd (by rw [hgg, Int32.add_zero]) c1122) (fun c1122 => ?_)
          refine lv_iload hx hb dL_law_1125 (lv_at hl 2 rfl) ?_
          refine lv_if_le (tgt := 1151) hx hb dL_law_1127 (by decide) (fun c1127 => absurd c1127 c1047) (fun c1127 => ?_)
          refine lv_aload_n hx hb dL_law_1130 rfl (lv_at hl 7 rfl) ?_
          refine lv_aload_n hx hb dL_law_1131 rfl (lv_at hl 7 rfl) ?_
          refine lv_iload hx hb dL_law_1132 (lv_at hl 5 rfl) ?_
          refine lv_iconst (v := 0) hx hb dL_law_1134 (by decide) ?_
          refine m_vI (As := [.int (nI k), .int 0]) (rest := [.ref (ad 0)]) (n := 2) hF hC hO hS (k_X5_frame l G lo sa ad (WS G ad g nf F f no O w (WW G ad nf A R)) g1 nf F1 f1 no O tf tv fw k 0 hnf hno hk (by decide) ((hI1.fr k hk).c01)) ok_X5_frame q_338 rfl rfl ⟨Nat.le_of_ble_eq_true rfl, Nat.le_of_ble_eq_true rfl⟩ rfl hl.1 rfl (Nat.le_of_ble_eq_true rfl) ⟨(by show _ ≤ 600104; omega), (by show _ ≤ 7301314; omega)⟩ dL_law_1135 (fun v1135 R' H locs hp hO hS => ?_)
          obtain ⟨rfl, hR⟩ := hp
          rw [hR] at hO
          rw [show c_frame (F1 k) 0 = (F1 k 0) from rfl]
          refine lv_iload hx hb dL_law_1138 (lv_at hl 2 rfl) ?_
          rw [show F1 k 0 = nI kk from by rw [hF1k]; exact hk0, hzz]
          refine m_vI (As := [.int (nI kk), .int (nI zz)]) (rest := []) (n := 2) hF hC hO hS (k_X5_store l G lo sa ad (WS G ad g nf F f no O w (WW G ad nf A R)) g1 nf F1 f1 no O tf tv fw kk zz hnf hno hkk hz1 hz9) ok_X5_store q_353 rfl rfl ⟨Nat.le_of_ble_eq_true rfl, Nat.le_of_ble_eq_true rfl⟩ rfl hl.1 rfl (Nat.le_of_ble_eq_true rfl) ⟨(by show _ ≤ 600104; omega), (by show _ ≤ 7301314; omega)⟩ dL_law_1140 (fun v1140 R' H locs hp hO hS => ?_)
          obtain ⟨rfl, hR⟩ := hp
          rw [hR] at hO
          refine lv_iload hx hb dL_law_1143 (lv_at hl 0 rfl) ?_
          refine lv_iload hx hb dL_law_1145 (lv_at hl 1 rfl) ?_
          refine lv_iadd hx hb dL_law_1147 ?_
          refine lv_icmp_ne (tgt := 1172) hx hb dL_law_1148 (by decide) (fun c1148 => absurd (by rw [hff, upd_at]) c1148) (fun c1148 => ?_)
          refine lv_aload_n hx hb dL_law_1151 rfl (lv_at hl 7 rfl) ?_
          refine lv_iload hx hb dL_law_1152 (lv_at hl 5 rfl) ?_
          refine lv_iconst (v := 2) hx hb dL_law_1154 (by decide) ?_
          refine m_vI (As := [.int (nI k), .int 2]) (rest := []) (n := 2) hF hC hO hS (k_X5_frame l G lo sa ad (WS G ad g nf F f no O w (WW G ad nf A R)) g1 nf F1 f1 no O tf tv fw k 2 hnf hno hk (by decide) ((hI1.fr k hk).c01)) ok_X5_frame q_338 rfl rfl ⟨Nat.le_of_ble_eq_true rfl, Nat.le_of_ble_eq_true rfl⟩ rfl hl.1 rfl (Nat.le_of_ble_eq_true rfl) ⟨(by show _ ≤ 600104; omega), (by show _ ≤ 7301314; omega)⟩ dL_law_1155 (fun v1155 R' H locs hp hO hS => ?_)
          obtain ⟨rfl, hR⟩ := hp
          rw [hR] at hO
          rw [show c_frame (F1 k) 2 = (F1 k 2) from rfl]
          rw [show F1 k 2 = 0 from by rw [hF1k]; rfl]
          refine lv_if_ne (tgt := 1172) hx hb dL_law_1158 (by decide) (fun c1158 => absurd (by decide) c1158) (fun c1158 => ?_)
          refine lv_aload_n hx hb dL_law_1161 rfl (lv_at hl 7 rfl) ?_
          refine lv_iload hx hb dL_law_1162 (lv_at hl 5 rfl) ?_
          refine lv_bipush (v := 6) hx hb dL_law_1164 (by decide) ?_
          refine m_vI (As := [.int (nI k), .int 6]) (rest := []) (n := 2) hF hC hO hS (k_X5_frame l G lo sa ad (WS G ad g nf F f no O w (WW G ad nf A R)) g1 nf F1 f1 no O tf tv fw k 6 hnf hno hk (by decide) ((hI1.fr k hk).c01)) ok_X5_frame q_338 rfl rfl ⟨Nat.le_of_ble_eq_true rfl, Nat.le_of_ble_eq_true rfl⟩ rfl hl.1 rfl (Nat.le_of_ble_eq_true rfl) ⟨(by show _ ≤ 600104; omega), (by show _ ≤ 7301314; omega)⟩ dL_law_1166 (fun v1166 R' H locs hp hO hS => ?_)
          obtain ⟨rfl, hR⟩ := hp
          rw [hR] at hO
          rw [show c_frame (F1 k) 6 = (F1 k 6) from rfl]
          rw [show F1 k 6 = 0 from by rw [hF1k]; rfl]
          refine lv_if_eq (tgt := 1174) hx hb dL_law_1169 (by decide) (fun c1169 => ?_) (fun c1169 => absurd (by decide) c1169)
          refine lv_aload_n hx hb dL_law_1174 rfl (lv_at hl 8 rfl) ?_
          rw [WC_WS] at hO
          refine m_get inX7 hF hC hO rfl rfl 3 (by decide) q_508 (v := .ref (ad 51)) rfl dL_law_1175 ?_
          refine lv_iload hx hb dL_law_1178 (lv_at hl 5 rfl) ?_
          refine m_aldP hF hC hO rfl (j := k) (nI_clamp (by omega)) (vp_in_nI hk (by omega)) dL_law_1180 (v := .ref (ad (200 + k))) (adF_in (by first | assumption | omega)) ?_
          refine lv_astore (lv' := [(20, .ref (ad (200 + k))), (19, .int (f (9 * kk + zz - 1))), (18, .int (F k 1)), (17, .int (p_size (F k))), (16, .int (g 5)), (15, .int (p_sum 36 f 0 0)), (14, .int (nI k)), (0, .ref sa.1), (1, .ref (ad 0)), (2, .ref (ad 50)), (3, .int (nI nf)), (4, .int (nI t)), (5, .int x), (6, .ref (ad 60))]) hx hb dL_law_1181 hl (by decide) rfl (fun ls hl => ?_)
          refine lv_iload hx hb dL_law_1183 (lv_at hl 3 rfl) ?_
          refine lv_if_le (tgt := 1209) hx hb dL_law_1185 (by decide) (fun c1185 => absurd c1185 c1047) (fun c1185 => ?_)
          refine lv_aload_n hx hb dL_law_1188 rfl (lv_at hl 9 rfl) ?_
          refine m_get inX7 hF hC hO rfl rfl 4 (by decide) q_510 (v := .ref (ad 52)) rfl dL_law_1189 ?_
          refine lv_aload hx hb dL_law_1192 (lv_at hl 0 rfl) ?_
          refine m_get inX6 hF hC hO (WS_F (i := k) (by assumption) hnf) rfl 0 (by decide) q_568 (v := .int ((F k) 0)) rfl dL_law_1194 ?_
          rw [hk0]
          refine m_aldA hF hC hO rfl (j := kk) (nI_clamp (by omega)) (vp_in_nI hkk (by decide)) dL_law_1197 (v := .ref (ad (53 + kk))) (adF_in (by first | assumption | omega)) ?_
          refine lv_iload hx hb dL_law_1198 (lv_at hl 3 rfl) ?_
          rw [hzz]
          refine lv_dup2_11 hx hb dL_law_1200 rfl rfl ?_
          refine m_iald hF hC hO (WS_S (k := kk) (by first | assumption | omega)) (j := zz) (nI_clamp (by omega)) (vp_in_nI (by omega) (by decide)) dL_law_1201 ?_
          rw [show ((rowF f kk) zz) = (f (9 * kk + zz - 1)) from rowF_at hz1 hz9]
          refine lv_iload hx hb dL_law_1202 (lv_at hl 2 rfl) ?_
          refine lv_iadd hx hb dL_law_1204 ?_
          refine m_iast hF hC hO hS (WS_S (k := kk) (by first | assumption | omega)) (j := zz) (nI_clamp (by omega)) (vp_in_nI (by omega) (by decide)) dL_law_1205 (fun H locs hO hS => ?_)
          have hO : mO G lo ad (mU (WS G ad g nf F f no O w (WC G ad g1 nf F1 f1 no O tf tv fw (WW G ad nf A R))) (53 + kk) (.inl (G.2 0, 10, .inl (upd (rowF f kk) zz ((f (9 * kk + zz - 1)) + (F k 1)))))) H := hO
          rw [WS_wS (by first | assumption | omega) (by omega) (by omega)] at hO
          refine lv_goto (tgt := 1247) hx hb dL_law_1206 (by decide) ?_
          refine lv_aload hx hb dL_law_1247 (lv_at hl 0 rfl) ?_
          refine lv_iconst (v := 0) hx hb dL_law_1249 (by decide) ?_
          refine m_put (ty := .int) tyX6 tyX6_ok nmX6 inX6 hF hC hO hS (WS_F (i := k) (by assumption) hnf) rfl 2 (by decide) q_572 rfl (by decide +kernel) rfl rfl (fs' := [.int ((F k) 0), .int ((F k) 1), .int 0, .int ((F k) 3), .int ((F k) 4), .int ((F k) 5), .int ((F k) 6)]) (Nat.le_of_ble_eq_true rfl) rfl dL_law_1250 (fun H locs hO hS => ?_)
          have hO : mO G lo ad (mU (WS G ad g nf F (upd f (9 * kk + zz - 1) ((f (9 * kk + zz - 1)) + (F k 1))) no O w (WC G ad g1 nf F1 f1 no O tf tv fw (WW G ad nf A R))) (200 + k) (lfO (upd (F k) 2 0))) H := hO
          rw [WS_wF (by assumption) hnf] at hO
          refine lv_aload hx hb dL_law_1253 (lv_at hl 0 rfl) ?_
          refine lv_iconst (v := 0) hx hb dL_law_1255 (by decide) ?_
          refine m_put (ty := .int) tyX6 tyX6_ok nmX6 inX6 hF hC hO hS (WS_Fu (i := k) (by assumption) hnf) rfl 3 (by decide) q_574 rfl (by decide +kernel) rfl rfl (fs' := [.int ((upd (F k) 2 0) 0), .int ((upd (F k) 2 0) 1), .int ((upd (F k) 2 0) 2), .int 0, .int ((upd (F k) 2 0) 4), .int ((upd (F k) 2 0) 5), .int ((upd (F k) 2 0) 6)]) (Nat.le_of_ble_eq_true rfl) rfl dL_law_1256 (fun H locs hO hS => ?_)
          have hO : mO G lo ad (mU (WS G ad g nf (va_up F k (upd (F k) 2 0)) (upd f (9 * kk + zz - 1) ((f (9 * kk + zz - 1)) + (F k 1))) no O w (WC G ad g1 nf F1 f1 no O tf tv fw (WW G ad nf A R))) (200 + k) (lfO (upd (upd (F k) 2 0) 3 0))) H := hO
          rw [WS_wFu (by assumption) hnf] at hO
          refine lv_aload hx hb dL_law_1259 (lv_at hl 0 rfl) ?_
          refine lv_iconst (v := 0) hx hb dL_law_1261 (by decide) ?_
          refine m_put (ty := .int) tyX6 tyX6_ok nmX6 inX6 hF hC hO hS (WS_Fu (i := k) (by assumption) hnf) rfl 6 (by decide) q_582 rfl (by decide +kernel) rfl rfl (fs' := [.int ((upd (upd (F k) 2 0) 3 0) 0), .int ((upd (upd (F k) 2 0) 3 0) 1), .int ((upd (upd (F k) 2 0) 3 0) 2), .int ((upd (upd (F k) 2 0) 3 0) 3), .int ((upd (upd (F k) 2 0) 3 0) 4), .int ((upd (upd (F k) 2 0) 3 0) 5), .int 0]) (Nat.le_of_ble_eq_true rfl) rfl dL_law_1262 (fun H locs hO hS => ?_)
          have hO : mO G lo ad (mU (WS G ad g nf (va_up F k (upd (upd (F k) 2 0) 3 0)) (upd f (9 * kk + zz - 1) ((f (9 * kk + zz - 1)) + (F k 1))) no O w (WC G ad g1 nf F1 f1 no O tf tv fw (WW G ad nf A R))) (200 + k) (lfO (upd (upd (upd (F k) 2 0) 3 0) 6 0))) H := hO
          rw [WS_wFu (by assumption) hnf] at hO
          refine lv_aload hx hb dL_law_1265 (lv_at hl 0 rfl) ?_
          refine lv_iconst (v := 0) hx hb dL_law_1267 (by decide) ?_
          refine m_put (ty := .boolean) tyX6 tyX6_ok nmX6 inX6 hF hC hO hS (WS_Fu (i := k) (by assumption) hnf) rfl 4 (by decide) q_577 rfl (by decide +kernel) rfl rfl (fs' := [.int ((upd (upd (upd (F k) 2 0) 3 0) 6 0) 0), .int ((upd (upd (upd (F k) 2 0) 3 0) 6 0) 1), .int ((upd (upd (upd (F k) 2 0) 3 0) 6 0) 2), .int ((upd (upd (upd (F k) 2 0) 3 0) 6 0) 3), .int 0, .int ((upd (upd (upd (F k) 2 0) 3 0) 6 0) 5), .int ((upd (upd (upd (F k) 2 0) 3 0) 6 0) 6)]) (Nat.le_of_ble_eq_true rfl) rfl dL_law_1268 (fun H locs hO hS => ?_)
          have hO : mO G lo ad (mU (WS G ad g nf (va_up F k (upd (upd (upd (F k) 2 0) 3 0) 6 0)) (upd f (9 * kk + zz - 1) ((f (9 * kk + zz - 1)) + (F k 1))) no O w (WC G ad g1 nf F1 f1 no O tf tv fw (WW G ad nf A R))) (200 + k) (lfO (upd (upd (upd (upd (F k) 2 0) 3 0) 6 0) 4 0))) H := hO
          rw [WS_wFu (by assumption) hnf] at hO
          rw [renew_eq, ← hF1, ← hff] at hO
          have hgs : g1 0 = g 0 := by rw [hgg]
          rw [show WS G ad g nf F1 f1 no O w = WS G ad g1 nf F1 f1 no O w from by rw [hgg]] at hO
          refine lv_aload_n hx hb dL_law_1271 rfl (lv_at hl 8 rfl) ?_
          refine lv_iconst (v := 0) hx hb dL_law_1272 (by decide) ?_
          rw [← WC_WS] at hO
          refine m_vI (As := [.int 0]) (rest := []) (n := 1) hF hC hO hS (k_X5_vat l G lo sa ad (WS G ad g1 nf F1 f1 no O w (WW G ad nf A R)) g1 nf F1 f1 no O tf tv fw 0 hnf hno (by omega)) ok_X5_vat q_139 rfl rfl ⟨Nat.le_of_ble_eq_true rfl, Nat.le_of_ble_eq_true rfl⟩ rfl hl.1 rfl (Nat.le_of_ble_eq_true rfl) ⟨(by show _ ≤ 600104; omega), (by show _ ≤ 7301314; omega)⟩ dL_law_1273 (fun v1273 R' H locs hp hO hS => ?_)
          obtain ⟨rfl, hR⟩ := hp
          rw [hR] at hO
          rw [show m_vat g1 (nI 0) = (g1 0) from by rw [m_vat, if_pos (by decide)]]
          refine lv_aload_n hx hb dL_law_1276 rfl (lv_at hl 9 rfl) ?_
          rw [WC_WS] at hO
          refine m_get inX7 hF hC hO rfl rfl 0 (by decide) q_501 (v := .int (g1 0)) rfl dL_law_1277 ?_
          refine lv_icmp_ne (tgt := 1295) hx hb dL_law_1280 (by decide) (fun c1280 => absurd rfl c1280) (fun c1280 => ?_)
          refine lv_aload_n hx hb dL_law_1283 rfl (lv_at hl 8 rfl) ?_
          rw [← WC_WS] at hO
          refine m_vI (As := []) (rest := []) (n := 0) hF hC hO hS (k_X5_possible l G lo sa ad (WS G ad g1 nf F1 f1 no O w (WW G ad nf A R)) g1 nf F1 f1 no O tf tv fw hnf hno hfw (fun j hj => (hI1.or j hj).1) (hI1.okS (by omega))) ok_X5_possible q_443 rfl rfl ⟨Nat.le_of_ble_eq_true rfl, Nat.le_of_ble_eq_true rfl⟩ rfl hl.1 rfl (Nat.le_of_ble_eq_true rfl) ⟨(by show _ ≤ 600104; omega), (by show _ ≤ 7301314; omega)⟩ dL_law_1284 (fun v1284 R' H locs hp hO hS => ?_)
          obtain ⟨rfl, fw_1284, hx1284, hR⟩ := hp
          rw [hR] at hO
          refine lv_aload_n hx hb dL_law_1287 rfl (lv_at hl 8 rfl) ?_
          refine lv_iconst (v := 4) hx hb dL_law_1288 (by decide) ?_
          refine m_vI (As := [.int 4]) (rest := [.int (dSum (fun k => (dCz O f1 no k 9 []).length) 4 0 0)]) (n := 1) hF hC hO hS (k_X5_count l G lo sa ad (WS G ad g1 nf F1 f1 no O w (WW G ad nf A R)) g1 nf F1 f1 no O tf tv fw_1284 4 hnf hno (by omega)) ok_X5_count q_383 rfl rfl ⟨Nat.le_of_ble_eq_true rfl, Nat.le_of_ble_eq_true rfl⟩ rfl hl.1 rfl (Nat.le_of_ble_eq_true rfl) ⟨(by show _ ≤ 600104; omega), (by show _ ≤ 7301314; omega)⟩ dL_law_1289 (fun v1289 R' H locs hp hO hS => ?_)
          obtain ⟨rfl, hR⟩ := hp
          rw [hR] at hO
          rw [show c_count g1 nf F1 f1 no O 4 = (nI no) from rfl]
          refine lv_icmp_le (tgt := 1297) hx hb dL_law_1292 (by decide) (fun c1292 => ?_) (fun c1292 => absurd (most_le hno) c1292)
          rw [WC_WS] at hO
          have hO := was_gone hz hO
          exact h1297 ad g1 nf F1 f1 no O w tf tv fw_1284 H _ _ _ _ (hI1.mono (by omega) (by omega)) h1 hx1284 hO hS (lv_sub hl [7, 8, 9, 10, 11] rfl) hc9 hs9
      · refine lv_goto (tgt := 1297) hx hb dL_law_1008 (by decide) ?_
        rw [WC_WS] at hO
        have hO := was_gone hz hO
        exact h1297 ad g nf F f no O w tf tv fw H _ _ _ _ (hI.mono (by omega) (by omega)) h1 hfw hO hS (lv_sub hl [1, 2, 3, 4, 5] rfl) hc9 hs9
