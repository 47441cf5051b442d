theorem ok_X5_frameAt : mOK RX5 yX5_frameAt cX5_frameAt 2 (some (.object "CandleDip$Frame")) 1 := ⟨q_221, qs_1, q_1, q_222, by decide +kernel⟩
set_option maxHeartbeats 400000 in
set_option maxRecDepth 100000 in
theorem k_X5_frameAt (l : Launch) (G : mG) (lo : Nat) (sa : mSc) (ad : Nat → Nat) (R : mM) (g : Nat → Int32) (nf : Nat) (F : Nat → Nat → Int32) (f : Nat → Int32) (no : Nat) (O : Nat → Nat → Int32) (tf tv fw : Nat → Int32) (i : Nat) (hnf : nf ≤ 12) (hno : no ≤ 20) (hi : i < nf) : mR l yX5_frameAt cX5_frameAt 2 (.object "CandleDip$Frame") 0 0 G lo sa ad (WC G ad g nf F f no O tf tv fw R) [.ref (ad 0), .int (nI i)] (ad (100 + i)) := by
  refine mR_of (by decide) (Nat.le_of_ble_eq_true rfl) ?_
  intro p e s m args below meth c hF hr hlk hC ls hl hO hS Q hQ
  have hx := hF.1
  have hb := hF.2.1
  have hl : lv_has ls 2 [(0, .ref (ad 0)), (1, .int (nI i))] := hl
  refine lv_iload_n hx hb dX5_frameAt_0 rfl (lv_at hl 1 rfl) ?_
  refine lv_if_lt (tgt := 22) hx hb dX5_frameAt_1 (by decide) (fun c1 => absurd c1 (nI_pos (by omega))) (fun c1 => ?_)
  refine lv_iload_n hx hb dX5_frameAt_4 rfl (lv_at hl 1 rfl) ?_
  refine lv_aload_n hx hb dX5_frameAt_5 rfl (lv_at hl 0 rfl) ?_
  refine m_get inX5 hF hC hO rfl rfl 1 (by decide) q_112 (v := .ref (ad 2)) rfl dX5_frameAt_6 ?_
  refine m_alen 3 hF hC hO rfl rfl (v := 12) rfl dX5_frameAt_9 ?_
  refine lv_icmp_ge (tgt := 22) hx hb dX5_frameAt_10 (by decide) (fun c10 => absurd c10 (nI_ge (a := i) (b := 12) (by omega) (by decide))) (fun c10 => ?_)
  refine lv_aload_n hx hb dX5_frameAt_13 rfl (lv_at hl 0 rfl) ?_
  refine m_get inX5 hF hC hO rfl rfl 1 (by decide) q_112 (v := .ref (ad 2)) rfl dX5_frameAt_14 ?_
  refine lv_iload_n hx hb dX5_frameAt_17 rfl (lv_at hl 1 rfl) ?_
  refine m_aldF hF hC hO rfl (j := i) (nI_clamp (by omega)) (vp_in_nI (by omega) (by decide)) dX5_frameAt_18 (v := .ref (ad (100 + i))) (adF_in (by first | assumption | omega)) ?_
  refine lv_ifnonnull (tgt := 33) hx hb dX5_frameAt_19 (by decide) ?_
  refine lv_aload_n hx hb dX5_frameAt_33 rfl (lv_at hl 0 rfl) ?_
  refine m_get inX5 hF hC hO rfl rfl 1 (by decide) q_112 (v := .ref (ad 2)) rfl dX5_frameAt_34 ?_
  refine lv_iload_n hx hb dX5_frameAt_37 rfl (lv_at hl 1 rfl) ?_
  refine m_aldF hF hC hO rfl (j := i) (nI_clamp (by omega)) (vp_in_nI (by omega) (by decide)) dX5_frameAt_38 (v := .ref (ad (100 + i))) (adF_in (by first | assumption | omega)) ?_
  exact m_aret hF hr hlk hQ hO hS dX5_frameAt_39
theorem ok_X5_orderAt : mOK RX5 yX5_orderAt cX5_orderAt 2 (some (.object "CandleDip$Order")) 1 := ⟨q_669, qs_16, q_1, q_670, by decide +kernel⟩
set_option maxHeartbeats 400000 in
set_option maxRecDepth 100000 in
theorem k_X5_orderAt (l : Launch) (G : mG) (lo : Nat) (sa : mSc) (ad : Nat → Nat) (R : mM) (g : Nat → Int32) (nf : Nat) (F : Nat → Nat → Int32) (f : Nat → Int32) (no : Nat) (O : Nat → Nat → Int32) (tf tv fw : Nat → Int32) (i : Nat) (hnf : nf ≤ 12) (hno : no ≤ 20) (hi : i < no) : mR l yX5_orderAt cX5_orderAt 2 (.object "CandleDip$Order") 0 0 G lo sa ad (WC G ad g nf F f no O tf tv fw R) [.ref (ad 0), .int (nI i)] (ad (120 + i)) := by
  refine mR_of (by decide) (Nat.le_of_ble_eq_true rfl) ?_
  intro p e s m args below meth c hF hr hlk hC ls hl hO hS Q hQ
  have hx := hF.1
  have hb := hF.2.1
  have hl : lv_has ls 2 [(0, .ref (ad 0)), (1, .int (nI i))] := hl
  refine lv_iload_n hx hb dX5_orderAt_0 rfl (lv_at hl 1 rfl) ?_
  refine lv_if_lt (tgt := 22) hx hb dX5_orderAt_1 (by decide) (fun c1 => absurd c1 (nI_pos (by omega))) (fun c1 => ?_)
  refine lv_iload_n hx hb dX5_orderAt_4 rfl (lv_at hl 1 rfl) ?_
  refine lv_aload_n hx hb dX5_orderAt_5 rfl (lv_at hl 0 rfl) ?_
  refine m_get inX5 hF hC hO rfl rfl 3 (by decide) q_114 (v := .ref (ad 5)) rfl dX5_orderAt_6 ?_
  refine m_alen 4 hF hC hO rfl rfl (v := 20) rfl dX5_orderAt_9 ?_
  refine lv_icmp_ge (tgt := 22) hx hb dX5_orderAt_10 (by decide) (fun c10 => absurd c10 (nI_ge (a := i) (b := 20) (by omega) (by decide))) (fun c10 => ?_)
  refine lv_aload_n hx hb dX5_orderAt_13 rfl (lv_at hl 0 rfl) ?_
  refine m_get inX5 hF hC hO rfl rfl 3 (by decide) q_114 (v := .ref (ad 5)) rfl dX5_orderAt_14 ?_
  refine lv_iload_n hx hb dX5_orderAt_17 rfl (lv_at hl 1 rfl) ?_
  refine m_aldO hF hC hO rfl (j := i) (nI_clamp (by omega)) (vp_in_nI (by omega) (by decide)) dX5_orderAt_18 (v := .ref (ad (120 + i))) (adF_in (by first | assumption | omega)) ?_
  refine lv_ifnonnull (tgt := 33) hx hb dX5_orderAt_19 (by decide) ?_
  refine lv_aload_n hx hb dX5_orderAt_33 rfl (lv_at hl 0 rfl) ?_
  refine m_get inX5 hF hC hO rfl rfl 3 (by decide) q_114 (v := .ref (ad 5)) rfl dX5_orderAt_34 ?_
  refine lv_iload_n hx hb dX5_orderAt_37 rfl (lv_at hl 1 rfl) ?_
  refine m_aldO hF hC hO rfl (j := i) (nI_clamp (by omega)) (vp_in_nI (by omega) (by decide)) dX5_orderAt_38 (v := .ref (ad (120 + i))) (adF_in (by first | assumption | omega)) ?_
  exact m_aret hF hr hlk hQ hO hS dX5_orderAt_39
theorem ok_X5_vat : mOK RX5 yX5_vat cX5_vat 2 (some .int) 1 := ⟨q_140, q_141, q_1, q_142, by decide +kernel⟩
set_option maxHeartbeats 400000 in
set_option maxRecDepth 100000 in
theorem k_X5_vat (l : Launch) (G : mG) (lo : Nat) (sa : mSc) (ad : Nat → Nat) (R : mM) (g : Nat → Int32) (nf : Nat) (F : Nat → Nat → Int32) (f : Nat → Int32) (no : Nat) (O : Nat → Nat → Int32) (tf tv fw : Nat → Int32) (k : Nat) (hnf : nf ≤ 12) (hno : no ≤ 20) (hk3 : k ≤ 3) : mI l yX5_vat cX5_vat 2 .int 1 20 G lo sa ad (WC G ad g nf F f no O tf tv fw R) [.ref (ad 0), .int (nI k)] (fun v R' => v = m_vat g (nI k) ∧ R' = (WC G ad g nf F f no O tf tv fw R)) := by
  refine mI_of (by decide) (Nat.le_of_ble_eq_true rfl) ?_
  intro p e s m args below meth c hF hr hlk hC ls hl hO hS Q hQ
  have hx := hF.1
  have hb := hF.2.1
  have hl : lv_has ls 2 [(0, .ref (ad 0)), (1, .int (nI k))] := hl
  refine lv_iload_n hx hb dX5_vat_0 rfl (lv_at hl 1 rfl) ?_
  rcases (show k = 0 ∨ k = 1 ∨ k = 2 ∨ k = 3 by omega) with rfl | rfl | rfl | rfl
  · refine lv_tableIn (off := 31) (tgt := 32) hx hb dX5_vat_1 (by decide) (by decide) (by decide) (by decide) ?_
    refine lv_aload_n hx hb dX5_vat_32 rfl (lv_at hl 0 rfl) ?_
    refine m_get inX5 hF hC hO rfl rfl 0 (by decide) q_111 (v := .ref (ad 1)) rfl dX5_vat_33 ?_
    refine m_get inX4 hF hC hO rfl rfl 0 (by decide) q_30 (v := .int (g 0)) rfl dX5_vat_36 ?_
    refine m_iret hF hr hlk hQ rfl hO hS dX5_vat_39 ?_
    exact ⟨by rw [m_vat, if_pos (by decide)], rfl⟩
  · refine lv_tableIn (off := 39) (tgt := 40) hx hb dX5_vat_1 (by decide) (by decide) (by decide) (by decide) ?_
    refine lv_aload_n hx hb dX5_vat_40 rfl (lv_at hl 0 rfl) ?_
    refine m_get inX5 hF hC hO rfl rfl 0 (by decide) q_111 (v := .ref (ad 1)) rfl dX5_vat_41 ?_
    refine m_get inX4 hF hC hO rfl rfl 1 (by decide) q_34 (v := .int (g 1)) rfl dX5_vat_44 ?_
    refine m_iret hF hr hlk hQ rfl hO hS dX5_vat_47 ?_
    exact ⟨by rw [m_vat, if_neg (by decide), if_pos (by decide)], rfl⟩
  · refine lv_tableIn (off := 47) (tgt := 48) hx hb dX5_vat_1 (by decide) (by decide) (by decide) (by decide) ?_
    refine lv_aload_n hx hb dX5_vat_48 rfl (lv_at hl 0 rfl) ?_
    refine m_get inX5 hF hC hO rfl rfl 0 (by decide) q_111 (v := .ref (ad 1)) rfl dX5_vat_49 ?_
    refine m_get inX4 hF hC hO rfl rfl 2 (by decide) q_36 (v := .int (g 2)) rfl dX5_vat_52 ?_
    refine m_iret hF hr hlk hQ rfl hO hS dX5_vat_55 ?_
    exact ⟨by rw [m_vat, if_neg (by decide), if_neg (by decide), if_pos (by decide)], rfl⟩
  · refine lv_tableIn (off := 55) (tgt := 56) hx hb dX5_vat_1 (by decide) (by decide) (by decide) (by decide) ?_
    refine lv_aload_n hx hb dX5_vat_56 rfl (lv_at hl 0 rfl) ?_
    refine m_get inX5 hF hC hO rfl rfl 0 (by decide) q_111 (v := .ref (ad 1)) rfl dX5_vat_57 ?_
    refine m_vI (As := []) (rest := []) (n := 0) hF hC hO hS (k_X4_isMelted l G lo sa ad _ 1 g rfl) ok_X4_isMelted q_143 rfl rfl ⟨Nat.le_of_ble_eq_true rfl, Nat.le_of_ble_eq_true rfl⟩ rfl hl.1 rfl (Nat.le_of_ble_eq_true rfl) ⟨Nat.le_of_ble_eq_true rfl, Nat.le_of_ble_eq_true rfl⟩ dX5_vat_60 (fun v60 R' H locs hp hO hS => ?_)
    obtain ⟨⟨rfl, b60⟩ | ⟨rfl, b60⟩, hR⟩ := hp
    · rw [hR] at hO
      refine lv_if_eq (tgt := 70) hx hb dX5_vat_63 (by decide) (fun c63 => absurd c63 (by decide)) (fun c63 => ?_)
      refine lv_iconst (v := 1) hx hb dX5_vat_66 (by decide) ?_
      refine lv_goto (tgt := 71) hx hb dX5_vat_67 (by decide) ?_
      refine m_iret hF hr hlk hQ rfl hO hS dX5_vat_71 ?_
      exact ⟨by rw [m_vat, if_neg (by decide), if_neg (by decide), if_neg (by decide), if_pos b60], rfl⟩
    · rw [hR] at hO
      refine lv_if_eq (tgt := 70) hx hb dX5_vat_63 (by decide) (fun c63 => ?_) (fun c63 => absurd (by decide) c63)
      refine lv_iconst (v := 0) hx hb dX5_vat_70 (by decide) ?_
      refine m_iret hF hr hlk hQ rfl hO hS dX5_vat_71 ?_
      exact ⟨by rw [m_vat, if_neg (by decide), if_neg (by decide), if_neg (by decide), if_neg b60], rfl⟩
theorem ok_X5_count : mOK RX5 yX5_count cX5_count 2 (some .int) 1 := ⟨q_384, q_385, q_1, q_386, by decide +kernel⟩
set_option maxHeartbeats 400000 in
set_option maxRecDepth 100000 in
theorem k_X5_count (l : Launch) (G : mG) (lo : Nat) (sa : mSc) (ad : Nat → Nat) (R : mM) (g : Nat → Int32) (nf : Nat) (F : Nat → Nat → Int32) (f : Nat → Int32) (no : Nat) (O : Nat → Nat → Int32) (tf tv fw : Nat → Int32) (k : Nat) (hnf : nf ≤ 12) (hno : no ≤ 20) (hk8 : k ≤ 8) : mI l yX5_count cX5_count 2 .int 2 45 G lo sa ad (WC G ad g nf F f no O tf tv fw R) [.ref (ad 0), .int (nI k)] (fun v R' => v = c_count g nf F f no O k ∧ R' = (WC G ad g nf F f no O tf tv fw R)) := by
  refine mI_of (by decide) (Nat.le_of_ble_eq_true rfl) ?_
  intro p e s m args below meth c hF hr hlk hC ls hl hO hS Q hQ
  have hx := hF.1
  have hb := hF.2.1
  have hl : lv_has ls 2 [(0, .ref (ad 0)), (1, .int (nI k))] := hl
  refine lv_iload_n hx hb dX5_count_0 rfl (lv_at hl 1 rfl) ?_
  rcases (show k = 0 ∨ k = 1 ∨ k = 2 ∨ k = 3 ∨ k = 4 ∨ k = 5 ∨ k = 6 ∨ k = 7 ∨ k = 8 by omega) with rfl | rfl | rfl | rfl | rfl | rfl | rfl | rfl | rfl
  · refine lv_tableIn (off := 51) (tgt := 52) hx hb dX5_count_1 (by decide) (by decide) (by decide) (by decide) ?_
    refine lv_aload_n hx hb dX5_count_52 rfl (lv_at hl 0 rfl) ?_
    refine m_get inX5 hF hC hO rfl rfl 6 (by decide) q_117 (v := .int (g 3)) rfl dX5_count_53 ?_
    refine m_iret hF hr hlk hQ rfl hO hS dX5_count_56 ?_
    exact ⟨rfl, rfl⟩
  · refine lv_tableIn (off := 56) (tgt := 57) hx hb dX5_count_1 (by decide) (by decide) (by decide) (by decide) ?_
    refine lv_aload_n hx hb dX5_count_57 rfl (lv_at hl 0 rfl) ?_
    refine m_vI (As := []) (rest := []) (n := 0) hF hC hO hS (k_X5_framesMade l G lo sa ad R g nf F f no O tf tv fw hnf hno) ok_X5_framesMade q_387 rfl rfl ⟨Nat.le_of_ble_eq_true rfl, Nat.le_of_ble_eq_true rfl⟩ rfl hl.1 rfl (Nat.le_of_ble_eq_true rfl) ⟨Nat.le_of_ble_eq_true rfl, Nat.le_of_ble_eq_true rfl⟩ dX5_count_58 (fun v58 R' H locs hp hO hS => ?_)
    obtain ⟨rfl, hR⟩ := hp
    rw [hR] at hO
    refine m_iret hF hr hlk hQ rfl hO hS dX5_count_61 ?_
    exact ⟨rfl, rfl⟩
  · refine lv_tableIn (off := 61) (tgt := 62) hx hb dX5_count_1 (by decide) (by decide) (by decide) (by decide) ?_
    refine lv_aload_n hx hb dX5_count_62 rfl (lv_at hl 0 rfl) ?_
    refine m_vI (As := []) (rest := []) (n := 0) hF hC hO hS (k_X5_framesHanging l G lo sa ad R g nf F f no O tf tv fw hnf hno) ok_X5_framesHanging q_391 rfl rfl ⟨Nat.le_of_ble_eq_true rfl, Nat.le_of_ble_eq_true rfl⟩ rfl hl.1 rfl (Nat.le_of_ble_eq_true rfl) ⟨Nat.le_of_ble_eq_true rfl, Nat.le_of_ble_eq_true rfl⟩ dX5_count_63 (fun v63 R' H locs hp hO hS => ?_)
    obtain ⟨rfl, hR⟩ := hp
    rw [hR] at hO
    refine m_iret hF hr hlk hQ rfl hO hS dX5_count_66 ?_
    exact ⟨rfl, rfl⟩
  · refine lv_tableIn (off := 66) (tgt := 67) hx hb dX5_count_1 (by decide) (by decide) (by decide) (by decide) ?_
    refine lv_aload_n hx hb dX5_count_67 rfl (lv_at hl 0 rfl) ?_
    refine m_get inX5 hF hC hO rfl rfl 2 (by decide) q_113 (v := .ref (ad 3)) rfl dX5_count_68 ?_
    refine m_vI (As := []) (rest := []) (n := 0) hF hC hO hS (k_X2_total l G lo sa ad _ f rfl rfl) ok_X2_total q_396 rfl rfl ⟨Nat.le_of_ble_eq_true rfl, Nat.le_of_ble_eq_true rfl⟩ rfl hl.1 rfl (Nat.le_of_ble_eq_true rfl) ⟨Nat.le_of_ble_eq_true rfl, Nat.le_of_ble_eq_true rfl⟩ dX5_count_71 (fun v71 R' H locs hp hO hS => ?_)
    obtain ⟨rfl, hR⟩ := hp
    rw [hR] at hO
    refine m_iret hF hr hlk hQ rfl hO hS dX5_count_74 ?_
    exact ⟨rfl, rfl⟩
  · refine lv_tableIn (off := 74) (tgt := 75) hx hb dX5_count_1 (by decide) (by decide) (by decide) (by decide) ?_
    refine lv_aload_n hx hb dX5_count_75 rfl (lv_at hl 0 rfl) ?_
    refine m_vI (As := []) (rest := []) (n := 0) hF hC hO hS (k_X5_ordersTaken l G lo sa ad R g nf F f no O tf tv fw hnf hno) ok_X5_ordersTaken q_400 rfl rfl ⟨Nat.le_of_ble_eq_true rfl, Nat.le_of_ble_eq_true rfl⟩ rfl hl.1 rfl (Nat.le_of_ble_eq_true rfl) ⟨Nat.le_of_ble_eq_true rfl, Nat.le_of_ble_eq_true rfl⟩ dX5_count_76 (fun v76 R' H locs hp hO hS => ?_)
    obtain ⟨rfl, hR⟩ := hp
    rw [hR] at hO
    refine m_iret hF hr hlk hQ rfl hO hS dX5_count_79 ?_
    exact ⟨rfl, rfl⟩
  · refine lv_tableIn (off := 79) (tgt := 80) hx hb dX5_count_1 (by decide) (by decide) (by decide) (by decide) ?_
    refine lv_aload_n hx hb dX5_count_80 rfl (lv_at hl 0 rfl) ?_
    refine lv_iconst (v := 1) hx hb dX5_count_81 (by decide) ?_
    refine m_vI (As := [.int 1]) (rest := []) (n := 1) hF hC hO hS (k_X5_ordersInState l G lo sa ad R g nf F f no O tf tv fw 1 hnf hno) ok_X5_ordersInState q_404 rfl rfl ⟨Nat.le_of_ble_eq_true rfl, Nat.le_of_ble_eq_true rfl⟩ rfl hl.1 rfl (Nat.le_of_ble_eq_true rfl) ⟨Nat.le_of_ble_eq_true rfl, Nat.le_of_ble_eq_true rfl⟩ dX5_count_82 (fun v82 R' H locs hp hO hS => ?_)
    obtain ⟨rfl, hR⟩ := hp
    rw [hR] at hO
    refine m_iret hF hr hlk hQ rfl hO hS dX5_count_85 ?_
    exact ⟨rfl, rfl⟩
  · refine lv_tableIn (off := 85) (tgt := 86) hx hb dX5_count_1 (by decide) (by decide) (by decide) (by decide) ?_
    refine lv_aload_n hx hb dX5_count_86 rfl (lv_at hl 0 rfl) ?_
    refine lv_iconst (v := 2) hx hb dX5_count_87 (by decide) ?_
    refine m_vI (As := [.int 2]) (rest := []) (n := 1) hF hC hO hS (k_X5_ordersInState l G lo sa ad R g nf F f no O tf tv fw 2 hnf hno) ok_X5_ordersInState q_404 rfl rfl ⟨Nat.le_of_ble_eq_true rfl, Nat.le_of_ble_eq_true rfl⟩ rfl hl.1 rfl (Nat.le_of_ble_eq_true rfl) ⟨Nat.le_of_ble_eq_true rfl, Nat.le_of_ble_eq_true rfl⟩ dX5_count_88 (fun v88 R' H locs hp hO hS => ?_)
    obtain ⟨rfl, hR⟩ := hp
    rw [hR] at hO
    refine m_iret hF hr hlk hQ rfl hO hS dX5_count_91 ?_
    exact ⟨rfl, rfl⟩
  · refine lv_tableIn (off := 91) (tgt := 92) hx hb dX5_count_1 (by decide) (by decide) (by decide) (by decide) ?_
    refine lv_aload_n hx hb dX5_count_92 rfl (lv_at hl 0 rfl) ?_
    refine m_get inX5 hF hC hO rfl rfl 7 (by decide) q_118 (v := .int (g 4)) rfl dX5_count_93 ?_
    refine m_iret hF hr hlk hQ rfl hO hS dX5_count_96 ?_
    exact ⟨rfl, rfl⟩
  · refine lv_tableIn (off := 96) (tgt := 97) hx hb dX5_count_1 (by decide) (by decide) (by decide) (by decide) ?_
    refine lv_aload_n hx hb dX5_count_97 rfl (lv_at hl 0 rfl) ?_
    refine m_get inX5 hF hC hO rfl rfl 8 (by decide) q_119 (v := .int (g 5)) rfl dX5_count_98 ?_
    refine m_iret hF hr hlk hQ rfl hO hS dX5_count_101 ?_
    exact ⟨rfl, rfl⟩
theorem ok_X5_frame : mOK RX5 yX5_frame cX5_frame 4 (some .int) 2 := ⟨q_339, q_340, q_1, q_341, by decide +kernel⟩
set_option maxHeartbeats 400000 in
set_option maxRecDepth 100000 in
theorem k_X5_frame (l : Launch) (G : mG) (lo : Nat) (sa : mSc) (ad : Nat → Nat) (R : mM) (g : Nat → Int32) (nf : Nat) (F : Nat → Nat → Int32) (f : Nat → Int32) (no : Nat) (O : Nat → Nat → Int32) (tf tv fw : Nat → Int32) (i k : Nat) (hnf : nf ≤ 12) (hno : no ≤ 20) (hi : i < nf) (hk7 : k ≤ 7) (hcr : F i 4 = 0 ∨ F i 4 = 1) : mI l yX5_frame cX5_frame 4 .int 2 41 G lo sa ad (WC G ad g nf F f no O tf tv fw R) [.ref (ad 0), .int (nI i), .int (nI k)] (fun v R' => v = c_frame (F i) k ∧ R' = (WC G ad g nf F f no O tf tv fw R)) := by
  refine mI_of (by decide) (Nat.le_of_ble_eq_true rfl) ?_
  intro p e s m args below meth c hF hr hlk hC ls hl hO hS Q hQ
  have hx := hF.1
  have hb := hF.2.1
  have hl : lv_has ls 4 [(0, .ref (ad 0)), (1, .int (nI i)), (2, .int (nI k))] := hl
  refine lv_aload_n hx hb dX5_frame_0 rfl (lv_at hl 0 rfl) ?_
  refine lv_iload_n hx hb dX5_frame_1 rfl (lv_at hl 1 rfl) ?_
  refine m_vR (As := [.int (nI i)]) (rest := []) (n := 1) hF hC hO hS (k_X5_frameAt l G lo sa ad R g nf F f no O tf tv fw i hnf hno (by omega)) ok_X5_frameAt q_219 rfl rfl ⟨Nat.le_of_ble_eq_true rfl, Nat.le_of_ble_eq_true rfl⟩ rfl hl.1 rfl (Nat.le_of_ble_eq_true rfl) ⟨Nat.le_of_ble_eq_true rfl, Nat.le_of_ble_eq_true rfl⟩ dX5_frame_2 (fun H locs hO hS => ?_)
  refine lv_astore_n (lv' := [(3, .ref (ad (100 + i))), (0, .ref (ad 0)), (1, .int (nI i)), (2, .int (nI k))]) hx hb dX5_frame_5 rfl hl (by decide) rfl (fun ls hl => ?_)
  refine lv_iload_n hx hb dX5_frame_6 rfl (lv_at hl 3 rfl) ?_
  rcases (show k = 0 ∨ k = 1 ∨ k = 2 ∨ k = 3 ∨ k = 4 ∨ k = 5 ∨ k = 6 ∨ k = 7 by omega) with rfl | rfl | rfl | rfl | rfl | rfl | rfl | rfl
  · refine lv_tableIn (off := 45) (tgt := 52) hx hb dX5_frame_7 (by decide) (by decide) (by decide) (by decide) ?_
    refine lv_aload_n hx hb dX5_frame_52 rfl (lv_at hl 0 rfl) ?_
    refine m_get inX0 hF hC hO (WC_F (i := i) (by assumption) hnf) rfl 0 (by decide) q_73 (v := .int ((F i) 0)) rfl dX5_frame_53 ?_
    refine m_iret hF hr hlk hQ rfl hO hS dX5_frame_56 ?_
    exact ⟨rfl, rfl⟩
  · refine lv_tableIn (off := 50) (tgt := 57) hx hb dX5_frame_7 (by decide) (by decide) (by decide) (by decide) ?_
    refine lv_aload_n hx hb dX5_frame_57 rfl (lv_at hl 0 rfl) ?_
    refine m_get inX0 hF hC hO (WC_F (i := i) (by assumption) hnf) rfl 1 (by decide) q_75 (v := .int ((F i) 1)) rfl dX5_frame_58 ?_
    refine m_iret hF hr hlk hQ rfl hO hS dX5_frame_61 ?_
    exact ⟨rfl, rfl⟩
  · refine lv_tableIn (off := 55) (tgt := 62) hx hb dX5_frame_7 (by decide) (by decide) (by decide) (by decide) ?_
    refine lv_aload_n hx hb dX5_frame_62 rfl (lv_at hl 0 rfl) ?_
    refine m_get inX0 hF hC hO (WC_F (i := i) (by assumption) hnf) rfl 2 (by decide) q_78 (v := .int ((F i) 2)) rfl dX5_frame_63 ?_
    refine m_iret hF hr hlk hQ rfl hO hS dX5_frame_66 ?_
    exact ⟨rfl, rfl⟩
  · refine lv_tableIn (off := 60) (tgt := 67) hx hb dX5_frame_7 (by decide) (by decide) (by decide) (by decide) ?_
    refine lv_aload_n hx hb dX5_frame_67 rfl (lv_at hl 0 rfl) ?_
    refine m_get inX0 hF hC hO (WC_F (i := i) (by assumption) hnf) rfl 3 (by decide) q_80 (v := .int ((F i) 3)) rfl dX5_frame_68 ?_
    refine m_iret hF hr hlk hQ rfl hO hS dX5_frame_71 ?_
    exact ⟨rfl, rfl⟩
  · refine lv_tableIn (off := 65) (tgt := 72) hx hb dX5_frame_7 (by decide) (by decide) (by decide) (by decide) ?_
    refine lv_aload_n hx hb dX5_frame_72 rfl (lv_at hl 0 rfl) ?_
    refine m_get inX0 hF hC hO (WC_F (i := i) (by assumption) hnf) rfl 4 (by decide) q_82 (v := .int ((F i) 4)) rfl dX5_frame_73 ?_
    refine lv_if_eq (tgt := 83) hx hb dX5_frame_76 (by decide) (fun c76 => ?_) (fun c76 => ?_)
    · refine lv_iconst (v := 0) hx hb dX5_frame_83 (by decide) ?_
      refine m_iret hF hr hlk hQ rfl hO hS dX5_frame_84 ?_
      exact ⟨c76.symm, rfl⟩
    · refine lv_iconst (v := 1) hx hb dX5_frame_79 (by decide) ?_
      refine lv_goto (tgt := 84) hx hb dX5_frame_80 (by decide) ?_
      refine m_iret hF hr hlk hQ rfl hO hS dX5_frame_84 ?_
      exact ⟨(hcr.resolve_left c76).symm, rfl⟩
  · refine lv_tableIn (off := 78) (tgt := 85) hx hb dX5_frame_7 (by decide) (by decide) (by decide) (by decide) ?_
    refine lv_aload_n hx hb dX5_frame_85 rfl (lv_at hl 0 rfl) ?_
    refine m_get inX0 hF hC hO (WC_F (i := i) (by assumption) hnf) rfl 5 (by decide) q_84 (v := .int ((F i) 5)) rfl dX5_frame_86 ?_
    refine m_iret hF hr hlk hQ rfl hO hS dX5_frame_89 ?_
    exact ⟨rfl, rfl⟩
  · refine lv_tableIn (off := 83) (tgt := 90) hx hb dX5_frame_7 (by decide) (by decide) (by decide) (by decide) ?_
    refine lv_aload_n hx hb dX5_frame_90 rfl (lv_at hl 0 rfl) ?_
    refine m_get inX0 hF hC hO (WC_F (i := i) (by assumption) hnf) rfl 6 (by decide) q_86 (v := .int ((F i) 6)) rfl dX5_frame_91 ?_
    refine m_iret hF hr hlk hQ rfl hO hS dX5_frame_94 ?_
    exact ⟨rfl, rfl⟩
  · refine lv_tableIn (off := 88) (tgt := 95) hx hb dX5_frame_7 (by decide) (by decide) (by decide) (by decide) ?_
    refine lv_aload_n hx hb dX5_frame_95 rfl (lv_at hl 0 rfl) ?_
    refine m_vI (As := []) (rest := []) (n := 0) hF hC hO hS (k_X0_size l G lo sa ad _ (100 + i) (F i) (WC_F (i := i) (by assumption) hnf)) ok_X0_size q_315 (WC_F (i := i) (by assumption) hnf) rfl ⟨Nat.le_of_ble_eq_true rfl, Nat.le_of_ble_eq_true rfl⟩ rfl hl.1 rfl (Nat.le_of_ble_eq_true rfl) ⟨Nat.le_of_ble_eq_true rfl, Nat.le_of_ble_eq_true rfl⟩ dX5_frame_96 (fun v96 R' H locs hp hO hS => ?_)
    obtain ⟨rfl, hR⟩ := hp
    rw [hR] at hO
    refine m_iret hF hr hlk hQ rfl hO hS dX5_frame_99 ?_
    exact ⟨rfl, rfl⟩
theorem ok_X5_store : mOK RX5 yX5_store cX5_store 3 (some .int) 2 := ⟨q_354, q_355, q_1, q_356, by decide +kernel⟩
set_option maxHeartbeats 400000 in
set_option maxRecDepth 100000 in
theorem k_X5_store (l : Launch) (G : mG) (lo : Nat) (sa : mSc) (ad : Nat → Nat) (R : mM) (g : Nat → Int32) (nf : Nat) (F : Nat → Nat → Int32) (f : Nat → Int32) (no : Nat) (O : Nat → Nat → Int32) (tf tv fw : Nat → Int32) (k z : Nat) (hnf : nf ≤ 12) (hno : no ≤ 20) (hk : k < 4) (hz1 : 1 ≤ z) (hz9 : z ≤ 9) : mI l yX5_store cX5_store 3 .int 3 65 G lo sa ad (WC G ad g nf F f no O tf tv fw R) [.ref (ad 0), .int (nI k), .int (nI z)] (fun v R' => v = (f (9 * k + z - 1)) ∧ R' = (WC G ad g nf F f no O tf tv fw R)) := by
  refine mI_of (by decide) (Nat.le_of_ble_eq_true rfl) ?_
  intro p e s m args below meth c hF hr hlk hC ls hl hO hS Q hQ
  have hx := hF.1
  have hb := hF.2.1
  have hl : lv_has ls 3 [(0, .ref (ad 0)), (1, .int (nI k)), (2, .int (nI z))] := hl
  refine lv_iload_n hx hb dX5_store_0 rfl (lv_at hl 1 rfl) ?_
  refine lv_iload_n hx hb dX5_store_1 rfl (lv_at hl 2 rfl) ?_
  refine m_sI (As := [.int (nI k), .int (nI z)]) (rest := []) (n := 2) hF hC hO hS (k_X2_hasShelf l G lo sa ad _ (nI k) (nI z) ) ok_X2_hasShelf q_357 ⟨Nat.le_of_ble_eq_true rfl, Nat.le_of_ble_eq_true rfl⟩ rfl hl.1 rfl (Nat.le_of_ble_eq_true rfl) ⟨Nat.le_of_ble_eq_true rfl, Nat.le_of_ble_eq_true rfl⟩ dX5_store_2 (fun v2 R' H locs hp hO hS => ?_)
  obtain ⟨⟨rfl, b2⟩ | ⟨rfl, b2⟩, hR⟩ := hp
  · rw [hR] at hO
    refine lv_if_ne (tgt := 18) hx hb dX5_store_5 (by decide) (fun c5 => ?_) (fun c5 => absurd c5 (by decide))
    refine lv_aload_n hx hb dX5_store_18 rfl (lv_at hl 0 rfl) ?_
    refine m_get inX5 hF hC hO rfl rfl 2 (by decide) q_113 (v := .ref (ad 3)) rfl dX5_store_19 ?_
    refine lv_iload_n hx hb dX5_store_22 rfl (lv_at hl 1 rfl) ?_
    refine lv_iload_n hx hb dX5_store_23 rfl (lv_at hl 2 rfl) ?_
    refine m_vI (As := [.int (nI k), .int (nI z)]) (rest := []) (n := 2) hF hC hO hS (k_X2_amount l G lo sa ad _ f k z rfl rfl (by omega) (by omega) (by omega)) ok_X2_amount q_359 rfl rfl ⟨Nat.le_of_ble_eq_true rfl, Nat.le_of_ble_eq_true rfl⟩ rfl hl.1 rfl (Nat.le_of_ble_eq_true rfl) ⟨Nat.le_of_ble_eq_true rfl, Nat.le_of_ble_eq_true rfl⟩ dX5_store_24 (fun v24 R' H locs hp hO hS => ?_)
    obtain ⟨rfl, hR⟩ := hp
    rw [hR] at hO
    refine m_iret hF hr hlk hQ rfl hO hS dX5_store_27 ?_
    exact ⟨rfl, rfl⟩
  · exact absurd (p_shelf_nI hk hz1 hz9) b2
theorem ok_X5_advise : mOK RX5 yX5_advise cX5_advise 5 (some .int) 0 := ⟨q_439, q_440, q_1, q_441, by decide +kernel⟩
set_option maxHeartbeats 400000 in
set_option maxRecDepth 100000 in
theorem k_X5_advise (l : Launch) (G : mG) (lo : Nat) (sa : mSc) (ad : Nat → Nat) (R : mM) (g : Nat → Int32) (nf : Nat) (F : Nat → Nat → Int32) (f : Nat → Int32) (no : Nat) (O : Nat → Nat → Int32) (tf tv fw : Nat → Int32) (hnf : nf ≤ 12) (hno : no ≤ 20) : mI l yX5_advise cX5_advise 5 .int 3 64 G lo sa ad (WC G ad g nf F f no O tf tv fw R) [.ref (ad 0)] (fun v R' => v = c_advL nf 0 (-1) 0 g F ∧ R' = (WC G ad g nf F f no O tf tv fw R)) := by
  refine mI_of (by decide) (Nat.le_of_ble_eq_true rfl) ?_
  intro p e s m args below meth c hF hr hlk hC ls hl hO hS Q hQ
  have hx := hF.1
  have hb := hF.2.1
  have hl : lv_has ls 5 [(0, .ref (ad 0))] := hl
  refine lv_iconst (v := -1) hx hb dX5_advise_0 (by decide) ?_
  refine lv_istore_n (lv' := [(1, .int (-1)), (0, .ref (ad 0))]) hx hb dX5_advise_1 rfl hl (by decide) rfl (fun ls hl => ?_)
  refine lv_iconst (v := 0) hx hb dX5_advise_2 (by decide) ?_
  refine lv_istore_n (lv' := [(2, .int 0), (1, .int (-1)), (0, .ref (ad 0))]) hx hb dX5_advise_3 rfl hl (by decide) rfl (fun ls hl => ?_)
  refine lv_iconst (v := 0) hx hb dX5_advise_4 (by decide) ?_
  refine lv_istore_n (lv' := [(3, .int 0), (2, .int 0), (1, .int (-1)), (0, .ref (ad 0))]) hx hb dX5_advise_5 rfl hl (by decide) rfl (fun ls hl => ?_)
  have L6 : ∀ (n : Nat) (i : Nat) (best : Int32) (most : Int32) (H : Heap) (locs : List Loc) (ls : Array Slot), 12 - i < n → i ≤ 12 → c_advL (nf - i) i best most g F = c_advL nf 0 (-1) 0 g F → lv_has ls 5 [(0, .ref (ad 0)), (3, .int (nI i)), (1, .int best), (2, .int most)] → mO G lo ad (WC G ad g nf F f no O tf tv fw R) H → va_S (mA lo) s.heap H locs → W p l e (mRm 3 64) s m args below meth c H locs 0 0 Q (F0 m 6 ls []) := by
    intro n
    induction n with
    | zero => intro i best most H locs ls hn; exact absurd hn (Nat.not_lt_zero _)
    | succ n ih6 =>
      intro i best most H locs ls hn6 hi hv0 hl hO hS
      refine lv_iload_n hx hb dX5_advise_6 rfl (lv_at hl 1 rfl) ?_
      refine lv_aload_n hx hb dX5_advise_7 rfl (lv_at hl 0 rfl) ?_
      refine m_get inX5 hF hC hO rfl rfl 1 (by decide) q_112 (v := .ref (ad 2)) rfl dX5_advise_8 ?_
      refine m_alen 3 hF hC hO rfl rfl (v := 12) rfl dX5_advise_11 ?_
      refine lv_icmp_ge (tgt := 77) hx hb dX5_advise_12 (by decide) (fun c12 => ?_) (fun c12 => ?_)
      · refine lv_iload_n hx hb dX5_advise_77 rfl (lv_at hl 2 rfl) ?_
        refine m_iret hF hr hlk hQ rfl hO hS dX5_advise_78 ?_
        have e9 : i = 12 := Nat.le_antisymm hi (nI_E (a := 12) (b := i) (by decide) (by omega) c12)
        rw [show nf - i = 0 from by omega] at hv0
        exact ⟨hv0, rfl⟩
      · refine lv_aload_n hx hb dX5_advise_15 rfl (lv_at hl 0 rfl) ?_
        refine m_get inX5 hF hC hO rfl rfl 1 (by decide) q_112 (v := .ref (ad 2)) rfl dX5_advise_16 ?_
        refine lv_iload_n hx hb dX5_advise_19 rfl (lv_at hl 1 rfl) ?_
        rcases Nat.lt_or_ge i nf with hin | hout
        · refine m_aldF hF hC hO rfl (j := i) (nI_clamp (by omega)) (vp_in_nI (nI_nE (a := 12) (b := i) (by decide) (by omega) c12) (by decide)) dX5_advise_20 (v := .ref (ad (100 + i))) (adF_in hin) ?_
          refine lv_astore (lv' := [(4, .ref (ad (100 + i))), (0, .ref (ad 0)), (3, .int (nI i)), (1, .int best), (2, .int most)]) hx hb dX5_advise_21 hl (by decide) rfl (fun ls hl => ?_)
          refine lv_aload hx hb dX5_advise_23 (lv_at hl 0 rfl) ?_
          refine lv_ifnull hx hb dX5_advise_25 ?_
          refine lv_aload hx hb dX5_advise_28 (lv_at hl 0 rfl) ?_
          refine lv_aload_n hx hb dX5_advise_30 rfl (lv_at hl 1 rfl) ?_
          refine m_get inX5 hF hC hO rfl rfl 0 (by decide) q_111 (v := .ref (ad 1)) rfl dX5_advise_31 ?_
          refine m_vI (As := [.ref (ad 1)]) (rest := []) (n := 1) hF hC hO hS (k_X0_canBeDipped l G lo sa ad _ (100 + i) 1 (F i) g (WC_F (i := i) (by assumption) hnf) rfl (by omega : (100 + i) ≠ 1)) ok_X0_canBeDipped q_224 (WC_F (i := i) (by assumption) hnf) rfl ⟨Nat.le_of_ble_eq_true rfl, Nat.le_of_ble_eq_true rfl⟩ rfl hl.1 rfl (Nat.le_of_ble_eq_true rfl) ⟨Nat.le_of_ble_eq_true rfl, Nat.le_of_ble_eq_true rfl⟩ dX5_advise_34 (fun v34 R' H locs hp hO hS => ?_)
          obtain ⟨⟨rfl, b34⟩ | ⟨rfl, b34⟩, hR⟩ := hp
          · rw [hR] at hO
            refine lv_if_eq (tgt := 71) hx hb dX5_advise_37 (by decide) (fun c37 => absurd c37 (by decide)) (fun c37 => ?_)
            refine lv_aload hx hb dX5_advise_40 (lv_at hl 0 rfl) ?_
            refine lv_aload_n hx hb dX5_advise_42 rfl (lv_at hl 1 rfl) ?_
            refine m_get inX5 hF hC hO rfl rfl 0 (by decide) q_111 (v := .ref (ad 1)) rfl dX5_advise_43 ?_
            refine m_get inX4 hF hC hO rfl rfl 1 (by decide) q_34 (v := .int (g 1)) rfl dX5_advise_46 ?_
            refine m_vI (As := [.int (g 1)]) (rest := []) (n := 1) hF hC hO hS (k_X0_gain l G lo sa ad _ (100 + i) (F i) (g 1) (WC_F (i := i) (by assumption) hnf)) ok_X0_gain q_442 (WC_F (i := i) (by assumption) hnf) rfl ⟨Nat.le_of_ble_eq_true rfl, Nat.le_of_ble_eq_true rfl⟩ rfl hl.1 rfl (Nat.le_of_ble_eq_true rfl) ⟨Nat.le_of_ble_eq_true rfl, Nat.le_of_ble_eq_true rfl⟩ dX5_advise_49 (fun v49 R' H locs hp hO hS => ?_)
            obtain ⟨rfl, hR⟩ := hp
            rw [hR] at hO
            refine lv_iload_n hx hb dX5_advise_52 rfl (lv_at hl 4 rfl) ?_
            refine lv_icmp_le (tgt := 71) hx hb dX5_advise_53 (by decide) (fun c53 => ?_) (fun c53 => ?_)
            · refine lv_iinc (v := (nI (i + 1))) (lv' := [(3, .int (nI (i + 1))), (4, .ref (ad (100 + i))), (0, .ref (ad 0)), (1, .int best), (2, .int most)]) hx hb dX5_advise_71 hl (k := 2) rfl (nI_inc i) (by decide) rfl (fun ls hl => ?_)
              refine lv_goto (tgt := 6) hx hb dX5_advise_74 (by decide) ?_
              exact ih6 (i + 1) best most _ _ _ (by have := (nI_nE (a := 12) (b := i) (by decide) (by omega) c12); omega) (by have := (nI_nE (a := 12) (b := i) (by decide) (by omega) c12); omega) (by rw [← hv0, show nf - i = (nf - (i + 1)) + 1 from by omega, c_advL, if_neg (fun h => absurd h.2 (Int32.not_lt.mpr c53))]) (lv_sub hl [2, 0, 3, 4] rfl) hO hS
            · refine lv_iload_n hx hb dX5_advise_56 rfl (lv_at hl 2 rfl) ?_
              refine lv_istore_n (lv' := [(1, .int (nI i)), (4, .ref (ad (100 + i))), (0, .ref (ad 0)), (3, .int (nI i)), (2, .int most)]) hx hb dX5_advise_57 rfl hl (by decide) rfl (fun ls hl => ?_)
              refine lv_aload hx hb dX5_advise_58 (lv_at hl 1 rfl) ?_
              refine lv_aload_n hx hb dX5_advise_60 rfl (lv_at hl 2 rfl) ?_
              refine m_get inX5 hF hC hO rfl rfl 0 (by decide) q_111 (v := .ref (ad 1)) rfl dX5_advise_61 ?_
              refine m_get inX4 hF hC hO rfl rfl 1 (by decide) q_34 (v := .int (g 1)) rfl dX5_advise_64 ?_
              refine m_vI (As := [.int (g 1)]) (rest := []) (n := 1) hF hC hO hS (k_X0_gain l G lo sa ad _ (100 + i) (F i) (g 1) (WC_F (i := i) (by assumption) hnf)) ok_X0_gain q_442 (WC_F (i := i) (by assumption) hnf) rfl ⟨Nat.le_of_ble_eq_true rfl, Nat.le_of_ble_eq_true rfl⟩ rfl hl.1 rfl (Nat.le_of_ble_eq_true rfl) ⟨Nat.le_of_ble_eq_true rfl, Nat.le_of_ble_eq_true rfl⟩ dX5_advise_67 (fun v67 R' H locs hp hO hS => ?_)
              obtain ⟨rfl, hR⟩ := hp
              rw [hR] at hO
              refine lv_istore_n (lv' := [(2, .int (p_gain (F i) (g 1))), (1, .int (nI i)), (4, .ref (ad (100 + i))), (0, .ref (ad 0)), (3, .int (nI i))]) hx hb dX5_advise_70 rfl hl (by decide) rfl (fun ls hl => ?_)
              refine lv_iinc (v := (nI (i + 1))) (lv' := [(3, .int (nI (i + 1))), (2, .int (p_gain (F i) (g 1))), (1, .int (nI i)), (4, .ref (ad (100 + i))), (0, .ref (ad 0))]) hx hb dX5_advise_71 hl (k := 4) rfl (nI_inc i) (by decide) rfl (fun ls hl => ?_)
              refine lv_goto (tgt := 6) hx hb dX5_advise_74 (by decide) ?_
              exact ih6 (i + 1) (nI i) (p_gain (F i) (g 1)) _ _ _ (by have := (nI_nE (a := 12) (b := i) (by decide) (by omega) c12); omega) (by have := (nI_nE (a := 12) (b := i) (by decide) (by omega) c12); omega) (by rw [← hv0, show nf - i = (nf - (i + 1)) + 1 from by omega, c_advL, if_pos ⟨b34, Int32.not_le.mp c53⟩]) (lv_sub hl [4, 0, 2, 1] rfl) hO hS
          · rw [hR] at hO
            refine lv_if_eq (tgt := 71) hx hb dX5_advise_37 (by decide) (fun c37 => ?_) (fun c37 => absurd (by decide) c37)
            refine lv_iinc (v := (nI (i + 1))) (lv' := [(3, .int (nI (i + 1))), (4, .ref (ad (100 + i))), (0, .ref (ad 0)), (1, .int best), (2, .int most)]) hx hb dX5_advise_71 hl (k := 2) rfl (nI_inc i) (by decide) rfl (fun ls hl => ?_)
            refine lv_goto (tgt := 6) hx hb dX5_advise_74 (by decide) ?_
            exact ih6 (i + 1) best most _ _ _ (by have := (nI_nE (a := 12) (b := i) (by decide) (by omega) c12); omega) (by have := (nI_nE (a := 12) (b := i) (by decide) (by omega) c12); omega) (by rw [← hv0, show nf - i = (nf - (i + 1)) + 1 from by omega, c_advL, if_neg (fun h => b34 h.1)]) (lv_sub hl [2, 0, 3, 4] rfl) hO hS
        · refine m_aldF hF hC hO rfl (j := i) (nI_clamp (by omega)) (vp_in_nI (nI_nE (a := 12) (b := i) (by decide) (by omega) c12) (by decide)) dX5_advise_20 (v := .null) (adF_out hout) ?_
          refine lv_astoreN (lv' := [(4, .null), (0, .ref (ad 0)), (3, .int (nI i)), (1, .int best), (2, .int most)]) hx hb dX5_advise_21 hl (by decide) rfl (fun ls hl => ?_)
          refine lv_aloadN hx hb dX5_advise_23 (lv_at hl 0 rfl) ?_
          refine lv_ifnullN (tgt := 71) hx hb dX5_advise_25 (by decide) ?_
          refine lv_iinc (v := (nI (i + 1))) (lv' := [(3, .int (nI (i + 1))), (4, .null), (0, .ref (ad 0)), (1, .int best), (2, .int most)]) hx hb dX5_advise_71 hl (k := 2) rfl (nI_inc i) (by decide) rfl (fun ls hl => ?_)
          refine lv_goto (tgt := 6) hx hb dX5_advise_74 (by decide) ?_
          exact ih6 (i + 1) best most _ _ _ (by have := (nI_nE (a := 12) (b := i) (by decide) (by omega) c12); omega) (by have := (nI_nE (a := 12) (b := i) (by decide) (by omega) c12); omega) (by rw [← hv0, show nf - (i + 1) = 0 from by omega, show nf - i = 0 from by omega]; rfl) (lv_sub hl [2, 0, 3, 4] rfl) hO hS
  exact L6 _ 0 (-1) 0 _ _ _ (Nat.lt_succ_self _) (by omega) rfl (lv_sub hl [3, 0, 2, 1] rfl) hO hS
