theorem sw_no {x : Int32} {n : Nat} (hn : n < 2 ^ 31) (h : x.toInt < 0 ∨ (n : Int) < x.toInt) : ¬ p_in x (nI 0) (nI n) := by
  rintro ⟨h1, h2⟩
  rw [Int32.le_iff_toInt_le, nI_toInt (by decide)] at h1
  rw [Int32.le_iff_toInt_le, nI_toInt hn] at h2
  omega
theorem m_atL_pos : ∀ (n i : Nat) (F : Nat → Nat → Int32) (h : Int32), i + n < 2 ^ 31 → m_atL n i F h < 0 → m_atL n i F h = -1
  | 0, _, _, _, _, _ => rfl
  | n + 1, i, F, h, hn, hl => by
    rw [m_atL] at hl ⊢
    by_cases hc : F i 5 = h
    · rw [if_pos hc] at hl
      exact absurd hl (nI_nlt (a := i) (b := 0) (by omega) (by omega))
    · rw [if_neg hc] at hl ⊢
      exact m_atL_pos n (i + 1) F h (by omega) hl
theorem m_at_neg {nf : Nat} {F : Nat → Nat → Int32} {h : Int32} (hn : nf < 2 ^ 31) (hl : m_at nf F h < 0) : m_at nf F h = -1 := m_atL_pos nf 0 F h (by omega) hl
def KC_dip (g : Nat → Int32) (nf : Nat) (F : Nat → Nat → Int32) (x : Int32) : Int32 := if kFr nf x then (if p_can (F (nn x)) g then 0 else 2) else 1
theorem no20 {n : Nat} (hn : n ≤ 20) (h : ¬ nI n < 20) : nI n = 20 := by
  have h9 : ¬ n < 20 := fun q => absurd (nI_lt (a := n) (b := 20) q (by decide)) h
  rw [show n = 20 by omega]; rfl
theorem nf12 {n : Nat} (hn : n ≤ 12) (h : ¬ nI n < 12) : nI n = 12 := by
  have h9 : ¬ n < 12 := fun q => absurd (nI_lt (a := n) (b := 12) q (by decide)) h
  rw [show n = 12 by omega]; rfl
-- 
set_option maxHeartbeats 400000 in
set_option maxRecDepth 100000 in
theorem k_X5_frameAtX (l : Launch) (G : mG) (lo : Nat) (sa ad : Nat → Nat) (R : mM) (g : Nat → Int32) (nf : Nat) (F : Nat → Nat → Int32) (f : Nat → Int32) (no : Nat) (O : Nat → Nat → Int32) (tf tv fw : Nat → Int32) (x : Int32) (hnf : nf ≤ 12) (hno : no ≤ 20) (hfl : l.stackTraces = false) (hbad : ¬ kFr nf x) : mT l yX5_frameAt cX5_frameAt 2 (.object "CandleDip$Frame") 6 90 G lo sa ad (WC G ad g nf F f no O tf tv fw R) [.ref (ad 0), .int x] (fun E => E = mXO) := by
  refine mT_of (by decide) (Nat.le_of_ble_eq_true rfl) ?_
  intro p e s m args below meth c hF hr hlk hC ls hl hO hS Q hQ
  have hx := hF.1
  have hb := hF.2.1
  have hl : lv_has ls 2 [(0, .ref (ad 0)), (1, .int x)] := hl
  refine lv_iload_n hx hb dX5_frameAt_0 rfl (lv_at hl 1 rfl) ?_
  refine lv_if_lt (tgt := 22) hx hb dX5_frameAt_1 (by decide) (fun c1 => ?_) (fun c1 => ?_)
  · refine m_thrW hF hr hlk hC hO hS hQ hfl thO (is := 291) (text := "there is no such frame") (by decide +kernel) ⟨Nat.le_of_ble_eq_true rfl, Nat.le_of_ble_eq_true rfl, Nat.le_of_ble_eq_true rfl, Nat.le_of_ble_eq_true rfl⟩ (Nat.le_of_ble_eq_true rfl) hl.1 dX5_frameAt_22 dX5_frameAt_25 dX5_frameAt_26 dX5_frameAt_29 dX5_frameAt_32 ?_
    rfl
  · obtain ⟨j, hj, rfl⟩ := nI_of c1
    refine lv_iload_n hx hb dX5_frameAt_4 rfl (lv_at hl 1 rfl) ?_
    refine lv_aload_n hx hb dX5_frameAt_5 rfl (lv_at hl 0 rfl) ?_
    refine m_get inX5 hF hC hO rfl rfl 1 (by decide) q_112 (v := .ref (ad 2)) rfl dX5_frameAt_6 ?_
    refine m_alen 3 hF hC hO rfl rfl (v := 12) rfl dX5_frameAt_9 ?_
    refine lv_icmp_ge (tgt := 22) hx hb dX5_frameAt_10 (by decide) (fun c10 => ?_) (fun c10 => ?_)
    · refine m_thrW hF hr hlk hC hO hS hQ hfl thO (is := 291) (text := "there is no such frame") (by decide +kernel) ⟨Nat.le_of_ble_eq_true rfl, Nat.le_of_ble_eq_true rfl, Nat.le_of_ble_eq_true rfl, Nat.le_of_ble_eq_true rfl⟩ (Nat.le_of_ble_eq_true rfl) hl.1 dX5_frameAt_22 dX5_frameAt_25 dX5_frameAt_26 dX5_frameAt_29 dX5_frameAt_32 ?_
      rfl
    · refine lv_aload_n hx hb dX5_frameAt_13 rfl (lv_at hl 0 rfl) ?_
      refine m_get inX5 hF hC hO rfl rfl 1 (by decide) q_112 (v := .ref (ad 2)) rfl dX5_frameAt_14 ?_
      refine lv_iload_n hx hb dX5_frameAt_17 rfl (lv_at hl 1 rfl) ?_
      rcases Nat.lt_or_ge j nf with hin | hout
      · refine m_aldF hF hC hO rfl (j := j) (nI_clamp (by omega)) (vp_in_nI (show j < 12 from nI_nE (a := 12) (b := j) (by decide) (by omega) c10) (by decide)) dX5_frameAt_18 (v := .ref (ad (100 + j))) (adF_in hin) ?_
        refine lv_ifnonnull (tgt := 33) hx hb dX5_frameAt_19 (by decide) ?_
        exact absurd (fr_nI (by omega) hin) hbad
      · refine m_aldF hF hC hO rfl (j := j) (nI_clamp (by omega)) (vp_in_nI (show j < 12 from nI_nE (a := 12) (b := j) (by decide) (by omega) c10) (by decide)) dX5_frameAt_18 (v := .null) (adF_out hout) ?_
        refine lv_ifnonnullN hx hb dX5_frameAt_19 ?_
        refine m_thrW hF hr hlk hC hO hS hQ hfl thO (is := 291) (text := "there is no such frame") (by decide +kernel) ⟨Nat.le_of_ble_eq_true rfl, Nat.le_of_ble_eq_true rfl, Nat.le_of_ble_eq_true rfl, Nat.le_of_ble_eq_true rfl⟩ (Nat.le_of_ble_eq_true rfl) hl.1 dX5_frameAt_22 dX5_frameAt_25 dX5_frameAt_26 dX5_frameAt_29 dX5_frameAt_32 ?_
        rfl
-- 
set_option maxHeartbeats 400000 in
set_option maxRecDepth 100000 in
theorem k_X5_orderAtX (l : Launch) (G : mG) (lo : Nat) (sa ad : Nat → Nat) (R : mM) (g : Nat → Int32) (nf : Nat) (F : Nat → Nat → Int32) (f : Nat → Int32) (no : Nat) (O : Nat → Nat → Int32) (tf tv fw : Nat → Int32) (x : Int32) (hnf : nf ≤ 12) (hno : no ≤ 20) (hfl : l.stackTraces = false) (hbad : ¬ kFr no x) : mT l yX5_orderAt cX5_orderAt 2 (.object "CandleDip$Order") 6 90 G lo sa ad (WC G ad g nf F f no O tf tv fw R) [.ref (ad 0), .int x] (fun E => E = mXO) := by
  refine mT_of (by decide) (Nat.le_of_ble_eq_true rfl) ?_
  intro p e s m args below meth c hF hr hlk hC ls hl hO hS Q hQ
  have hx := hF.1
  have hb := hF.2.1
  have hl : lv_has ls 2 [(0, .ref (ad 0)), (1, .int x)] := hl
  refine lv_iload_n hx hb dX5_orderAt_0 rfl (lv_at hl 1 rfl) ?_
  refine lv_if_lt (tgt := 22) hx hb dX5_orderAt_1 (by decide) (fun c1 => ?_) (fun c1 => ?_)
  · refine m_thrW hF hr hlk hC hO hS hQ hfl thO (is := 293) (text := "there is no such order") (by decide +kernel) ⟨Nat.le_of_ble_eq_true rfl, Nat.le_of_ble_eq_true rfl, Nat.le_of_ble_eq_true rfl, Nat.le_of_ble_eq_true rfl⟩ (Nat.le_of_ble_eq_true rfl) hl.1 dX5_orderAt_22 dX5_orderAt_25 dX5_orderAt_26 dX5_orderAt_29 dX5_orderAt_32 ?_
    rfl
  · obtain ⟨j, hj, rfl⟩ := nI_of c1
    refine lv_iload_n hx hb dX5_orderAt_4 rfl (lv_at hl 1 rfl) ?_
    refine lv_aload_n hx hb dX5_orderAt_5 rfl (lv_at hl 0 rfl) ?_
    refine m_get inX5 hF hC hO rfl rfl 3 (by decide) q_114 (v := .ref (ad 5)) rfl dX5_orderAt_6 ?_
    refine m_alen 4 hF hC hO rfl rfl (v := 20) rfl dX5_orderAt_9 ?_
    refine lv_icmp_ge (tgt := 22) hx hb dX5_orderAt_10 (by decide) (fun c10 => ?_) (fun c10 => ?_)
    · refine m_thrW hF hr hlk hC hO hS hQ hfl thO (is := 293) (text := "there is no such order") (by decide +kernel) ⟨Nat.le_of_ble_eq_true rfl, Nat.le_of_ble_eq_true rfl, Nat.le_of_ble_eq_true rfl, Nat.le_of_ble_eq_true rfl⟩ (Nat.le_of_ble_eq_true rfl) hl.1 dX5_orderAt_22 dX5_orderAt_25 dX5_orderAt_26 dX5_orderAt_29 dX5_orderAt_32 ?_
      rfl
    · refine lv_aload_n hx hb dX5_orderAt_13 rfl (lv_at hl 0 rfl) ?_
      refine m_get inX5 hF hC hO rfl rfl 3 (by decide) q_114 (v := .ref (ad 5)) rfl dX5_orderAt_14 ?_
      refine lv_iload_n hx hb dX5_orderAt_17 rfl (lv_at hl 1 rfl) ?_
      rcases Nat.lt_or_ge j no with hin | hout
      · refine m_aldO hF hC hO rfl (j := j) (nI_clamp (by omega)) (vp_in_nI (show j < 20 from nI_nE (a := 20) (b := j) (by decide) (by omega) c10) (by decide)) dX5_orderAt_18 (v := .ref (ad (120 + j))) (adF_in hin) ?_
        refine lv_ifnonnull (tgt := 33) hx hb dX5_orderAt_19 (by decide) ?_
        exact absurd (fr_nI (by omega) hin) hbad
      · refine m_aldO hF hC hO rfl (j := j) (nI_clamp (by omega)) (vp_in_nI (show j < 20 from nI_nE (a := 20) (b := j) (by decide) (by omega) c10) (by decide)) dX5_orderAt_18 (v := .null) (adF_out hout) ?_
        refine lv_ifnonnullN hx hb dX5_orderAt_19 ?_
        refine m_thrW hF hr hlk hC hO hS hQ hfl thO (is := 293) (text := "there is no such order") (by decide +kernel) ⟨Nat.le_of_ble_eq_true rfl, Nat.le_of_ble_eq_true rfl, Nat.le_of_ble_eq_true rfl, Nat.le_of_ble_eq_true rfl⟩ (Nat.le_of_ble_eq_true rfl) hl.1 dX5_orderAt_22 dX5_orderAt_25 dX5_orderAt_26 dX5_orderAt_29 dX5_orderAt_32 ?_
        rfl
-- 
set_option maxHeartbeats 400000 in
set_option maxRecDepth 100000 in
theorem k_X5_meltX (l : Launch) (G : mG) (lo : Nat) (sa ad : Nat → Nat) (R : mM) (g : Nat → Int32) (nf : Nat) (F : Nat → Nat → Int32) (f : Nat → Int32) (no : Nat) (O : Nat → Nat → Int32) (tf tv fw : Nat → Int32) (v : Int32) (hnf : nf ≤ 12) (hno : no ≤ 20) (hfl : l.stackTraces = false) (hK : ¬ K_melt g v = 0) : mT l yX5_melt cX5_melt 2 .int 6 90 G lo sa ad (WC G ad g nf F f no O tf tv fw R) [.ref (ad 0), .int v] (fun E => (E = mXA ∧ K_melt g v = 1) ∨ (E = mXS ∧ K_melt g v = 2)) := by
  refine mT_of (by decide) (Nat.le_of_ble_eq_true rfl) ?_
  intro p e s m args below meth c hF hr hlk hC ls hl hO hS Q hQ
  have hx := hF.1
  have hb := hF.2.1
  have hl : lv_has ls 2 [(0, .ref (ad 0)), (1, .int v)] := hl
  refine lv_iload_n hx hb dX5_melt_0 rfl (lv_at hl 1 rfl) ?_
  refine lv_iconst (v := 1) hx hb dX5_melt_1 (by decide) ?_
  refine lv_sipush (v := 5000) hx hb dX5_melt_2 (by decide) ?_
  refine m_sI (As := [.int v, .int 1, .int 5000]) (rest := []) (n := 3) hF hC hO hS (k_X5_within l G lo sa ad _ v 1 5000 ) ok_X5_within q_360 ⟨Nat.le_of_ble_eq_true rfl, Nat.le_of_ble_eq_true rfl⟩ rfl hl.1 rfl (Nat.le_of_ble_eq_true rfl) ⟨Nat.le_of_ble_eq_true rfl, Nat.le_of_ble_eq_true rfl⟩ dX5_melt_5 (fun v5 R' H locs hp hO hS => ?_)
  obtain ⟨⟨rfl, b5⟩ | ⟨rfl, b5⟩, hR⟩ := hp
  · rw [hR] at hO
    refine lv_if_ne (tgt := 21) hx hb dX5_melt_8 (by decide) (fun c8 => ?_) (fun c8 => absurd c8 (by decide))
    refine lv_aload_n hx hb dX5_melt_21 rfl (lv_at hl 0 rfl) ?_
    refine m_get inX5 hF hC hO rfl rfl 0 (by decide) q_111 (v := .ref (ad 1)) rfl dX5_melt_22 ?_
    refine m_get inX4 hF hC hO rfl rfl 0 (by decide) q_30 (v := .int (g 0)) rfl dX5_melt_25 ?_
    refine lv_iload_n hx hb dX5_melt_28 rfl (lv_at hl 1 rfl) ?_
    refine lv_iadd hx hb dX5_melt_29 ?_
    refine lv_sipush (v := 20000) hx hb dX5_melt_30 (by decide) ?_
    refine lv_icmp_le (tgt := 46) hx hb dX5_melt_33 (by decide) (fun c33 => ?_) (fun c33 => ?_)
    · exact absurd (by rw [K_melt, if_pos b5, if_pos c33]) hK
    · refine m_thr hF hr hlk hC hO hS hQ hfl thS (is := 63) (text := "there would be more than 20000 wax") (by decide +kernel) ⟨Nat.le_of_ble_eq_true rfl, Nat.le_of_ble_eq_true rfl, Nat.le_of_ble_eq_true rfl, Nat.le_of_ble_eq_true rfl⟩ (Nat.le_of_ble_eq_true rfl) hl.1 dX5_melt_36 dX5_melt_39 dX5_melt_40 dX5_melt_42 dX5_melt_45 ?_
      exact Or.inr (⟨rfl, by rw [K_melt, if_pos b5, if_neg c33]⟩)
  · rw [hR] at hO
    refine lv_if_ne (tgt := 21) hx hb dX5_melt_8 (by decide) (fun c8 => absurd (by decide) c8) (fun c8 => ?_)
    refine m_thr hF hr hlk hC hO hS hQ hfl thA (is := 52) (text := "wax is not 1 to 5000") (by decide +kernel) ⟨Nat.le_of_ble_eq_true rfl, Nat.le_of_ble_eq_true rfl, Nat.le_of_ble_eq_true rfl, Nat.le_of_ble_eq_true rfl⟩ (Nat.le_of_ble_eq_true rfl) hl.1 dX5_melt_11 dX5_melt_14 dX5_melt_15 dX5_melt_17 dX5_melt_20 ?_
    exact Or.inl ⟨rfl, by rw [K_melt, if_neg b5]⟩
-- 
set_option maxHeartbeats 400000 in
set_option maxRecDepth 100000 in
theorem k_X5_setFireX (l : Launch) (G : mG) (lo : Nat) (sa ad : Nat → Nat) (R : mM) (g : Nat → Int32) (nf : Nat) (F : Nat → Nat → Int32) (f : Nat → Int32) (no : Nat) (O : Nat → Nat → Int32) (tf tv fw : Nat → Int32) (v : Int32) (hnf : nf ≤ 12) (hno : no ≤ 20) (hfl : l.stackTraces = false) (hK : ¬ K_setFire v = 0) : mT l yX5_setFire cX5_setFire 3 .int 6 90 G lo sa ad (WC G ad g nf F f no O tf tv fw R) [.ref (ad 0), .int v] (fun E => (E = mXA ∧ K_setFire v = 1)) := by
  refine mT_of (by decide) (Nat.le_of_ble_eq_true rfl) ?_
  intro p e s m args below meth c hF hr hlk hC ls hl hO hS Q hQ
  have hx := hF.1
  have hb := hF.2.1
  have hl : lv_has ls 3 [(0, .ref (ad 0)), (1, .int v)] := hl
  refine lv_iload_n hx hb dX5_setFire_0 rfl (lv_at hl 1 rfl) ?_
  refine lv_iconst (v := 0) hx hb dX5_setFire_1 (by decide) ?_
  refine lv_iconst (v := 5) hx hb dX5_setFire_2 (by decide) ?_
  refine m_sI (As := [.int v, .int 0, .int 5]) (rest := []) (n := 3) hF hC hO hS (k_X5_within l G lo sa ad _ v 0 5 ) ok_X5_within q_360 ⟨Nat.le_of_ble_eq_true rfl, Nat.le_of_ble_eq_true rfl⟩ rfl hl.1 rfl (Nat.le_of_ble_eq_true rfl) ⟨Nat.le_of_ble_eq_true rfl, Nat.le_of_ble_eq_true rfl⟩ dX5_setFire_3 (fun v3 R' H locs hp hO hS => ?_)
  obtain ⟨⟨rfl, b3⟩ | ⟨rfl, b3⟩, hR⟩ := hp
  · rw [hR] at hO
    refine lv_if_ne (tgt := 19) hx hb dX5_setFire_6 (by decide) (fun c6 => ?_) (fun c6 => absurd c6 (by decide))
    exact absurd (by rw [K_setFire, if_pos b3]) hK
  · rw [hR] at hO
    refine lv_if_ne (tgt := 19) hx hb dX5_setFire_6 (by decide) (fun c6 => absurd (by decide) c6) (fun c6 => ?_)
    refine m_thr hF hr hlk hC hO hS hQ hfl thA (is := 73) (text := "level is not 0 to 5") (by decide +kernel) ⟨Nat.le_of_ble_eq_true rfl, Nat.le_of_ble_eq_true rfl, Nat.le_of_ble_eq_true rfl, Nat.le_of_ble_eq_true rfl⟩ (Nat.le_of_ble_eq_true rfl) hl.1 dX5_setFire_9 dX5_setFire_12 dX5_setFire_13 dX5_setFire_15 dX5_setFire_18 ?_
    exact ⟨rfl, by rw [K_setFire, if_neg b3]⟩
-- 
set_option maxHeartbeats 400000 in
set_option maxRecDepth 100000 in
theorem k_X5_vatX (l : Launch) (G : mG) (lo : Nat) (sa ad : Nat → Nat) (R : mM) (g : Nat → Int32) (nf : Nat) (F : Nat → Nat → Int32) (f : Nat → Int32) (no : Nat) (O : Nat → Nat → Int32) (tf tv fw : Nat → Int32) (w : Int32) (hnf : nf ≤ 12) (hno : no ≤ 20) (hfl : l.stackTraces = false) (hK : ¬ K_vat w = 0) : mT l yX5_vat cX5_vat 2 .int 6 90 G lo sa ad (WC G ad g nf F f no O tf tv fw R) [.ref (ad 0), .int w] (fun E => (E = mXO ∧ K_vat w = 1)) := by
  refine mT_of (by decide) (Nat.le_of_ble_eq_true rfl) ?_
  intro p e s m args below meth c hF hr hlk hC ls hl hO hS Q hQ
  have hx := hF.1
  have hb := hF.2.1
  have hl : lv_has ls 2 [(0, .ref (ad 0)), (1, .int w)] := hl
  refine lv_iload_n hx hb dX5_vat_0 rfl (lv_at hl 1 rfl) ?_
  rcases sw_cases w 3 (by decide) with hsw | ⟨k, hk, hke⟩
  · refine lv_tableOut (tgt := 72) hx hb dX5_vat_1 hsw (by decide) ?_
    refine m_thr hF hr hlk hC hO hS hQ hfl thO (is := 84) (text := "what is not 0 to 3") (by decide +kernel) ⟨Nat.le_of_ble_eq_true rfl, Nat.le_of_ble_eq_true rfl, Nat.le_of_ble_eq_true rfl, Nat.le_of_ble_eq_true rfl⟩ (Nat.le_of_ble_eq_true rfl) hl.1 dX5_vat_72 dX5_vat_75 dX5_vat_76 dX5_vat_78 dX5_vat_81 ?_
    exact ⟨rfl, by rw [K_vat, if_neg (show ¬ p_in w 0 3 from sw_no (n := 3) (by decide) hsw)]⟩
  · subst hke
    rcases (show k = 0 ∨ k = 1 ∨ k = 2 ∨ k = 3 by omega) with rfl | rfl | rfl | rfl
    · refine lv_tableIn (off := 31) (tgt := 32) hx hb dX5_vat_1 (by decide) (by decide) (by decide) (by decide) ?_
      exact absurd (by decide) hK
    · refine lv_tableIn (off := 39) (tgt := 40) hx hb dX5_vat_1 (by decide) (by decide) (by decide) (by decide) ?_
      exact absurd (by decide) hK
    · refine lv_tableIn (off := 47) (tgt := 48) hx hb dX5_vat_1 (by decide) (by decide) (by decide) (by decide) ?_
      exact absurd (by decide) hK
    · refine lv_tableIn (off := 55) (tgt := 56) hx hb dX5_vat_1 (by decide) (by decide) (by decide) (by decide) ?_
      exact absurd (by decide) hK
-- 
set_option maxHeartbeats 400000 in
set_option maxRecDepth 100000 in
theorem k_X5_countX (l : Launch) (G : mG) (lo : Nat) (sa ad : Nat → Nat) (R : mM) (g : Nat → Int32) (nf : Nat) (F : Nat → Nat → Int32) (f : Nat → Int32) (no : Nat) (O : Nat → Nat → Int32) (tf tv fw : Nat → Int32) (w : Int32) (hnf : nf ≤ 12) (hno : no ≤ 20) (hfl : l.stackTraces = false) (hK : ¬ K_count w = 0) : mT l yX5_count cX5_count 2 .int 6 90 G lo sa ad (WC G ad g nf F f no O tf tv fw R) [.ref (ad 0), .int w] (fun E => (E = mXO ∧ K_count w = 1)) := by
  refine mT_of (by decide) (Nat.le_of_ble_eq_true rfl) ?_
  intro p e s m args below meth c hF hr hlk hC ls hl hO hS Q hQ
  have hx := hF.1
  have hb := hF.2.1
  have hl : lv_has ls 2 [(0, .ref (ad 0)), (1, .int w)] := hl
  refine lv_iload_n hx hb dX5_count_0 rfl (lv_at hl 1 rfl) ?_
  rcases sw_cases w 8 (by decide) with hsw | ⟨k, hk, hke⟩
  · refine lv_tableOut (tgt := 102) hx hb dX5_count_1 hsw (by decide) ?_
    refine m_thr hF hr hlk hC hO hS hQ hfl thO (is := 247) (text := "what is not 0 to 8") (by decide +kernel) ⟨Nat.le_of_ble_eq_true rfl, Nat.le_of_ble_eq_true rfl, Nat.le_of_ble_eq_true rfl, Nat.le_of_ble_eq_true rfl⟩ (Nat.le_of_ble_eq_true rfl) hl.1 dX5_count_102 dX5_count_105 dX5_count_106 dX5_count_108 dX5_count_111 ?_
    exact ⟨rfl, by rw [K_count, if_neg (show ¬ p_in w 0 8 from sw_no (n := 8) (by decide) hsw)]⟩
  · subst hke
    rcases (show k = 0 ∨ k = 1 ∨ k = 2 ∨ k = 3 ∨ k = 4 ∨ k = 5 ∨ k = 6 ∨ k = 7 ∨ k = 8 by omega) with rfl | rfl | rfl | rfl | rfl | rfl | rfl | rfl | rfl
    · refine lv_tableIn (off := 51) (tgt := 52) hx hb dX5_count_1 (by decide) (by decide) (by decide) (by decide) ?_
      exact absurd (by decide) hK
    · refine lv_tableIn (off := 56) (tgt := 57) hx hb dX5_count_1 (by decide) (by decide) (by decide) (by decide) ?_
      exact absurd (by decide) hK
    · refine lv_tableIn (off := 61) (tgt := 62) hx hb dX5_count_1 (by decide) (by decide) (by decide) (by decide) ?_
      exact absurd (by decide) hK
    · refine lv_tableIn (off := 66) (tgt := 67) hx hb dX5_count_1 (by decide) (by decide) (by decide) (by decide) ?_
      exact absurd (by decide) hK
    · refine lv_tableIn (off := 74) (tgt := 75) hx hb dX5_count_1 (by decide) (by decide) (by decide) (by decide) ?_
      exact absurd (by decide) hK
    · refine lv_tableIn (off := 79) (tgt := 80) hx hb dX5_count_1 (by decide) (by decide) (by decide) (by decide) ?_
      exact absurd (by decide) hK
    · refine lv_tableIn (off := 85) (tgt := 86) hx hb dX5_count_1 (by decide) (by decide) (by decide) (by decide) ?_
      exact absurd (by decide) hK
    · refine lv_tableIn (off := 91) (tgt := 92) hx hb dX5_count_1 (by decide) (by decide) (by decide) (by decide) ?_
      exact absurd (by decide) hK
    · refine lv_tableIn (off := 96) (tgt := 97) hx hb dX5_count_1 (by decide) (by decide) (by decide) (by decide) ?_
      exact absurd (by decide) hK
-- 
set_option maxHeartbeats 400000 in
set_option maxRecDepth 100000 in
theorem k_X5_hangX (l : Launch) (G : mG) (lo : Nat) (sa ad : Nat → Nat) (R : mM) (g : Nat → Int32) (nf : Nat) (F : Nat → Nat → Int32) (f : Nat → Int32) (no : Nat) (O : Nat → Nat → Int32) (tf tv fw : Nat → Int32) (x h : Int32) (hnf : nf ≤ 12) (hno : no ≤ 20) (hfl : l.stackTraces = false) (hK : ¬ K_hang nf F x h = 0) : mT l yX5_hang cX5_hang 6 .int 7 111 G lo sa ad (WC G ad g nf F f no O tf tv fw R) [.ref (ad 0), .int x, .int h] (fun E => (E = mXO ∧ K_hang nf F x h = 1) ∨ (E = mXA ∧ K_hang nf F x h = 2) ∨ (E = mXS ∧ K_hang nf F x h = 3)) := by
  refine mT_of (by decide) (Nat.le_of_ble_eq_true rfl) ?_
  intro p e s m args below meth c hF hr hlk hC ls hl hO hS Q hQ
  have hx := hF.1
  have hb := hF.2.1
  have hl : lv_has ls 6 [(0, .ref (ad 0)), (1, .int x), (2, .int h)] := hl
  by_cases hx9 : kFr nf x
  · obtain ⟨i, hi, rfl⟩ := fr_of (by omega) hx9
    refine lv_aload_n hx hb dX5_hang_0 rfl (lv_at hl 0 rfl) ?_
    refine lv_iload_n hx hb dX5_hang_1 rfl (lv_at hl 1 rfl) ?_
    refine m_vR (As := [.int (nI i)]) (rest := []) (n := 1) hF hC hO hS (k_X5_frameAt l G lo sa ad R g nf F f no O tf tv fw i hnf hno (by omega)) ok_X5_frameAt q_319 rfl rfl ⟨Nat.le_of_ble_eq_true rfl, Nat.le_of_ble_eq_true rfl⟩ rfl hl.1 rfl (Nat.le_of_ble_eq_true rfl) ⟨Nat.le_of_ble_eq_true rfl, Nat.le_of_ble_eq_true rfl⟩ dX5_hang_2 (fun H locs hO hS => ?_)
    refine lv_astore_n (lv' := [(3, .ref (ad (100 + i))), (0, .ref (ad 0)), (1, .int (nI i)), (2, .int h)]) hx hb dX5_hang_5 rfl hl (by decide) rfl (fun ls hl => ?_)
    refine lv_iload_n hx hb dX5_hang_6 rfl (lv_at hl 3 rfl) ?_
    refine lv_iconst (v := 0) hx hb dX5_hang_7 (by decide) ?_
    refine lv_bipush (v := 11) hx hb dX5_hang_8 (by decide) ?_
    refine m_sI (As := [.int h, .int 0, .int 11]) (rest := []) (n := 3) hF hC hO hS (k_X5_within l G lo sa ad _ h 0 11 ) ok_X5_within q_360 ⟨Nat.le_of_ble_eq_true rfl, Nat.le_of_ble_eq_true rfl⟩ rfl hl.1 rfl (Nat.le_of_ble_eq_true rfl) ⟨Nat.le_of_ble_eq_true rfl, Nat.le_of_ble_eq_true rfl⟩ dX5_hang_10 (fun v10 R' H locs hp hO hS => ?_)
    obtain ⟨⟨rfl, b10⟩ | ⟨rfl, b10⟩, hR⟩ := hp
    · rw [hR] at hO
      refine lv_if_ne (tgt := 26) hx hb dX5_hang_13 (by decide) (fun c13 => ?_) (fun c13 => absurd c13 (by decide))
      refine lv_aload_n hx hb dX5_hang_26 rfl (lv_at hl 1 rfl) ?_
      refine lv_iload_n hx hb dX5_hang_27 rfl (lv_at hl 3 rfl) ?_
      refine m_vI (As := [.int h]) (rest := []) (n := 1) hF hC hO hS (k_X5_frameOn l G lo sa ad R g nf F f no O tf tv fw h hnf hno) ok_X5_frameOn q_428 rfl rfl ⟨Nat.le_of_ble_eq_true rfl, Nat.le_of_ble_eq_true rfl⟩ rfl hl.1 rfl (Nat.le_of_ble_eq_true rfl) ⟨Nat.le_of_ble_eq_true rfl, Nat.le_of_ble_eq_true rfl⟩ dX5_hang_28 (fun v28 R' H locs hp hO hS => ?_)
      obtain ⟨rfl, hR⟩ := hp
      rw [hR] at hO
      refine lv_istore (lv' := [(4, .int (m_at nf F h)), (3, .ref (ad (100 + i))), (0, .ref (ad 0)), (1, .int (nI i)), (2, .int h)]) hx hb dX5_hang_31 hl (by decide) rfl (fun ls hl => ?_)
      refine lv_iload hx hb dX5_hang_33 (lv_at hl 0 rfl) ?_
      refine lv_if_lt (tgt := 54) hx hb dX5_hang_35 (by decide) (fun c35 => ?_) (fun c35 => ?_)
      · exact absurd (by rw [K_hang, if_pos (fr_nI (by omega) hi), if_pos b10, if_pos (m_at_neg (by omega) c35)]) hK
      · refine lv_iload hx hb dX5_hang_38 (lv_at hl 0 rfl) ?_
        refine lv_iload_n hx hb dX5_hang_40 rfl (lv_at hl 3 rfl) ?_
        refine lv_icmp_eq (tgt := 54) hx hb dX5_hang_41 (by decide) (fun c41 => ?_) (fun c41 => ?_)
        · exact absurd (by rw [K_hang, if_pos (fr_nI (by omega) hi), if_pos b10, if_neg (fun h9 => c35 (by rw [h9]; decide)), if_pos c41]) hK
        · refine m_thr hF hr hlk hC hO hS hQ hfl thS (is := 108) (text := "another frame hangs there") (by decide +kernel) ⟨Nat.le_of_ble_eq_true rfl, Nat.le_of_ble_eq_true rfl, Nat.le_of_ble_eq_true rfl, Nat.le_of_ble_eq_true rfl⟩ (Nat.le_of_ble_eq_true rfl) hl.1 dX5_hang_44 dX5_hang_47 dX5_hang_48 dX5_hang_50 dX5_hang_53 ?_
          exact Or.inr (Or.inr (⟨rfl, by rw [K_hang, if_pos (fr_nI (by omega) hi), if_pos b10, if_neg (fun h9 => c35 (by rw [h9]; decide)), if_neg c41]⟩))
    · rw [hR] at hO
      refine lv_if_ne (tgt := 26) hx hb dX5_hang_13 (by decide) (fun c13 => absurd (by decide) c13) (fun c13 => ?_)
      refine m_thr hF hr hlk hC hO hS hQ hfl thA (is := 102) (text := "hook is not 0 to 11") (by decide +kernel) ⟨Nat.le_of_ble_eq_true rfl, Nat.le_of_ble_eq_true rfl, Nat.le_of_ble_eq_true rfl, Nat.le_of_ble_eq_true rfl⟩ (Nat.le_of_ble_eq_true rfl) hl.1 dX5_hang_16 dX5_hang_19 dX5_hang_20 dX5_hang_22 dX5_hang_25 ?_
      exact Or.inr (Or.inl ⟨rfl, by rw [K_hang, if_pos (fr_nI (by omega) hi), if_neg b10]⟩)
  · refine lv_aload_n hx hb dX5_hang_0 rfl (lv_at hl 0 rfl) ?_
    refine lv_iload_n hx hb dX5_hang_1 rfl (lv_at hl 1 rfl) ?_
    refine m_vXo (As := [.int x]) (rest := []) (n := 1) hF hr hlk hC hO hS hQ (k_X5_frameAtX l G lo sa ad R g nf F f no O tf tv fw x hnf hno hfl hx9) ok_X5_frameAt q_319 rfl rfl ⟨Nat.le_of_ble_eq_true rfl, Nat.le_of_ble_eq_true rfl⟩ rfl hl.1 rfl (Nat.le_of_ble_eq_true rfl) ⟨Nat.le_of_ble_eq_true rfl, Nat.le_of_ble_eq_true rfl⟩ dX5_hang_2 (fun E hE => ?_)
    exact Or.inl ⟨hE, by rw [K_hang, if_neg hx9]⟩
-- 
set_option maxHeartbeats 400000 in
set_option maxRecDepth 100000 in
theorem k_X5_layAsideX (l : Launch) (G : mG) (lo : Nat) (sa ad : Nat → Nat) (R : mM) (g : Nat → Int32) (nf : Nat) (F : Nat → Nat → Int32) (f : Nat → Int32) (no : Nat) (O : Nat → Nat → Int32) (tf tv fw : Nat → Int32) (x : Int32) (hnf : nf ≤ 12) (hno : no ≤ 20) (hfl : l.stackTraces = false) (hK : ¬ K_layAside nf F x = 0) : mT l yX5_layAside cX5_layAside 4 .int 7 111 G lo sa ad (WC G ad g nf F f no O tf tv fw R) [.ref (ad 0), .int x] (fun E => (E = mXO ∧ K_layAside nf F x = 1) ∨ (E = mXS ∧ K_layAside nf F x = 2)) := by
  refine mT_of (by decide) (Nat.le_of_ble_eq_true rfl) ?_
  intro p e s m args below meth c hF hr hlk hC ls hl hO hS Q hQ
  have hx := hF.1
  have hb := hF.2.1
  have hl : lv_has ls 4 [(0, .ref (ad 0)), (1, .int x)] := hl
  by_cases hx9 : kFr nf x
  · obtain ⟨i, hi, rfl⟩ := fr_of (by omega) hx9
    refine lv_aload_n hx hb dX5_layAside_0 rfl (lv_at hl 0 rfl) ?_
    refine lv_iload_n hx hb dX5_layAside_1 rfl (lv_at hl 1 rfl) ?_
    refine m_vR (As := [.int (nI i)]) (rest := []) (n := 1) hF hC hO hS (k_X5_frameAt l G lo sa ad R g nf F f no O tf tv fw i hnf hno (by omega)) ok_X5_frameAt q_319 rfl rfl ⟨Nat.le_of_ble_eq_true rfl, Nat.le_of_ble_eq_true rfl⟩ rfl hl.1 rfl (Nat.le_of_ble_eq_true rfl) ⟨Nat.le_of_ble_eq_true rfl, Nat.le_of_ble_eq_true rfl⟩ dX5_layAside_2 (fun H locs hO hS => ?_)
    refine lv_astore_n (lv' := [(2, .ref (ad (100 + i))), (0, .ref (ad 0)), (1, .int (nI i))]) hx hb dX5_layAside_5 rfl hl (by decide) rfl (fun ls hl => ?_)
    refine lv_aload_n hx hb dX5_layAside_6 rfl (lv_at hl 0 rfl) ?_
    refine m_vI (As := []) (rest := []) (n := 0) hF hC hO hS (k_X0_hangs l G lo sa ad _ (100 + i) (F i) (WC_F (i := i) (by assumption) hnf)) ok_X0_hangs q_228 (WC_F (i := i) (by assumption) hnf) rfl ⟨Nat.le_of_ble_eq_true rfl, Nat.le_of_ble_eq_true rfl⟩ rfl hl.1 rfl (Nat.le_of_ble_eq_true rfl) ⟨Nat.le_of_ble_eq_true rfl, Nat.le_of_ble_eq_true rfl⟩ dX5_layAside_7 (fun v7 R' H locs hp hO hS => ?_)
    obtain ⟨⟨rfl, b7⟩ | ⟨rfl, b7⟩, hR⟩ := hp
    · rw [hR] at hO
      refine lv_if_ne (tgt := 23) hx hb dX5_layAside_10 (by decide) (fun c10 => ?_) (fun c10 => absurd c10 (by decide))
      exact absurd (by rw [K_layAside, if_pos (fr_nI (by omega) hi), nn_nI (show i < 2 ^ 31 by omega), if_neg b7]) hK
    · rw [hR] at hO
      refine lv_if_ne (tgt := 23) hx hb dX5_layAside_10 (by decide) (fun c10 => absurd (by decide) c10) (fun c10 => ?_)
      refine m_thr hF hr hlk hC hO hS hQ hfl thS (is := 116) (text := "the frame lies aside") (by decide +kernel) ⟨Nat.le_of_ble_eq_true rfl, Nat.le_of_ble_eq_true rfl, Nat.le_of_ble_eq_true rfl, Nat.le_of_ble_eq_true rfl⟩ (Nat.le_of_ble_eq_true rfl) hl.1 dX5_layAside_13 dX5_layAside_16 dX5_layAside_17 dX5_layAside_19 dX5_layAside_22 ?_
      exact Or.inr (⟨rfl, by rw [K_layAside, if_pos (fr_nI (by omega) hi), nn_nI (show i < 2 ^ 31 by omega), if_pos (Classical.not_not.mp b7)]⟩)
  · refine lv_aload_n hx hb dX5_layAside_0 rfl (lv_at hl 0 rfl) ?_
    refine lv_iload_n hx hb dX5_layAside_1 rfl (lv_at hl 1 rfl) ?_
    refine m_vXo (As := [.int x]) (rest := []) (n := 1) hF hr hlk hC hO hS hQ (k_X5_frameAtX l G lo sa ad R g nf F f no O tf tv fw x hnf hno hfl hx9) ok_X5_frameAt q_319 rfl rfl ⟨Nat.le_of_ble_eq_true rfl, Nat.le_of_ble_eq_true rfl⟩ rfl hl.1 rfl (Nat.le_of_ble_eq_true rfl) ⟨Nat.le_of_ble_eq_true rfl, Nat.le_of_ble_eq_true rfl⟩ dX5_layAside_2 (fun E hE => ?_)
    exact Or.inl ⟨hE, by rw [K_layAside, if_neg hx9]⟩
-- 
set_option maxHeartbeats 400000 in
set_option maxRecDepth 100000 in
theorem k_X5_dipX (l : Launch) (G : mG) (lo : Nat) (sa ad : Nat → Nat) (R : mM) (g : Nat → Int32) (nf : Nat) (F : Nat → Nat → Int32) (f : Nat → Int32) (no : Nat) (O : Nat → Nat → Int32) (tf tv fw : Nat → Int32) (x : Int32) (hnf : nf ≤ 12) (hno : no ≤ 20) (hfl : l.stackTraces = false) (hK : ¬ KC_dip g nf F x = 0) : mT l yX5_dip cX5_dip 3 .int 7 111 G lo sa ad (WC G ad g nf F f no O tf tv fw R) [.ref (ad 0), .int x] (fun E => (E = mXO ∧ KC_dip g nf F x = 1) ∨ (E = mXS ∧ KC_dip g nf F x = 2)) := by
  refine mT_of (by decide) (Nat.le_of_ble_eq_true rfl) ?_
  intro p e s m args below meth c hF hr hlk hC ls hl hO hS Q hQ
  have hx := hF.1
  have hb := hF.2.1
  have hl : lv_has ls 3 [(0, .ref (ad 0)), (1, .int x)] := hl
  by_cases hx9 : kFr nf x
  · obtain ⟨i, hi, rfl⟩ := fr_of (by omega) hx9
    refine lv_aload_n hx hb dX5_dip_0 rfl (lv_at hl 0 rfl) ?_
    refine lv_iload_n hx hb dX5_dip_1 rfl (lv_at hl 1 rfl) ?_
    refine m_vR (As := [.int (nI i)]) (rest := []) (n := 1) hF hC hO hS (k_X5_frameAt l G lo sa ad R g nf F f no O tf tv fw i hnf hno (by omega)) ok_X5_frameAt q_319 rfl rfl ⟨Nat.le_of_ble_eq_true rfl, Nat.le_of_ble_eq_true rfl⟩ rfl hl.1 rfl (Nat.le_of_ble_eq_true rfl) ⟨Nat.le_of_ble_eq_true rfl, Nat.le_of_ble_eq_true rfl⟩ dX5_dip_2 (fun H locs hO hS => ?_)
    refine lv_astore_n (lv' := [(2, .ref (ad (100 + i))), (0, .ref (ad 0)), (1, .int (nI i))]) hx hb dX5_dip_5 rfl hl (by decide) rfl (fun ls hl => ?_)
    refine lv_aload_n hx hb dX5_dip_6 rfl (lv_at hl 0 rfl) ?_
    refine lv_aload_n hx hb dX5_dip_7 rfl (lv_at hl 1 rfl) ?_
    refine m_get inX5 hF hC hO rfl rfl 0 (by decide) q_111 (v := .ref (ad 1)) rfl dX5_dip_8 ?_
    refine m_vI (As := [.ref (ad 1)]) (rest := []) (n := 1) hF hC hO hS (k_X0_canBeDipped l G lo sa ad _ (100 + i) 1 (F i) g (WC_F (i := i) (by assumption) hnf) rfl (by omega : (100 + i) ≠ 1)) ok_X0_canBeDipped q_143 (WC_F (i := i) (by assumption) hnf) rfl ⟨Nat.le_of_ble_eq_true rfl, Nat.le_of_ble_eq_true rfl⟩ rfl hl.1 rfl (Nat.le_of_ble_eq_true rfl) ⟨Nat.le_of_ble_eq_true rfl, Nat.le_of_ble_eq_true rfl⟩ dX5_dip_11 (fun v11 R' H locs hp hO hS => ?_)
    obtain ⟨⟨rfl, b11⟩ | ⟨rfl, b11⟩, hR⟩ := hp
    · rw [hR] at hO
      refine lv_if_ne (tgt := 27) hx hb dX5_dip_14 (by decide) (fun c14 => ?_) (fun c14 => absurd c14 (by decide))
      exact absurd (by rw [KC_dip, if_pos (fr_nI (by omega) hi), nn_nI (show i < 2 ^ 31 by omega), if_pos b11]) hK
    · rw [hR] at hO
      refine lv_if_ne (tgt := 27) hx hb dX5_dip_14 (by decide) (fun c14 => absurd (by decide) c14) (fun c14 => ?_)
      refine m_thr hF hr hlk hC hO hS hQ hfl thS (is := 122) (text := "the frame cannot be dipped") (by decide +kernel) ⟨Nat.le_of_ble_eq_true rfl, Nat.le_of_ble_eq_true rfl, Nat.le_of_ble_eq_true rfl, Nat.le_of_ble_eq_true rfl⟩ (Nat.le_of_ble_eq_true rfl) hl.1 dX5_dip_17 dX5_dip_20 dX5_dip_21 dX5_dip_23 dX5_dip_26 ?_
      exact Or.inr (⟨rfl, by rw [KC_dip, if_pos (fr_nI (by omega) hi), nn_nI (show i < 2 ^ 31 by omega), if_neg b11]⟩)
  · refine lv_aload_n hx hb dX5_dip_0 rfl (lv_at hl 0 rfl) ?_
    refine lv_iload_n hx hb dX5_dip_1 rfl (lv_at hl 1 rfl) ?_
    refine m_vXo (As := [.int x]) (rest := []) (n := 1) hF hr hlk hC hO hS hQ (k_X5_frameAtX l G lo sa ad R g nf F f no O tf tv fw x hnf hno hfl hx9) ok_X5_frameAt q_319 rfl rfl ⟨Nat.le_of_ble_eq_true rfl, Nat.le_of_ble_eq_true rfl⟩ rfl hl.1 rfl (Nat.le_of_ble_eq_true rfl) ⟨Nat.le_of_ble_eq_true rfl, Nat.le_of_ble_eq_true rfl⟩ dX5_dip_2 (fun E hE => ?_)
    exact Or.inl ⟨hE, by rw [KC_dip, if_neg hx9]⟩
-- 
set_option maxHeartbeats 400000 in
set_option maxRecDepth 100000 in
theorem k_X5_cutOffX (l : Launch) (G : mG) (lo : Nat) (sa ad : Nat → Nat) (R : mM) (g : Nat → Int32) (nf : Nat) (F : Nat → Nat → Int32) (f : Nat → Int32) (no : Nat) (O : Nat → Nat → Int32) (tf tv fw : Nat → Int32) (x : Int32) (hnf : nf ≤ 12) (hno : no ≤ 20) (hfl : l.stackTraces = false) (hK : ¬ K_cutOff nf F x = 0) : mT l yX5_cutOff cX5_cutOff 4 .int 7 111 G lo sa ad (WC G ad g nf F f no O tf tv fw R) [.ref (ad 0), .int x] (fun E => (E = mXO ∧ K_cutOff nf F x = 1) ∨ (E = mXS ∧ K_cutOff nf F x = 2)) := by
  refine mT_of (by decide) (Nat.le_of_ble_eq_true rfl) ?_
  intro p e s m args below meth c hF hr hlk hC ls hl hO hS Q hQ
  have hx := hF.1
  have hb := hF.2.1
  have hl : lv_has ls 4 [(0, .ref (ad 0)), (1, .int x)] := hl
  by_cases hx9 : kFr nf x
  · obtain ⟨i, hi, rfl⟩ := fr_of (by omega) hx9
    refine lv_aload_n hx hb dX5_cutOff_0 rfl (lv_at hl 0 rfl) ?_
    refine lv_iload_n hx hb dX5_cutOff_1 rfl (lv_at hl 1 rfl) ?_
    refine m_vR (As := [.int (nI i)]) (rest := []) (n := 1) hF hC hO hS (k_X5_frameAt l G lo sa ad R g nf F f no O tf tv fw i hnf hno (by omega)) ok_X5_frameAt q_319 rfl rfl ⟨Nat.le_of_ble_eq_true rfl, Nat.le_of_ble_eq_true rfl⟩ rfl hl.1 rfl (Nat.le_of_ble_eq_true rfl) ⟨Nat.le_of_ble_eq_true rfl, Nat.le_of_ble_eq_true rfl⟩ dX5_cutOff_2 (fun H locs hO hS => ?_)
    refine lv_astore_n (lv' := [(2, .ref (ad (100 + i))), (0, .ref (ad 0)), (1, .int (nI i))]) hx hb dX5_cutOff_5 rfl hl (by decide) rfl (fun ls hl => ?_)
    refine lv_aload_n hx hb dX5_cutOff_6 rfl (lv_at hl 0 rfl) ?_
    refine m_vI (As := []) (rest := []) (n := 0) hF hC hO hS (k_X0_isBare l G lo sa ad _ (100 + i) (F i) (WC_F (i := i) (by assumption) hnf)) ok_X0_isBare q_493 (WC_F (i := i) (by assumption) hnf) rfl ⟨Nat.le_of_ble_eq_true rfl, Nat.le_of_ble_eq_true rfl⟩ rfl hl.1 rfl (Nat.le_of_ble_eq_true rfl) ⟨Nat.le_of_ble_eq_true rfl, Nat.le_of_ble_eq_true rfl⟩ dX5_cutOff_7 (fun v7 R' H locs hp hO hS => ?_)
    obtain ⟨⟨rfl, b7⟩ | ⟨rfl, b7⟩, hR⟩ := hp
    · rw [hR] at hO
      refine lv_if_ne (tgt := 20) hx hb dX5_cutOff_10 (by decide) (fun c10 => ?_) (fun c10 => absurd c10 (by decide))
      refine m_thr hF hr hlk hC hO hS hQ hfl thS (is := 144) (text := "bare wicks, or too warm") (by decide +kernel) ⟨Nat.le_of_ble_eq_true rfl, Nat.le_of_ble_eq_true rfl, Nat.le_of_ble_eq_true rfl, Nat.le_of_ble_eq_true rfl⟩ (Nat.le_of_ble_eq_true rfl) hl.1 dX5_cutOff_20 dX5_cutOff_23 dX5_cutOff_24 dX5_cutOff_26 dX5_cutOff_29 ?_
      exact Or.inr (⟨rfl, by rw [K_cutOff, if_pos (fr_nI (by omega) hi), nn_nI (show i < 2 ^ 31 by omega), if_pos b7]⟩)
    · rw [hR] at hO
      refine lv_if_ne (tgt := 20) hx hb dX5_cutOff_10 (by decide) (fun c10 => absurd (by decide) c10) (fun c10 => ?_)
      refine lv_aload_n hx hb dX5_cutOff_13 rfl (lv_at hl 0 rfl) ?_
      refine m_vI (As := []) (rest := []) (n := 0) hF hC hO hS (k_X0_isTooWarmToCut l G lo sa ad _ (100 + i) (F i) (WC_F (i := i) (by assumption) hnf)) ok_X0_isTooWarmToCut q_494 (WC_F (i := i) (by assumption) hnf) rfl ⟨Nat.le_of_ble_eq_true rfl, Nat.le_of_ble_eq_true rfl⟩ rfl hl.1 rfl (Nat.le_of_ble_eq_true rfl) ⟨Nat.le_of_ble_eq_true rfl, Nat.le_of_ble_eq_true rfl⟩ dX5_cutOff_14 (fun v14 R' H locs hp hO hS => ?_)
      obtain ⟨⟨rfl, b14⟩ | ⟨rfl, b14⟩, hR⟩ := hp
      · rw [hR] at hO
        refine lv_if_eq (tgt := 30) hx hb dX5_cutOff_17 (by decide) (fun c17 => absurd c17 (by decide)) (fun c17 => ?_)
        refine m_thr hF hr hlk hC hO hS hQ hfl thS (is := 144) (text := "bare wicks, or too warm") (by decide +kernel) ⟨Nat.le_of_ble_eq_true rfl, Nat.le_of_ble_eq_true rfl, Nat.le_of_ble_eq_true rfl, Nat.le_of_ble_eq_true rfl⟩ (Nat.le_of_ble_eq_true rfl) hl.1 dX5_cutOff_20 dX5_cutOff_23 dX5_cutOff_24 dX5_cutOff_26 dX5_cutOff_29 ?_
        exact Or.inr (⟨rfl, by rw [K_cutOff, if_pos (fr_nI (by omega) hi), nn_nI (show i < 2 ^ 31 by omega), if_neg b7, if_neg (Int32.not_le.mpr b14)]⟩)
      · rw [hR] at hO
        refine lv_if_eq (tgt := 30) hx hb dX5_cutOff_17 (by decide) (fun c17 => ?_) (fun c17 => absurd (by decide) c17)
        exact absurd (by rw [K_cutOff, if_pos (fr_nI (by omega) hi), nn_nI (show i < 2 ^ 31 by omega), if_neg b7, if_pos (Int32.not_lt.mp b14)]) hK
  · refine lv_aload_n hx hb dX5_cutOff_0 rfl (lv_at hl 0 rfl) ?_
    refine lv_iload_n hx hb dX5_cutOff_1 rfl (lv_at hl 1 rfl) ?_
    refine m_vXo (As := [.int x]) (rest := []) (n := 1) hF hr hlk hC hO hS hQ (k_X5_frameAtX l G lo sa ad R g nf F f no O tf tv fw x hnf hno hfl hx9) ok_X5_frameAt q_319 rfl rfl ⟨Nat.le_of_ble_eq_true rfl, Nat.le_of_ble_eq_true rfl⟩ rfl hl.1 rfl (Nat.le_of_ble_eq_true rfl) ⟨Nat.le_of_ble_eq_true rfl, Nat.le_of_ble_eq_true rfl⟩ dX5_cutOff_2 (fun E hE => ?_)
    exact Or.inl ⟨hE, by rw [K_cutOff, if_neg hx9]⟩
-- 
set_option maxHeartbeats 400000 in
set_option maxRecDepth 100000 in
theorem k_X5_frameX (l : Launch) (G : mG) (lo : Nat) (sa ad : Nat → Nat) (R : mM) (g : Nat → Int32) (nf : Nat) (F : Nat → Nat → Int32) (f : Nat → Int32) (no : Nat) (O : Nat → Nat → Int32) (tf tv fw : Nat → Int32) (x w : Int32) (hnf : nf ≤ 12) (hno : no ≤ 20) (hfl : l.stackTraces = false) (hK : ¬ K_frame nf x w = 0) : mT l yX5_frame cX5_frame 4 .int 7 111 G lo sa ad (WC G ad g nf F f no O tf tv fw R) [.ref (ad 0), .int x, .int w] (fun E => (E = mXO ∧ K_frame nf x w = 1)) := by
  refine mT_of (by decide) (Nat.le_of_ble_eq_true rfl) ?_
  intro p e s m args below meth c hF hr hlk hC ls hl hO hS Q hQ
  have hx := hF.1
  have hb := hF.2.1
  have hl : lv_has ls 4 [(0, .ref (ad 0)), (1, .int x), (2, .int w)] := hl
  by_cases hx9 : kFr nf x
  · obtain ⟨i, hi, rfl⟩ := fr_of (by omega) hx9
    refine lv_aload_n hx hb dX5_frame_0 rfl (lv_at hl 0 rfl) ?_
    refine lv_iload_n hx hb dX5_frame_1 rfl (lv_at hl 1 rfl) ?_
    refine m_vR (As := [.int (nI i)]) (rest := []) (n := 1) hF hC hO hS (k_X5_frameAt l G lo sa ad R g nf F f no O tf tv fw i hnf hno (by omega)) ok_X5_frameAt q_319 rfl rfl ⟨Nat.le_of_ble_eq_true rfl, Nat.le_of_ble_eq_true rfl⟩ rfl hl.1 rfl (Nat.le_of_ble_eq_true rfl) ⟨Nat.le_of_ble_eq_true rfl, Nat.le_of_ble_eq_true rfl⟩ dX5_frame_2 (fun H locs hO hS => ?_)
    refine lv_astore_n (lv' := [(3, .ref (ad (100 + i))), (0, .ref (ad 0)), (1, .int (nI i)), (2, .int w)]) hx hb dX5_frame_5 rfl hl (by decide) rfl (fun ls hl => ?_)
    refine lv_iload_n hx hb dX5_frame_6 rfl (lv_at hl 3 rfl) ?_
    rcases sw_cases w 7 (by decide) with hsw | ⟨k, hk, hke⟩
    · refine lv_tableOut (tgt := 100) hx hb dX5_frame_7 hsw (by decide) ?_
      refine m_thr hF hr hlk hC hO hS hQ hfl thO (is := 181) (text := "what is not 0 to 7") (by decide +kernel) ⟨Nat.le_of_ble_eq_true rfl, Nat.le_of_ble_eq_true rfl, Nat.le_of_ble_eq_true rfl, Nat.le_of_ble_eq_true rfl⟩ (Nat.le_of_ble_eq_true rfl) hl.1 dX5_frame_100 dX5_frame_103 dX5_frame_104 dX5_frame_106 dX5_frame_109 ?_
      exact ⟨rfl, by rw [K_frame, if_pos (fr_nI (by omega) hi), if_neg (show ¬ p_in w 0 7 from sw_no (n := 7) (by decide) hsw)]⟩
    · subst hke
      rcases (show k = 0 ∨ k = 1 ∨ k = 2 ∨ k = 3 ∨ k = 4 ∨ k = 5 ∨ k = 6 ∨ k = 7 by omega) with rfl | rfl | rfl | rfl | rfl | rfl | rfl | rfl
      · refine lv_tableIn (off := 45) (tgt := 52) hx hb dX5_frame_7 (by decide) (by decide) (by decide) (by decide) ?_
        exact absurd (by rw [K_frame, if_pos (fr_nI (by omega) hi), if_pos (by decide)]) hK
      · refine lv_tableIn (off := 50) (tgt := 57) hx hb dX5_frame_7 (by decide) (by decide) (by decide) (by decide) ?_
        exact absurd (by rw [K_frame, if_pos (fr_nI (by omega) hi), if_pos (by decide)]) hK
      · refine lv_tableIn (off := 55) (tgt := 62) hx hb dX5_frame_7 (by decide) (by decide) (by decide) (by decide) ?_
        exact absurd (by rw [K_frame, if_pos (fr_nI (by omega) hi), if_pos (by decide)]) hK
      · refine lv_tableIn (off := 60) (tgt := 67) hx hb dX5_frame_7 (by decide) (by decide) (by decide) (by decide) ?_
        exact absurd (by rw [K_frame, if_pos (fr_nI (by omega) hi), if_pos (by decide)]) hK
      · refine lv_tableIn (off := 65) (tgt := 72) hx hb dX5_frame_7 (by decide) (by decide) (by decide) (by decide) ?_
        exact absurd (by rw [K_frame, if_pos (fr_nI (by omega) hi), if_pos (by decide)]) hK
      · refine lv_tableIn (off := 78) (tgt := 85) hx hb dX5_frame_7 (by decide) (by decide) (by decide) (by decide) ?_
        exact absurd (by rw [K_frame, if_pos (fr_nI (by omega) hi), if_pos (by decide)]) hK
      · refine lv_tableIn (off := 83) (tgt := 90) hx hb dX5_frame_7 (by decide) (by decide) (by decide) (by decide) ?_
        exact absurd (by rw [K_frame, if_pos (fr_nI (by omega) hi), if_pos (by decide)]) hK
      · refine lv_tableIn (off := 88) (tgt := 95) hx hb dX5_frame_7 (by decide) (by decide) (by decide) (by decide) ?_
        exact absurd (by rw [K_frame, if_pos (fr_nI (by omega) hi), if_pos (by decide)]) hK
  · refine lv_aload_n hx hb dX5_frame_0 rfl (lv_at hl 0 rfl) ?_
    refine lv_iload_n hx hb dX5_frame_1 rfl (lv_at hl 1 rfl) ?_
    refine m_vXo (As := [.int x]) (rest := []) (n := 1) hF hr hlk hC hO hS hQ (k_X5_frameAtX l G lo sa ad R g nf F f no O tf tv fw x hnf hno hfl hx9) ok_X5_frameAt q_319 rfl rfl ⟨Nat.le_of_ble_eq_true rfl, Nat.le_of_ble_eq_true rfl⟩ rfl hl.1 rfl (Nat.le_of_ble_eq_true rfl) ⟨Nat.le_of_ble_eq_true rfl, Nat.le_of_ble_eq_true rfl⟩ dX5_frame_2 (fun E hE => ?_)
    exact ⟨hE, by rw [K_frame, if_neg hx9]⟩
-- 
set_option maxHeartbeats 400000 in
set_option maxRecDepth 100000 in
theorem k_X5_orderX (l : Launch) (G : mG) (lo : Nat) (sa ad : Nat → Nat) (R : mM) (g : Nat → Int32) (nf : Nat) (F : Nat → Nat → Int32) (f : Nat → Int32) (no : Nat) (O : Nat → Nat → Int32) (tf tv fw : Nat → Int32) (x w : Int32) (hnf : nf ≤ 12) (hno : no ≤ 20) (hfl : l.stackTraces = false) (hK : ¬ K_order no x w = 0) : mT l yX5_order cX5_order 4 .int 7 111 G lo sa ad (WC G ad g nf F f no O tf tv fw R) [.ref (ad 0), .int x, .int w] (fun E => (E = mXO ∧ K_order no x w = 1)) := by
  refine mT_of (by decide) (Nat.le_of_ble_eq_true rfl) ?_
  intro p e s m args below meth c hF hr hlk hC ls hl hO hS Q hQ
  have hx := hF.1
  have hb := hF.2.1
  have hl : lv_has ls 4 [(0, .ref (ad 0)), (1, .int x), (2, .int w)] := hl
  by_cases hx9 : kFr no x
  · obtain ⟨i, hi, rfl⟩ := fr_of (by omega) hx9
    refine lv_aload_n hx hb dX5_order_0 rfl (lv_at hl 0 rfl) ?_
    refine lv_iload_n hx hb dX5_order_1 rfl (lv_at hl 1 rfl) ?_
    refine m_vR (As := [.int (nI i)]) (rest := []) (n := 1) hF hC hO hS (k_X5_orderAt l G lo sa ad R g nf F f no O tf tv fw i hnf hno (by omega)) ok_X5_orderAt q_340 rfl rfl ⟨Nat.le_of_ble_eq_true rfl, Nat.le_of_ble_eq_true rfl⟩ rfl hl.1 rfl (Nat.le_of_ble_eq_true rfl) ⟨Nat.le_of_ble_eq_true rfl, Nat.le_of_ble_eq_true rfl⟩ dX5_order_2 (fun H locs hO hS => ?_)
    refine lv_astore_n (lv' := [(3, .ref (ad (120 + i))), (0, .ref (ad 0)), (1, .int (nI i)), (2, .int w)]) hx hb dX5_order_5 rfl hl (by decide) rfl (fun ls hl => ?_)
    refine lv_iload_n hx hb dX5_order_6 rfl (lv_at hl 3 rfl) ?_
    rcases sw_cases w 5 (by decide) with hsw | ⟨k, hk, hke⟩
    · refine lv_tableOut (tgt := 86) hx hb dX5_order_7 hsw (by decide) ?_
      refine m_thr hF hr hlk hC hO hS hQ hfl thO (is := 237) (text := "what is not 0 to 5") (by decide +kernel) ⟨Nat.le_of_ble_eq_true rfl, Nat.le_of_ble_eq_true rfl, Nat.le_of_ble_eq_true rfl, Nat.le_of_ble_eq_true rfl⟩ (Nat.le_of_ble_eq_true rfl) hl.1 dX5_order_86 dX5_order_89 dX5_order_90 dX5_order_92 dX5_order_95 ?_
      exact ⟨rfl, by rw [K_order, if_pos (fr_nI (by omega) hi), if_neg (show ¬ p_in w 0 5 from sw_no (n := 5) (by decide) hsw)]⟩
    · subst hke
      rcases (show k = 0 ∨ k = 1 ∨ k = 2 ∨ k = 3 ∨ k = 4 ∨ k = 5 by omega) with rfl | rfl | rfl | rfl | rfl | rfl
      · refine lv_tableIn (off := 37) (tgt := 44) hx hb dX5_order_7 (by decide) (by decide) (by decide) (by decide) ?_
        exact absurd (by rw [K_order, if_pos (fr_nI (by omega) hi), if_pos (by decide)]) hK
      · refine lv_tableIn (off := 42) (tgt := 49) hx hb dX5_order_7 (by decide) (by decide) (by decide) (by decide) ?_
        exact absurd (by rw [K_order, if_pos (fr_nI (by omega) hi), if_pos (by decide)]) hK
      · refine lv_tableIn (off := 47) (tgt := 54) hx hb dX5_order_7 (by decide) (by decide) (by decide) (by decide) ?_
        exact absurd (by rw [K_order, if_pos (fr_nI (by omega) hi), if_pos (by decide)]) hK
      · refine lv_tableIn (off := 52) (tgt := 59) hx hb dX5_order_7 (by decide) (by decide) (by decide) (by decide) ?_
        exact absurd (by rw [K_order, if_pos (fr_nI (by omega) hi), if_pos (by decide)]) hK
      · refine lv_tableIn (off := 57) (tgt := 64) hx hb dX5_order_7 (by decide) (by decide) (by decide) (by decide) ?_
        exact absurd (by rw [K_order, if_pos (fr_nI (by omega) hi), if_pos (by decide)]) hK
      · refine lv_tableIn (off := 62) (tgt := 69) hx hb dX5_order_7 (by decide) (by decide) (by decide) (by decide) ?_
        exact absurd (by rw [K_order, if_pos (fr_nI (by omega) hi), if_pos (by decide)]) hK
  · refine lv_aload_n hx hb dX5_order_0 rfl (lv_at hl 0 rfl) ?_
    refine lv_iload_n hx hb dX5_order_1 rfl (lv_at hl 1 rfl) ?_
    refine m_vXo (As := [.int x]) (rest := []) (n := 1) hF hr hlk hC hO hS hQ (k_X5_orderAtX l G lo sa ad R g nf F f no O tf tv fw x hnf hno hfl hx9) ok_X5_orderAt q_340 rfl rfl ⟨Nat.le_of_ble_eq_true rfl, Nat.le_of_ble_eq_true rfl⟩ rfl hl.1 rfl (Nat.le_of_ble_eq_true rfl) ⟨Nat.le_of_ble_eq_true rfl, Nat.le_of_ble_eq_true rfl⟩ dX5_order_2 (fun E hE => ?_)
    exact ⟨hE, by rw [K_order, if_neg hx9]⟩
-- 
set_option maxHeartbeats 400000 in
set_option maxRecDepth 100000 in
theorem k_X5_hookX (l : Launch) (G : mG) (lo : Nat) (sa ad : Nat → Nat) (R : mM) (g : Nat → Int32) (nf : Nat) (F : Nat → Nat → Int32) (f : Nat → Int32) (no : Nat) (O : Nat → Nat → Int32) (tf tv fw : Nat → Int32) (h : Int32) (hnf : nf ≤ 12) (hno : no ≤ 20) (hfl : l.stackTraces = false) (hK : ¬ K_hook h = 0) : mT l yX5_hook cX5_hook 2 .int 6 90 G lo sa ad (WC G ad g nf F f no O tf tv fw R) [.ref (ad 0), .int h] (fun E => (E = mXO ∧ K_hook h = 1)) := by
  refine mT_of (by decide) (Nat.le_of_ble_eq_true rfl) ?_
  intro p e s m args below meth c hF hr hlk hC ls hl hO hS Q hQ
  have hx := hF.1
  have hb := hF.2.1
  have hl : lv_has ls 2 [(0, .ref (ad 0)), (1, .int h)] := hl
  refine lv_iload_n hx hb dX5_hook_0 rfl (lv_at hl 1 rfl) ?_
  refine lv_iconst (v := 0) hx hb dX5_hook_1 (by decide) ?_
  refine lv_bipush (v := 11) hx hb dX5_hook_2 (by decide) ?_
  refine m_sI (As := [.int h, .int 0, .int 11]) (rest := []) (n := 3) hF hC hO hS (k_X5_within l G lo sa ad _ h 0 11 ) ok_X5_within q_360 ⟨Nat.le_of_ble_eq_true rfl, Nat.le_of_ble_eq_true rfl⟩ rfl hl.1 rfl (Nat.le_of_ble_eq_true rfl) ⟨Nat.le_of_ble_eq_true rfl, Nat.le_of_ble_eq_true rfl⟩ dX5_hook_4 (fun v4 R' H locs hp hO hS => ?_)
  obtain ⟨⟨rfl, b4⟩ | ⟨rfl, b4⟩, hR⟩ := hp
  · rw [hR] at hO
    refine lv_if_ne (tgt := 20) hx hb dX5_hook_7 (by decide) (fun c7 => ?_) (fun c7 => absurd c7 (by decide))
    exact absurd (by rw [K_hook, if_pos b4]) hK
  · rw [hR] at hO
    refine lv_if_ne (tgt := 20) hx hb dX5_hook_7 (by decide) (fun c7 => absurd (by decide) c7) (fun c7 => ?_)
    refine m_thr hF hr hlk hC hO hS hQ hfl thO (is := 102) (text := "hook is not 0 to 11") (by decide +kernel) ⟨Nat.le_of_ble_eq_true rfl, Nat.le_of_ble_eq_true rfl, Nat.le_of_ble_eq_true rfl, Nat.le_of_ble_eq_true rfl⟩ (Nat.le_of_ble_eq_true rfl) hl.1 dX5_hook_10 dX5_hook_13 dX5_hook_14 dX5_hook_16 dX5_hook_19 ?_
    exact ⟨rfl, by rw [K_hook, if_neg b4]⟩
-- 
set_option maxHeartbeats 400000 in
set_option maxRecDepth 100000 in
theorem k_X5_passX (l : Launch) (G : mG) (lo : Nat) (sa ad : Nat → Nat) (R : mM) (g : Nat → Int32) (nf : Nat) (F : Nat → Nat → Int32) (f : Nat → Int32) (no : Nat) (O : Nat → Nat → Int32) (tf tv fw : Nat → Int32) (v : Int32) (hnf : nf ≤ 12) (hno : no ≤ 20) (hfl : l.stackTraces = false) (hK : ¬ K_pass v = 0) : mT l yX5_pass cX5_pass 3 .int 6 90 G lo sa ad (WC G ad g nf F f no O tf tv fw R) [.ref (ad 0), .int v] (fun E => (E = mXA ∧ K_pass v = 1)) := by
  refine mT_of (by decide) (Nat.le_of_ble_eq_true rfl) ?_
  intro p e s m args below meth c hF hr hlk hC ls hl hO hS Q hQ
  have hx := hF.1
  have hb := hF.2.1
  have hl : lv_has ls 3 [(0, .ref (ad 0)), (1, .int v)] := hl
  refine lv_iload_n hx hb dX5_pass_0 rfl (lv_at hl 1 rfl) ?_
  refine lv_iconst (v := 1) hx hb dX5_pass_1 (by decide) ?_
  refine lv_sipush (v := 400) hx hb dX5_pass_2 (by decide) ?_
  refine m_sI (As := [.int v, .int 1, .int 400]) (rest := []) (n := 3) hF hC hO hS (k_X5_within l G lo sa ad _ v 1 400 ) ok_X5_within q_360 ⟨Nat.le_of_ble_eq_true rfl, Nat.le_of_ble_eq_true rfl⟩ rfl hl.1 rfl (Nat.le_of_ble_eq_true rfl) ⟨Nat.le_of_ble_eq_true rfl, Nat.le_of_ble_eq_true rfl⟩ dX5_pass_5 (fun v5 R' H locs hp hO hS => ?_)
  obtain ⟨⟨rfl, b5⟩ | ⟨rfl, b5⟩, hR⟩ := hp
  · rw [hR] at hO
    refine lv_if_ne (tgt := 21) hx hb dX5_pass_8 (by decide) (fun c8 => ?_) (fun c8 => absurd c8 (by decide))
    exact absurd (by rw [K_pass, if_pos b5]) hK
  · rw [hR] at hO
    refine lv_if_ne (tgt := 21) hx hb dX5_pass_8 (by decide) (fun c8 => absurd (by decide) c8) (fun c8 => ?_)
    refine m_thr hF hr hlk hC hO hS hQ hfl thA (is := 239) (text := "quarters is not 1 to 400") (by decide +kernel) ⟨Nat.le_of_ble_eq_true rfl, Nat.le_of_ble_eq_true rfl, Nat.le_of_ble_eq_true rfl, Nat.le_of_ble_eq_true rfl⟩ (Nat.le_of_ble_eq_true rfl) hl.1 dX5_pass_11 dX5_pass_14 dX5_pass_15 dX5_pass_17 dX5_pass_20 ?_
    exact ⟨rfl, by rw [K_pass, if_neg b5]⟩
-- 
set_option maxHeartbeats 400000 in
set_option maxRecDepth 100000 in
theorem k_X5_storeX (l : Launch) (G : mG) (lo : Nat) (sa ad : Nat → Nat) (R : mM) (g : Nat → Int32) (nf : Nat) (F : Nat → Nat → Int32) (f : Nat → Int32) (no : Nat) (O : Nat → Nat → Int32) (tf tv fw : Nat → Int32) (k z : Int32) (hnf : nf ≤ 12) (hno : no ≤ 20) (hfl : l.stackTraces = false) (hK : ¬ K_store k z = 0) : mT l yX5_store cX5_store 3 .int 6 90 G lo sa ad (WC G ad g nf F f no O tf tv fw R) [.ref (ad 0), .int k, .int z] (fun E => (E = mXO ∧ K_store k z = 1)) := by
  refine mT_of (by decide) (Nat.le_of_ble_eq_true rfl) ?_
  intro p e s m args below meth c hF hr hlk hC ls hl hO hS Q hQ
  have hx := hF.1
  have hb := hF.2.1
  have hl : lv_has ls 3 [(0, .ref (ad 0)), (1, .int k), (2, .int z)] := hl
  refine lv_iload_n hx hb dX5_store_0 rfl (lv_at hl 1 rfl) ?_
  refine lv_iload_n hx hb dX5_store_1 rfl (lv_at hl 2 rfl) ?_
  refine m_sI (As := [.int k, .int z]) (rest := []) (n := 2) hF hC hO hS (k_X2_hasShelf l G lo sa ad _ k z ) ok_X2_hasShelf q_333 ⟨Nat.le_of_ble_eq_true rfl, Nat.le_of_ble_eq_true rfl⟩ rfl hl.1 rfl (Nat.le_of_ble_eq_true rfl) ⟨Nat.le_of_ble_eq_true rfl, Nat.le_of_ble_eq_true rfl⟩ dX5_store_2 (fun v2 R' H locs hp hO hS => ?_)
  obtain ⟨⟨rfl, b2⟩ | ⟨rfl, b2⟩, hR⟩ := hp
  · rw [hR] at hO
    refine lv_if_ne (tgt := 18) hx hb dX5_store_5 (by decide) (fun c5 => ?_) (fun c5 => absurd c5 (by decide))
    exact absurd (by rw [K_store, if_pos b2.1, if_pos b2.2]) hK
  · rw [hR] at hO
    refine lv_if_ne (tgt := 18) hx hb dX5_store_5 (by decide) (fun c5 => absurd (by decide) c5) (fun c5 => ?_)
    refine m_thr hF hr hlk hC hO hS hQ hfl thO (is := 187) (text := "kind is not 0 to 3, or size is not 1 to 9") (by decide +kernel) ⟨Nat.le_of_ble_eq_true rfl, Nat.le_of_ble_eq_true rfl, Nat.le_of_ble_eq_true rfl, Nat.le_of_ble_eq_true rfl⟩ (Nat.le_of_ble_eq_true rfl) hl.1 dX5_store_8 dX5_store_11 dX5_store_12 dX5_store_14 dX5_store_17 ?_
    refine ⟨rfl, ?_⟩
    unfold K_store
    by_cases h8 : p_in k 0 3
    · rw [if_pos h8, if_neg (fun h9 => b2 ⟨h8, h9⟩)]
    · rw [if_neg h8]
-- 
set_option maxHeartbeats 400000 in
set_option maxRecDepth 100000 in
theorem k_X5_addOrderX (l : Launch) (G : mG) (lo : Nat) (sa ad : Nat → Nat) (R : mM) (g : Nat → Int32) (nf : Nat) (F : Nat → Nat → Int32) (f : Nat → Int32) (no : Nat) (O : Nat → Nat → Int32) (tf tv fw : Nat → Int32) (k z v w : Int32) (hnf : nf ≤ 12) (hno : no ≤ 20) (hfl : l.stackTraces = false) (hK : ¬ K_addOrder g no k z v w = 0) : mT l yX5_addOrder cX5_addOrder 6 .int 6 90 G lo sa ad (WC G ad g nf F f no O tf tv fw R) [.ref (ad 0), .int k, .int z, .int v, .int w] (fun E => (E = mXA ∧ K_addOrder g no k z v w = 1) ∨ (E = mXS ∧ K_addOrder g no k z v w = 2)) := by
  refine mT_of (by decide) (Nat.le_of_ble_eq_true rfl) ?_
  intro p e s m args below meth c hF hr hlk hC ls hl hO hS Q hQ
  have hx := hF.1
  have hb := hF.2.1
  have hl : lv_has ls 6 [(0, .ref (ad 0)), (1, .int k), (2, .int z), (3, .int v), (4, .int w)] := hl
  refine lv_iload_n hx hb dX5_addOrder_0 rfl (lv_at hl 1 rfl) ?_
  refine lv_iload_n hx hb dX5_addOrder_1 rfl (lv_at hl 2 rfl) ?_
  refine m_sI (As := [.int k, .int z]) (rest := []) (n := 2) hF hC hO hS (k_X2_hasShelf l G lo sa ad _ k z ) ok_X2_hasShelf q_333 ⟨Nat.le_of_ble_eq_true rfl, Nat.le_of_ble_eq_true rfl⟩ rfl hl.1 rfl (Nat.le_of_ble_eq_true rfl) ⟨Nat.le_of_ble_eq_true rfl, Nat.le_of_ble_eq_true rfl⟩ dX5_addOrder_2 (fun v2 R' H locs hp hO hS => ?_)
  obtain ⟨⟨rfl, b2⟩ | ⟨rfl, b2⟩, hR⟩ := hp
  · rw [hR] at hO
    refine lv_if_ne (tgt := 18) hx hb dX5_addOrder_5 (by decide) (fun c5 => ?_) (fun c5 => absurd c5 (by decide))
    refine lv_iload_n hx hb dX5_addOrder_18 rfl (lv_at hl 3 rfl) ?_
    refine lv_iconst (v := 1) hx hb dX5_addOrder_19 (by decide) ?_
    refine lv_bipush (v := 60) hx hb dX5_addOrder_20 (by decide) ?_
    refine m_sI (As := [.int v, .int 1, .int 60]) (rest := []) (n := 3) hF hC hO hS (k_X5_within l G lo sa ad _ v 1 60 ) ok_X5_within q_360 ⟨Nat.le_of_ble_eq_true rfl, Nat.le_of_ble_eq_true rfl⟩ rfl hl.1 rfl (Nat.le_of_ble_eq_true rfl) ⟨Nat.le_of_ble_eq_true rfl, Nat.le_of_ble_eq_true rfl⟩ dX5_addOrder_22 (fun v22 R' H locs hp hO hS => ?_)
    obtain ⟨⟨rfl, b22⟩ | ⟨rfl, b22⟩, hR⟩ := hp
    · rw [hR] at hO
      refine lv_if_ne (tgt := 38) hx hb dX5_addOrder_25 (by decide) (fun c25 => ?_) (fun c25 => absurd c25 (by decide))
      refine lv_iload hx hb dX5_addOrder_38 (lv_at hl 4 rfl) ?_
      refine lv_aload_n hx hb dX5_addOrder_40 rfl (lv_at hl 0 rfl) ?_
      refine m_get inX5 hF hC hO rfl rfl 6 (by decide) q_117 (v := .int (g 3)) rfl dX5_addOrder_41 ?_
      refine lv_bipush (v := 40) hx hb dX5_addOrder_44 (by decide) ?_
      refine lv_idiv hx hb dX5_addOrder_46 (by decide) ?_
      refine lv_sipush (v := 1000) hx hb dX5_addOrder_47 (by decide) ?_
      refine m_sI (As := [.int w, .int ((g 3) / 40), .int 1000]) (rest := []) (n := 3) hF hC hO hS (k_X5_within l G lo sa ad _ w ((g 3) / 40) 1000 ) ok_X5_within q_360 ⟨Nat.le_of_ble_eq_true rfl, Nat.le_of_ble_eq_true rfl⟩ rfl hl.1 rfl (Nat.le_of_ble_eq_true rfl) ⟨Nat.le_of_ble_eq_true rfl, Nat.le_of_ble_eq_true rfl⟩ dX5_addOrder_50 (fun v50 R' H locs hp hO hS => ?_)
      obtain ⟨⟨rfl, b50⟩ | ⟨rfl, b50⟩, hR⟩ := hp
      · rw [hR] at hO
        refine lv_if_ne (tgt := 66) hx hb dX5_addOrder_53 (by decide) (fun c53 => ?_) (fun c53 => absurd c53 (by decide))
        refine lv_aload_n hx hb dX5_addOrder_66 rfl (lv_at hl 0 rfl) ?_
        refine m_vI (As := []) (rest := []) (n := 0) hF hC hO hS (k_X5_ordersTaken l G lo sa ad R g nf F f no O tf tv fw hnf hno) ok_X5_ordersTaken q_233 rfl rfl ⟨Nat.le_of_ble_eq_true rfl, Nat.le_of_ble_eq_true rfl⟩ rfl hl.1 rfl (Nat.le_of_ble_eq_true rfl) ⟨Nat.le_of_ble_eq_true rfl, Nat.le_of_ble_eq_true rfl⟩ dX5_addOrder_67 (fun v67 R' H locs hp hO hS => ?_)
        obtain ⟨rfl, hR⟩ := hp
        rw [hR] at hO
        refine lv_istore (lv' := [(5, .int (nI no)), (0, .ref (ad 0)), (1, .int k), (2, .int z), (3, .int v), (4, .int w)]) hx hb dX5_addOrder_70 hl (by decide) rfl (fun ls hl => ?_)
        refine lv_iload hx hb dX5_addOrder_72 (lv_at hl 0 rfl) ?_
        refine lv_aload_n hx hb dX5_addOrder_74 rfl (lv_at hl 1 rfl) ?_
        refine m_get inX5 hF hC hO rfl rfl 3 (by decide) q_114 (v := .ref (ad 5)) rfl dX5_addOrder_75 ?_
        refine m_alen 4 hF hC hO rfl rfl (v := 20) rfl dX5_addOrder_78 ?_
        refine lv_icmp_lt (tgt := 92) hx hb dX5_addOrder_79 (by decide) (fun c79 => ?_) (fun c79 => ?_)
        · exact absurd (by rw [K_addOrder, if_pos b2.1, if_pos b2.2, if_pos b22, if_pos b50, if_neg (fun h9 => by rw [h9] at c79; exact absurd c79 (by decide))]) hK
        · refine m_thr hF hr hlk hC hO hS hQ hfl thS (is := 203) (text := "there are 20 orders") (by decide +kernel) ⟨Nat.le_of_ble_eq_true rfl, Nat.le_of_ble_eq_true rfl, Nat.le_of_ble_eq_true rfl, Nat.le_of_ble_eq_true rfl⟩ (Nat.le_of_ble_eq_true rfl) hl.1 dX5_addOrder_82 dX5_addOrder_85 dX5_addOrder_86 dX5_addOrder_88 dX5_addOrder_91 ?_
          exact Or.inr (⟨rfl, by rw [K_addOrder, if_pos b2.1, if_pos b2.2, if_pos b22, if_pos b50, if_pos (no20 hno c79)]⟩)
      · rw [hR] at hO
        refine lv_if_ne (tgt := 66) hx hb dX5_addOrder_53 (by decide) (fun c53 => absurd (by decide) c53) (fun c53 => ?_)
        refine m_thr hF hr hlk hC hO hS hQ hfl thA (is := 198) (text := "day is earlier than today, or more than 1000") (by decide +kernel) ⟨Nat.le_of_ble_eq_true rfl, Nat.le_of_ble_eq_true rfl, Nat.le_of_ble_eq_true rfl, Nat.le_of_ble_eq_true rfl⟩ (Nat.le_of_ble_eq_true rfl) hl.1 dX5_addOrder_56 dX5_addOrder_59 dX5_addOrder_60 dX5_addOrder_62 dX5_addOrder_65 ?_
        exact Or.inl ⟨rfl, by rw [K_addOrder, if_pos b2.1, if_pos b2.2, if_pos b22, if_neg b50]⟩
    · rw [hR] at hO
      refine lv_if_ne (tgt := 38) hx hb dX5_addOrder_25 (by decide) (fun c25 => absurd (by decide) c25) (fun c25 => ?_)
      refine m_thr hF hr hlk hC hO hS hQ hfl thA (is := 193) (text := "many is not 1 to 60") (by decide +kernel) ⟨Nat.le_of_ble_eq_true rfl, Nat.le_of_ble_eq_true rfl, Nat.le_of_ble_eq_true rfl, Nat.le_of_ble_eq_true rfl⟩ (Nat.le_of_ble_eq_true rfl) hl.1 dX5_addOrder_28 dX5_addOrder_31 dX5_addOrder_32 dX5_addOrder_34 dX5_addOrder_37 ?_
      exact Or.inl ⟨rfl, by rw [K_addOrder, if_pos b2.1, if_pos b2.2, if_neg b22]⟩
  · rw [hR] at hO
    refine lv_if_ne (tgt := 18) hx hb dX5_addOrder_5 (by decide) (fun c5 => absurd (by decide) c5) (fun c5 => ?_)
    refine m_thr hF hr hlk hC hO hS hQ hfl thA (is := 187) (text := "kind is not 0 to 3, or size is not 1 to 9") (by decide +kernel) ⟨Nat.le_of_ble_eq_true rfl, Nat.le_of_ble_eq_true rfl, Nat.le_of_ble_eq_true rfl, Nat.le_of_ble_eq_true rfl⟩ (Nat.le_of_ble_eq_true rfl) hl.1 dX5_addOrder_8 dX5_addOrder_11 dX5_addOrder_12 dX5_addOrder_14 dX5_addOrder_17 ?_
    refine Or.inl ⟨rfl, ?_⟩
    unfold K_addOrder
    by_cases h8 : p_in k 0 3
    · rw [if_pos h8, if_neg (fun h9 => b2 ⟨h8, h9⟩)]
    · rw [if_neg h8]
-- 
set_option maxHeartbeats 400000 in
set_option maxRecDepth 100000 in
theorem k_X5_addFrameX (l : Launch) (G : mG) (lo : Nat) (sa ad : Nat → Nat) (R : mM) (g : Nat → Int32) (nf : Nat) (F : Nat → Nat → Int32) (f : Nat → Int32) (no : Nat) (O : Nat → Nat → Int32) (tf tv fw : Nat → Int32) (k w : Int32) (hnf : nf ≤ 12) (hno : no ≤ 20) (hfl : l.stackTraces = false) (hK : ¬ K_addFrame nf k w = 0) : mT l yX5_addFrame cX5_addFrame 4 .int 6 90 G lo sa ad (WC G ad g nf F f no O tf tv fw R) [.ref (ad 0), .int k, .int w] (fun E => (E = mXA ∧ K_addFrame nf k w = 1) ∨ (E = mXS ∧ K_addFrame nf k w = 2)) := by
  refine mT_of (by decide) (Nat.le_of_ble_eq_true rfl) ?_
  intro p e s m args below meth c hF hr hlk hC ls hl hO hS Q hQ
  have hx := hF.1
  have hb := hF.2.1
  have hl : lv_has ls 4 [(0, .ref (ad 0)), (1, .int k), (2, .int w)] := hl
  refine lv_iload_n hx hb dX5_addFrame_0 rfl (lv_at hl 1 rfl) ?_
  refine lv_iconst (v := 0) hx hb dX5_addFrame_1 (by decide) ?_
  refine lv_iconst (v := 3) hx hb dX5_addFrame_2 (by decide) ?_
  refine m_sI (As := [.int k, .int 0, .int 3]) (rest := []) (n := 3) hF hC hO hS (k_X5_within l G lo sa ad _ k 0 3 ) ok_X5_within q_360 ⟨Nat.le_of_ble_eq_true rfl, Nat.le_of_ble_eq_true rfl⟩ rfl hl.1 rfl (Nat.le_of_ble_eq_true rfl) ⟨Nat.le_of_ble_eq_true rfl, Nat.le_of_ble_eq_true rfl⟩ dX5_addFrame_3 (fun v3 R' H locs hp hO hS => ?_)
  obtain ⟨⟨rfl, b3⟩ | ⟨rfl, b3⟩, hR⟩ := hp
  · rw [hR] at hO
    refine lv_if_eq (tgt := 19) hx hb dX5_addFrame_6 (by decide) (fun c6 => absurd c6 (by decide)) (fun c6 => ?_)
    refine lv_iload_n hx hb dX5_addFrame_9 rfl (lv_at hl 2 rfl) ?_
    refine lv_iconst (v := 1) hx hb dX5_addFrame_10 (by decide) ?_
    refine lv_bipush (v := 20) hx hb dX5_addFrame_11 (by decide) ?_
    refine m_sI (As := [.int w, .int 1, .int 20]) (rest := []) (n := 3) hF hC hO hS (k_X5_within l G lo sa ad _ w 1 20 ) ok_X5_within q_360 ⟨Nat.le_of_ble_eq_true rfl, Nat.le_of_ble_eq_true rfl⟩ rfl hl.1 rfl (Nat.le_of_ble_eq_true rfl) ⟨Nat.le_of_ble_eq_true rfl, Nat.le_of_ble_eq_true rfl⟩ dX5_addFrame_13 (fun v13 R' H locs hp hO hS => ?_)
    obtain ⟨⟨rfl, b13⟩ | ⟨rfl, b13⟩, hR⟩ := hp
    · rw [hR] at hO
      refine lv_if_ne (tgt := 29) hx hb dX5_addFrame_16 (by decide) (fun c16 => ?_) (fun c16 => absurd c16 (by decide))
      refine lv_aload_n hx hb dX5_addFrame_29 rfl (lv_at hl 0 rfl) ?_
      refine m_vI (As := []) (rest := []) (n := 0) hF hC hO hS (k_X5_framesMade l G lo sa ad R g nf F f no O tf tv fw hnf hno) ok_X5_framesMade q_220 rfl rfl ⟨Nat.le_of_ble_eq_true rfl, Nat.le_of_ble_eq_true rfl⟩ rfl hl.1 rfl (Nat.le_of_ble_eq_true rfl) ⟨Nat.le_of_ble_eq_true rfl, Nat.le_of_ble_eq_true rfl⟩ dX5_addFrame_30 (fun v30 R' H locs hp hO hS => ?_)
      obtain ⟨rfl, hR⟩ := hp
      rw [hR] at hO
      refine lv_istore_n (lv' := [(3, .int (nI nf)), (0, .ref (ad 0)), (1, .int k), (2, .int w)]) hx hb dX5_addFrame_33 rfl hl (by decide) rfl (fun ls hl => ?_)
      refine lv_iload_n hx hb dX5_addFrame_34 rfl (lv_at hl 0 rfl) ?_
      refine lv_aload_n hx hb dX5_addFrame_35 rfl (lv_at hl 1 rfl) ?_
      refine m_get inX5 hF hC hO rfl rfl 1 (by decide) q_112 (v := .ref (ad 2)) rfl dX5_addFrame_36 ?_
      refine m_alen 3 hF hC hO rfl rfl (v := 12) rfl dX5_addFrame_39 ?_
      refine lv_icmp_lt (tgt := 53) hx hb dX5_addFrame_40 (by decide) (fun c40 => ?_) (fun c40 => ?_)
      · exact absurd (by rw [K_addFrame, if_pos b3, if_pos b13, if_neg (fun h9 => by rw [h9] at c40; exact absurd c40 (by decide))]) hK
      · refine m_thr hF hr hlk hC hO hS hQ hfl thS (is := 93) (text := "there are 12 frames") (by decide +kernel) ⟨Nat.le_of_ble_eq_true rfl, Nat.le_of_ble_eq_true rfl, Nat.le_of_ble_eq_true rfl, Nat.le_of_ble_eq_true rfl⟩ (Nat.le_of_ble_eq_true rfl) hl.1 dX5_addFrame_43 dX5_addFrame_46 dX5_addFrame_47 dX5_addFrame_49 dX5_addFrame_52 ?_
        exact Or.inr (⟨rfl, by rw [K_addFrame, if_pos b3, if_pos b13, if_pos (nf12 hnf c40)]⟩)
    · rw [hR] at hO
      refine lv_if_ne (tgt := 29) hx hb dX5_addFrame_16 (by decide) (fun c16 => absurd (by decide) c16) (fun c16 => ?_)
      refine m_thr hF hr hlk hC hO hS hQ hfl thA (is := 87) (text := "kind is not 0 to 3, or wicks is not 1 to 20") (by decide +kernel) ⟨Nat.le_of_ble_eq_true rfl, Nat.le_of_ble_eq_true rfl, Nat.le_of_ble_eq_true rfl, Nat.le_of_ble_eq_true rfl⟩ (Nat.le_of_ble_eq_true rfl) hl.1 dX5_addFrame_19 dX5_addFrame_22 dX5_addFrame_23 dX5_addFrame_25 dX5_addFrame_28 ?_
      exact Or.inl ⟨rfl, by rw [K_addFrame, if_pos b3, if_neg b13]⟩
  · rw [hR] at hO
    refine lv_if_eq (tgt := 19) hx hb dX5_addFrame_6 (by decide) (fun c6 => ?_) (fun c6 => absurd (by decide) c6)
    refine m_thr hF hr hlk hC hO hS hQ hfl thA (is := 87) (text := "kind is not 0 to 3, or wicks is not 1 to 20") (by decide +kernel) ⟨Nat.le_of_ble_eq_true rfl, Nat.le_of_ble_eq_true rfl, Nat.le_of_ble_eq_true rfl, Nat.le_of_ble_eq_true rfl⟩ (Nat.le_of_ble_eq_true rfl) hl.1 dX5_addFrame_19 dX5_addFrame_22 dX5_addFrame_23 dX5_addFrame_25 dX5_addFrame_28 ?_
    exact Or.inl ⟨rfl, by rw [K_addFrame, if_neg b3]⟩
-- 
set_option maxHeartbeats 400000 in
set_option maxRecDepth 100000 in
theorem k_X5_fillX (l : Launch) (G : mG) (lo : Nat) (sa ad : Nat → Nat) (R : mM) (g : Nat → Int32) (nf : Nat) (F : Nat → Nat → Int32) (f : Nat → Int32) (no : Nat) (O : Nat → Nat → Int32) (tf tv fw : Nat → Int32) (x : Int32) (hnf : nf ≤ 12) (hno : no ≤ 20) (hfl : l.stackTraces = false) (hK : ¬ K_fill f no O x = 0) (hOk : ∀ i, i < no → ∃ kk zz : Nat, kk < 4 ∧ 1 ≤ zz ∧ zz ≤ 9 ∧ O i 0 = nI kk ∧ O i 1 = nI zz) : mT l yX5_fill cX5_fill 3 .int 7 111 G lo sa ad (WC G ad g nf F f no O tf tv fw R) [.ref (ad 0), .int x] (fun E => (E = mXO ∧ K_fill f no O x = 1) ∨ (E = mXS ∧ K_fill f no O x = 2)) := by
  refine mT_of (by decide) (Nat.le_of_ble_eq_true rfl) ?_
  intro p e s m args below meth c hF hr hlk hC ls hl hO hS Q hQ
  have hx := hF.1
  have hb := hF.2.1
  have hl : lv_has ls 3 [(0, .ref (ad 0)), (1, .int x)] := hl
  by_cases hx9 : kFr no x
  · obtain ⟨i, hi, rfl⟩ := fr_of (by omega) hx9
    refine lv_aload_n hx hb dX5_fill_0 rfl (lv_at hl 0 rfl) ?_
    refine lv_iload_n hx hb dX5_fill_1 rfl (lv_at hl 1 rfl) ?_
    refine m_vR (As := [.int (nI i)]) (rest := []) (n := 1) hF hC hO hS (k_X5_orderAt l G lo sa ad R g nf F f no O tf tv fw i hnf hno (by omega)) ok_X5_orderAt q_340 rfl rfl ⟨Nat.le_of_ble_eq_true rfl, Nat.le_of_ble_eq_true rfl⟩ rfl hl.1 rfl (Nat.le_of_ble_eq_true rfl) ⟨Nat.le_of_ble_eq_true rfl, Nat.le_of_ble_eq_true rfl⟩ dX5_fill_2 (fun H locs hO hS => ?_)
    refine lv_astore_n (lv' := [(2, .ref (ad (120 + i))), (0, .ref (ad 0)), (1, .int (nI i))]) hx hb dX5_fill_5 rfl hl (by decide) rfl (fun ls hl => ?_)
    obtain ⟨kk, zz, hkk, hz1, hz9, hw0, hw1⟩ := hOk i hi
    refine lv_aload_n hx hb dX5_fill_6 rfl (lv_at hl 0 rfl) ?_
    refine lv_aload_n hx hb dX5_fill_7 rfl (lv_at hl 1 rfl) ?_
    refine m_get inX5 hF hC hO rfl rfl 2 (by decide) q_113 (v := .ref (ad 3)) rfl dX5_fill_8 ?_
    refine m_vI (As := [.ref (ad 3)]) (rest := []) (n := 1) hF hC hO hS (k_X1_canBeFilled l G lo sa ad _ (120 + i) (O i) f kk zz (WC_O (i := i) (by assumption) hno) rfl rfl (by omega : (120 + i) ≠ 3) (by omega : (120 + i) ≠ 4) hkk (by omega) (by omega) hw0 hw1) ok_X1_canBeFilled q_345 (WC_O (i := i) (by assumption) hno) rfl ⟨Nat.le_of_ble_eq_true rfl, Nat.le_of_ble_eq_true rfl⟩ rfl hl.1 rfl (Nat.le_of_ble_eq_true rfl) ⟨Nat.le_of_ble_eq_true rfl, Nat.le_of_ble_eq_true rfl⟩ dX5_fill_11 (fun v11 R' H locs hp hO hS => ?_)
    obtain ⟨⟨rfl, b11⟩ | ⟨rfl, b11⟩, hR⟩ := hp
    · rw [hR] at hO
      refine lv_if_ne (tgt := 27) hx hb dX5_fill_14 (by decide) (fun c14 => ?_) (fun c14 => absurd c14 (by decide))
      exact absurd (by rw [K_fill, if_pos (fr_nI (by omega) hi), nn_nI (show i < 2 ^ 31 by omega), if_pos ((p_canFill_k (by rw [hw0, nn_nI (by omega)]) (by rw [hw1, nn_nI (by omega)])).mpr b11)]) hK
    · rw [hR] at hO
      refine lv_if_ne (tgt := 27) hx hb dX5_fill_14 (by decide) (fun c14 => absurd (by decide) c14) (fun c14 => ?_)
      refine m_thr hF hr hlk hC hO hS hQ hfl thS (is := 216) (text := "the order is filled, or the store has not enough") (by decide +kernel) ⟨Nat.le_of_ble_eq_true rfl, Nat.le_of_ble_eq_true rfl, Nat.le_of_ble_eq_true rfl, Nat.le_of_ble_eq_true rfl⟩ (Nat.le_of_ble_eq_true rfl) hl.1 dX5_fill_17 dX5_fill_20 dX5_fill_21 dX5_fill_23 dX5_fill_26 ?_
      exact Or.inr (⟨rfl, by rw [K_fill, if_pos (fr_nI (by omega) hi), nn_nI (show i < 2 ^ 31 by omega), if_neg (fun h9 => b11 ((p_canFill_k (by rw [hw0, nn_nI (by omega)]) (by rw [hw1, nn_nI (by omega)])).mp h9))]⟩)
  · refine lv_aload_n hx hb dX5_fill_0 rfl (lv_at hl 0 rfl) ?_
    refine lv_iload_n hx hb dX5_fill_1 rfl (lv_at hl 1 rfl) ?_
    refine m_vXo (As := [.int x]) (rest := []) (n := 1) hF hr hlk hC hO hS hQ (k_X5_orderAtX l G lo sa ad R g nf F f no O tf tv fw x hnf hno hfl hx9) ok_X5_orderAt q_340 rfl rfl ⟨Nat.le_of_ble_eq_true rfl, Nat.le_of_ble_eq_true rfl⟩ rfl hl.1 rfl (Nat.le_of_ble_eq_true rfl) ⟨Nat.le_of_ble_eq_true rfl, Nat.le_of_ble_eq_true rfl⟩ dX5_fill_2 (fun E hE => ?_)
    exact Or.inl ⟨hE, by rw [K_fill, if_neg hx9]⟩
-- 
set_option maxHeartbeats 400000 in
set_option maxRecDepth 100000 in
theorem k_X5_wouldX (l : Launch) (G : mG) (lo : Nat) (sa ad : Nat → Nat) (R : mM) (g : Nat → Int32) (nf : Nat) (F : Nat → Nat → Int32) (f : Nat → Int32) (no : Nat) (O : Nat → Nat → Int32) (tf tv fw : Nat → Int32) (x d : Int32) (hnf : nf ≤ 12) (hno : no ≤ 20) (hfl : l.stackTraces = false) (hK : ¬ K_would nf F x d = 0) : mT l yX5_would cX5_would 4 .int 7 111 G lo sa ad (WC G ad g nf F f no O tf tv fw R) [.ref (ad 0), .int x, .int d] (fun E => (E = mXO ∧ K_would nf F x d = 1) ∨ (E = mXA ∧ K_would nf F x d = 2) ∨ (E = mXS ∧ K_would nf F x d = 3)) := by
  refine mT_of (by decide) (Nat.le_of_ble_eq_true rfl) ?_
  intro p e s m args below meth c hF hr hlk hC ls hl hO hS Q hQ
  have hx := hF.1
  have hb := hF.2.1
  have hl : lv_has ls 4 [(0, .ref (ad 0)), (1, .int x), (2, .int d)] := hl
  by_cases hx9 : kFr nf x
  · obtain ⟨i, hi, rfl⟩ := fr_of (by omega) hx9
    refine lv_aload_n hx hb dX5_would_0 rfl (lv_at hl 0 rfl) ?_
    refine lv_iload_n hx hb dX5_would_1 rfl (lv_at hl 1 rfl) ?_
    refine m_vR (As := [.int (nI i)]) (rest := []) (n := 1) hF hC hO hS (k_X5_frameAt l G lo sa ad R g nf F f no O tf tv fw i hnf hno (by omega)) ok_X5_frameAt q_319 rfl rfl ⟨Nat.le_of_ble_eq_true rfl, Nat.le_of_ble_eq_true rfl⟩ rfl hl.1 rfl (Nat.le_of_ble_eq_true rfl) ⟨Nat.le_of_ble_eq_true rfl, Nat.le_of_ble_eq_true rfl⟩ dX5_would_2 (fun H locs hO hS => ?_)
    refine lv_astore_n (lv' := [(3, .ref (ad (100 + i))), (0, .ref (ad 0)), (1, .int (nI i)), (2, .int d)]) hx hb dX5_would_5 rfl hl (by decide) rfl (fun ls hl => ?_)
    refine lv_iload_n hx hb dX5_would_6 rfl (lv_at hl 3 rfl) ?_
    refine lv_iconst (v := 1) hx hb dX5_would_7 (by decide) ?_
    refine lv_bipush (v := 40) hx hb dX5_would_8 (by decide) ?_
    refine m_sI (As := [.int d, .int 1, .int 40]) (rest := []) (n := 3) hF hC hO hS (k_X5_within l G lo sa ad _ d 1 40 ) ok_X5_within q_360 ⟨Nat.le_of_ble_eq_true rfl, Nat.le_of_ble_eq_true rfl⟩ rfl hl.1 rfl (Nat.le_of_ble_eq_true rfl) ⟨Nat.le_of_ble_eq_true rfl, Nat.le_of_ble_eq_true rfl⟩ dX5_would_10 (fun v10 R' H locs hp hO hS => ?_)
    obtain ⟨⟨rfl, b10⟩ | ⟨rfl, b10⟩, hR⟩ := hp
    · rw [hR] at hO
      refine lv_if_ne (tgt := 26) hx hb dX5_would_13 (by decide) (fun c13 => ?_) (fun c13 => absurd c13 (by decide))
      refine lv_aload_n hx hb dX5_would_26 rfl (lv_at hl 0 rfl) ?_
      refine m_vI (As := []) (rest := []) (n := 0) hF hC hO hS (k_X0_hangs l G lo sa ad _ (100 + i) (F i) (WC_F (i := i) (by assumption) hnf)) ok_X0_hangs q_228 (WC_F (i := i) (by assumption) hnf) rfl ⟨Nat.le_of_ble_eq_true rfl, Nat.le_of_ble_eq_true rfl⟩ rfl hl.1 rfl (Nat.le_of_ble_eq_true rfl) ⟨Nat.le_of_ble_eq_true rfl, Nat.le_of_ble_eq_true rfl⟩ dX5_would_27 (fun v27 R' H locs hp hO hS => ?_)
      obtain ⟨⟨rfl, b27⟩ | ⟨rfl, b27⟩, hR⟩ := hp
      · rw [hR] at hO
        refine lv_if_ne (tgt := 43) hx hb dX5_would_30 (by decide) (fun c30 => ?_) (fun c30 => absurd c30 (by decide))
        exact absurd (by rw [K_would, if_pos (fr_nI (by omega) hi), if_pos b10, nn_nI (show i < 2 ^ 31 by omega), if_pos b27]) hK
      · rw [hR] at hO
        refine lv_if_ne (tgt := 43) hx hb dX5_would_30 (by decide) (fun c30 => absurd (by decide) c30) (fun c30 => ?_)
        refine m_thr hF hr hlk hC hO hS hQ hfl thS (is := 251) (text := "the frame does not hang") (by decide +kernel) ⟨Nat.le_of_ble_eq_true rfl, Nat.le_of_ble_eq_true rfl, Nat.le_of_ble_eq_true rfl, Nat.le_of_ble_eq_true rfl⟩ (Nat.le_of_ble_eq_true rfl) hl.1 dX5_would_33 dX5_would_36 dX5_would_37 dX5_would_39 dX5_would_42 ?_
        exact Or.inr (Or.inr (⟨rfl, by rw [K_would, if_pos (fr_nI (by omega) hi), if_pos b10, nn_nI (show i < 2 ^ 31 by omega), if_neg b27]⟩))
    · rw [hR] at hO
      refine lv_if_ne (tgt := 26) hx hb dX5_would_13 (by decide) (fun c13 => absurd (by decide) c13) (fun c13 => ?_)
      refine m_thr hF hr hlk hC hO hS hQ hfl thA (is := 249) (text := "dips is not 1 to 40") (by decide +kernel) ⟨Nat.le_of_ble_eq_true rfl, Nat.le_of_ble_eq_true rfl, Nat.le_of_ble_eq_true rfl, Nat.le_of_ble_eq_true rfl⟩ (Nat.le_of_ble_eq_true rfl) hl.1 dX5_would_16 dX5_would_19 dX5_would_20 dX5_would_22 dX5_would_25 ?_
      exact Or.inr (Or.inl ⟨rfl, by rw [K_would, if_pos (fr_nI (by omega) hi), if_neg b10]⟩)
  · refine lv_aload_n hx hb dX5_would_0 rfl (lv_at hl 0 rfl) ?_
    refine lv_iload_n hx hb dX5_would_1 rfl (lv_at hl 1 rfl) ?_
    refine m_vXo (As := [.int x]) (rest := []) (n := 1) hF hr hlk hC hO hS hQ (k_X5_frameAtX l G lo sa ad R g nf F f no O tf tv fw x hnf hno hfl hx9) ok_X5_frameAt q_319 rfl rfl ⟨Nat.le_of_ble_eq_true rfl, Nat.le_of_ble_eq_true rfl⟩ rfl hl.1 rfl (Nat.le_of_ble_eq_true rfl) ⟨Nat.le_of_ble_eq_true rfl, Nat.le_of_ble_eq_true rfl⟩ dX5_would_2 (fun E hE => ?_)
    exact Or.inl ⟨hE, by rw [K_would, if_neg hx9]⟩
-- 
set_option maxHeartbeats 400000 in
set_option maxRecDepth 100000 in
theorem k_X5_dipsToX (l : Launch) (G : mG) (lo : Nat) (sa ad : Nat → Nat) (R : mM) (g : Nat → Int32) (nf : Nat) (F : Nat → Nat → Int32) (f : Nat → Int32) (no : Nat) (O : Nat → Nat → Int32) (tf tv fw : Nat → Int32) (x r z : Int32) (hnf : nf ≤ 12) (hno : no ≤ 20) (hfl : l.stackTraces = false) (hK : ¬ K_dipsTo nf F x r z = 0) : mT l yX5_dipsTo cX5_dipsTo 5 .int 7 111 G lo sa ad (WC G ad g nf F f no O tf tv fw R) [.ref (ad 0), .int x, .int r, .int z] (fun E => (E = mXO ∧ K_dipsTo nf F x r z = 1) ∨ (E = mXA ∧ K_dipsTo nf F x r z = 2) ∨ (E = mXS ∧ K_dipsTo nf F x r z = 3)) := by
  refine mT_of (by decide) (Nat.le_of_ble_eq_true rfl) ?_
  intro p e s m args below meth c hF hr hlk hC ls hl hO hS Q hQ
  have hx := hF.1
  have hb := hF.2.1
  have hl : lv_has ls 5 [(0, .ref (ad 0)), (1, .int x), (2, .int r), (3, .int z)] := hl
  by_cases hx9 : kFr nf x
  · obtain ⟨i, hi, rfl⟩ := fr_of (by omega) hx9
    refine lv_aload_n hx hb dX5_dipsTo_0 rfl (lv_at hl 0 rfl) ?_
    refine lv_iload_n hx hb dX5_dipsTo_1 rfl (lv_at hl 1 rfl) ?_
    refine m_vR (As := [.int (nI i)]) (rest := []) (n := 1) hF hC hO hS (k_X5_frameAt l G lo sa ad R g nf F f no O tf tv fw i hnf hno (by omega)) ok_X5_frameAt q_319 rfl rfl ⟨Nat.le_of_ble_eq_true rfl, Nat.le_of_ble_eq_true rfl⟩ rfl hl.1 rfl (Nat.le_of_ble_eq_true rfl) ⟨Nat.le_of_ble_eq_true rfl, Nat.le_of_ble_eq_true rfl⟩ dX5_dipsTo_2 (fun H locs hO hS => ?_)
    refine lv_astore (lv' := [(4, .ref (ad (100 + i))), (0, .ref (ad 0)), (1, .int (nI i)), (2, .int r), (3, .int z)]) hx hb dX5_dipsTo_5 hl (by decide) rfl (fun ls hl => ?_)
    refine lv_iload_n hx hb dX5_dipsTo_7 rfl (lv_at hl 3 rfl) ?_
    refine lv_iconst (v := 0) hx hb dX5_dipsTo_8 (by decide) ?_
    refine lv_bipush (v := 20) hx hb dX5_dipsTo_9 (by decide) ?_
    refine m_sI (As := [.int r, .int 0, .int 20]) (rest := []) (n := 3) hF hC hO hS (k_X5_within l G lo sa ad _ r 0 20 ) ok_X5_within q_360 ⟨Nat.le_of_ble_eq_true rfl, Nat.le_of_ble_eq_true rfl⟩ rfl hl.1 rfl (Nat.le_of_ble_eq_true rfl) ⟨Nat.le_of_ble_eq_true rfl, Nat.le_of_ble_eq_true rfl⟩ dX5_dipsTo_11 (fun v11 R' H locs hp hO hS => ?_)
    obtain ⟨⟨rfl, b11⟩ | ⟨rfl, b11⟩, hR⟩ := hp
    · rw [hR] at hO
      refine lv_if_eq (tgt := 27) hx hb dX5_dipsTo_14 (by decide) (fun c14 => absurd c14 (by decide)) (fun c14 => ?_)
      refine lv_iload_n hx hb dX5_dipsTo_17 rfl (lv_at hl 4 rfl) ?_
      refine lv_iconst (v := 1) hx hb dX5_dipsTo_18 (by decide) ?_
      refine lv_bipush (v := 9) hx hb dX5_dipsTo_19 (by decide) ?_
      refine m_sI (As := [.int z, .int 1, .int 9]) (rest := []) (n := 3) hF hC hO hS (k_X5_within l G lo sa ad _ z 1 9 ) ok_X5_within q_360 ⟨Nat.le_of_ble_eq_true rfl, Nat.le_of_ble_eq_true rfl⟩ rfl hl.1 rfl (Nat.le_of_ble_eq_true rfl) ⟨Nat.le_of_ble_eq_true rfl, Nat.le_of_ble_eq_true rfl⟩ dX5_dipsTo_21 (fun v21 R' H locs hp hO hS => ?_)
      obtain ⟨⟨rfl, b21⟩ | ⟨rfl, b21⟩, hR⟩ := hp
      · rw [hR] at hO
        refine lv_if_ne (tgt := 38) hx hb dX5_dipsTo_24 (by decide) (fun c24 => ?_) (fun c24 => absurd c24 (by decide))
        refine lv_aload hx hb dX5_dipsTo_38 (lv_at hl 0 rfl) ?_
        refine m_vI (As := []) (rest := []) (n := 0) hF hC hO hS (k_X0_hangs l G lo sa ad _ (100 + i) (F i) (WC_F (i := i) (by assumption) hnf)) ok_X0_hangs q_228 (WC_F (i := i) (by assumption) hnf) rfl ⟨Nat.le_of_ble_eq_true rfl, Nat.le_of_ble_eq_true rfl⟩ rfl hl.1 rfl (Nat.le_of_ble_eq_true rfl) ⟨Nat.le_of_ble_eq_true rfl, Nat.le_of_ble_eq_true rfl⟩ dX5_dipsTo_40 (fun v40 R' H locs hp hO hS => ?_)
        obtain ⟨⟨rfl, b40⟩ | ⟨rfl, b40⟩, hR⟩ := hp
        · rw [hR] at hO
          refine lv_if_ne (tgt := 56) hx hb dX5_dipsTo_43 (by decide) (fun c43 => ?_) (fun c43 => absurd c43 (by decide))
          exact absurd (by rw [K_dipsTo, if_pos (fr_nI (by omega) hi), if_pos b11, if_pos b21, nn_nI (show i < 2 ^ 31 by omega), if_pos b40]) hK
        · rw [hR] at hO
          refine lv_if_ne (tgt := 56) hx hb dX5_dipsTo_43 (by decide) (fun c43 => absurd (by decide) c43) (fun c43 => ?_)
          refine m_thr hF hr hlk hC hO hS hQ hfl thS (is := 251) (text := "the frame does not hang") (by decide +kernel) ⟨Nat.le_of_ble_eq_true rfl, Nat.le_of_ble_eq_true rfl, Nat.le_of_ble_eq_true rfl, Nat.le_of_ble_eq_true rfl⟩ (Nat.le_of_ble_eq_true rfl) hl.1 dX5_dipsTo_46 dX5_dipsTo_49 dX5_dipsTo_50 dX5_dipsTo_52 dX5_dipsTo_55 ?_
          exact Or.inr (Or.inr (⟨rfl, by rw [K_dipsTo, if_pos (fr_nI (by omega) hi), if_pos b11, if_pos b21, nn_nI (show i < 2 ^ 31 by omega), if_neg b40]⟩))
      · rw [hR] at hO
        refine lv_if_ne (tgt := 38) hx hb dX5_dipsTo_24 (by decide) (fun c24 => absurd (by decide) c24) (fun c24 => ?_)
        refine m_thrW hF hr hlk hC hO hS hQ hfl thA (is := 257) (text := "rest is not 0 to 20, or size is not 1 to 9") (by decide +kernel) ⟨Nat.le_of_ble_eq_true rfl, Nat.le_of_ble_eq_true rfl, Nat.le_of_ble_eq_true rfl, Nat.le_of_ble_eq_true rfl⟩ (Nat.le_of_ble_eq_true rfl) hl.1 dX5_dipsTo_27 dX5_dipsTo_30 dX5_dipsTo_31 dX5_dipsTo_34 dX5_dipsTo_37 ?_
        exact Or.inr (Or.inl ⟨rfl, by rw [K_dipsTo, if_pos (fr_nI (by omega) hi), if_pos b11, if_neg b21]⟩)
    · rw [hR] at hO
      refine lv_if_eq (tgt := 27) hx hb dX5_dipsTo_14 (by decide) (fun c14 => ?_) (fun c14 => absurd (by decide) c14)
      refine m_thrW hF hr hlk hC hO hS hQ hfl thA (is := 257) (text := "rest is not 0 to 20, or size is not 1 to 9") (by decide +kernel) ⟨Nat.le_of_ble_eq_true rfl, Nat.le_of_ble_eq_true rfl, Nat.le_of_ble_eq_true rfl, Nat.le_of_ble_eq_true rfl⟩ (Nat.le_of_ble_eq_true rfl) hl.1 dX5_dipsTo_27 dX5_dipsTo_30 dX5_dipsTo_31 dX5_dipsTo_34 dX5_dipsTo_37 ?_
      exact Or.inr (Or.inl ⟨rfl, by rw [K_dipsTo, if_pos (fr_nI (by omega) hi), if_neg b11]⟩)
  · refine lv_aload_n hx hb dX5_dipsTo_0 rfl (lv_at hl 0 rfl) ?_
    refine lv_iload_n hx hb dX5_dipsTo_1 rfl (lv_at hl 1 rfl) ?_
    refine m_vXo (As := [.int x]) (rest := []) (n := 1) hF hr hlk hC hO hS hQ (k_X5_frameAtX l G lo sa ad R g nf F f no O tf tv fw x hnf hno hfl hx9) ok_X5_frameAt q_319 rfl rfl ⟨Nat.le_of_ble_eq_true rfl, Nat.le_of_ble_eq_true rfl⟩ rfl hl.1 rfl (Nat.le_of_ble_eq_true rfl) ⟨Nat.le_of_ble_eq_true rfl, Nat.le_of_ble_eq_true rfl⟩ dX5_dipsTo_2 (fun E hE => ?_)
    exact Or.inl ⟨hE, by rw [K_dipsTo, if_neg hx9]⟩
-- 
set_option maxHeartbeats 400000 in
set_option maxRecDepth 100000 in
theorem k_X5_bestRestX (l : Launch) (G : mG) (lo : Nat) (sa ad : Nat → Nat) (R : mM) (g : Nat → Int32) (nf : Nat) (F : Nat → Nat → Int32) (f : Nat → Int32) (no : Nat) (O : Nat → Nat → Int32) (tf tv fw : Nat → Int32) (x z : Int32) (hnf : nf ≤ 12) (hno : no ≤ 20) (hfl : l.stackTraces = false) (hK : ¬ K_bestRest nf F x z = 0) : mT l yX5_bestRest cX5_bestRest 4 .int 7 111 G lo sa ad (WC G ad g nf F f no O tf tv fw R) [.ref (ad 0), .int x, .int z] (fun E => (E = mXO ∧ K_bestRest nf F x z = 1) ∨ (E = mXA ∧ K_bestRest nf F x z = 2) ∨ (E = mXS ∧ K_bestRest nf F x z = 3)) := by
  refine mT_of (by decide) (Nat.le_of_ble_eq_true rfl) ?_
  intro p e s m args below meth c hF hr hlk hC ls hl hO hS Q hQ
  have hx := hF.1
  have hb := hF.2.1
  have hl : lv_has ls 4 [(0, .ref (ad 0)), (1, .int x), (2, .int z)] := hl
  by_cases hx9 : kFr nf x
  · obtain ⟨i, hi, rfl⟩ := fr_of (by omega) hx9
    refine lv_aload_n hx hb dX5_bestRest_0 rfl (lv_at hl 0 rfl) ?_
    refine lv_iload_n hx hb dX5_bestRest_1 rfl (lv_at hl 1 rfl) ?_
    refine m_vR (As := [.int (nI i)]) (rest := []) (n := 1) hF hC hO hS (k_X5_frameAt l G lo sa ad R g nf F f no O tf tv fw i hnf hno (by omega)) ok_X5_frameAt q_319 rfl rfl ⟨Nat.le_of_ble_eq_true rfl, Nat.le_of_ble_eq_true rfl⟩ rfl hl.1 rfl (Nat.le_of_ble_eq_true rfl) ⟨Nat.le_of_ble_eq_true rfl, Nat.le_of_ble_eq_true rfl⟩ dX5_bestRest_2 (fun H locs hO hS => ?_)
    refine lv_astore_n (lv' := [(3, .ref (ad (100 + i))), (0, .ref (ad 0)), (1, .int (nI i)), (2, .int z)]) hx hb dX5_bestRest_5 rfl hl (by decide) rfl (fun ls hl => ?_)
    refine lv_iload_n hx hb dX5_bestRest_6 rfl (lv_at hl 3 rfl) ?_
    refine lv_iconst (v := 1) hx hb dX5_bestRest_7 (by decide) ?_
    refine lv_bipush (v := 9) hx hb dX5_bestRest_8 (by decide) ?_
    refine m_sI (As := [.int z, .int 1, .int 9]) (rest := []) (n := 3) hF hC hO hS (k_X5_within l G lo sa ad _ z 1 9 ) ok_X5_within q_360 ⟨Nat.le_of_ble_eq_true rfl, Nat.le_of_ble_eq_true rfl⟩ rfl hl.1 rfl (Nat.le_of_ble_eq_true rfl) ⟨Nat.le_of_ble_eq_true rfl, Nat.le_of_ble_eq_true rfl⟩ dX5_bestRest_10 (fun v10 R' H locs hp hO hS => ?_)
    obtain ⟨⟨rfl, b10⟩ | ⟨rfl, b10⟩, hR⟩ := hp
    · rw [hR] at hO
      refine lv_if_ne (tgt := 27) hx hb dX5_bestRest_13 (by decide) (fun c13 => ?_) (fun c13 => absurd c13 (by decide))
      refine lv_aload_n hx hb dX5_bestRest_27 rfl (lv_at hl 0 rfl) ?_
      refine m_vI (As := []) (rest := []) (n := 0) hF hC hO hS (k_X0_hangs l G lo sa ad _ (100 + i) (F i) (WC_F (i := i) (by assumption) hnf)) ok_X0_hangs q_228 (WC_F (i := i) (by assumption) hnf) rfl ⟨Nat.le_of_ble_eq_true rfl, Nat.le_of_ble_eq_true rfl⟩ rfl hl.1 rfl (Nat.le_of_ble_eq_true rfl) ⟨Nat.le_of_ble_eq_true rfl, Nat.le_of_ble_eq_true rfl⟩ dX5_bestRest_28 (fun v28 R' H locs hp hO hS => ?_)
      obtain ⟨⟨rfl, b28⟩ | ⟨rfl, b28⟩, hR⟩ := hp
      · rw [hR] at hO
        refine lv_if_ne (tgt := 44) hx hb dX5_bestRest_31 (by decide) (fun c31 => ?_) (fun c31 => absurd c31 (by decide))
        exact absurd (by rw [K_bestRest, if_pos (fr_nI (by omega) hi), if_pos b10, nn_nI (show i < 2 ^ 31 by omega), if_pos b28]) hK
      · rw [hR] at hO
        refine lv_if_ne (tgt := 44) hx hb dX5_bestRest_31 (by decide) (fun c31 => absurd (by decide) c31) (fun c31 => ?_)
        refine m_thr hF hr hlk hC hO hS hQ hfl thS (is := 251) (text := "the frame does not hang") (by decide +kernel) ⟨Nat.le_of_ble_eq_true rfl, Nat.le_of_ble_eq_true rfl, Nat.le_of_ble_eq_true rfl, Nat.le_of_ble_eq_true rfl⟩ (Nat.le_of_ble_eq_true rfl) hl.1 dX5_bestRest_34 dX5_bestRest_37 dX5_bestRest_38 dX5_bestRest_40 dX5_bestRest_43 ?_
        exact Or.inr (Or.inr (⟨rfl, by rw [K_bestRest, if_pos (fr_nI (by omega) hi), if_pos b10, nn_nI (show i < 2 ^ 31 by omega), if_neg b28]⟩))
    · rw [hR] at hO
      refine lv_if_ne (tgt := 27) hx hb dX5_bestRest_13 (by decide) (fun c13 => absurd (by decide) c13) (fun c13 => ?_)
      refine m_thrW hF hr hlk hC hO hS hQ hfl thA (is := 263) (text := "size is not 1 to 9") (by decide +kernel) ⟨Nat.le_of_ble_eq_true rfl, Nat.le_of_ble_eq_true rfl, Nat.le_of_ble_eq_true rfl, Nat.le_of_ble_eq_true rfl⟩ (Nat.le_of_ble_eq_true rfl) hl.1 dX5_bestRest_16 dX5_bestRest_19 dX5_bestRest_20 dX5_bestRest_23 dX5_bestRest_26 ?_
      exact Or.inr (Or.inl ⟨rfl, by rw [K_bestRest, if_pos (fr_nI (by omega) hi), if_neg b10]⟩)
  · refine lv_aload_n hx hb dX5_bestRest_0 rfl (lv_at hl 0 rfl) ?_
    refine lv_iload_n hx hb dX5_bestRest_1 rfl (lv_at hl 1 rfl) ?_
    refine m_vXo (As := [.int x]) (rest := []) (n := 1) hF hr hlk hC hO hS hQ (k_X5_frameAtX l G lo sa ad R g nf F f no O tf tv fw x hnf hno hfl hx9) ok_X5_frameAt q_319 rfl rfl ⟨Nat.le_of_ble_eq_true rfl, Nat.le_of_ble_eq_true rfl⟩ rfl hl.1 rfl (Nat.le_of_ble_eq_true rfl) ⟨Nat.le_of_ble_eq_true rfl, Nat.le_of_ble_eq_true rfl⟩ dX5_bestRest_2 (fun E hE => ?_)
    exact Or.inl ⟨hE, by rw [K_bestRest, if_neg hx9]⟩
