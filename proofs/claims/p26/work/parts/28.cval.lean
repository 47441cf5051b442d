theorem p_dipV_3 {φ ν : Nat → Int32} : p_dipV φ ν 3 = ν 3 := by unfold p_dipV; split <;> rfl
def CG_cut (g φ : Nat → Int32) : Nat → Int32 := if p_size φ = 0 then p_backV (upd g 5 (g 5 + φ 1)) (p_wax φ (φ 2)) else g
def Cf_cut (f φ : Nat → Int32) : Nat → Int32 := if p_size φ = 0 then f else upd f (9 * nn (φ 0) + nn (p_size φ) - 1) (f (9 * nn (φ 0) + nn (p_size φ) - 1) + φ 1)
theorem size_zz {φ : Nat → Int32} (h0 : 0 ≤ p_size φ) (h : p_size φ ≠ 0) : ∃ zz : Nat, 1 ≤ zz ∧ zz ≤ 9 ∧ p_size φ = nI zz := by
  have h9 : p_size φ ≤ nI 9 := by
    unfold p_size jmin
    generalize φ 2 / (if φ 4 = 0 then 40 else 80) = t
    split
    · exact Int32.le_of_lt ‹_›
    · exact Int32.le_refl _
  obtain ⟨k, -, hk, e⟩ := in_of (a := 0) (b := 9) (by decide) (by decide) ⟨h0, h9⟩
  refine ⟨k, ?_, hk, e⟩
  rcases Nat.eq_zero_or_pos k with h1 | h1
  · subst h1; exact absurd e h
  · exact h1
theorem ok_X5_melt : mOK RX5 yX5_melt cX5_melt 2 (some .int) 1 := ⟨q_537, q_538, q_1, q_539, by decide +kernel⟩
set_option maxHeartbeats 400000 in
set_option maxRecDepth 100000 in
theorem k_X5_melt (l : Launch) (G : mG) (lo : Nat) (sa : mSc) (ad : Nat → Nat) (R : mM) (g : Nat → Int32) (nf : Nat) (F : Nat → Nat → Int32) (f : Nat → Int32) (no : Nat) (O : Nat → Nat → Int32) (tf tv fw : Nat → Int32) (w : Int32) (hnf : nf ≤ 12) (hno : no ≤ 20) (hin : p_in w 1 5000) (hle : g 0 + w ≤ 20000) : mI l yX5_melt cX5_melt 2 .int 1 22 G lo sa ad (WC G ad g nf F f no O tf tv fw R) [.ref (ad 0), .int w] (fun v R' => v = p_throwV g w 1 ∧ R' = (WC G ad (p_throwV g w) nf F f no O tf tv fw R)) := by
  refine mI_of (by decide) (Nat.le_of_ble_eq_true rfl) ?_
  intro p e s m args below meth c hF hr hlk hC ls hl hO hS Q hQ
  have hx := hF.1
  have hb := hF.2.1
  have hl : lv_has ls 2 [(0, .ref (ad 0)), (1, .int w)] := hl
  refine lv_iload_n hx hb dX5_melt_0 rfl (lv_at hl 1 rfl) ?_
  refine lv_iconst (v := 1) hx hb dX5_melt_1 (by decide) ?_
  refine lv_sipush (v := 5000) hx hb dX5_melt_2 (by decide) ?_
  refine m_sI (As := [.int w, .int 1, .int 5000]) (rest := []) (n := 3) hF hC hO hS (k_X5_within l G lo sa ad _ w 1 5000 ) ok_X5_within q_347 ⟨Nat.le_of_ble_eq_true rfl, Nat.le_of_ble_eq_true rfl⟩ rfl hl.1 rfl (Nat.le_of_ble_eq_true rfl) ⟨Nat.le_of_ble_eq_true rfl, Nat.le_of_ble_eq_true rfl⟩ dX5_melt_5 (fun v5 R' H locs hp hO hS => ?_)
  obtain ⟨⟨rfl, b5⟩ | ⟨rfl, b5⟩, hR⟩ := hp
  · rw [hR] at hO
    refine lv_if_ne (tgt := 21) hx hb dX5_melt_8 (by decide) (fun c8 => ?_) (fun c8 => absurd c8 (by decide))
    refine lv_aload_n hx hb dX5_melt_21 rfl (lv_at hl 0 rfl) ?_
    refine m_get inX5 hF hC hO rfl rfl 0 (by decide) q_111 (v := .ref (ad 1)) rfl dX5_melt_22 ?_
    refine m_get inX4 hF hC hO rfl rfl 0 (by decide) q_30 (v := .int (g 0)) rfl dX5_melt_25 ?_
    refine lv_iload_n hx hb dX5_melt_28 rfl (lv_at hl 1 rfl) ?_
    refine lv_iadd hx hb dX5_melt_29 ?_
    refine lv_sipush (v := 20000) hx hb dX5_melt_30 (by decide) ?_
    refine lv_icmp_le (tgt := 46) hx hb dX5_melt_33 (by decide) (fun c33 => ?_) (fun c33 => absurd (hle) c33)
    refine lv_aload_n hx hb dX5_melt_46 rfl (lv_at hl 0 rfl) ?_
    refine m_get inX5 hF hC hO rfl rfl 0 (by decide) q_111 (v := .ref (ad 1)) rfl dX5_melt_47 ?_
    refine lv_iload_n hx hb dX5_melt_50 rfl (lv_at hl 1 rfl) ?_
    refine m_vV (As := [.int w]) (rest := []) (n := 1) hF hC hO hS (k_X4_throwIn l G lo sa ad _ 1 g w rfl) ok_X4_throwIn q_542 rfl rfl ⟨Nat.le_of_ble_eq_true rfl, Nat.le_of_ble_eq_true rfl⟩ rfl hl.1 rfl (Nat.le_of_ble_eq_true rfl) ⟨Nat.le_of_ble_eq_true rfl, Nat.le_of_ble_eq_true rfl⟩ dX5_melt_51 (fun R' H locs hp hO hS => ?_)
    have hR := hp
    rw [hR] at hO
    have hO : mO G lo ad (mU (WC G ad g nf F f no O tf tv fw R) 1 (vO (p_throwV g w))) H := hO
    rw [WC_w1 (by first | rfl | (unfold p_throwV; split <;> rfl) | (unfold p_dipV; split <;> rfl)) (by first | rfl | (unfold p_throwV; split <;> rfl) | (unfold p_dipV; split <;> rfl)) (by first | rfl | (unfold p_throwV; split <;> rfl) | (unfold p_dipV; split <;> rfl))] at hO
    refine lv_aload_n hx hb dX5_melt_54 rfl (lv_at hl 0 rfl) ?_
    refine m_get inX5 hF hC hO rfl rfl 0 (by decide) q_111 (v := .ref (ad 1)) rfl dX5_melt_55 ?_
    refine m_get inX4 hF hC hO rfl rfl 1 (by decide) q_34 (v := .int ((p_throwV g w) 1)) rfl dX5_melt_58 ?_
    refine m_iret hF hr hlk hQ rfl hO hS dX5_melt_61 ?_
    exact ⟨rfl, rfl⟩
  · exact absurd hin b5
theorem ok_X5_setFire : mOK RX5 yX5_setFire cX5_setFire 3 (some .int) 1 := ⟨q_547, q_548, q_1, q_549, by decide +kernel⟩
set_option maxHeartbeats 400000 in
set_option maxRecDepth 100000 in
theorem k_X5_setFire (l : Launch) (G : mG) (lo : Nat) (sa : mSc) (ad : Nat → Nat) (R : mM) (g : Nat → Int32) (nf : Nat) (F : Nat → Nat → Int32) (f : Nat → Int32) (no : Nat) (O : Nat → Nat → Int32) (tf tv fw : Nat → Int32) (w : Int32) (hnf : nf ≤ 12) (hno : no ≤ 20) (hin : p_in w 0 5) : mI l yX5_setFire cX5_setFire 3 .int 1 22 G lo sa ad (WC G ad g nf F f no O tf tv fw R) [.ref (ad 0), .int w] (fun v R' => v = g 2 ∧ R' = (WC G ad (upd g 2 w) nf F f no O tf tv fw R)) := by
  refine mI_of (by decide) (Nat.le_of_ble_eq_true rfl) ?_
  intro p e s m args below meth c hF hr hlk hC ls hl hO hS Q hQ
  have hx := hF.1
  have hb := hF.2.1
  have hl : lv_has ls 3 [(0, .ref (ad 0)), (1, .int w)] := hl
  refine lv_iload_n hx hb dX5_setFire_0 rfl (lv_at hl 1 rfl) ?_
  refine lv_iconst (v := 0) hx hb dX5_setFire_1 (by decide) ?_
  refine lv_iconst (v := 5) hx hb dX5_setFire_2 (by decide) ?_
  refine m_sI (As := [.int w, .int 0, .int 5]) (rest := []) (n := 3) hF hC hO hS (k_X5_within l G lo sa ad _ w 0 5 ) ok_X5_within q_347 ⟨Nat.le_of_ble_eq_true rfl, Nat.le_of_ble_eq_true rfl⟩ rfl hl.1 rfl (Nat.le_of_ble_eq_true rfl) ⟨Nat.le_of_ble_eq_true rfl, Nat.le_of_ble_eq_true rfl⟩ dX5_setFire_3 (fun v3 R' H locs hp hO hS => ?_)
  obtain ⟨⟨rfl, b3⟩ | ⟨rfl, b3⟩, hR⟩ := hp
  · rw [hR] at hO
    refine lv_if_ne (tgt := 19) hx hb dX5_setFire_6 (by decide) (fun c6 => ?_) (fun c6 => absurd c6 (by decide))
    refine lv_aload_n hx hb dX5_setFire_19 rfl (lv_at hl 0 rfl) ?_
    refine m_get inX5 hF hC hO rfl rfl 0 (by decide) q_111 (v := .ref (ad 1)) rfl dX5_setFire_20 ?_
    refine m_get inX4 hF hC hO rfl rfl 2 (by decide) q_36 (v := .int (g 2)) rfl dX5_setFire_23 ?_
    refine lv_istore_n (lv' := [(2, .int (g 2)), (0, .ref (ad 0)), (1, .int w)]) hx hb dX5_setFire_26 rfl hl (by decide) rfl (fun ls hl => ?_)
    refine lv_aload_n hx hb dX5_setFire_27 rfl (lv_at hl 1 rfl) ?_
    refine m_get inX5 hF hC hO rfl rfl 0 (by decide) q_111 (v := .ref (ad 1)) rfl dX5_setFire_28 ?_
    refine lv_iload_n hx hb dX5_setFire_31 rfl (lv_at hl 2 rfl) ?_
    refine m_put (ty := .int) tyX4 tyX4_ok nmX4 inX4 hF hC hO hS rfl rfl 2 (by decide) q_36 rfl (by decide +kernel) rfl rfl (fs' := [.int (g 0), .int (g 1), .int w]) (Nat.le_of_ble_eq_true rfl) rfl dX5_setFire_32 (fun H locs hO hS => ?_)
    have hO : mO G lo ad (mU (WC G ad g nf F f no O tf tv fw R) 1 (vO (upd g 2 w))) H := hO
    rw [WC_w1 (by first | rfl | (unfold p_throwV; split <;> rfl) | (unfold p_dipV; split <;> rfl)) (by first | rfl | (unfold p_throwV; split <;> rfl) | (unfold p_dipV; split <;> rfl)) (by first | rfl | (unfold p_throwV; split <;> rfl) | (unfold p_dipV; split <;> rfl))] at hO
    refine lv_iload_n hx hb dX5_setFire_35 rfl (lv_at hl 0 rfl) ?_
    refine m_iret hF hr hlk hQ rfl hO hS dX5_setFire_36 ?_
    exact ⟨rfl, rfl⟩
  · exact absurd hin b3
theorem ok_X5_hang : mOK RX5 yX5_hang cX5_hang 6 (some .int) 2 := ⟨q_604, q_605, q_1, q_606, by decide +kernel⟩
set_option maxHeartbeats 400000 in
set_option maxRecDepth 100000 in
theorem k_X5_hang (l : Launch) (G : mG) (lo : Nat) (sa : mSc) (ad : Nat → Nat) (R : mM) (g : Nat → Int32) (nf : Nat) (F : Nat → Nat → Int32) (f : Nat → Int32) (no : Nat) (O : Nat → Nat → Int32) (tf tv fw : Nat → Int32) (i : Nat) (h : Int32) (hnf : nf ≤ 12) (hno : no ≤ 20) (hi : i < nf) (hin : p_in h 0 11) (hm : m_at nf F h = -1 ∨ m_at nf F h = nI i) : mI l yX5_hang cX5_hang 6 .int 1 22 G lo sa ad (WC G ad g nf F f no O tf tv fw R) [.ref (ad 0), .int (nI i), .int h] (fun v R' => v = F i 5 ∧ R' = (WC G ad g nf (va_up F i (upd (F i) 5 h)) f no O tf tv fw R)) := by
  refine mI_of (by decide) (Nat.le_of_ble_eq_true rfl) ?_
  intro p e s m args below meth c hF hr hlk hC ls hl hO hS Q hQ
  have hx := hF.1
  have hb := hF.2.1
  have hl : lv_has ls 6 [(0, .ref (ad 0)), (1, .int (nI i)), (2, .int h)] := hl
  refine lv_aload_n hx hb dX5_hang_0 rfl (lv_at hl 0 rfl) ?_
  refine lv_iload_n hx hb dX5_hang_1 rfl (lv_at hl 1 rfl) ?_
  refine m_vR (As := [.int (nI i)]) (rest := []) (n := 1) hF hC hO hS (k_X5_frameAt l G lo sa ad R g nf F f no O tf tv fw i hnf hno (by omega)) ok_X5_frameAt q_219 rfl rfl ⟨Nat.le_of_ble_eq_true rfl, Nat.le_of_ble_eq_true rfl⟩ rfl hl.1 rfl (Nat.le_of_ble_eq_true rfl) ⟨Nat.le_of_ble_eq_true rfl, Nat.le_of_ble_eq_true rfl⟩ dX5_hang_2 (fun H locs hO hS => ?_)
  refine lv_astore_n (lv' := [(3, .ref (ad (100 + i))), (0, .ref (ad 0)), (1, .int (nI i)), (2, .int h)]) hx hb dX5_hang_5 rfl hl (by decide) rfl (fun ls hl => ?_)
  refine lv_iload_n hx hb dX5_hang_6 rfl (lv_at hl 3 rfl) ?_
  refine lv_iconst (v := 0) hx hb dX5_hang_7 (by decide) ?_
  refine lv_bipush (v := 11) hx hb dX5_hang_8 (by decide) ?_
  refine m_sI (As := [.int h, .int 0, .int 11]) (rest := []) (n := 3) hF hC hO hS (k_X5_within l G lo sa ad _ h 0 11 ) ok_X5_within q_347 ⟨Nat.le_of_ble_eq_true rfl, Nat.le_of_ble_eq_true rfl⟩ rfl hl.1 rfl (Nat.le_of_ble_eq_true rfl) ⟨Nat.le_of_ble_eq_true rfl, Nat.le_of_ble_eq_true rfl⟩ dX5_hang_10 (fun v10 R' H locs hp hO hS => ?_)
  obtain ⟨⟨rfl, b10⟩ | ⟨rfl, b10⟩, hR⟩ := hp
  · rw [hR] at hO
    refine lv_if_ne (tgt := 26) hx hb dX5_hang_13 (by decide) (fun c13 => ?_) (fun c13 => absurd c13 (by decide))
    refine lv_aload_n hx hb dX5_hang_26 rfl (lv_at hl 1 rfl) ?_
    refine lv_iload_n hx hb dX5_hang_27 rfl (lv_at hl 3 rfl) ?_
    refine m_vI (As := [.int h]) (rest := []) (n := 1) hF hC hO hS (k_X5_frameOn l G lo sa ad R g nf F f no O tf tv fw h hnf hno) ok_X5_frameOn q_349 rfl rfl ⟨Nat.le_of_ble_eq_true rfl, Nat.le_of_ble_eq_true rfl⟩ rfl hl.1 rfl (Nat.le_of_ble_eq_true rfl) ⟨Nat.le_of_ble_eq_true rfl, Nat.le_of_ble_eq_true rfl⟩ dX5_hang_28 (fun v28 R' H locs hp hO hS => ?_)
    obtain ⟨rfl, hR⟩ := hp
    rw [hR] at hO
    refine lv_istore (lv' := [(4, .int (m_at nf F h)), (3, .ref (ad (100 + i))), (0, .ref (ad 0)), (1, .int (nI i)), (2, .int h)]) hx hb dX5_hang_31 hl (by decide) rfl (fun ls hl => ?_)
    refine lv_iload hx hb dX5_hang_33 (lv_at hl 0 rfl) ?_
    refine lv_if_lt (tgt := 54) hx hb dX5_hang_35 (by decide) (fun c35 => ?_) (fun c35 => ?_)
    · refine lv_aload_n hx hb dX5_hang_54 rfl (lv_at hl 1 rfl) ?_
      refine m_get inX0 hF hC hO (WC_F (i := i) (by assumption) hnf) rfl 5 (by decide) q_84 (v := .int ((F i) 5)) rfl dX5_hang_55 ?_
      refine lv_istore (lv' := [(5, .int ((F i) 5)), (4, .int (m_at nf F h)), (3, .ref (ad (100 + i))), (0, .ref (ad 0)), (1, .int (nI i)), (2, .int h)]) hx hb dX5_hang_58 hl (by decide) rfl (fun ls hl => ?_)
      refine lv_aload_n hx hb dX5_hang_60 rfl (lv_at hl 2 rfl) ?_
      refine lv_iload_n hx hb dX5_hang_61 rfl (lv_at hl 5 rfl) ?_
      refine m_put (ty := .int) tyX0 tyX0_ok nmX0 inX0 hF hC hO hS (WC_F (i := i) (by assumption) hnf) rfl 5 (by decide) q_84 rfl (by decide +kernel) rfl rfl (fs' := [.int ((F i) 0), .int ((F i) 1), .int ((F i) 2), .int ((F i) 3), .int ((F i) 4), .int h, .int ((F i) 6)]) (Nat.le_of_ble_eq_true rfl) rfl dX5_hang_62 (fun H locs hO hS => ?_)
      have hO : mO G lo ad (mU (WC G ad g nf F f no O tf tv fw R) (100 + i) (frO (upd (F i) 5 h))) H := hO
      rw [WC_wF (by assumption) hnf] at hO
      refine lv_iload hx hb dX5_hang_65 (lv_at hl 0 rfl) ?_
      refine m_iret hF hr hlk hQ rfl hO hS dX5_hang_67 ?_
      exact ⟨rfl, rfl⟩
    · refine lv_iload hx hb dX5_hang_38 (lv_at hl 0 rfl) ?_
      refine lv_iload_n hx hb dX5_hang_40 rfl (lv_at hl 3 rfl) ?_
      refine lv_icmp_eq (tgt := 54) hx hb dX5_hang_41 (by decide) (fun c41 => ?_) (fun c41 => ?_)
      · refine lv_aload_n hx hb dX5_hang_54 rfl (lv_at hl 1 rfl) ?_
        refine m_get inX0 hF hC hO (WC_F (i := i) (by assumption) hnf) rfl 5 (by decide) q_84 (v := .int ((F i) 5)) rfl dX5_hang_55 ?_
        refine lv_istore (lv' := [(5, .int ((F i) 5)), (4, .int (m_at nf F h)), (3, .ref (ad (100 + i))), (0, .ref (ad 0)), (1, .int (nI i)), (2, .int h)]) hx hb dX5_hang_58 hl (by decide) rfl (fun ls hl => ?_)
        refine lv_aload_n hx hb dX5_hang_60 rfl (lv_at hl 2 rfl) ?_
        refine lv_iload_n hx hb dX5_hang_61 rfl (lv_at hl 5 rfl) ?_
        refine m_put (ty := .int) tyX0 tyX0_ok nmX0 inX0 hF hC hO hS (WC_F (i := i) (by assumption) hnf) rfl 5 (by decide) q_84 rfl (by decide +kernel) rfl rfl (fs' := [.int ((F i) 0), .int ((F i) 1), .int ((F i) 2), .int ((F i) 3), .int ((F i) 4), .int h, .int ((F i) 6)]) (Nat.le_of_ble_eq_true rfl) rfl dX5_hang_62 (fun H locs hO hS => ?_)
        have hO : mO G lo ad (mU (WC G ad g nf F f no O tf tv fw R) (100 + i) (frO (upd (F i) 5 h))) H := hO
        rw [WC_wF (by assumption) hnf] at hO
        refine lv_iload hx hb dX5_hang_65 (lv_at hl 0 rfl) ?_
        refine m_iret hF hr hlk hQ rfl hO hS dX5_hang_67 ?_
        exact ⟨rfl, rfl⟩
      · exact hm.elim (fun h9 => absurd (by rw [h9]; decide) c35) (fun h9 => absurd h9 c41)
  · exact absurd hin b10
theorem ok_X5_layAside : mOK RX5 yX5_layAside cX5_layAside 4 (some .int) 1 := ⟨q_612, q_613, q_1, q_614, by decide +kernel⟩
set_option maxHeartbeats 400000 in
set_option maxRecDepth 100000 in
theorem k_X5_layAside (l : Launch) (G : mG) (lo : Nat) (sa : mSc) (ad : Nat → Nat) (R : mM) (g : Nat → Int32) (nf : Nat) (F : Nat → Nat → Int32) (f : Nat → Int32) (no : Nat) (O : Nat → Nat → Int32) (tf tv fw : Nat → Int32) (i : Nat) (hnf : nf ≤ 12) (hno : no ≤ 20) (hi : i < nf) (hp : F i 5 ≠ -1) : mI l yX5_layAside cX5_layAside 4 .int 1 21 G lo sa ad (WC G ad g nf F f no O tf tv fw R) [.ref (ad 0), .int (nI i)] (fun v R' => v = F i 5 ∧ R' = (WC G ad g nf (va_up F i (upd (F i) 5 (-1))) f no O tf tv fw R)) := by
  refine mI_of (by decide) (Nat.le_of_ble_eq_true rfl) ?_
  intro p e s m args below meth c hF hr hlk hC ls hl hO hS Q hQ
  have hx := hF.1
  have hb := hF.2.1
  have hl : lv_has ls 4 [(0, .ref (ad 0)), (1, .int (nI i))] := hl
  refine lv_aload_n hx hb dX5_layAside_0 rfl (lv_at hl 0 rfl) ?_
  refine lv_iload_n hx hb dX5_layAside_1 rfl (lv_at hl 1 rfl) ?_
  refine m_vR (As := [.int (nI i)]) (rest := []) (n := 1) hF hC hO hS (k_X5_frameAt l G lo sa ad R g nf F f no O tf tv fw i hnf hno (by omega)) ok_X5_frameAt q_219 rfl rfl ⟨Nat.le_of_ble_eq_true rfl, Nat.le_of_ble_eq_true rfl⟩ rfl hl.1 rfl (Nat.le_of_ble_eq_true rfl) ⟨Nat.le_of_ble_eq_true rfl, Nat.le_of_ble_eq_true rfl⟩ dX5_layAside_2 (fun H locs hO hS => ?_)
  refine lv_astore_n (lv' := [(2, .ref (ad (100 + i))), (0, .ref (ad 0)), (1, .int (nI i))]) hx hb dX5_layAside_5 rfl hl (by decide) rfl (fun ls hl => ?_)
  refine lv_aload_n hx hb dX5_layAside_6 rfl (lv_at hl 0 rfl) ?_
  refine m_vI (As := []) (rest := []) (n := 0) hF hC hO hS (k_X0_hangs l G lo sa ad _ (100 + i) (F i) (WC_F (i := i) (by assumption) hnf)) ok_X0_hangs q_395 (WC_F (i := i) (by assumption) hnf) rfl ⟨Nat.le_of_ble_eq_true rfl, Nat.le_of_ble_eq_true rfl⟩ rfl hl.1 rfl (Nat.le_of_ble_eq_true rfl) ⟨Nat.le_of_ble_eq_true rfl, Nat.le_of_ble_eq_true rfl⟩ dX5_layAside_7 (fun v7 R' H locs hp hO hS => ?_)
  obtain ⟨⟨rfl, b7⟩ | ⟨rfl, b7⟩, hR⟩ := hp
  · rw [hR] at hO
    refine lv_if_ne (tgt := 23) hx hb dX5_layAside_10 (by decide) (fun c10 => ?_) (fun c10 => absurd c10 (by decide))
    refine lv_aload_n hx hb dX5_layAside_23 rfl (lv_at hl 0 rfl) ?_
    refine m_get inX0 hF hC hO (WC_F (i := i) (by assumption) hnf) rfl 5 (by decide) q_84 (v := .int ((F i) 5)) rfl dX5_layAside_24 ?_
    refine lv_istore_n (lv' := [(3, .int ((F i) 5)), (2, .ref (ad (100 + i))), (0, .ref (ad 0)), (1, .int (nI i))]) hx hb dX5_layAside_27 rfl hl (by decide) rfl (fun ls hl => ?_)
    refine lv_aload_n hx hb dX5_layAside_28 rfl (lv_at hl 1 rfl) ?_
    refine lv_iconst (v := -1) hx hb dX5_layAside_29 (by decide) ?_
    refine m_put (ty := .int) tyX0 tyX0_ok nmX0 inX0 hF hC hO hS (WC_F (i := i) (by assumption) hnf) rfl 5 (by decide) q_84 rfl (by decide +kernel) rfl rfl (fs' := [.int ((F i) 0), .int ((F i) 1), .int ((F i) 2), .int ((F i) 3), .int ((F i) 4), .int (-1), .int ((F i) 6)]) (Nat.le_of_ble_eq_true rfl) rfl dX5_layAside_30 (fun H locs hO hS => ?_)
    have hO : mO G lo ad (mU (WC G ad g nf F f no O tf tv fw R) (100 + i) (frO (upd (F i) 5 (-1)))) H := hO
    rw [WC_wF (by assumption) hnf] at hO
    refine lv_iload_n hx hb dX5_layAside_33 rfl (lv_at hl 0 rfl) ?_
    refine m_iret hF hr hlk hQ rfl hO hS dX5_layAside_34 ?_
    exact ⟨rfl, rfl⟩
  · exact absurd hp b7
theorem ok_X5_dip : mOK RX5 yX5_dip cX5_dip 3 (some .int) 1 := ⟨q_216, q_217, q_1, q_218, by decide +kernel⟩
set_option maxHeartbeats 400000 in
set_option maxRecDepth 100000 in
theorem k_X5_dip (l : Launch) (G : mG) (lo : Nat) (sa : mSc) (ad : Nat → Nat) (R : mM) (g : Nat → Int32) (nf : Nat) (F : Nat → Nat → Int32) (f : Nat → Int32) (no : Nat) (O : Nat → Nat → Int32) (tf tv fw : Nat → Int32) (i qn : Nat) (hnf : nf ≤ 12) (hno : no ≤ 20) (hi : i < nf) (hc : p_can (F i) g) (hq : g 3 = nI qn) (hqn : qn < 1000000) : mI l yX5_dip cX5_dip 3 .int 4 86 G lo sa ad (WC G ad g nf F f no O tf tv fw R) [.ref (ad 0), .int (nI i)] (fun v R' => v = p_dipF (F i) (g 1) 2 ∧ R' = (WC G ad (m_qG (upd (p_dipV (F i) g) 4 (p_dipV (F i) g 4 + 1))) nf (m_coolTo nf i (va_up F i (p_dipF (F i) (g 1)))) f no (m_qO no (upd (p_dipV (F i) g) 4 (p_dipV (F i) g 4 + 1)) O) tf tv fw R)) := by
  refine mI_of (by decide) (Nat.le_of_ble_eq_true rfl) ?_
  intro p e s m args below meth c hF hr hlk hC ls hl hO hS Q hQ
  have hx := hF.1
  have hb := hF.2.1
  have hl : lv_has ls 3 [(0, .ref (ad 0)), (1, .int (nI i))] := hl
  refine lv_aload_n hx hb dX5_dip_0 rfl (lv_at hl 0 rfl) ?_
  refine lv_iload_n hx hb dX5_dip_1 rfl (lv_at hl 1 rfl) ?_
  refine m_vR (As := [.int (nI i)]) (rest := []) (n := 1) hF hC hO hS (k_X5_frameAt l G lo sa ad R g nf F f no O tf tv fw i hnf hno (by omega)) ok_X5_frameAt q_219 rfl rfl ⟨Nat.le_of_ble_eq_true rfl, Nat.le_of_ble_eq_true rfl⟩ rfl hl.1 rfl (Nat.le_of_ble_eq_true rfl) ⟨Nat.le_of_ble_eq_true rfl, Nat.le_of_ble_eq_true rfl⟩ dX5_dip_2 (fun H locs hO hS => ?_)
  refine lv_astore_n (lv' := [(2, .ref (ad (100 + i))), (0, .ref (ad 0)), (1, .int (nI i))]) hx hb dX5_dip_5 rfl hl (by decide) rfl (fun ls hl => ?_)
  refine lv_aload_n hx hb dX5_dip_6 rfl (lv_at hl 0 rfl) ?_
  refine lv_aload_n hx hb dX5_dip_7 rfl (lv_at hl 1 rfl) ?_
  refine m_get inX5 hF hC hO rfl rfl 0 (by decide) q_111 (v := .ref (ad 1)) rfl dX5_dip_8 ?_
  refine m_vI (As := [.ref (ad 1)]) (rest := []) (n := 1) hF hC hO hS (k_X0_canBeDipped l G lo sa ad _ (100 + i) 1 (F i) g (WC_F (i := i) (by assumption) hnf) rfl (by omega : (100 + i) ≠ 1)) ok_X0_canBeDipped q_224 (WC_F (i := i) (by assumption) hnf) rfl ⟨Nat.le_of_ble_eq_true rfl, Nat.le_of_ble_eq_true rfl⟩ rfl hl.1 rfl (Nat.le_of_ble_eq_true rfl) ⟨Nat.le_of_ble_eq_true rfl, Nat.le_of_ble_eq_true rfl⟩ dX5_dip_11 (fun v11 R' H locs hp hO hS => ?_)
  obtain ⟨⟨rfl, b11⟩ | ⟨rfl, b11⟩, hR⟩ := hp
  · rw [hR] at hO
    refine lv_if_ne (tgt := 27) hx hb dX5_dip_14 (by decide) (fun c14 => ?_) (fun c14 => absurd c14 (by decide))
    refine lv_aload_n hx hb dX5_dip_27 rfl (lv_at hl 0 rfl) ?_
    refine lv_aload_n hx hb dX5_dip_28 rfl (lv_at hl 1 rfl) ?_
    refine m_get inX5 hF hC hO rfl rfl 0 (by decide) q_111 (v := .ref (ad 1)) rfl dX5_dip_29 ?_
    refine m_vV (As := [.ref (ad 1)]) (rest := []) (n := 1) hF hC hO hS (k_X0_immerse l G lo sa ad _ (100 + i) 1 (F i) g (WC_F (i := i) (by assumption) hnf) rfl (by omega : (100 + i) ≠ 1)) ok_X0_immerse q_268 (WC_F (i := i) (by assumption) hnf) rfl ⟨Nat.le_of_ble_eq_true rfl, Nat.le_of_ble_eq_true rfl⟩ rfl hl.1 rfl (Nat.le_of_ble_eq_true rfl) ⟨Nat.le_of_ble_eq_true rfl, Nat.le_of_ble_eq_true rfl⟩ dX5_dip_32 (fun R' H locs hp hO hS => ?_)
    have hR := hp
    rw [hR] at hO
    have hO : mO G lo ad (mU (mU (WC G ad g nf F f no O tf tv fw R) (100 + i) (frO (p_dipF (F i) (g 1)))) 1 (vO (p_dipV (F i) g))) H := hO
    rw [WC_wF (by assumption) hnf] at hO
    rw [WC_w1 (by first | rfl | (unfold p_throwV; split <;> rfl) | (unfold p_dipV; split <;> rfl)) (by first | rfl | (unfold p_throwV; split <;> rfl) | (unfold p_dipV; split <;> rfl)) (by first | rfl | (unfold p_throwV; split <;> rfl) | (unfold p_dipV; split <;> rfl))] at hO
    refine lv_aload_n hx hb dX5_dip_35 rfl (lv_at hl 1 rfl) ?_
    refine lv_dup hx hb dX5_dip_36 rfl ?_
    refine m_get inX5 hF hC hO rfl rfl 7 (by decide) q_118 (v := .int ((p_dipV (F i) g) 4)) rfl dX5_dip_37 ?_
    refine lv_iconst (v := 1) hx hb dX5_dip_40 (by decide) ?_
    refine lv_iadd hx hb dX5_dip_41 ?_
    refine m_put (ty := .int) tyX5 tyX5_ok nmX5 inX5 hF hC hO hS rfl rfl 7 (by decide) q_118 rfl (by decide +kernel) rfl rfl (fs' := [.ref (ad 1), .ref (ad 2), .ref (ad 3), .ref (ad 5), .ref (ad 6), .ref (ad 9), .int ((p_dipV (F i) g) 3), .int (((p_dipV (F i) g) 4) + 1), .int ((p_dipV (F i) g) 5)]) (Nat.le_of_ble_eq_true rfl) rfl dX5_dip_42 (fun H locs hO hS => ?_)
    have hO : mO G lo ad (mU (WC G ad (p_dipV (F i) g) nf (va_up F i (p_dipF (F i) (g 1))) f no O tf tv fw R) 0 (xO ad (upd (p_dipV (F i) g) 4 (((p_dipV (F i) g) 4) + 1)))) H := hO
    rw [WC_w0 (by rfl) (by rfl) (by rfl)] at hO
    refine lv_aload_n hx hb dX5_dip_45 rfl (lv_at hl 1 rfl) ?_
    refine lv_aload_n hx hb dX5_dip_46 rfl (lv_at hl 0 rfl) ?_
    refine m_vV (As := [.ref (ad (100 + i))]) (rest := []) (n := 1) hF hC hO hS (k_X5_letQuarterGo l G lo sa ad R (upd (p_dipV (F i) g) 4 (((p_dipV (F i) g) 4) + 1)) nf (va_up F i (p_dipF (F i) (g 1))) f no O tf tv fw i qn hnf hno (by assumption) (by show p_dipV (F i) g 3 = nI qn; rw [p_dipV_3]; exact hq) hqn) ok_X5_letQuarterGo q_283 rfl rfl ⟨Nat.le_of_ble_eq_true rfl, Nat.le_of_ble_eq_true rfl⟩ rfl hl.1 rfl (Nat.le_of_ble_eq_true rfl) ⟨Nat.le_of_ble_eq_true rfl, Nat.le_of_ble_eq_true rfl⟩ dX5_dip_47 (fun R' H locs hp hO hS => ?_)
    have hR := hp
    rw [hR] at hO
    refine lv_aload_n hx hb dX5_dip_50 rfl (lv_at hl 0 rfl) ?_
    refine m_get inX0 hF hC hO (WC_F (i := i) (by assumption) hnf) rfl 2 (by decide) q_78 (v := .int (((m_coolTo nf i (va_up F i (p_dipF (F i) (g 1)))) i) 2)) rfl dX5_dip_51 ?_
    refine m_iret hF hr hlk hQ rfl hO hS dX5_dip_54 ?_
    exact ⟨by simp [m_coolTo, va_up], rfl⟩
  · exact absurd hc b11
theorem ok_X5_cutOff : mOK RX5 yX5_cutOff cX5_cutOff 4 (some .int) 1 := ⟨q_306, q_307, q_1, q_308, by decide +kernel⟩
set_option maxHeartbeats 400000 in
set_option maxRecDepth 100000 in
theorem k_X5_cutOff (l : Launch) (G : mG) (lo : Nat) (sa : mSc) (ad : Nat → Nat) (R : mM) (g : Nat → Int32) (nf : Nat) (F : Nat → Nat → Int32) (f : Nat → Int32) (no : Nat) (O : Nat → Nat → Int32) (tf tv fw : Nat → Int32) (i kk : Nat) (hnf : nf ≤ 12) (hno : no ≤ 20) (hi : i < nf) (hkk : kk < 4) (hk0 : F i 0 = nI kk) (hbr : F i 2 ≠ 0) (hw : ¬ 20 < F i 3) (hs0 : 0 ≤ p_size (F i)) : mI l yX5_cutOff cX5_cutOff 4 .int 3 66 G lo sa ad (WC G ad g nf F f no O tf tv fw R) [.ref (ad 0), .int (nI i)] (fun v R' => v = p_size (F i) ∧ R' = (WC G ad (CG_cut g (F i)) nf (va_up F i (p_renewF (F i))) (Cf_cut f (F i)) no O tf tv fw R)) := by
  refine mI_of (by decide) (Nat.le_of_ble_eq_true rfl) ?_
  intro p e s m args below meth c hF hr hlk hC ls hl hO hS Q hQ
  have hx := hF.1
  have hb := hF.2.1
  have hl : lv_has ls 4 [(0, .ref (ad 0)), (1, .int (nI i))] := hl
  refine lv_aload_n hx hb dX5_cutOff_0 rfl (lv_at hl 0 rfl) ?_
  refine lv_iload_n hx hb dX5_cutOff_1 rfl (lv_at hl 1 rfl) ?_
  refine m_vR (As := [.int (nI i)]) (rest := []) (n := 1) hF hC hO hS (k_X5_frameAt l G lo sa ad R g nf F f no O tf tv fw i hnf hno (by omega)) ok_X5_frameAt q_219 rfl rfl ⟨Nat.le_of_ble_eq_true rfl, Nat.le_of_ble_eq_true rfl⟩ rfl hl.1 rfl (Nat.le_of_ble_eq_true rfl) ⟨Nat.le_of_ble_eq_true rfl, Nat.le_of_ble_eq_true rfl⟩ dX5_cutOff_2 (fun H locs hO hS => ?_)
  refine lv_astore_n (lv' := [(2, .ref (ad (100 + i))), (0, .ref (ad 0)), (1, .int (nI i))]) hx hb dX5_cutOff_5 rfl hl (by decide) rfl (fun ls hl => ?_)
  refine lv_aload_n hx hb dX5_cutOff_6 rfl (lv_at hl 0 rfl) ?_
  refine m_vI (As := []) (rest := []) (n := 0) hF hC hO hS (k_X0_isBare l G lo sa ad _ (100 + i) (F i) (WC_F (i := i) (by assumption) hnf)) ok_X0_isBare q_309 (WC_F (i := i) (by assumption) hnf) rfl ⟨Nat.le_of_ble_eq_true rfl, Nat.le_of_ble_eq_true rfl⟩ rfl hl.1 rfl (Nat.le_of_ble_eq_true rfl) ⟨Nat.le_of_ble_eq_true rfl, Nat.le_of_ble_eq_true rfl⟩ dX5_cutOff_7 (fun v7 R' H locs hp hO hS => ?_)
  obtain ⟨⟨rfl, b7⟩ | ⟨rfl, b7⟩, hR⟩ := hp
  · exact absurd b7 hbr
  · rw [hR] at hO
    refine lv_if_ne (tgt := 20) hx hb dX5_cutOff_10 (by decide) (fun c10 => absurd (by decide) c10) (fun c10 => ?_)
    refine lv_aload_n hx hb dX5_cutOff_13 rfl (lv_at hl 0 rfl) ?_
    refine m_vI (As := []) (rest := []) (n := 0) hF hC hO hS (k_X0_isTooWarmToCut l G lo sa ad _ (100 + i) (F i) (WC_F (i := i) (by assumption) hnf)) ok_X0_isTooWarmToCut q_310 (WC_F (i := i) (by assumption) hnf) rfl ⟨Nat.le_of_ble_eq_true rfl, Nat.le_of_ble_eq_true rfl⟩ rfl hl.1 rfl (Nat.le_of_ble_eq_true rfl) ⟨Nat.le_of_ble_eq_true rfl, Nat.le_of_ble_eq_true rfl⟩ dX5_cutOff_14 (fun v14 R' H locs hp hO hS => ?_)
    obtain ⟨⟨rfl, b14⟩ | ⟨rfl, b14⟩, hR⟩ := hp
    · exact absurd b14 hw
    · rw [hR] at hO
      refine lv_if_eq (tgt := 30) hx hb dX5_cutOff_17 (by decide) (fun c17 => ?_) (fun c17 => absurd (by decide) c17)
      refine lv_aload_n hx hb dX5_cutOff_30 rfl (lv_at hl 0 rfl) ?_
      refine m_vI (As := []) (rest := []) (n := 0) hF hC hO hS (k_X0_size l G lo sa ad _ (100 + i) (F i) (WC_F (i := i) (by assumption) hnf)) ok_X0_size q_315 (WC_F (i := i) (by assumption) hnf) rfl ⟨Nat.le_of_ble_eq_true rfl, Nat.le_of_ble_eq_true rfl⟩ rfl hl.1 rfl (Nat.le_of_ble_eq_true rfl) ⟨Nat.le_of_ble_eq_true rfl, Nat.le_of_ble_eq_true rfl⟩ dX5_cutOff_31 (fun v31 R' H locs hp hO hS => ?_)
      obtain ⟨rfl, hR⟩ := hp
      rw [hR] at hO
      refine lv_istore_n (lv' := [(3, .int (p_size (F i))), (2, .ref (ad (100 + i))), (0, .ref (ad 0)), (1, .int (nI i))]) hx hb dX5_cutOff_34 rfl hl (by decide) rfl (fun ls hl => ?_)
      refine lv_iload_n hx hb dX5_cutOff_35 rfl (lv_at hl 0 rfl) ?_
      refine lv_if_ne (tgt := 70) hx hb dX5_cutOff_36 (by decide) (fun c36 => ?_) (fun c36 => ?_)
      · obtain ⟨zz, hz1, hz9, hzz⟩ := size_zz hs0 (show p_size (F i) ≠ 0 from c36)
        have hO := hO
        refine lv_aload_n hx hb dX5_cutOff_70 rfl (lv_at hl 2 rfl) ?_
        refine m_get inX5 hF hC hO rfl rfl 2 (by decide) q_113 (v := .ref (ad 3)) rfl dX5_cutOff_71 ?_
        refine lv_aload_n hx hb dX5_cutOff_74 rfl (lv_at hl 1 rfl) ?_
        refine m_get inX0 hF hC hO (WC_F (i := i) (by assumption) hnf) rfl 0 (by decide) q_73 (v := .int ((F i) 0)) rfl dX5_cutOff_75 ?_
        refine lv_iload_n hx hb dX5_cutOff_78 rfl (lv_at hl 0 rfl) ?_
        refine lv_aload_n hx hb dX5_cutOff_79 rfl (lv_at hl 1 rfl) ?_
        refine m_get inX0 hF hC hO (WC_F (i := i) (by assumption) hnf) rfl 1 (by decide) q_75 (v := .int ((F i) 1)) rfl dX5_cutOff_80 ?_
        rw [hk0, hzz]
        refine m_vV (As := [.int (nI kk), .int (nI zz), .int ((F i) 1)]) (rest := []) (n := 3) hF hC hO hS (k_X2_put l G lo sa ad _ f kk zz ((F i) 1) rfl rfl hkk hz1 hz9) ok_X2_put q_324 rfl rfl ⟨Nat.le_of_ble_eq_true rfl, Nat.le_of_ble_eq_true rfl⟩ rfl hl.1 rfl (Nat.le_of_ble_eq_true rfl) ⟨Nat.le_of_ble_eq_true rfl, Nat.le_of_ble_eq_true rfl⟩ dX5_cutOff_83 (fun R' H locs hp hO hS => ?_)
        have hR := hp
        rw [hR] at hO
        have hO : mO G lo ad (mU (WC G ad g nf F f no O tf tv fw R) 4 (.inl (G.2 0, 36, .inl (upd f (9 * kk + zz - 1) (f (9 * kk + zz - 1) + ((F i) 1)))))) H := hO
        rw [WC_w4] at hO
        refine lv_aload_n hx hb dX5_cutOff_86 rfl (lv_at hl 1 rfl) ?_
        refine m_vV (As := []) (rest := []) (n := 0) hF hC hO hS (k_X0_renewWicks l G lo sa ad _ (100 + i) (F i) (WC_F (i := i) (by assumption) hnf)) ok_X0_renewWicks q_334 (WC_F (i := i) (by assumption) hnf) rfl ⟨Nat.le_of_ble_eq_true rfl, Nat.le_of_ble_eq_true rfl⟩ rfl hl.1 rfl (Nat.le_of_ble_eq_true rfl) ⟨Nat.le_of_ble_eq_true rfl, Nat.le_of_ble_eq_true rfl⟩ dX5_cutOff_87 (fun R' H locs hp hO hS => ?_)
        have hR := hp
        rw [hR] at hO
        have hO : mO G lo ad (mU (WC G ad g nf F (upd f (9 * kk + zz - 1) (f (9 * kk + zz - 1) + ((F i) 1))) no O tf tv fw R) (100 + i) (frO (p_renewF (F i)))) H := hO
        rw [WC_wF (by assumption) hnf] at hO
        refine lv_iload_n hx hb dX5_cutOff_90 rfl (lv_at hl 0 rfl) ?_
        refine m_iret hF hr hlk hQ rfl hO hS dX5_cutOff_91 ?_
        exact ⟨rfl, by rw [CG_cut, Cf_cut, if_neg (show ¬ p_size (F i) = 0 from c36), if_neg (show ¬ p_size (F i) = 0 from c36), hk0, nn_nI (by omega), hzz, nn_nI (by omega)]⟩
      · refine lv_aload_n hx hb dX5_cutOff_39 rfl (lv_at hl 2 rfl) ?_
        refine lv_dup hx hb dX5_cutOff_40 rfl ?_
        refine m_get inX5 hF hC hO rfl rfl 8 (by decide) q_119 (v := .int (g 5)) rfl dX5_cutOff_41 ?_
        refine lv_aload_n hx hb dX5_cutOff_44 rfl (lv_at hl 1 rfl) ?_
        refine m_get inX0 hF hC hO (WC_F (i := i) (by assumption) hnf) rfl 1 (by decide) q_75 (v := .int ((F i) 1)) rfl dX5_cutOff_45 ?_
        refine lv_iadd hx hb dX5_cutOff_48 ?_
        refine m_put (ty := .int) tyX5 tyX5_ok nmX5 inX5 hF hC hO hS rfl rfl 8 (by decide) q_119 rfl (by decide +kernel) rfl rfl (fs' := [.ref (ad 1), .ref (ad 2), .ref (ad 3), .ref (ad 5), .ref (ad 6), .ref (ad 9), .int (g 3), .int (g 4), .int ((g 5) + ((F i) 1))]) (Nat.le_of_ble_eq_true rfl) rfl dX5_cutOff_49 (fun H locs hO hS => ?_)
        have hO : mO G lo ad (mU (WC G ad g nf F f no O tf tv fw R) 0 (xO ad (upd g 5 ((g 5) + ((F i) 1))))) H := hO
        rw [WC_w0 (by rfl) (by rfl) (by rfl)] at hO
        refine lv_aload_n hx hb dX5_cutOff_52 rfl (lv_at hl 2 rfl) ?_
        refine m_get inX5 hF hC hO rfl rfl 0 (by decide) q_111 (v := .ref (ad 1)) rfl dX5_cutOff_53 ?_
        refine lv_aload_n hx hb dX5_cutOff_56 rfl (lv_at hl 1 rfl) ?_
        refine lv_aload_n hx hb dX5_cutOff_57 rfl (lv_at hl 1 rfl) ?_
        refine m_get inX0 hF hC hO (WC_F (i := i) (by assumption) hnf) rfl 2 (by decide) q_78 (v := .int ((F i) 2)) rfl dX5_cutOff_58 ?_
        refine m_vI (As := [.int ((F i) 2)]) (rest := [.ref (ad 1)]) (n := 1) hF hC hO hS (k_X0_waxOf l G lo sa ad _ (100 + i) (F i) ((F i) 2) (WC_F (i := i) (by assumption) hnf)) ok_X0_waxOf q_319 (WC_F (i := i) (by assumption) hnf) rfl ⟨Nat.le_of_ble_eq_true rfl, Nat.le_of_ble_eq_true rfl⟩ rfl hl.1 rfl (Nat.le_of_ble_eq_true rfl) ⟨Nat.le_of_ble_eq_true rfl, Nat.le_of_ble_eq_true rfl⟩ dX5_cutOff_61 (fun v61 R' H locs hp hO hS => ?_)
        obtain ⟨rfl, hR⟩ := hp
        rw [hR] at hO
        refine m_vV (As := [.int (p_wax (F i) ((F i) 2))]) (rest := []) (n := 1) hF hC hO hS (k_X4_takeBack l G lo sa ad _ 1 (upd g 5 ((g 5) + ((F i) 1))) (p_wax (F i) ((F i) 2)) rfl) ok_X4_takeBack q_320 rfl rfl ⟨Nat.le_of_ble_eq_true rfl, Nat.le_of_ble_eq_true rfl⟩ rfl hl.1 rfl (Nat.le_of_ble_eq_true rfl) ⟨Nat.le_of_ble_eq_true rfl, Nat.le_of_ble_eq_true rfl⟩ dX5_cutOff_64 (fun R' H locs hp hO hS => ?_)
        have hR := hp
        rw [hR] at hO
        have hO : mO G lo ad (mU (WC G ad (upd g 5 ((g 5) + ((F i) 1))) nf F f no O tf tv fw R) 1 (vO (p_backV (upd g 5 ((g 5) + ((F i) 1))) (p_wax (F i) ((F i) 2))))) H := hO
        rw [WC_w1 (by first | rfl | (unfold p_throwV; split <;> rfl) | (unfold p_dipV; split <;> rfl)) (by first | rfl | (unfold p_throwV; split <;> rfl) | (unfold p_dipV; split <;> rfl)) (by first | rfl | (unfold p_throwV; split <;> rfl) | (unfold p_dipV; split <;> rfl))] at hO
        refine lv_goto (tgt := 86) hx hb dX5_cutOff_67 (by decide) ?_
        refine lv_aload_n hx hb dX5_cutOff_86 rfl (lv_at hl 1 rfl) ?_
        refine m_vV (As := []) (rest := []) (n := 0) hF hC hO hS (k_X0_renewWicks l G lo sa ad _ (100 + i) (F i) (WC_F (i := i) (by assumption) hnf)) ok_X0_renewWicks q_334 (WC_F (i := i) (by assumption) hnf) rfl ⟨Nat.le_of_ble_eq_true rfl, Nat.le_of_ble_eq_true rfl⟩ rfl hl.1 rfl (Nat.le_of_ble_eq_true rfl) ⟨Nat.le_of_ble_eq_true rfl, Nat.le_of_ble_eq_true rfl⟩ dX5_cutOff_87 (fun R' H locs hp hO hS => ?_)
        have hR := hp
        rw [hR] at hO
        have hO : mO G lo ad (mU (WC G ad (p_backV (upd g 5 ((g 5) + ((F i) 1))) (p_wax (F i) ((F i) 2))) nf F f no O tf tv fw R) (100 + i) (frO (p_renewF (F i)))) H := hO
        rw [WC_wF (by assumption) hnf] at hO
        refine lv_iload_n hx hb dX5_cutOff_90 rfl (lv_at hl 0 rfl) ?_
        refine m_iret hF hr hlk hQ rfl hO hS dX5_cutOff_91 ?_
        exact ⟨rfl, by rw [CG_cut, Cf_cut, if_pos (show p_size (F i) = 0 from c36), if_pos (show p_size (F i) = 0 from c36)]⟩
theorem ok_X5_hook : mOK RX5 yX5_hook cX5_hook 2 (some .int) 1 := ⟨q_344, q_345, q_1, q_346, by decide +kernel⟩
set_option maxHeartbeats 400000 in
set_option maxRecDepth 100000 in
theorem k_X5_hook (l : Launch) (G : mG) (lo : Nat) (sa : mSc) (ad : Nat → Nat) (R : mM) (g : Nat → Int32) (nf : Nat) (F : Nat → Nat → Int32) (f : Nat → Int32) (no : Nat) (O : Nat → Nat → Int32) (tf tv fw : Nat → Int32) (h : Int32) (hnf : nf ≤ 12) (hno : no ≤ 20) (hin : p_in h 0 11) : mI l yX5_hook cX5_hook 2 .int 1 22 G lo sa ad (WC G ad g nf F f no O tf tv fw R) [.ref (ad 0), .int h] (fun v R' => v = m_at nf F h ∧ R' = (WC G ad g nf F f no O tf tv fw R)) := by
  refine mI_of (by decide) (Nat.le_of_ble_eq_true rfl) ?_
  intro p e s m args below meth c hF hr hlk hC ls hl hO hS Q hQ
  have hx := hF.1
  have hb := hF.2.1
  have hl : lv_has ls 2 [(0, .ref (ad 0)), (1, .int h)] := hl
  refine lv_iload_n hx hb dX5_hook_0 rfl (lv_at hl 1 rfl) ?_
  refine lv_iconst (v := 0) hx hb dX5_hook_1 (by decide) ?_
  refine lv_bipush (v := 11) hx hb dX5_hook_2 (by decide) ?_
  refine m_sI (As := [.int h, .int 0, .int 11]) (rest := []) (n := 3) hF hC hO hS (k_X5_within l G lo sa ad _ h 0 11 ) ok_X5_within q_347 ⟨Nat.le_of_ble_eq_true rfl, Nat.le_of_ble_eq_true rfl⟩ rfl hl.1 rfl (Nat.le_of_ble_eq_true rfl) ⟨Nat.le_of_ble_eq_true rfl, Nat.le_of_ble_eq_true rfl⟩ dX5_hook_4 (fun v4 R' H locs hp hO hS => ?_)
  obtain ⟨⟨rfl, b4⟩ | ⟨rfl, b4⟩, hR⟩ := hp
  · rw [hR] at hO
    refine lv_if_ne (tgt := 20) hx hb dX5_hook_7 (by decide) (fun c7 => ?_) (fun c7 => absurd c7 (by decide))
    refine lv_aload_n hx hb dX5_hook_20 rfl (lv_at hl 0 rfl) ?_
    refine lv_iload_n hx hb dX5_hook_21 rfl (lv_at hl 1 rfl) ?_
    refine m_vI (As := [.int h]) (rest := []) (n := 1) hF hC hO hS (k_X5_frameOn l G lo sa ad R g nf F f no O tf tv fw h hnf hno) ok_X5_frameOn q_349 rfl rfl ⟨Nat.le_of_ble_eq_true rfl, Nat.le_of_ble_eq_true rfl⟩ rfl hl.1 rfl (Nat.le_of_ble_eq_true rfl) ⟨Nat.le_of_ble_eq_true rfl, Nat.le_of_ble_eq_true rfl⟩ dX5_hook_22 (fun v22 R' H locs hp hO hS => ?_)
    obtain ⟨rfl, hR⟩ := hp
    rw [hR] at hO
    refine m_iret hF hr hlk hQ rfl hO hS dX5_hook_25 ?_
    exact ⟨rfl, rfl⟩
  · exact absurd hin b4
theorem ok_X5_fill : mOK RX5 yX5_fill cX5_fill 3 (some .int) 1 := ⟨q_664, q_665, q_1, q_666, by decide +kernel⟩
set_option maxHeartbeats 400000 in
set_option maxRecDepth 100000 in
theorem k_X5_fill (l : Launch) (G : mG) (lo : Nat) (sa : mSc) (ad : Nat → Nat) (R : mM) (g : Nat → Int32) (nf : Nat) (F : Nat → Nat → Int32) (f : Nat → Int32) (no : Nat) (O : Nat → Nat → Int32) (tf tv fw : Nat → Int32) (i kk zz : Nat) (hnf : nf ≤ 12) (hno : no ≤ 20) (hi : i < no) (hk : kk < 4) (hz1 : 1 ≤ zz) (hz9 : zz ≤ 9) (hw0 : O i 0 = nI kk) (hw1 : O i 1 = nI zz) (hcf : O i 4 ≠ 1 ∧ O i 2 ≤ p_amountFrom f kk zz) : mI l yX5_fill cX5_fill 3 .int 5 110 G lo sa ad (WC G ad g nf F f no O tf tv fw R) [.ref (ad 0), .int (nI i)] (fun v R' => v = p_sum 36 (p_take f kk zz (O i 2)) 0 0 ∧ R' = (WC G ad g nf F (p_take f kk zz (O i 2)) no (va_up O i (upd (O i) 4 1)) tf tv fw R)) := by
  refine mI_of (by decide) (Nat.le_of_ble_eq_true rfl) ?_
  intro p e s m args below meth c hF hr hlk hC ls hl hO hS Q hQ
  have hx := hF.1
  have hb := hF.2.1
  have hl : lv_has ls 3 [(0, .ref (ad 0)), (1, .int (nI i))] := hl
  refine lv_aload_n hx hb dX5_fill_0 rfl (lv_at hl 0 rfl) ?_
  refine lv_iload_n hx hb dX5_fill_1 rfl (lv_at hl 1 rfl) ?_
  refine m_vR (As := [.int (nI i)]) (rest := []) (n := 1) hF hC hO hS (k_X5_orderAt l G lo sa ad R g nf F f no O tf tv fw i hnf hno (by omega)) ok_X5_orderAt q_667 rfl rfl ⟨Nat.le_of_ble_eq_true rfl, Nat.le_of_ble_eq_true rfl⟩ rfl hl.1 rfl (Nat.le_of_ble_eq_true rfl) ⟨Nat.le_of_ble_eq_true rfl, Nat.le_of_ble_eq_true rfl⟩ dX5_fill_2 (fun H locs hO hS => ?_)
  refine lv_astore_n (lv' := [(2, .ref (ad (120 + i))), (0, .ref (ad 0)), (1, .int (nI i))]) hx hb dX5_fill_5 rfl hl (by decide) rfl (fun ls hl => ?_)
  refine lv_aload_n hx hb dX5_fill_6 rfl (lv_at hl 0 rfl) ?_
  refine lv_aload_n hx hb dX5_fill_7 rfl (lv_at hl 1 rfl) ?_
  refine m_get inX5 hF hC hO rfl rfl 2 (by decide) q_113 (v := .ref (ad 3)) rfl dX5_fill_8 ?_
  refine m_vI (As := [.ref (ad 3)]) (rest := []) (n := 1) hF hC hO hS (k_X1_canBeFilled l G lo sa ad _ (120 + i) (O i) f kk zz (WC_O (i := i) (by assumption) hno) rfl rfl (by omega : (120 + i) ≠ 3) (by omega : (120 + i) ≠ 4) hk (by omega) (by omega) hw0 hw1) ok_X1_canBeFilled q_672 (WC_O (i := i) (by assumption) hno) rfl ⟨Nat.le_of_ble_eq_true rfl, Nat.le_of_ble_eq_true rfl⟩ rfl hl.1 rfl (Nat.le_of_ble_eq_true rfl) ⟨Nat.le_of_ble_eq_true rfl, Nat.le_of_ble_eq_true rfl⟩ dX5_fill_11 (fun v11 R' H locs hp hO hS => ?_)
  obtain ⟨⟨rfl, b11⟩ | ⟨rfl, b11⟩, hR⟩ := hp
  · rw [hR] at hO
    refine lv_if_ne (tgt := 27) hx hb dX5_fill_14 (by decide) (fun c14 => ?_) (fun c14 => absurd c14 (by decide))
    refine lv_aload_n hx hb dX5_fill_27 rfl (lv_at hl 1 rfl) ?_
    refine m_get inX5 hF hC hO rfl rfl 2 (by decide) q_113 (v := .ref (ad 3)) rfl dX5_fill_28 ?_
    refine lv_aload_n hx hb dX5_fill_31 rfl (lv_at hl 0 rfl) ?_
    refine m_get inX1 hF hC hO (WC_O (i := i) (by assumption) hno) rfl 0 (by decide) q_639 (v := .int ((O i) 0)) rfl dX5_fill_32 ?_
    refine lv_aload_n hx hb dX5_fill_35 rfl (lv_at hl 0 rfl) ?_
    refine m_get inX1 hF hC hO (WC_O (i := i) (by assumption) hno) rfl 1 (by decide) q_641 (v := .int ((O i) 1)) rfl dX5_fill_36 ?_
    refine lv_aload_n hx hb dX5_fill_39 rfl (lv_at hl 0 rfl) ?_
    refine m_get inX1 hF hC hO (WC_O (i := i) (by assumption) hno) rfl 2 (by decide) q_643 (v := .int ((O i) 2)) rfl dX5_fill_40 ?_
    rw [hw0, hw1]
    refine m_vV (As := [.int (nI kk), .int (nI zz), .int ((O i) 2)]) (rest := []) (n := 3) hF hC hO hS (k_X2_take l G lo sa ad _ f kk zz ((O i) 2) rfl rfl hk hz1 hz9) ok_X2_take q_678 rfl rfl ⟨Nat.le_of_ble_eq_true rfl, Nat.le_of_ble_eq_true rfl⟩ rfl hl.1 rfl (Nat.le_of_ble_eq_true rfl) ⟨Nat.le_of_ble_eq_true rfl, Nat.le_of_ble_eq_true rfl⟩ dX5_fill_43 (fun R' H locs hp hO hS => ?_)
    have hR := hp
    rw [hR] at hO
    have hO : mO G lo ad (mU (WC G ad g nf F f no O tf tv fw R) 4 (.inl (G.2 0, 36, .inl (p_take f kk zz ((O i) 2))))) H := hO
    rw [WC_w4] at hO
    refine lv_aload_n hx hb dX5_fill_46 rfl (lv_at hl 0 rfl) ?_
    refine lv_iconst (v := 1) hx hb dX5_fill_47 (by decide) ?_
    refine m_put (ty := .int) tyX1 tyX1_ok nmX1 inX1 hF hC hO hS (WC_O (i := i) (by assumption) hno) rfl 4 (by decide) q_647 rfl (by decide +kernel) rfl rfl (fs' := [.int ((O i) 0), .int ((O i) 1), .int ((O i) 2), .int ((O i) 3), .int 1]) (Nat.le_of_ble_eq_true rfl) rfl dX5_fill_48 (fun H locs hO hS => ?_)
    have hO : mO G lo ad (mU (WC G ad g nf F (p_take f kk zz ((O i) 2)) no O tf tv fw R) (120 + i) (orO (upd (O i) 4 1))) H := hO
    rw [WC_wO (by assumption) hno] at hO
    refine lv_aload_n hx hb dX5_fill_51 rfl (lv_at hl 1 rfl) ?_
    refine m_get inX5 hF hC hO rfl rfl 2 (by decide) q_113 (v := .ref (ad 3)) rfl dX5_fill_52 ?_
    refine m_vI (As := []) (rest := []) (n := 0) hF hC hO hS (k_X2_total l G lo sa ad _ (p_take f kk zz ((O i) 2)) rfl rfl) ok_X2_total q_396 rfl rfl ⟨Nat.le_of_ble_eq_true rfl, Nat.le_of_ble_eq_true rfl⟩ rfl hl.1 rfl (Nat.le_of_ble_eq_true rfl) ⟨Nat.le_of_ble_eq_true rfl, Nat.le_of_ble_eq_true rfl⟩ dX5_fill_55 (fun v55 R' H locs hp hO hS => ?_)
    obtain ⟨rfl, hR⟩ := hp
    rw [hR] at hO
    refine m_iret hF hr hlk hQ rfl hO hS dX5_fill_58 ?_
    exact ⟨rfl, rfl⟩
  · exact absurd hcf b11
theorem ok_X5_pass : mOK RX5 yX5_pass cX5_pass 3 (some .int) 1 := ⟨q_364, q_365, q_1, q_366, by decide +kernel⟩
set_option maxHeartbeats 400000 in
set_option maxRecDepth 100000 in
theorem k_X5_pass (l : Launch) (G : mG) (lo : Nat) (sa : mSc) (ad : Nat → Nat) (R : mM) (g : Nat → Int32) (nf : Nat) (F : Nat → Nat → Int32) (f : Nat → Int32) (no : Nat) (O : Nat → Nat → Int32) (tf tv fw : Nat → Int32) (N qn : Nat) (hnf : nf ≤ 12) (hno : no ≤ 20) (hN1 : 1 ≤ N) (hN4 : N ≤ 400) (hq : g 3 = nI qn) (hqn : qn < 900000) : mI l yX5_pass cX5_pass 3 .int 4 85 G lo sa ad (WC G ad g nf F f no O tf tv fw R) [.ref (ad 0), .int (nI N)] (fun v R' => v = m_pG N g 1 ∧ R' = (WC G ad (m_pG N g) nf (m_pF N nf 12 F) f no (m_pO N no g O) tf tv fw R)) := by
  refine mI_of (by decide) (Nat.le_of_ble_eq_true rfl) ?_
  intro p e s m args below meth c hF hr hlk hC ls hl hO hS Q hQ
  have hx := hF.1
  have hb := hF.2.1
  have hl : lv_has ls 3 [(0, .ref (ad 0)), (1, .int (nI N))] := hl
  refine lv_iload_n hx hb dX5_pass_0 rfl (lv_at hl 1 rfl) ?_
  refine lv_iconst (v := 1) hx hb dX5_pass_1 (by decide) ?_
  refine lv_sipush (v := 400) hx hb dX5_pass_2 (by decide) ?_
  refine m_sI (As := [.int (nI N), .int 1, .int 400]) (rest := []) (n := 3) hF hC hO hS (k_X5_within l G lo sa ad _ (nI N) 1 400 ) ok_X5_within q_347 ⟨Nat.le_of_ble_eq_true rfl, Nat.le_of_ble_eq_true rfl⟩ rfl hl.1 rfl (Nat.le_of_ble_eq_true rfl) ⟨Nat.le_of_ble_eq_true rfl, Nat.le_of_ble_eq_true rfl⟩ dX5_pass_5 (fun v5 R' H locs hp hO hS => ?_)
  obtain ⟨⟨rfl, b5⟩ | ⟨rfl, b5⟩, hR⟩ := hp
  · rw [hR] at hO
    refine lv_if_ne (tgt := 21) hx hb dX5_pass_8 (by decide) (fun c8 => ?_) (fun c8 => absurd c8 (by decide))
    refine lv_iconst (v := 0) hx hb dX5_pass_21 (by decide) ?_
    refine lv_istore_n (lv' := [(2, .int 0), (0, .ref (ad 0)), (1, .int (nI N))]) hx hb dX5_pass_22 rfl hl (by decide) rfl (fun ls hl => ?_)
    have L23 : ∀ (n : Nat) (j : Nat) (g9 : Nat → Int32) (F9 : Nat → Nat → Int32) (O9 : Nat → Nat → Int32) (H : Heap) (locs : List Loc) (ls : Array Slot), N - j < n → j ≤ N → m_pG (N - j) g9 = m_pG N g → m_pF (N - j) nf 12 F9 = m_pF N nf 12 F → m_pO (N - j) no g9 O9 = m_pO N no g O → g9 3 = nI (qn + j) → lv_has ls 3 [(0, .ref (ad 0)), (1, .int (nI N)), (2, .int (nI j))] → mO G lo ad (WC G ad g9 nf F9 f no O9 tf tv fw R) H → va_S (mA lo) s.heap H locs → W p l e (mRm 4 85) s m args below meth c H locs 0 0 Q (F0 m 23 ls []) := by
      intro n
      induction n with
      | zero => intro j g9 F9 O9 H locs ls hn; exact absurd hn (Nat.not_lt_zero _)
      | succ n ih23 =>
        intro j g9 F9 O9 H locs ls hn23 hj hvg hvF hvO hq9 hl hO hS
        refine lv_iload_n hx hb dX5_pass_23 rfl (lv_at hl 2 rfl) ?_
        refine lv_iload_n hx hb dX5_pass_24 rfl (lv_at hl 1 rfl) ?_
        refine lv_icmp_ge (tgt := 39) hx hb dX5_pass_25 (by decide) (fun c25 => ?_) (fun c25 => ?_)
        · refine lv_aload_n hx hb dX5_pass_39 rfl (lv_at hl 0 rfl) ?_
          refine m_get inX5 hF hC hO rfl rfl 0 (by decide) q_111 (v := .ref (ad 1)) rfl dX5_pass_40 ?_
          refine m_get inX4 hF hC hO rfl rfl 1 (by decide) q_34 (v := .int (g9 1)) rfl dX5_pass_43 ?_
          refine m_iret hF hr hlk hQ rfl hO hS dX5_pass_46 ?_
          have e9 : j = N := Nat.le_antisymm hj (nI_E (a := N) (b := j) (by omega) (by omega) c25)
          subst e9
          rw [Nat.sub_self] at hvg hvF hvO
          exact ⟨by rw [← hvg]; rfl, by rw [← hvg, ← hvF, ← hvO]; rfl⟩
        · refine lv_aload_n hx hb dX5_pass_28 rfl (lv_at hl 0 rfl) ?_
          refine lv_null hx hb dX5_pass_29 ?_
          refine m_vV (As := [.null]) (rest := []) (n := 1) hF hC hO hS (k_X5_letQuarterGo0 l G lo sa ad R g9 nf F9 f no O9 tf tv fw 12 (qn + j) hnf hno (by omega) hq9 (by omega)) ok_X5_letQuarterGo q_283 rfl rfl ⟨Nat.le_of_ble_eq_true rfl, Nat.le_of_ble_eq_true rfl⟩ rfl hl.1 rfl (Nat.le_of_ble_eq_true rfl) ⟨Nat.le_of_ble_eq_true rfl, Nat.le_of_ble_eq_true rfl⟩ dX5_pass_30 (fun R' H locs hp hO hS => ?_)
          have hR := hp
          rw [hR] at hO
          refine lv_iinc (v := (nI (j + 1))) (lv' := [(2, .int (nI (j + 1))), (0, .ref (ad 0)), (1, .int (nI N))]) hx hb dX5_pass_33 hl (k := 2) rfl (nI_inc j) (by decide) rfl (fun ls hl => ?_)
          refine lv_goto (tgt := 23) hx hb dX5_pass_36 (by decide) ?_
          exact ih23 (j + 1) (m_qG g9) (m_coolTo nf 12 F9) (m_qO no g9 O9) _ _ _ (by have := (nI_nE (a := N) (b := j) (by omega) (by omega) c25); omega) (by have := (nI_nE (a := N) (b := j) (by omega) (by omega) c25); omega) (by have := (nI_nE (a := N) (b := j) (by omega) (by omega) c25); rw [← hvg, show N - j = (N - (j + 1)) + 1 from by omega]; rfl) (by have := (nI_nE (a := N) (b := j) (by omega) (by omega) c25); rw [← hvF, show N - j = (N - (j + 1)) + 1 from by omega]; rfl) (by have := (nI_nE (a := N) (b := j) (by omega) (by omega) c25); rw [← hvO, show N - j = (N - (j + 1)) + 1 from by omega]; rfl) (by show g9 3 + 1 = _; rw [hq9]; exact nI_1 _) (lv_sub hl [1, 2, 0] rfl) hO hS
    exact L23 _ 0 g F O _ _ _ (Nat.lt_succ_self _) (by omega) rfl rfl rfl hq (lv_sub hl [1, 2, 0] rfl) hO hS
  · exact absurd (p_in_nI (a := 1) (x := N) (b := 400) hN1 hN4 (by decide)) b5
theorem ok_X5_would : mOK RX5 yX5_would cX5_would 4 (some .int) 2 := ⟨q_410, q_411, q_1, q_412, by decide +kernel⟩
set_option maxHeartbeats 400000 in
set_option maxRecDepth 100000 in
theorem k_X5_would (l : Launch) (G : mG) (lo : Nat) (sa : mSc) (ad : Nat → Nat) (R : mM) (g : Nat → Int32) (nf : Nat) (F : Nat → Nat → Int32) (f : Nat → Int32) (no : Nat) (O : Nat → Nat → Int32) (tf tv fw : Nat → Int32) (i N : Nat) (hnf : nf ≤ 12) (hno : no ≤ 20) (hi : i < nf) (hp : F i 5 ≠ -1) (hcr : F i 4 = 0 ∨ F i 4 = 1) (hN1 : 1 ≤ N) (hN4 : N ≤ 40) : mI l yX5_would cX5_would 4 .int 6 130 G lo sa ad (WC G ad g nf F f no O tf tv fw R) [.ref (ad 0), .int (nI i), .int (nI N)] (fun v R' => v = p_try N (F i) g ∧ ∃ (φ' : Nat → Int32), ∃ (ν' : Nat → Int32), R' = (WC G ad g nf F f no O φ' ν' fw R)) := by
  refine mI_of (by decide) (Nat.le_of_ble_eq_true rfl) ?_
  intro p e s m args below meth c hF hr hlk hC ls hl hO hS Q hQ
  have hx := hF.1
  have hb := hF.2.1
  have hl : lv_has ls 4 [(0, .ref (ad 0)), (1, .int (nI i)), (2, .int (nI N))] := hl
  refine lv_aload_n hx hb dX5_would_0 rfl (lv_at hl 0 rfl) ?_
  refine lv_iload_n hx hb dX5_would_1 rfl (lv_at hl 1 rfl) ?_
  refine m_vR (As := [.int (nI i)]) (rest := []) (n := 1) hF hC hO hS (k_X5_frameAt l G lo sa ad R g nf F f no O tf tv fw i hnf hno (by omega)) ok_X5_frameAt q_219 rfl rfl ⟨Nat.le_of_ble_eq_true rfl, Nat.le_of_ble_eq_true rfl⟩ rfl hl.1 rfl (Nat.le_of_ble_eq_true rfl) ⟨Nat.le_of_ble_eq_true rfl, Nat.le_of_ble_eq_true rfl⟩ dX5_would_2 (fun H locs hO hS => ?_)
  refine lv_astore_n (lv' := [(3, .ref (ad (100 + i))), (0, .ref (ad 0)), (1, .int (nI i)), (2, .int (nI N))]) hx hb dX5_would_5 rfl hl (by decide) rfl (fun ls hl => ?_)
  refine lv_iload_n hx hb dX5_would_6 rfl (lv_at hl 3 rfl) ?_
  refine lv_iconst (v := 1) hx hb dX5_would_7 (by decide) ?_
  refine lv_bipush (v := 40) hx hb dX5_would_8 (by decide) ?_
  refine m_sI (As := [.int (nI N), .int 1, .int 40]) (rest := []) (n := 3) hF hC hO hS (k_X5_within l G lo sa ad _ (nI N) 1 40 ) ok_X5_within q_347 ⟨Nat.le_of_ble_eq_true rfl, Nat.le_of_ble_eq_true rfl⟩ rfl hl.1 rfl (Nat.le_of_ble_eq_true rfl) ⟨Nat.le_of_ble_eq_true rfl, Nat.le_of_ble_eq_true rfl⟩ dX5_would_10 (fun v10 R' H locs hp hO hS => ?_)
  obtain ⟨⟨rfl, b10⟩ | ⟨rfl, b10⟩, hR⟩ := hp
  · rw [hR] at hO
    refine lv_if_ne (tgt := 26) hx hb dX5_would_13 (by decide) (fun c13 => ?_) (fun c13 => absurd c13 (by decide))
    refine lv_aload_n hx hb dX5_would_26 rfl (lv_at hl 0 rfl) ?_
    refine m_vI (As := []) (rest := []) (n := 0) hF hC hO hS (k_X0_hangs l G lo sa ad _ (100 + i) (F i) (WC_F (i := i) (by assumption) hnf)) ok_X0_hangs q_395 (WC_F (i := i) (by assumption) hnf) rfl ⟨Nat.le_of_ble_eq_true rfl, Nat.le_of_ble_eq_true rfl⟩ rfl hl.1 rfl (Nat.le_of_ble_eq_true rfl) ⟨Nat.le_of_ble_eq_true rfl, Nat.le_of_ble_eq_true rfl⟩ dX5_would_27 (fun v27 R' H locs hp hO hS => ?_)
    obtain ⟨⟨rfl, b27⟩ | ⟨rfl, b27⟩, hR⟩ := hp
    · rw [hR] at hO
      refine lv_if_ne (tgt := 43) hx hb dX5_would_30 (by decide) (fun c30 => ?_) (fun c30 => absurd c30 (by decide))
      refine lv_aload_n hx hb dX5_would_43 rfl (lv_at hl 1 rfl) ?_
      refine m_get inX5 hF hC hO rfl rfl 4 (by decide) q_115 (v := .ref (ad 6)) rfl dX5_would_44 ?_
      refine lv_aload_n hx hb dX5_would_47 rfl (lv_at hl 0 rfl) ?_
      refine lv_aload_n hx hb dX5_would_48 rfl (lv_at hl 1 rfl) ?_
      refine m_get inX5 hF hC hO rfl rfl 0 (by decide) q_111 (v := .ref (ad 1)) rfl dX5_would_49 ?_
      refine lv_iload_n hx hb dX5_would_52 rfl (lv_at hl 3 rfl) ?_
      refine m_vI (As := [.ref (ad (100 + i)), .ref (ad 1), .int (nI N)]) (rest := []) (n := 3) hF hC hO hS (k_X3_thicknessAfter l G lo sa ad _ (100 + i) 1 tf tv (F i) g N rfl rfl rfl (WC_F (i := i) (by assumption) hnf) rfl (by omega : (100 + i) ≠ 1) (by omega : 6 ≠ (100 + i)) (by omega : 7 ≠ (100 + i)) (by omega : 8 ≠ (100 + i)) (by decide : (6 : Nat) ≠ 1) (by decide : (7 : Nat) ≠ 1) (by decide : (8 : Nat) ≠ 1) hcr (by omega)) ok_X3_thicknessAfter q_415 rfl rfl ⟨Nat.le_of_ble_eq_true rfl, Nat.le_of_ble_eq_true rfl⟩ rfl hl.1 rfl (Nat.le_of_ble_eq_true rfl) ⟨Nat.le_of_ble_eq_true rfl, Nat.le_of_ble_eq_true rfl⟩ dX5_would_53 (fun v53 R' H locs hp hO hS => ?_)
      obtain ⟨rfl, φ_53, ν_53, hR⟩ := hp
      rw [hR] at hO
      have hO : mO G lo ad (mU (mU (WC G ad g nf F f no O tf tv fw R) 7 (frO φ_53)) 8 (vO ν_53)) H := hO
      rw [WC_w7] at hO
      rw [WC_w8] at hO
      refine m_iret hF hr hlk hQ rfl hO hS dX5_would_56 ?_
      exact ⟨rfl, _, _, rfl⟩
    · exact absurd hp b27
  · exact absurd (p_in_nI (a := 1) (x := N) (b := 40) hN1 hN4 (by decide)) b10
