theorem ok_X1_isOpenFor : mOK RX1 yX1_isOpenFor cX1_isOpenFor 3 (some .boolean) 2 := ⟨q_457, q_458, q_15, q_459, by decide +kernel⟩
set_option maxHeartbeats 400000 in
set_option maxRecDepth 100000 in
theorem k_X1_isOpenFor (l : Launch) (G : mG) (lo : Nat) (sa : mSc) (ad : Nat → Nat) (R : mM) (r : Nat) (ω : Nat → Int32) (k z : Int32) (h0 : R r = some (orO ω)) : mI l yX1_isOpenFor cX1_isOpenFor 3 .boolean 0 0 G lo sa ad R [.ref (ad r), .int k, .int z] (fun v R' => mBo (ω 4 = 0 ∧ ω 0 = k ∧ ω 1 = z) v ∧ R' = R) := by
  refine mI_of (by decide) (Nat.le_of_ble_eq_true rfl) ?_
  intro p e s m args below meth c hF hr hlk hC ls hl hO hS Q hQ
  have hx := hF.1
  have hb := hF.2.1
  have hl : lv_has ls 3 [(0, .ref (ad r)), (1, .int k), (2, .int z)] := hl
  have hO : mO G lo ad (mU R r (orO ω)) s.heap := by
    rw [mU_id h0]
    exact hO
  refine lv_aload_n hx hb dX1_isOpenFor_0 rfl (lv_at hl 0 rfl) ?_
  refine m_get inX1 hF hC hO (mU_self) rfl 4 (by decide) q_646 (v := .int (ω 4)) rfl dX1_isOpenFor_1 ?_
  refine lv_if_ne (tgt := 27) hx hb dX1_isOpenFor_4 (by decide) (fun c4 => ?_) (fun c4 => ?_)
  · refine lv_iconst (v := 0) hx hb dX1_isOpenFor_27 (by decide) ?_
    rw [mU_id (show R r = some (orO ω) from h0)] at hO
    refine m_iret hF hr hlk hQ rfl hO hS dX1_isOpenFor_28 ?_
    first | exact ⟨mBo_f (fun h => c20 h.2.2), rfl⟩ | exact ⟨mBo_f (fun h => c12 h.2.1), rfl⟩ | exact ⟨mBo_f (fun h => c4 h.1), rfl⟩
  · refine lv_aload_n hx hb dX1_isOpenFor_7 rfl (lv_at hl 0 rfl) ?_
    refine m_get inX1 hF hC hO (mU_self) rfl 0 (by decide) q_638 (v := .int (ω 0)) rfl dX1_isOpenFor_8 ?_
    refine lv_iload_n hx hb dX1_isOpenFor_11 rfl (lv_at hl 1 rfl) ?_
    refine lv_icmp_ne (tgt := 27) hx hb dX1_isOpenFor_12 (by decide) (fun c12 => ?_) (fun c12 => ?_)
    · refine lv_iconst (v := 0) hx hb dX1_isOpenFor_27 (by decide) ?_
      rw [mU_id (show R r = some (orO ω) from h0)] at hO
      refine m_iret hF hr hlk hQ rfl hO hS dX1_isOpenFor_28 ?_
      first | exact ⟨mBo_f (fun h => c20 h.2.2), rfl⟩ | exact ⟨mBo_f (fun h => c12 h.2.1), rfl⟩ | exact ⟨mBo_f (fun h => c4 h.1), rfl⟩
    · refine lv_aload_n hx hb dX1_isOpenFor_15 rfl (lv_at hl 0 rfl) ?_
      refine m_get inX1 hF hC hO (mU_self) rfl 1 (by decide) q_640 (v := .int (ω 1)) rfl dX1_isOpenFor_16 ?_
      refine lv_iload_n hx hb dX1_isOpenFor_19 rfl (lv_at hl 2 rfl) ?_
      refine lv_icmp_ne (tgt := 27) hx hb dX1_isOpenFor_20 (by decide) (fun c20 => ?_) (fun c20 => ?_)
      · refine lv_iconst (v := 0) hx hb dX1_isOpenFor_27 (by decide) ?_
        rw [mU_id (show R r = some (orO ω) from h0)] at hO
        refine m_iret hF hr hlk hQ rfl hO hS dX1_isOpenFor_28 ?_
        first | exact ⟨mBo_f (fun h => c20 h.2.2), rfl⟩ | exact ⟨mBo_f (fun h => c12 h.2.1), rfl⟩ | exact ⟨mBo_f (fun h => c4 h.1), rfl⟩
      · refine lv_iconst (v := 1) hx hb dX1_isOpenFor_23 (by decide) ?_
        refine lv_goto (tgt := 28) hx hb dX1_isOpenFor_24 (by decide) ?_
        rw [mU_id (show R r = some (orO ω) from h0)] at hO
        refine m_iret hF hr hlk hQ rfl hO hS dX1_isOpenFor_28 ?_
        exact ⟨mBo_t ⟨c4, c12, c20⟩, rfl⟩
theorem ok_X1_canBeFilled : mOK RX1 yX1_canBeFilled cX1_canBeFilled 2 (some .boolean) 1 := ⟨q_673, q_674, q_15, q_675, by decide +kernel⟩
set_option maxHeartbeats 400000 in
set_option maxRecDepth 100000 in
theorem k_X1_canBeFilled (l : Launch) (G : mG) (lo : Nat) (sa : mSc) (ad : Nat → Nat) (R : mM) (r : Nat) (ω : Nat → Int32) (f : Nat → Int32) (k z : Nat) (h0 : R r = some (orO ω)) (h1 : R 3 = some (.inr (2, [.ref (ad 4)]))) (h2 : R 4 = some (.inl (G.2 0, 36, .inl f))) (hr3 : r ≠ 3) (hr4 : r ≠ 4) (hk : k < 4) (hz1 : 1 ≤ z) (hz9 : z ≤ 9) (hw0 : ω 0 = nI k) (hw1 : ω 1 = nI z) : mI l yX1_canBeFilled cX1_canBeFilled 2 .boolean 4 89 G lo sa ad R [.ref (ad r), .ref (ad 3)] (fun v R' => mBo (ω 4 ≠ 1 ∧ ω 2 ≤ p_amountFrom f k z) v ∧ R' = R) := by
  refine mI_of (by decide) (Nat.le_of_ble_eq_true rfl) ?_
  intro p e s m args below meth c hF hr hlk hC ls hl hO hS Q hQ
  have hx := hF.1
  have hb := hF.2.1
  have hl : lv_has ls 2 [(0, .ref (ad r)), (1, .ref (ad 3))] := hl
  have hO : mO G lo ad (mU (mU (mU R r (orO ω)) 3 (.inr (2, [.ref (ad 4)]))) 4 (.inl (G.2 0, 36, .inl f))) s.heap := by
    rw [mU_id h0, mU_id h1, mU_id h2]
    exact hO
  refine lv_aload_n hx hb dX1_canBeFilled_0 rfl (lv_at hl 0 rfl) ?_
  refine m_get inX1 hF hC hO ((mU_ne hr4).trans ((mU_ne hr3).trans (mU_self))) rfl 4 (by decide) q_646 (v := .int (ω 4)) rfl dX1_canBeFilled_1 ?_
  refine lv_iconst (v := 1) hx hb dX1_canBeFilled_4 (by decide) ?_
  refine lv_icmp_eq (tgt := 31) hx hb dX1_canBeFilled_5 (by decide) (fun c5 => ?_) (fun c5 => ?_)
  · refine lv_iconst (v := 0) hx hb dX1_canBeFilled_31 (by decide) ?_
    rw [mU_id (show R r = some (orO ω) from h0)] at hO
    rw [mU_id (show R 3 = some (.inr (2, [.ref (ad 4)])) from h1)] at hO
    rw [mU_id (show R 4 = some (.inl (G.2 0, 36, .inl f)) from h2)] at hO
    refine m_iret hF hr hlk hQ rfl hO hS dX1_canBeFilled_32 ?_
    first | exact ⟨mBo_f (fun h => absurd h.2 (Int32.not_le.mpr c24)), rfl⟩ | exact ⟨mBo_f (fun h => h.1 c5), rfl⟩
  · refine lv_aload_n hx hb dX1_canBeFilled_8 rfl (lv_at hl 1 rfl) ?_
    refine lv_aload_n hx hb dX1_canBeFilled_9 rfl (lv_at hl 0 rfl) ?_
    refine m_get inX1 hF hC hO ((mU_ne hr4).trans ((mU_ne hr3).trans (mU_self))) rfl 0 (by decide) q_638 (v := .int (ω 0)) rfl dX1_canBeFilled_10 ?_
    refine lv_aload_n hx hb dX1_canBeFilled_13 rfl (lv_at hl 0 rfl) ?_
    refine m_get inX1 hF hC hO ((mU_ne hr4).trans ((mU_ne hr3).trans (mU_self))) rfl 1 (by decide) q_640 (v := .int (ω 1)) rfl dX1_canBeFilled_14 ?_
    rw [hw0, hw1]
    refine m_vI (As := [.int (nI k), .int (nI z)]) (rest := []) (n := 2) hF hC hO hS (k_X2_amountFrom l G lo sa ad _ f k z ((mU_ne (by decide : (3 : Nat) ≠ 4)).trans (mU_self)) (mU_self) (by omega) (by omega) (by omega)) ok_X2_amountFrom q_676 ((mU_ne (by decide : (3 : Nat) ≠ 4)).trans (mU_self)) rfl ⟨Nat.le_of_ble_eq_true rfl, Nat.le_of_ble_eq_true rfl⟩ rfl hl.1 rfl (Nat.le_of_ble_eq_true rfl) ⟨Nat.le_of_ble_eq_true rfl, Nat.le_of_ble_eq_true rfl⟩ dX1_canBeFilled_17 (fun v17 R' H locs hp hO hS => ?_)
    obtain ⟨rfl, hR⟩ := hp
    rw [hR] at hO
    refine lv_aload_n hx hb dX1_canBeFilled_20 rfl (lv_at hl 0 rfl) ?_
    refine m_get inX1 hF hC hO ((mU_ne hr4).trans ((mU_ne hr3).trans (mU_self))) rfl 2 (by decide) q_642 (v := .int (ω 2)) rfl dX1_canBeFilled_21 ?_
    refine lv_icmp_lt (tgt := 31) hx hb dX1_canBeFilled_24 (by decide) (fun c24 => ?_) (fun c24 => ?_)
    · refine lv_iconst (v := 0) hx hb dX1_canBeFilled_31 (by decide) ?_
      rw [mU_id (show R r = some (orO ω) from h0)] at hO
      rw [mU_id (show R 3 = some (.inr (2, [.ref (ad 4)])) from h1)] at hO
      rw [mU_id (show R 4 = some (.inl (G.2 0, 36, .inl f)) from h2)] at hO
      refine m_iret hF hr hlk hQ rfl hO hS dX1_canBeFilled_32 ?_
      first | exact ⟨mBo_f (fun h => absurd h.2 (Int32.not_le.mpr c24)), rfl⟩ | exact ⟨mBo_f (fun h => h.1 c5), rfl⟩
    · refine lv_iconst (v := 1) hx hb dX1_canBeFilled_27 (by decide) ?_
      refine lv_goto (tgt := 32) hx hb dX1_canBeFilled_28 (by decide) ?_
      rw [mU_id (show R r = some (orO ω) from h0)] at hO
      rw [mU_id (show R 3 = some (.inr (2, [.ref (ad 4)])) from h1)] at hO
      rw [mU_id (show R 4 = some (.inl (G.2 0, 36, .inl f)) from h2)] at hO
      refine m_iret hF hr hlk hQ rfl hO hS dX1_canBeFilled_32 ?_
      exact ⟨mBo_t ⟨c5, Int32.not_lt.mp c24⟩, rfl⟩
theorem ok_X3_begin : mOK RX3 yX3_begin cX3_begin 3 none 2 := ⟨q_421, qs_12, q_4, q_422, by decide +kernel⟩
set_option maxHeartbeats 400000 in
set_option maxRecDepth 100000 in
theorem k_X3_begin (l : Launch) (G : mG) (lo : Nat) (sa : mSc) (ad : Nat → Nat) (R : mM) (r v : Nat) (φ ν ψ κ : Nat → Int32) (h0 : R 6 = some (.inr (3, [.ref (ad 7), .ref (ad 8)]))) (h1 : R 7 = some (frO φ)) (h2 : R 8 = some (vO ν)) (h3 : R r = some (frO ψ)) (h4 : R v = some (vO κ)) (hrv : r ≠ v) (h6r : 6 ≠ r) (h7r : 7 ≠ r) (h8r : 8 ≠ r) (h6v : 6 ≠ v) (h7v : 7 ≠ v) (h8v : 8 ≠ v) (hb4 : ψ 4 = 0 ∨ ψ 4 = 1) : mV l yX3_begin cX3_begin 3 1 21 G lo sa ad R [.ref (ad 6), .ref (ad r), .ref (ad v)] (fun R' => R' = (mU (mU R 7 (frO ψ)) 8 (vO κ))) := by
  refine mV_of (by decide) (Nat.le_of_ble_eq_true rfl) ?_
  intro p e s m args below meth c hF hr hlk hC ls hl hO hS Q hQ
  have hx := hF.1
  have hb := hF.2.1
  have hl : lv_has ls 3 [(0, .ref (ad 6)), (1, .ref (ad r)), (2, .ref (ad v))] := hl
  have hO : mO G lo ad (mU (mU (mU (mU (mU R 6 (.inr (3, [.ref (ad 7), .ref (ad 8)]))) 7 (frO φ)) 8 (vO ν)) r (frO ψ)) v (vO κ)) s.heap := by
    rw [mU_id h0, mU_id h1, mU_id h2, mU_id h3, mU_id h4]
    exact hO
  refine lv_aload_n hx hb dX3_begin_0 rfl (lv_at hl 0 rfl) ?_
  refine m_get inX3 hF hC hO ((mU_ne h6v).trans ((mU_ne h6r).trans ((mU_ne (by decide : (6 : Nat) ≠ 8)).trans ((mU_ne (by decide : (6 : Nat) ≠ 7)).trans (mU_self))))) rfl 0 (by decide) q_104 (v := .ref (ad 7)) rfl dX3_begin_1 ?_
  refine lv_aload_n hx hb dX3_begin_4 rfl (lv_at hl 1 rfl) ?_
  refine m_vV (As := [.ref (ad r)]) (rest := []) (n := 1) hF hC hO hS (k_X0_copyFrom l G lo sa ad _ 7 r φ ψ ((mU_ne h7v).trans ((mU_ne h7r).trans ((mU_ne (by decide : (7 : Nat) ≠ 8)).trans (mU_self)))) ((mU_ne hrv).trans (mU_self)) h7r hb4) ok_X0_copyFrom q_423 ((mU_ne h7v).trans ((mU_ne h7r).trans ((mU_ne (by decide : (7 : Nat) ≠ 8)).trans (mU_self)))) rfl ⟨Nat.le_of_ble_eq_true rfl, Nat.le_of_ble_eq_true rfl⟩ rfl hl.1 rfl (Nat.le_of_ble_eq_true rfl) ⟨Nat.le_of_ble_eq_true rfl, Nat.le_of_ble_eq_true rfl⟩ dX3_begin_5 (fun R' H locs hp hO hS => ?_)
  have hR := hp
  rw [hR] at hO
  have hO : mO G lo ad (mU (mU (mU (mU (mU (mU R 6 (.inr (3, [.ref (ad 7), .ref (ad 8)]))) 7 (frO φ)) 8 (vO ν)) r (frO ψ)) v (vO κ)) 7 (frO ψ)) H := hO
  rw [mU_sw h7v, mU_sw h7r, mU_sw (by decide : (7 : Nat) ≠ 8), mU_mU] at hO
  refine lv_aload_n hx hb dX3_begin_8 rfl (lv_at hl 0 rfl) ?_
  refine m_get inX3 hF hC hO ((mU_ne h6v).trans ((mU_ne h6r).trans ((mU_ne (by decide : (6 : Nat) ≠ 8)).trans ((mU_ne (by decide : (6 : Nat) ≠ 7)).trans (mU_self))))) rfl 1 (by decide) q_105 (v := .ref (ad 8)) rfl dX3_begin_9 ?_
  refine lv_aload_n hx hb dX3_begin_12 rfl (lv_at hl 2 rfl) ?_
  refine m_vV (As := [.ref (ad v)]) (rest := []) (n := 1) hF hC hO hS (k_X4_copyFrom l G lo sa ad _ 8 v ν κ ((mU_ne h8v).trans ((mU_ne h8r).trans (mU_self))) (mU_self) h8v) ok_X4_copyFrom q_427 ((mU_ne h8v).trans ((mU_ne h8r).trans (mU_self))) rfl ⟨Nat.le_of_ble_eq_true rfl, Nat.le_of_ble_eq_true rfl⟩ rfl hl.1 rfl (Nat.le_of_ble_eq_true rfl) ⟨Nat.le_of_ble_eq_true rfl, Nat.le_of_ble_eq_true rfl⟩ dX3_begin_13 (fun R' H locs hp hO hS => ?_)
  have hR := hp
  rw [hR] at hO
  have hO : mO G lo ad (mU (mU (mU (mU (mU (mU R 6 (.inr (3, [.ref (ad 7), .ref (ad 8)]))) 7 (frO ψ)) 8 (vO ν)) r (frO ψ)) v (vO κ)) 8 (vO κ)) H := hO
  rw [mU_sw h8v, mU_sw h8r, mU_mU] at hO
  rw [mU_id (show R 6 = some (.inr (3, [.ref (ad 7), .ref (ad 8)])) from h0)] at hO
  rw [mU_id (show (mU (mU R 7 (frO ψ)) 8 (vO κ)) r = some (frO ψ) from ((mU_ne (Ne.symm h8r)).trans ((mU_ne (Ne.symm h7r)).trans h3)))] at hO
  rw [mU_id (show (mU (mU R 7 (frO ψ)) 8 (vO κ)) v = some (vO κ) from ((mU_ne (Ne.symm h8v)).trans ((mU_ne (Ne.symm h7v)).trans h4)))] at hO
  refine m_vret hF hr hlk hQ hO hS dX3_begin_16 ?_
  rfl
theorem ok_X3_tryDip : mOK RX3 yX3_tryDip cX3_tryDip 1 (some .boolean) 0 := ⟨q_433, qs_13, q_4, q_434, by decide +kernel⟩
set_option maxHeartbeats 400000 in
set_option maxRecDepth 100000 in
theorem k_X3_tryDip (l : Launch) (G : mG) (lo : Nat) (sa : mSc) (ad : Nat → Nat) (R : mM) (φ ν : Nat → Int32) (h0 : R 6 = some (.inr (3, [.ref (ad 7), .ref (ad 8)]))) (h1 : R 7 = some (frO φ)) (h2 : R 8 = some (vO ν)) : mI l yX3_tryDip cX3_tryDip 1 .boolean 4 86 G lo sa ad R [.ref (ad 6)] (fun v R' => (v = 1 ∧ (p_can φ ν) ∧ R' = (mU (mU R 7 (frO (p_dipF φ (ν 1)))) 8 (vO (p_burnV (p_dipV φ ν))))) ∨ (v = 0 ∧ ¬ (p_can φ ν) ∧ R' = R)) := by
  refine mI_of (by decide) (Nat.le_of_ble_eq_true rfl) ?_
  intro p e s m args below meth c hF hr hlk hC ls hl hO hS Q hQ
  have hx := hF.1
  have hb := hF.2.1
  have hl : lv_has ls 1 [(0, .ref (ad 6))] := hl
  have hO : mO G lo ad (mU (mU (mU R 6 (.inr (3, [.ref (ad 7), .ref (ad 8)]))) 7 (frO φ)) 8 (vO ν)) s.heap := by
    rw [mU_id h0, mU_id h1, mU_id h2]
    exact hO
  refine lv_aload_n hx hb dX3_tryDip_0 rfl (lv_at hl 0 rfl) ?_
  refine m_get inX3 hF hC hO ((mU_ne (by decide : (6 : Nat) ≠ 8)).trans ((mU_ne (by decide : (6 : Nat) ≠ 7)).trans (mU_self))) rfl 0 (by decide) q_104 (v := .ref (ad 7)) rfl dX3_tryDip_1 ?_
  refine lv_aload_n hx hb dX3_tryDip_4 rfl (lv_at hl 0 rfl) ?_
  refine m_get inX3 hF hC hO ((mU_ne (by decide : (6 : Nat) ≠ 8)).trans ((mU_ne (by decide : (6 : Nat) ≠ 7)).trans (mU_self))) rfl 1 (by decide) q_105 (v := .ref (ad 8)) rfl dX3_tryDip_5 ?_
  refine m_vI (As := [.ref (ad 8)]) (rest := []) (n := 1) hF hC hO hS (k_X0_canBeDipped l G lo sa ad _ 7 8 φ ν ((mU_ne (by decide : (7 : Nat) ≠ 8)).trans (mU_self)) (mU_self) (by decide : (7 : Nat) ≠ 8)) ok_X0_canBeDipped q_435 ((mU_ne (by decide : (7 : Nat) ≠ 8)).trans (mU_self)) rfl ⟨Nat.le_of_ble_eq_true rfl, Nat.le_of_ble_eq_true rfl⟩ rfl hl.1 rfl (Nat.le_of_ble_eq_true rfl) ⟨Nat.le_of_ble_eq_true rfl, Nat.le_of_ble_eq_true rfl⟩ dX3_tryDip_8 (fun v8 R' H locs hp hO hS => ?_)
  obtain ⟨⟨rfl, b8⟩ | ⟨rfl, b8⟩, hR⟩ := hp
  · rw [hR] at hO
    refine lv_if_ne (tgt := 16) hx hb dX3_tryDip_11 (by decide) (fun c11 => ?_) (fun c11 => absurd c11 (by decide))
    refine lv_aload_n hx hb dX3_tryDip_16 rfl (lv_at hl 0 rfl) ?_
    refine m_get inX3 hF hC hO ((mU_ne (by decide : (6 : Nat) ≠ 8)).trans ((mU_ne (by decide : (6 : Nat) ≠ 7)).trans (mU_self))) rfl 0 (by decide) q_104 (v := .ref (ad 7)) rfl dX3_tryDip_17 ?_
    refine lv_aload_n hx hb dX3_tryDip_20 rfl (lv_at hl 0 rfl) ?_
    refine m_get inX3 hF hC hO ((mU_ne (by decide : (6 : Nat) ≠ 8)).trans ((mU_ne (by decide : (6 : Nat) ≠ 7)).trans (mU_self))) rfl 1 (by decide) q_105 (v := .ref (ad 8)) rfl dX3_tryDip_21 ?_
    refine m_vV (As := [.ref (ad 8)]) (rest := []) (n := 1) hF hC hO hS (k_X0_immerse l G lo sa ad _ 7 8 φ ν ((mU_ne (by decide : (7 : Nat) ≠ 8)).trans (mU_self)) (mU_self) (by decide : (7 : Nat) ≠ 8)) ok_X0_immerse q_436 ((mU_ne (by decide : (7 : Nat) ≠ 8)).trans (mU_self)) rfl ⟨Nat.le_of_ble_eq_true rfl, Nat.le_of_ble_eq_true rfl⟩ rfl hl.1 rfl (Nat.le_of_ble_eq_true rfl) ⟨Nat.le_of_ble_eq_true rfl, Nat.le_of_ble_eq_true rfl⟩ dX3_tryDip_24 (fun R' H locs hp hO hS => ?_)
    have hR := hp
    rw [hR] at hO
    have hO : mO G lo ad (mU (mU (mU (mU (mU R 6 (.inr (3, [.ref (ad 7), .ref (ad 8)]))) 7 (frO φ)) 8 (vO ν)) 7 (frO (p_dipF φ (ν 1)))) 8 (vO (p_dipV φ ν))) H := hO
    rw [mU_sw (by decide : (7 : Nat) ≠ 8), mU_mU] at hO
    rw [mU_mU] at hO
    refine lv_aload_n hx hb dX3_tryDip_27 rfl (lv_at hl 0 rfl) ?_
    refine m_get inX3 hF hC hO ((mU_ne (by decide : (6 : Nat) ≠ 8)).trans ((mU_ne (by decide : (6 : Nat) ≠ 7)).trans (mU_self))) rfl 1 (by decide) q_105 (v := .ref (ad 8)) rfl dX3_tryDip_28 ?_
    refine m_vV (As := []) (rest := []) (n := 0) hF hC hO hS (k_X4_burn l G lo sa ad _ 8 (p_dipV φ ν) (mU_self)) ok_X4_burn q_437 (mU_self) rfl ⟨Nat.le_of_ble_eq_true rfl, Nat.le_of_ble_eq_true rfl⟩ rfl hl.1 rfl (Nat.le_of_ble_eq_true rfl) ⟨Nat.le_of_ble_eq_true rfl, Nat.le_of_ble_eq_true rfl⟩ dX3_tryDip_31 (fun R' H locs hp hO hS => ?_)
    have hR := hp
    rw [hR] at hO
    have hO : mO G lo ad (mU (mU (mU (mU R 6 (.inr (3, [.ref (ad 7), .ref (ad 8)]))) 7 (frO (p_dipF φ (ν 1)))) 8 (vO (p_dipV φ ν))) 8 (vO (p_burnV (p_dipV φ ν)))) H := hO
    rw [mU_mU] at hO
    refine lv_iconst (v := 1) hx hb dX3_tryDip_34 (by decide) ?_
    rw [mU_id (show R 6 = some (.inr (3, [.ref (ad 7), .ref (ad 8)])) from h0)] at hO
    refine m_iret hF hr hlk hQ rfl hO hS dX3_tryDip_35 ?_
    exact Or.inl ⟨rfl, b8, rfl⟩
  · rw [hR] at hO
    refine lv_if_ne (tgt := 16) hx hb dX3_tryDip_11 (by decide) (fun c11 => absurd (by decide) c11) (fun c11 => ?_)
    refine lv_iconst (v := 0) hx hb dX3_tryDip_14 (by decide) ?_
    rw [mU_id (show R 6 = some (.inr (3, [.ref (ad 7), .ref (ad 8)])) from h0)] at hO
    refine m_iret hF hr hlk hQ rfl hO hS dX3_tryDip_15 ?_
    exact Or.inr ⟨rfl, b8, by rw [mU_id (show (mU R 7 (frO φ)) 8 = some (vO ν) from (mU_ne (by decide)).trans h2), mU_id h1]⟩
