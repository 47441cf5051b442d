theorem ok_X4_isMelted : mOK RX4 yX4_isMelted cX4_isMelted 1 (some .boolean) 0 := ⟨q_144, q_145, q_2, q_146, by decide +kernel⟩
set_option maxHeartbeats 400000 in
set_option maxRecDepth 100000 in
theorem k_X4_isMelted (l : Launch) (G : mG) (lo : Nat) (sa : mSc) (ad : Nat → Nat) (R : mM) (r : Nat) (ν : Nat → Int32) (h0 : R r = some (vO ν)) : mI l yX4_isMelted cX4_isMelted 1 .boolean 0 0 G lo sa ad R [.ref (ad r)] (fun v R' => mBo (60 ≤ ν 1) v ∧ R' = R) := by
  refine mI_of (by decide) (Nat.le_of_ble_eq_true rfl) ?_
  intro p e s m args below meth c hF hr hlk hC ls hl hO hS Q hQ
  have hx := hF.1
  have hb := hF.2.1
  have hl : lv_has ls 1 [(0, .ref (ad r))] := hl
  have hO : mO G lo ad (mU R r (vO ν)) s.heap := by
    rw [mU_id h0]
    exact hO
  refine lv_aload_n hx hb dX4_isMelted_0 rfl (lv_at hl 0 rfl) ?_
  refine m_get inX4 hF hC hO (mU_self) rfl 1 (by decide) q_33 (v := .int (ν 1)) rfl dX4_isMelted_1 ?_
  refine lv_bipush (v := 60) hx hb dX4_isMelted_4 (by decide) ?_
  refine lv_icmp_lt (tgt := 13) hx hb dX4_isMelted_6 (by decide) (fun c6 => ?_) (fun c6 => ?_)
  · refine lv_iconst (v := 0) hx hb dX4_isMelted_13 (by decide) ?_
    rw [mU_id (show R r = some (vO ν) from h0)] at hO
    refine m_iret hF hr hlk hQ rfl hO hS dX4_isMelted_14 ?_
    exact ⟨mBo_f (Int32.not_le.mpr c6), rfl⟩
  · refine lv_iconst (v := 1) hx hb dX4_isMelted_9 (by decide) ?_
    refine lv_goto (tgt := 14) hx hb dX4_isMelted_10 (by decide) ?_
    rw [mU_id (show R r = some (vO ν) from h0)] at hO
    refine m_iret hF hr hlk hQ rfl hO hS dX4_isMelted_14 ?_
    exact ⟨mBo_t (Int32.not_lt.mp c6), rfl⟩
theorem ok_X4_throwIn : mOK RX4 yX4_throwIn cX4_throwIn 3 none 1 := ⟨q_543, q_544, q_2, q_545, by decide +kernel⟩
set_option maxHeartbeats 400000 in
set_option maxRecDepth 100000 in
theorem k_X4_throwIn (l : Launch) (G : mG) (lo : Nat) (sa : mSc) (ad : Nat → Nat) (R : mM) (r : Nat) (ν : Nat → Int32) (a : Int32) (h0 : R r = some (vO ν)) : mV l yX4_throwIn cX4_throwIn 3 0 0 G lo sa ad R [.ref (ad r), .int a] (fun R' => R' = (mU R r (vO (p_throwV ν a)))) := by
  refine mV_of (by decide) (Nat.le_of_ble_eq_true rfl) ?_
  intro p e s m args below meth c hF hr hlk hC ls hl hO hS Q hQ
  have hx := hF.1
  have hb := hF.2.1
  have hl : lv_has ls 3 [(0, .ref (ad r)), (1, .int a)] := hl
  have hO : mO G lo ad (mU R r (vO ν)) s.heap := by
    rw [mU_id h0]
    exact hO
  refine lv_aload_n hx hb dX4_throwIn_0 rfl (lv_at hl 0 rfl) ?_
  refine m_get inX4 hF hC hO (mU_self) rfl 0 (by decide) q_31 (v := .int (ν 0)) rfl dX4_throwIn_1 ?_
  refine lv_iload_n hx hb dX4_throwIn_4 rfl (lv_at hl 1 rfl) ?_
  refine lv_iadd hx hb dX4_throwIn_5 ?_
  refine lv_istore_n (lv' := [(2, .int ((ν 0) + a)), (0, .ref (ad r)), (1, .int a)]) hx hb dX4_throwIn_6 rfl hl (by decide) rfl (fun ls hl => ?_)
  refine lv_iload_n hx hb dX4_throwIn_7 rfl (lv_at hl 0 rfl) ?_
  refine lv_if_le (tgt := 31) hx hb dX4_throwIn_8 (by decide) (fun c8 => ?_) (fun c8 => ?_)
  · refine lv_aload_n hx hb dX4_throwIn_31 rfl (lv_at hl 1 rfl) ?_
    refine lv_iload_n hx hb dX4_throwIn_32 rfl (lv_at hl 0 rfl) ?_
    refine m_put (ty := .int) tyX4 tyX4_ok nmX4 inX4 hF hC hO hS (mU_self) rfl 0 (by decide) q_31 rfl (by decide +kernel) rfl rfl (fs' := [.int ((ν 0) + a), .int (ν 1), .int (ν 2)]) (Nat.le_of_ble_eq_true rfl) rfl dX4_throwIn_33 (fun H locs hO hS => ?_)
    have hO : mO G lo ad (mU (mU R r (vO ν)) r (vO (upd ν 0 ((ν 0) + a)))) H := hO
    rw [mU_mU] at hO
    refine m_vret hF hr hlk hQ hO hS dX4_throwIn_36 ?_
    first | (rw [p_throwV, if_pos (Int32.not_le.mp c8)]; done) | (rw [p_throwV, if_neg (Int32.not_lt.mpr c8)]; done)
  · refine lv_aload_n hx hb dX4_throwIn_11 rfl (lv_at hl 1 rfl) ?_
    refine lv_aload_n hx hb dX4_throwIn_12 rfl (lv_at hl 1 rfl) ?_
    refine m_get inX4 hF hC hO (mU_self) rfl 1 (by decide) q_33 (v := .int (ν 1)) rfl dX4_throwIn_13 ?_
    refine lv_aload_n hx hb dX4_throwIn_16 rfl (lv_at hl 1 rfl) ?_
    refine m_get inX4 hF hC hO (mU_self) rfl 0 (by decide) q_31 (v := .int (ν 0)) rfl dX4_throwIn_17 ?_
    refine lv_imul hx hb dX4_throwIn_20 ?_
    refine lv_bipush (v := 20) hx hb dX4_throwIn_21 (by decide) ?_
    refine lv_iload_n hx hb dX4_throwIn_23 rfl (lv_at hl 2 rfl) ?_
    refine lv_imul hx hb dX4_throwIn_24 ?_
    refine lv_iadd hx hb dX4_throwIn_25 ?_
    refine lv_iload_n hx hb dX4_throwIn_26 rfl (lv_at hl 0 rfl) ?_
    refine lv_idiv hx hb dX4_throwIn_27 (fun h => c8 (by rw [h]; decide)) ?_
    refine m_put (ty := .int) tyX4 tyX4_ok nmX4 inX4 hF hC hO hS (mU_self) rfl 1 (by decide) q_33 rfl (by decide +kernel) rfl rfl (fs' := [.int (ν 0), .int ((((ν 1) * (ν 0)) + (20 * a)) / ((ν 0) + a)), .int (ν 2)]) (Nat.le_of_ble_eq_true rfl) rfl dX4_throwIn_28 (fun H locs hO hS => ?_)
    have hO : mO G lo ad (mU (mU R r (vO ν)) r (vO (upd ν 1 ((((ν 1) * (ν 0)) + (20 * a)) / ((ν 0) + a))))) H := hO
    rw [mU_mU] at hO
    refine lv_aload_n hx hb dX4_throwIn_31 rfl (lv_at hl 1 rfl) ?_
    refine lv_iload_n hx hb dX4_throwIn_32 rfl (lv_at hl 0 rfl) ?_
    refine m_put (ty := .int) tyX4 tyX4_ok nmX4 inX4 hF hC hO hS (mU_self) rfl 0 (by decide) q_31 rfl (by decide +kernel) rfl rfl (fs' := [.int ((ν 0) + a), .int ((((ν 1) * (ν 0)) + (20 * a)) / ((ν 0) + a)), .int (ν 2)]) (Nat.le_of_ble_eq_true rfl) rfl dX4_throwIn_33 (fun H locs hO hS => ?_)
    have hO : mO G lo ad (mU (mU R r (vO (upd ν 1 ((((ν 1) * (ν 0)) + (20 * a)) / ((ν 0) + a))))) r (vO (upd (upd ν 1 ((((ν 1) * (ν 0)) + (20 * a)) / ((ν 0) + a))) 0 ((ν 0) + a)))) H := hO
    rw [mU_mU] at hO
    refine m_vret hF hr hlk hQ hO hS dX4_throwIn_36 ?_
    first | (rw [p_throwV, if_pos (Int32.not_le.mp c8)]; done) | (rw [p_throwV, if_neg (Int32.not_lt.mpr c8)]; done)
theorem ok_X4_takeBack : mOK RX4 yX4_takeBack cX4_takeBack 2 none 1 := ⟨q_321, q_322, q_2, q_323, by decide +kernel⟩
set_option maxHeartbeats 400000 in
set_option maxRecDepth 100000 in
theorem k_X4_takeBack (l : Launch) (G : mG) (lo : Nat) (sa : mSc) (ad : Nat → Nat) (R : mM) (r : Nat) (ν : Nat → Int32) (a : Int32) (h0 : R r = some (vO ν)) : mV l yX4_takeBack cX4_takeBack 2 1 21 G lo sa ad R [.ref (ad r), .int a] (fun R' => R' = (mU R r (vO (p_backV ν a)))) := by
  refine mV_of (by decide) (Nat.le_of_ble_eq_true rfl) ?_
  intro p e s m args below meth c hF hr hlk hC ls hl hO hS Q hQ
  have hx := hF.1
  have hb := hF.2.1
  have hl : lv_has ls 2 [(0, .ref (ad r)), (1, .int a)] := hl
  have hO : mO G lo ad (mU R r (vO ν)) s.heap := by
    rw [mU_id h0]
    exact hO
  refine lv_aload_n hx hb dX4_takeBack_0 rfl (lv_at hl 0 rfl) ?_
  refine lv_sipush (v := 20000) hx hb dX4_takeBack_1 (by decide) ?_
  refine lv_aload_n hx hb dX4_takeBack_4 rfl (lv_at hl 0 rfl) ?_
  refine m_get inX4 hF hC hO (mU_self) rfl 0 (by decide) q_31 (v := .int (ν 0)) rfl dX4_takeBack_5 ?_
  refine lv_iload_n hx hb dX4_takeBack_8 rfl (lv_at hl 1 rfl) ?_
  refine lv_iadd hx hb dX4_takeBack_9 ?_
  refine m_min hF hl.1 q_291 q_246 q_14 q_247 (Nat.le_of_ble_eq_true rfl) (Nat.le_of_ble_eq_true rfl) ⟨Nat.le_of_ble_eq_true rfl, Nat.le_of_ble_eq_true rfl⟩ dX4_takeBack_10 ?_
  refine m_put (ty := .int) tyX4 tyX4_ok nmX4 inX4 hF hC hO hS (mU_self) rfl 0 (by decide) q_31 rfl (by decide +kernel) rfl rfl (fs' := [.int (jmin 20000 ((ν 0) + a)), .int (ν 1), .int (ν 2)]) (Nat.le_of_ble_eq_true rfl) rfl dX4_takeBack_13 (fun H locs hO hS => ?_)
  have hO : mO G lo ad (mU (mU R r (vO ν)) r (vO (upd ν 0 (jmin 20000 ((ν 0) + a))))) H := hO
  rw [mU_mU] at hO
  refine m_vret hF hr hlk hQ hO hS dX4_takeBack_16 ?_
  rfl
theorem ok_X4_burn : mOK RX4 yX4_burn cX4_burn 3 none 0 := ⟨q_288, q_289, q_2, q_290, by decide +kernel⟩
set_option maxHeartbeats 400000 in
set_option maxRecDepth 100000 in
theorem k_X4_burn (l : Launch) (G : mG) (lo : Nat) (sa : mSc) (ad : Nat → Nat) (R : mM) (r : Nat) (ν : Nat → Int32) (h0 : R r = some (vO ν)) : mV l yX4_burn cX4_burn 3 1 21 G lo sa ad R [.ref (ad r)] (fun R' => R' = (mU R r (vO (p_burnV ν)))) := by
  refine mV_of (by decide) (Nat.le_of_ble_eq_true rfl) ?_
  intro p e s m args below meth c hF hr hlk hC ls hl hO hS Q hQ
  have hx := hF.1
  have hb := hF.2.1
  have hl : lv_has ls 3 [(0, .ref (ad r))] := hl
  have hO : mO G lo ad (mU R r (vO ν)) s.heap := by
    rw [mU_id h0]
    exact hO
  refine lv_aload_n hx hb dX4_burn_0 rfl (lv_at hl 0 rfl) ?_
  refine m_get inX4 hF hC hO (mU_self) rfl 1 (by decide) q_33 (v := .int (ν 1)) rfl dX4_burn_1 ?_
  refine lv_bipush (v := 6) hx hb dX4_burn_4 (by decide) ?_
  refine lv_aload_n hx hb dX4_burn_6 rfl (lv_at hl 0 rfl) ?_
  refine m_get inX4 hF hC hO (mU_self) rfl 2 (by decide) q_37 (v := .int (ν 2)) rfl dX4_burn_7 ?_
  refine lv_imul hx hb dX4_burn_10 ?_
  refine lv_iadd hx hb dX4_burn_11 ?_
  refine lv_istore_n (lv' := [(1, .int ((ν 1) + (6 * (ν 2)))), (0, .ref (ad r))]) hx hb dX4_burn_12 rfl hl (by decide) rfl (fun ls hl => ?_)
  refine lv_iload_n hx hb dX4_burn_13 rfl (lv_at hl 0 rfl) ?_
  refine lv_iload_n hx hb dX4_burn_14 rfl (lv_at hl 0 rfl) ?_
  refine lv_bipush (v := 20) hx hb dX4_burn_15 (by decide) ?_
  refine lv_isub hx hb dX4_burn_17 ?_
  refine lv_bipush (v := 10) hx hb dX4_burn_18 (by decide) ?_
  refine lv_idiv hx hb dX4_burn_20 (by decide) ?_
  refine lv_isub hx hb dX4_burn_21 ?_
  refine lv_istore_n (lv' := [(2, .int (((ν 1) + (6 * (ν 2))) - ((((ν 1) + (6 * (ν 2))) - 20) / 10))), (1, .int ((ν 1) + (6 * (ν 2)))), (0, .ref (ad r))]) hx hb dX4_burn_22 rfl hl (by decide) rfl (fun ls hl => ?_)
  refine lv_aload_n hx hb dX4_burn_23 rfl (lv_at hl 2 rfl) ?_
  refine lv_iconst (v := 0) hx hb dX4_burn_24 (by decide) ?_
  refine lv_bipush (v := 120) hx hb dX4_burn_25 (by decide) ?_
  refine lv_iload_n hx hb dX4_burn_27 rfl (lv_at hl 0 rfl) ?_
  refine m_min hF hl.1 q_291 q_246 q_14 q_247 (Nat.le_of_ble_eq_true rfl) (Nat.le_of_ble_eq_true rfl) ⟨Nat.le_of_ble_eq_true rfl, Nat.le_of_ble_eq_true rfl⟩ dX4_burn_28 ?_
  refine m_max hF hl.1 q_292 q_277 q_14 q_278 (Nat.le_of_ble_eq_true rfl) (Nat.le_of_ble_eq_true rfl) ⟨Nat.le_of_ble_eq_true rfl, Nat.le_of_ble_eq_true rfl⟩ dX4_burn_31 ?_
  refine m_put (ty := .int) tyX4 tyX4_ok nmX4 inX4 hF hC hO hS (mU_self) rfl 1 (by decide) q_33 rfl (by decide +kernel) rfl rfl (fs' := [.int (ν 0), .int (jmax 0 (jmin 120 (((ν 1) + (6 * (ν 2))) - ((((ν 1) + (6 * (ν 2))) - 20) / 10)))), .int (ν 2)]) (Nat.le_of_ble_eq_true rfl) rfl dX4_burn_34 (fun H locs hO hS => ?_)
  have hO : mO G lo ad (mU (mU R r (vO ν)) r (vO (upd ν 1 (jmax 0 (jmin 120 (((ν 1) + (6 * (ν 2))) - ((((ν 1) + (6 * (ν 2))) - 20) / 10))))))) H := hO
  rw [mU_mU] at hO
  refine m_vret hF hr hlk hQ hO hS dX4_burn_37 ?_
  rfl
theorem ok_X0_hangs : mOK RX0 yX0_hangs cX0_hangs 1 (some .boolean) 0 := ⟨q_229, q_230, q_5, q_231, by decide +kernel⟩
set_option maxHeartbeats 400000 in
set_option maxRecDepth 100000 in
theorem k_X0_hangs (l : Launch) (G : mG) (lo : Nat) (sa : mSc) (ad : Nat → Nat) (R : mM) (r : Nat) (φ : Nat → Int32) (h0 : R r = some (frO φ)) : mI l yX0_hangs cX0_hangs 1 .boolean 0 0 G lo sa ad R [.ref (ad r)] (fun v R' => mBo (φ 5 ≠ -1) v ∧ R' = R) := by
  refine mI_of (by decide) (Nat.le_of_ble_eq_true rfl) ?_
  intro p e s m args below meth c hF hr hlk hC ls hl hO hS Q hQ
  have hx := hF.1
  have hb := hF.2.1
  have hl : lv_has ls 1 [(0, .ref (ad r))] := hl
  have hO : mO G lo ad (mU R r (frO φ)) s.heap := by
    rw [mU_id h0]
    exact hO
  refine lv_aload_n hx hb dX0_hangs_0 rfl (lv_at hl 0 rfl) ?_
  refine m_get inX0 hF hC hO (mU_self) rfl 5 (by decide) q_83 (v := .int (φ 5)) rfl dX0_hangs_1 ?_
  refine lv_iconst (v := -1) hx hb dX0_hangs_4 (by decide) ?_
  refine lv_icmp_eq (tgt := 12) hx hb dX0_hangs_5 (by decide) (fun c5 => ?_) (fun c5 => ?_)
  · refine lv_iconst (v := 0) hx hb dX0_hangs_12 (by decide) ?_
    rw [mU_id (show R r = some (frO φ) from h0)] at hO
    refine m_iret hF hr hlk hQ rfl hO hS dX0_hangs_13 ?_
    exact ⟨mBo_f (fun h => h c5), rfl⟩
  · refine lv_iconst (v := 1) hx hb dX0_hangs_8 (by decide) ?_
    refine lv_goto (tgt := 13) hx hb dX0_hangs_9 (by decide) ?_
    rw [mU_id (show R r = some (frO φ) from h0)] at hO
    refine m_iret hF hr hlk hQ rfl hO hS dX0_hangs_13 ?_
    exact ⟨mBo_t c5, rfl⟩
theorem ok_X0_isBare : mOK RX0 yX0_isBare cX0_isBare 1 (some .boolean) 0 := ⟨q_242, q_243, q_5, q_244, by decide +kernel⟩
set_option maxHeartbeats 400000 in
set_option maxRecDepth 100000 in
theorem k_X0_isBare (l : Launch) (G : mG) (lo : Nat) (sa : mSc) (ad : Nat → Nat) (R : mM) (r : Nat) (φ : Nat → Int32) (h0 : R r = some (frO φ)) : mI l yX0_isBare cX0_isBare 1 .boolean 0 0 G lo sa ad R [.ref (ad r)] (fun v R' => mBo (φ 2 = 0) v ∧ R' = R) := by
  refine mI_of (by decide) (Nat.le_of_ble_eq_true rfl) ?_
  intro p e s m args below meth c hF hr hlk hC ls hl hO hS Q hQ
  have hx := hF.1
  have hb := hF.2.1
  have hl : lv_has ls 1 [(0, .ref (ad r))] := hl
  have hO : mO G lo ad (mU R r (frO φ)) s.heap := by
    rw [mU_id h0]
    exact hO
  refine lv_aload_n hx hb dX0_isBare_0 rfl (lv_at hl 0 rfl) ?_
  refine m_get inX0 hF hC hO (mU_self) rfl 2 (by decide) q_77 (v := .int (φ 2)) rfl dX0_isBare_1 ?_
  refine lv_if_ne (tgt := 11) hx hb dX0_isBare_4 (by decide) (fun c4 => ?_) (fun c4 => ?_)
  · refine lv_iconst (v := 0) hx hb dX0_isBare_11 (by decide) ?_
    rw [mU_id (show R r = some (frO φ) from h0)] at hO
    refine m_iret hF hr hlk hQ rfl hO hS dX0_isBare_12 ?_
    exact ⟨mBo_f c4, rfl⟩
  · refine lv_iconst (v := 1) hx hb dX0_isBare_7 (by decide) ?_
    refine lv_goto (tgt := 12) hx hb dX0_isBare_8 (by decide) ?_
    rw [mU_id (show R r = some (frO φ) from h0)] at hO
    refine m_iret hF hr hlk hQ rfl hO hS dX0_isBare_12 ?_
    exact ⟨mBo_t c4, rfl⟩
theorem ok_X0_isTooWarmToCut : mOK RX0 yX0_isTooWarmToCut cX0_isTooWarmToCut 1 (some .boolean) 0 := ⟨q_311, q_312, q_5, q_313, by decide +kernel⟩
set_option maxHeartbeats 400000 in
set_option maxRecDepth 100000 in
theorem k_X0_isTooWarmToCut (l : Launch) (G : mG) (lo : Nat) (sa : mSc) (ad : Nat → Nat) (R : mM) (r : Nat) (φ : Nat → Int32) (h0 : R r = some (frO φ)) : mI l yX0_isTooWarmToCut cX0_isTooWarmToCut 1 .boolean 0 0 G lo sa ad R [.ref (ad r)] (fun v R' => mBo (20 < φ 3) v ∧ R' = R) := by
  refine mI_of (by decide) (Nat.le_of_ble_eq_true rfl) ?_
  intro p e s m args below meth c hF hr hlk hC ls hl hO hS Q hQ
  have hx := hF.1
  have hb := hF.2.1
  have hl : lv_has ls 1 [(0, .ref (ad r))] := hl
  have hO : mO G lo ad (mU R r (frO φ)) s.heap := by
    rw [mU_id h0]
    exact hO
  refine lv_aload_n hx hb dX0_isTooWarmToCut_0 rfl (lv_at hl 0 rfl) ?_
  refine m_get inX0 hF hC hO (mU_self) rfl 3 (by decide) q_79 (v := .int (φ 3)) rfl dX0_isTooWarmToCut_1 ?_
  refine lv_bipush (v := 20) hx hb dX0_isTooWarmToCut_4 (by decide) ?_
  refine lv_icmp_le (tgt := 13) hx hb dX0_isTooWarmToCut_6 (by decide) (fun c6 => ?_) (fun c6 => ?_)
  · refine lv_iconst (v := 0) hx hb dX0_isTooWarmToCut_13 (by decide) ?_
    rw [mU_id (show R r = some (frO φ) from h0)] at hO
    refine m_iret hF hr hlk hQ rfl hO hS dX0_isTooWarmToCut_14 ?_
    exact ⟨mBo_f (Int32.not_lt.mpr c6), rfl⟩
  · refine lv_iconst (v := 1) hx hb dX0_isTooWarmToCut_9 (by decide) ?_
    refine lv_goto (tgt := 14) hx hb dX0_isTooWarmToCut_10 (by decide) ?_
    rw [mU_id (show R r = some (frO φ) from h0)] at hO
    refine m_iret hF hr hlk hQ rfl hO hS dX0_isTooWarmToCut_14 ?_
    exact ⟨mBo_t (Int32.not_le.mp c6), rfl⟩
theorem ok_X0_meltsWhenDipped : mOK RX0 yX0_meltsWhenDipped cX0_meltsWhenDipped 1 (some .boolean) 0 := ⟨q_238, q_239, q_5, q_240, by decide +kernel⟩
set_option maxHeartbeats 400000 in
set_option maxRecDepth 100000 in
theorem k_X0_meltsWhenDipped (l : Launch) (G : mG) (lo : Nat) (sa : mSc) (ad : Nat → Nat) (R : mM) (r : Nat) (φ : Nat → Int32) (h0 : R r = some (frO φ)) : mI l yX0_meltsWhenDipped cX0_meltsWhenDipped 1 .boolean 0 0 G lo sa ad R [.ref (ad r)] (fun v R' => mBo (70 < φ 3) v ∧ R' = R) := by
  refine mI_of (by decide) (Nat.le_of_ble_eq_true rfl) ?_
  intro p e s m args below meth c hF hr hlk hC ls hl hO hS Q hQ
  have hx := hF.1
  have hb := hF.2.1
  have hl : lv_has ls 1 [(0, .ref (ad r))] := hl
  have hO : mO G lo ad (mU R r (frO φ)) s.heap := by
    rw [mU_id h0]
    exact hO
  refine lv_aload_n hx hb dX0_meltsWhenDipped_0 rfl (lv_at hl 0 rfl) ?_
  refine m_get inX0 hF hC hO (mU_self) rfl 3 (by decide) q_79 (v := .int (φ 3)) rfl dX0_meltsWhenDipped_1 ?_
  refine lv_bipush (v := 70) hx hb dX0_meltsWhenDipped_4 (by decide) ?_
  refine lv_icmp_le (tgt := 13) hx hb dX0_meltsWhenDipped_6 (by decide) (fun c6 => ?_) (fun c6 => ?_)
  · refine lv_iconst (v := 0) hx hb dX0_meltsWhenDipped_13 (by decide) ?_
    rw [mU_id (show R r = some (frO φ) from h0)] at hO
    refine m_iret hF hr hlk hQ rfl hO hS dX0_meltsWhenDipped_14 ?_
    exact ⟨mBo_f (Int32.not_lt.mpr c6), rfl⟩
  · refine lv_iconst (v := 1) hx hb dX0_meltsWhenDipped_9 (by decide) ?_
    refine lv_goto (tgt := 14) hx hb dX0_meltsWhenDipped_10 (by decide) ?_
    rw [mU_id (show R r = some (frO φ) from h0)] at hO
    refine m_iret hF hr hlk hQ rfl hO hS dX0_meltsWhenDipped_14 ?_
    exact ⟨mBo_t (Int32.not_le.mp c6), rfl⟩
theorem ok_X0_waxOf : mOK RX0 yX0_waxOf cX0_waxOf 2 (some .int) 1 := ⟨q_249, q_250, q_5, q_251, by decide +kernel⟩
set_option maxHeartbeats 400000 in
set_option maxRecDepth 100000 in
theorem k_X0_waxOf (l : Launch) (G : mG) (lo : Nat) (sa : mSc) (ad : Nat → Nat) (R : mM) (r : Nat) (φ : Nat → Int32) (n : Int32) (h0 : R r = some (frO φ)) : mI l yX0_waxOf cX0_waxOf 2 .int 0 0 G lo sa ad R [.ref (ad r), .int n] (fun v R' => v = (p_wax φ n) ∧ R' = R) := by
  refine mI_of (by decide) (Nat.le_of_ble_eq_true rfl) ?_
  intro p e s m args below meth c hF hr hlk hC ls hl hO hS Q hQ
  have hx := hF.1
  have hb := hF.2.1
  have hl : lv_has ls 2 [(0, .ref (ad r)), (1, .int n)] := hl
  have hO : mO G lo ad (mU R r (frO φ)) s.heap := by
    rw [mU_id h0]
    exact hO
  refine lv_iload_n hx hb dX0_waxOf_0 rfl (lv_at hl 1 rfl) ?_
  refine lv_bipush (v := 8) hx hb dX0_waxOf_1 (by decide) ?_
  refine lv_aload_n hx hb dX0_waxOf_3 rfl (lv_at hl 0 rfl) ?_
  refine m_get inX0 hF hC hO (mU_self) rfl 0 (by decide) q_72 (v := .int (φ 0)) rfl dX0_waxOf_4 ?_
  refine lv_iadd hx hb dX0_waxOf_7 ?_
  refine lv_imul hx hb dX0_waxOf_8 ?_
  refine lv_aload_n hx hb dX0_waxOf_9 rfl (lv_at hl 0 rfl) ?_
  refine m_get inX0 hF hC hO (mU_self) rfl 1 (by decide) q_74 (v := .int (φ 1)) rfl dX0_waxOf_10 ?_
  refine lv_imul hx hb dX0_waxOf_13 ?_
  refine lv_bipush (v := 10) hx hb dX0_waxOf_14 (by decide) ?_
  refine lv_idiv hx hb dX0_waxOf_16 (by decide) ?_
  rw [mU_id (show R r = some (frO φ) from h0)] at hO
  refine m_iret hF hr hlk hQ rfl hO hS dX0_waxOf_17 ?_
  exact ⟨rfl, rfl⟩
theorem ok_X0_gain : mOK RX0 yX0_gain cX0_gain 3 (some .int) 1 := ⟨q_234, q_235, q_5, q_236, by decide +kernel⟩
set_option maxHeartbeats 400000 in
set_option maxRecDepth 100000 in
theorem k_X0_gain (l : Launch) (G : mG) (lo : Nat) (sa : mSc) (ad : Nat → Nat) (R : mM) (r : Nat) (φ : Nat → Int32) (h : Int32) (h0 : R r = some (frO φ)) : mI l yX0_gain cX0_gain 3 .int 1 21 G lo sa ad R [.ref (ad r), .int h] (fun v R' => v = (p_gain φ h) ∧ R' = R) := by
  refine mI_of (by decide) (Nat.le_of_ble_eq_true rfl) ?_
  intro p e s m args below meth c hF hr hlk hC ls hl hO hS Q hQ
  have hx := hF.1
  have hb := hF.2.1
  have hl : lv_has ls 3 [(0, .ref (ad r)), (1, .int h)] := hl
  have hO : mO G lo ad (mU R r (frO φ)) s.heap := by
    rw [mU_id h0]
    exact hO
  refine lv_aload_n hx hb dX0_gain_0 rfl (lv_at hl 0 rfl) ?_
  refine m_vI (As := []) (rest := []) (n := 0) hF hC hO hS (k_X0_meltsWhenDipped l G lo sa ad _ r φ (mU_self)) ok_X0_meltsWhenDipped q_237 (mU_self) rfl ⟨Nat.le_of_ble_eq_true rfl, Nat.le_of_ble_eq_true rfl⟩ rfl hl.1 rfl (Nat.le_of_ble_eq_true rfl) ⟨Nat.le_of_ble_eq_true rfl, Nat.le_of_ble_eq_true rfl⟩ dX0_gain_1 (fun v1 R' H locs hp hO hS => ?_)
  obtain ⟨⟨rfl, b1⟩ | ⟨rfl, b1⟩, hR⟩ := hp
  · rw [hR] at hO
    refine lv_if_eq (tgt := 9) hx hb dX0_gain_4 (by decide) (fun c4 => absurd c4 (by decide)) (fun c4 => ?_)
    refine lv_iconst (v := 0) hx hb dX0_gain_7 (by decide) ?_
    rw [mU_id (show R r = some (frO φ) from h0)] at hO
    refine m_iret hF hr hlk hQ rfl hO hS dX0_gain_8 ?_
    exact ⟨(if_pos b1).symm, rfl⟩
  · rw [hR] at hO
    refine lv_if_eq (tgt := 9) hx hb dX0_gain_4 (by decide) (fun c4 => ?_) (fun c4 => absurd (by decide) c4)
    refine lv_bipush (v := 12) hx hb dX0_gain_9 (by decide) ?_
    refine lv_iload_n hx hb dX0_gain_11 rfl (lv_at hl 1 rfl) ?_
    refine lv_bipush (v := 60) hx hb dX0_gain_12 (by decide) ?_
    refine lv_isub hx hb dX0_gain_14 ?_
    refine lv_bipush (v := 8) hx hb dX0_gain_15 (by decide) ?_
    refine lv_idiv hx hb dX0_gain_17 (by decide) ?_
    refine lv_isub hx hb dX0_gain_18 ?_
    refine lv_istore_n (lv' := [(2, .int (12 - ((h - 60) / 8))), (0, .ref (ad r)), (1, .int h)]) hx hb dX0_gain_19 rfl hl (by decide) rfl (fun ls hl => ?_)
    refine lv_aload_n hx hb dX0_gain_20 rfl (lv_at hl 1 rfl) ?_
    refine m_vI (As := []) (rest := []) (n := 0) hF hC hO hS (k_X0_isBare l G lo sa ad _ r φ (mU_self)) ok_X0_isBare q_241 (mU_self) rfl ⟨Nat.le_of_ble_eq_true rfl, Nat.le_of_ble_eq_true rfl⟩ rfl hl.1 rfl (Nat.le_of_ble_eq_true rfl) ⟨Nat.le_of_ble_eq_true rfl, Nat.le_of_ble_eq_true rfl⟩ dX0_gain_21 (fun v21 R' H locs hp hO hS => ?_)
    obtain ⟨⟨rfl, b21⟩ | ⟨rfl, b21⟩, hR⟩ := hp
    · rw [hR] at hO
      refine lv_if_eq (tgt := 30) hx hb dX0_gain_24 (by decide) (fun c24 => absurd c24 (by decide)) (fun c24 => ?_)
      refine lv_iinc (v := ((12 - ((h - 60) / 8)) + 4)) (lv' := [(2, .int ((12 - ((h - 60) / 8)) + 4)), (0, .ref (ad r)), (1, .int h)]) hx hb dX0_gain_27 hl (k := 0) rfl rfl (by decide) rfl (fun ls hl => ?_)
      refine lv_aload_n hx hb dX0_gain_30 rfl (lv_at hl 1 rfl) ?_
      refine m_get inX0 hF hC hO (mU_self) rfl 0 (by decide) q_72 (v := .int (φ 0)) rfl dX0_gain_31 ?_
      refine lv_iconst (v := 3) hx hb dX0_gain_34 (by decide) ?_
      refine lv_icmp_ne (tgt := 41) hx hb dX0_gain_35 (by decide) (fun c35 => ?_) (fun c35 => ?_)
      · refine lv_iload_n hx hb dX0_gain_41 rfl (lv_at hl 0 rfl) ?_
        refine lv_sipush (v := 400) hx hb dX0_gain_42 (by decide) ?_
        refine lv_aload_n hx hb dX0_gain_45 rfl (lv_at hl 1 rfl) ?_
        refine m_get inX0 hF hC hO (mU_self) rfl 2 (by decide) q_77 (v := .int (φ 2)) rfl dX0_gain_46 ?_
        refine lv_isub hx hb dX0_gain_49 ?_
        refine m_min hF hl.1 q_245 q_246 q_14 q_247 (Nat.le_of_ble_eq_true rfl) (Nat.le_of_ble_eq_true rfl) ⟨Nat.le_of_ble_eq_true rfl, Nat.le_of_ble_eq_true rfl⟩ dX0_gain_50 ?_
        rw [mU_id (show R r = some (frO φ) from h0)] at hO
        refine m_iret hF hr hlk hQ rfl hO hS dX0_gain_53 ?_
        exact ⟨by first | rw [p_gain, if_neg b1, if_neg c35, if_pos b21] | rw [p_gain, if_neg b1, if_neg c35, if_neg b21] | rw [p_gain, if_neg b1, if_pos c35, if_pos b21] | rw [p_gain, if_neg b1, if_pos c35, if_neg b21], rfl⟩
      · refine lv_iinc (v := (((12 - ((h - 60) / 8)) + 4) + (-3))) (lv' := [(2, .int (((12 - ((h - 60) / 8)) + 4) + (-3))), (0, .ref (ad r)), (1, .int h)]) hx hb dX0_gain_38 hl (k := 0) rfl rfl (by decide) rfl (fun ls hl => ?_)
        refine lv_iload_n hx hb dX0_gain_41 rfl (lv_at hl 0 rfl) ?_
        refine lv_sipush (v := 400) hx hb dX0_gain_42 (by decide) ?_
        refine lv_aload_n hx hb dX0_gain_45 rfl (lv_at hl 1 rfl) ?_
        refine m_get inX0 hF hC hO (mU_self) rfl 2 (by decide) q_77 (v := .int (φ 2)) rfl dX0_gain_46 ?_
        refine lv_isub hx hb dX0_gain_49 ?_
        refine m_min hF hl.1 q_245 q_246 q_14 q_247 (Nat.le_of_ble_eq_true rfl) (Nat.le_of_ble_eq_true rfl) ⟨Nat.le_of_ble_eq_true rfl, Nat.le_of_ble_eq_true rfl⟩ dX0_gain_50 ?_
        rw [mU_id (show R r = some (frO φ) from h0)] at hO
        refine m_iret hF hr hlk hQ rfl hO hS dX0_gain_53 ?_
        exact ⟨by first | rw [p_gain, if_neg b1, if_neg c35, if_pos b21] | rw [p_gain, if_neg b1, if_neg c35, if_neg b21] | rw [p_gain, if_neg b1, if_pos c35, if_pos b21] | rw [p_gain, if_neg b1, if_pos c35, if_neg b21], rfl⟩
    · rw [hR] at hO
      refine lv_if_eq (tgt := 30) hx hb dX0_gain_24 (by decide) (fun c24 => ?_) (fun c24 => absurd (by decide) c24)
      refine lv_aload_n hx hb dX0_gain_30 rfl (lv_at hl 1 rfl) ?_
      refine m_get inX0 hF hC hO (mU_self) rfl 0 (by decide) q_72 (v := .int (φ 0)) rfl dX0_gain_31 ?_
      refine lv_iconst (v := 3) hx hb dX0_gain_34 (by decide) ?_
      refine lv_icmp_ne (tgt := 41) hx hb dX0_gain_35 (by decide) (fun c35 => ?_) (fun c35 => ?_)
      · refine lv_iload_n hx hb dX0_gain_41 rfl (lv_at hl 0 rfl) ?_
        refine lv_sipush (v := 400) hx hb dX0_gain_42 (by decide) ?_
        refine lv_aload_n hx hb dX0_gain_45 rfl (lv_at hl 1 rfl) ?_
        refine m_get inX0 hF hC hO (mU_self) rfl 2 (by decide) q_77 (v := .int (φ 2)) rfl dX0_gain_46 ?_
        refine lv_isub hx hb dX0_gain_49 ?_
        refine m_min hF hl.1 q_245 q_246 q_14 q_247 (Nat.le_of_ble_eq_true rfl) (Nat.le_of_ble_eq_true rfl) ⟨Nat.le_of_ble_eq_true rfl, Nat.le_of_ble_eq_true rfl⟩ dX0_gain_50 ?_
        rw [mU_id (show R r = some (frO φ) from h0)] at hO
        refine m_iret hF hr hlk hQ rfl hO hS dX0_gain_53 ?_
        exact ⟨by first | rw [p_gain, if_neg b1, if_neg c35, if_pos b21] | rw [p_gain, if_neg b1, if_neg c35, if_neg b21] | rw [p_gain, if_neg b1, if_pos c35, if_pos b21] | rw [p_gain, if_neg b1, if_pos c35, if_neg b21], rfl⟩
      · refine lv_iinc (v := ((12 - ((h - 60) / 8)) + (-3))) (lv' := [(2, .int ((12 - ((h - 60) / 8)) + (-3))), (0, .ref (ad r)), (1, .int h)]) hx hb dX0_gain_38 hl (k := 0) rfl rfl (by decide) rfl (fun ls hl => ?_)
        refine lv_iload_n hx hb dX0_gain_41 rfl (lv_at hl 0 rfl) ?_
        refine lv_sipush (v := 400) hx hb dX0_gain_42 (by decide) ?_
        refine lv_aload_n hx hb dX0_gain_45 rfl (lv_at hl 1 rfl) ?_
        refine m_get inX0 hF hC hO (mU_self) rfl 2 (by decide) q_77 (v := .int (φ 2)) rfl dX0_gain_46 ?_
        refine lv_isub hx hb dX0_gain_49 ?_
        refine m_min hF hl.1 q_245 q_246 q_14 q_247 (Nat.le_of_ble_eq_true rfl) (Nat.le_of_ble_eq_true rfl) ⟨Nat.le_of_ble_eq_true rfl, Nat.le_of_ble_eq_true rfl⟩ dX0_gain_50 ?_
        rw [mU_id (show R r = some (frO φ) from h0)] at hO
        refine m_iret hF hr hlk hQ rfl hO hS dX0_gain_53 ?_
        exact ⟨by first | rw [p_gain, if_neg b1, if_neg c35, if_pos b21] | rw [p_gain, if_neg b1, if_neg c35, if_neg b21] | rw [p_gain, if_neg b1, if_pos c35, if_pos b21] | rw [p_gain, if_neg b1, if_pos c35, if_neg b21], rfl⟩
theorem ok_X0_canBeDipped : mOK RX0 yX0_canBeDipped cX0_canBeDipped 2 (some .boolean) 1 := ⟨q_225, q_226, q_5, q_227, by decide +kernel⟩
set_option maxHeartbeats 400000 in
set_option maxRecDepth 100000 in
theorem k_X0_canBeDipped (l : Launch) (G : mG) (lo : Nat) (sa : mSc) (ad : Nat → Nat) (R : mM) (r : Nat) (v : Nat) (φ : Nat → Int32) (ν : Nat → Int32) (h0 : R r = some (frO φ)) (h1 : R v = some (vO ν)) (hrv : r ≠ v) : mI l yX0_canBeDipped cX0_canBeDipped 2 .boolean 2 43 G lo sa ad R [.ref (ad r), .ref (ad v)] (fun v R' => mBo (p_can φ ν) v ∧ R' = R) := by
  refine mI_of (by decide) (Nat.le_of_ble_eq_true rfl) ?_
  intro p e s m args below meth c hF hr hlk hC ls hl hO hS Q hQ
  have hx := hF.1
  have hb := hF.2.1
  have hl : lv_has ls 2 [(0, .ref (ad r)), (1, .ref (ad v))] := hl
  have hO : mO G lo ad (mU (mU R r (frO φ)) v (vO ν)) s.heap := by
    rw [mU_id h0, mU_id h1]
    exact hO
  refine lv_aload_n hx hb dX0_canBeDipped_0 rfl (lv_at hl 0 rfl) ?_
  refine m_vI (As := []) (rest := []) (n := 0) hF hC hO hS (k_X0_hangs l G lo sa ad _ r φ ((mU_ne hrv).trans (mU_self))) ok_X0_hangs q_228 ((mU_ne hrv).trans (mU_self)) rfl ⟨Nat.le_of_ble_eq_true rfl, Nat.le_of_ble_eq_true rfl⟩ rfl hl.1 rfl (Nat.le_of_ble_eq_true rfl) ⟨Nat.le_of_ble_eq_true rfl, Nat.le_of_ble_eq_true rfl⟩ dX0_canBeDipped_1 (fun v1 R' H locs hp hO hS => ?_)
  obtain ⟨⟨rfl, b1⟩ | ⟨rfl, b1⟩, hR⟩ := hp
  · rw [hR] at hO
    refine lv_if_eq (tgt := 37) hx hb dX0_canBeDipped_4 (by decide) (fun c4 => absurd c4 (by decide)) (fun c4 => ?_)
    refine lv_aload_n hx hb dX0_canBeDipped_7 rfl (lv_at hl 1 rfl) ?_
    refine m_vI (As := []) (rest := []) (n := 0) hF hC hO hS (k_X4_isMelted l G lo sa ad _ v ν (mU_self)) ok_X4_isMelted q_232 (mU_self) rfl ⟨Nat.le_of_ble_eq_true rfl, Nat.le_of_ble_eq_true rfl⟩ rfl hl.1 rfl (Nat.le_of_ble_eq_true rfl) ⟨Nat.le_of_ble_eq_true rfl, Nat.le_of_ble_eq_true rfl⟩ dX0_canBeDipped_8 (fun v8 R' H locs hp hO hS => ?_)
    obtain ⟨⟨rfl, b8⟩ | ⟨rfl, b8⟩, hR⟩ := hp
    · rw [hR] at hO
      refine lv_if_eq (tgt := 37) hx hb dX0_canBeDipped_11 (by decide) (fun c11 => absurd c11 (by decide)) (fun c11 => ?_)
      refine lv_aload_n hx hb dX0_canBeDipped_14 rfl (lv_at hl 0 rfl) ?_
      refine lv_aload_n hx hb dX0_canBeDipped_15 rfl (lv_at hl 0 rfl) ?_
      refine lv_aload_n hx hb dX0_canBeDipped_16 rfl (lv_at hl 1 rfl) ?_
      refine m_get inX4 hF hC hO (mU_self) rfl 1 (by decide) q_35 (v := .int (ν 1)) rfl dX0_canBeDipped_17 ?_
      refine m_vI (As := [.int (ν 1)]) (rest := [.ref (ad r)]) (n := 1) hF hC hO hS (k_X0_gain l G lo sa ad _ r φ (ν 1) ((mU_ne hrv).trans (mU_self))) ok_X0_gain q_233 ((mU_ne hrv).trans (mU_self)) rfl ⟨Nat.le_of_ble_eq_true rfl, Nat.le_of_ble_eq_true rfl⟩ rfl hl.1 rfl (Nat.le_of_ble_eq_true rfl) ⟨Nat.le_of_ble_eq_true rfl, Nat.le_of_ble_eq_true rfl⟩ dX0_canBeDipped_20 (fun v20 R' H locs hp hO hS => ?_)
      obtain ⟨rfl, hR⟩ := hp
      rw [hR] at hO
      refine m_vI (As := [.int (p_gain φ (ν 1))]) (rest := []) (n := 1) hF hC hO hS (k_X0_waxOf l G lo sa ad _ r φ (p_gain φ (ν 1)) ((mU_ne hrv).trans (mU_self))) ok_X0_waxOf q_248 ((mU_ne hrv).trans (mU_self)) rfl ⟨Nat.le_of_ble_eq_true rfl, Nat.le_of_ble_eq_true rfl⟩ rfl hl.1 rfl (Nat.le_of_ble_eq_true rfl) ⟨Nat.le_of_ble_eq_true rfl, Nat.le_of_ble_eq_true rfl⟩ dX0_canBeDipped_23 (fun v23 R' H locs hp hO hS => ?_)
      obtain ⟨rfl, hR⟩ := hp
      rw [hR] at hO
      refine lv_aload_n hx hb dX0_canBeDipped_26 rfl (lv_at hl 1 rfl) ?_
      refine m_get inX4 hF hC hO (mU_self) rfl 0 (by decide) q_32 (v := .int (ν 0)) rfl dX0_canBeDipped_27 ?_
      refine lv_icmp_gt (tgt := 37) hx hb dX0_canBeDipped_30 (by decide) (fun c30 => ?_) (fun c30 => ?_)
      · refine lv_iconst (v := 0) hx hb dX0_canBeDipped_37 (by decide) ?_
        rw [mU_id (show R r = some (frO φ) from h0)] at hO
        rw [mU_id (show R v = some (vO ν) from h1)] at hO
        refine m_iret hF hr hlk hQ rfl hO hS dX0_canBeDipped_38 ?_
        first | exact ⟨mBo_f (fun h => absurd h.2.2 (Int32.not_le.mpr c30)), rfl⟩ | exact ⟨mBo_f (fun h => b8 h.2.1), rfl⟩ | exact ⟨mBo_f (fun h => b1 h.1), rfl⟩
      · refine lv_iconst (v := 1) hx hb dX0_canBeDipped_33 (by decide) ?_
        refine lv_goto (tgt := 38) hx hb dX0_canBeDipped_34 (by decide) ?_
        rw [mU_id (show R r = some (frO φ) from h0)] at hO
        rw [mU_id (show R v = some (vO ν) from h1)] at hO
        refine m_iret hF hr hlk hQ rfl hO hS dX0_canBeDipped_38 ?_
        first | exact ⟨mBo_t ⟨b1, b8, Int32.not_lt.mp c30⟩, rfl⟩
    · rw [hR] at hO
      refine lv_if_eq (tgt := 37) hx hb dX0_canBeDipped_11 (by decide) (fun c11 => ?_) (fun c11 => absurd (by decide) c11)
      refine lv_iconst (v := 0) hx hb dX0_canBeDipped_37 (by decide) ?_
      rw [mU_id (show R r = some (frO φ) from h0)] at hO
      rw [mU_id (show R v = some (vO ν) from h1)] at hO
      refine m_iret hF hr hlk hQ rfl hO hS dX0_canBeDipped_38 ?_
      first | exact ⟨mBo_f (fun h => absurd h.2.2 (Int32.not_le.mpr c30)), rfl⟩ | exact ⟨mBo_f (fun h => b8 h.2.1), rfl⟩ | exact ⟨mBo_f (fun h => b1 h.1), rfl⟩
  · rw [hR] at hO
    refine lv_if_eq (tgt := 37) hx hb dX0_canBeDipped_4 (by decide) (fun c4 => ?_) (fun c4 => absurd (by decide) c4)
    refine lv_iconst (v := 0) hx hb dX0_canBeDipped_37 (by decide) ?_
    rw [mU_id (show R r = some (frO φ) from h0)] at hO
    rw [mU_id (show R v = some (vO ν) from h1)] at hO
    refine m_iret hF hr hlk hQ rfl hO hS dX0_canBeDipped_38 ?_
    first | exact ⟨mBo_f (fun h => absurd h.2.2 (Int32.not_le.mpr c30)), rfl⟩ | exact ⟨mBo_f (fun h => b8 h.2.1), rfl⟩ | exact ⟨mBo_f (fun h => b1 h.1), rfl⟩
theorem ok_X0_meltOff : mOK RX0 yX0_meltOff cX0_meltOff 2 none 1 := ⟨q_274, qs_2, q_5, q_275, by decide +kernel⟩
set_option maxHeartbeats 400000 in
set_option maxRecDepth 100000 in
theorem k_X0_meltOff (l : Launch) (G : mG) (lo : Nat) (sa : mSc) (ad : Nat → Nat) (R : mM) (r : Nat) (φ : Nat → Int32) (h : Int32) (h0 : R r = some (frO φ)) : mV l yX0_meltOff cX0_meltOff 2 1 21 G lo sa ad R [.ref (ad r), .int h] (fun R' => R' = (mU R r (frO (p_meltF φ h)))) := by
  refine mV_of (by decide) (Nat.le_of_ble_eq_true rfl) ?_
  intro p e s m args below meth c hF hr hlk hC ls hl hO hS Q hQ
  have hx := hF.1
  have hb := hF.2.1
  have hl : lv_has ls 2 [(0, .ref (ad r)), (1, .int h)] := hl
  have hO : mO G lo ad (mU R r (frO φ)) s.heap := by
    rw [mU_id h0]
    exact hO
  refine lv_aload_n hx hb dX0_meltOff_0 rfl (lv_at hl 0 rfl) ?_
  refine lv_iconst (v := 0) hx hb dX0_meltOff_1 (by decide) ?_
  refine lv_aload_n hx hb dX0_meltOff_2 rfl (lv_at hl 0 rfl) ?_
  refine m_get inX0 hF hC hO (mU_self) rfl 2 (by decide) q_77 (v := .int (φ 2)) rfl dX0_meltOff_3 ?_
  refine lv_iload_n hx hb dX0_meltOff_6 rfl (lv_at hl 1 rfl) ?_
  refine lv_bipush (v := 55) hx hb dX0_meltOff_7 (by decide) ?_
  refine lv_isub hx hb dX0_meltOff_9 ?_
  refine lv_iconst (v := 5) hx hb dX0_meltOff_10 (by decide) ?_
  refine lv_idiv hx hb dX0_meltOff_11 (by decide) ?_
  refine lv_isub hx hb dX0_meltOff_12 ?_
  refine m_max hF hl.1 q_276 q_277 q_14 q_278 (Nat.le_of_ble_eq_true rfl) (Nat.le_of_ble_eq_true rfl) ⟨Nat.le_of_ble_eq_true rfl, Nat.le_of_ble_eq_true rfl⟩ dX0_meltOff_13 ?_
  refine m_put (ty := .int) tyX0 tyX0_ok nmX0 inX0 hF hC hO hS (mU_self) rfl 2 (by decide) q_77 rfl (by decide +kernel) rfl rfl (fs' := [.int (φ 0), .int (φ 1), .int (jmax 0 ((φ 2) - ((h - 55) / 5))), .int (φ 3), .int (φ 4), .int (φ 5), .int (φ 6)]) (Nat.le_of_ble_eq_true rfl) rfl dX0_meltOff_16 (fun H locs hO hS => ?_)
  have hO : mO G lo ad (mU (mU R r (frO φ)) r (frO (upd φ 2 (jmax 0 ((φ 2) - ((h - 55) / 5)))))) H := hO
  rw [mU_mU] at hO
  refine lv_aload_n hx hb dX0_meltOff_19 rfl (lv_at hl 0 rfl) ?_
  refine m_vI (As := []) (rest := []) (n := 0) hF hC hO hS (k_X0_isBare l G lo sa ad _ r (upd φ 2 (jmax 0 ((φ 2) - ((h - 55) / 5)))) (mU_self)) ok_X0_isBare q_241 (mU_self) rfl ⟨Nat.le_of_ble_eq_true rfl, Nat.le_of_ble_eq_true rfl⟩ rfl hl.1 rfl (Nat.le_of_ble_eq_true rfl) ⟨Nat.le_of_ble_eq_true rfl, Nat.le_of_ble_eq_true rfl⟩ dX0_meltOff_20 (fun v20 R' H locs hp hO hS => ?_)
  obtain ⟨⟨rfl, b20⟩ | ⟨rfl, b20⟩, hR⟩ := hp
  · rw [hR] at hO
    refine lv_if_eq (tgt := 31) hx hb dX0_meltOff_23 (by decide) (fun c23 => absurd c23 (by decide)) (fun c23 => ?_)
    refine lv_aload_n hx hb dX0_meltOff_26 rfl (lv_at hl 0 rfl) ?_
    refine lv_iconst (v := 0) hx hb dX0_meltOff_27 (by decide) ?_
    refine m_put (ty := .boolean) tyX0 tyX0_ok nmX0 inX0 hF hC hO hS (mU_self) rfl 4 (by decide) q_81 rfl (by decide +kernel) rfl rfl (fs' := [.int (φ 0), .int (φ 1), .int (jmax 0 ((φ 2) - ((h - 55) / 5))), .int (φ 3), .int 0, .int (φ 5), .int (φ 6)]) (Nat.le_of_ble_eq_true rfl) rfl dX0_meltOff_28 (fun H locs hO hS => ?_)
    have hO : mO G lo ad (mU (mU R r (frO (upd φ 2 (jmax 0 ((φ 2) - ((h - 55) / 5)))))) r (frO (upd (upd φ 2 (jmax 0 ((φ 2) - ((h - 55) / 5)))) 4 0))) H := hO
    rw [mU_mU] at hO
    refine lv_aload_n hx hb dX0_meltOff_31 rfl (lv_at hl 0 rfl) ?_
    refine lv_bipush (v := 100) hx hb dX0_meltOff_32 (by decide) ?_
    refine m_put (ty := .int) tyX0 tyX0_ok nmX0 inX0 hF hC hO hS (mU_self) rfl 3 (by decide) q_79 rfl (by decide +kernel) rfl rfl (fs' := [.int (φ 0), .int (φ 1), .int (jmax 0 ((φ 2) - ((h - 55) / 5))), .int 100, .int 0, .int (φ 5), .int (φ 6)]) (Nat.le_of_ble_eq_true rfl) rfl dX0_meltOff_34 (fun H locs hO hS => ?_)
    have hO : mO G lo ad (mU (mU R r (frO (upd (upd φ 2 (jmax 0 ((φ 2) - ((h - 55) / 5)))) 4 0))) r (frO (upd (upd (upd φ 2 (jmax 0 ((φ 2) - ((h - 55) / 5)))) 4 0) 3 100))) H := hO
    rw [mU_mU] at hO
    refine m_vret hF hr hlk hQ hO hS dX0_meltOff_37 ?_
    first | (rw [p_meltF, if_pos (show jmax 0 (φ 2 - (h - 55) / 5) = 0 from b20)]; done) | (rw [p_meltF, if_neg (show ¬ jmax 0 (φ 2 - (h - 55) / 5) = 0 from b20)]; done)
  · rw [hR] at hO
    refine lv_if_eq (tgt := 31) hx hb dX0_meltOff_23 (by decide) (fun c23 => ?_) (fun c23 => absurd (by decide) c23)
    refine lv_aload_n hx hb dX0_meltOff_31 rfl (lv_at hl 0 rfl) ?_
    refine lv_bipush (v := 100) hx hb dX0_meltOff_32 (by decide) ?_
    refine m_put (ty := .int) tyX0 tyX0_ok nmX0 inX0 hF hC hO hS (mU_self) rfl 3 (by decide) q_79 rfl (by decide +kernel) rfl rfl (fs' := [.int (φ 0), .int (φ 1), .int (jmax 0 ((φ 2) - ((h - 55) / 5))), .int 100, .int (φ 4), .int (φ 5), .int (φ 6)]) (Nat.le_of_ble_eq_true rfl) rfl dX0_meltOff_34 (fun H locs hO hS => ?_)
    have hO : mO G lo ad (mU (mU R r (frO (upd φ 2 (jmax 0 ((φ 2) - ((h - 55) / 5)))))) r (frO (upd (upd φ 2 (jmax 0 ((φ 2) - ((h - 55) / 5)))) 3 100))) H := hO
    rw [mU_mU] at hO
    refine m_vret hF hr hlk hQ hO hS dX0_meltOff_37 ?_
    first | (rw [p_meltF, if_pos (show jmax 0 (φ 2 - (h - 55) / 5) = 0 from b20)]; done) | (rw [p_meltF, if_neg (show ¬ jmax 0 (φ 2 - (h - 55) / 5) = 0 from b20)]; done)
theorem ok_X0_takeUp : mOK RX0 yX0_takeUp cX0_takeUp 3 none 1 := ⟨q_281, qs_3, q_5, q_282, by decide +kernel⟩
set_option maxHeartbeats 400000 in
set_option maxRecDepth 100000 in
theorem k_X0_takeUp (l : Launch) (G : mG) (lo : Nat) (sa : mSc) (ad : Nat → Nat) (R : mM) (r : Nat) (v : Nat) (φ : Nat → Int32) (ν : Nat → Int32) (h0 : R r = some (frO φ)) (h1 : R v = some (vO ν)) (hrv : r ≠ v) : mV l yX0_takeUp cX0_takeUp 3 2 43 G lo sa ad R [.ref (ad r), .ref (ad v)] (fun R' => R' = (mU (mU R r (frO (p_upF φ (ν 1)))) v (vO (p_upV φ ν)))) := by
  refine mV_of (by decide) (Nat.le_of_ble_eq_true rfl) ?_
  intro p e s m args below meth c hF hr hlk hC ls hl hO hS Q hQ
  have hx := hF.1
  have hb := hF.2.1
  have hl : lv_has ls 3 [(0, .ref (ad r)), (1, .ref (ad v))] := hl
  have hO : mO G lo ad (mU (mU R r (frO φ)) v (vO ν)) s.heap := by
    rw [mU_id h0, mU_id h1]
    exact hO
  refine lv_aload_n hx hb dX0_takeUp_0 rfl (lv_at hl 0 rfl) ?_
  refine lv_aload_n hx hb dX0_takeUp_1 rfl (lv_at hl 1 rfl) ?_
  refine m_get inX4 hF hC hO (mU_self) rfl 1 (by decide) q_35 (v := .int (ν 1)) rfl dX0_takeUp_2 ?_
  refine m_vI (As := [.int (ν 1)]) (rest := []) (n := 1) hF hC hO hS (k_X0_gain l G lo sa ad _ r φ (ν 1) ((mU_ne hrv).trans (mU_self))) ok_X0_gain q_233 ((mU_ne hrv).trans (mU_self)) rfl ⟨Nat.le_of_ble_eq_true rfl, Nat.le_of_ble_eq_true rfl⟩ rfl hl.1 rfl (Nat.le_of_ble_eq_true rfl) ⟨Nat.le_of_ble_eq_true rfl, Nat.le_of_ble_eq_true rfl⟩ dX0_takeUp_5 (fun v5 R' H locs hp hO hS => ?_)
  obtain ⟨rfl, hR⟩ := hp
  rw [hR] at hO
  refine lv_istore_n (lv' := [(2, .int (p_gain φ (ν 1))), (0, .ref (ad r)), (1, .ref (ad v))]) hx hb dX0_takeUp_8 rfl hl (by decide) rfl (fun ls hl => ?_)
  refine lv_aload_n hx hb dX0_takeUp_9 rfl (lv_at hl 1 rfl) ?_
  refine m_vI (As := []) (rest := []) (n := 0) hF hC hO hS (k_X0_isBare l G lo sa ad _ r φ ((mU_ne hrv).trans (mU_self))) ok_X0_isBare q_241 ((mU_ne hrv).trans (mU_self)) rfl ⟨Nat.le_of_ble_eq_true rfl, Nat.le_of_ble_eq_true rfl⟩ rfl hl.1 rfl (Nat.le_of_ble_eq_true rfl) ⟨Nat.le_of_ble_eq_true rfl, Nat.le_of_ble_eq_true rfl⟩ dX0_takeUp_10 (fun v10 R' H locs hp hO hS => ?_)
  obtain ⟨⟨rfl, b10⟩ | ⟨rfl, b10⟩, hR⟩ := hp
  · rw [hR] at hO
    refine lv_if_ne (tgt := 30) hx hb dX0_takeUp_13 (by decide) (fun c13 => ?_) (fun c13 => absurd c13 (by decide))
    refine lv_aload_n hx hb dX0_takeUp_30 rfl (lv_at hl 2 rfl) ?_
    refine lv_dup hx hb dX0_takeUp_31 rfl ?_
    refine m_get inX4 hF hC hO (mU_self) rfl 0 (by decide) q_32 (v := .int (ν 0)) rfl dX0_takeUp_32 ?_
    refine lv_aload_n hx hb dX0_takeUp_35 rfl (lv_at hl 1 rfl) ?_
    refine lv_iload_n hx hb dX0_takeUp_36 rfl (lv_at hl 0 rfl) ?_
    refine m_vI (As := [.int (p_gain φ (ν 1))]) (rest := [.int (ν 0), .ref (ad v)]) (n := 1) hF hC hO hS (k_X0_waxOf l G lo sa ad _ r φ (p_gain φ (ν 1)) ((mU_ne hrv).trans (mU_self))) ok_X0_waxOf q_248 ((mU_ne hrv).trans (mU_self)) rfl ⟨Nat.le_of_ble_eq_true rfl, Nat.le_of_ble_eq_true rfl⟩ rfl hl.1 rfl (Nat.le_of_ble_eq_true rfl) ⟨Nat.le_of_ble_eq_true rfl, Nat.le_of_ble_eq_true rfl⟩ dX0_takeUp_37 (fun v37 R' H locs hp hO hS => ?_)
    obtain ⟨rfl, hR⟩ := hp
    rw [hR] at hO
    refine lv_isub hx hb dX0_takeUp_40 ?_
    refine m_put (ty := .int) tyX4 tyX4_ok nmX4 inX4 hF hC hO hS (mU_self) rfl 0 (by decide) q_32 rfl (by decide +kernel) rfl rfl (fs' := [.int ((ν 0) - (p_wax φ (p_gain φ (ν 1)))), .int (ν 1), .int (ν 2)]) (Nat.le_of_ble_eq_true rfl) rfl dX0_takeUp_41 (fun H locs hO hS => ?_)
    have hO : mO G lo ad (mU (mU (mU R r (frO φ)) v (vO ν)) v (vO (upd ν 0 ((ν 0) - (p_wax φ (p_gain φ (ν 1))))))) H := hO
    rw [mU_mU] at hO
    refine lv_aload_n hx hb dX0_takeUp_44 rfl (lv_at hl 1 rfl) ?_
    refine lv_dup hx hb dX0_takeUp_45 rfl ?_
    refine m_get inX0 hF hC hO ((mU_ne hrv).trans (mU_self)) rfl 2 (by decide) q_77 (v := .int (φ 2)) rfl dX0_takeUp_46 ?_
    refine lv_iload_n hx hb dX0_takeUp_49 rfl (lv_at hl 0 rfl) ?_
    refine lv_iadd hx hb dX0_takeUp_50 ?_
    refine m_put (ty := .int) tyX0 tyX0_ok nmX0 inX0 hF hC hO hS ((mU_ne hrv).trans (mU_self)) rfl 2 (by decide) q_77 rfl (by decide +kernel) rfl rfl (fs' := [.int (φ 0), .int (φ 1), .int ((φ 2) + (p_gain φ (ν 1))), .int (φ 3), .int (φ 4), .int (φ 5), .int (φ 6)]) (Nat.le_of_ble_eq_true rfl) rfl dX0_takeUp_51 (fun H locs hO hS => ?_)
    have hO : mO G lo ad (mU (mU (mU R r (frO φ)) v (vO (upd ν 0 ((ν 0) - (p_wax φ (p_gain φ (ν 1))))))) r (frO (upd φ 2 ((φ 2) + (p_gain φ (ν 1)))))) H := hO
    rw [mU_sw hrv, mU_mU] at hO
    refine lv_aload_n hx hb dX0_takeUp_54 rfl (lv_at hl 1 rfl) ?_
    refine lv_bipush (v := 100) hx hb dX0_takeUp_55 (by decide) ?_
    refine lv_aload_n hx hb dX0_takeUp_57 rfl (lv_at hl 1 rfl) ?_
    refine m_get inX0 hF hC hO ((mU_ne hrv).trans (mU_self)) rfl 3 (by decide) q_79 (v := .int (φ 3)) rfl dX0_takeUp_58 ?_
    refine lv_aload_n hx hb dX0_takeUp_61 rfl (lv_at hl 2 rfl) ?_
    refine m_get inX4 hF hC hO (mU_self) rfl 1 (by decide) q_35 (v := .int (ν 1)) rfl dX0_takeUp_62 ?_
    refine lv_iadd hx hb dX0_takeUp_65 ?_
    refine lv_iconst (v := 2) hx hb dX0_takeUp_66 (by decide) ?_
    refine lv_idiv hx hb dX0_takeUp_67 (by decide) ?_
    refine m_min hF hl.1 q_245 q_246 q_14 q_247 (Nat.le_of_ble_eq_true rfl) (Nat.le_of_ble_eq_true rfl) ⟨Nat.le_of_ble_eq_true rfl, Nat.le_of_ble_eq_true rfl⟩ dX0_takeUp_68 ?_
    refine m_put (ty := .int) tyX0 tyX0_ok nmX0 inX0 hF hC hO hS ((mU_ne hrv).trans (mU_self)) rfl 3 (by decide) q_79 rfl (by decide +kernel) rfl rfl (fs' := [.int (φ 0), .int (φ 1), .int ((φ 2) + (p_gain φ (ν 1))), .int (jmin 100 (((φ 3) + (ν 1)) / 2)), .int (φ 4), .int (φ 5), .int (φ 6)]) (Nat.le_of_ble_eq_true rfl) rfl dX0_takeUp_71 (fun H locs hO hS => ?_)
    have hO : mO G lo ad (mU (mU (mU R r (frO (upd φ 2 ((φ 2) + (p_gain φ (ν 1)))))) v (vO (upd ν 0 ((ν 0) - (p_wax φ (p_gain φ (ν 1))))))) r (frO (upd (upd φ 2 ((φ 2) + (p_gain φ (ν 1)))) 3 (jmin 100 (((φ 3) + (ν 1)) / 2))))) H := hO
    rw [mU_sw hrv, mU_mU] at hO
    refine m_vret hF hr hlk hQ hO hS dX0_takeUp_74 ?_
    first | (rw [p_upF, if_pos (⟨b10, Int32.not_le.mp c22⟩ : φ 2 ≠ 0 ∧ φ 3 < 10)]; rfl) | (rw [p_upF, if_neg (fun h => absurd h.2 (Int32.not_lt.mpr c22) : ¬ (φ 2 ≠ 0 ∧ φ 3 < 10))]; rfl) | (rw [p_upF, if_neg (fun h => h.1 b10 : ¬ (φ 2 ≠ 0 ∧ φ 3 < 10))]; rfl)
  · rw [hR] at hO
    refine lv_if_ne (tgt := 30) hx hb dX0_takeUp_13 (by decide) (fun c13 => absurd (by decide) c13) (fun c13 => ?_)
    refine lv_aload_n hx hb dX0_takeUp_16 rfl (lv_at hl 1 rfl) ?_
    refine m_get inX0 hF hC hO ((mU_ne hrv).trans (mU_self)) rfl 3 (by decide) q_79 (v := .int (φ 3)) rfl dX0_takeUp_17 ?_
    refine lv_bipush (v := 10) hx hb dX0_takeUp_20 (by decide) ?_
    refine lv_icmp_ge (tgt := 30) hx hb dX0_takeUp_22 (by decide) (fun c22 => ?_) (fun c22 => ?_)
    · refine lv_aload_n hx hb dX0_takeUp_30 rfl (lv_at hl 2 rfl) ?_
      refine lv_dup hx hb dX0_takeUp_31 rfl ?_
      refine m_get inX4 hF hC hO (mU_self) rfl 0 (by decide) q_32 (v := .int (ν 0)) rfl dX0_takeUp_32 ?_
      refine lv_aload_n hx hb dX0_takeUp_35 rfl (lv_at hl 1 rfl) ?_
      refine lv_iload_n hx hb dX0_takeUp_36 rfl (lv_at hl 0 rfl) ?_
      refine m_vI (As := [.int (p_gain φ (ν 1))]) (rest := [.int (ν 0), .ref (ad v)]) (n := 1) hF hC hO hS (k_X0_waxOf l G lo sa ad _ r φ (p_gain φ (ν 1)) ((mU_ne hrv).trans (mU_self))) ok_X0_waxOf q_248 ((mU_ne hrv).trans (mU_self)) rfl ⟨Nat.le_of_ble_eq_true rfl, Nat.le_of_ble_eq_true rfl⟩ rfl hl.1 rfl (Nat.le_of_ble_eq_true rfl) ⟨Nat.le_of_ble_eq_true rfl, Nat.le_of_ble_eq_true rfl⟩ dX0_takeUp_37 (fun v37 R' H locs hp hO hS => ?_)
      obtain ⟨rfl, hR⟩ := hp
      rw [hR] at hO
      refine lv_isub hx hb dX0_takeUp_40 ?_
      refine m_put (ty := .int) tyX4 tyX4_ok nmX4 inX4 hF hC hO hS (mU_self) rfl 0 (by decide) q_32 rfl (by decide +kernel) rfl rfl (fs' := [.int ((ν 0) - (p_wax φ (p_gain φ (ν 1)))), .int (ν 1), .int (ν 2)]) (Nat.le_of_ble_eq_true rfl) rfl dX0_takeUp_41 (fun H locs hO hS => ?_)
      have hO : mO G lo ad (mU (mU (mU R r (frO φ)) v (vO ν)) v (vO (upd ν 0 ((ν 0) - (p_wax φ (p_gain φ (ν 1))))))) H := hO
      rw [mU_mU] at hO
      refine lv_aload_n hx hb dX0_takeUp_44 rfl (lv_at hl 1 rfl) ?_
      refine lv_dup hx hb dX0_takeUp_45 rfl ?_
      refine m_get inX0 hF hC hO ((mU_ne hrv).trans (mU_self)) rfl 2 (by decide) q_77 (v := .int (φ 2)) rfl dX0_takeUp_46 ?_
      refine lv_iload_n hx hb dX0_takeUp_49 rfl (lv_at hl 0 rfl) ?_
      refine lv_iadd hx hb dX0_takeUp_50 ?_
      refine m_put (ty := .int) tyX0 tyX0_ok nmX0 inX0 hF hC hO hS ((mU_ne hrv).trans (mU_self)) rfl 2 (by decide) q_77 rfl (by decide +kernel) rfl rfl (fs' := [.int (φ 0), .int (φ 1), .int ((φ 2) + (p_gain φ (ν 1))), .int (φ 3), .int (φ 4), .int (φ 5), .int (φ 6)]) (Nat.le_of_ble_eq_true rfl) rfl dX0_takeUp_51 (fun H locs hO hS => ?_)
      have hO : mO G lo ad (mU (mU (mU R r (frO φ)) v (vO (upd ν 0 ((ν 0) - (p_wax φ (p_gain φ (ν 1))))))) r (frO (upd φ 2 ((φ 2) + (p_gain φ (ν 1)))))) H := hO
      rw [mU_sw hrv, mU_mU] at hO
      refine lv_aload_n hx hb dX0_takeUp_54 rfl (lv_at hl 1 rfl) ?_
      refine lv_bipush (v := 100) hx hb dX0_takeUp_55 (by decide) ?_
      refine lv_aload_n hx hb dX0_takeUp_57 rfl (lv_at hl 1 rfl) ?_
      refine m_get inX0 hF hC hO ((mU_ne hrv).trans (mU_self)) rfl 3 (by decide) q_79 (v := .int (φ 3)) rfl dX0_takeUp_58 ?_
      refine lv_aload_n hx hb dX0_takeUp_61 rfl (lv_at hl 2 rfl) ?_
      refine m_get inX4 hF hC hO (mU_self) rfl 1 (by decide) q_35 (v := .int (ν 1)) rfl dX0_takeUp_62 ?_
      refine lv_iadd hx hb dX0_takeUp_65 ?_
      refine lv_iconst (v := 2) hx hb dX0_takeUp_66 (by decide) ?_
      refine lv_idiv hx hb dX0_takeUp_67 (by decide) ?_
      refine m_min hF hl.1 q_245 q_246 q_14 q_247 (Nat.le_of_ble_eq_true rfl) (Nat.le_of_ble_eq_true rfl) ⟨Nat.le_of_ble_eq_true rfl, Nat.le_of_ble_eq_true rfl⟩ dX0_takeUp_68 ?_
      refine m_put (ty := .int) tyX0 tyX0_ok nmX0 inX0 hF hC hO hS ((mU_ne hrv).trans (mU_self)) rfl 3 (by decide) q_79 rfl (by decide +kernel) rfl rfl (fs' := [.int (φ 0), .int (φ 1), .int ((φ 2) + (p_gain φ (ν 1))), .int (jmin 100 (((φ 3) + (ν 1)) / 2)), .int (φ 4), .int (φ 5), .int (φ 6)]) (Nat.le_of_ble_eq_true rfl) rfl dX0_takeUp_71 (fun H locs hO hS => ?_)
      have hO : mO G lo ad (mU (mU (mU R r (frO (upd φ 2 ((φ 2) + (p_gain φ (ν 1)))))) v (vO (upd ν 0 ((ν 0) - (p_wax φ (p_gain φ (ν 1))))))) r (frO (upd (upd φ 2 ((φ 2) + (p_gain φ (ν 1)))) 3 (jmin 100 (((φ 3) + (ν 1)) / 2))))) H := hO
      rw [mU_sw hrv, mU_mU] at hO
      refine m_vret hF hr hlk hQ hO hS dX0_takeUp_74 ?_
      first | (rw [p_upF, if_pos (⟨b10, Int32.not_le.mp c22⟩ : φ 2 ≠ 0 ∧ φ 3 < 10)]; rfl) | (rw [p_upF, if_neg (fun h => absurd h.2 (Int32.not_lt.mpr c22) : ¬ (φ 2 ≠ 0 ∧ φ 3 < 10))]; rfl) | (rw [p_upF, if_neg (fun h => h.1 b10 : ¬ (φ 2 ≠ 0 ∧ φ 3 < 10))]; rfl)
    · refine lv_aload_n hx hb dX0_takeUp_25 rfl (lv_at hl 1 rfl) ?_
      refine lv_iconst (v := 1) hx hb dX0_takeUp_26 (by decide) ?_
      refine m_put (ty := .boolean) tyX0 tyX0_ok nmX0 inX0 hF hC hO hS ((mU_ne hrv).trans (mU_self)) rfl 4 (by decide) q_81 rfl (by decide +kernel) rfl rfl (fs' := [.int (φ 0), .int (φ 1), .int (φ 2), .int (φ 3), .int 1, .int (φ 5), .int (φ 6)]) (Nat.le_of_ble_eq_true rfl) rfl dX0_takeUp_27 (fun H locs hO hS => ?_)
      have hO : mO G lo ad (mU (mU (mU R r (frO φ)) v (vO ν)) r (frO (upd φ 4 1))) H := hO
      rw [mU_sw hrv, mU_mU] at hO
      refine lv_aload_n hx hb dX0_takeUp_30 rfl (lv_at hl 2 rfl) ?_
      refine lv_dup hx hb dX0_takeUp_31 rfl ?_
      refine m_get inX4 hF hC hO (mU_self) rfl 0 (by decide) q_32 (v := .int (ν 0)) rfl dX0_takeUp_32 ?_
      refine lv_aload_n hx hb dX0_takeUp_35 rfl (lv_at hl 1 rfl) ?_
      refine lv_iload_n hx hb dX0_takeUp_36 rfl (lv_at hl 0 rfl) ?_
      refine m_vI (As := [.int (p_gain φ (ν 1))]) (rest := [.int (ν 0), .ref (ad v)]) (n := 1) hF hC hO hS (k_X0_waxOf l G lo sa ad _ r (upd φ 4 1) (p_gain φ (ν 1)) ((mU_ne hrv).trans (mU_self))) ok_X0_waxOf q_248 ((mU_ne hrv).trans (mU_self)) rfl ⟨Nat.le_of_ble_eq_true rfl, Nat.le_of_ble_eq_true rfl⟩ rfl hl.1 rfl (Nat.le_of_ble_eq_true rfl) ⟨Nat.le_of_ble_eq_true rfl, Nat.le_of_ble_eq_true rfl⟩ dX0_takeUp_37 (fun v37 R' H locs hp hO hS => ?_)
      obtain ⟨rfl, hR⟩ := hp
      rw [hR] at hO
      refine lv_isub hx hb dX0_takeUp_40 ?_
      refine m_put (ty := .int) tyX4 tyX4_ok nmX4 inX4 hF hC hO hS (mU_self) rfl 0 (by decide) q_32 rfl (by decide +kernel) rfl rfl (fs' := [.int ((ν 0) - (p_wax (upd φ 4 1) (p_gain φ (ν 1)))), .int (ν 1), .int (ν 2)]) (Nat.le_of_ble_eq_true rfl) rfl dX0_takeUp_41 (fun H locs hO hS => ?_)
      have hO : mO G lo ad (mU (mU (mU R r (frO (upd φ 4 1))) v (vO ν)) v (vO (upd ν 0 ((ν 0) - (p_wax (upd φ 4 1) (p_gain φ (ν 1))))))) H := hO
      rw [mU_mU] at hO
      refine lv_aload_n hx hb dX0_takeUp_44 rfl (lv_at hl 1 rfl) ?_
      refine lv_dup hx hb dX0_takeUp_45 rfl ?_
      refine m_get inX0 hF hC hO ((mU_ne hrv).trans (mU_self)) rfl 2 (by decide) q_77 (v := .int (φ 2)) rfl dX0_takeUp_46 ?_
      refine lv_iload_n hx hb dX0_takeUp_49 rfl (lv_at hl 0 rfl) ?_
      refine lv_iadd hx hb dX0_takeUp_50 ?_
      refine m_put (ty := .int) tyX0 tyX0_ok nmX0 inX0 hF hC hO hS ((mU_ne hrv).trans (mU_self)) rfl 2 (by decide) q_77 rfl (by decide +kernel) rfl rfl (fs' := [.int (φ 0), .int (φ 1), .int ((φ 2) + (p_gain φ (ν 1))), .int (φ 3), .int 1, .int (φ 5), .int (φ 6)]) (Nat.le_of_ble_eq_true rfl) rfl dX0_takeUp_51 (fun H locs hO hS => ?_)
      have hO : mO G lo ad (mU (mU (mU R r (frO (upd φ 4 1))) v (vO (upd ν 0 ((ν 0) - (p_wax (upd φ 4 1) (p_gain φ (ν 1))))))) r (frO (upd (upd φ 4 1) 2 ((φ 2) + (p_gain φ (ν 1)))))) H := hO
      rw [mU_sw hrv, mU_mU] at hO
      refine lv_aload_n hx hb dX0_takeUp_54 rfl (lv_at hl 1 rfl) ?_
      refine lv_bipush (v := 100) hx hb dX0_takeUp_55 (by decide) ?_
      refine lv_aload_n hx hb dX0_takeUp_57 rfl (lv_at hl 1 rfl) ?_
      refine m_get inX0 hF hC hO ((mU_ne hrv).trans (mU_self)) rfl 3 (by decide) q_79 (v := .int (φ 3)) rfl dX0_takeUp_58 ?_
      refine lv_aload_n hx hb dX0_takeUp_61 rfl (lv_at hl 2 rfl) ?_
      refine m_get inX4 hF hC hO (mU_self) rfl 1 (by decide) q_35 (v := .int (ν 1)) rfl dX0_takeUp_62 ?_
      refine lv_iadd hx hb dX0_takeUp_65 ?_
      refine lv_iconst (v := 2) hx hb dX0_takeUp_66 (by decide) ?_
      refine lv_idiv hx hb dX0_takeUp_67 (by decide) ?_
      refine m_min hF hl.1 q_245 q_246 q_14 q_247 (Nat.le_of_ble_eq_true rfl) (Nat.le_of_ble_eq_true rfl) ⟨Nat.le_of_ble_eq_true rfl, Nat.le_of_ble_eq_true rfl⟩ dX0_takeUp_68 ?_
      refine m_put (ty := .int) tyX0 tyX0_ok nmX0 inX0 hF hC hO hS ((mU_ne hrv).trans (mU_self)) rfl 3 (by decide) q_79 rfl (by decide +kernel) rfl rfl (fs' := [.int (φ 0), .int (φ 1), .int ((φ 2) + (p_gain φ (ν 1))), .int (jmin 100 (((φ 3) + (ν 1)) / 2)), .int 1, .int (φ 5), .int (φ 6)]) (Nat.le_of_ble_eq_true rfl) rfl dX0_takeUp_71 (fun H locs hO hS => ?_)
      have hO : mO G lo ad (mU (mU (mU R r (frO (upd (upd φ 4 1) 2 ((φ 2) + (p_gain φ (ν 1)))))) v (vO (upd ν 0 ((ν 0) - (p_wax (upd φ 4 1) (p_gain φ (ν 1))))))) r (frO (upd (upd (upd φ 4 1) 2 ((φ 2) + (p_gain φ (ν 1)))) 3 (jmin 100 (((φ 3) + (ν 1)) / 2))))) H := hO
      rw [mU_sw hrv, mU_mU] at hO
      refine m_vret hF hr hlk hQ hO hS dX0_takeUp_74 ?_
      first | (rw [p_upF, if_pos (⟨b10, Int32.not_le.mp c22⟩ : φ 2 ≠ 0 ∧ φ 3 < 10)]; rfl) | (rw [p_upF, if_neg (fun h => absurd h.2 (Int32.not_lt.mpr c22) : ¬ (φ 2 ≠ 0 ∧ φ 3 < 10))]; rfl) | (rw [p_upF, if_neg (fun h => h.1 b10 : ¬ (φ 2 ≠ 0 ∧ φ 3 < 10))]; rfl)
theorem ok_X0_immerse : mOK RX0 yX0_immerse cX0_immerse 2 none 1 := ⟨q_269, q_270, q_5, q_271, by decide +kernel⟩
set_option maxHeartbeats 400000 in
set_option maxRecDepth 100000 in
theorem k_X0_immerse (l : Launch) (G : mG) (lo : Nat) (sa : mSc) (ad : Nat → Nat) (R : mM) (r : Nat) (v : Nat) (φ : Nat → Int32) (ν : Nat → Int32) (h0 : R r = some (frO φ)) (h1 : R v = some (vO ν)) (hrv : r ≠ v) : mV l yX0_immerse cX0_immerse 2 3 65 G lo sa ad R [.ref (ad r), .ref (ad v)] (fun R' => R' = (mU (mU R r (frO (p_dipF φ (ν 1)))) v (vO (p_dipV φ ν)))) := by
  refine mV_of (by decide) (Nat.le_of_ble_eq_true rfl) ?_
  intro p e s m args below meth c hF hr hlk hC ls hl hO hS Q hQ
  have hx := hF.1
  have hb := hF.2.1
  have hl : lv_has ls 2 [(0, .ref (ad r)), (1, .ref (ad v))] := hl
  have hO : mO G lo ad (mU (mU R r (frO φ)) v (vO ν)) s.heap := by
    rw [mU_id h0, mU_id h1]
    exact hO
  refine lv_aload_n hx hb dX0_immerse_0 rfl (lv_at hl 0 rfl) ?_
  refine lv_dup hx hb dX0_immerse_1 rfl ?_
  refine m_get inX0 hF hC hO ((mU_ne hrv).trans (mU_self)) rfl 6 (by decide) q_85 (v := .int (φ 6)) rfl dX0_immerse_2 ?_
  refine lv_iconst (v := 1) hx hb dX0_immerse_5 (by decide) ?_
  refine lv_iadd hx hb dX0_immerse_6 ?_
  refine m_put (ty := .int) tyX0 tyX0_ok nmX0 inX0 hF hC hO hS ((mU_ne hrv).trans (mU_self)) rfl 6 (by decide) q_85 rfl (by decide +kernel) rfl rfl (fs' := [.int (φ 0), .int (φ 1), .int (φ 2), .int (φ 3), .int (φ 4), .int (φ 5), .int ((φ 6) + 1)]) (Nat.le_of_ble_eq_true rfl) rfl dX0_immerse_7 (fun H locs hO hS => ?_)
  have hO : mO G lo ad (mU (mU (mU R r (frO φ)) v (vO ν)) r (frO (upd φ 6 ((φ 6) + 1)))) H := hO
  rw [mU_sw hrv, mU_mU] at hO
  refine lv_aload_n hx hb dX0_immerse_10 rfl (lv_at hl 0 rfl) ?_
  refine m_vI (As := []) (rest := []) (n := 0) hF hC hO hS (k_X0_meltsWhenDipped l G lo sa ad _ r (upd φ 6 ((φ 6) + 1)) ((mU_ne hrv).trans (mU_self))) ok_X0_meltsWhenDipped q_237 ((mU_ne hrv).trans (mU_self)) rfl ⟨Nat.le_of_ble_eq_true rfl, Nat.le_of_ble_eq_true rfl⟩ rfl hl.1 rfl (Nat.le_of_ble_eq_true rfl) ⟨Nat.le_of_ble_eq_true rfl, Nat.le_of_ble_eq_true rfl⟩ dX0_immerse_11 (fun v11 R' H locs hp hO hS => ?_)
  obtain ⟨⟨rfl, b11⟩ | ⟨rfl, b11⟩, hR⟩ := hp
  · rw [hR] at hO
    refine lv_if_eq (tgt := 28) hx hb dX0_immerse_14 (by decide) (fun c14 => absurd c14 (by decide)) (fun c14 => ?_)
    refine lv_aload_n hx hb dX0_immerse_17 rfl (lv_at hl 0 rfl) ?_
    refine lv_aload_n hx hb dX0_immerse_18 rfl (lv_at hl 1 rfl) ?_
    refine m_get inX4 hF hC hO (mU_self) rfl 1 (by decide) q_35 (v := .int (ν 1)) rfl dX0_immerse_19 ?_
    refine m_vV (As := [.int (ν 1)]) (rest := []) (n := 1) hF hC hO hS (k_X0_meltOff l G lo sa ad _ r (upd φ 6 ((φ 6) + 1)) (ν 1) ((mU_ne hrv).trans (mU_self))) ok_X0_meltOff q_272 ((mU_ne hrv).trans (mU_self)) rfl ⟨Nat.le_of_ble_eq_true rfl, Nat.le_of_ble_eq_true rfl⟩ rfl hl.1 rfl (Nat.le_of_ble_eq_true rfl) ⟨Nat.le_of_ble_eq_true rfl, Nat.le_of_ble_eq_true rfl⟩ dX0_immerse_22 (fun R' H locs hp hO hS => ?_)
    have hR := hp
    rw [hR] at hO
    have hO : mO G lo ad (mU (mU (mU R r (frO (upd φ 6 ((φ 6) + 1)))) v (vO ν)) r (frO (p_meltF (upd φ 6 ((φ 6) + 1)) (ν 1)))) H := hO
    rw [mU_sw hrv, mU_mU] at hO
    refine lv_goto (tgt := 33) hx hb dX0_immerse_25 (by decide) ?_
    refine m_vret hF hr hlk hQ hO hS dX0_immerse_33 ?_
    first | (rw [p_dipF, p_dipV, if_pos (show 70 < φ 3 from b11), if_pos (show 70 < φ 3 from b11)]; done) | (rw [p_dipF, p_dipV, if_neg (show ¬ 70 < φ 3 from b11), if_neg (show ¬ 70 < φ 3 from b11)]; done)
  · rw [hR] at hO
    refine lv_if_eq (tgt := 28) hx hb dX0_immerse_14 (by decide) (fun c14 => ?_) (fun c14 => absurd (by decide) c14)
    refine lv_aload_n hx hb dX0_immerse_28 rfl (lv_at hl 0 rfl) ?_
    refine lv_aload_n hx hb dX0_immerse_29 rfl (lv_at hl 1 rfl) ?_
    refine m_vV (As := [.ref (ad v)]) (rest := []) (n := 1) hF hC hO hS (k_X0_takeUp l G lo sa ad _ r v (upd φ 6 ((φ 6) + 1)) ν ((mU_ne hrv).trans (mU_self)) (mU_self) hrv) ok_X0_takeUp q_279 ((mU_ne hrv).trans (mU_self)) rfl ⟨Nat.le_of_ble_eq_true rfl, Nat.le_of_ble_eq_true rfl⟩ rfl hl.1 rfl (Nat.le_of_ble_eq_true rfl) ⟨Nat.le_of_ble_eq_true rfl, Nat.le_of_ble_eq_true rfl⟩ dX0_immerse_30 (fun R' H locs hp hO hS => ?_)
    have hR := hp
    rw [hR] at hO
    have hO : mO G lo ad (mU (mU (mU (mU R r (frO (upd φ 6 ((φ 6) + 1)))) v (vO ν)) r (frO (p_upF (upd φ 6 ((φ 6) + 1)) (ν 1)))) v (vO (p_upV (upd φ 6 ((φ 6) + 1)) ν))) H := hO
    rw [mU_sw hrv, mU_mU] at hO
    rw [mU_mU] at hO
    refine m_vret hF hr hlk hQ hO hS dX0_immerse_33 ?_
    first | (rw [p_dipF, p_dipV, if_pos (show 70 < φ 3 from b11), if_pos (show 70 < φ 3 from b11)]; done) | (rw [p_dipF, p_dipV, if_neg (show ¬ 70 < φ 3 from b11), if_neg (show ¬ 70 < φ 3 from b11)]; done)
theorem ok_X0_coolingOfPlace : mOK RX0 yX0_coolingOfPlace cX0_coolingOfPlace 1 (some .int) 0 := ⟨q_299, qs_5, q_5, q_300, by decide +kernel⟩
set_option maxHeartbeats 400000 in
set_option maxRecDepth 100000 in
theorem k_X0_coolingOfPlace (l : Launch) (G : mG) (lo : Nat) (sa : mSc) (ad : Nat → Nat) (R : mM) (r : Nat) (φ : Nat → Int32) (h0 : R r = some (frO φ)) : mI l yX0_coolingOfPlace cX0_coolingOfPlace 1 .int 1 20 G lo sa ad R [.ref (ad r)] (fun v R' => v = (p_cooling φ) ∧ R' = R) := by
  refine mI_of (by decide) (Nat.le_of_ble_eq_true rfl) ?_
  intro p e s m args below meth c hF hr hlk hC ls hl hO hS Q hQ
  have hx := hF.1
  have hb := hF.2.1
  have hl : lv_has ls 1 [(0, .ref (ad r))] := hl
  have hO : mO G lo ad (mU R r (frO φ)) s.heap := by
    rw [mU_id h0]
    exact hO
  refine lv_aload_n hx hb dX0_coolingOfPlace_0 rfl (lv_at hl 0 rfl) ?_
  refine m_vI (As := []) (rest := []) (n := 0) hF hC hO hS (k_X0_hangs l G lo sa ad _ r φ (mU_self)) ok_X0_hangs q_228 (mU_self) rfl ⟨Nat.le_of_ble_eq_true rfl, Nat.le_of_ble_eq_true rfl⟩ rfl hl.1 rfl (Nat.le_of_ble_eq_true rfl) ⟨Nat.le_of_ble_eq_true rfl, Nat.le_of_ble_eq_true rfl⟩ dX0_coolingOfPlace_1 (fun v1 R' H locs hp hO hS => ?_)
  obtain ⟨⟨rfl, b1⟩ | ⟨rfl, b1⟩, hR⟩ := hp
  · rw [hR] at hO
    refine lv_if_ne (tgt := 9) hx hb dX0_coolingOfPlace_4 (by decide) (fun c4 => ?_) (fun c4 => absurd c4 (by decide))
    refine lv_aload_n hx hb dX0_coolingOfPlace_9 rfl (lv_at hl 0 rfl) ?_
    refine m_get inX0 hF hC hO (mU_self) rfl 5 (by decide) q_83 (v := .int (φ 5)) rfl dX0_coolingOfPlace_10 ?_
    refine lv_bipush (v := 6) hx hb dX0_coolingOfPlace_13 (by decide) ?_
    refine lv_icmp_ge (tgt := 23) hx hb dX0_coolingOfPlace_15 (by decide) (fun c15 => ?_) (fun c15 => ?_)
    · refine lv_bipush (v := 6) hx hb dX0_coolingOfPlace_23 (by decide) ?_
      rw [mU_id (show R r = some (frO φ) from h0)] at hO
      refine m_iret hF hr hlk hQ rfl hO hS dX0_coolingOfPlace_25 ?_
      exact ⟨by rw [p_cooling, if_neg b1, if_neg (Int32.not_lt.mpr c15)], rfl⟩
    · refine lv_bipush (v := 12) hx hb dX0_coolingOfPlace_18 (by decide) ?_
      refine lv_goto (tgt := 25) hx hb dX0_coolingOfPlace_20 (by decide) ?_
      rw [mU_id (show R r = some (frO φ) from h0)] at hO
      refine m_iret hF hr hlk hQ rfl hO hS dX0_coolingOfPlace_25 ?_
      exact ⟨by rw [p_cooling, if_neg b1, if_pos (Int32.not_le.mp c15)], rfl⟩
  · rw [hR] at hO
    refine lv_if_ne (tgt := 9) hx hb dX0_coolingOfPlace_4 (by decide) (fun c4 => absurd (by decide) c4) (fun c4 => ?_)
    refine lv_iconst (v := 3) hx hb dX0_coolingOfPlace_7 (by decide) ?_
    rw [mU_id (show R r = some (frO φ) from h0)] at hO
    refine m_iret hF hr hlk hQ rfl hO hS dX0_coolingOfPlace_8 ?_
    exact ⟨(if_pos (Classical.not_not.mp b1)).symm, rfl⟩
theorem ok_X0_cool : mOK RX0 yX0_cool cX0_cool 1 none 0 := ⟨q_294, q_295, q_5, q_296, by decide +kernel⟩
set_option maxHeartbeats 400000 in
set_option maxRecDepth 100000 in
theorem k_X0_cool (l : Launch) (G : mG) (lo : Nat) (sa : mSc) (ad : Nat → Nat) (R : mM) (r : Nat) (φ : Nat → Int32) (h0 : R r = some (frO φ)) : mV l yX0_cool cX0_cool 1 2 40 G lo sa ad R [.ref (ad r)] (fun R' => R' = (mU R r (frO (p_coolF φ)))) := by
  refine mV_of (by decide) (Nat.le_of_ble_eq_true rfl) ?_
  intro p e s m args below meth c hF hr hlk hC ls hl hO hS Q hQ
  have hx := hF.1
  have hb := hF.2.1
  have hl : lv_has ls 1 [(0, .ref (ad r))] := hl
  have hO : mO G lo ad (mU R r (frO φ)) s.heap := by
    rw [mU_id h0]
    exact hO
  refine lv_aload_n hx hb dX0_cool_0 rfl (lv_at hl 0 rfl) ?_
  refine lv_iconst (v := 0) hx hb dX0_cool_1 (by decide) ?_
  refine lv_aload_n hx hb dX0_cool_2 rfl (lv_at hl 0 rfl) ?_
  refine m_get inX0 hF hC hO (mU_self) rfl 3 (by decide) q_79 (v := .int (φ 3)) rfl dX0_cool_3 ?_
  refine lv_aload_n hx hb dX0_cool_6 rfl (lv_at hl 0 rfl) ?_
  refine m_vI (As := []) (rest := [.int (φ 3), .int 0, .ref (ad r)]) (n := 0) hF hC hO hS (k_X0_coolingOfPlace l G lo sa ad _ r φ (mU_self)) ok_X0_coolingOfPlace q_297 (mU_self) rfl ⟨Nat.le_of_ble_eq_true rfl, Nat.le_of_ble_eq_true rfl⟩ rfl hl.1 rfl (Nat.le_of_ble_eq_true rfl) ⟨Nat.le_of_ble_eq_true rfl, Nat.le_of_ble_eq_true rfl⟩ dX0_cool_7 (fun v7 R' H locs hp hO hS => ?_)
  obtain ⟨rfl, hR⟩ := hp
  rw [hR] at hO
  refine lv_isub hx hb dX0_cool_10 ?_
  refine m_max hF hl.1 q_276 q_277 q_14 q_278 (Nat.le_of_ble_eq_true rfl) (Nat.le_of_ble_eq_true rfl) ⟨Nat.le_of_ble_eq_true rfl, Nat.le_of_ble_eq_true rfl⟩ dX0_cool_11 ?_
  refine m_put (ty := .int) tyX0 tyX0_ok nmX0 inX0 hF hC hO hS (mU_self) rfl 3 (by decide) q_79 rfl (by decide +kernel) rfl rfl (fs' := [.int (φ 0), .int (φ 1), .int (φ 2), .int (jmax 0 ((φ 3) - (p_cooling φ))), .int (φ 4), .int (φ 5), .int (φ 6)]) (Nat.le_of_ble_eq_true rfl) rfl dX0_cool_14 (fun H locs hO hS => ?_)
  have hO : mO G lo ad (mU (mU R r (frO φ)) r (frO (upd φ 3 (jmax 0 ((φ 3) - (p_cooling φ)))))) H := hO
  rw [mU_mU] at hO
  refine m_vret hF hr hlk hQ hO hS dX0_cool_17 ?_
  rfl
theorem ok_X0_size : mOK RX0 yX0_size cX0_size 1 (some .int) 0 := ⟨q_316, q_317, q_5, q_318, by decide +kernel⟩
set_option maxHeartbeats 400000 in
set_option maxRecDepth 100000 in
theorem k_X0_size (l : Launch) (G : mG) (lo : Nat) (sa : mSc) (ad : Nat → Nat) (R : mM) (r : Nat) (φ : Nat → Int32) (h0 : R r = some (frO φ)) : mI l yX0_size cX0_size 1 .int 1 21 G lo sa ad R [.ref (ad r)] (fun v R' => v = (p_size φ) ∧ R' = R) := by
  refine mI_of (by decide) (Nat.le_of_ble_eq_true rfl) ?_
  intro p e s m args below meth c hF hr hlk hC ls hl hO hS Q hQ
  have hx := hF.1
  have hb := hF.2.1
  have hl : lv_has ls 1 [(0, .ref (ad r))] := hl
  have hO : mO G lo ad (mU R r (frO φ)) s.heap := by
    rw [mU_id h0]
    exact hO
  refine lv_bipush (v := 9) hx hb dX0_size_0 (by decide) ?_
  refine lv_aload_n hx hb dX0_size_2 rfl (lv_at hl 0 rfl) ?_
  refine m_get inX0 hF hC hO (mU_self) rfl 2 (by decide) q_77 (v := .int (φ 2)) rfl dX0_size_3 ?_
  refine lv_aload_n hx hb dX0_size_6 rfl (lv_at hl 0 rfl) ?_
  refine m_get inX0 hF hC hO (mU_self) rfl 4 (by decide) q_81 (v := .int (φ 4)) rfl dX0_size_7 ?_
  refine lv_if_eq (tgt := 18) hx hb dX0_size_10 (by decide) (fun c10 => ?_) (fun c10 => ?_)
  · refine lv_bipush (v := 40) hx hb dX0_size_18 (by decide) ?_
    refine lv_idiv hx hb dX0_size_20 (by decide) ?_
    refine m_min hF hl.1 q_245 q_246 q_14 q_247 (Nat.le_of_ble_eq_true rfl) (Nat.le_of_ble_eq_true rfl) ⟨Nat.le_of_ble_eq_true rfl, Nat.le_of_ble_eq_true rfl⟩ dX0_size_21 ?_
    rw [mU_id (show R r = some (frO φ) from h0)] at hO
    refine m_iret hF hr hlk hQ rfl hO hS dX0_size_24 ?_
    exact ⟨by first | rw [p_size, if_pos c10] | rw [p_size, if_neg c10], rfl⟩
  · refine lv_bipush (v := 80) hx hb dX0_size_13 (by decide) ?_
    refine lv_goto (tgt := 20) hx hb dX0_size_15 (by decide) ?_
    refine lv_idiv hx hb dX0_size_20 (by decide) ?_
    refine m_min hF hl.1 q_245 q_246 q_14 q_247 (Nat.le_of_ble_eq_true rfl) (Nat.le_of_ble_eq_true rfl) ⟨Nat.le_of_ble_eq_true rfl, Nat.le_of_ble_eq_true rfl⟩ dX0_size_21 ?_
    rw [mU_id (show R r = some (frO φ) from h0)] at hO
    refine m_iret hF hr hlk hQ rfl hO hS dX0_size_24 ?_
    exact ⟨by first | rw [p_size, if_pos c10] | rw [p_size, if_neg c10], rfl⟩
theorem ok_X0_renewWicks : mOK RX0 yX0_renewWicks cX0_renewWicks 1 none 0 := ⟨q_335, q_336, q_5, q_337, by decide +kernel⟩
set_option maxHeartbeats 400000 in
set_option maxRecDepth 100000 in
theorem k_X0_renewWicks (l : Launch) (G : mG) (lo : Nat) (sa : mSc) (ad : Nat → Nat) (R : mM) (r : Nat) (φ : Nat → Int32) (h0 : R r = some (frO φ)) : mV l yX0_renewWicks cX0_renewWicks 1 0 0 G lo sa ad R [.ref (ad r)] (fun R' => R' = (mU R r (frO (p_renewF φ)))) := by
  refine mV_of (by decide) (Nat.le_of_ble_eq_true rfl) ?_
  intro p e s m args below meth c hF hr hlk hC ls hl hO hS Q hQ
  have hx := hF.1
  have hb := hF.2.1
  have hl : lv_has ls 1 [(0, .ref (ad r))] := hl
  have hO : mO G lo ad (mU R r (frO φ)) s.heap := by
    rw [mU_id h0]
    exact hO
  refine lv_aload_n hx hb dX0_renewWicks_0 rfl (lv_at hl 0 rfl) ?_
  refine lv_iconst (v := 0) hx hb dX0_renewWicks_1 (by decide) ?_
  refine m_put (ty := .int) tyX0 tyX0_ok nmX0 inX0 hF hC hO hS (mU_self) rfl 2 (by decide) q_77 rfl (by decide +kernel) rfl rfl (fs' := [.int (φ 0), .int (φ 1), .int 0, .int (φ 3), .int (φ 4), .int (φ 5), .int (φ 6)]) (Nat.le_of_ble_eq_true rfl) rfl dX0_renewWicks_2 (fun H locs hO hS => ?_)
  have hO : mO G lo ad (mU (mU R r (frO φ)) r (frO (upd φ 2 0))) H := hO
  rw [mU_mU] at hO
  refine lv_aload_n hx hb dX0_renewWicks_5 rfl (lv_at hl 0 rfl) ?_
  refine lv_iconst (v := 0) hx hb dX0_renewWicks_6 (by decide) ?_
  refine m_put (ty := .int) tyX0 tyX0_ok nmX0 inX0 hF hC hO hS (mU_self) rfl 3 (by decide) q_79 rfl (by decide +kernel) rfl rfl (fs' := [.int (φ 0), .int (φ 1), .int 0, .int 0, .int (φ 4), .int (φ 5), .int (φ 6)]) (Nat.le_of_ble_eq_true rfl) rfl dX0_renewWicks_7 (fun H locs hO hS => ?_)
  have hO : mO G lo ad (mU (mU R r (frO (upd φ 2 0))) r (frO (upd (upd φ 2 0) 3 0))) H := hO
  rw [mU_mU] at hO
  refine lv_aload_n hx hb dX0_renewWicks_10 rfl (lv_at hl 0 rfl) ?_
  refine lv_iconst (v := 0) hx hb dX0_renewWicks_11 (by decide) ?_
  refine m_put (ty := .boolean) tyX0 tyX0_ok nmX0 inX0 hF hC hO hS (mU_self) rfl 4 (by decide) q_81 rfl (by decide +kernel) rfl rfl (fs' := [.int (φ 0), .int (φ 1), .int 0, .int 0, .int 0, .int (φ 5), .int (φ 6)]) (Nat.le_of_ble_eq_true rfl) rfl dX0_renewWicks_12 (fun H locs hO hS => ?_)
  have hO : mO G lo ad (mU (mU R r (frO (upd (upd φ 2 0) 3 0))) r (frO (upd (upd (upd φ 2 0) 3 0) 4 0))) H := hO
  rw [mU_mU] at hO
  refine lv_aload_n hx hb dX0_renewWicks_15 rfl (lv_at hl 0 rfl) ?_
  refine lv_iconst (v := 0) hx hb dX0_renewWicks_16 (by decide) ?_
  refine m_put (ty := .int) tyX0 tyX0_ok nmX0 inX0 hF hC hO hS (mU_self) rfl 6 (by decide) q_85 rfl (by decide +kernel) rfl rfl (fs' := [.int (φ 0), .int (φ 1), .int 0, .int 0, .int 0, .int (φ 5), .int 0]) (Nat.le_of_ble_eq_true rfl) rfl dX0_renewWicks_17 (fun H locs hO hS => ?_)
  have hO : mO G lo ad (mU (mU R r (frO (upd (upd (upd φ 2 0) 3 0) 4 0))) r (frO (upd (upd (upd (upd φ 2 0) 3 0) 4 0) 6 0))) H := hO
  rw [mU_mU] at hO
  refine m_vret hF hr hlk hQ hO hS dX0_renewWicks_20 ?_
  rfl
theorem ok_X0_copyFrom : mOK RX0 yX0_copyFrom cX0_copyFrom 2 none 1 := ⟨q_424, q_425, q_5, q_426, by decide +kernel⟩
set_option maxHeartbeats 400000 in
set_option maxRecDepth 100000 in
theorem k_X0_copyFrom (l : Launch) (G : mG) (lo : Nat) (sa : mSc) (ad : Nat → Nat) (R : mM) (r : Nat) (v : Nat) (φ : Nat → Int32) (ψ : Nat → Int32) (h0 : R r = some (frO φ)) (h1 : R v = some (frO ψ)) (hrv : r ≠ v) (hb4 : ψ 4 = 0 ∨ ψ 4 = 1) : mV l yX0_copyFrom cX0_copyFrom 2 0 0 G lo sa ad R [.ref (ad r), .ref (ad v)] (fun R' => R' = (mU R r (frO ψ))) := by
  refine mV_of (by decide) (Nat.le_of_ble_eq_true rfl) ?_
  intro p e s m args below meth c hF hr hlk hC ls hl hO hS Q hQ
  have hx := hF.1
  have hb := hF.2.1
  have hl : lv_has ls 2 [(0, .ref (ad r)), (1, .ref (ad v))] := hl
  have hO : mO G lo ad (mU (mU R r (frO φ)) v (frO ψ)) s.heap := by
    rw [mU_id h0, mU_id h1]
    exact hO
  refine lv_aload_n hx hb dX0_copyFrom_0 rfl (lv_at hl 0 rfl) ?_
  refine lv_aload_n hx hb dX0_copyFrom_1 rfl (lv_at hl 1 rfl) ?_
  refine m_get inX0 hF hC hO (mU_self) rfl 0 (by decide) q_72 (v := .int (ψ 0)) rfl dX0_copyFrom_2 ?_
  refine m_put (ty := .int) tyX0 tyX0_ok nmX0 inX0 hF hC hO hS ((mU_ne hrv).trans (mU_self)) rfl 0 (by decide) q_72 rfl (by decide +kernel) rfl rfl (fs' := [.int (ψ 0), .int (φ 1), .int (φ 2), .int (φ 3), .int (φ 4), .int (φ 5), .int (φ 6)]) (Nat.le_of_ble_eq_true rfl) rfl dX0_copyFrom_5 (fun H locs hO hS => ?_)
  have hO : mO G lo ad (mU (mU (mU R r (frO φ)) v (frO ψ)) r (frO (upd φ 0 (ψ 0)))) H := hO
  rw [mU_sw hrv, mU_mU] at hO
  refine lv_aload_n hx hb dX0_copyFrom_8 rfl (lv_at hl 0 rfl) ?_
  refine lv_aload_n hx hb dX0_copyFrom_9 rfl (lv_at hl 1 rfl) ?_
  refine m_get inX0 hF hC hO (mU_self) rfl 1 (by decide) q_74 (v := .int (ψ 1)) rfl dX0_copyFrom_10 ?_
  refine m_put (ty := .int) tyX0 tyX0_ok nmX0 inX0 hF hC hO hS ((mU_ne hrv).trans (mU_self)) rfl 1 (by decide) q_74 rfl (by decide +kernel) rfl rfl (fs' := [.int (ψ 0), .int (ψ 1), .int (φ 2), .int (φ 3), .int (φ 4), .int (φ 5), .int (φ 6)]) (Nat.le_of_ble_eq_true rfl) rfl dX0_copyFrom_13 (fun H locs hO hS => ?_)
  have hO : mO G lo ad (mU (mU (mU R r (frO (upd φ 0 (ψ 0)))) v (frO ψ)) r (frO (upd (upd φ 0 (ψ 0)) 1 (ψ 1)))) H := hO
  rw [mU_sw hrv, mU_mU] at hO
  refine lv_aload_n hx hb dX0_copyFrom_16 rfl (lv_at hl 0 rfl) ?_
  refine lv_aload_n hx hb dX0_copyFrom_17 rfl (lv_at hl 1 rfl) ?_
  refine m_get inX0 hF hC hO (mU_self) rfl 2 (by decide) q_77 (v := .int (ψ 2)) rfl dX0_copyFrom_18 ?_
  refine m_put (ty := .int) tyX0 tyX0_ok nmX0 inX0 hF hC hO hS ((mU_ne hrv).trans (mU_self)) rfl 2 (by decide) q_77 rfl (by decide +kernel) rfl rfl (fs' := [.int (ψ 0), .int (ψ 1), .int (ψ 2), .int (φ 3), .int (φ 4), .int (φ 5), .int (φ 6)]) (Nat.le_of_ble_eq_true rfl) rfl dX0_copyFrom_21 (fun H locs hO hS => ?_)
  have hO : mO G lo ad (mU (mU (mU R r (frO (upd (upd φ 0 (ψ 0)) 1 (ψ 1)))) v (frO ψ)) r (frO (upd (upd (upd φ 0 (ψ 0)) 1 (ψ 1)) 2 (ψ 2)))) H := hO
  rw [mU_sw hrv, mU_mU] at hO
  refine lv_aload_n hx hb dX0_copyFrom_24 rfl (lv_at hl 0 rfl) ?_
  refine lv_aload_n hx hb dX0_copyFrom_25 rfl (lv_at hl 1 rfl) ?_
  refine m_get inX0 hF hC hO (mU_self) rfl 3 (by decide) q_79 (v := .int (ψ 3)) rfl dX0_copyFrom_26 ?_
  refine m_put (ty := .int) tyX0 tyX0_ok nmX0 inX0 hF hC hO hS ((mU_ne hrv).trans (mU_self)) rfl 3 (by decide) q_79 rfl (by decide +kernel) rfl rfl (fs' := [.int (ψ 0), .int (ψ 1), .int (ψ 2), .int (ψ 3), .int (φ 4), .int (φ 5), .int (φ 6)]) (Nat.le_of_ble_eq_true rfl) rfl dX0_copyFrom_29 (fun H locs hO hS => ?_)
  have hO : mO G lo ad (mU (mU (mU R r (frO (upd (upd (upd φ 0 (ψ 0)) 1 (ψ 1)) 2 (ψ 2)))) v (frO ψ)) r (frO (upd (upd (upd (upd φ 0 (ψ 0)) 1 (ψ 1)) 2 (ψ 2)) 3 (ψ 3)))) H := hO
  rw [mU_sw hrv, mU_mU] at hO
  refine lv_aload_n hx hb dX0_copyFrom_32 rfl (lv_at hl 0 rfl) ?_
  refine lv_aload_n hx hb dX0_copyFrom_33 rfl (lv_at hl 1 rfl) ?_
  refine m_get inX0 hF hC hO (mU_self) rfl 4 (by decide) q_81 (v := .int (ψ 4)) rfl dX0_copyFrom_34 ?_
  refine m_put (ty := .boolean) tyX0 tyX0_ok nmX0 inX0 hF hC hO hS ((mU_ne hrv).trans (mU_self)) rfl 4 (by decide) q_81 rfl (by decide +kernel) (by rcases hb4 with h | h <;> rw [h] <;> rfl) (by rcases hb4 with h | h <;> rw [h] <;> rfl) (fs' := [.int (ψ 0), .int (ψ 1), .int (ψ 2), .int (ψ 3), .int (ψ 4), .int (φ 5), .int (φ 6)]) (Nat.le_of_ble_eq_true rfl) rfl dX0_copyFrom_37 (fun H locs hO hS => ?_)
  have hO : mO G lo ad (mU (mU (mU R r (frO (upd (upd (upd (upd φ 0 (ψ 0)) 1 (ψ 1)) 2 (ψ 2)) 3 (ψ 3)))) v (frO ψ)) r (frO (upd (upd (upd (upd (upd φ 0 (ψ 0)) 1 (ψ 1)) 2 (ψ 2)) 3 (ψ 3)) 4 (ψ 4)))) H := hO
  rw [mU_sw hrv, mU_mU] at hO
  refine lv_aload_n hx hb dX0_copyFrom_40 rfl (lv_at hl 0 rfl) ?_
  refine lv_aload_n hx hb dX0_copyFrom_41 rfl (lv_at hl 1 rfl) ?_
  refine m_get inX0 hF hC hO (mU_self) rfl 5 (by decide) q_83 (v := .int (ψ 5)) rfl dX0_copyFrom_42 ?_
  refine m_put (ty := .int) tyX0 tyX0_ok nmX0 inX0 hF hC hO hS ((mU_ne hrv).trans (mU_self)) rfl 5 (by decide) q_83 rfl (by decide +kernel) rfl rfl (fs' := [.int (ψ 0), .int (ψ 1), .int (ψ 2), .int (ψ 3), .int (ψ 4), .int (ψ 5), .int (φ 6)]) (Nat.le_of_ble_eq_true rfl) rfl dX0_copyFrom_45 (fun H locs hO hS => ?_)
  have hO : mO G lo ad (mU (mU (mU R r (frO (upd (upd (upd (upd (upd φ 0 (ψ 0)) 1 (ψ 1)) 2 (ψ 2)) 3 (ψ 3)) 4 (ψ 4)))) v (frO ψ)) r (frO (upd (upd (upd (upd (upd (upd φ 0 (ψ 0)) 1 (ψ 1)) 2 (ψ 2)) 3 (ψ 3)) 4 (ψ 4)) 5 (ψ 5)))) H := hO
  rw [mU_sw hrv, mU_mU] at hO
  refine lv_aload_n hx hb dX0_copyFrom_48 rfl (lv_at hl 0 rfl) ?_
  refine lv_aload_n hx hb dX0_copyFrom_49 rfl (lv_at hl 1 rfl) ?_
  refine m_get inX0 hF hC hO (mU_self) rfl 6 (by decide) q_85 (v := .int (ψ 6)) rfl dX0_copyFrom_50 ?_
  refine m_put (ty := .int) tyX0 tyX0_ok nmX0 inX0 hF hC hO hS ((mU_ne hrv).trans (mU_self)) rfl 6 (by decide) q_85 rfl (by decide +kernel) rfl rfl (fs' := [.int (ψ 0), .int (ψ 1), .int (ψ 2), .int (ψ 3), .int (ψ 4), .int (ψ 5), .int (ψ 6)]) (Nat.le_of_ble_eq_true rfl) rfl dX0_copyFrom_53 (fun H locs hO hS => ?_)
  have hO : mO G lo ad (mU (mU (mU R r (frO (upd (upd (upd (upd (upd (upd φ 0 (ψ 0)) 1 (ψ 1)) 2 (ψ 2)) 3 (ψ 3)) 4 (ψ 4)) 5 (ψ 5)))) v (frO ψ)) r (frO (upd (upd (upd (upd (upd (upd (upd φ 0 (ψ 0)) 1 (ψ 1)) 2 (ψ 2)) 3 (ψ 3)) 4 (ψ 4)) 5 (ψ 5)) 6 (ψ 6)))) H := hO
  rw [mU_sw hrv, mU_mU] at hO
  rw [mU_id (show (mU R r (frO (upd (upd (upd (upd (upd (upd (upd φ 0 (ψ 0)) 1 (ψ 1)) 2 (ψ 2)) 3 (ψ 3)) 4 (ψ 4)) 5 (ψ 5)) 6 (ψ 6)))) v = some (frO ψ) from ((mU_ne (Ne.symm hrv)).trans h1))] at hO
  refine m_vret hF hr hlk hQ hO hS dX0_copyFrom_56 ?_
  rfl
theorem ok_X4_copyFrom : mOK RX4 yX4_copyFrom cX4_copyFrom 2 none 1 := ⟨q_428, q_429, q_2, q_430, by decide +kernel⟩
set_option maxHeartbeats 400000 in
set_option maxRecDepth 100000 in
theorem k_X4_copyFrom (l : Launch) (G : mG) (lo : Nat) (sa : mSc) (ad : Nat → Nat) (R : mM) (r : Nat) (v : Nat) (ν : Nat → Int32) (κ : Nat → Int32) (h0 : R r = some (vO ν)) (h1 : R v = some (vO κ)) (hrv : r ≠ v) : mV l yX4_copyFrom cX4_copyFrom 2 0 0 G lo sa ad R [.ref (ad r), .ref (ad v)] (fun R' => R' = (mU R r (vO κ))) := by
  refine mV_of (by decide) (Nat.le_of_ble_eq_true rfl) ?_
  intro p e s m args below meth c hF hr hlk hC ls hl hO hS Q hQ
  have hx := hF.1
  have hb := hF.2.1
  have hl : lv_has ls 2 [(0, .ref (ad r)), (1, .ref (ad v))] := hl
  have hO : mO G lo ad (mU (mU R r (vO ν)) v (vO κ)) s.heap := by
    rw [mU_id h0, mU_id h1]
    exact hO
  refine lv_aload_n hx hb dX4_copyFrom_0 rfl (lv_at hl 0 rfl) ?_
  refine lv_aload_n hx hb dX4_copyFrom_1 rfl (lv_at hl 1 rfl) ?_
  refine m_get inX4 hF hC hO (mU_self) rfl 0 (by decide) q_31 (v := .int (κ 0)) rfl dX4_copyFrom_2 ?_
  refine m_put (ty := .int) tyX4 tyX4_ok nmX4 inX4 hF hC hO hS ((mU_ne hrv).trans (mU_self)) rfl 0 (by decide) q_31 rfl (by decide +kernel) rfl rfl (fs' := [.int (κ 0), .int (ν 1), .int (ν 2)]) (Nat.le_of_ble_eq_true rfl) rfl dX4_copyFrom_5 (fun H locs hO hS => ?_)
  have hO : mO G lo ad (mU (mU (mU R r (vO ν)) v (vO κ)) r (vO (upd ν 0 (κ 0)))) H := hO
  rw [mU_sw hrv, mU_mU] at hO
  refine lv_aload_n hx hb dX4_copyFrom_8 rfl (lv_at hl 0 rfl) ?_
  refine lv_aload_n hx hb dX4_copyFrom_9 rfl (lv_at hl 1 rfl) ?_
  refine m_get inX4 hF hC hO (mU_self) rfl 1 (by decide) q_33 (v := .int (κ 1)) rfl dX4_copyFrom_10 ?_
  refine m_put (ty := .int) tyX4 tyX4_ok nmX4 inX4 hF hC hO hS ((mU_ne hrv).trans (mU_self)) rfl 1 (by decide) q_33 rfl (by decide +kernel) rfl rfl (fs' := [.int (κ 0), .int (κ 1), .int (ν 2)]) (Nat.le_of_ble_eq_true rfl) rfl dX4_copyFrom_13 (fun H locs hO hS => ?_)
  have hO : mO G lo ad (mU (mU (mU R r (vO (upd ν 0 (κ 0)))) v (vO κ)) r (vO (upd (upd ν 0 (κ 0)) 1 (κ 1)))) H := hO
  rw [mU_sw hrv, mU_mU] at hO
  refine lv_aload_n hx hb dX4_copyFrom_16 rfl (lv_at hl 0 rfl) ?_
  refine lv_aload_n hx hb dX4_copyFrom_17 rfl (lv_at hl 1 rfl) ?_
  refine m_get inX4 hF hC hO (mU_self) rfl 2 (by decide) q_37 (v := .int (κ 2)) rfl dX4_copyFrom_18 ?_
  refine m_put (ty := .int) tyX4 tyX4_ok nmX4 inX4 hF hC hO hS ((mU_ne hrv).trans (mU_self)) rfl 2 (by decide) q_37 rfl (by decide +kernel) rfl rfl (fs' := [.int (κ 0), .int (κ 1), .int (κ 2)]) (Nat.le_of_ble_eq_true rfl) rfl dX4_copyFrom_21 (fun H locs hO hS => ?_)
  have hO : mO G lo ad (mU (mU (mU R r (vO (upd (upd ν 0 (κ 0)) 1 (κ 1)))) v (vO κ)) r (vO (upd (upd (upd ν 0 (κ 0)) 1 (κ 1)) 2 (κ 2)))) H := hO
  rw [mU_sw hrv, mU_mU] at hO
  rw [mU_id (show (mU R r (vO (upd (upd (upd ν 0 (κ 0)) 1 (κ 1)) 2 (κ 2)))) v = some (vO κ) from ((mU_ne (Ne.symm hrv)).trans h1))] at hO
  refine m_vret hF hr hlk hQ hO hS dX4_copyFrom_24 ?_
  rfl
