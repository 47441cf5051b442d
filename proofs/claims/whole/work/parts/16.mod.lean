theorem ok_X6_isIn : mOS yX6_isIn cX6_isIn 3 (some .boolean) 3 := ⟨q_715, q_6, q_716, by decide +kernel⟩
set_option maxHeartbeats 400000 in
set_option maxRecDepth 100000 in
theorem k_X6_isIn (l : Launch) (G : mG) (lo : Nat) (sa ad : Nat → Nat) (R : mM) (x a b : Int32) : mI l yX6_isIn cX6_isIn 3 .boolean 0 0 G lo sa ad R [.int x, .int a, .int b] (fun v R' => mBo (p_in x a b) v ∧ R' = R) := by
  refine mI_of (by decide) (Nat.le_of_ble_eq_true rfl) ?_
  intro p e s m args below meth c hF hr hlk hC ls hl hO hS Q hQ
  have hx := hF.1
  have hb := hF.2.1
  have hl : lv_has ls 3 [(0, .int x), (1, .int a), (2, .int b)] := hl
  refine lv_iload_n hx hb dX6_isIn_0 rfl (lv_at hl 0 rfl) ?_
  refine lv_iload_n hx hb dX6_isIn_1 rfl (lv_at hl 1 rfl) ?_
  refine lv_icmp_lt (tgt := 14) hx hb dX6_isIn_2 (by decide) (fun c2 => ?_) (fun c2 => ?_)
  · refine lv_iconst (v := 0) hx hb dX6_isIn_14 (by decide) ?_
    refine m_iret hF hr hlk hQ rfl hO hS dX6_isIn_15 ?_
    first | exact ⟨mBo_f (fun h => absurd h.2 (Int32.not_le.mpr c7)), rfl⟩ | exact ⟨mBo_f (fun h => absurd h.1 (Int32.not_le.mpr c2)), rfl⟩
  · refine lv_iload_n hx hb dX6_isIn_5 rfl (lv_at hl 0 rfl) ?_
    refine lv_iload_n hx hb dX6_isIn_6 rfl (lv_at hl 2 rfl) ?_
    refine lv_icmp_gt (tgt := 14) hx hb dX6_isIn_7 (by decide) (fun c7 => ?_) (fun c7 => ?_)
    · refine lv_iconst (v := 0) hx hb dX6_isIn_14 (by decide) ?_
      refine m_iret hF hr hlk hQ rfl hO hS dX6_isIn_15 ?_
      first | exact ⟨mBo_f (fun h => absurd h.2 (Int32.not_le.mpr c7)), rfl⟩ | exact ⟨mBo_f (fun h => absurd h.1 (Int32.not_le.mpr c2)), rfl⟩
    · refine lv_iconst (v := 1) hx hb dX6_isIn_10 (by decide) ?_
      refine lv_goto (tgt := 15) hx hb dX6_isIn_11 (by decide) ?_
      refine m_iret hF hr hlk hQ rfl hO hS dX6_isIn_15 ?_
      exact ⟨mBo_t ⟨Int32.not_lt.mp c2, Int32.not_lt.mp c7⟩, rfl⟩
theorem ok_X6_size : mOS yX6_size cX6_size 2 (some .int) 2 := ⟨q_815, q_6, q_816, by decide +kernel⟩
set_option maxHeartbeats 400000 in
set_option maxRecDepth 100000 in
theorem k_X6_size (l : Launch) (G : mG) (lo : Nat) (sa ad : Nat → Nat) (R : mM) (t r : Int32) : mI l yX6_size cX6_size 2 .int 1 21 G lo sa ad R [.int t, .int r] (fun v R' => v = (m_size t r) ∧ R' = R) := by
  refine mI_of (by decide) (Nat.le_of_ble_eq_true rfl) ?_
  intro p e s m args below meth c hF hr hlk hC ls hl hO hS Q hQ
  have hx := hF.1
  have hb := hF.2.1
  have hl : lv_has ls 2 [(0, .int t), (1, .int r)] := hl
  refine lv_bipush (v := 9) hx hb dX6_size_0 (by decide) ?_
  refine lv_iload_n hx hb dX6_size_2 rfl (lv_at hl 0 rfl) ?_
  refine lv_iload_n hx hb dX6_size_3 rfl (lv_at hl 1 rfl) ?_
  refine lv_iconst (v := 1) hx hb dX6_size_4 (by decide) ?_
  refine lv_icmp_ne (tgt := 13) hx hb dX6_size_5 (by decide) (fun c5 => ?_) (fun c5 => ?_)
  · refine lv_bipush (v := 40) hx hb dX6_size_13 (by decide) ?_
    refine lv_idiv hx hb dX6_size_15 (by decide) ?_
    refine m_min hF hl.1 q_784 q_168 q_14 q_169 (Nat.le_of_ble_eq_true rfl) (Nat.le_of_ble_eq_true rfl) ⟨Nat.le_of_ble_eq_true rfl, Nat.le_of_ble_eq_true rfl⟩ dX6_size_16 ?_
    refine m_iret hF hr hlk hQ rfl hO hS dX6_size_19 ?_
    exact ⟨by first | rw [m_size, if_pos c5] | rw [m_size, if_neg c5], rfl⟩
  · refine lv_bipush (v := 80) hx hb dX6_size_8 (by decide) ?_
    refine lv_goto (tgt := 15) hx hb dX6_size_10 (by decide) ?_
    refine lv_idiv hx hb dX6_size_15 (by decide) ?_
    refine m_min hF hl.1 q_784 q_168 q_14 q_169 (Nat.le_of_ble_eq_true rfl) (Nat.le_of_ble_eq_true rfl) ⟨Nat.le_of_ble_eq_true rfl, Nat.le_of_ble_eq_true rfl⟩ dX6_size_16 ?_
    refine m_iret hF hr hlk hQ rfl hO hS dX6_size_19 ?_
    exact ⟨by first | rw [m_size, if_pos c5] | rw [m_size, if_neg c5], rfl⟩
theorem ok_X6_thrown : mOK RX6 yX6_thrown cX6_thrown 1 (some .int) 0 := ⟨q_707, q_708, q_6, q_709, by decide +kernel⟩
set_option maxHeartbeats 400000 in
set_option maxRecDepth 100000 in
theorem k_X6_thrown (l : Launch) (G : mG) (lo : Nat) (sa ad : Nat → Nat) (R : mM) (th : Int32) (g : Nat → Int32) (nf : Nat) (F : Nat → Nat → Int32) (f : Nat → Int32) (no : Nat) (O : Nat → Nat → Int32) (it ch : Nat → Int32) (hnf : nf ≤ 12) (hno : no ≤ 20) : mI l yX6_thrown cX6_thrown 1 .int 0 0 G lo sa ad (WM G ad th g nf F f no O it ch R) [.ref (ad 50)] (fun v R' => v = th ∧ R' = (WM G ad th g nf F f no O it ch R)) := by
  refine mI_of (by decide) (Nat.le_of_ble_eq_true rfl) ?_
  intro p e s m args below meth c hF hr hlk hC ls hl hO hS Q hQ
  have hx := hF.1
  have hb := hF.2.1
  have hl : lv_has ls 1 [(0, .ref (ad 50))] := hl
  refine lv_aload_n hx hb dX6_thrown_0 rfl (lv_at hl 0 rfl) ?_
  refine m_get inX6 hF hC hO rfl rfl 0 (by decide) q_662 (v := .int th) rfl dX6_thrown_1 ?_
  refine m_iret hF hr hlk hQ rfl hO hS dX6_thrown_4 ?_
  exact ⟨rfl, rfl⟩
theorem ok_X6_fail : mOK RX6 yX6_fail cX6_fail 2 (some .int) 1 := ⟨q_719, qs_18, q_6, q_720, by decide +kernel⟩
set_option maxHeartbeats 400000 in
set_option maxRecDepth 100000 in
theorem k_X6_fail (l : Launch) (G : mG) (lo : Nat) (sa ad : Nat → Nat) (R : mM) (th : Int32) (g : Nat → Int32) (nf : Nat) (F : Nat → Nat → Int32) (f : Nat → Int32) (no : Nat) (O : Nat → Nat → Int32) (it ch : Nat → Int32) (x : Int32) (hnf : nf ≤ 12) (hno : no ≤ 20) : mI l yX6_fail cX6_fail 2 .int 0 0 G lo sa ad (WM G ad th g nf F f no O it ch R) [.ref (ad 50), .int x] (fun v R' => v = 0 ∧ R' = (WM G ad x g nf F f no O it ch R)) := by
  refine mI_of (by decide) (Nat.le_of_ble_eq_true rfl) ?_
  intro p e s m args below meth c hF hr hlk hC ls hl hO hS Q hQ
  have hx := hF.1
  have hb := hF.2.1
  have hl : lv_has ls 2 [(0, .ref (ad 50)), (1, .int x)] := hl
  refine lv_aload_n hx hb dX6_fail_0 rfl (lv_at hl 0 rfl) ?_
  refine lv_iload_n hx hb dX6_fail_1 rfl (lv_at hl 1 rfl) ?_
  refine m_put (ty := .int) tyX6 tyX6_ok nmX6 inX6 hF hC hO hS rfl rfl 0 (by decide) q_662 rfl (by decide +kernel) rfl rfl (fs' := [.int x, .int (g 0), .int (g 1), .int (g 2), .int (nI nf), .ref (ad 51), .ref (ad 52), .int (nI no), .ref (ad 53), .int (g 3), .int (g 4), .int (g 5), .ref (ad 54), .ref (ad 55)]) (Nat.le_of_ble_eq_true rfl) rfl dX6_fail_2 (fun H locs hO hS => ?_)
  have hO : mO G lo ad (mU (WM G ad th g nf F f no O it ch R) 50 (mxO ad x g nf no)) H := hO
  rw [WM_w0] at hO
  refine lv_iconst (v := 0) hx hb dX6_fail_5 (by decide) ?_
  refine m_iret hF hr hlk hQ rfl hO hS dX6_fail_6 ?_
  exact ⟨rfl, rfl⟩
theorem ok_X6_fr : mOK RX6 yX6_fr cX6_fr 3 (some .int) 2 := ⟨q_754, qs_22, q_6, q_755, by decide +kernel⟩
set_option maxHeartbeats 400000 in
set_option maxRecDepth 100000 in
theorem k_X6_fr (l : Launch) (G : mG) (lo : Nat) (sa ad : Nat → Nat) (R : mM) (th : Int32) (g : Nat → Int32) (nf : Nat) (F : Nat → Nat → Int32) (f : Nat → Int32) (no : Nat) (O : Nat → Nat → Int32) (it ch : Nat → Int32) (i k : Nat) (hnf : nf ≤ 12) (hno : no ≤ 20) (hi : i < 12) (hk : k < 7) : mI l yX6_fr cX6_fr 3 .int 0 0 G lo sa ad (WM G ad th g nf F f no O it ch R) [.ref (ad 50), .int (nI i), .int (nI k)] (fun v R' => v = (F i k) ∧ R' = (WM G ad th g nf F f no O it ch R)) := by
  refine mI_of (by decide) (Nat.le_of_ble_eq_true rfl) ?_
  intro p e s m args below meth c hF hr hlk hC ls hl hO hS Q hQ
  have hx := hF.1
  have hb := hF.2.1
  have hl : lv_has ls 3 [(0, .ref (ad 50)), (1, .int (nI i)), (2, .int (nI k))] := hl
  refine lv_aload_n hx hb dX6_fr_0 rfl (lv_at hl 0 rfl) ?_
  refine m_get inX6 hF hC hO rfl rfl 5 (by decide) q_667 (v := .ref (ad 51)) rfl dX6_fr_1 ?_
  refine lv_bipush (v := 7) hx hb dX6_fr_4 (by decide) ?_
  refine lv_iload_n hx hb dX6_fr_6 rfl (lv_at hl 1 rfl) ?_
  refine lv_imul hx hb dX6_fr_7 ?_
  refine lv_iload_n hx hb dX6_fr_8 rfl (lv_at hl 2 rfl) ?_
  refine lv_iadd hx hb dX6_fr_9 ?_
  refine m_iald hF hC hO rfl (j := (7 * i + k)) (by rw [p_ixT]; exact nI_clamp (by omega)) (by rw [p_ixT]; exact vp_in_nI (by omega) (by decide)) dX6_fr_10 ?_
  rw [show ((tabF F) (7 * i + k)) = (F i k) from tab_rd hk]
  refine m_iret hF hr hlk hQ rfl hO hS dX6_fr_11 ?_
  exact ⟨rfl, rfl⟩
theorem ok_X6_set : mOK RX6 yX6_set cX6_set 4 none 3 := ⟨q_758, qs_23, q_6, q_759, by decide +kernel⟩
set_option maxHeartbeats 400000 in
set_option maxRecDepth 100000 in
theorem k_X6_set (l : Launch) (G : mG) (lo : Nat) (sa ad : Nat → Nat) (R : mM) (th : Int32) (g : Nat → Int32) (nf : Nat) (F : Nat → Nat → Int32) (f : Nat → Int32) (no : Nat) (O : Nat → Nat → Int32) (it ch : Nat → Int32) (i k : Nat) (w : Int32) (hnf : nf ≤ 12) (hno : no ≤ 20) (hi : i < 12) (hk : k < 7) : mV l yX6_set cX6_set 4 0 0 G lo sa ad (WM G ad th g nf F f no O it ch R) [.ref (ad 50), .int (nI i), .int (nI k), .int w] (fun R' => R' = (WM G ad th g nf (va_up F i (upd (F i) k w)) f no O it ch R)) := by
  refine mV_of (by decide) (Nat.le_of_ble_eq_true rfl) ?_
  intro p e s m args below meth c hF hr hlk hC ls hl hO hS Q hQ
  have hx := hF.1
  have hb := hF.2.1
  have hl : lv_has ls 4 [(0, .ref (ad 50)), (1, .int (nI i)), (2, .int (nI k)), (3, .int w)] := hl
  refine lv_aload_n hx hb dX6_set_0 rfl (lv_at hl 0 rfl) ?_
  refine m_get inX6 hF hC hO rfl rfl 5 (by decide) q_667 (v := .ref (ad 51)) rfl dX6_set_1 ?_
  refine lv_bipush (v := 7) hx hb dX6_set_4 (by decide) ?_
  refine lv_iload_n hx hb dX6_set_6 rfl (lv_at hl 1 rfl) ?_
  refine lv_imul hx hb dX6_set_7 ?_
  refine lv_iload_n hx hb dX6_set_8 rfl (lv_at hl 2 rfl) ?_
  refine lv_iadd hx hb dX6_set_9 ?_
  refine lv_iload_n hx hb dX6_set_10 rfl (lv_at hl 3 rfl) ?_
  refine m_iast hF hC hO hS rfl (j := (7 * i + k)) (by rw [p_ixT]; exact nI_clamp (by omega)) (by rw [p_ixT]; exact vp_in_nI (by omega) (by decide)) dX6_set_11 (fun H locs hO hS => ?_)
  have hO : mO G lo ad (mU (WM G ad th g nf F f no O it ch R) 51 (.inl (G.2 0, 84, .inl (upd (tabF F) (7 * i + k) w)))) H := hO
  rw [WM_w1 (tab_wr hk)] at hO
  refine m_vret hF hr hlk hQ hO hS dX6_set_12 ?_
  rfl
theorem ok_X6_or : mOK RX6 yX6_or cX6_or 3 (some .int) 2 := ⟨q_808, qs_33, q_6, q_809, by decide +kernel⟩
set_option maxHeartbeats 400000 in
set_option maxRecDepth 100000 in
theorem k_X6_or (l : Launch) (G : mG) (lo : Nat) (sa ad : Nat → Nat) (R : mM) (th : Int32) (g : Nat → Int32) (nf : Nat) (F : Nat → Nat → Int32) (f : Nat → Int32) (no : Nat) (O : Nat → Nat → Int32) (it ch : Nat → Int32) (i k : Nat) (hnf : nf ≤ 12) (hno : no ≤ 20) (hi : i < 20) (hk : k < 5) : mI l yX6_or cX6_or 3 .int 0 0 G lo sa ad (WM G ad th g nf F f no O it ch R) [.ref (ad 50), .int (nI i), .int (nI k)] (fun v R' => v = (O i k) ∧ R' = (WM G ad th g nf F f no O it ch R)) := by
  refine mI_of (by decide) (Nat.le_of_ble_eq_true rfl) ?_
  intro p e s m args below meth c hF hr hlk hC ls hl hO hS Q hQ
  have hx := hF.1
  have hb := hF.2.1
  have hl : lv_has ls 3 [(0, .ref (ad 50)), (1, .int (nI i)), (2, .int (nI k))] := hl
  refine lv_aload_n hx hb dX6_or_0 rfl (lv_at hl 0 rfl) ?_
  refine m_get inX6 hF hC hO rfl rfl 8 (by decide) q_670 (v := .ref (ad 53)) rfl dX6_or_1 ?_
  refine lv_iconst (v := 5) hx hb dX6_or_4 (by decide) ?_
  refine lv_iload_n hx hb dX6_or_5 rfl (lv_at hl 1 rfl) ?_
  refine lv_imul hx hb dX6_or_6 ?_
  refine lv_iload_n hx hb dX6_or_7 rfl (lv_at hl 2 rfl) ?_
  refine lv_iadd hx hb dX6_or_8 ?_
  refine m_iald hF hC hO rfl (j := (5 * i + k)) (by rw [p_ixO]; exact nI_clamp (by omega)) (by rw [p_ixO]; exact vp_in_nI (by omega) (by decide)) dX6_or_9 ?_
  rw [show ((otF O) (5 * i + k)) = (O i k) from ot_rd hk]
  refine m_iret hF hr hlk hQ rfl hO hS dX6_or_10 ?_
  exact ⟨rfl, rfl⟩
theorem ok_X6_isFrame : mOK RX6 yX6_isFrame cX6_isFrame 2 (some .boolean) 1 := ⟨q_746, qs_20, q_6, q_747, by decide +kernel⟩
set_option maxHeartbeats 400000 in
set_option maxRecDepth 100000 in
theorem k_X6_isFrame (l : Launch) (G : mG) (lo : Nat) (sa ad : Nat → Nat) (R : mM) (th : Int32) (g : Nat → Int32) (nf : Nat) (F : Nat → Nat → Int32) (f : Nat → Int32) (no : Nat) (O : Nat → Nat → Int32) (it ch : Nat → Int32) (x : Int32) (hnf : nf ≤ 12) (hno : no ≤ 20) : mI l yX6_isFrame cX6_isFrame 2 .boolean 1 22 G lo sa ad (WM G ad th g nf F f no O it ch R) [.ref (ad 50), .int x] (fun v R' => mBo (p_in x 0 (nI nf - 1)) v ∧ R' = (WM G ad th g nf F f no O it ch R)) := by
  refine mI_of (by decide) (Nat.le_of_ble_eq_true rfl) ?_
  intro p e s m args below meth c hF hr hlk hC ls hl hO hS Q hQ
  have hx := hF.1
  have hb := hF.2.1
  have hl : lv_has ls 2 [(0, .ref (ad 50)), (1, .int x)] := hl
  refine lv_iload_n hx hb dX6_isFrame_0 rfl (lv_at hl 1 rfl) ?_
  refine lv_iconst (v := 0) hx hb dX6_isFrame_1 (by decide) ?_
  refine lv_aload_n hx hb dX6_isFrame_2 rfl (lv_at hl 0 rfl) ?_
  refine m_get inX6 hF hC hO rfl rfl 4 (by decide) q_666 (v := .int (nI nf)) rfl dX6_isFrame_3 ?_
  refine lv_iconst (v := 1) hx hb dX6_isFrame_6 (by decide) ?_
  refine lv_isub hx hb dX6_isFrame_7 ?_
  refine m_sI (As := [.int x, .int 0, .int ((nI nf) - 1)]) (rest := []) (n := 3) hF hC hO hS (k_X6_isIn l G lo sa ad _ x 0 ((nI nf) - 1) ) ok_X6_isIn q_714 ⟨Nat.le_of_ble_eq_true rfl, Nat.le_of_ble_eq_true rfl⟩ rfl hl.1 rfl (Nat.le_of_ble_eq_true rfl) ⟨Nat.le_of_ble_eq_true rfl, Nat.le_of_ble_eq_true rfl⟩ dX6_isFrame_8 (fun v8 R' H locs hp hO hS => ?_)
  obtain ⟨⟨rfl, b8⟩ | ⟨rfl, b8⟩, hR⟩ := hp
  · rw [hR] at hO
    refine m_iret hF hr hlk hQ rfl hO hS dX6_isFrame_11 ?_
    exact ⟨mBo_t b8, rfl⟩
  · rw [hR] at hO
    refine m_iret hF hr hlk hQ rfl hO hS dX6_isFrame_11 ?_
    exact ⟨mBo_f b8, rfl⟩
theorem ok_X6_vatTold : mOK RX6 yX6_vatTold cX6_vatTold 2 (some .int) 1 := ⟨q_731, qs_19, q_6, q_732, by decide +kernel⟩
set_option maxHeartbeats 400000 in
set_option maxRecDepth 100000 in
theorem k_X6_vatTold (l : Launch) (G : mG) (lo : Nat) (sa ad : Nat → Nat) (R : mM) (th : Int32) (g : Nat → Int32) (nf : Nat) (F : Nat → Nat → Int32) (f : Nat → Int32) (no : Nat) (O : Nat → Nat → Int32) (it ch : Nat → Int32) (w : Int32) (hnf : nf ≤ 12) (hno : no ≤ 20) : mI l yX6_vatTold cX6_vatTold 2 .int 0 0 G lo sa ad (WM G ad th g nf F f no O it ch R) [.ref (ad 50), .int w] (fun v R' => v = (m_vat g w) ∧ R' = (WM G ad th g nf F f no O it ch R)) := by
  refine mI_of (by decide) (Nat.le_of_ble_eq_true rfl) ?_
  intro p e s m args below meth c hF hr hlk hC ls hl hO hS Q hQ
  have hx := hF.1
  have hb := hF.2.1
  have hl : lv_has ls 2 [(0, .ref (ad 50)), (1, .int w)] := hl
  refine lv_iload_n hx hb dX6_vatTold_0 rfl (lv_at hl 1 rfl) ?_
  refine lv_if_ne (tgt := 11) hx hb dX6_vatTold_1 (by decide) (fun c1 => ?_) (fun c1 => ?_)
  · refine lv_iload_n hx hb dX6_vatTold_11 rfl (lv_at hl 1 rfl) ?_
    refine lv_iconst (v := 1) hx hb dX6_vatTold_12 (by decide) ?_
    refine lv_icmp_ne (tgt := 23) hx hb dX6_vatTold_13 (by decide) (fun c13 => ?_) (fun c13 => ?_)
    · refine lv_iload_n hx hb dX6_vatTold_23 rfl (lv_at hl 1 rfl) ?_
      refine lv_iconst (v := 2) hx hb dX6_vatTold_24 (by decide) ?_
      refine lv_icmp_ne (tgt := 35) hx hb dX6_vatTold_25 (by decide) (fun c25 => ?_) (fun c25 => ?_)
      · refine lv_aload_n hx hb dX6_vatTold_35 rfl (lv_at hl 0 rfl) ?_
        refine m_get inX6 hF hC hO rfl rfl 2 (by decide) q_664 (v := .int (g 1)) rfl dX6_vatTold_36 ?_
        refine lv_bipush (v := 60) hx hb dX6_vatTold_39 (by decide) ?_
        refine lv_icmp_lt (tgt := 48) hx hb dX6_vatTold_41 (by decide) (fun c41 => ?_) (fun c41 => ?_)
        · refine lv_iconst (v := 0) hx hb dX6_vatTold_48 (by decide) ?_
          refine m_iret hF hr hlk hQ rfl hO hS dX6_vatTold_49 ?_
          exact ⟨by first | rw [m_vat, if_pos c1] | rw [m_vat, if_neg c1, if_pos c13] | rw [m_vat, if_neg c1, if_neg c13, if_pos c25] | rw [m_vat, if_neg c1, if_neg c13, if_neg c25, if_neg (Int32.not_le.mpr c41)] | rw [m_vat, if_neg c1, if_neg c13, if_neg c25, if_pos (Int32.not_lt.mp c41)], rfl⟩
        · refine lv_iconst (v := 1) hx hb dX6_vatTold_44 (by decide) ?_
          refine lv_goto (tgt := 49) hx hb dX6_vatTold_45 (by decide) ?_
          refine m_iret hF hr hlk hQ rfl hO hS dX6_vatTold_49 ?_
          exact ⟨by first | rw [m_vat, if_pos c1] | rw [m_vat, if_neg c1, if_pos c13] | rw [m_vat, if_neg c1, if_neg c13, if_pos c25] | rw [m_vat, if_neg c1, if_neg c13, if_neg c25, if_neg (Int32.not_le.mpr c41)] | rw [m_vat, if_neg c1, if_neg c13, if_neg c25, if_pos (Int32.not_lt.mp c41)], rfl⟩
      · refine lv_aload_n hx hb dX6_vatTold_28 rfl (lv_at hl 0 rfl) ?_
        refine m_get inX6 hF hC hO rfl rfl 3 (by decide) q_665 (v := .int (g 2)) rfl dX6_vatTold_29 ?_
        refine lv_goto (tgt := 49) hx hb dX6_vatTold_32 (by decide) ?_
        refine m_iret hF hr hlk hQ rfl hO hS dX6_vatTold_49 ?_
        exact ⟨by first | rw [m_vat, if_pos c1] | rw [m_vat, if_neg c1, if_pos c13] | rw [m_vat, if_neg c1, if_neg c13, if_pos c25] | rw [m_vat, if_neg c1, if_neg c13, if_neg c25, if_neg (Int32.not_le.mpr c41)] | rw [m_vat, if_neg c1, if_neg c13, if_neg c25, if_pos (Int32.not_lt.mp c41)], rfl⟩
    · refine lv_aload_n hx hb dX6_vatTold_16 rfl (lv_at hl 0 rfl) ?_
      refine m_get inX6 hF hC hO rfl rfl 2 (by decide) q_664 (v := .int (g 1)) rfl dX6_vatTold_17 ?_
      refine lv_goto (tgt := 49) hx hb dX6_vatTold_20 (by decide) ?_
      refine m_iret hF hr hlk hQ rfl hO hS dX6_vatTold_49 ?_
      exact ⟨by first | rw [m_vat, if_pos c1] | rw [m_vat, if_neg c1, if_pos c13] | rw [m_vat, if_neg c1, if_neg c13, if_pos c25] | rw [m_vat, if_neg c1, if_neg c13, if_neg c25, if_neg (Int32.not_le.mpr c41)] | rw [m_vat, if_neg c1, if_neg c13, if_neg c25, if_pos (Int32.not_lt.mp c41)], rfl⟩
  · refine lv_aload_n hx hb dX6_vatTold_4 rfl (lv_at hl 0 rfl) ?_
    refine m_get inX6 hF hC hO rfl rfl 1 (by decide) q_663 (v := .int (g 0)) rfl dX6_vatTold_5 ?_
    refine lv_goto (tgt := 49) hx hb dX6_vatTold_8 (by decide) ?_
    refine m_iret hF hr hlk hQ rfl hO hS dX6_vatTold_49 ?_
    exact ⟨by first | rw [m_vat, if_pos c1] | rw [m_vat, if_neg c1, if_pos c13] | rw [m_vat, if_neg c1, if_neg c13, if_pos c25] | rw [m_vat, if_neg c1, if_neg c13, if_neg c25, if_neg (Int32.not_le.mpr c41)] | rw [m_vat, if_neg c1, if_neg c13, if_neg c25, if_pos (Int32.not_lt.mp c41)], rfl⟩
theorem ok_X6_at : mOK RX6 yX6_at cX6_at 3 (some .int) 1 := ⟨q_750, qs_21, q_6, q_751, by decide +kernel⟩
set_option maxHeartbeats 400000 in
set_option maxRecDepth 100000 in
theorem k_X6_at (l : Launch) (G : mG) (lo : Nat) (sa ad : Nat → Nat) (R : mM) (th : Int32) (g : Nat → Int32) (nf : Nat) (F : Nat → Nat → Int32) (f : Nat → Int32) (no : Nat) (O : Nat → Nat → Int32) (it ch : Nat → Int32) (h : Int32) (hnf : nf ≤ 12) (hno : no ≤ 20) : mI l yX6_at cX6_at 3 .int 1 22 G lo sa ad (WM G ad th g nf F f no O it ch R) [.ref (ad 50), .int h] (fun v R' => v = (m_at nf F h) ∧ R' = (WM G ad th g nf F f no O it ch R)) := by
  refine mI_of (by decide) (Nat.le_of_ble_eq_true rfl) ?_
  intro p e s m args below meth c hF hr hlk hC ls hl hO hS Q hQ
  have hx := hF.1
  have hb := hF.2.1
  have hl : lv_has ls 3 [(0, .ref (ad 50)), (1, .int h)] := hl
  refine lv_iconst (v := 0) hx hb dX6_at_0 (by decide) ?_
  refine lv_istore_n (lv' := [(2, .int 0), (0, .ref (ad 50)), (1, .int h)]) hx hb dX6_at_1 rfl hl (by decide) rfl (fun ls hl => ?_)
  have L2 : ∀ (n : Nat) (i : Nat) (H : Heap) (locs : List Loc) (ls : Array Slot), nf - i < n → i ≤ nf → m_atL (nf - i) i F h = m_at nf F h → lv_has ls 3 [(0, .ref (ad 50)), (1, .int h), (2, .int (nI i))] → mO G lo ad (WM G ad th g nf F f no O it ch R) H → va_S (mA lo) s.heap H locs → W p l e (mRm 1 22) s m args below meth c H locs 0 0 Q (F0 m 2 ls []) := by
    intro n
    induction n with
    | zero => intro i H locs ls hn; exact absurd hn (Nat.not_lt_zero _)
    | succ n ih2 =>
      intro i H locs ls hn2 hi hv hl hO hS
      refine lv_iload_n hx hb dX6_at_2 rfl (lv_at hl 2 rfl) ?_
      refine lv_aload_n hx hb dX6_at_3 rfl (lv_at hl 0 rfl) ?_
      refine m_get inX6 hF hC hO rfl rfl 4 (by decide) q_666 (v := .int (nI nf)) rfl dX6_at_4 ?_
      refine lv_icmp_ge (tgt := 28) hx hb dX6_at_7 (by decide) (fun c7 => ?_) (fun c7 => ?_)
      · refine lv_iconst (v := -1) hx hb dX6_at_28 (by decide) ?_
        refine m_iret hF hr hlk hQ rfl hO hS dX6_at_29 ?_
        have e : i = nf := Nat.le_antisymm hi (nI_E (a := nf) (b := i) (by omega) (by omega) c7)
        subst e
        rw [Nat.sub_self] at hv
        exact ⟨hv, rfl⟩
      · refine lv_aload_n hx hb dX6_at_10 rfl (lv_at hl 0 rfl) ?_
        refine lv_iload_n hx hb dX6_at_11 rfl (lv_at hl 2 rfl) ?_
        refine lv_iconst (v := 5) hx hb dX6_at_12 (by decide) ?_
        refine m_vI (As := [.int (nI i), .int 5]) (rest := []) (n := 2) hF hC hO hS (k_X6_fr l G lo sa ad R th g nf F f no O it ch i 5 hnf hno (by have := (nI_nE (a := nf) (b := i) (by omega) (by omega) c7); omega) (by omega)) ok_X6_fr q_752 rfl rfl ⟨Nat.le_of_ble_eq_true rfl, Nat.le_of_ble_eq_true rfl⟩ rfl hl.1 rfl (Nat.le_of_ble_eq_true rfl) ⟨Nat.le_of_ble_eq_true rfl, Nat.le_of_ble_eq_true rfl⟩ dX6_at_13 (fun v13 R' H locs hp hO hS => ?_)
        obtain ⟨rfl, hR⟩ := hp
        rw [hR] at hO
        refine lv_iload_n hx hb dX6_at_16 rfl (lv_at hl 1 rfl) ?_
        refine lv_icmp_ne (tgt := 22) hx hb dX6_at_17 (by decide) (fun c17 => ?_) (fun c17 => ?_)
        · refine lv_iinc (v := (nI (i + 1))) (lv' := [(2, .int (nI (i + 1))), (0, .ref (ad 50)), (1, .int h)]) hx hb dX6_at_22 hl (k := 2) rfl (nI_inc i) (by decide) rfl (fun ls hl => ?_)
          refine lv_goto (tgt := 2) hx hb dX6_at_25 (by decide) ?_
          exact ih2 (i + 1) _ _ _ (by have := (nI_nE (a := nf) (b := i) (by omega) (by omega) c7); omega) (by have := (nI_nE (a := nf) (b := i) (by omega) (by omega) c7); omega) (by have := (nI_nE (a := nf) (b := i) (by omega) (by omega) c7); rw [← hv, show nf - i = (nf - (i + 1)) + 1 from by omega, m_atL, if_neg c17]) (lv_sub hl [1, 2, 0] rfl) hO hS
        · refine lv_iload_n hx hb dX6_at_20 rfl (lv_at hl 2 rfl) ?_
          refine m_iret hF hr hlk hQ rfl hO hS dX6_at_21 ?_
          have h9 := (nI_nE (a := nf) (b := i) (by omega) (by omega) c7)
          rw [show nf - i = (nf - (i + 1)) + 1 from by omega, m_atL, if_pos c17] at hv
          exact ⟨hv, rfl⟩
  exact L2 _ 0 _ _ _ (Nat.lt_succ_self _) (by omega) rfl (lv_sub hl [1, 2, 0] rfl) hO hS
theorem ok_X6_take : mOK RX6 yX6_take cX6_take 2 none 1 := ⟨q_770, qs_24, q_6, q_771, by decide +kernel⟩
set_option maxHeartbeats 400000 in
set_option maxRecDepth 100000 in
theorem k_X6_take (l : Launch) (G : mG) (lo : Nat) (sa ad : Nat → Nat) (R : mM) (th : Int32) (g : Nat → Int32) (nf : Nat) (F : Nat → Nat → Int32) (f : Nat → Int32) (no : Nat) (O : Nat → Nat → Int32) (it ch : Nat → Int32) (i : Nat) (hnf : nf ≤ 12) (hno : no ≤ 20) (hi : i < 12) : mV l yX6_take cX6_take 2 1 22 G lo sa ad (WM G ad th g nf F f no O it ch R) [.ref (ad 50), .int (nI i)] (fun R' => R' = (WM G ad th g nf F f no O (m_take it g (F i)) ch R)) := by
  refine mV_of (by decide) (Nat.le_of_ble_eq_true rfl) ?_
  intro p e s m args below meth c hF hr hlk hC ls hl hO hS Q hQ
  have hx := hF.1
  have hb := hF.2.1
  have hl : lv_has ls 2 [(0, .ref (ad 50)), (1, .int (nI i))] := hl
  refine lv_aload_n hx hb dX6_take_0 rfl (lv_at hl 0 rfl) ?_
  refine m_get inX6 hF hC hO rfl rfl 12 (by decide) q_674 (v := .ref (ad 54)) rfl dX6_take_1 ?_
  refine lv_iconst (v := 0) hx hb dX6_take_4 (by decide) ?_
  refine lv_aload_n hx hb dX6_take_5 rfl (lv_at hl 0 rfl) ?_
  refine m_get inX6 hF hC hO rfl rfl 1 (by decide) q_663 (v := .int (g 0)) rfl dX6_take_6 ?_
  refine m_iast hF hC hO hS rfl (j := 0) (by decide) (vp_in_nI (n := 0) (by decide) (by decide)) dX6_take_9 (fun H locs hO hS => ?_)
  have hO : mO G lo ad (mU (WM G ad th g nf F f no O it ch R) 54 (.inl (G.2 0, 5, .inl (upd it 0 (g 0))))) H := hO
  rw [WM_w4] at hO
  refine lv_aload_n hx hb dX6_take_10 rfl (lv_at hl 0 rfl) ?_
  refine m_get inX6 hF hC hO rfl rfl 12 (by decide) q_674 (v := .ref (ad 54)) rfl dX6_take_11 ?_
  refine lv_iconst (v := 1) hx hb dX6_take_14 (by decide) ?_
  refine lv_aload_n hx hb dX6_take_15 rfl (lv_at hl 0 rfl) ?_
  refine m_get inX6 hF hC hO rfl rfl 2 (by decide) q_664 (v := .int (g 1)) rfl dX6_take_16 ?_
  refine m_iast hF hC hO hS rfl (j := 1) (by decide) (vp_in_nI (n := 1) (by decide) (by decide)) dX6_take_19 (fun H locs hO hS => ?_)
  have hO : mO G lo ad (mU (WM G ad th g nf F f no O (upd it 0 (g 0)) ch R) 54 (.inl (G.2 0, 5, .inl (upd (upd it 0 (g 0)) 1 (g 1))))) H := hO
  rw [WM_w4] at hO
  refine lv_aload_n hx hb dX6_take_20 rfl (lv_at hl 0 rfl) ?_
  refine m_get inX6 hF hC hO rfl rfl 12 (by decide) q_674 (v := .ref (ad 54)) rfl dX6_take_21 ?_
  refine lv_iconst (v := 2) hx hb dX6_take_24 (by decide) ?_
  refine lv_aload_n hx hb dX6_take_25 rfl (lv_at hl 0 rfl) ?_
  refine lv_iload_n hx hb dX6_take_26 rfl (lv_at hl 1 rfl) ?_
  refine lv_iconst (v := 2) hx hb dX6_take_27 (by decide) ?_
  refine m_vI (As := [.int (nI i), .int 2]) (rest := [.int 2, .ref (ad 54)]) (n := 2) hF hC hO hS (k_X6_fr l G lo sa ad R th g nf F f no O (upd (upd it 0 (g 0)) 1 (g 1)) ch i 2 hnf hno (by omega) (by omega)) ok_X6_fr q_752 rfl rfl ⟨Nat.le_of_ble_eq_true rfl, Nat.le_of_ble_eq_true rfl⟩ rfl hl.1 rfl (Nat.le_of_ble_eq_true rfl) ⟨Nat.le_of_ble_eq_true rfl, Nat.le_of_ble_eq_true rfl⟩ dX6_take_28 (fun v28 R' H locs hp hO hS => ?_)
  obtain ⟨rfl, hR⟩ := hp
  rw [hR] at hO
  refine m_iast hF hC hO hS rfl (j := 2) (by decide) (vp_in_nI (n := 2) (by decide) (by decide)) dX6_take_31 (fun H locs hO hS => ?_)
  have hO : mO G lo ad (mU (WM G ad th g nf F f no O (upd (upd it 0 (g 0)) 1 (g 1)) ch R) 54 (.inl (G.2 0, 5, .inl (upd (upd (upd it 0 (g 0)) 1 (g 1)) 2 (F i 2))))) H := hO
  rw [WM_w4] at hO
  refine lv_aload_n hx hb dX6_take_32 rfl (lv_at hl 0 rfl) ?_
  refine m_get inX6 hF hC hO rfl rfl 12 (by decide) q_674 (v := .ref (ad 54)) rfl dX6_take_33 ?_
  refine lv_iconst (v := 3) hx hb dX6_take_36 (by decide) ?_
  refine lv_aload_n hx hb dX6_take_37 rfl (lv_at hl 0 rfl) ?_
  refine lv_iload_n hx hb dX6_take_38 rfl (lv_at hl 1 rfl) ?_
  refine lv_iconst (v := 3) hx hb dX6_take_39 (by decide) ?_
  refine m_vI (As := [.int (nI i), .int 3]) (rest := [.int 3, .ref (ad 54)]) (n := 2) hF hC hO hS (k_X6_fr l G lo sa ad R th g nf F f no O (upd (upd (upd it 0 (g 0)) 1 (g 1)) 2 (F i 2)) ch i 3 hnf hno (by omega) (by omega)) ok_X6_fr q_752 rfl rfl ⟨Nat.le_of_ble_eq_true rfl, Nat.le_of_ble_eq_true rfl⟩ rfl hl.1 rfl (Nat.le_of_ble_eq_true rfl) ⟨Nat.le_of_ble_eq_true rfl, Nat.le_of_ble_eq_true rfl⟩ dX6_take_40 (fun v40 R' H locs hp hO hS => ?_)
  obtain ⟨rfl, hR⟩ := hp
  rw [hR] at hO
  refine m_iast hF hC hO hS rfl (j := 3) (by decide) (vp_in_nI (n := 3) (by decide) (by decide)) dX6_take_43 (fun H locs hO hS => ?_)
  have hO : mO G lo ad (mU (WM G ad th g nf F f no O (upd (upd (upd it 0 (g 0)) 1 (g 1)) 2 (F i 2)) ch R) 54 (.inl (G.2 0, 5, .inl (upd (upd (upd (upd it 0 (g 0)) 1 (g 1)) 2 (F i 2)) 3 (F i 3))))) H := hO
  rw [WM_w4] at hO
  refine lv_aload_n hx hb dX6_take_44 rfl (lv_at hl 0 rfl) ?_
  refine m_get inX6 hF hC hO rfl rfl 12 (by decide) q_674 (v := .ref (ad 54)) rfl dX6_take_45 ?_
  refine lv_iconst (v := 4) hx hb dX6_take_48 (by decide) ?_
  refine lv_aload_n hx hb dX6_take_49 rfl (lv_at hl 0 rfl) ?_
  refine lv_iload_n hx hb dX6_take_50 rfl (lv_at hl 1 rfl) ?_
  refine lv_iconst (v := 4) hx hb dX6_take_51 (by decide) ?_
  refine m_vI (As := [.int (nI i), .int 4]) (rest := [.int 4, .ref (ad 54)]) (n := 2) hF hC hO hS (k_X6_fr l G lo sa ad R th g nf F f no O (upd (upd (upd (upd it 0 (g 0)) 1 (g 1)) 2 (F i 2)) 3 (F i 3)) ch i 4 hnf hno (by omega) (by omega)) ok_X6_fr q_752 rfl rfl ⟨Nat.le_of_ble_eq_true rfl, Nat.le_of_ble_eq_true rfl⟩ rfl hl.1 rfl (Nat.le_of_ble_eq_true rfl) ⟨Nat.le_of_ble_eq_true rfl, Nat.le_of_ble_eq_true rfl⟩ dX6_take_52 (fun v52 R' H locs hp hO hS => ?_)
  obtain ⟨rfl, hR⟩ := hp
  rw [hR] at hO
  refine m_iast hF hC hO hS rfl (j := 4) (by decide) (vp_in_nI (n := 4) (by decide) (by decide)) dX6_take_55 (fun H locs hO hS => ?_)
  have hO : mO G lo ad (mU (WM G ad th g nf F f no O (upd (upd (upd (upd it 0 (g 0)) 1 (g 1)) 2 (F i 2)) 3 (F i 3)) ch R) 54 (.inl (G.2 0, 5, .inl (upd (upd (upd (upd (upd it 0 (g 0)) 1 (g 1)) 2 (F i 2)) 3 (F i 3)) 4 (F i 4))))) H := hO
  rw [WM_w4] at hO
  refine m_vret hF hr hlk hQ hO hS dX6_take_56 ?_
  rfl
theorem ok_X6_grows : mOK RX6 yX6_grows cX6_grows 3 (some .int) 1 := ⟨q_782, qs_27, q_6, q_783, by decide +kernel⟩
set_option maxHeartbeats 400000 in
set_option maxRecDepth 100000 in
theorem k_X6_grows (l : Launch) (G : mG) (lo : Nat) (sa ad : Nat → Nat) (R : mM) (th : Int32) (g : Nat → Int32) (nf : Nat) (F : Nat → Nat → Int32) (f : Nat → Int32) (no : Nat) (O : Nat → Nat → Int32) (it ch : Nat → Int32) (i : Nat) (hnf : nf ≤ 12) (hno : no ≤ 20) (hi : i < 12) : mI l yX6_grows cX6_grows 3 .int 1 22 G lo sa ad (WM G ad th g nf F f no O it ch R) [.ref (ad 50), .int (nI i)] (fun v R' => v = (m_grow it (F i)) ∧ R' = (WM G ad th g nf F f no O it ch R)) := by
  refine mI_of (by decide) (Nat.le_of_ble_eq_true rfl) ?_
  intro p e s m args below meth c hF hr hlk hC ls hl hO hS Q hQ
  have hx := hF.1
  have hb := hF.2.1
  have hl : lv_has ls 3 [(0, .ref (ad 50)), (1, .int (nI i))] := hl
  refine lv_aload_n hx hb dX6_grows_0 rfl (lv_at hl 0 rfl) ?_
  refine m_get inX6 hF hC hO rfl rfl 12 (by decide) q_674 (v := .ref (ad 54)) rfl dX6_grows_1 ?_
  refine lv_iconst (v := 3) hx hb dX6_grows_4 (by decide) ?_
  refine m_iald hF hC hO rfl (j := 3) (by decide) (vp_in_nI (n := 3) (by decide) (by decide)) dX6_grows_5 ?_
  refine lv_bipush (v := 70) hx hb dX6_grows_6 (by decide) ?_
  refine lv_icmp_le (tgt := 33) hx hb dX6_grows_8 (by decide) (fun c8 => ?_) (fun c8 => ?_)
  · refine lv_bipush (v := 12) hx hb dX6_grows_33 (by decide) ?_
    refine lv_aload_n hx hb dX6_grows_35 rfl (lv_at hl 0 rfl) ?_
    refine m_get inX6 hF hC hO rfl rfl 12 (by decide) q_674 (v := .ref (ad 54)) rfl dX6_grows_36 ?_
    refine lv_iconst (v := 1) hx hb dX6_grows_39 (by decide) ?_
    refine m_iald hF hC hO rfl (j := 1) (by decide) (vp_in_nI (n := 1) (by decide) (by decide)) dX6_grows_40 ?_
    refine lv_bipush (v := 60) hx hb dX6_grows_41 (by decide) ?_
    refine lv_isub hx hb dX6_grows_43 ?_
    refine lv_bipush (v := 8) hx hb dX6_grows_44 (by decide) ?_
    refine lv_idiv hx hb dX6_grows_46 (by decide) ?_
    refine lv_isub hx hb dX6_grows_47 ?_
    refine lv_aload_n hx hb dX6_grows_48 rfl (lv_at hl 0 rfl) ?_
    refine m_get inX6 hF hC hO rfl rfl 12 (by decide) q_674 (v := .ref (ad 54)) rfl dX6_grows_49 ?_
    refine lv_iconst (v := 2) hx hb dX6_grows_52 (by decide) ?_
    refine m_iald hF hC hO rfl (j := 2) (by decide) (vp_in_nI (n := 2) (by decide) (by decide)) dX6_grows_53 ?_
    refine lv_if_ne (tgt := 61) hx hb dX6_grows_54 (by decide) (fun c54 => ?_) (fun c54 => ?_)
    · refine lv_iconst (v := 0) hx hb dX6_grows_61 (by decide) ?_
      refine lv_iadd hx hb dX6_grows_62 ?_
      refine lv_aload_n hx hb dX6_grows_63 rfl (lv_at hl 0 rfl) ?_
      refine lv_iload_n hx hb dX6_grows_64 rfl (lv_at hl 1 rfl) ?_
      refine lv_iconst (v := 0) hx hb dX6_grows_65 (by decide) ?_
      refine m_vI (As := [.int (nI i), .int 0]) (rest := [.int ((12 - (((it 1) - 60) / 8)) + 0)]) (n := 2) hF hC hO hS (k_X6_fr l G lo sa ad R th g nf F f no O it ch i 0 hnf hno (by omega) (by omega)) ok_X6_fr q_752 rfl rfl ⟨Nat.le_of_ble_eq_true rfl, Nat.le_of_ble_eq_true rfl⟩ rfl hl.1 rfl (Nat.le_of_ble_eq_true rfl) ⟨Nat.le_of_ble_eq_true rfl, Nat.le_of_ble_eq_true rfl⟩ dX6_grows_66 (fun v66 R' H locs hp hO hS => ?_)
      obtain ⟨rfl, hR⟩ := hp
      rw [hR] at hO
      refine lv_iconst (v := 3) hx hb dX6_grows_69 (by decide) ?_
      refine lv_icmp_ne (tgt := 77) hx hb dX6_grows_70 (by decide) (fun c70 => ?_) (fun c70 => ?_)
      · refine lv_iconst (v := 0) hx hb dX6_grows_77 (by decide) ?_
        refine lv_isub hx hb dX6_grows_78 ?_
        refine lv_istore_n (lv' := [(2, .int (((12 - (((it 1) - 60) / 8)) + 0) - 0)), (0, .ref (ad 50)), (1, .int (nI i))]) hx hb dX6_grows_79 rfl hl (by decide) rfl (fun ls hl => ?_)
        refine lv_iload_n hx hb dX6_grows_80 rfl (lv_at hl 0 rfl) ?_
        refine lv_sipush (v := 400) hx hb dX6_grows_81 (by decide) ?_
        refine lv_aload_n hx hb dX6_grows_84 rfl (lv_at hl 1 rfl) ?_
        refine m_get inX6 hF hC hO rfl rfl 12 (by decide) q_674 (v := .ref (ad 54)) rfl dX6_grows_85 ?_
        refine lv_iconst (v := 2) hx hb dX6_grows_88 (by decide) ?_
        refine m_iald hF hC hO rfl (j := 2) (by decide) (vp_in_nI (n := 2) (by decide) (by decide)) dX6_grows_89 ?_
        refine lv_isub hx hb dX6_grows_90 ?_
        refine m_min hF hl.1 q_784 q_168 q_14 q_169 (Nat.le_of_ble_eq_true rfl) (Nat.le_of_ble_eq_true rfl) ⟨Nat.le_of_ble_eq_true rfl, Nat.le_of_ble_eq_true rfl⟩ dX6_grows_91 ?_
        refine m_iret hF hr hlk hQ rfl hO hS dX6_grows_94 ?_
        exact ⟨by first | rw [m_grow, if_neg (Int32.not_lt.mpr c8), if_pos c54, if_pos c70] | rw [m_grow, if_neg (Int32.not_lt.mpr c8), if_pos c54, if_neg c70] | rw [m_grow, if_neg (Int32.not_lt.mpr c8), if_neg c54, if_pos c70] | rw [m_grow, if_neg (Int32.not_lt.mpr c8), if_neg c54, if_neg c70], rfl⟩
      · refine lv_iconst (v := 3) hx hb dX6_grows_73 (by decide) ?_
        refine lv_goto (tgt := 78) hx hb dX6_grows_74 (by decide) ?_
        refine lv_isub hx hb dX6_grows_78 ?_
        refine lv_istore_n (lv' := [(2, .int (((12 - (((it 1) - 60) / 8)) + 0) - 3)), (0, .ref (ad 50)), (1, .int (nI i))]) hx hb dX6_grows_79 rfl hl (by decide) rfl (fun ls hl => ?_)
        refine lv_iload_n hx hb dX6_grows_80 rfl (lv_at hl 0 rfl) ?_
        refine lv_sipush (v := 400) hx hb dX6_grows_81 (by decide) ?_
        refine lv_aload_n hx hb dX6_grows_84 rfl (lv_at hl 1 rfl) ?_
        refine m_get inX6 hF hC hO rfl rfl 12 (by decide) q_674 (v := .ref (ad 54)) rfl dX6_grows_85 ?_
        refine lv_iconst (v := 2) hx hb dX6_grows_88 (by decide) ?_
        refine m_iald hF hC hO rfl (j := 2) (by decide) (vp_in_nI (n := 2) (by decide) (by decide)) dX6_grows_89 ?_
        refine lv_isub hx hb dX6_grows_90 ?_
        refine m_min hF hl.1 q_784 q_168 q_14 q_169 (Nat.le_of_ble_eq_true rfl) (Nat.le_of_ble_eq_true rfl) ⟨Nat.le_of_ble_eq_true rfl, Nat.le_of_ble_eq_true rfl⟩ dX6_grows_91 ?_
        refine m_iret hF hr hlk hQ rfl hO hS dX6_grows_94 ?_
        exact ⟨by first | rw [m_grow, if_neg (Int32.not_lt.mpr c8), if_pos c54, if_pos c70] | rw [m_grow, if_neg (Int32.not_lt.mpr c8), if_pos c54, if_neg c70] | rw [m_grow, if_neg (Int32.not_lt.mpr c8), if_neg c54, if_pos c70] | rw [m_grow, if_neg (Int32.not_lt.mpr c8), if_neg c54, if_neg c70], rfl⟩
    · refine lv_iconst (v := 4) hx hb dX6_grows_57 (by decide) ?_
      refine lv_goto (tgt := 62) hx hb dX6_grows_58 (by decide) ?_
      refine lv_iadd hx hb dX6_grows_62 ?_
      refine lv_aload_n hx hb dX6_grows_63 rfl (lv_at hl 0 rfl) ?_
      refine lv_iload_n hx hb dX6_grows_64 rfl (lv_at hl 1 rfl) ?_
      refine lv_iconst (v := 0) hx hb dX6_grows_65 (by decide) ?_
      refine m_vI (As := [.int (nI i), .int 0]) (rest := [.int ((12 - (((it 1) - 60) / 8)) + 4)]) (n := 2) hF hC hO hS (k_X6_fr l G lo sa ad R th g nf F f no O it ch i 0 hnf hno (by omega) (by omega)) ok_X6_fr q_752 rfl rfl ⟨Nat.le_of_ble_eq_true rfl, Nat.le_of_ble_eq_true rfl⟩ rfl hl.1 rfl (Nat.le_of_ble_eq_true rfl) ⟨Nat.le_of_ble_eq_true rfl, Nat.le_of_ble_eq_true rfl⟩ dX6_grows_66 (fun v66 R' H locs hp hO hS => ?_)
      obtain ⟨rfl, hR⟩ := hp
      rw [hR] at hO
      refine lv_iconst (v := 3) hx hb dX6_grows_69 (by decide) ?_
      refine lv_icmp_ne (tgt := 77) hx hb dX6_grows_70 (by decide) (fun c70 => ?_) (fun c70 => ?_)
      · refine lv_iconst (v := 0) hx hb dX6_grows_77 (by decide) ?_
        refine lv_isub hx hb dX6_grows_78 ?_
        refine lv_istore_n (lv' := [(2, .int (((12 - (((it 1) - 60) / 8)) + 4) - 0)), (0, .ref (ad 50)), (1, .int (nI i))]) hx hb dX6_grows_79 rfl hl (by decide) rfl (fun ls hl => ?_)
        refine lv_iload_n hx hb dX6_grows_80 rfl (lv_at hl 0 rfl) ?_
        refine lv_sipush (v := 400) hx hb dX6_grows_81 (by decide) ?_
        refine lv_aload_n hx hb dX6_grows_84 rfl (lv_at hl 1 rfl) ?_
        refine m_get inX6 hF hC hO rfl rfl 12 (by decide) q_674 (v := .ref (ad 54)) rfl dX6_grows_85 ?_
        refine lv_iconst (v := 2) hx hb dX6_grows_88 (by decide) ?_
        refine m_iald hF hC hO rfl (j := 2) (by decide) (vp_in_nI (n := 2) (by decide) (by decide)) dX6_grows_89 ?_
        refine lv_isub hx hb dX6_grows_90 ?_
        refine m_min hF hl.1 q_784 q_168 q_14 q_169 (Nat.le_of_ble_eq_true rfl) (Nat.le_of_ble_eq_true rfl) ⟨Nat.le_of_ble_eq_true rfl, Nat.le_of_ble_eq_true rfl⟩ dX6_grows_91 ?_
        refine m_iret hF hr hlk hQ rfl hO hS dX6_grows_94 ?_
        exact ⟨by first | rw [m_grow, if_neg (Int32.not_lt.mpr c8), if_pos c54, if_pos c70] | rw [m_grow, if_neg (Int32.not_lt.mpr c8), if_pos c54, if_neg c70] | rw [m_grow, if_neg (Int32.not_lt.mpr c8), if_neg c54, if_pos c70] | rw [m_grow, if_neg (Int32.not_lt.mpr c8), if_neg c54, if_neg c70], rfl⟩
      · refine lv_iconst (v := 3) hx hb dX6_grows_73 (by decide) ?_
        refine lv_goto (tgt := 78) hx hb dX6_grows_74 (by decide) ?_
        refine lv_isub hx hb dX6_grows_78 ?_
        refine lv_istore_n (lv' := [(2, .int (((12 - (((it 1) - 60) / 8)) + 4) - 3)), (0, .ref (ad 50)), (1, .int (nI i))]) hx hb dX6_grows_79 rfl hl (by decide) rfl (fun ls hl => ?_)
        refine lv_iload_n hx hb dX6_grows_80 rfl (lv_at hl 0 rfl) ?_
        refine lv_sipush (v := 400) hx hb dX6_grows_81 (by decide) ?_
        refine lv_aload_n hx hb dX6_grows_84 rfl (lv_at hl 1 rfl) ?_
        refine m_get inX6 hF hC hO rfl rfl 12 (by decide) q_674 (v := .ref (ad 54)) rfl dX6_grows_85 ?_
        refine lv_iconst (v := 2) hx hb dX6_grows_88 (by decide) ?_
        refine m_iald hF hC hO rfl (j := 2) (by decide) (vp_in_nI (n := 2) (by decide) (by decide)) dX6_grows_89 ?_
        refine lv_isub hx hb dX6_grows_90 ?_
        refine m_min hF hl.1 q_784 q_168 q_14 q_169 (Nat.le_of_ble_eq_true rfl) (Nat.le_of_ble_eq_true rfl) ⟨Nat.le_of_ble_eq_true rfl, Nat.le_of_ble_eq_true rfl⟩ dX6_grows_91 ?_
        refine m_iret hF hr hlk hQ rfl hO hS dX6_grows_94 ?_
        exact ⟨by first | rw [m_grow, if_neg (Int32.not_lt.mpr c8), if_pos c54, if_pos c70] | rw [m_grow, if_neg (Int32.not_lt.mpr c8), if_pos c54, if_neg c70] | rw [m_grow, if_neg (Int32.not_lt.mpr c8), if_neg c54, if_pos c70] | rw [m_grow, if_neg (Int32.not_lt.mpr c8), if_neg c54, if_neg c70], rfl⟩
  · refine lv_aload_n hx hb dX6_grows_11 rfl (lv_at hl 0 rfl) ?_
    refine m_get inX6 hF hC hO rfl rfl 12 (by decide) q_674 (v := .ref (ad 54)) rfl dX6_grows_12 ?_
    refine lv_iconst (v := 2) hx hb dX6_grows_15 (by decide) ?_
    refine m_iald hF hC hO rfl (j := 2) (by decide) (vp_in_nI (n := 2) (by decide) (by decide)) dX6_grows_16 ?_
    refine lv_aload_n hx hb dX6_grows_17 rfl (lv_at hl 0 rfl) ?_
    refine m_get inX6 hF hC hO rfl rfl 12 (by decide) q_674 (v := .ref (ad 54)) rfl dX6_grows_18 ?_
    refine lv_iconst (v := 1) hx hb dX6_grows_21 (by decide) ?_
    refine m_iald hF hC hO rfl (j := 1) (by decide) (vp_in_nI (n := 1) (by decide) (by decide)) dX6_grows_22 ?_
    refine lv_bipush (v := 55) hx hb dX6_grows_23 (by decide) ?_
    refine lv_isub hx hb dX6_grows_25 ?_
    refine lv_iconst (v := 5) hx hb dX6_grows_26 (by decide) ?_
    refine lv_idiv hx hb dX6_grows_27 (by decide) ?_
    refine m_min hF hl.1 q_784 q_168 q_14 q_169 (Nat.le_of_ble_eq_true rfl) (Nat.le_of_ble_eq_true rfl) ⟨Nat.le_of_ble_eq_true rfl, Nat.le_of_ble_eq_true rfl⟩ dX6_grows_28 ?_
    refine lv_ineg hx hb dX6_grows_31 ?_
    refine m_iret hF hr hlk hQ rfl hO hS dX6_grows_32 ?_
    exact ⟨by rw [m_grow, if_pos (Int32.not_le.mp c8)], rfl⟩
theorem ok_X6_waxOf : mOK RX6 yX6_waxOf cX6_waxOf 3 (some .int) 2 := ⟨q_787, qs_28, q_6, q_788, by decide +kernel⟩
set_option maxHeartbeats 400000 in
set_option maxRecDepth 100000 in
theorem k_X6_waxOf (l : Launch) (G : mG) (lo : Nat) (sa ad : Nat → Nat) (R : mM) (th : Int32) (g : Nat → Int32) (nf : Nat) (F : Nat → Nat → Int32) (f : Nat → Int32) (no : Nat) (O : Nat → Nat → Int32) (it ch : Nat → Int32) (i : Nat) (t : Int32) (hnf : nf ≤ 12) (hno : no ≤ 20) (hi : i < 12) : mI l yX6_waxOf cX6_waxOf 3 .int 1 22 G lo sa ad (WM G ad th g nf F f no O it ch R) [.ref (ad 50), .int (nI i), .int t] (fun v R' => v = (p_wax (F i) t) ∧ R' = (WM G ad th g nf F f no O it ch R)) := by
  refine mI_of (by decide) (Nat.le_of_ble_eq_true rfl) ?_
  intro p e s m args below meth c hF hr hlk hC ls hl hO hS Q hQ
  have hx := hF.1
  have hb := hF.2.1
  have hl : lv_has ls 3 [(0, .ref (ad 50)), (1, .int (nI i)), (2, .int t)] := hl
  refine lv_iload_n hx hb dX6_waxOf_0 rfl (lv_at hl 2 rfl) ?_
  refine lv_bipush (v := 8) hx hb dX6_waxOf_1 (by decide) ?_
  refine lv_aload_n hx hb dX6_waxOf_3 rfl (lv_at hl 0 rfl) ?_
  refine lv_iload_n hx hb dX6_waxOf_4 rfl (lv_at hl 1 rfl) ?_
  refine lv_iconst (v := 0) hx hb dX6_waxOf_5 (by decide) ?_
  refine m_vI (As := [.int (nI i), .int 0]) (rest := [.int 8, .int t]) (n := 2) hF hC hO hS (k_X6_fr l G lo sa ad R th g nf F f no O it ch i 0 hnf hno (by omega) (by omega)) ok_X6_fr q_752 rfl rfl ⟨Nat.le_of_ble_eq_true rfl, Nat.le_of_ble_eq_true rfl⟩ rfl hl.1 rfl (Nat.le_of_ble_eq_true rfl) ⟨Nat.le_of_ble_eq_true rfl, Nat.le_of_ble_eq_true rfl⟩ dX6_waxOf_6 (fun v6 R' H locs hp hO hS => ?_)
  obtain ⟨rfl, hR⟩ := hp
  rw [hR] at hO
  refine lv_iadd hx hb dX6_waxOf_9 ?_
  refine lv_imul hx hb dX6_waxOf_10 ?_
  refine lv_aload_n hx hb dX6_waxOf_11 rfl (lv_at hl 0 rfl) ?_
  refine lv_iload_n hx hb dX6_waxOf_12 rfl (lv_at hl 1 rfl) ?_
  refine lv_iconst (v := 1) hx hb dX6_waxOf_13 (by decide) ?_
  refine m_vI (As := [.int (nI i), .int 1]) (rest := [.int (t * (8 + (F i 0)))]) (n := 2) hF hC hO hS (k_X6_fr l G lo sa ad R th g nf F f no O it ch i 1 hnf hno (by omega) (by omega)) ok_X6_fr q_752 rfl rfl ⟨Nat.le_of_ble_eq_true rfl, Nat.le_of_ble_eq_true rfl⟩ rfl hl.1 rfl (Nat.le_of_ble_eq_true rfl) ⟨Nat.le_of_ble_eq_true rfl, Nat.le_of_ble_eq_true rfl⟩ dX6_waxOf_14 (fun v14 R' H locs hp hO hS => ?_)
  obtain ⟨rfl, hR⟩ := hp
  rw [hR] at hO
  refine lv_imul hx hb dX6_waxOf_17 ?_
  refine lv_bipush (v := 10) hx hb dX6_waxOf_18 (by decide) ?_
  refine lv_idiv hx hb dX6_waxOf_20 (by decide) ?_
  refine m_iret hF hr hlk hQ rfl hO hS dX6_waxOf_21 ?_
  exact ⟨rfl, rfl⟩
theorem ok_X6_can : mOK RX6 yX6_can cX6_can 2 (some .boolean) 1 := ⟨q_778, qs_26, q_6, q_779, by decide +kernel⟩
set_option maxHeartbeats 400000 in
set_option maxRecDepth 100000 in
theorem k_X6_can (l : Launch) (G : mG) (lo : Nat) (sa ad : Nat → Nat) (R : mM) (th : Int32) (g : Nat → Int32) (nf : Nat) (F : Nat → Nat → Int32) (f : Nat → Int32) (no : Nat) (O : Nat → Nat → Int32) (it ch : Nat → Int32) (i : Nat) (hnf : nf ≤ 12) (hno : no ≤ 20) (hi : i < 12) : mI l yX6_can cX6_can 2 .boolean 2 44 G lo sa ad (WM G ad th g nf F f no O it ch R) [.ref (ad 50), .int (nI i)] (fun v R' => mBo (m_can it (F i)) v ∧ R' = (WM G ad th g nf F f no O it ch R)) := by
  refine mI_of (by decide) (Nat.le_of_ble_eq_true rfl) ?_
  intro p e s m args below meth c hF hr hlk hC ls hl hO hS Q hQ
  have hx := hF.1
  have hb := hF.2.1
  have hl : lv_has ls 2 [(0, .ref (ad 50)), (1, .int (nI i))] := hl
  refine lv_aload_n hx hb dX6_can_0 rfl (lv_at hl 0 rfl) ?_
  refine m_get inX6 hF hC hO rfl rfl 12 (by decide) q_674 (v := .ref (ad 54)) rfl dX6_can_1 ?_
  refine lv_iconst (v := 1) hx hb dX6_can_4 (by decide) ?_
  refine m_iald hF hC hO rfl (j := 1) (by decide) (vp_in_nI (n := 1) (by decide) (by decide)) dX6_can_5 ?_
  refine lv_bipush (v := 60) hx hb dX6_can_6 (by decide) ?_
  refine lv_icmp_lt (tgt := 45) hx hb dX6_can_8 (by decide) (fun c8 => ?_) (fun c8 => ?_)
  · refine lv_iconst (v := 0) hx hb dX6_can_45 (by decide) ?_
    refine m_iret hF hr hlk hQ rfl hO hS dX6_can_46 ?_
    first | exact ⟨mBo_f (fun h => h.2.elim (fun q => c19 q) (fun q => absurd q (Int32.not_le.mpr c38))), rfl⟩ | exact ⟨mBo_f (fun h => absurd h.1 (Int32.not_le.mpr c8)), rfl⟩
  · refine lv_aload_n hx hb dX6_can_11 rfl (lv_at hl 0 rfl) ?_
    refine m_get inX6 hF hC hO rfl rfl 12 (by decide) q_674 (v := .ref (ad 54)) rfl dX6_can_12 ?_
    refine lv_iconst (v := 3) hx hb dX6_can_15 (by decide) ?_
    refine m_iald hF hC hO rfl (j := 3) (by decide) (vp_in_nI (n := 3) (by decide) (by decide)) dX6_can_16 ?_
    refine lv_bipush (v := 70) hx hb dX6_can_17 (by decide) ?_
    refine lv_icmp_gt (tgt := 41) hx hb dX6_can_19 (by decide) (fun c19 => ?_) (fun c19 => ?_)
    · refine lv_iconst (v := 1) hx hb dX6_can_41 (by decide) ?_
      refine lv_goto (tgt := 46) hx hb dX6_can_42 (by decide) ?_
      refine m_iret hF hr hlk hQ rfl hO hS dX6_can_46 ?_
      first | exact ⟨mBo_t ⟨Int32.not_lt.mp c8, Or.inl c19⟩, rfl⟩ | exact ⟨mBo_t ⟨Int32.not_lt.mp c8, Or.inr (Int32.not_lt.mp c38)⟩, rfl⟩
    · refine lv_aload_n hx hb dX6_can_22 rfl (lv_at hl 0 rfl) ?_
      refine lv_iload_n hx hb dX6_can_23 rfl (lv_at hl 1 rfl) ?_
      refine lv_aload_n hx hb dX6_can_24 rfl (lv_at hl 0 rfl) ?_
      refine lv_iload_n hx hb dX6_can_25 rfl (lv_at hl 1 rfl) ?_
      refine m_vI (As := [.int (nI i)]) (rest := [.int (nI i), .ref (ad 50)]) (n := 1) hF hC hO hS (k_X6_grows l G lo sa ad R th g nf F f no O it ch i hnf hno (by omega)) ok_X6_grows q_780 rfl rfl ⟨Nat.le_of_ble_eq_true rfl, Nat.le_of_ble_eq_true rfl⟩ rfl hl.1 rfl (Nat.le_of_ble_eq_true rfl) ⟨Nat.le_of_ble_eq_true rfl, Nat.le_of_ble_eq_true rfl⟩ dX6_can_26 (fun v26 R' H locs hp hO hS => ?_)
      obtain ⟨rfl, hR⟩ := hp
      rw [hR] at hO
      refine m_vI (As := [.int (nI i), .int (m_grow it (F i))]) (rest := []) (n := 2) hF hC hO hS (k_X6_waxOf l G lo sa ad R th g nf F f no O it ch i (m_grow it (F i)) hnf hno (by omega)) ok_X6_waxOf q_785 rfl rfl ⟨Nat.le_of_ble_eq_true rfl, Nat.le_of_ble_eq_true rfl⟩ rfl hl.1 rfl (Nat.le_of_ble_eq_true rfl) ⟨Nat.le_of_ble_eq_true rfl, Nat.le_of_ble_eq_true rfl⟩ dX6_can_29 (fun v29 R' H locs hp hO hS => ?_)
      obtain ⟨rfl, hR⟩ := hp
      rw [hR] at hO
      refine lv_aload_n hx hb dX6_can_32 rfl (lv_at hl 0 rfl) ?_
      refine m_get inX6 hF hC hO rfl rfl 12 (by decide) q_674 (v := .ref (ad 54)) rfl dX6_can_33 ?_
      refine lv_iconst (v := 0) hx hb dX6_can_36 (by decide) ?_
      refine m_iald hF hC hO rfl (j := 0) (by decide) (vp_in_nI (n := 0) (by decide) (by decide)) dX6_can_37 ?_
      refine lv_icmp_gt (tgt := 45) hx hb dX6_can_38 (by decide) (fun c38 => ?_) (fun c38 => ?_)
      · refine lv_iconst (v := 0) hx hb dX6_can_45 (by decide) ?_
        refine m_iret hF hr hlk hQ rfl hO hS dX6_can_46 ?_
        first | exact ⟨mBo_f (fun h => h.2.elim (fun q => c19 q) (fun q => absurd q (Int32.not_le.mpr c38))), rfl⟩ | exact ⟨mBo_f (fun h => absurd h.1 (Int32.not_le.mpr c8)), rfl⟩
      · refine lv_iconst (v := 1) hx hb dX6_can_41 (by decide) ?_
        refine lv_goto (tgt := 46) hx hb dX6_can_42 (by decide) ?_
        refine m_iret hF hr hlk hQ rfl hO hS dX6_can_46 ?_
        first | exact ⟨mBo_t ⟨Int32.not_lt.mp c8, Or.inl c19⟩, rfl⟩ | exact ⟨mBo_t ⟨Int32.not_lt.mp c8, Or.inr (Int32.not_lt.mp c38)⟩, rfl⟩
theorem ok_X6_dipIt : mOK RX6 yX6_dipIt cX6_dipIt 3 none 1 := ⟨q_791, qs_29, q_6, q_792, by decide +kernel⟩
set_option maxHeartbeats 400000 in
set_option maxRecDepth 100000 in
theorem k_X6_dipIt (l : Launch) (G : mG) (lo : Nat) (sa ad : Nat → Nat) (R : mM) (th : Int32) (g : Nat → Int32) (nf : Nat) (F : Nat → Nat → Int32) (f : Nat → Int32) (no : Nat) (O : Nat → Nat → Int32) (it ch : Nat → Int32) (i : Nat) (hnf : nf ≤ 12) (hno : no ≤ 20) (hi : i < 12) : mV l yX6_dipIt cX6_dipIt 3 2 44 G lo sa ad (WM G ad th g nf F f no O it ch R) [.ref (ad 50), .int (nI i)] (fun R' => R' = (WM G ad th g nf F f no O (m_dip it (F i)) ch R)) := by
  refine mV_of (by decide) (Nat.le_of_ble_eq_true rfl) ?_
  intro p e s m args below meth c hF hr hlk hC ls hl hO hS Q hQ
  have hx := hF.1
  have hb := hF.2.1
  have hl : lv_has ls 3 [(0, .ref (ad 50)), (1, .int (nI i))] := hl
  refine lv_aload_n hx hb dX6_dipIt_0 rfl (lv_at hl 0 rfl) ?_
  refine lv_iload_n hx hb dX6_dipIt_1 rfl (lv_at hl 1 rfl) ?_
  refine m_vI (As := [.int (nI i)]) (rest := []) (n := 1) hF hC hO hS (k_X6_grows l G lo sa ad R th g nf F f no O it ch i hnf hno (by omega)) ok_X6_grows q_780 rfl rfl ⟨Nat.le_of_ble_eq_true rfl, Nat.le_of_ble_eq_true rfl⟩ rfl hl.1 rfl (Nat.le_of_ble_eq_true rfl) ⟨Nat.le_of_ble_eq_true rfl, Nat.le_of_ble_eq_true rfl⟩ dX6_dipIt_2 (fun v2 R' H locs hp hO hS => ?_)
  obtain ⟨rfl, hR⟩ := hp
  rw [hR] at hO
  refine lv_istore_n (lv' := [(2, .int (m_grow it (F i))), (0, .ref (ad 50)), (1, .int (nI i))]) hx hb dX6_dipIt_5 rfl hl (by decide) rfl (fun ls hl => ?_)
  refine lv_aload_n hx hb dX6_dipIt_6 rfl (lv_at hl 1 rfl) ?_
  refine m_get inX6 hF hC hO rfl rfl 12 (by decide) q_674 (v := .ref (ad 54)) rfl dX6_dipIt_7 ?_
  refine lv_iconst (v := 3) hx hb dX6_dipIt_10 (by decide) ?_
  refine m_iald hF hC hO rfl (j := 3) (by decide) (vp_in_nI (n := 3) (by decide) (by decide)) dX6_dipIt_11 ?_
  refine lv_bipush (v := 70) hx hb dX6_dipIt_12 (by decide) ?_
  refine lv_icmp_le (tgt := 52) hx hb dX6_dipIt_14 (by decide) (fun c14 => ?_) (fun c14 => ?_)
  · refine lv_aload_n hx hb dX6_dipIt_52 rfl (lv_at hl 1 rfl) ?_
    refine m_get inX6 hF hC hO rfl rfl 12 (by decide) q_674 (v := .ref (ad 54)) rfl dX6_dipIt_53 ?_
    refine lv_iconst (v := 2) hx hb dX6_dipIt_56 (by decide) ?_
    refine m_iald hF hC hO rfl (j := 2) (by decide) (vp_in_nI (n := 2) (by decide) (by decide)) dX6_dipIt_57 ?_
    refine lv_if_le (tgt := 79) hx hb dX6_dipIt_58 (by decide) (fun c58 => ?_) (fun c58 => ?_)
    · refine lv_aload_n hx hb dX6_dipIt_79 rfl (lv_at hl 1 rfl) ?_
      refine m_get inX6 hF hC hO rfl rfl 12 (by decide) q_674 (v := .ref (ad 54)) rfl dX6_dipIt_80 ?_
      refine lv_iconst (v := 0) hx hb dX6_dipIt_83 (by decide) ?_
      refine lv_dup2_11 hx hb dX6_dipIt_84 rfl rfl ?_
      refine m_iald hF hC hO rfl (j := 0) (by decide) (vp_in_nI (n := 0) (by decide) (by decide)) dX6_dipIt_85 ?_
      refine lv_aload_n hx hb dX6_dipIt_86 rfl (lv_at hl 1 rfl) ?_
      refine lv_iload_n hx hb dX6_dipIt_87 rfl (lv_at hl 2 rfl) ?_
      refine lv_iload_n hx hb dX6_dipIt_88 rfl (lv_at hl 0 rfl) ?_
      refine m_vI (As := [.int (nI i), .int (m_grow it (F i))]) (rest := [.int (it 0), .int 0, .ref (ad 54)]) (n := 2) hF hC hO hS (k_X6_waxOf l G lo sa ad R th g nf F f no O it ch i (m_grow it (F i)) hnf hno (by omega)) ok_X6_waxOf q_785 rfl rfl ⟨Nat.le_of_ble_eq_true rfl, Nat.le_of_ble_eq_true rfl⟩ rfl hl.1 rfl (Nat.le_of_ble_eq_true rfl) ⟨Nat.le_of_ble_eq_true rfl, Nat.le_of_ble_eq_true rfl⟩ dX6_dipIt_89 (fun v89 R' H locs hp hO hS => ?_)
      obtain ⟨rfl, hR⟩ := hp
      rw [hR] at hO
      refine lv_isub hx hb dX6_dipIt_92 ?_
      refine m_iast hF hC hO hS rfl (j := 0) (by decide) (vp_in_nI (n := 0) (by decide) (by decide)) dX6_dipIt_93 (fun H locs hO hS => ?_)
      have hO : mO G lo ad (mU (WM G ad th g nf F f no O it ch R) 54 (.inl (G.2 0, 5, .inl (upd it 0 ((it 0) - (p_wax (F i) (m_grow it (F i)))))))) H := hO
      rw [WM_w4] at hO
      refine lv_aload_n hx hb dX6_dipIt_94 rfl (lv_at hl 1 rfl) ?_
      refine m_get inX6 hF hC hO rfl rfl 12 (by decide) q_674 (v := .ref (ad 54)) rfl dX6_dipIt_95 ?_
      refine lv_iconst (v := 2) hx hb dX6_dipIt_98 (by decide) ?_
      refine lv_dup2_11 hx hb dX6_dipIt_99 rfl rfl ?_
      refine m_iald hF hC hO rfl (j := 2) (by decide) (vp_in_nI (n := 2) (by decide) (by decide)) dX6_dipIt_100 ?_
      rw [show ((upd it 0 ((it 0) - (p_wax (F i) (m_grow it (F i))))) 2) = (it 2) from rfl]
      refine lv_iload_n hx hb dX6_dipIt_101 rfl (lv_at hl 0 rfl) ?_
      refine lv_iadd hx hb dX6_dipIt_102 ?_
      refine m_iast hF hC hO hS rfl (j := 2) (by decide) (vp_in_nI (n := 2) (by decide) (by decide)) dX6_dipIt_103 (fun H locs hO hS => ?_)
      have hO : mO G lo ad (mU (WM G ad th g nf F f no O (upd it 0 ((it 0) - (p_wax (F i) (m_grow it (F i))))) ch R) 54 (.inl (G.2 0, 5, .inl (upd (upd it 0 ((it 0) - (p_wax (F i) (m_grow it (F i))))) 2 ((it 2) + (m_grow it (F i))))))) H := hO
      rw [WM_w4] at hO
      refine lv_aload_n hx hb dX6_dipIt_104 rfl (lv_at hl 1 rfl) ?_
      refine m_get inX6 hF hC hO rfl rfl 12 (by decide) q_674 (v := .ref (ad 54)) rfl dX6_dipIt_105 ?_
      refine lv_iconst (v := 3) hx hb dX6_dipIt_108 (by decide) ?_
      refine lv_bipush (v := 100) hx hb dX6_dipIt_109 (by decide) ?_
      refine lv_aload_n hx hb dX6_dipIt_111 rfl (lv_at hl 1 rfl) ?_
      refine m_get inX6 hF hC hO rfl rfl 12 (by decide) q_674 (v := .ref (ad 54)) rfl dX6_dipIt_112 ?_
      refine lv_iconst (v := 3) hx hb dX6_dipIt_115 (by decide) ?_
      refine m_iald hF hC hO rfl (j := 3) (by decide) (vp_in_nI (n := 3) (by decide) (by decide)) dX6_dipIt_116 ?_
      rw [show ((upd (upd it 0 ((it 0) - (p_wax (F i) (m_grow it (F i))))) 2 ((it 2) + (m_grow it (F i)))) 3) = (it 3) from rfl]
      refine lv_aload_n hx hb dX6_dipIt_117 rfl (lv_at hl 1 rfl) ?_
      refine m_get inX6 hF hC hO rfl rfl 12 (by decide) q_674 (v := .ref (ad 54)) rfl dX6_dipIt_118 ?_
      refine lv_iconst (v := 1) hx hb dX6_dipIt_121 (by decide) ?_
      refine m_iald hF hC hO rfl (j := 1) (by decide) (vp_in_nI (n := 1) (by decide) (by decide)) dX6_dipIt_122 ?_
      rw [show ((upd (upd it 0 ((it 0) - (p_wax (F i) (m_grow it (F i))))) 2 ((it 2) + (m_grow it (F i)))) 1) = (it 1) from rfl]
      refine lv_iadd hx hb dX6_dipIt_123 ?_
      refine lv_iconst (v := 2) hx hb dX6_dipIt_124 (by decide) ?_
      refine lv_idiv hx hb dX6_dipIt_125 (by decide) ?_
      refine m_min hF hl.1 q_784 q_168 q_14 q_169 (Nat.le_of_ble_eq_true rfl) (Nat.le_of_ble_eq_true rfl) ⟨Nat.le_of_ble_eq_true rfl, Nat.le_of_ble_eq_true rfl⟩ dX6_dipIt_126 ?_
      refine m_iast hF hC hO hS rfl (j := 3) (by decide) (vp_in_nI (n := 3) (by decide) (by decide)) dX6_dipIt_129 (fun H locs hO hS => ?_)
      have hO : mO G lo ad (mU (WM G ad th g nf F f no O (upd (upd it 0 ((it 0) - (p_wax (F i) (m_grow it (F i))))) 2 ((it 2) + (m_grow it (F i)))) ch R) 54 (.inl (G.2 0, 5, .inl (upd (upd (upd it 0 ((it 0) - (p_wax (F i) (m_grow it (F i))))) 2 ((it 2) + (m_grow it (F i)))) 3 (jmin 100 (((it 3) + (it 1)) / 2)))))) H := hO
      rw [WM_w4] at hO
      refine m_vret hF hr hlk hQ hO hS dX6_dipIt_130 ?_
      rw [m_dip, if_neg (Int32.not_lt.mpr c14), if_neg (fun h => absurd h.1 (Int32.not_lt.mpr c58))]
    · refine lv_aload_n hx hb dX6_dipIt_61 rfl (lv_at hl 1 rfl) ?_
      refine m_get inX6 hF hC hO rfl rfl 12 (by decide) q_674 (v := .ref (ad 54)) rfl dX6_dipIt_62 ?_
      refine lv_iconst (v := 3) hx hb dX6_dipIt_65 (by decide) ?_
      refine m_iald hF hC hO rfl (j := 3) (by decide) (vp_in_nI (n := 3) (by decide) (by decide)) dX6_dipIt_66 ?_
      refine lv_bipush (v := 10) hx hb dX6_dipIt_67 (by decide) ?_
      refine lv_icmp_ge (tgt := 79) hx hb dX6_dipIt_69 (by decide) (fun c69 => ?_) (fun c69 => ?_)
      · refine lv_aload_n hx hb dX6_dipIt_79 rfl (lv_at hl 1 rfl) ?_
        refine m_get inX6 hF hC hO rfl rfl 12 (by decide) q_674 (v := .ref (ad 54)) rfl dX6_dipIt_80 ?_
        refine lv_iconst (v := 0) hx hb dX6_dipIt_83 (by decide) ?_
        refine lv_dup2_11 hx hb dX6_dipIt_84 rfl rfl ?_
        refine m_iald hF hC hO rfl (j := 0) (by decide) (vp_in_nI (n := 0) (by decide) (by decide)) dX6_dipIt_85 ?_
        refine lv_aload_n hx hb dX6_dipIt_86 rfl (lv_at hl 1 rfl) ?_
        refine lv_iload_n hx hb dX6_dipIt_87 rfl (lv_at hl 2 rfl) ?_
        refine lv_iload_n hx hb dX6_dipIt_88 rfl (lv_at hl 0 rfl) ?_
        refine m_vI (As := [.int (nI i), .int (m_grow it (F i))]) (rest := [.int (it 0), .int 0, .ref (ad 54)]) (n := 2) hF hC hO hS (k_X6_waxOf l G lo sa ad R th g nf F f no O it ch i (m_grow it (F i)) hnf hno (by omega)) ok_X6_waxOf q_785 rfl rfl ⟨Nat.le_of_ble_eq_true rfl, Nat.le_of_ble_eq_true rfl⟩ rfl hl.1 rfl (Nat.le_of_ble_eq_true rfl) ⟨Nat.le_of_ble_eq_true rfl, Nat.le_of_ble_eq_true rfl⟩ dX6_dipIt_89 (fun v89 R' H locs hp hO hS => ?_)
        obtain ⟨rfl, hR⟩ := hp
        rw [hR] at hO
        refine lv_isub hx hb dX6_dipIt_92 ?_
        refine m_iast hF hC hO hS rfl (j := 0) (by decide) (vp_in_nI (n := 0) (by decide) (by decide)) dX6_dipIt_93 (fun H locs hO hS => ?_)
        have hO : mO G lo ad (mU (WM G ad th g nf F f no O it ch R) 54 (.inl (G.2 0, 5, .inl (upd it 0 ((it 0) - (p_wax (F i) (m_grow it (F i)))))))) H := hO
        rw [WM_w4] at hO
        refine lv_aload_n hx hb dX6_dipIt_94 rfl (lv_at hl 1 rfl) ?_
        refine m_get inX6 hF hC hO rfl rfl 12 (by decide) q_674 (v := .ref (ad 54)) rfl dX6_dipIt_95 ?_
        refine lv_iconst (v := 2) hx hb dX6_dipIt_98 (by decide) ?_
        refine lv_dup2_11 hx hb dX6_dipIt_99 rfl rfl ?_
        refine m_iald hF hC hO rfl (j := 2) (by decide) (vp_in_nI (n := 2) (by decide) (by decide)) dX6_dipIt_100 ?_
        rw [show ((upd it 0 ((it 0) - (p_wax (F i) (m_grow it (F i))))) 2) = (it 2) from rfl]
        refine lv_iload_n hx hb dX6_dipIt_101 rfl (lv_at hl 0 rfl) ?_
        refine lv_iadd hx hb dX6_dipIt_102 ?_
        refine m_iast hF hC hO hS rfl (j := 2) (by decide) (vp_in_nI (n := 2) (by decide) (by decide)) dX6_dipIt_103 (fun H locs hO hS => ?_)
        have hO : mO G lo ad (mU (WM G ad th g nf F f no O (upd it 0 ((it 0) - (p_wax (F i) (m_grow it (F i))))) ch R) 54 (.inl (G.2 0, 5, .inl (upd (upd it 0 ((it 0) - (p_wax (F i) (m_grow it (F i))))) 2 ((it 2) + (m_grow it (F i))))))) H := hO
        rw [WM_w4] at hO
        refine lv_aload_n hx hb dX6_dipIt_104 rfl (lv_at hl 1 rfl) ?_
        refine m_get inX6 hF hC hO rfl rfl 12 (by decide) q_674 (v := .ref (ad 54)) rfl dX6_dipIt_105 ?_
        refine lv_iconst (v := 3) hx hb dX6_dipIt_108 (by decide) ?_
        refine lv_bipush (v := 100) hx hb dX6_dipIt_109 (by decide) ?_
        refine lv_aload_n hx hb dX6_dipIt_111 rfl (lv_at hl 1 rfl) ?_
        refine m_get inX6 hF hC hO rfl rfl 12 (by decide) q_674 (v := .ref (ad 54)) rfl dX6_dipIt_112 ?_
        refine lv_iconst (v := 3) hx hb dX6_dipIt_115 (by decide) ?_
        refine m_iald hF hC hO rfl (j := 3) (by decide) (vp_in_nI (n := 3) (by decide) (by decide)) dX6_dipIt_116 ?_
        rw [show ((upd (upd it 0 ((it 0) - (p_wax (F i) (m_grow it (F i))))) 2 ((it 2) + (m_grow it (F i)))) 3) = (it 3) from rfl]
        refine lv_aload_n hx hb dX6_dipIt_117 rfl (lv_at hl 1 rfl) ?_
        refine m_get inX6 hF hC hO rfl rfl 12 (by decide) q_674 (v := .ref (ad 54)) rfl dX6_dipIt_118 ?_
        refine lv_iconst (v := 1) hx hb dX6_dipIt_121 (by decide) ?_
        refine m_iald hF hC hO rfl (j := 1) (by decide) (vp_in_nI (n := 1) (by decide) (by decide)) dX6_dipIt_122 ?_
        rw [show ((upd (upd it 0 ((it 0) - (p_wax (F i) (m_grow it (F i))))) 2 ((it 2) + (m_grow it (F i)))) 1) = (it 1) from rfl]
        refine lv_iadd hx hb dX6_dipIt_123 ?_
        refine lv_iconst (v := 2) hx hb dX6_dipIt_124 (by decide) ?_
        refine lv_idiv hx hb dX6_dipIt_125 (by decide) ?_
        refine m_min hF hl.1 q_784 q_168 q_14 q_169 (Nat.le_of_ble_eq_true rfl) (Nat.le_of_ble_eq_true rfl) ⟨Nat.le_of_ble_eq_true rfl, Nat.le_of_ble_eq_true rfl⟩ dX6_dipIt_126 ?_
        refine m_iast hF hC hO hS rfl (j := 3) (by decide) (vp_in_nI (n := 3) (by decide) (by decide)) dX6_dipIt_129 (fun H locs hO hS => ?_)
        have hO : mO G lo ad (mU (WM G ad th g nf F f no O (upd (upd it 0 ((it 0) - (p_wax (F i) (m_grow it (F i))))) 2 ((it 2) + (m_grow it (F i)))) ch R) 54 (.inl (G.2 0, 5, .inl (upd (upd (upd it 0 ((it 0) - (p_wax (F i) (m_grow it (F i))))) 2 ((it 2) + (m_grow it (F i)))) 3 (jmin 100 (((it 3) + (it 1)) / 2)))))) H := hO
        rw [WM_w4] at hO
        refine m_vret hF hr hlk hQ hO hS dX6_dipIt_130 ?_
        rw [m_dip, if_neg (Int32.not_lt.mpr c14), if_neg (fun h => absurd h.2 (Int32.not_lt.mpr c69))]
      · refine lv_aload_n hx hb dX6_dipIt_72 rfl (lv_at hl 1 rfl) ?_
        refine m_get inX6 hF hC hO rfl rfl 12 (by decide) q_674 (v := .ref (ad 54)) rfl dX6_dipIt_73 ?_
        refine lv_iconst (v := 4) hx hb dX6_dipIt_76 (by decide) ?_
        refine lv_iconst (v := 1) hx hb dX6_dipIt_77 (by decide) ?_
        refine m_iast hF hC hO hS rfl (j := 4) (by decide) (vp_in_nI (n := 4) (by decide) (by decide)) dX6_dipIt_78 (fun H locs hO hS => ?_)
        have hO : mO G lo ad (mU (WM G ad th g nf F f no O it ch R) 54 (.inl (G.2 0, 5, .inl (upd it 4 1)))) H := hO
        rw [WM_w4] at hO
        refine lv_aload_n hx hb dX6_dipIt_79 rfl (lv_at hl 1 rfl) ?_
        refine m_get inX6 hF hC hO rfl rfl 12 (by decide) q_674 (v := .ref (ad 54)) rfl dX6_dipIt_80 ?_
        refine lv_iconst (v := 0) hx hb dX6_dipIt_83 (by decide) ?_
        refine lv_dup2_11 hx hb dX6_dipIt_84 rfl rfl ?_
        refine m_iald hF hC hO rfl (j := 0) (by decide) (vp_in_nI (n := 0) (by decide) (by decide)) dX6_dipIt_85 ?_
        rw [show ((upd it 4 1) 0) = (it 0) from rfl]
        refine lv_aload_n hx hb dX6_dipIt_86 rfl (lv_at hl 1 rfl) ?_
        refine lv_iload_n hx hb dX6_dipIt_87 rfl (lv_at hl 2 rfl) ?_
        refine lv_iload_n hx hb dX6_dipIt_88 rfl (lv_at hl 0 rfl) ?_
        refine m_vI (As := [.int (nI i), .int (m_grow it (F i))]) (rest := [.int (it 0), .int 0, .ref (ad 54)]) (n := 2) hF hC hO hS (k_X6_waxOf l G lo sa ad R th g nf F f no O (upd it 4 1) ch i (m_grow it (F i)) hnf hno (by omega)) ok_X6_waxOf q_785 rfl rfl ⟨Nat.le_of_ble_eq_true rfl, Nat.le_of_ble_eq_true rfl⟩ rfl hl.1 rfl (Nat.le_of_ble_eq_true rfl) ⟨Nat.le_of_ble_eq_true rfl, Nat.le_of_ble_eq_true rfl⟩ dX6_dipIt_89 (fun v89 R' H locs hp hO hS => ?_)
        obtain ⟨rfl, hR⟩ := hp
        rw [hR] at hO
        refine lv_isub hx hb dX6_dipIt_92 ?_
        refine m_iast hF hC hO hS rfl (j := 0) (by decide) (vp_in_nI (n := 0) (by decide) (by decide)) dX6_dipIt_93 (fun H locs hO hS => ?_)
        have hO : mO G lo ad (mU (WM G ad th g nf F f no O (upd it 4 1) ch R) 54 (.inl (G.2 0, 5, .inl (upd (upd it 4 1) 0 ((it 0) - (p_wax (F i) (m_grow it (F i)))))))) H := hO
        rw [WM_w4] at hO
        refine lv_aload_n hx hb dX6_dipIt_94 rfl (lv_at hl 1 rfl) ?_
        refine m_get inX6 hF hC hO rfl rfl 12 (by decide) q_674 (v := .ref (ad 54)) rfl dX6_dipIt_95 ?_
        refine lv_iconst (v := 2) hx hb dX6_dipIt_98 (by decide) ?_
        refine lv_dup2_11 hx hb dX6_dipIt_99 rfl rfl ?_
        refine m_iald hF hC hO rfl (j := 2) (by decide) (vp_in_nI (n := 2) (by decide) (by decide)) dX6_dipIt_100 ?_
        rw [show ((upd (upd it 4 1) 0 ((it 0) - (p_wax (F i) (m_grow it (F i))))) 2) = (it 2) from rfl]
        refine lv_iload_n hx hb dX6_dipIt_101 rfl (lv_at hl 0 rfl) ?_
        refine lv_iadd hx hb dX6_dipIt_102 ?_
        refine m_iast hF hC hO hS rfl (j := 2) (by decide) (vp_in_nI (n := 2) (by decide) (by decide)) dX6_dipIt_103 (fun H locs hO hS => ?_)
        have hO : mO G lo ad (mU (WM G ad th g nf F f no O (upd (upd it 4 1) 0 ((it 0) - (p_wax (F i) (m_grow it (F i))))) ch R) 54 (.inl (G.2 0, 5, .inl (upd (upd (upd it 4 1) 0 ((it 0) - (p_wax (F i) (m_grow it (F i))))) 2 ((it 2) + (m_grow it (F i))))))) H := hO
        rw [WM_w4] at hO
        refine lv_aload_n hx hb dX6_dipIt_104 rfl (lv_at hl 1 rfl) ?_
        refine m_get inX6 hF hC hO rfl rfl 12 (by decide) q_674 (v := .ref (ad 54)) rfl dX6_dipIt_105 ?_
        refine lv_iconst (v := 3) hx hb dX6_dipIt_108 (by decide) ?_
        refine lv_bipush (v := 100) hx hb dX6_dipIt_109 (by decide) ?_
        refine lv_aload_n hx hb dX6_dipIt_111 rfl (lv_at hl 1 rfl) ?_
        refine m_get inX6 hF hC hO rfl rfl 12 (by decide) q_674 (v := .ref (ad 54)) rfl dX6_dipIt_112 ?_
        refine lv_iconst (v := 3) hx hb dX6_dipIt_115 (by decide) ?_
        refine m_iald hF hC hO rfl (j := 3) (by decide) (vp_in_nI (n := 3) (by decide) (by decide)) dX6_dipIt_116 ?_
        rw [show ((upd (upd (upd it 4 1) 0 ((it 0) - (p_wax (F i) (m_grow it (F i))))) 2 ((it 2) + (m_grow it (F i)))) 3) = (it 3) from rfl]
        refine lv_aload_n hx hb dX6_dipIt_117 rfl (lv_at hl 1 rfl) ?_
        refine m_get inX6 hF hC hO rfl rfl 12 (by decide) q_674 (v := .ref (ad 54)) rfl dX6_dipIt_118 ?_
        refine lv_iconst (v := 1) hx hb dX6_dipIt_121 (by decide) ?_
        refine m_iald hF hC hO rfl (j := 1) (by decide) (vp_in_nI (n := 1) (by decide) (by decide)) dX6_dipIt_122 ?_
        rw [show ((upd (upd (upd it 4 1) 0 ((it 0) - (p_wax (F i) (m_grow it (F i))))) 2 ((it 2) + (m_grow it (F i)))) 1) = (it 1) from rfl]
        refine lv_iadd hx hb dX6_dipIt_123 ?_
        refine lv_iconst (v := 2) hx hb dX6_dipIt_124 (by decide) ?_
        refine lv_idiv hx hb dX6_dipIt_125 (by decide) ?_
        refine m_min hF hl.1 q_784 q_168 q_14 q_169 (Nat.le_of_ble_eq_true rfl) (Nat.le_of_ble_eq_true rfl) ⟨Nat.le_of_ble_eq_true rfl, Nat.le_of_ble_eq_true rfl⟩ dX6_dipIt_126 ?_
        refine m_iast hF hC hO hS rfl (j := 3) (by decide) (vp_in_nI (n := 3) (by decide) (by decide)) dX6_dipIt_129 (fun H locs hO hS => ?_)
        have hO : mO G lo ad (mU (WM G ad th g nf F f no O (upd (upd (upd it 4 1) 0 ((it 0) - (p_wax (F i) (m_grow it (F i))))) 2 ((it 2) + (m_grow it (F i)))) ch R) 54 (.inl (G.2 0, 5, .inl (upd (upd (upd (upd it 4 1) 0 ((it 0) - (p_wax (F i) (m_grow it (F i))))) 2 ((it 2) + (m_grow it (F i)))) 3 (jmin 100 (((it 3) + (it 1)) / 2)))))) H := hO
        rw [WM_w4] at hO
        refine m_vret hF hr hlk hQ hO hS dX6_dipIt_130 ?_
        rw [m_dip, if_neg (Int32.not_lt.mpr c14), if_pos ⟨Int32.not_le.mp c58, Int32.not_le.mp c69⟩]
  · refine lv_aload_n hx hb dX6_dipIt_17 rfl (lv_at hl 1 rfl) ?_
    refine m_get inX6 hF hC hO rfl rfl 12 (by decide) q_674 (v := .ref (ad 54)) rfl dX6_dipIt_18 ?_
    refine lv_iconst (v := 2) hx hb dX6_dipIt_21 (by decide) ?_
    refine lv_dup2_11 hx hb dX6_dipIt_22 rfl rfl ?_
    refine m_iald hF hC hO rfl (j := 2) (by decide) (vp_in_nI (n := 2) (by decide) (by decide)) dX6_dipIt_23 ?_
    refine lv_iload_n hx hb dX6_dipIt_24 rfl (lv_at hl 0 rfl) ?_
    refine lv_iadd hx hb dX6_dipIt_25 ?_
    refine m_iast hF hC hO hS rfl (j := 2) (by decide) (vp_in_nI (n := 2) (by decide) (by decide)) dX6_dipIt_26 (fun H locs hO hS => ?_)
    have hO : mO G lo ad (mU (WM G ad th g nf F f no O it ch R) 54 (.inl (G.2 0, 5, .inl (upd it 2 ((it 2) + (m_grow it (F i))))))) H := hO
    rw [WM_w4] at hO
    refine lv_aload_n hx hb dX6_dipIt_27 rfl (lv_at hl 1 rfl) ?_
    refine m_get inX6 hF hC hO rfl rfl 12 (by decide) q_674 (v := .ref (ad 54)) rfl dX6_dipIt_28 ?_
    refine lv_iconst (v := 2) hx hb dX6_dipIt_31 (by decide) ?_
    refine m_iald hF hC hO rfl (j := 2) (by decide) (vp_in_nI (n := 2) (by decide) (by decide)) dX6_dipIt_32 ?_
    rw [show ((upd it 2 ((it 2) + (m_grow it (F i)))) 2) = ((it 2) + (m_grow it (F i))) from rfl]
    refine lv_if_ne (tgt := 43) hx hb dX6_dipIt_33 (by decide) (fun c33 => ?_) (fun c33 => ?_)
    · refine lv_aload_n hx hb dX6_dipIt_43 rfl (lv_at hl 1 rfl) ?_
      refine m_get inX6 hF hC hO rfl rfl 12 (by decide) q_674 (v := .ref (ad 54)) rfl dX6_dipIt_44 ?_
      refine lv_iconst (v := 3) hx hb dX6_dipIt_47 (by decide) ?_
      refine lv_bipush (v := 100) hx hb dX6_dipIt_48 (by decide) ?_
      refine m_iast hF hC hO hS rfl (j := 3) (by decide) (vp_in_nI (n := 3) (by decide) (by decide)) dX6_dipIt_50 (fun H locs hO hS => ?_)
      have hO : mO G lo ad (mU (WM G ad th g nf F f no O (upd it 2 ((it 2) + (m_grow it (F i)))) ch R) 54 (.inl (G.2 0, 5, .inl (upd (upd it 2 ((it 2) + (m_grow it (F i)))) 3 100)))) H := hO
      rw [WM_w4] at hO
      refine m_vret hF hr hlk hQ hO hS dX6_dipIt_51 ?_
      first | rw [m_dip, if_pos (Int32.not_le.mp c14), if_pos c33] | rw [m_dip, if_pos (Int32.not_le.mp c14), if_neg c33]
    · refine lv_aload_n hx hb dX6_dipIt_36 rfl (lv_at hl 1 rfl) ?_
      refine m_get inX6 hF hC hO rfl rfl 12 (by decide) q_674 (v := .ref (ad 54)) rfl dX6_dipIt_37 ?_
      refine lv_iconst (v := 4) hx hb dX6_dipIt_40 (by decide) ?_
      refine lv_iconst (v := 0) hx hb dX6_dipIt_41 (by decide) ?_
      refine m_iast hF hC hO hS rfl (j := 4) (by decide) (vp_in_nI (n := 4) (by decide) (by decide)) dX6_dipIt_42 (fun H locs hO hS => ?_)
      have hO : mO G lo ad (mU (WM G ad th g nf F f no O (upd it 2 ((it 2) + (m_grow it (F i)))) ch R) 54 (.inl (G.2 0, 5, .inl (upd (upd it 2 ((it 2) + (m_grow it (F i)))) 4 0)))) H := hO
      rw [WM_w4] at hO
      refine lv_aload_n hx hb dX6_dipIt_43 rfl (lv_at hl 1 rfl) ?_
      refine m_get inX6 hF hC hO rfl rfl 12 (by decide) q_674 (v := .ref (ad 54)) rfl dX6_dipIt_44 ?_
      refine lv_iconst (v := 3) hx hb dX6_dipIt_47 (by decide) ?_
      refine lv_bipush (v := 100) hx hb dX6_dipIt_48 (by decide) ?_
      refine m_iast hF hC hO hS rfl (j := 3) (by decide) (vp_in_nI (n := 3) (by decide) (by decide)) dX6_dipIt_50 (fun H locs hO hS => ?_)
      have hO : mO G lo ad (mU (WM G ad th g nf F f no O (upd (upd it 2 ((it 2) + (m_grow it (F i)))) 4 0) ch R) 54 (.inl (G.2 0, 5, .inl (upd (upd (upd it 2 ((it 2) + (m_grow it (F i)))) 4 0) 3 100)))) H := hO
      rw [WM_w4] at hO
      refine m_vret hF hr hlk hQ hO hS dX6_dipIt_51 ?_
      first | rw [m_dip, if_pos (Int32.not_le.mp c14), if_pos c33] | rw [m_dip, if_pos (Int32.not_le.mp c14), if_neg c33]
theorem ok_X6_heatBehind : mOK RX6 yX6_heatBehind cX6_heatBehind 3 (some .int) 1 := ⟨q_799, qs_31, q_6, q_800, by decide +kernel⟩
set_option maxHeartbeats 400000 in
set_option maxRecDepth 100000 in
theorem k_X6_heatBehind (l : Launch) (G : mG) (lo : Nat) (sa ad : Nat → Nat) (R : mM) (th : Int32) (g : Nat → Int32) (nf : Nat) (F : Nat → Nat → Int32) (f : Nat → Int32) (no : Nat) (O : Nat → Nat → Int32) (it ch : Nat → Int32) (h : Int32) (hnf : nf ≤ 12) (hno : no ≤ 20) : mI l yX6_heatBehind cX6_heatBehind 3 .int 1 21 G lo sa ad (WM G ad th g nf F f no O it ch R) [.ref (ad 50), .int h] (fun v R' => v = (p_burn (g 2) h) ∧ R' = (WM G ad th g nf F f no O it ch R)) := by
  refine mI_of (by decide) (Nat.le_of_ble_eq_true rfl) ?_
  intro p e s m args below meth c hF hr hlk hC ls hl hO hS Q hQ
  have hx := hF.1
  have hb := hF.2.1
  have hl : lv_has ls 3 [(0, .ref (ad 50)), (1, .int h)] := hl
  refine lv_iload_n hx hb dX6_heatBehind_0 rfl (lv_at hl 1 rfl) ?_
  refine lv_bipush (v := 6) hx hb dX6_heatBehind_1 (by decide) ?_
  refine lv_aload_n hx hb dX6_heatBehind_3 rfl (lv_at hl 0 rfl) ?_
  refine m_get inX6 hF hC hO rfl rfl 3 (by decide) q_665 (v := .int (g 2)) rfl dX6_heatBehind_4 ?_
  refine lv_imul hx hb dX6_heatBehind_7 ?_
  refine lv_iadd hx hb dX6_heatBehind_8 ?_
  refine lv_istore_n (lv' := [(2, .int (h + (6 * (g 2)))), (0, .ref (ad 50)), (1, .int h)]) hx hb dX6_heatBehind_9 rfl hl (by decide) rfl (fun ls hl => ?_)
  refine lv_iconst (v := 0) hx hb dX6_heatBehind_10 (by decide) ?_
  refine lv_bipush (v := 120) hx hb dX6_heatBehind_11 (by decide) ?_
  refine lv_iload_n hx hb dX6_heatBehind_13 rfl (lv_at hl 0 rfl) ?_
  refine lv_iload_n hx hb dX6_heatBehind_14 rfl (lv_at hl 0 rfl) ?_
  refine lv_bipush (v := 20) hx hb dX6_heatBehind_15 (by decide) ?_
  refine lv_isub hx hb dX6_heatBehind_17 ?_
  refine lv_bipush (v := 10) hx hb dX6_heatBehind_18 (by decide) ?_
  refine lv_idiv hx hb dX6_heatBehind_20 (by decide) ?_
  refine lv_isub hx hb dX6_heatBehind_21 ?_
  refine m_min hF hl.1 q_784 q_168 q_14 q_169 (Nat.le_of_ble_eq_true rfl) (Nat.le_of_ble_eq_true rfl) ⟨Nat.le_of_ble_eq_true rfl, Nat.le_of_ble_eq_true rfl⟩ dX6_heatBehind_22 ?_
  refine m_max hF hl.1 q_801 q_458 q_14 q_459 (Nat.le_of_ble_eq_true rfl) (Nat.le_of_ble_eq_true rfl) ⟨Nat.le_of_ble_eq_true rfl, Nat.le_of_ble_eq_true rfl⟩ dX6_heatBehind_25 ?_
  refine m_iret hF hr hlk hQ rfl hO hS dX6_heatBehind_28 ?_
  exact ⟨rfl, rfl⟩
theorem ok_X6_cools : mOK RX6 yX6_cools cX6_cools 2 (some .int) 1 := ⟨q_804, qs_32, q_6, q_805, by decide +kernel⟩
set_option maxHeartbeats 400000 in
set_option maxRecDepth 100000 in
theorem k_X6_cools (l : Launch) (G : mG) (lo : Nat) (sa ad : Nat → Nat) (R : mM) (th : Int32) (g : Nat → Int32) (nf : Nat) (F : Nat → Nat → Int32) (f : Nat → Int32) (no : Nat) (O : Nat → Nat → Int32) (it ch : Nat → Int32) (i : Nat) (hnf : nf ≤ 12) (hno : no ≤ 20) (hi : i < 12) : mI l yX6_cools cX6_cools 2 .int 1 22 G lo sa ad (WM G ad th g nf F f no O it ch R) [.ref (ad 50), .int (nI i)] (fun v R' => v = (p_cooling (F i)) ∧ R' = (WM G ad th g nf F f no O it ch R)) := by
  refine mI_of (by decide) (Nat.le_of_ble_eq_true rfl) ?_
  intro p e s m args below meth c hF hr hlk hC ls hl hO hS Q hQ
  have hx := hF.1
  have hb := hF.2.1
  have hl : lv_has ls 2 [(0, .ref (ad 50)), (1, .int (nI i))] := hl
  refine lv_aload_n hx hb dX6_cools_0 rfl (lv_at hl 0 rfl) ?_
  refine lv_iload_n hx hb dX6_cools_1 rfl (lv_at hl 1 rfl) ?_
  refine lv_iconst (v := 5) hx hb dX6_cools_2 (by decide) ?_
  refine m_vI (As := [.int (nI i), .int 5]) (rest := []) (n := 2) hF hC hO hS (k_X6_fr l G lo sa ad R th g nf F f no O it ch i 5 hnf hno (by omega) (by omega)) ok_X6_fr q_752 rfl rfl ⟨Nat.le_of_ble_eq_true rfl, Nat.le_of_ble_eq_true rfl⟩ rfl hl.1 rfl (Nat.le_of_ble_eq_true rfl) ⟨Nat.le_of_ble_eq_true rfl, Nat.le_of_ble_eq_true rfl⟩ dX6_cools_3 (fun v3 R' H locs hp hO hS => ?_)
  obtain ⟨rfl, hR⟩ := hp
  rw [hR] at hO
  refine lv_iconst (v := -1) hx hb dX6_cools_6 (by decide) ?_
  refine lv_icmp_ne (tgt := 14) hx hb dX6_cools_7 (by decide) (fun c7 => ?_) (fun c7 => ?_)
  · refine lv_aload_n hx hb dX6_cools_14 rfl (lv_at hl 0 rfl) ?_
    refine lv_iload_n hx hb dX6_cools_15 rfl (lv_at hl 1 rfl) ?_
    refine lv_iconst (v := 5) hx hb dX6_cools_16 (by decide) ?_
    refine m_vI (As := [.int (nI i), .int 5]) (rest := []) (n := 2) hF hC hO hS (k_X6_fr l G lo sa ad R th g nf F f no O it ch i 5 hnf hno (by omega) (by omega)) ok_X6_fr q_752 rfl rfl ⟨Nat.le_of_ble_eq_true rfl, Nat.le_of_ble_eq_true rfl⟩ rfl hl.1 rfl (Nat.le_of_ble_eq_true rfl) ⟨Nat.le_of_ble_eq_true rfl, Nat.le_of_ble_eq_true rfl⟩ dX6_cools_17 (fun v17 R' H locs hp hO hS => ?_)
    obtain ⟨rfl, hR⟩ := hp
    rw [hR] at hO
    refine lv_bipush (v := 6) hx hb dX6_cools_20 (by decide) ?_
    refine lv_icmp_ge (tgt := 30) hx hb dX6_cools_22 (by decide) (fun c22 => ?_) (fun c22 => ?_)
    · refine lv_bipush (v := 6) hx hb dX6_cools_30 (by decide) ?_
      refine m_iret hF hr hlk hQ rfl hO hS dX6_cools_32 ?_
      exact ⟨by first | rw [p_cooling, if_pos c7] | rw [p_cooling, if_neg c7, if_pos (Int32.not_le.mp c22)] | rw [p_cooling, if_neg c7, if_neg (Int32.not_lt.mpr c22)], rfl⟩
    · refine lv_bipush (v := 12) hx hb dX6_cools_25 (by decide) ?_
      refine lv_goto (tgt := 32) hx hb dX6_cools_27 (by decide) ?_
      refine m_iret hF hr hlk hQ rfl hO hS dX6_cools_32 ?_
      exact ⟨by first | rw [p_cooling, if_pos c7] | rw [p_cooling, if_neg c7, if_pos (Int32.not_le.mp c22)] | rw [p_cooling, if_neg c7, if_neg (Int32.not_lt.mpr c22)], rfl⟩
  · refine lv_iconst (v := 3) hx hb dX6_cools_10 (by decide) ?_
    refine lv_goto (tgt := 32) hx hb dX6_cools_11 (by decide) ?_
    refine m_iret hF hr hlk hQ rfl hO hS dX6_cools_32 ?_
    exact ⟨by first | rw [p_cooling, if_pos c7] | rw [p_cooling, if_neg c7, if_pos (Int32.not_le.mp c22)] | rw [p_cooling, if_neg c7, if_neg (Int32.not_lt.mpr c22)], rfl⟩
theorem ok_X6_hangs : mOK RX6 yX6_hangs cX6_hangs 2 (some .boolean) 1 := ⟨q_774, qs_25, q_6, q_775, by decide +kernel⟩
set_option maxHeartbeats 400000 in
set_option maxRecDepth 100000 in
theorem k_X6_hangs (l : Launch) (G : mG) (lo : Nat) (sa ad : Nat → Nat) (R : mM) (th : Int32) (g : Nat → Int32) (nf : Nat) (F : Nat → Nat → Int32) (f : Nat → Int32) (no : Nat) (O : Nat → Nat → Int32) (it ch : Nat → Int32) (i : Nat) (hnf : nf ≤ 12) (hno : no ≤ 20) (hi : i < 12) : mI l yX6_hangs cX6_hangs 2 .boolean 1 22 G lo sa ad (WM G ad th g nf F f no O it ch R) [.ref (ad 50), .int (nI i)] (fun v R' => mBo (F i 5 ≠ -1) v ∧ R' = (WM G ad th g nf F f no O it ch R)) := by
  refine mI_of (by decide) (Nat.le_of_ble_eq_true rfl) ?_
  intro p e s m args below meth c hF hr hlk hC ls hl hO hS Q hQ
  have hx := hF.1
  have hb := hF.2.1
  have hl : lv_has ls 2 [(0, .ref (ad 50)), (1, .int (nI i))] := hl
  refine lv_aload_n hx hb dX6_hangs_0 rfl (lv_at hl 0 rfl) ?_
  refine lv_iload_n hx hb dX6_hangs_1 rfl (lv_at hl 1 rfl) ?_
  refine lv_iconst (v := 5) hx hb dX6_hangs_2 (by decide) ?_
  refine m_vI (As := [.int (nI i), .int 5]) (rest := []) (n := 2) hF hC hO hS (k_X6_fr l G lo sa ad R th g nf F f no O it ch i 5 hnf hno (by omega) (by omega)) ok_X6_fr q_752 rfl rfl ⟨Nat.le_of_ble_eq_true rfl, Nat.le_of_ble_eq_true rfl⟩ rfl hl.1 rfl (Nat.le_of_ble_eq_true rfl) ⟨Nat.le_of_ble_eq_true rfl, Nat.le_of_ble_eq_true rfl⟩ dX6_hangs_3 (fun v3 R' H locs hp hO hS => ?_)
  obtain ⟨rfl, hR⟩ := hp
  rw [hR] at hO
  refine lv_iconst (v := -1) hx hb dX6_hangs_6 (by decide) ?_
  refine lv_icmp_eq (tgt := 14) hx hb dX6_hangs_7 (by decide) (fun c7 => ?_) (fun c7 => ?_)
  · refine lv_iconst (v := 0) hx hb dX6_hangs_14 (by decide) ?_
    refine m_iret hF hr hlk hQ rfl hO hS dX6_hangs_15 ?_
    exact ⟨mBo_f (fun h => h c7), rfl⟩
  · refine lv_iconst (v := 1) hx hb dX6_hangs_10 (by decide) ?_
    refine lv_goto (tgt := 15) hx hb dX6_hangs_11 (by decide) ?_
    refine m_iret hF hr hlk hQ rfl hO hS dX6_hangs_15 ?_
    exact ⟨mBo_t c7, rfl⟩
theorem ok_X6_frameTold : mOK RX6 yX6_frameTold cX6_frameTold 3 (some .int) 2 := ⟨q_823, qs_34, q_6, q_824, by decide +kernel⟩
set_option maxHeartbeats 400000 in
set_option maxRecDepth 100000 in
theorem k_X6_frameTold (l : Launch) (G : mG) (lo : Nat) (sa ad : Nat → Nat) (R : mM) (th : Int32) (g : Nat → Int32) (nf : Nat) (F : Nat → Nat → Int32) (f : Nat → Int32) (no : Nat) (O : Nat → Nat → Int32) (it ch : Nat → Int32) (i k : Nat) (hnf : nf ≤ 12) (hno : no ≤ 20) (hi : i < 12) (hk8 : k < 8) : mI l yX6_frameTold cX6_frameTold 3 .int 2 42 G lo sa ad (WM G ad th g nf F f no O it ch R) [.ref (ad 50), .int (nI i), .int (nI k)] (fun v R' => v = (m_frame (F i) k) ∧ R' = (WM G ad th g nf F f no O it ch R)) := by
  refine mI_of (by decide) (Nat.le_of_ble_eq_true rfl) ?_
  intro p e s m args below meth c hF hr hlk hC ls hl hO hS Q hQ
  have hx := hF.1
  have hb := hF.2.1
  have hl : lv_has ls 3 [(0, .ref (ad 50)), (1, .int (nI i)), (2, .int (nI k))] := hl
  refine lv_iload_n hx hb dX6_frameTold_0 rfl (lv_at hl 2 rfl) ?_
  refine lv_bipush (v := 7) hx hb dX6_frameTold_1 (by decide) ?_
  refine lv_icmp_ge (tgt := 15) hx hb dX6_frameTold_3 (by decide) (fun c3 => ?_) (fun c3 => ?_)
  · refine lv_aload_n hx hb dX6_frameTold_15 rfl (lv_at hl 0 rfl) ?_
    refine lv_iload_n hx hb dX6_frameTold_16 rfl (lv_at hl 1 rfl) ?_
    refine lv_iconst (v := 2) hx hb dX6_frameTold_17 (by decide) ?_
    refine m_vI (As := [.int (nI i), .int 2]) (rest := []) (n := 2) hF hC hO hS (k_X6_fr l G lo sa ad R th g nf F f no O it ch i 2 hnf hno (by omega) (by omega)) ok_X6_fr q_752 rfl rfl ⟨Nat.le_of_ble_eq_true rfl, Nat.le_of_ble_eq_true rfl⟩ rfl hl.1 rfl (Nat.le_of_ble_eq_true rfl) ⟨Nat.le_of_ble_eq_true rfl, Nat.le_of_ble_eq_true rfl⟩ dX6_frameTold_18 (fun v18 R' H locs hp hO hS => ?_)
    obtain ⟨rfl, hR⟩ := hp
    rw [hR] at hO
    refine lv_aload_n hx hb dX6_frameTold_21 rfl (lv_at hl 0 rfl) ?_
    refine lv_iload_n hx hb dX6_frameTold_22 rfl (lv_at hl 1 rfl) ?_
    refine lv_iconst (v := 4) hx hb dX6_frameTold_23 (by decide) ?_
    refine m_vI (As := [.int (nI i), .int 4]) (rest := [.int (F i 2)]) (n := 2) hF hC hO hS (k_X6_fr l G lo sa ad R th g nf F f no O it ch i 4 hnf hno (by omega) (by omega)) ok_X6_fr q_752 rfl rfl ⟨Nat.le_of_ble_eq_true rfl, Nat.le_of_ble_eq_true rfl⟩ rfl hl.1 rfl (Nat.le_of_ble_eq_true rfl) ⟨Nat.le_of_ble_eq_true rfl, Nat.le_of_ble_eq_true rfl⟩ dX6_frameTold_24 (fun v24 R' H locs hp hO hS => ?_)
    obtain ⟨rfl, hR⟩ := hp
    rw [hR] at hO
    refine m_sI (As := [.int (F i 2), .int (F i 4)]) (rest := []) (n := 2) hF hC hO hS (k_X6_size l G lo sa ad _ (F i 2) (F i 4) ) ok_X6_size q_814 ⟨Nat.le_of_ble_eq_true rfl, Nat.le_of_ble_eq_true rfl⟩ rfl hl.1 rfl (Nat.le_of_ble_eq_true rfl) ⟨Nat.le_of_ble_eq_true rfl, Nat.le_of_ble_eq_true rfl⟩ dX6_frameTold_27 (fun v27 R' H locs hp hO hS => ?_)
    obtain ⟨rfl, hR⟩ := hp
    rw [hR] at hO
    refine m_iret hF hr hlk hQ rfl hO hS dX6_frameTold_30 ?_
    exact ⟨by first | rw [m_frame, if_pos (nI_nE (a := 7) (b := k) (by decide) (by omega) c3)] | rw [m_frame, if_neg (Nat.not_lt.mpr (nI_E (a := 7) (b := k) (by decide) (by omega) c3))], rfl⟩
  · refine lv_aload_n hx hb dX6_frameTold_6 rfl (lv_at hl 0 rfl) ?_
    refine lv_iload_n hx hb dX6_frameTold_7 rfl (lv_at hl 1 rfl) ?_
    refine lv_iload_n hx hb dX6_frameTold_8 rfl (lv_at hl 2 rfl) ?_
    refine m_vI (As := [.int (nI i), .int (nI k)]) (rest := []) (n := 2) hF hC hO hS (k_X6_fr l G lo sa ad R th g nf F f no O it ch i k hnf hno (by omega) (nI_nE (a := 7) (b := k) (by decide) (by omega) c3)) ok_X6_fr q_752 rfl rfl ⟨Nat.le_of_ble_eq_true rfl, Nat.le_of_ble_eq_true rfl⟩ rfl hl.1 rfl (Nat.le_of_ble_eq_true rfl) ⟨Nat.le_of_ble_eq_true rfl, Nat.le_of_ble_eq_true rfl⟩ dX6_frameTold_9 (fun v9 R' H locs hp hO hS => ?_)
    obtain ⟨rfl, hR⟩ := hp
    rw [hR] at hO
    refine lv_goto (tgt := 30) hx hb dX6_frameTold_12 (by decide) ?_
    refine m_iret hF hr hlk hQ rfl hO hS dX6_frameTold_30 ?_
    exact ⟨by first | rw [m_frame, if_pos (nI_nE (a := 7) (b := k) (by decide) (by omega) c3)] | rw [m_frame, if_neg (Nat.not_lt.mpr (nI_E (a := 7) (b := k) (by decide) (by omega) c3))], rfl⟩
theorem ok_X6_enough : mOK RX6 yX6_enough cX6_enough 5 (some .int) 2 := ⟨q_847, qs_36, q_6, q_848, by decide +kernel⟩
set_option maxHeartbeats 400000 in
set_option maxRecDepth 100000 in
theorem k_X6_enough (l : Launch) (G : mG) (lo : Nat) (sa ad : Nat → Nat) (R : mM) (th : Int32) (g : Nat → Int32) (nf : Nat) (F : Nat → Nat → Int32) (f : Nat → Int32) (no : Nat) (O : Nat → Nat → Int32) (it ch : Nat → Int32) (k z : Nat) (hnf : nf ≤ 12) (hno : no ≤ 20) (hk : k < 4) (hz1 : 1 ≤ z) (hz9 : z ≤ 9) : mI l yX6_enough cX6_enough 5 .int 0 0 G lo sa ad (WM G ad th g nf F f no O it ch R) [.ref (ad 50), .int (nI k), .int (nI z)] (fun v R' => v = (p_amountFrom f k z) ∧ R' = (WM G ad th g nf F f no O it ch R)) := by
  refine mI_of (by decide) (Nat.le_of_ble_eq_true rfl) ?_
  intro p e s m args below meth c hF hr hlk hC ls hl hO hS Q hQ
  have hx := hF.1
  have hb := hF.2.1
  have hl : lv_has ls 5 [(0, .ref (ad 50)), (1, .int (nI k)), (2, .int (nI z))] := hl
  refine lv_iconst (v := 0) hx hb dX6_enough_0 (by decide) ?_
  refine lv_istore_n (lv' := [(3, .int 0), (0, .ref (ad 50)), (1, .int (nI k)), (2, .int (nI z))]) hx hb dX6_enough_1 rfl hl (by decide) rfl (fun ls hl => ?_)
  refine lv_iload_n hx hb dX6_enough_2 rfl (lv_at hl 3 rfl) ?_
  refine lv_istore (lv' := [(4, .int (nI z)), (3, .int 0), (0, .ref (ad 50)), (1, .int (nI k)), (2, .int (nI z))]) hx hb dX6_enough_3 hl (by decide) rfl (fun ls hl => ?_)
  have L5 : ∀ (n : Nat) (i : Nat) (acc : Int32) (H : Heap) (locs : List Loc) (ls : Array Slot), 10 - i < n → i ≤ 10 → 1 ≤ i → p_from (10 - i) f k i acc = p_amountFrom f k z → lv_has ls 5 [(0, .ref (ad 50)), (1, .int (nI k)), (4, .int (nI i)), (3, .int acc)] → mO G lo ad (WM G ad th g nf F f no O it ch R) H → va_S (mA lo) s.heap H locs → W p l e (mRm 0 0) s m args below meth c H locs 0 0 Q (F0 m 5 ls []) := by
    intro n
    induction n with
    | zero => intro i acc H locs ls hn; exact absurd hn (Nat.not_lt_zero _)
    | succ n ih5 =>
      intro i acc H locs ls hn5 hi hi1 hv hl hO hS
      refine lv_iload hx hb dX6_enough_5 (lv_at hl 2 rfl) ?_
      refine lv_bipush (v := 10) hx hb dX6_enough_7 (by decide) ?_
      refine lv_icmp_ge (tgt := 33) hx hb dX6_enough_9 (by decide) (fun c9 => ?_) (fun c9 => ?_)
      · refine lv_iload_n hx hb dX6_enough_33 rfl (lv_at hl 3 rfl) ?_
        refine m_iret hF hr hlk hQ rfl hO hS dX6_enough_34 ?_
        have e : i = 10 := Nat.le_antisymm hi (nI_E (a := 10) (b := i) (by decide) (by omega) c9)
        subst e
        exact ⟨hv, rfl⟩
      · refine lv_iload_n hx hb dX6_enough_12 rfl (lv_at hl 3 rfl) ?_
        refine lv_aload_n hx hb dX6_enough_13 rfl (lv_at hl 0 rfl) ?_
        refine m_get inX6 hF hC hO rfl rfl 6 (by decide) q_668 (v := .ref (ad 52)) rfl dX6_enough_14 ?_
        refine lv_bipush (v := 10) hx hb dX6_enough_17 (by decide) ?_
        refine lv_iload_n hx hb dX6_enough_19 rfl (lv_at hl 1 rfl) ?_
        refine lv_imul hx hb dX6_enough_20 ?_
        refine lv_iload hx hb dX6_enough_21 (lv_at hl 2 rfl) ?_
        refine lv_iadd hx hb dX6_enough_23 ?_
        refine m_iald hF hC hO rfl (j := (10 * k + i)) (by rw [p_ixS]; exact nI_clamp (by omega)) (by have := (nI_nE (a := 10) (b := i) (by decide) (by omega) c9); rw [p_ixS]; exact vp_in_nI (by omega) (by decide)) dX6_enough_24 ?_
        rw [show ((stF f) (10 * k + i)) = (f (9 * k + i - 1)) from st_rd hi1 (by have := (nI_nE (a := 10) (b := i) (by decide) (by omega) c9); omega)]
        refine lv_iadd hx hb dX6_enough_25 ?_
        refine lv_istore_n (lv' := [(3, .int (acc + (f (9 * k + i - 1)))), (0, .ref (ad 50)), (1, .int (nI k)), (4, .int (nI i))]) hx hb dX6_enough_26 rfl hl (by decide) rfl (fun ls hl => ?_)
        refine lv_iinc (v := (nI (i + 1))) (lv' := [(4, .int (nI (i + 1))), (3, .int (acc + (f (9 * k + i - 1)))), (0, .ref (ad 50)), (1, .int (nI k))]) hx hb dX6_enough_27 hl (k := 3) rfl (nI_inc i) (by decide) rfl (fun ls hl => ?_)
        refine lv_goto (tgt := 5) hx hb dX6_enough_30 (by decide) ?_
        exact ih5 (i + 1) (acc + f (9 * k + i - 1)) _ _ _ (by have := (nI_nE (a := 10) (b := i) (by decide) (by omega) c9); omega) (by have := (nI_nE (a := 10) (b := i) (by decide) (by omega) c9); omega) (by omega) (by have := (nI_nE (a := 10) (b := i) (by decide) (by omega) c9); rw [← hv, show 10 - i = (10 - (i + 1)) + 1 from by omega]; rfl) (lv_sub hl [2, 3, 0, 1] rfl) hO hS
  exact L5 _ z 0 _ _ _ (Nat.lt_succ_self _) (by omega) hz1 rfl (lv_sub hl [2, 3, 0, 1] rfl) hO hS
theorem ok_X6_inStore : mOK RX6 yX6_inStore cX6_inStore 6 (some .int) 0 := ⟨q_851, qs_37, q_6, q_852, by decide +kernel⟩
set_option maxHeartbeats 400000 in
set_option maxRecDepth 100000 in
theorem k_X6_inStore (l : Launch) (G : mG) (lo : Nat) (sa ad : Nat → Nat) (R : mM) (th : Int32) (g : Nat → Int32) (nf : Nat) (F : Nat → Nat → Int32) (f : Nat → Int32) (no : Nat) (O : Nat → Nat → Int32) (it ch : Nat → Int32) (hnf : nf ≤ 12) (hno : no ≤ 20) : mI l yX6_inStore cX6_inStore 6 .int 0 0 G lo sa ad (WM G ad th g nf F f no O it ch R) [.ref (ad 50)] (fun v R' => v = (p_sum 40 (stF f) 0 0) ∧ R' = (WM G ad th g nf F f no O it ch R)) := by
  refine mI_of (by decide) (Nat.le_of_ble_eq_true rfl) ?_
  intro p e s m args below meth c hF hr hlk hC ls hl hO hS Q hQ
  have hx := hF.1
  have hb := hF.2.1
  have hl : lv_has ls 6 [(0, .ref (ad 50))] := hl
  refine lv_iconst (v := 0) hx hb dX6_inStore_0 (by decide) ?_
  refine lv_istore_n (lv' := [(1, .int 0), (0, .ref (ad 50))]) hx hb dX6_inStore_1 rfl hl (by decide) rfl (fun ls hl => ?_)
  refine lv_aload_n hx hb dX6_inStore_2 rfl (lv_at hl 1 rfl) ?_
  refine m_get inX6 hF hC hO rfl rfl 6 (by decide) q_668 (v := .ref (ad 52)) rfl dX6_inStore_3 ?_
  refine lv_astore_n (lv' := [(2, .ref (ad 52)), (1, .int 0), (0, .ref (ad 50))]) hx hb dX6_inStore_6 rfl hl (by decide) rfl (fun ls hl => ?_)
  refine lv_aload_n hx hb dX6_inStore_7 rfl (lv_at hl 0 rfl) ?_
  refine m_alen 0 hF hC hO rfl rfl (v := 40) rfl dX6_inStore_8 ?_
  refine lv_istore_n (lv' := [(3, .int 40), (2, .ref (ad 52)), (1, .int 0), (0, .ref (ad 50))]) hx hb dX6_inStore_9 rfl hl (by decide) rfl (fun ls hl => ?_)
  refine lv_iconst (v := 0) hx hb dX6_inStore_10 (by decide) ?_
  refine lv_istore (lv' := [(4, .int 0), (3, .int 40), (2, .ref (ad 52)), (1, .int 0), (0, .ref (ad 50))]) hx hb dX6_inStore_11 hl (by decide) rfl (fun ls hl => ?_)
  have L13 : ∀ (n : Nat) (i : Nat) (acc : Int32) (H : Heap) (locs : List Loc) (ls : Array Slot), 40 - i < n → i ≤ 40 → p_sum (40 - i) (stF f) i acc = p_sum 40 (stF f) 0 0 → lv_has ls 6 [(0, .ref (ad 50)), (2, .ref (ad 52)), (3, .int 40), (4, .int (nI i)), (1, .int acc)] → mO G lo ad (WM G ad th g nf F f no O it ch R) H → va_S (mA lo) s.heap H locs → W p l e (mRm 0 0) s m args below meth c H locs 0 0 Q (F0 m 13 ls []) := by
    intro n
    induction n with
    | zero => intro i acc H locs ls hn; exact absurd hn (Nat.not_lt_zero _)
    | succ n ih13 =>
      intro i acc H locs ls hn13 hi hv hl hO hS
      refine lv_iload hx hb dX6_inStore_13 (lv_at hl 3 rfl) ?_
      refine lv_iload_n hx hb dX6_inStore_15 rfl (lv_at hl 2 rfl) ?_
      refine lv_icmp_ge (tgt := 36) hx hb dX6_inStore_16 (by decide) (fun c16 => ?_) (fun c16 => ?_)
      · refine lv_iload_n hx hb dX6_inStore_36 rfl (lv_at hl 4 rfl) ?_
        refine m_iret hF hr hlk hQ rfl hO hS dX6_inStore_37 ?_
        have e : i = 40 := Nat.le_antisymm hi (nI_E (a := 40) (b := i) (by decide) (by omega) c16)
        subst e
        exact ⟨hv, rfl⟩
      · refine lv_aload_n hx hb dX6_inStore_19 rfl (lv_at hl 1 rfl) ?_
        refine lv_iload hx hb dX6_inStore_20 (lv_at hl 3 rfl) ?_
        refine m_iald hF hC hO rfl (j := i) (nI_clamp (by omega)) (vp_in_nI (nI_nE (a := 40) (b := i) (by decide) (by omega) c16) (by decide)) dX6_inStore_22 ?_
        refine lv_istore (lv' := [(5, .int ((stF f) i)), (0, .ref (ad 50)), (2, .ref (ad 52)), (3, .int 40), (4, .int (nI i)), (1, .int acc)]) hx hb dX6_inStore_23 hl (by decide) rfl (fun ls hl => ?_)
        refine lv_iload_n hx hb dX6_inStore_25 rfl (lv_at hl 5 rfl) ?_
        refine lv_iload hx hb dX6_inStore_26 (lv_at hl 0 rfl) ?_
        refine lv_iadd hx hb dX6_inStore_28 ?_
        refine lv_istore_n (lv' := [(1, .int (acc + ((stF f) i))), (5, .int ((stF f) i)), (0, .ref (ad 50)), (2, .ref (ad 52)), (3, .int 40), (4, .int (nI i))]) hx hb dX6_inStore_29 rfl hl (by decide) rfl (fun ls hl => ?_)
        refine lv_iinc (v := (nI (i + 1))) (lv' := [(4, .int (nI (i + 1))), (1, .int (acc + ((stF f) i))), (5, .int ((stF f) i)), (0, .ref (ad 50)), (2, .ref (ad 52)), (3, .int 40)]) hx hb dX6_inStore_30 hl (k := 5) rfl (nI_inc i) (by decide) rfl (fun ls hl => ?_)
        refine lv_goto (tgt := 13) hx hb dX6_inStore_33 (by decide) ?_
        exact ih13 (i + 1) (acc + stF f i) _ _ _ (by have := (nI_nE (a := 40) (b := i) (by decide) (by omega) c16); omega) (by have := (nI_nE (a := 40) (b := i) (by decide) (by omega) c16); omega) (by have := (nI_nE (a := 40) (b := i) (by decide) (by omega) c16); rw [← hv, show 40 - i = (40 - (i + 1)) + 1 from by omega]; rfl) (lv_sub hl [3, 4, 5, 0, 1] rfl) hO hS
  exact L13 _ 0 0 _ _ _ (Nat.lt_succ_self _) (by omega) rfl (lv_sub hl [4, 2, 1, 0, 3] rfl) hO hS
theorem ok_X6_canFill : mOK RX6 yX6_canFill cX6_canFill 2 (some .boolean) 1 := ⟨q_843, qs_35, q_6, q_844, by decide +kernel⟩
set_option maxHeartbeats 400000 in
set_option maxRecDepth 100000 in
theorem k_X6_canFill (l : Launch) (G : mG) (lo : Nat) (sa ad : Nat → Nat) (R : mM) (th : Int32) (g : Nat → Int32) (nf : Nat) (F : Nat → Nat → Int32) (f : Nat → Int32) (no : Nat) (O : Nat → Nat → Int32) (it ch : Nat → Int32) (i k z : Nat) (hnf : nf ≤ 12) (hno : no ≤ 20) (hi : i < 20) (hk : k < 4) (hz1 : 1 ≤ z) (hz9 : z ≤ 9) (hw0 : O i 0 = nI k) (hw1 : O i 1 = nI z) : mI l yX6_canFill cX6_canFill 2 .boolean 1 24 G lo sa ad (WM G ad th g nf F f no O it ch R) [.ref (ad 50), .int (nI i)] (fun v R' => mBo (O i 4 ≠ 1 ∧ O i 2 ≤ p_amountFrom f k z) v ∧ R' = (WM G ad th g nf F f no O it ch R)) := by
  refine mI_of (by decide) (Nat.le_of_ble_eq_true rfl) ?_
  intro p e s m args below meth c hF hr hlk hC ls hl hO hS Q hQ
  have hx := hF.1
  have hb := hF.2.1
  have hl : lv_has ls 2 [(0, .ref (ad 50)), (1, .int (nI i))] := hl
  refine lv_aload_n hx hb dX6_canFill_0 rfl (lv_at hl 0 rfl) ?_
  refine lv_iload_n hx hb dX6_canFill_1 rfl (lv_at hl 1 rfl) ?_
  refine lv_iconst (v := 4) hx hb dX6_canFill_2 (by decide) ?_
  refine m_vI (As := [.int (nI i), .int 4]) (rest := []) (n := 2) hF hC hO hS (k_X6_or l G lo sa ad R th g nf F f no O it ch i 4 hnf hno (by omega) (by omega)) ok_X6_or q_806 rfl rfl ⟨Nat.le_of_ble_eq_true rfl, Nat.le_of_ble_eq_true rfl⟩ rfl hl.1 rfl (Nat.le_of_ble_eq_true rfl) ⟨Nat.le_of_ble_eq_true rfl, Nat.le_of_ble_eq_true rfl⟩ dX6_canFill_3 (fun v3 R' H locs hp hO hS => ?_)
  obtain ⟨rfl, hR⟩ := hp
  rw [hR] at hO
  refine lv_iconst (v := 1) hx hb dX6_canFill_6 (by decide) ?_
  refine lv_icmp_eq (tgt := 39) hx hb dX6_canFill_7 (by decide) (fun c7 => ?_) (fun c7 => ?_)
  · refine lv_iconst (v := 0) hx hb dX6_canFill_39 (by decide) ?_
    refine m_iret hF hr hlk hQ rfl hO hS dX6_canFill_40 ?_
    first | exact ⟨mBo_f (fun h => absurd h.2 (Int32.not_le.mpr c32)), rfl⟩ | exact ⟨mBo_f (fun h => h.1 c7), rfl⟩
  · refine lv_aload_n hx hb dX6_canFill_10 rfl (lv_at hl 0 rfl) ?_
    refine lv_aload_n hx hb dX6_canFill_11 rfl (lv_at hl 0 rfl) ?_
    refine lv_iload_n hx hb dX6_canFill_12 rfl (lv_at hl 1 rfl) ?_
    refine lv_iconst (v := 0) hx hb dX6_canFill_13 (by decide) ?_
    refine m_vI (As := [.int (nI i), .int 0]) (rest := [.ref (ad 50)]) (n := 2) hF hC hO hS (k_X6_or l G lo sa ad R th g nf F f no O it ch i 0 hnf hno (by omega) (by omega)) ok_X6_or q_806 rfl rfl ⟨Nat.le_of_ble_eq_true rfl, Nat.le_of_ble_eq_true rfl⟩ rfl hl.1 rfl (Nat.le_of_ble_eq_true rfl) ⟨Nat.le_of_ble_eq_true rfl, Nat.le_of_ble_eq_true rfl⟩ dX6_canFill_14 (fun v14 R' H locs hp hO hS => ?_)
    obtain ⟨rfl, hR⟩ := hp
    rw [hR] at hO
    refine lv_aload_n hx hb dX6_canFill_17 rfl (lv_at hl 0 rfl) ?_
    refine lv_iload_n hx hb dX6_canFill_18 rfl (lv_at hl 1 rfl) ?_
    refine lv_iconst (v := 1) hx hb dX6_canFill_19 (by decide) ?_
    refine m_vI (As := [.int (nI i), .int 1]) (rest := [.int (O i 0), .ref (ad 50)]) (n := 2) hF hC hO hS (k_X6_or l G lo sa ad R th g nf F f no O it ch i 1 hnf hno (by omega) (by omega)) ok_X6_or q_806 rfl rfl ⟨Nat.le_of_ble_eq_true rfl, Nat.le_of_ble_eq_true rfl⟩ rfl hl.1 rfl (Nat.le_of_ble_eq_true rfl) ⟨Nat.le_of_ble_eq_true rfl, Nat.le_of_ble_eq_true rfl⟩ dX6_canFill_20 (fun v20 R' H locs hp hO hS => ?_)
    obtain ⟨rfl, hR⟩ := hp
    rw [hR] at hO
    rw [hw0, hw1]
    refine m_vI (As := [.int (nI k), .int (nI z)]) (rest := []) (n := 2) hF hC hO hS (k_X6_enough l G lo sa ad R th g nf F f no O it ch k z hnf hno (by omega) (by omega) (by omega)) ok_X6_enough q_845 rfl rfl ⟨Nat.le_of_ble_eq_true rfl, Nat.le_of_ble_eq_true rfl⟩ rfl hl.1 rfl (Nat.le_of_ble_eq_true rfl) ⟨Nat.le_of_ble_eq_true rfl, Nat.le_of_ble_eq_true rfl⟩ dX6_canFill_23 (fun v23 R' H locs hp hO hS => ?_)
    obtain ⟨rfl, hR⟩ := hp
    rw [hR] at hO
    refine lv_aload_n hx hb dX6_canFill_26 rfl (lv_at hl 0 rfl) ?_
    refine lv_iload_n hx hb dX6_canFill_27 rfl (lv_at hl 1 rfl) ?_
    refine lv_iconst (v := 2) hx hb dX6_canFill_28 (by decide) ?_
    refine m_vI (As := [.int (nI i), .int 2]) (rest := [.int (p_amountFrom f k z)]) (n := 2) hF hC hO hS (k_X6_or l G lo sa ad R th g nf F f no O it ch i 2 hnf hno (by omega) (by omega)) ok_X6_or q_806 rfl rfl ⟨Nat.le_of_ble_eq_true rfl, Nat.le_of_ble_eq_true rfl⟩ rfl hl.1 rfl (Nat.le_of_ble_eq_true rfl) ⟨Nat.le_of_ble_eq_true rfl, Nat.le_of_ble_eq_true rfl⟩ dX6_canFill_29 (fun v29 R' H locs hp hO hS => ?_)
    obtain ⟨rfl, hR⟩ := hp
    rw [hR] at hO
    refine lv_icmp_lt (tgt := 39) hx hb dX6_canFill_32 (by decide) (fun c32 => ?_) (fun c32 => ?_)
    · refine lv_iconst (v := 0) hx hb dX6_canFill_39 (by decide) ?_
      refine m_iret hF hr hlk hQ rfl hO hS dX6_canFill_40 ?_
      first | exact ⟨mBo_f (fun h => absurd h.2 (Int32.not_le.mpr c32)), rfl⟩ | exact ⟨mBo_f (fun h => h.1 c7), rfl⟩
    · refine lv_iconst (v := 1) hx hb dX6_canFill_35 (by decide) ?_
      refine lv_goto (tgt := 40) hx hb dX6_canFill_36 (by decide) ?_
      refine m_iret hF hr hlk hQ rfl hO hS dX6_canFill_40 ?_
      exact ⟨mBo_t ⟨c7, Int32.not_lt.mp c32⟩, rfl⟩
theorem ok_X6_with : mOK RX6 yX6_with cX6_with 4 (some .int) 1 := ⟨q_875, qs_40, q_6, q_876, by decide +kernel⟩
set_option maxHeartbeats 400000 in
set_option maxRecDepth 100000 in
theorem k_X6_with (l : Launch) (G : mG) (lo : Nat) (sa ad : Nat → Nat) (R : mM) (th : Int32) (g : Nat → Int32) (nf : Nat) (F : Nat → Nat → Int32) (f : Nat → Int32) (no : Nat) (O : Nat → Nat → Int32) (it ch : Nat → Int32) (x : Int32) (hnf : nf ≤ 12) (hno : no ≤ 20) : mI l yX6_with cX6_with 4 .int 1 22 G lo sa ad (WM G ad th g nf F f no O it ch R) [.ref (ad 50), .int x] (fun v R' => v = (m_with no O x) ∧ R' = (WM G ad th g nf F f no O it ch R)) := by
  refine mI_of (by decide) (Nat.le_of_ble_eq_true rfl) ?_
  intro p e s m args below meth c hF hr hlk hC ls hl hO hS Q hQ
  have hx := hF.1
  have hb := hF.2.1
  have hl : lv_has ls 4 [(0, .ref (ad 50)), (1, .int x)] := hl
  refine lv_iconst (v := 0) hx hb dX6_with_0 (by decide) ?_
  refine lv_istore_n (lv' := [(2, .int 0), (0, .ref (ad 50)), (1, .int x)]) hx hb dX6_with_1 rfl hl (by decide) rfl (fun ls hl => ?_)
  refine lv_iconst (v := 0) hx hb dX6_with_2 (by decide) ?_
  refine lv_istore_n (lv' := [(3, .int 0), (2, .int 0), (0, .ref (ad 50)), (1, .int x)]) hx hb dX6_with_3 rfl hl (by decide) rfl (fun ls hl => ?_)
  have L4 : ∀ (n : Nat) (i : Nat) (acc : Int32) (H : Heap) (locs : List Loc) (ls : Array Slot), no - i < n → i ≤ no → m_withL (no - i) i O x acc = m_with no O x → lv_has ls 4 [(0, .ref (ad 50)), (1, .int x), (3, .int (nI i)), (2, .int acc)] → mO G lo ad (WM G ad th g nf F f no O it ch R) H → va_S (mA lo) s.heap H locs → W p l e (mRm 1 22) s m args below meth c H locs 0 0 Q (F0 m 4 ls []) := by
    intro n
    induction n with
    | zero => intro i acc H locs ls hn; exact absurd hn (Nat.not_lt_zero _)
    | succ n ih4 =>
      intro i acc H locs ls hn4 hi hv hl hO hS
      refine lv_iload_n hx hb dX6_with_4 rfl (lv_at hl 2 rfl) ?_
      refine lv_aload_n hx hb dX6_with_5 rfl (lv_at hl 0 rfl) ?_
      refine m_get inX6 hF hC hO rfl rfl 7 (by decide) q_669 (v := .int (nI no)) rfl dX6_with_6 ?_
      refine lv_icmp_ge (tgt := 36) hx hb dX6_with_9 (by decide) (fun c9 => ?_) (fun c9 => ?_)
      · refine lv_iload_n hx hb dX6_with_36 rfl (lv_at hl 3 rfl) ?_
        refine m_iret hF hr hlk hQ rfl hO hS dX6_with_37 ?_
        have e : i = no := Nat.le_antisymm hi (nI_E (a := no) (b := i) (by omega) (by omega) c9)
        subst e
        rw [Nat.sub_self] at hv
        exact ⟨hv, rfl⟩
      · refine lv_iload_n hx hb dX6_with_12 rfl (lv_at hl 3 rfl) ?_
        refine lv_aload_n hx hb dX6_with_13 rfl (lv_at hl 0 rfl) ?_
        refine lv_iload_n hx hb dX6_with_14 rfl (lv_at hl 2 rfl) ?_
        refine lv_iconst (v := 4) hx hb dX6_with_15 (by decide) ?_
        refine m_vI (As := [.int (nI i), .int 4]) (rest := [.int acc]) (n := 2) hF hC hO hS (k_X6_or l G lo sa ad R th g nf F f no O it ch i 4 hnf hno (by have := (nI_nE (a := no) (b := i) (by omega) (by omega) c9); omega) (by omega)) ok_X6_or q_806 rfl rfl ⟨Nat.le_of_ble_eq_true rfl, Nat.le_of_ble_eq_true rfl⟩ rfl hl.1 rfl (Nat.le_of_ble_eq_true rfl) ⟨Nat.le_of_ble_eq_true rfl, Nat.le_of_ble_eq_true rfl⟩ dX6_with_16 (fun v16 R' H locs hp hO hS => ?_)
        obtain ⟨rfl, hR⟩ := hp
        rw [hR] at hO
        refine lv_iload_n hx hb dX6_with_19 rfl (lv_at hl 1 rfl) ?_
        refine lv_icmp_ne (tgt := 27) hx hb dX6_with_20 (by decide) (fun c20 => ?_) (fun c20 => ?_)
        · refine lv_iconst (v := 0) hx hb dX6_with_27 (by decide) ?_
          refine lv_iadd hx hb dX6_with_28 ?_
          refine lv_istore_n (lv' := [(2, .int (acc + 0)), (0, .ref (ad 50)), (1, .int x), (3, .int (nI i))]) hx hb dX6_with_29 rfl hl (by decide) rfl (fun ls hl => ?_)
          refine lv_iinc (v := (nI (i + 1))) (lv' := [(3, .int (nI (i + 1))), (2, .int (acc + 0)), (0, .ref (ad 50)), (1, .int x)]) hx hb dX6_with_30 hl (k := 3) rfl (nI_inc i) (by decide) rfl (fun ls hl => ?_)
          refine lv_goto (tgt := 4) hx hb dX6_with_33 (by decide) ?_
          exact ih4 (i + 1) (acc + 0) _ _ _ (by have := (nI_nE (a := no) (b := i) (by omega) (by omega) c9); omega) (by have := (nI_nE (a := no) (b := i) (by omega) (by omega) c9); omega) (by have := (nI_nE (a := no) (b := i) (by omega) (by omega) c9); rw [← hv, show no - i = (no - (i + 1)) + 1 from by omega, m_withL, if_neg c20]) (lv_sub hl [2, 3, 0, 1] rfl) hO hS
        · refine lv_iconst (v := 1) hx hb dX6_with_23 (by decide) ?_
          refine lv_goto (tgt := 28) hx hb dX6_with_24 (by decide) ?_
          refine lv_iadd hx hb dX6_with_28 ?_
          refine lv_istore_n (lv' := [(2, .int (acc + 1)), (0, .ref (ad 50)), (1, .int x), (3, .int (nI i))]) hx hb dX6_with_29 rfl hl (by decide) rfl (fun ls hl => ?_)
          refine lv_iinc (v := (nI (i + 1))) (lv' := [(3, .int (nI (i + 1))), (2, .int (acc + 1)), (0, .ref (ad 50)), (1, .int x)]) hx hb dX6_with_30 hl (k := 3) rfl (nI_inc i) (by decide) rfl (fun ls hl => ?_)
          refine lv_goto (tgt := 4) hx hb dX6_with_33 (by decide) ?_
          exact ih4 (i + 1) (acc + 1) _ _ _ (by have := (nI_nE (a := no) (b := i) (by omega) (by omega) c9); omega) (by have := (nI_nE (a := no) (b := i) (by omega) (by omega) c9); omega) (by have := (nI_nE (a := no) (b := i) (by omega) (by omega) c9); rw [← hv, show no - i = (no - (i + 1)) + 1 from by omega, m_withL, if_pos c20]) (lv_sub hl [2, 3, 0, 1] rfl) hO hS
  exact L4 _ 0 0 _ _ _ (Nat.lt_succ_self _) (by omega) rfl (lv_sub hl [2, 3, 0, 1] rfl) hO hS
