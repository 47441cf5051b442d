theorem ok_X5_within : mOS yX5_within cX5_within 3 (some .boolean) 3 := ⟨q_332, q_1, q_333, by decide +kernel⟩
set_option maxHeartbeats 400000 in
set_option maxRecDepth 100000 in
theorem k_X5_within (l : Launch) (G : mG) (lo : Nat) (sa : mSc) (ad : Nat → Nat) (R : mM) (x a b : Int32) : mI l yX5_within cX5_within 3 .boolean 0 0 G lo sa ad R [.int x, .int a, .int b] (fun v R' => mBo (p_in x a b) v ∧ R' = R) := by
  refine mI_of (by decide) (Nat.le_of_ble_eq_true rfl) ?_
  intro p e s m args below meth c hF hr hlk hC ls hl hO hS Q hQ
  have hx := hF.1
  have hb := hF.2.1
  have hl : lv_has ls 3 [(0, .int x), (1, .int a), (2, .int b)] := hl
  refine lv_iload_n hx hb dX5_within_0 rfl (lv_at hl 0 rfl) ?_
  refine lv_iload_n hx hb dX5_within_1 rfl (lv_at hl 1 rfl) ?_
  refine lv_icmp_lt (tgt := 14) hx hb dX5_within_2 (by decide) (fun c2 => ?_) (fun c2 => ?_)
  · refine lv_iconst (v := 0) hx hb dX5_within_14 (by decide) ?_
    refine m_iret hF hr hlk hQ rfl hO hS dX5_within_15 ?_
    first | exact ⟨mBo_f (fun h => absurd h.2 (Int32.not_le.mpr c7)), rfl⟩ | exact ⟨mBo_f (fun h => absurd h.1 (Int32.not_le.mpr c2)), rfl⟩
  · refine lv_iload_n hx hb dX5_within_5 rfl (lv_at hl 0 rfl) ?_
    refine lv_iload_n hx hb dX5_within_6 rfl (lv_at hl 2 rfl) ?_
    refine lv_icmp_gt (tgt := 14) hx hb dX5_within_7 (by decide) (fun c7 => ?_) (fun c7 => ?_)
    · refine lv_iconst (v := 0) hx hb dX5_within_14 (by decide) ?_
      refine m_iret hF hr hlk hQ rfl hO hS dX5_within_15 ?_
      first | exact ⟨mBo_f (fun h => absurd h.2 (Int32.not_le.mpr c7)), rfl⟩ | exact ⟨mBo_f (fun h => absurd h.1 (Int32.not_le.mpr c2)), rfl⟩
    · refine lv_iconst (v := 1) hx hb dX5_within_10 (by decide) ?_
      refine lv_goto (tgt := 15) hx hb dX5_within_11 (by decide) ?_
      refine m_iret hF hr hlk hQ rfl hO hS dX5_within_15 ?_
      exact ⟨mBo_t ⟨Int32.not_lt.mp c2, Int32.not_lt.mp c7⟩, rfl⟩
theorem ok_X2_hasShelf : mOS yX2_hasShelf cX2_hasShelf 2 (some .boolean) 2 := ⟨q_329, q_3, q_330, by decide +kernel⟩
set_option maxHeartbeats 400000 in
set_option maxRecDepth 100000 in
theorem k_X2_hasShelf (l : Launch) (G : mG) (lo : Nat) (sa : mSc) (ad : Nat → Nat) (R : mM) (k z : Int32) : mI l yX2_hasShelf cX2_hasShelf 2 .boolean 1 22 G lo sa ad R [.int k, .int z] (fun v R' => mBo (p_shelf k z) v ∧ R' = R) := by
  refine mI_of (by decide) (Nat.le_of_ble_eq_true rfl) ?_
  intro p e s m args below meth c hF hr hlk hC ls hl hO hS Q hQ
  have hx := hF.1
  have hb := hF.2.1
  have hl : lv_has ls 2 [(0, .int k), (1, .int z)] := hl
  refine lv_iload_n hx hb dX2_hasShelf_0 rfl (lv_at hl 0 rfl) ?_
  refine lv_iconst (v := 0) hx hb dX2_hasShelf_1 (by decide) ?_
  refine lv_iconst (v := 3) hx hb dX2_hasShelf_2 (by decide) ?_
  refine m_nI (As := [.int k, .int 0, .int 3]) (rest := []) (n := 3) hF hC hO hS (k_X5_within l G lo sa ad _ k 0 3 ) ok_X5_within ⟨Nat.le_of_ble_eq_true rfl, Nat.le_of_ble_eq_true rfl⟩ rfl hl.1 rfl (Nat.le_of_ble_eq_true rfl) ⟨Nat.le_of_ble_eq_true rfl, Nat.le_of_ble_eq_true rfl⟩ dX2_hasShelf_3 (fun v3 R' H locs hp hO hS => ?_)
  obtain ⟨⟨rfl, b3⟩ | ⟨rfl, b3⟩, hR⟩ := hp
  · rw [hR] at hO
    refine lv_if_eq (tgt := 23) hx hb dX2_hasShelf_6 (by decide) (fun c6 => absurd c6 (by decide)) (fun c6 => ?_)
    refine lv_iload_n hx hb dX2_hasShelf_9 rfl (lv_at hl 1 rfl) ?_
    refine lv_iconst (v := 1) hx hb dX2_hasShelf_10 (by decide) ?_
    refine lv_bipush (v := 9) hx hb dX2_hasShelf_11 (by decide) ?_
    refine m_nI (As := [.int z, .int 1, .int 9]) (rest := []) (n := 3) hF hC hO hS (k_X5_within l G lo sa ad _ z 1 9 ) ok_X5_within ⟨Nat.le_of_ble_eq_true rfl, Nat.le_of_ble_eq_true rfl⟩ rfl hl.1 rfl (Nat.le_of_ble_eq_true rfl) ⟨Nat.le_of_ble_eq_true rfl, Nat.le_of_ble_eq_true rfl⟩ dX2_hasShelf_13 (fun v13 R' H locs hp hO hS => ?_)
    obtain ⟨⟨rfl, b13⟩ | ⟨rfl, b13⟩, hR⟩ := hp
    · rw [hR] at hO
      refine lv_if_eq (tgt := 23) hx hb dX2_hasShelf_16 (by decide) (fun c16 => absurd c16 (by decide)) (fun c16 => ?_)
      refine lv_iconst (v := 1) hx hb dX2_hasShelf_19 (by decide) ?_
      refine lv_goto (tgt := 24) hx hb dX2_hasShelf_20 (by decide) ?_
      refine m_iret hF hr hlk hQ rfl hO hS dX2_hasShelf_24 ?_
      exact ⟨mBo_t ⟨b3, b13⟩, rfl⟩
    · rw [hR] at hO
      refine lv_if_eq (tgt := 23) hx hb dX2_hasShelf_16 (by decide) (fun c16 => ?_) (fun c16 => absurd (by decide) c16)
      refine lv_iconst (v := 0) hx hb dX2_hasShelf_23 (by decide) ?_
      refine m_iret hF hr hlk hQ rfl hO hS dX2_hasShelf_24 ?_
      first | exact ⟨mBo_f (fun h => b13 h.2), rfl⟩ | exact ⟨mBo_f (fun h => b3 h.1), rfl⟩
  · rw [hR] at hO
    refine lv_if_eq (tgt := 23) hx hb dX2_hasShelf_6 (by decide) (fun c6 => ?_) (fun c6 => absurd (by decide) c6)
    refine lv_iconst (v := 0) hx hb dX2_hasShelf_23 (by decide) ?_
    refine m_iret hF hr hlk hQ rfl hO hS dX2_hasShelf_24 ?_
    first | exact ⟨mBo_f (fun h => b13 h.2), rfl⟩ | exact ⟨mBo_f (fun h => b3 h.1), rfl⟩
theorem ok_X2_amount : mOK RX2 yX2_amount cX2_amount 3 (some .int) 2 := ⟨q_360, q_361, q_3, q_362, by decide +kernel⟩
set_option maxHeartbeats 400000 in
set_option maxRecDepth 100000 in
theorem k_X2_amount (l : Launch) (G : mG) (lo : Nat) (sa : mSc) (ad : Nat → Nat) (R : mM) (f : Nat → Int32) (k z : Nat) (h0 : R 3 = some (.inr (2, [.ref (ad 4)]))) (h1 : R 4 = some (.inl (G.2 0, 36, .inl f))) (hk : k < 4) (hz1 : 1 ≤ z) (hz9 : z ≤ 9) : mI l yX2_amount cX2_amount 3 .int 2 43 G lo sa ad R [.ref (ad 3), .int (nI k), .int (nI z)] (fun v R' => v = (f (9 * k + z - 1)) ∧ R' = R) := by
  refine mI_of (by decide) (Nat.le_of_ble_eq_true rfl) ?_
  intro p e s m args below meth c hF hr hlk hC ls hl hO hS Q hQ
  have hx := hF.1
  have hb := hF.2.1
  have hl : lv_has ls 3 [(0, .ref (ad 3)), (1, .int (nI k)), (2, .int (nI z))] := hl
  have hO : mO G lo ad (mU (mU R 3 (.inr (2, [.ref (ad 4)]))) 4 (.inl (G.2 0, 36, .inl f))) s.heap := by
    rw [mU_id h0, mU_id h1]
    exact hO
  refine lv_iload_n hx hb dX2_amount_0 rfl (lv_at hl 1 rfl) ?_
  refine lv_iload_n hx hb dX2_amount_1 rfl (lv_at hl 2 rfl) ?_
  refine m_sI (As := [.int (nI k), .int (nI z)]) (rest := []) (n := 2) hF hC hO hS (k_X2_hasShelf l G lo sa ad _ (nI k) (nI z) ) ok_X2_hasShelf q_328 ⟨Nat.le_of_ble_eq_true rfl, Nat.le_of_ble_eq_true rfl⟩ rfl hl.1 rfl (Nat.le_of_ble_eq_true rfl) ⟨Nat.le_of_ble_eq_true rfl, Nat.le_of_ble_eq_true rfl⟩ dX2_amount_2 (fun v2 R' H locs hp hO hS => ?_)
  obtain ⟨⟨rfl, b2⟩ | ⟨rfl, b2⟩, hR⟩ := hp
  · rw [hR] at hO
    refine lv_if_eq (tgt := 24) hx hb dX2_amount_5 (by decide) (fun c5 => absurd c5 (by decide)) (fun c5 => ?_)
    refine lv_aload_n hx hb dX2_amount_8 rfl (lv_at hl 0 rfl) ?_
    refine m_get inX2 hF hC hO ((mU_ne (by decide : (3 : Nat) ≠ 4)).trans (mU_self)) rfl 0 (by decide) q_53 (v := .ref (ad 4)) rfl dX2_amount_9 ?_
    refine lv_iload_n hx hb dX2_amount_12 rfl (lv_at hl 1 rfl) ?_
    refine lv_bipush (v := 9) hx hb dX2_amount_13 (by decide) ?_
    refine lv_imul hx hb dX2_amount_15 ?_
    refine lv_iload_n hx hb dX2_amount_16 rfl (lv_at hl 2 rfl) ?_
    refine lv_iadd hx hb dX2_amount_17 ?_
    refine lv_iconst (v := 1) hx hb dX2_amount_18 (by decide) ?_
    refine lv_isub hx hb dX2_amount_19 ?_
    refine m_iald hF hC hO (mU_self) (j := (9 * k + z - 1)) (by rw [p_ix hz1]; exact nI_clamp (by omega)) (by rw [p_ix hz1]; exact vp_in_nI (by omega) (by decide)) dX2_amount_20 ?_
    refine lv_goto (tgt := 25) hx hb dX2_amount_21 (by decide) ?_
    rw [mU_id (show R 3 = some (.inr (2, [.ref (ad 4)])) from h0)] at hO
    rw [mU_id (show R 4 = some (.inl (G.2 0, 36, .inl f)) from h1)] at hO
    refine m_iret hF hr hlk hQ rfl hO hS dX2_amount_25 ?_
    exact ⟨rfl, rfl⟩
  · exact absurd (p_shelf_nI hk hz1 hz9) b2
theorem ok_X2_put : mOK RX2 yX2_put cX2_put 4 none 3 := ⟨q_325, q_326, q_3, q_327, by decide +kernel⟩
set_option maxHeartbeats 400000 in
set_option maxRecDepth 100000 in
theorem k_X2_put (l : Launch) (G : mG) (lo : Nat) (sa : mSc) (ad : Nat → Nat) (R : mM) (f : Nat → Int32) (k z : Nat) (w : Int32) (h0 : R 3 = some (.inr (2, [.ref (ad 4)]))) (h1 : R 4 = some (.inl (G.2 0, 36, .inl f))) (hk : k < 4) (hz1 : 1 ≤ z) (hz9 : z ≤ 9) : mV l yX2_put cX2_put 4 2 43 G lo sa ad R [.ref (ad 3), .int (nI k), .int (nI z), .int w] (fun R' => R' = (mU R 4 (.inl (G.2 0, 36, .inl (upd f (9 * k + z - 1) (f (9 * k + z - 1) + w)))))) := by
  refine mV_of (by decide) (Nat.le_of_ble_eq_true rfl) ?_
  intro p e s m args below meth c hF hr hlk hC ls hl hO hS Q hQ
  have hx := hF.1
  have hb := hF.2.1
  have hl : lv_has ls 4 [(0, .ref (ad 3)), (1, .int (nI k)), (2, .int (nI z)), (3, .int w)] := hl
  have hO : mO G lo ad (mU (mU R 3 (.inr (2, [.ref (ad 4)]))) 4 (.inl (G.2 0, 36, .inl f))) s.heap := by
    rw [mU_id h0, mU_id h1]
    exact hO
  refine lv_iload_n hx hb dX2_put_0 rfl (lv_at hl 1 rfl) ?_
  refine lv_iload_n hx hb dX2_put_1 rfl (lv_at hl 2 rfl) ?_
  refine m_sI (As := [.int (nI k), .int (nI z)]) (rest := []) (n := 2) hF hC hO hS (k_X2_hasShelf l G lo sa ad _ (nI k) (nI z) ) ok_X2_hasShelf q_328 ⟨Nat.le_of_ble_eq_true rfl, Nat.le_of_ble_eq_true rfl⟩ rfl hl.1 rfl (Nat.le_of_ble_eq_true rfl) ⟨Nat.le_of_ble_eq_true rfl, Nat.le_of_ble_eq_true rfl⟩ dX2_put_2 (fun v2 R' H locs hp hO hS => ?_)
  obtain ⟨⟨rfl, b2⟩ | ⟨rfl, b2⟩, hR⟩ := hp
  · rw [hR] at hO
    refine lv_if_eq (tgt := 25) hx hb dX2_put_5 (by decide) (fun c5 => absurd c5 (by decide)) (fun c5 => ?_)
    refine lv_aload_n hx hb dX2_put_8 rfl (lv_at hl 0 rfl) ?_
    refine m_get inX2 hF hC hO ((mU_ne (by decide : (3 : Nat) ≠ 4)).trans (mU_self)) rfl 0 (by decide) q_53 (v := .ref (ad 4)) rfl dX2_put_9 ?_
    refine lv_iload_n hx hb dX2_put_12 rfl (lv_at hl 1 rfl) ?_
    refine lv_bipush (v := 9) hx hb dX2_put_13 (by decide) ?_
    refine lv_imul hx hb dX2_put_15 ?_
    refine lv_iload_n hx hb dX2_put_16 rfl (lv_at hl 2 rfl) ?_
    refine lv_iadd hx hb dX2_put_17 ?_
    refine lv_iconst (v := 1) hx hb dX2_put_18 (by decide) ?_
    refine lv_isub hx hb dX2_put_19 ?_
    refine lv_dup2_11 hx hb dX2_put_20 rfl rfl ?_
    refine m_iald hF hC hO (mU_self) (j := (9 * k + z - 1)) (by rw [p_ix hz1]; exact nI_clamp (by omega)) (by rw [p_ix hz1]; exact vp_in_nI (by omega) (by decide)) dX2_put_21 ?_
    refine lv_iload_n hx hb dX2_put_22 rfl (lv_at hl 3 rfl) ?_
    refine lv_iadd hx hb dX2_put_23 ?_
    refine m_iast hF hC hO hS (mU_self) (j := (9 * k + z - 1)) (by rw [p_ix hz1]; exact nI_clamp (by omega)) (by rw [p_ix hz1]; exact vp_in_nI (by omega) (by decide)) dX2_put_24 (fun H locs hO hS => ?_)
    have hO : mO G lo ad (mU (mU (mU R 3 (.inr (2, [.ref (ad 4)]))) 4 (.inl (G.2 0, 36, .inl f))) 4 (.inl (G.2 0, 36, .inl (upd f (9 * k + z - 1) ((f (9 * k + z - 1)) + w))))) H := hO
    rw [mU_mU] at hO
    rw [mU_id (show R 3 = some (.inr (2, [.ref (ad 4)])) from h0)] at hO
    refine m_vret hF hr hlk hQ hO hS dX2_put_25 ?_
    rfl
  · exact absurd (p_shelf_nI hk hz1 hz9) b2
theorem ok_X2_amountFrom : mOK RX2 yX2_amountFrom cX2_amountFrom 5 (some .int) 2 := ⟨q_452, q_453, q_3, q_454, by decide +kernel⟩
set_option maxHeartbeats 400000 in
set_option maxRecDepth 100000 in
theorem k_X2_amountFrom (l : Launch) (G : mG) (lo : Nat) (sa : mSc) (ad : Nat → Nat) (R : mM) (f : Nat → Int32) (k z : Nat) (h0 : R 3 = some (.inr (2, [.ref (ad 4)]))) (h1 : R 4 = some (.inl (G.2 0, 36, .inl f))) (hk : k < 4) (hz1 : 1 ≤ z) (hz9 : z ≤ 9) : mI l yX2_amountFrom cX2_amountFrom 5 .int 3 65 G lo sa ad R [.ref (ad 3), .int (nI k), .int (nI z)] (fun v R' => v = (p_amountFrom f k z) ∧ R' = R) := by
  refine mI_of (by decide) (Nat.le_of_ble_eq_true rfl) ?_
  intro p e s m args below meth c hF hr hlk hC ls hl hO hS Q hQ
  have hx := hF.1
  have hb := hF.2.1
  have hl : lv_has ls 5 [(0, .ref (ad 3)), (1, .int (nI k)), (2, .int (nI z))] := hl
  have hO : mO G lo ad (mU (mU R 3 (.inr (2, [.ref (ad 4)]))) 4 (.inl (G.2 0, 36, .inl f))) s.heap := by
    rw [mU_id h0, mU_id h1]
    exact hO
  refine lv_iconst (v := 0) hx hb dX2_amountFrom_0 (by decide) ?_
  refine lv_istore_n (lv' := [(3, .int 0), (0, .ref (ad 3)), (1, .int (nI k)), (2, .int (nI z))]) hx hb dX2_amountFrom_1 rfl hl (by decide) rfl (fun ls hl => ?_)
  refine lv_iload_n hx hb dX2_amountFrom_2 rfl (lv_at hl 3 rfl) ?_
  refine lv_istore (lv' := [(4, .int (nI z)), (3, .int 0), (0, .ref (ad 3)), (1, .int (nI k)), (2, .int (nI z))]) hx hb dX2_amountFrom_3 hl (by decide) rfl (fun ls hl => ?_)
  have L5 : ∀ (n : Nat) (i : Nat) (acc : Int32) (H : Heap) (locs : List Loc) (ls : Array Slot), 10 - i < n → i ≤ 10 → 1 ≤ i → p_from (10 - i) f k i acc = p_amountFrom f k z → lv_has ls 5 [(0, .ref (ad 3)), (1, .int (nI k)), (4, .int (nI i)), (3, .int acc)] → mO G lo ad (mU (mU R 3 (.inr (2, [.ref (ad 4)]))) 4 (.inl (G.2 0, 36, .inl f))) H → va_S (mA lo) s.heap H locs → W p l e (mRm 3 65) s m args below meth c H locs 0 0 Q (F0 m 5 ls []) := by
    intro n
    induction n with
    | zero => intro i acc H locs ls hn; exact absurd hn (Nat.not_lt_zero _)
    | succ n ih5 =>
      intro i acc H locs ls hn5 hi hi1 hv hl hO hS
      refine lv_iload hx hb dX2_amountFrom_5 (lv_at hl 2 rfl) ?_
      refine lv_bipush (v := 9) hx hb dX2_amountFrom_7 (by decide) ?_
      refine lv_icmp_gt (tgt := 28) hx hb dX2_amountFrom_9 (by decide) (fun c9 => ?_) (fun c9 => ?_)
      · refine lv_iload_n hx hb dX2_amountFrom_28 rfl (lv_at hl 3 rfl) ?_
        rw [mU_id (show R 3 = some (.inr (2, [.ref (ad 4)])) from h0)] at hO
        rw [mU_id (show R 4 = some (.inl (G.2 0, 36, .inl f)) from h1)] at hO
        refine m_iret hF hr hlk hQ rfl hO hS dX2_amountFrom_29 ?_
        have e : i = 10 := Nat.le_antisymm hi (nI_L (a := 9) (b := i) (by decide) (by omega) c9)
        subst e
        exact ⟨hv, rfl⟩
      · refine lv_iload_n hx hb dX2_amountFrom_12 rfl (lv_at hl 3 rfl) ?_
        refine lv_aload_n hx hb dX2_amountFrom_13 rfl (lv_at hl 0 rfl) ?_
        refine lv_iload_n hx hb dX2_amountFrom_14 rfl (lv_at hl 1 rfl) ?_
        refine lv_iload hx hb dX2_amountFrom_15 (lv_at hl 2 rfl) ?_
        refine m_vI (As := [.int (nI k), .int (nI i)]) (rest := [.int acc]) (n := 2) hF hC hO hS (k_X2_amount l G lo sa ad _ f k i ((mU_ne (by decide : (3 : Nat) ≠ 4)).trans (mU_self)) (mU_self) hk hi1 (nI_nL (a := 9) (b := i) (by decide) (by omega) c9)) ok_X2_amount q_455 ((mU_ne (by decide : (3 : Nat) ≠ 4)).trans (mU_self)) rfl ⟨Nat.le_of_ble_eq_true rfl, Nat.le_of_ble_eq_true rfl⟩ rfl hl.1 rfl (Nat.le_of_ble_eq_true rfl) ⟨Nat.le_of_ble_eq_true rfl, Nat.le_of_ble_eq_true rfl⟩ dX2_amountFrom_17 (fun v17 R' H locs hp hO hS => ?_)
        obtain ⟨rfl, hR⟩ := hp
        rw [hR] at hO
        refine lv_iadd hx hb dX2_amountFrom_20 ?_
        refine lv_istore_n (lv' := [(3, .int (acc + (f (9 * k + i - 1)))), (0, .ref (ad 3)), (1, .int (nI k)), (4, .int (nI i))]) hx hb dX2_amountFrom_21 rfl hl (by decide) rfl (fun ls hl => ?_)
        refine lv_iinc (v := (nI (i + 1))) (lv' := [(4, .int (nI (i + 1))), (3, .int (acc + (f (9 * k + i - 1)))), (0, .ref (ad 3)), (1, .int (nI k))]) hx hb dX2_amountFrom_22 hl (k := 3) rfl (nI_inc i) (by decide) rfl (fun ls hl => ?_)
        refine lv_goto (tgt := 5) hx hb dX2_amountFrom_25 (by decide) ?_
        exact ih5 (i + 1) (acc + f (9 * k + i - 1)) _ _ _ (by have := (nI_nL (a := 9) (b := i) (by decide) (by omega) c9); omega) (by have := (nI_nL (a := 9) (b := i) (by decide) (by omega) c9); omega) (by omega) (by have := (nI_nL (a := 9) (b := i) (by decide) (by omega) c9); rw [← hv, show 10 - i = (10 - (i + 1)) + 1 from by omega]; rfl) (lv_sub hl [2, 3, 0, 1] rfl) hO hS
  exact L5 _ z 0 _ _ _ (Nat.lt_succ_self _) (by omega) hz1 rfl (lv_sub hl [2, 3, 0, 1] rfl) hO hS
theorem ok_X2_total : mOK RX2 yX2_total cX2_total 6 (some .int) 0 := ⟨q_397, q_398, q_3, q_399, by decide +kernel⟩
set_option maxHeartbeats 400000 in
set_option maxRecDepth 100000 in
theorem k_X2_total (l : Launch) (G : mG) (lo : Nat) (sa : mSc) (ad : Nat → Nat) (R : mM) (f : Nat → Int32) (h0 : R 3 = some (.inr (2, [.ref (ad 4)]))) (h1 : R 4 = some (.inl (G.2 0, 36, .inl f))) : mI l yX2_total cX2_total 6 .int 0 0 G lo sa ad R [.ref (ad 3)] (fun v R' => v = (p_sum 36 f 0 0) ∧ R' = R) := by
  refine mI_of (by decide) (Nat.le_of_ble_eq_true rfl) ?_
  intro p e s m args below meth c hF hr hlk hC ls hl hO hS Q hQ
  have hx := hF.1
  have hb := hF.2.1
  have hl : lv_has ls 6 [(0, .ref (ad 3))] := hl
  have hO : mO G lo ad (mU (mU R 3 (.inr (2, [.ref (ad 4)]))) 4 (.inl (G.2 0, 36, .inl f))) s.heap := by
    rw [mU_id h0, mU_id h1]
    exact hO
  refine lv_iconst (v := 0) hx hb dX2_total_0 (by decide) ?_
  refine lv_istore_n (lv' := [(1, .int 0), (0, .ref (ad 3))]) hx hb dX2_total_1 rfl hl (by decide) rfl (fun ls hl => ?_)
  refine lv_aload_n hx hb dX2_total_2 rfl (lv_at hl 1 rfl) ?_
  refine m_get inX2 hF hC hO ((mU_ne (by decide : (3 : Nat) ≠ 4)).trans (mU_self)) rfl 0 (by decide) q_53 (v := .ref (ad 4)) rfl dX2_total_3 ?_
  refine lv_astore_n (lv' := [(2, .ref (ad 4)), (1, .int 0), (0, .ref (ad 3))]) hx hb dX2_total_6 rfl hl (by decide) rfl (fun ls hl => ?_)
  refine lv_aload_n hx hb dX2_total_7 rfl (lv_at hl 0 rfl) ?_
  refine m_alen 0 hF hC hO (mU_self) rfl (v := 36) rfl dX2_total_8 ?_
  refine lv_istore_n (lv' := [(3, .int 36), (2, .ref (ad 4)), (1, .int 0), (0, .ref (ad 3))]) hx hb dX2_total_9 rfl hl (by decide) rfl (fun ls hl => ?_)
  refine lv_iconst (v := 0) hx hb dX2_total_10 (by decide) ?_
  refine lv_istore (lv' := [(4, .int 0), (3, .int 36), (2, .ref (ad 4)), (1, .int 0), (0, .ref (ad 3))]) hx hb dX2_total_11 hl (by decide) rfl (fun ls hl => ?_)
  have L13 : ∀ (n : Nat) (i : Nat) (acc : Int32) (H : Heap) (locs : List Loc) (ls : Array Slot), 36 - i < n → i ≤ 36 → p_sum (36 - i) f i acc = p_sum 36 f 0 0 → lv_has ls 6 [(0, .ref (ad 3)), (2, .ref (ad 4)), (3, .int 36), (4, .int (nI i)), (1, .int acc)] → mO G lo ad (mU (mU R 3 (.inr (2, [.ref (ad 4)]))) 4 (.inl (G.2 0, 36, .inl f))) H → va_S (mA lo) s.heap H locs → W p l e (mRm 0 0) s m args below meth c H locs 0 0 Q (F0 m 13 ls []) := by
    intro n
    induction n with
    | zero => intro i acc H locs ls hn; exact absurd hn (Nat.not_lt_zero _)
    | succ n ih13 =>
      intro i acc H locs ls hn13 hi hv hl hO hS
      refine lv_iload hx hb dX2_total_13 (lv_at hl 3 rfl) ?_
      refine lv_iload_n hx hb dX2_total_15 rfl (lv_at hl 2 rfl) ?_
      refine lv_icmp_ge (tgt := 36) hx hb dX2_total_16 (by decide) (fun c16 => ?_) (fun c16 => ?_)
      · refine lv_iload_n hx hb dX2_total_36 rfl (lv_at hl 4 rfl) ?_
        rw [mU_id (show R 3 = some (.inr (2, [.ref (ad 4)])) from h0)] at hO
        rw [mU_id (show R 4 = some (.inl (G.2 0, 36, .inl f)) from h1)] at hO
        refine m_iret hF hr hlk hQ rfl hO hS dX2_total_37 ?_
        have e : i = 36 := Nat.le_antisymm hi (nI_E (a := 36) (b := i) (by decide) (by omega) c16)
        subst e
        exact ⟨hv, rfl⟩
      · refine lv_aload_n hx hb dX2_total_19 rfl (lv_at hl 1 rfl) ?_
        refine lv_iload hx hb dX2_total_20 (lv_at hl 3 rfl) ?_
        refine m_iald hF hC hO (mU_self) (j := i) (nI_clamp (by omega)) (vp_in_nI (nI_nE (a := 36) (b := i) (by decide) (by omega) c16) (by decide)) dX2_total_22 ?_
        refine lv_istore (lv' := [(5, .int (f i)), (0, .ref (ad 3)), (2, .ref (ad 4)), (3, .int 36), (4, .int (nI i)), (1, .int acc)]) hx hb dX2_total_23 hl (by decide) rfl (fun ls hl => ?_)
        refine lv_iload_n hx hb dX2_total_25 rfl (lv_at hl 5 rfl) ?_
        refine lv_iload hx hb dX2_total_26 (lv_at hl 0 rfl) ?_
        refine lv_iadd hx hb dX2_total_28 ?_
        refine lv_istore_n (lv' := [(1, .int (acc + (f i))), (5, .int (f i)), (0, .ref (ad 3)), (2, .ref (ad 4)), (3, .int 36), (4, .int (nI i))]) hx hb dX2_total_29 rfl hl (by decide) rfl (fun ls hl => ?_)
        refine lv_iinc (v := (nI (i + 1))) (lv' := [(4, .int (nI (i + 1))), (1, .int (acc + (f i))), (5, .int (f i)), (0, .ref (ad 3)), (2, .ref (ad 4)), (3, .int 36)]) hx hb dX2_total_30 hl (k := 5) rfl (nI_inc i) (by decide) rfl (fun ls hl => ?_)
        refine lv_goto (tgt := 13) hx hb dX2_total_33 (by decide) ?_
        exact ih13 (i + 1) (acc + f i) _ _ _ (by have := (nI_nE (a := 36) (b := i) (by decide) (by omega) c16); omega) (by have := (nI_nE (a := 36) (b := i) (by decide) (by omega) c16); omega) (by have := (nI_nE (a := 36) (b := i) (by decide) (by omega) c16); rw [← hv, show 36 - i = (36 - (i + 1)) + 1 from by omega]; rfl) (lv_sub hl [3, 4, 5, 0, 1] rfl) hO hS
  exact L13 _ 0 0 _ _ _ (Nat.lt_succ_self _) (by omega) rfl (lv_sub hl [4, 2, 1, 0, 3] rfl) hO hS
theorem ok_X2_take : mOK RX2 yX2_take cX2_take 7 none 3 := ⟨q_679, q_680, q_3, q_681, by decide +kernel⟩
set_option maxHeartbeats 400000 in
set_option maxRecDepth 100000 in
theorem k_X2_take (l : Launch) (G : mG) (lo : Nat) (sa : mSc) (ad : Nat → Nat) (R : mM) (f : Nat → Int32) (k z : Nat) (w : Int32) (h0 : R 3 = some (.inr (2, [.ref (ad 4)]))) (h1 : R 4 = some (.inl (G.2 0, 36, .inl f))) (hk : k < 4) (hz1 : 1 ≤ z) (hz9 : z ≤ 9) : mV l yX2_take cX2_take 7 3 66 G lo sa ad R [.ref (ad 3), .int (nI k), .int (nI z), .int w] (fun R' => R' = (mU R 4 (.inl (G.2 0, 36, .inl (p_take f k z w))))) := by
  refine mV_of (by decide) (Nat.le_of_ble_eq_true rfl) ?_
  intro p e s m args below meth c hF hr hlk hC ls hl hO hS Q hQ
  have hx := hF.1
  have hb := hF.2.1
  have hl : lv_has ls 7 [(0, .ref (ad 3)), (1, .int (nI k)), (2, .int (nI z)), (3, .int w)] := hl
  have hO : mO G lo ad (mU (mU R 3 (.inr (2, [.ref (ad 4)]))) 4 (.inl (G.2 0, 36, .inl f))) s.heap := by
    rw [mU_id h0, mU_id h1]
    exact hO
  refine lv_iload_n hx hb dX2_take_0 rfl (lv_at hl 3 rfl) ?_
  refine lv_istore (lv' := [(4, .int w), (0, .ref (ad 3)), (1, .int (nI k)), (2, .int (nI z)), (3, .int w)]) hx hb dX2_take_1 hl (by decide) rfl (fun ls hl => ?_)
  refine lv_iload_n hx hb dX2_take_3 rfl (lv_at hl 3 rfl) ?_
  refine lv_istore (lv' := [(5, .int (nI z)), (4, .int w), (0, .ref (ad 3)), (1, .int (nI k)), (2, .int (nI z)), (3, .int w)]) hx hb dX2_take_4 hl (by decide) rfl (fun ls hl => ?_)
  have L6 : ∀ (n : Nat) (i : Nat) (wl : Int32) (g : Nat → Int32) (H : Heap) (locs : List Loc) (ls : Array Slot), 10 - i < n → i ≤ 10 → 1 ≤ i → p_takeL (10 - i) g k i wl = p_take f k z w → lv_has ls 7 [(0, .ref (ad 3)), (1, .int (nI k)), (5, .int (nI i)), (4, .int wl)] → mO G lo ad (mU (mU R 3 (.inr (2, [.ref (ad 4)]))) 4 (.inl (G.2 0, 36, .inl g))) H → va_S (mA lo) s.heap H locs → W p l e (mRm 3 66) s m args below meth c H locs 0 0 Q (F0 m 6 ls []) := by
    intro n
    induction n with
    | zero => intro i wl g H locs ls hn; exact absurd hn (Nat.not_lt_zero _)
    | succ n ih6 =>
      intro i wl g H locs ls hn6 hi hi1 hv hl hO hS
      refine lv_iload hx hb dX2_take_6 (lv_at hl 2 rfl) ?_
      refine lv_bipush (v := 9) hx hb dX2_take_8 (by decide) ?_
      refine lv_icmp_gt (tgt := 50) hx hb dX2_take_10 (by decide) (fun c10 => ?_) (fun c10 => ?_)
      · rw [mU_id (show R 3 = some (.inr (2, [.ref (ad 4)])) from h0)] at hO
        refine m_vret hF hr hlk hQ hO hS dX2_take_50 ?_
        have e : i = 10 := Nat.le_antisymm hi (nI_L (a := 9) (b := i) (by decide) (by omega) c10)
        subst e
        rw [← hv]
        rfl
      · refine lv_iload hx hb dX2_take_13 (lv_at hl 3 rfl) ?_
        refine lv_aload_n hx hb dX2_take_15 rfl (lv_at hl 0 rfl) ?_
        refine lv_iload_n hx hb dX2_take_16 rfl (lv_at hl 1 rfl) ?_
        refine lv_iload hx hb dX2_take_17 (lv_at hl 2 rfl) ?_
        refine m_vI (As := [.int (nI k), .int (nI i)]) (rest := [.int wl]) (n := 2) hF hC hO hS (k_X2_amount l G lo sa ad _ g k i ((mU_ne (by decide : (3 : Nat) ≠ 4)).trans (mU_self)) (mU_self) hk hi1 (nI_nL (a := 9) (b := i) (by decide) (by omega) c10)) ok_X2_amount q_455 ((mU_ne (by decide : (3 : Nat) ≠ 4)).trans (mU_self)) rfl ⟨Nat.le_of_ble_eq_true rfl, Nat.le_of_ble_eq_true rfl⟩ rfl hl.1 rfl (Nat.le_of_ble_eq_true rfl) ⟨Nat.le_of_ble_eq_true rfl, Nat.le_of_ble_eq_true rfl⟩ dX2_take_19 (fun v19 R' H locs hp hO hS => ?_)
        obtain ⟨rfl, hR⟩ := hp
        rw [hR] at hO
        refine m_min hF hl.1 q_682 q_246 q_14 q_247 (Nat.le_of_ble_eq_true rfl) (Nat.le_of_ble_eq_true rfl) ⟨Nat.le_of_ble_eq_true rfl, Nat.le_of_ble_eq_true rfl⟩ dX2_take_22 ?_
        refine lv_istore (lv' := [(6, .int (jmin wl (g (9 * k + i - 1)))), (0, .ref (ad 3)), (1, .int (nI k)), (5, .int (nI i)), (4, .int wl)]) hx hb dX2_take_25 hl (by decide) rfl (fun ls hl => ?_)
        refine lv_aload_n hx hb dX2_take_27 rfl (lv_at hl 1 rfl) ?_
        refine lv_iload_n hx hb dX2_take_28 rfl (lv_at hl 2 rfl) ?_
        refine lv_iload hx hb dX2_take_29 (lv_at hl 3 rfl) ?_
        refine lv_iload hx hb dX2_take_31 (lv_at hl 0 rfl) ?_
        refine lv_ineg hx hb dX2_take_33 ?_
        refine m_vV (As := [.int (nI k), .int (nI i), .int (-(jmin wl (g (9 * k + i - 1))))]) (rest := []) (n := 3) hF hC hO hS (k_X2_put l G lo sa ad _ g k i (-(jmin wl (g (9 * k + i - 1)))) ((mU_ne (by decide : (3 : Nat) ≠ 4)).trans (mU_self)) (mU_self) hk hi1 (nI_nL (a := 9) (b := i) (by decide) (by omega) c10)) ok_X2_put q_683 ((mU_ne (by decide : (3 : Nat) ≠ 4)).trans (mU_self)) rfl ⟨Nat.le_of_ble_eq_true rfl, Nat.le_of_ble_eq_true rfl⟩ rfl hl.1 rfl (Nat.le_of_ble_eq_true rfl) ⟨Nat.le_of_ble_eq_true rfl, Nat.le_of_ble_eq_true rfl⟩ dX2_take_34 (fun R' H locs hp hO hS => ?_)
        have hR := hp
        rw [hR] at hO
        have hO : mO G lo ad (mU (mU (mU R 3 (.inr (2, [.ref (ad 4)]))) 4 (.inl (G.2 0, 36, .inl g))) 4 (.inl (G.2 0, 36, .inl (upd g (9 * k + i - 1) (g (9 * k + i - 1) + (-(jmin wl (g (9 * k + i - 1))))))))) H := hO
        rw [mU_mU] at hO
        refine lv_iload hx hb dX2_take_37 (lv_at hl 4 rfl) ?_
        refine lv_iload hx hb dX2_take_39 (lv_at hl 0 rfl) ?_
        refine lv_isub hx hb dX2_take_41 ?_
        refine lv_istore (lv' := [(4, .int (wl - (jmin wl (g (9 * k + i - 1))))), (6, .int (jmin wl (g (9 * k + i - 1)))), (0, .ref (ad 3)), (1, .int (nI k)), (5, .int (nI i))]) hx hb dX2_take_42 hl (by decide) rfl (fun ls hl => ?_)
        refine lv_iinc (v := (nI (i + 1))) (lv' := [(5, .int (nI (i + 1))), (4, .int (wl - (jmin wl (g (9 * k + i - 1))))), (6, .int (jmin wl (g (9 * k + i - 1)))), (0, .ref (ad 3)), (1, .int (nI k))]) hx hb dX2_take_44 hl (k := 4) rfl (nI_inc i) (by decide) rfl (fun ls hl => ?_)
        refine lv_goto (tgt := 6) hx hb dX2_take_47 (by decide) ?_
        exact ih6 (i + 1) (wl - (jmin wl (g (9 * k + i - 1)))) (upd g (9 * k + i - 1) (g (9 * k + i - 1) + (-(jmin wl (g (9 * k + i - 1)))))) _ _ _ (by have := (nI_nL (a := 9) (b := i) (by decide) (by omega) c10); omega) (by have := (nI_nL (a := 9) (b := i) (by decide) (by omega) c10); omega) (by omega) (by have := (nI_nL (a := 9) (b := i) (by decide) (by omega) c10); rw [← hv, show 10 - i = (10 - (i + 1)) + 1 from by omega]; rfl) (lv_sub hl [3, 4, 0, 1] rfl) hO hS
  exact L6 _ z w f _ _ _ (Nat.lt_succ_self _) (by omega) hz1 rfl (lv_sub hl [2, 3, 0, 1] rfl) hO hS
