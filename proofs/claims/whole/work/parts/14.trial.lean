theorem ok_X3_thicknessAfter : mOK RX3 yX3_thicknessAfter cX3_thicknessAfter 5 (some .int) 3 := ⟨q_603, q_604, q_4, q_605, by decide +kernel⟩
set_option maxHeartbeats 400000 in
set_option maxRecDepth 100000 in
theorem k_X3_thicknessAfter (l : Launch) (G : mG) (lo : Nat) (sa ad : Nat → Nat) (R : mM) (r v : Nat) (φ ν ψ κ : Nat → Int32) (N : Nat) (h0 : R 6 = some (.inr (3, [.ref (ad 7), .ref (ad 8)]))) (h1 : R 7 = some (frO φ)) (h2 : R 8 = some (vO ν)) (h3 : R r = some (frO ψ)) (h4 : R v = some (vO κ)) (hrv : r ≠ v) (h6r : 6 ≠ r) (h7r : 7 ≠ r) (h8r : 8 ≠ r) (h6v : 6 ≠ v) (h7v : 7 ≠ v) (h8v : 8 ≠ v) (hb4 : ψ 4 = 0 ∨ ψ 4 = 1) (hN : N < 1000) : mI l yX3_thicknessAfter cX3_thicknessAfter 5 .int 5 106 G lo sa ad R [.ref (ad 6), .ref (ad r), .ref (ad v), .int (nI N)] (fun v R' => v = (p_try N ψ κ) ∧ ∃ (φ' : Nat → Int32), ∃ (ν' : Nat → Int32), R' = (mU (mU R 7 (frO φ')) 8 (vO ν'))) := by
  refine mI_of (by decide) (Nat.le_of_ble_eq_true rfl) ?_
  intro p e s m args below meth c hF hr hlk hC ls hl hO hS Q hQ
  have hx := hF.1
  have hb := hF.2.1
  have hl : lv_has ls 5 [(0, .ref (ad 6)), (1, .ref (ad r)), (2, .ref (ad v)), (3, .int (nI N))] := hl
  have hO : mO G lo ad (mU (mU (mU (mU (mU R 6 (.inr (3, [.ref (ad 7), .ref (ad 8)]))) 7 (frO φ)) 8 (vO ν)) r (frO ψ)) v (vO κ)) s.heap := by
    rw [mU_id h0, mU_id h1, mU_id h2, mU_id h3, mU_id h4]
    exact hO
  refine lv_aload_n hx hb dX3_thicknessAfter_0 rfl (lv_at hl 0 rfl) ?_
  refine lv_aload_n hx hb dX3_thicknessAfter_1 rfl (lv_at hl 1 rfl) ?_
  refine lv_aload_n hx hb dX3_thicknessAfter_2 rfl (lv_at hl 2 rfl) ?_
  refine m_vV (As := [.ref (ad r), .ref (ad v)]) (rest := []) (n := 2) hF hC hO hS (k_X3_begin l G lo sa ad _ r v φ ν ψ κ ((mU_ne h6v).trans ((mU_ne h6r).trans ((mU_ne (by decide : (6 : Nat) ≠ 8)).trans ((mU_ne (by decide : (6 : Nat) ≠ 7)).trans (mU_self))))) ((mU_ne h7v).trans ((mU_ne h7r).trans ((mU_ne (by decide : (7 : Nat) ≠ 8)).trans (mU_self)))) ((mU_ne h8v).trans ((mU_ne h8r).trans (mU_self))) ((mU_ne hrv).trans (mU_self)) (mU_self) hrv h6r h7r h8r h6v h7v h8v hb4) ok_X3_begin q_606 ((mU_ne h6v).trans ((mU_ne h6r).trans ((mU_ne (by decide : (6 : Nat) ≠ 8)).trans ((mU_ne (by decide : (6 : Nat) ≠ 7)).trans (mU_self))))) rfl ⟨Nat.le_of_ble_eq_true rfl, Nat.le_of_ble_eq_true rfl⟩ rfl hl.1 rfl (Nat.le_of_ble_eq_true rfl) ⟨Nat.le_of_ble_eq_true rfl, Nat.le_of_ble_eq_true rfl⟩ dX3_thicknessAfter_3 (fun R' H locs hp hO hS => ?_)
  have hR := hp
  rw [hR] at hO
  have hO : mO G lo ad (mU (mU (mU (mU (mU (mU (mU R 6 (.inr (3, [.ref (ad 7), .ref (ad 8)]))) 7 (frO φ)) 8 (vO ν)) r (frO ψ)) v (vO κ)) 7 (frO ψ)) 8 (vO κ)) H := hO
  rw [mU_sw h7v, mU_sw h7r, mU_sw (by decide : (7 : Nat) ≠ 8), mU_mU] at hO
  rw [mU_sw h8v, mU_sw h8r, mU_mU] at hO
  refine lv_iconst (v := 0) hx hb dX3_thicknessAfter_6 (by decide) ?_
  refine lv_istore (lv' := [(4, .int 0), (0, .ref (ad 6)), (1, .ref (ad r)), (2, .ref (ad v)), (3, .int (nI N))]) hx hb dX3_thicknessAfter_7 hl (by decide) rfl (fun ls hl => ?_)
  have L9 : ∀ (n : Nat) (i : Nat) (φ9 : Nat → Int32) (ν9 : Nat → Int32) (H : Heap) (locs : List Loc) (ls : Array Slot), N - i < n → i ≤ N → p_try (N - i) φ9 ν9 = p_try N ψ κ → lv_has ls 5 [(0, .ref (ad 6)), (3, .int (nI N)), (4, .int (nI i))] → mO G lo ad (mU (mU (mU (mU (mU R 6 (.inr (3, [.ref (ad 7), .ref (ad 8)]))) 7 (frO φ9)) 8 (vO ν9)) r (frO ψ)) v (vO κ)) H → va_S (mA lo) s.heap H locs → W p l e (mRm 5 106) s m args below meth c H locs 0 0 Q (F0 m 9 ls []) := by
    intro n
    induction n with
    | zero => intro i φ9 ν9 H locs ls hn; exact absurd hn (Nat.not_lt_zero _)
    | succ n ih9 =>
      intro i φ9 ν9 H locs ls hn9 hi hv hl hO hS
      refine lv_iload hx hb dX3_thicknessAfter_9 (lv_at hl 2 rfl) ?_
      refine lv_iload_n hx hb dX3_thicknessAfter_11 rfl (lv_at hl 1 rfl) ?_
      refine lv_icmp_ge (tgt := 31) hx hb dX3_thicknessAfter_12 (by decide) (fun c12 => ?_) (fun c12 => ?_)
      · refine lv_aload_n hx hb dX3_thicknessAfter_31 rfl (lv_at hl 0 rfl) ?_
        refine m_get inX3 hF hC hO ((mU_ne h6v).trans ((mU_ne h6r).trans ((mU_ne (by decide : (6 : Nat) ≠ 8)).trans ((mU_ne (by decide : (6 : Nat) ≠ 7)).trans (mU_self))))) rfl 0 (by decide) q_104 (v := .ref (ad 7)) rfl dX3_thicknessAfter_32 ?_
        refine m_get inX0 hF hC hO ((mU_ne h7v).trans ((mU_ne h7r).trans ((mU_ne (by decide : (7 : Nat) ≠ 8)).trans (mU_self)))) rfl 2 (by decide) q_76 (v := .int (φ9 2)) rfl dX3_thicknessAfter_35 ?_
        rw [mU_id (show R 6 = some (.inr (3, [.ref (ad 7), .ref (ad 8)])) from h0)] at hO
        rw [mU_id (show (mU (mU R 7 (frO φ9)) 8 (vO ν9)) r = some (frO ψ) from ((mU_ne (Ne.symm h8r)).trans ((mU_ne (Ne.symm h7r)).trans h3)))] at hO
        rw [mU_id (show (mU (mU R 7 (frO φ9)) 8 (vO ν9)) v = some (vO κ) from ((mU_ne (Ne.symm h8v)).trans ((mU_ne (Ne.symm h7v)).trans h4)))] at hO
        refine m_iret hF hr hlk hQ rfl hO hS dX3_thicknessAfter_38 ?_
        first
        | (have e : i = N := Nat.le_antisymm hi (nI_E (a := N) (b := i) (by omega) (by omega) c12)
           subst e
           rw [Nat.sub_self] at hv
           exact ⟨hv, _, _, rfl⟩)
        | (have h9 := (nI_nE (a := N) (b := i) (by omega) (by omega) c12)
           rw [show N - i = (N - (i + 1)) + 1 from by omega, p_try, if_neg b16] at hv
           exact ⟨hv, _, _, rfl⟩)
      · refine lv_aload_n hx hb dX3_thicknessAfter_15 rfl (lv_at hl 0 rfl) ?_
        refine m_vI (As := []) (rest := []) (n := 0) hF hC hO hS (k_X3_tryDip l G lo sa ad _ φ9 ν9 ((mU_ne h6v).trans ((mU_ne h6r).trans ((mU_ne (by decide : (6 : Nat) ≠ 8)).trans ((mU_ne (by decide : (6 : Nat) ≠ 7)).trans (mU_self))))) ((mU_ne h7v).trans ((mU_ne h7r).trans ((mU_ne (by decide : (7 : Nat) ≠ 8)).trans (mU_self)))) ((mU_ne h8v).trans ((mU_ne h8r).trans (mU_self)))) ok_X3_tryDip q_618 ((mU_ne h6v).trans ((mU_ne h6r).trans ((mU_ne (by decide : (6 : Nat) ≠ 8)).trans ((mU_ne (by decide : (6 : Nat) ≠ 7)).trans (mU_self))))) rfl ⟨Nat.le_of_ble_eq_true rfl, Nat.le_of_ble_eq_true rfl⟩ rfl hl.1 rfl (Nat.le_of_ble_eq_true rfl) ⟨Nat.le_of_ble_eq_true rfl, Nat.le_of_ble_eq_true rfl⟩ dX3_thicknessAfter_16 (fun v16 R' H locs hp hO hS => ?_)
        obtain ⟨rfl, b16, hR⟩ | ⟨rfl, b16, hR⟩ := hp
        · rw [hR] at hO
          have hO : mO G lo ad (mU (mU (mU (mU (mU (mU (mU R 6 (.inr (3, [.ref (ad 7), .ref (ad 8)]))) 7 (frO φ9)) 8 (vO ν9)) r (frO ψ)) v (vO κ)) 7 (frO (p_dipF φ9 (ν9 1)))) 8 (vO (p_burnV (p_dipV φ9 ν9)))) H := hO
          rw [mU_sw h7v, mU_sw h7r, mU_sw (by decide : (7 : Nat) ≠ 8), mU_mU] at hO
          rw [mU_sw h8v, mU_sw h8r, mU_mU] at hO
          refine lv_if_ne (tgt := 25) hx hb dX3_thicknessAfter_19 (by decide) (fun c19 => ?_) (fun c19 => absurd c19 (by decide))
          refine lv_iinc (v := (nI (i + 1))) (lv' := [(4, .int (nI (i + 1))), (0, .ref (ad 6)), (3, .int (nI N))]) hx hb dX3_thicknessAfter_25 hl (k := 2) rfl (nI_inc i) (by decide) rfl (fun ls hl => ?_)
          refine lv_goto (tgt := 9) hx hb dX3_thicknessAfter_28 (by decide) ?_
          exact ih9 (i + 1) (p_dipF φ9 (ν9 1)) (p_burnV (p_dipV φ9 ν9)) _ _ _ (by have := (nI_nE (a := N) (b := i) (by omega) (by omega) c12); omega) (by have := (nI_nE (a := N) (b := i) (by omega) (by omega) c12); omega) (by have := (nI_nE (a := N) (b := i) (by omega) (by omega) c12); rw [← hv, show N - i = (N - (i + 1)) + 1 from by omega, p_try, if_pos b16]) (lv_sub hl [1, 2, 0] rfl) hO hS
        · rw [hR] at hO
          refine lv_if_ne (tgt := 25) hx hb dX3_thicknessAfter_19 (by decide) (fun c19 => absurd (by decide) c19) (fun c19 => ?_)
          refine lv_goto (tgt := 31) hx hb dX3_thicknessAfter_22 (by decide) ?_
          refine lv_aload_n hx hb dX3_thicknessAfter_31 rfl (lv_at hl 0 rfl) ?_
          refine m_get inX3 hF hC hO ((mU_ne h6v).trans ((mU_ne h6r).trans ((mU_ne (by decide : (6 : Nat) ≠ 8)).trans ((mU_ne (by decide : (6 : Nat) ≠ 7)).trans (mU_self))))) rfl 0 (by decide) q_104 (v := .ref (ad 7)) rfl dX3_thicknessAfter_32 ?_
          refine m_get inX0 hF hC hO ((mU_ne h7v).trans ((mU_ne h7r).trans ((mU_ne (by decide : (7 : Nat) ≠ 8)).trans (mU_self)))) rfl 2 (by decide) q_76 (v := .int (φ9 2)) rfl dX3_thicknessAfter_35 ?_
          rw [mU_id (show R 6 = some (.inr (3, [.ref (ad 7), .ref (ad 8)])) from h0)] at hO
          rw [mU_id (show (mU (mU R 7 (frO φ9)) 8 (vO ν9)) r = some (frO ψ) from ((mU_ne (Ne.symm h8r)).trans ((mU_ne (Ne.symm h7r)).trans h3)))] at hO
          rw [mU_id (show (mU (mU R 7 (frO φ9)) 8 (vO ν9)) v = some (vO κ) from ((mU_ne (Ne.symm h8v)).trans ((mU_ne (Ne.symm h7v)).trans h4)))] at hO
          refine m_iret hF hr hlk hQ rfl hO hS dX3_thicknessAfter_38 ?_
          first
          | (have e : i = N := Nat.le_antisymm hi (nI_E (a := N) (b := i) (by omega) (by omega) c12)
             subst e
             rw [Nat.sub_self] at hv
             exact ⟨hv, _, _, rfl⟩)
          | (have h9 := (nI_nE (a := N) (b := i) (by omega) (by omega) c12)
             rw [show N - i = (N - (i + 1)) + 1 from by omega, p_try, if_neg b16] at hv
             exact ⟨hv, _, _, rfl⟩)
  exact L9 _ 0 ψ κ _ _ _ (Nat.lt_succ_self _) (by omega) rfl (lv_sub hl [1, 4, 0] rfl) hO hS
theorem ok_X3_dipsNeeded : mOK RX3 yX3_dipsNeeded cX3_dipsNeeded 6 (some .int) 4 := ⟨q_634, q_635, q_4, q_636, by decide +kernel⟩
set_option maxHeartbeats 400000 in
set_option maxRecDepth 100000 in
theorem k_X3_dipsNeeded (l : Launch) (G : mG) (lo : Nat) (sa ad : Nat → Nat) (R : mM) (r v : Nat) (φ ν ψ κ : Nat → Int32) (k : Nat) (z : Int32) (h0 : R 6 = some (.inr (3, [.ref (ad 7), .ref (ad 8)]))) (h1 : R 7 = some (frO φ)) (h2 : R 8 = some (vO ν)) (h3 : R r = some (frO ψ)) (h4 : R v = some (vO κ)) (hrv : r ≠ v) (h6r : 6 ≠ r) (h7r : 7 ≠ r) (h8r : 8 ≠ r) (h6v : 6 ≠ v) (h7v : 7 ≠ v) (h8v : 8 ≠ v) (hb4 : ψ 4 = 0 ∨ ψ 4 = 1) (hN : k < 1000) : mI l yX3_dipsNeeded cX3_dipsNeeded 6 .int 5 106 G lo sa ad R [.ref (ad 6), .ref (ad r), .ref (ad v), .int (nI k), .int z] (fun v R' => v = (p_need k z ψ κ) ∧ ∃ (φ' : Nat → Int32), ∃ (ν' : Nat → Int32), R' = (mU (mU R 7 (frO φ')) 8 (vO ν'))) := by
  refine mI_of (by decide) (Nat.le_of_ble_eq_true rfl) ?_
  intro p e s m args below meth c hF hr hlk hC ls hl hO hS Q hQ
  have hx := hF.1
  have hb := hF.2.1
  have hl : lv_has ls 6 [(0, .ref (ad 6)), (1, .ref (ad r)), (2, .ref (ad v)), (3, .int (nI k)), (4, .int z)] := hl
  have hO : mO G lo ad (mU (mU (mU (mU (mU R 6 (.inr (3, [.ref (ad 7), .ref (ad 8)]))) 7 (frO φ)) 8 (vO ν)) r (frO ψ)) v (vO κ)) s.heap := by
    rw [mU_id h0, mU_id h1, mU_id h2, mU_id h3, mU_id h4]
    exact hO
  refine lv_aload_n hx hb dX3_dipsNeeded_0 rfl (lv_at hl 0 rfl) ?_
  refine lv_aload_n hx hb dX3_dipsNeeded_1 rfl (lv_at hl 1 rfl) ?_
  refine lv_aload_n hx hb dX3_dipsNeeded_2 rfl (lv_at hl 2 rfl) ?_
  refine m_vV (As := [.ref (ad r), .ref (ad v)]) (rest := []) (n := 2) hF hC hO hS (k_X3_begin l G lo sa ad _ r v φ ν ψ κ ((mU_ne h6v).trans ((mU_ne h6r).trans ((mU_ne (by decide : (6 : Nat) ≠ 8)).trans ((mU_ne (by decide : (6 : Nat) ≠ 7)).trans (mU_self))))) ((mU_ne h7v).trans ((mU_ne h7r).trans ((mU_ne (by decide : (7 : Nat) ≠ 8)).trans (mU_self)))) ((mU_ne h8v).trans ((mU_ne h8r).trans (mU_self))) ((mU_ne hrv).trans (mU_self)) (mU_self) hrv h6r h7r h8r h6v h7v h8v hb4) ok_X3_begin q_606 ((mU_ne h6v).trans ((mU_ne h6r).trans ((mU_ne (by decide : (6 : Nat) ≠ 8)).trans ((mU_ne (by decide : (6 : Nat) ≠ 7)).trans (mU_self))))) rfl ⟨Nat.le_of_ble_eq_true rfl, Nat.le_of_ble_eq_true rfl⟩ rfl hl.1 rfl (Nat.le_of_ble_eq_true rfl) ⟨Nat.le_of_ble_eq_true rfl, Nat.le_of_ble_eq_true rfl⟩ dX3_dipsNeeded_3 (fun R' H locs hp hO hS => ?_)
  have hR := hp
  rw [hR] at hO
  have hO : mO G lo ad (mU (mU (mU (mU (mU (mU (mU R 6 (.inr (3, [.ref (ad 7), .ref (ad 8)]))) 7 (frO φ)) 8 (vO ν)) r (frO ψ)) v (vO κ)) 7 (frO ψ)) 8 (vO κ)) H := hO
  rw [mU_sw h7v, mU_sw h7r, mU_sw (by decide : (7 : Nat) ≠ 8), mU_mU] at hO
  rw [mU_sw h8v, mU_sw h8r, mU_mU] at hO
  refine lv_aload_n hx hb dX3_dipsNeeded_6 rfl (lv_at hl 0 rfl) ?_
  refine m_get inX3 hF hC hO ((mU_ne h6v).trans ((mU_ne h6r).trans ((mU_ne (by decide : (6 : Nat) ≠ 8)).trans ((mU_ne (by decide : (6 : Nat) ≠ 7)).trans (mU_self))))) rfl 0 (by decide) q_104 (v := .ref (ad 7)) rfl dX3_dipsNeeded_7 ?_
  refine m_vI (As := []) (rest := []) (n := 0) hF hC hO hS (k_X0_size l G lo sa ad _ 7 ψ ((mU_ne h7v).trans ((mU_ne h7r).trans ((mU_ne (by decide : (7 : Nat) ≠ 8)).trans (mU_self))))) ok_X0_size q_637 ((mU_ne h7v).trans ((mU_ne h7r).trans ((mU_ne (by decide : (7 : Nat) ≠ 8)).trans (mU_self)))) rfl ⟨Nat.le_of_ble_eq_true rfl, Nat.le_of_ble_eq_true rfl⟩ rfl hl.1 rfl (Nat.le_of_ble_eq_true rfl) ⟨Nat.le_of_ble_eq_true rfl, Nat.le_of_ble_eq_true rfl⟩ dX3_dipsNeeded_10 (fun v10 R' H locs hp hO hS => ?_)
  obtain ⟨rfl, hR⟩ := hp
  rw [hR] at hO
  refine lv_iload hx hb dX3_dipsNeeded_13 (lv_at hl 4 rfl) ?_
  refine lv_icmp_lt (tgt := 20) hx hb dX3_dipsNeeded_15 (by decide) (fun c15 => ?_) (fun c15 => ?_)
  · refine lv_iconst (v := 1) hx hb dX3_dipsNeeded_20 (by decide) ?_
    refine lv_istore (lv' := [(5, .int 1), (0, .ref (ad 6)), (1, .ref (ad r)), (2, .ref (ad v)), (3, .int (nI k)), (4, .int z)]) hx hb dX3_dipsNeeded_21 hl (by decide) rfl (fun ls hl => ?_)
    have L23 : ∀ (n : Nat) (i : Nat) (φ9 : Nat → Int32) (ν9 : Nat → Int32) (H : Heap) (locs : List Loc) (ls : Array Slot), 61 - i < n → i ≤ 61 → 1 ≤ i → p_needL (61 - i) i k z φ9 ν9 = p_need k z ψ κ → lv_has ls 6 [(0, .ref (ad 6)), (3, .int (nI k)), (4, .int z), (5, .int (nI i))] → mO G lo ad (mU (mU (mU (mU (mU R 6 (.inr (3, [.ref (ad 7), .ref (ad 8)]))) 7 (frO φ9)) 8 (vO ν9)) r (frO ψ)) v (vO κ)) H → va_S (mA lo) s.heap H locs → W p l e (mRm 5 106) s m args below meth c H locs 0 0 Q (F0 m 23 ls []) := by
      intro n
      induction n with
      | zero => intro i φ9 ν9 H locs ls hn; exact absurd hn (Nat.not_lt_zero _)
      | succ n ih23 =>
        intro i φ9 ν9 H locs ls hn23 hi hi1 hv hl hO hS
        refine lv_iload hx hb dX3_dipsNeeded_23 (lv_at hl 3 rfl) ?_
        refine lv_bipush (v := 60) hx hb dX3_dipsNeeded_25 (by decide) ?_
        refine lv_icmp_gt (tgt := 65) hx hb dX3_dipsNeeded_27 (by decide) (fun c27 => ?_) (fun c27 => ?_)
        · refine lv_iconst (v := -1) hx hb dX3_dipsNeeded_65 (by decide) ?_
          rw [mU_id (show R 6 = some (.inr (3, [.ref (ad 7), .ref (ad 8)])) from h0)] at hO
          rw [mU_id (show (mU (mU R 7 (frO φ9)) 8 (vO ν9)) r = some (frO ψ) from ((mU_ne (Ne.symm h8r)).trans ((mU_ne (Ne.symm h7r)).trans h3)))] at hO
          rw [mU_id (show (mU (mU R 7 (frO φ9)) 8 (vO ν9)) v = some (vO κ) from ((mU_ne (Ne.symm h8v)).trans ((mU_ne (Ne.symm h7v)).trans h4)))] at hO
          refine m_iret hF hr hlk hQ rfl hO hS dX3_dipsNeeded_66 ?_
          have e : i = 61 := Nat.le_antisymm hi (nI_L (a := 60) (b := i) (by decide) (by omega) c27)
          subst e
          exact ⟨hv, _, _, rfl⟩
        · refine lv_aload_n hx hb dX3_dipsNeeded_30 rfl (lv_at hl 0 rfl) ?_
          refine m_vI (As := []) (rest := []) (n := 0) hF hC hO hS (k_X3_tryDip l G lo sa ad _ φ9 ν9 ((mU_ne h6v).trans ((mU_ne h6r).trans ((mU_ne (by decide : (6 : Nat) ≠ 8)).trans ((mU_ne (by decide : (6 : Nat) ≠ 7)).trans (mU_self))))) ((mU_ne h7v).trans ((mU_ne h7r).trans ((mU_ne (by decide : (7 : Nat) ≠ 8)).trans (mU_self)))) ((mU_ne h8v).trans ((mU_ne h8r).trans (mU_self)))) ok_X3_tryDip q_618 ((mU_ne h6v).trans ((mU_ne h6r).trans ((mU_ne (by decide : (6 : Nat) ≠ 8)).trans ((mU_ne (by decide : (6 : Nat) ≠ 7)).trans (mU_self))))) rfl ⟨Nat.le_of_ble_eq_true rfl, Nat.le_of_ble_eq_true rfl⟩ rfl hl.1 rfl (Nat.le_of_ble_eq_true rfl) ⟨Nat.le_of_ble_eq_true rfl, Nat.le_of_ble_eq_true rfl⟩ dX3_dipsNeeded_31 (fun v31 R' H locs hp hO hS => ?_)
          obtain ⟨rfl, b31, hR⟩ | ⟨rfl, b31, hR⟩ := hp
          · rw [hR] at hO
            have hO : mO G lo ad (mU (mU (mU (mU (mU (mU (mU R 6 (.inr (3, [.ref (ad 7), .ref (ad 8)]))) 7 (frO φ9)) 8 (vO ν9)) r (frO ψ)) v (vO κ)) 7 (frO (p_dipF φ9 (ν9 1)))) 8 (vO (p_burnV (p_dipV φ9 ν9)))) H := hO
            rw [mU_sw h7v, mU_sw h7r, mU_sw (by decide : (7 : Nat) ≠ 8), mU_mU] at hO
            rw [mU_sw h8v, mU_sw h8r, mU_mU] at hO
            refine lv_if_ne (tgt := 39) hx hb dX3_dipsNeeded_34 (by decide) (fun c34 => ?_) (fun c34 => absurd c34 (by decide))
            refine lv_aload_n hx hb dX3_dipsNeeded_39 rfl (lv_at hl 0 rfl) ?_
            refine m_get inX3 hF hC hO ((mU_ne h6v).trans ((mU_ne h6r).trans ((mU_ne (by decide : (6 : Nat) ≠ 8)).trans ((mU_ne (by decide : (6 : Nat) ≠ 7)).trans (mU_self))))) rfl 0 (by decide) q_104 (v := .ref (ad 7)) rfl dX3_dipsNeeded_40 ?_
            refine m_vI (As := []) (rest := []) (n := 0) hF hC hO hS (k_X0_size l G lo sa ad _ 7 (p_dipF φ9 (ν9 1)) ((mU_ne h7v).trans ((mU_ne h7r).trans ((mU_ne (by decide : (7 : Nat) ≠ 8)).trans (mU_self))))) ok_X0_size q_637 ((mU_ne h7v).trans ((mU_ne h7r).trans ((mU_ne (by decide : (7 : Nat) ≠ 8)).trans (mU_self)))) rfl ⟨Nat.le_of_ble_eq_true rfl, Nat.le_of_ble_eq_true rfl⟩ rfl hl.1 rfl (Nat.le_of_ble_eq_true rfl) ⟨Nat.le_of_ble_eq_true rfl, Nat.le_of_ble_eq_true rfl⟩ dX3_dipsNeeded_43 (fun v43 R' H locs hp hO hS => ?_)
            obtain ⟨rfl, hR⟩ := hp
            rw [hR] at hO
            refine lv_iload hx hb dX3_dipsNeeded_46 (lv_at hl 2 rfl) ?_
            refine lv_icmp_lt (tgt := 54) hx hb dX3_dipsNeeded_48 (by decide) (fun c48 => ?_) (fun c48 => ?_)
            · refine lv_aload_n hx hb dX3_dipsNeeded_54 rfl (lv_at hl 0 rfl) ?_
              refine lv_iload_n hx hb dX3_dipsNeeded_55 rfl (lv_at hl 1 rfl) ?_
              refine m_vV (As := [.int (nI k)]) (rest := []) (n := 1) hF hC hO hS (k_X3_letRest l G lo sa ad _ (p_dipF φ9 (ν9 1)) (p_burnV (p_dipV φ9 ν9)) k ((mU_ne h6v).trans ((mU_ne h6r).trans ((mU_ne (by decide : (6 : Nat) ≠ 8)).trans ((mU_ne (by decide : (6 : Nat) ≠ 7)).trans (mU_self))))) ((mU_ne h7v).trans ((mU_ne h7r).trans ((mU_ne (by decide : (7 : Nat) ≠ 8)).trans (mU_self)))) ((mU_ne h8v).trans ((mU_ne h8r).trans (mU_self))) (by omega)) ok_X3_letRest q_638 ((mU_ne h6v).trans ((mU_ne h6r).trans ((mU_ne (by decide : (6 : Nat) ≠ 8)).trans ((mU_ne (by decide : (6 : Nat) ≠ 7)).trans (mU_self))))) rfl ⟨Nat.le_of_ble_eq_true rfl, Nat.le_of_ble_eq_true rfl⟩ rfl hl.1 rfl (Nat.le_of_ble_eq_true rfl) ⟨Nat.le_of_ble_eq_true rfl, Nat.le_of_ble_eq_true rfl⟩ dX3_dipsNeeded_56 (fun R' H locs hp hO hS => ?_)
              have hR := hp
              rw [hR] at hO
              have hO : mO G lo ad (mU (mU (mU (mU (mU (mU (mU R 6 (.inr (3, [.ref (ad 7), .ref (ad 8)]))) 7 (frO (p_dipF φ9 (ν9 1)))) 8 (vO (p_burnV (p_dipV φ9 ν9)))) r (frO ψ)) v (vO κ)) 7 (frO (p_coolN k (p_dipF φ9 (ν9 1))))) 8 (vO (p_burnN k (p_burnV (p_dipV φ9 ν9))))) H := hO
              rw [mU_sw h7v, mU_sw h7r, mU_sw (by decide : (7 : Nat) ≠ 8), mU_mU] at hO
              rw [mU_sw h8v, mU_sw h8r, mU_mU] at hO
              refine lv_iinc (v := (nI (i + 1))) (lv' := [(5, .int (nI (i + 1))), (0, .ref (ad 6)), (3, .int (nI k)), (4, .int z)]) hx hb dX3_dipsNeeded_59 hl (k := 3) rfl (nI_inc i) (by decide) rfl (fun ls hl => ?_)
              refine lv_goto (tgt := 23) hx hb dX3_dipsNeeded_62 (by decide) ?_
              exact ih23 (i + 1) (p_coolN k (p_dipF φ9 (ν9 1))) (p_burnN k (p_burnV (p_dipV φ9 ν9))) _ _ _ (by have := (nI_nL (a := 60) (b := i) (by decide) (by omega) c27); omega) (by have := (nI_nL (a := 60) (b := i) (by decide) (by omega) c27); omega) (by omega) (by have := (nI_nL (a := 60) (b := i) (by decide) (by omega) c27); rw [← hv, show 61 - i = (61 - (i + 1)) + 1 from by omega, p_needL, if_pos b31, if_neg (Int32.not_le.mpr c48)]) (lv_sub hl [1, 2, 3, 0] rfl) hO hS
            · refine lv_iload hx hb dX3_dipsNeeded_51 (lv_at hl 3 rfl) ?_
              rw [mU_id (show R 6 = some (.inr (3, [.ref (ad 7), .ref (ad 8)])) from h0)] at hO
              rw [mU_id (show (mU (mU R 7 (frO (p_dipF φ9 (ν9 1)))) 8 (vO (p_burnV (p_dipV φ9 ν9)))) r = some (frO ψ) from ((mU_ne (Ne.symm h8r)).trans ((mU_ne (Ne.symm h7r)).trans h3)))] at hO
              rw [mU_id (show (mU (mU R 7 (frO (p_dipF φ9 (ν9 1)))) 8 (vO (p_burnV (p_dipV φ9 ν9)))) v = some (vO κ) from ((mU_ne (Ne.symm h8v)).trans ((mU_ne (Ne.symm h7v)).trans h4)))] at hO
              refine m_iret hF hr hlk hQ rfl hO hS dX3_dipsNeeded_53 ?_
              have h9 := (nI_nL (a := 60) (b := i) (by decide) (by omega) c27)
              rw [show 61 - i = (61 - (i + 1)) + 1 from by omega, p_needL, if_pos b31, if_pos (Int32.not_lt.mp c48)] at hv
              exact ⟨hv, _, _, rfl⟩
          · rw [hR] at hO
            refine lv_if_ne (tgt := 39) hx hb dX3_dipsNeeded_34 (by decide) (fun c34 => absurd (by decide) c34) (fun c34 => ?_)
            refine lv_iconst (v := -1) hx hb dX3_dipsNeeded_37 (by decide) ?_
            rw [mU_id (show R 6 = some (.inr (3, [.ref (ad 7), .ref (ad 8)])) from h0)] at hO
            rw [mU_id (show (mU (mU R 7 (frO φ9)) 8 (vO ν9)) r = some (frO ψ) from ((mU_ne (Ne.symm h8r)).trans ((mU_ne (Ne.symm h7r)).trans h3)))] at hO
            rw [mU_id (show (mU (mU R 7 (frO φ9)) 8 (vO ν9)) v = some (vO κ) from ((mU_ne (Ne.symm h8v)).trans ((mU_ne (Ne.symm h7v)).trans h4)))] at hO
            refine m_iret hF hr hlk hQ rfl hO hS dX3_dipsNeeded_38 ?_
            have h9 := (nI_nL (a := 60) (b := i) (by decide) (by omega) c27)
            rw [show 61 - i = (61 - (i + 1)) + 1 from by omega, p_needL, if_neg b31] at hv
            exact ⟨hv, _, _, rfl⟩
    exact L23 _ 1 ψ κ _ _ _ (Nat.lt_succ_self _) (by omega) (by omega) (by rw [p_need, if_neg (Int32.not_le.mpr c15)]) (lv_sub hl [1, 4, 5, 0] rfl) hO hS
  · refine lv_iconst (v := 0) hx hb dX3_dipsNeeded_18 (by decide) ?_
    rw [mU_id (show R 6 = some (.inr (3, [.ref (ad 7), .ref (ad 8)])) from h0)] at hO
    rw [mU_id (show (mU (mU R 7 (frO ψ)) 8 (vO κ)) r = some (frO ψ) from ((mU_ne (Ne.symm h8r)).trans ((mU_ne (Ne.symm h7r)).trans h3)))] at hO
    rw [mU_id (show (mU (mU R 7 (frO ψ)) 8 (vO κ)) v = some (vO κ) from ((mU_ne (Ne.symm h8v)).trans ((mU_ne (Ne.symm h7v)).trans h4)))] at hO
    refine m_iret hF hr hlk hQ rfl hO hS dX3_dipsNeeded_19 ?_
    exact ⟨by rw [p_need, if_pos (Int32.not_lt.mp c15)], _, _, rfl⟩
theorem ok_X3_quickestRest : mOK RX3 yX3_quickestRest cX3_quickestRest 9 (some .int) 3 := ⟨q_652, q_653, q_4, q_654, by decide +kernel⟩
set_option maxHeartbeats 400000 in
set_option maxRecDepth 100000 in
theorem k_X3_quickestRest (l : Launch) (G : mG) (lo : Nat) (sa ad : Nat → Nat) (R : mM) (r v : Nat) (φ ν ψ κ : Nat → Int32) (z : Int32) (h0 : R 6 = some (.inr (3, [.ref (ad 7), .ref (ad 8)]))) (h1 : R 7 = some (frO φ)) (h2 : R 8 = some (vO ν)) (h3 : R r = some (frO ψ)) (h4 : R v = some (vO κ)) (hrv : r ≠ v) (h6r : 6 ≠ r) (h7r : 7 ≠ r) (h8r : 8 ≠ r) (h6v : 6 ≠ v) (h7v : 7 ≠ v) (h8v : 8 ≠ v) (hb4 : ψ 4 = 0 ∨ ψ 4 = 1) : mI l yX3_quickestRest cX3_quickestRest 9 .int 6 131 G lo sa ad R [.ref (ad 6), .ref (ad r), .ref (ad v), .int z] (fun v R' => v = (p_quickL 21 0 (-1) 0 z ψ κ) ∧ ∃ (φ' : Nat → Int32), ∃ (ν' : Nat → Int32), R' = (mU (mU R 7 (frO φ')) 8 (vO ν'))) := by
  refine mI_of (by decide) (Nat.le_of_ble_eq_true rfl) ?_
  intro p e s m args below meth c hF hr hlk hC ls hl hO hS Q hQ
  have hx := hF.1
  have hb := hF.2.1
  have hl : lv_has ls 9 [(0, .ref (ad 6)), (1, .ref (ad r)), (2, .ref (ad v)), (3, .int z)] := hl
  have hO : mO G lo ad (mU (mU (mU (mU (mU R 6 (.inr (3, [.ref (ad 7), .ref (ad 8)]))) 7 (frO φ)) 8 (vO ν)) r (frO ψ)) v (vO κ)) s.heap := by
    rw [mU_id h0, mU_id h1, mU_id h2, mU_id h3, mU_id h4]
    exact hO
  refine lv_iconst (v := -1) hx hb dX3_quickestRest_0 (by decide) ?_
  refine lv_istore (lv' := [(4, .int (-1)), (0, .ref (ad 6)), (1, .ref (ad r)), (2, .ref (ad v)), (3, .int z)]) hx hb dX3_quickestRest_1 hl (by decide) rfl (fun ls hl => ?_)
  refine lv_iconst (v := 0) hx hb dX3_quickestRest_3 (by decide) ?_
  refine lv_istore (lv' := [(5, .int 0), (4, .int (-1)), (0, .ref (ad 6)), (1, .ref (ad r)), (2, .ref (ad v)), (3, .int z)]) hx hb dX3_quickestRest_4 hl (by decide) rfl (fun ls hl => ?_)
  refine lv_iconst (v := 0) hx hb dX3_quickestRest_6 (by decide) ?_
  refine lv_istore (lv' := [(6, .int 0), (5, .int 0), (4, .int (-1)), (0, .ref (ad 6)), (1, .ref (ad r)), (2, .ref (ad v)), (3, .int z)]) hx hb dX3_quickestRest_7 hl (by decide) rfl (fun ls hl => ?_)
  have L9 : ∀ (n : Nat) (i : Nat) (best : Int32) (few : Int32) (φ9 : Nat → Int32) (ν9 : Nat → Int32) (H : Heap) (locs : List Loc) (ls : Array Slot), 21 - i < n → i ≤ 21 → p_quickL (21 - i) i best few z ψ κ = p_quickL 21 0 (-1) 0 z ψ κ → lv_has ls 9 [(0, .ref (ad 6)), (1, .ref (ad r)), (2, .ref (ad v)), (3, .int z), (6, .int (nI i)), (4, .int best), (5, .int few)] → mO G lo ad (mU (mU (mU (mU (mU R 6 (.inr (3, [.ref (ad 7), .ref (ad 8)]))) 7 (frO φ9)) 8 (vO ν9)) r (frO ψ)) v (vO κ)) H → va_S (mA lo) s.heap H locs → W p l e (mRm 6 131) s m args below meth c H locs 0 0 Q (F0 m 9 ls []) := by
    intro n
    induction n with
    | zero => intro i best few φ9 ν9 H locs ls hn; exact absurd hn (Nat.not_lt_zero _)
    | succ n ih9 =>
      intro i best few φ9 ν9 H locs ls hn9 hi hv hl hO hS
      refine lv_iload hx hb dX3_quickestRest_9 (lv_at hl 4 rfl) ?_
      refine lv_bipush (v := 20) hx hb dX3_quickestRest_11 (by decide) ?_
      refine lv_icmp_gt (tgt := 77) hx hb dX3_quickestRest_13 (by decide) (fun c13 => ?_) (fun c13 => ?_)
      · refine lv_iload hx hb dX3_quickestRest_77 (lv_at hl 5 rfl) ?_
        rw [mU_id (show R 6 = some (.inr (3, [.ref (ad 7), .ref (ad 8)])) from h0)] at hO
        rw [mU_id (show (mU (mU R 7 (frO φ9)) 8 (vO ν9)) r = some (frO ψ) from ((mU_ne (Ne.symm h8r)).trans ((mU_ne (Ne.symm h7r)).trans h3)))] at hO
        rw [mU_id (show (mU (mU R 7 (frO φ9)) 8 (vO ν9)) v = some (vO κ) from ((mU_ne (Ne.symm h8v)).trans ((mU_ne (Ne.symm h7v)).trans h4)))] at hO
        refine m_iret hF hr hlk hQ rfl hO hS dX3_quickestRest_79 ?_
        have e : i = 21 := Nat.le_antisymm hi (nI_L (a := 20) (b := i) (by decide) (by omega) c13)
        subst e
        exact ⟨hv, _, _, rfl⟩
      · refine lv_aload_n hx hb dX3_quickestRest_16 rfl (lv_at hl 0 rfl) ?_
        refine lv_aload_n hx hb dX3_quickestRest_17 rfl (lv_at hl 1 rfl) ?_
        refine lv_aload_n hx hb dX3_quickestRest_18 rfl (lv_at hl 2 rfl) ?_
        refine lv_iload hx hb dX3_quickestRest_19 (lv_at hl 4 rfl) ?_
        refine lv_iload_n hx hb dX3_quickestRest_21 rfl (lv_at hl 3 rfl) ?_
        refine m_vI (As := [.ref (ad r), .ref (ad v), .int (nI i), .int z]) (rest := []) (n := 4) hF hC hO hS (k_X3_dipsNeeded l G lo sa ad _ r v φ9 ν9 ψ κ i z ((mU_ne h6v).trans ((mU_ne h6r).trans ((mU_ne (by decide : (6 : Nat) ≠ 8)).trans ((mU_ne (by decide : (6 : Nat) ≠ 7)).trans (mU_self))))) ((mU_ne h7v).trans ((mU_ne h7r).trans ((mU_ne (by decide : (7 : Nat) ≠ 8)).trans (mU_self)))) ((mU_ne h8v).trans ((mU_ne h8r).trans (mU_self))) ((mU_ne hrv).trans (mU_self)) (mU_self) hrv h6r h7r h8r h6v h7v h8v hb4 (by omega)) ok_X3_dipsNeeded q_655 ((mU_ne h6v).trans ((mU_ne h6r).trans ((mU_ne (by decide : (6 : Nat) ≠ 8)).trans ((mU_ne (by decide : (6 : Nat) ≠ 7)).trans (mU_self))))) rfl ⟨Nat.le_of_ble_eq_true rfl, Nat.le_of_ble_eq_true rfl⟩ rfl hl.1 rfl (Nat.le_of_ble_eq_true rfl) ⟨Nat.le_of_ble_eq_true rfl, Nat.le_of_ble_eq_true rfl⟩ dX3_quickestRest_22 (fun v22 R' H locs hp hO hS => ?_)
        obtain ⟨rfl, φ_22, ν_22, hR⟩ := hp
        rw [hR] at hO
        have hO : mO G lo ad (mU (mU (mU (mU (mU (mU (mU R 6 (.inr (3, [.ref (ad 7), .ref (ad 8)]))) 7 (frO φ9)) 8 (vO ν9)) r (frO ψ)) v (vO κ)) 7 (frO φ_22)) 8 (vO ν_22)) H := hO
        rw [mU_sw h7v, mU_sw h7r, mU_sw (by decide : (7 : Nat) ≠ 8), mU_mU] at hO
        rw [mU_sw h8v, mU_sw h8r, mU_mU] at hO
        refine lv_istore (lv' := [(7, .int (p_need i z ψ κ)), (0, .ref (ad 6)), (1, .ref (ad r)), (2, .ref (ad v)), (3, .int z), (6, .int (nI i)), (4, .int best), (5, .int few)]) hx hb dX3_quickestRest_25 hl (by decide) rfl (fun ls hl => ?_)
        refine lv_iload hx hb dX3_quickestRest_27 (lv_at hl 0 rfl) ?_
        refine lv_if_ne (tgt := 34) hx hb dX3_quickestRest_29 (by decide) (fun c29 => ?_) (fun c29 => ?_)
        · refine lv_iload hx hb dX3_quickestRest_34 (lv_at hl 0 rfl) ?_
          refine lv_iload hx hb dX3_quickestRest_36 (lv_at hl 0 rfl) ?_
          refine lv_iconst (v := 1) hx hb dX3_quickestRest_38 (by decide) ?_
          refine lv_isub hx hb dX3_quickestRest_39 ?_
          refine lv_iload hx hb dX3_quickestRest_40 (lv_at hl 5 rfl) ?_
          refine lv_imul hx hb dX3_quickestRest_42 ?_
          refine lv_iadd hx hb dX3_quickestRest_43 ?_
          refine lv_istore (lv' := [(8, .int ((p_need i z ψ κ) + (((p_need i z ψ κ) - 1) * (nI i)))), (7, .int (p_need i z ψ κ)), (0, .ref (ad 6)), (1, .ref (ad r)), (2, .ref (ad v)), (3, .int z), (6, .int (nI i)), (4, .int best), (5, .int few)]) hx hb dX3_quickestRest_44 hl (by decide) rfl (fun ls hl => ?_)
          refine lv_iload hx hb dX3_quickestRest_46 (lv_at hl 1 rfl) ?_
          refine lv_if_le (tgt := 71) hx hb dX3_quickestRest_48 (by decide) (fun c48 => ?_) (fun c48 => ?_)
          · refine lv_iinc (v := (nI (i + 1))) (lv' := [(6, .int (nI (i + 1))), (8, .int ((p_need i z ψ κ) + (((p_need i z ψ κ) - 1) * (nI i)))), (7, .int (p_need i z ψ κ)), (0, .ref (ad 6)), (1, .ref (ad r)), (2, .ref (ad v)), (3, .int z), (4, .int best), (5, .int few)]) hx hb dX3_quickestRest_71 hl (k := 6) rfl (nI_inc i) (by decide) rfl (fun ls hl => ?_)
            refine lv_goto (tgt := 9) hx hb dX3_quickestRest_74 (by decide) ?_
            exact ih9 (i + 1) best few φ_22 ν_22 _ _ _ (by have := (nI_nL (a := 20) (b := i) (by decide) (by omega) c13); omega) (by have := (nI_nL (a := 20) (b := i) (by decide) (by omega) c13); omega) (by have := (nI_nL (a := 20) (b := i) (by decide) (by omega) c13); rw [← hv, show 21 - i = (21 - (i + 1)) + 1 from by omega, p_quickL, if_neg c29, if_neg (fun h => by first | exact absurd h.1 (Int32.not_lt.mpr c48) | exact h.2.elim (fun q => c53 q) (fun q => absurd q (Int32.not_lt.mpr c60)))]) (lv_sub hl [3, 4, 5, 6, 0, 7, 8] rfl) hO hS
          · refine lv_iload hx hb dX3_quickestRest_51 (lv_at hl 7 rfl) ?_
            refine lv_if_lt (tgt := 63) hx hb dX3_quickestRest_53 (by decide) (fun c53 => ?_) (fun c53 => ?_)
            · refine lv_iload hx hb dX3_quickestRest_63 (lv_at hl 6 rfl) ?_
              refine lv_istore (lv' := [(4, .int (nI i)), (8, .int ((p_need i z ψ κ) + (((p_need i z ψ κ) - 1) * (nI i)))), (7, .int (p_need i z ψ κ)), (0, .ref (ad 6)), (1, .ref (ad r)), (2, .ref (ad v)), (3, .int z), (6, .int (nI i)), (5, .int few)]) hx hb dX3_quickestRest_65 hl (by decide) rfl (fun ls hl => ?_)
              refine lv_iload hx hb dX3_quickestRest_67 (lv_at hl 1 rfl) ?_
              refine lv_istore (lv' := [(5, .int ((p_need i z ψ κ) + (((p_need i z ψ κ) - 1) * (nI i)))), (4, .int (nI i)), (8, .int ((p_need i z ψ κ) + (((p_need i z ψ κ) - 1) * (nI i)))), (7, .int (p_need i z ψ κ)), (0, .ref (ad 6)), (1, .ref (ad r)), (2, .ref (ad v)), (3, .int z), (6, .int (nI i))]) hx hb dX3_quickestRest_69 hl (by decide) rfl (fun ls hl => ?_)
              refine lv_iinc (v := (nI (i + 1))) (lv' := [(6, .int (nI (i + 1))), (5, .int ((p_need i z ψ κ) + (((p_need i z ψ κ) - 1) * (nI i)))), (4, .int (nI i)), (8, .int ((p_need i z ψ κ) + (((p_need i z ψ κ) - 1) * (nI i)))), (7, .int (p_need i z ψ κ)), (0, .ref (ad 6)), (1, .ref (ad r)), (2, .ref (ad v)), (3, .int z)]) hx hb dX3_quickestRest_71 hl (k := 8) rfl (nI_inc i) (by decide) rfl (fun ls hl => ?_)
              refine lv_goto (tgt := 9) hx hb dX3_quickestRest_74 (by decide) ?_
              exact ih9 (i + 1) (nI i) ((p_need i z ψ κ) + (((p_need i z ψ κ) - 1) * (nI i))) φ_22 ν_22 _ _ _ (by have := (nI_nL (a := 20) (b := i) (by decide) (by omega) c13); omega) (by have := (nI_nL (a := 20) (b := i) (by decide) (by omega) c13); omega) (by have := (nI_nL (a := 20) (b := i) (by decide) (by omega) c13); rw [← hv, show 21 - i = (21 - (i + 1)) + 1 from by omega, p_quickL, if_neg c29, if_pos (⟨Int32.not_le.mp c48, by first | exact Or.inl c53 | exact Or.inr (Int32.not_le.mp c60)⟩)]) (lv_sub hl [5, 6, 7, 8, 0, 2, 1] rfl) hO hS
            · refine lv_iload hx hb dX3_quickestRest_56 (lv_at hl 0 rfl) ?_
              refine lv_iload hx hb dX3_quickestRest_58 (lv_at hl 8 rfl) ?_
              refine lv_icmp_ge (tgt := 71) hx hb dX3_quickestRest_60 (by decide) (fun c60 => ?_) (fun c60 => ?_)
              · refine lv_iinc (v := (nI (i + 1))) (lv' := [(6, .int (nI (i + 1))), (8, .int ((p_need i z ψ κ) + (((p_need i z ψ κ) - 1) * (nI i)))), (7, .int (p_need i z ψ κ)), (0, .ref (ad 6)), (1, .ref (ad r)), (2, .ref (ad v)), (3, .int z), (4, .int best), (5, .int few)]) hx hb dX3_quickestRest_71 hl (k := 6) rfl (nI_inc i) (by decide) rfl (fun ls hl => ?_)
                refine lv_goto (tgt := 9) hx hb dX3_quickestRest_74 (by decide) ?_
                exact ih9 (i + 1) best few φ_22 ν_22 _ _ _ (by have := (nI_nL (a := 20) (b := i) (by decide) (by omega) c13); omega) (by have := (nI_nL (a := 20) (b := i) (by decide) (by omega) c13); omega) (by have := (nI_nL (a := 20) (b := i) (by decide) (by omega) c13); rw [← hv, show 21 - i = (21 - (i + 1)) + 1 from by omega, p_quickL, if_neg c29, if_neg (fun h => by first | exact absurd h.1 (Int32.not_lt.mpr c48) | exact h.2.elim (fun q => c53 q) (fun q => absurd q (Int32.not_lt.mpr c60)))]) (lv_sub hl [3, 4, 5, 6, 0, 7, 8] rfl) hO hS
              · refine lv_iload hx hb dX3_quickestRest_63 (lv_at hl 6 rfl) ?_
                refine lv_istore (lv' := [(4, .int (nI i)), (8, .int ((p_need i z ψ κ) + (((p_need i z ψ κ) - 1) * (nI i)))), (7, .int (p_need i z ψ κ)), (0, .ref (ad 6)), (1, .ref (ad r)), (2, .ref (ad v)), (3, .int z), (6, .int (nI i)), (5, .int few)]) hx hb dX3_quickestRest_65 hl (by decide) rfl (fun ls hl => ?_)
                refine lv_iload hx hb dX3_quickestRest_67 (lv_at hl 1 rfl) ?_
                refine lv_istore (lv' := [(5, .int ((p_need i z ψ κ) + (((p_need i z ψ κ) - 1) * (nI i)))), (4, .int (nI i)), (8, .int ((p_need i z ψ κ) + (((p_need i z ψ κ) - 1) * (nI i)))), (7, .int (p_need i z ψ κ)), (0, .ref (ad 6)), (1, .ref (ad r)), (2, .ref (ad v)), (3, .int z), (6, .int (nI i))]) hx hb dX3_quickestRest_69 hl (by decide) rfl (fun ls hl => ?_)
                refine lv_iinc (v := (nI (i + 1))) (lv' := [(6, .int (nI (i + 1))), (5, .int ((p_need i z ψ κ) + (((p_need i z ψ κ) - 1) * (nI i)))), (4, .int (nI i)), (8, .int ((p_need i z ψ κ) + (((p_need i z ψ κ) - 1) * (nI i)))), (7, .int (p_need i z ψ κ)), (0, .ref (ad 6)), (1, .ref (ad r)), (2, .ref (ad v)), (3, .int z)]) hx hb dX3_quickestRest_71 hl (k := 8) rfl (nI_inc i) (by decide) rfl (fun ls hl => ?_)
                refine lv_goto (tgt := 9) hx hb dX3_quickestRest_74 (by decide) ?_
                exact ih9 (i + 1) (nI i) ((p_need i z ψ κ) + (((p_need i z ψ κ) - 1) * (nI i))) φ_22 ν_22 _ _ _ (by have := (nI_nL (a := 20) (b := i) (by decide) (by omega) c13); omega) (by have := (nI_nL (a := 20) (b := i) (by decide) (by omega) c13); omega) (by have := (nI_nL (a := 20) (b := i) (by decide) (by omega) c13); rw [← hv, show 21 - i = (21 - (i + 1)) + 1 from by omega, p_quickL, if_neg c29, if_pos (⟨Int32.not_le.mp c48, by first | exact Or.inl c53 | exact Or.inr (Int32.not_le.mp c60)⟩)]) (lv_sub hl [5, 6, 7, 8, 0, 2, 1] rfl) hO hS
        · refine lv_iconst (v := 0) hx hb dX3_quickestRest_32 (by decide) ?_
          rw [mU_id (show R 6 = some (.inr (3, [.ref (ad 7), .ref (ad 8)])) from h0)] at hO
          rw [mU_id (show (mU (mU R 7 (frO φ_22)) 8 (vO ν_22)) r = some (frO ψ) from ((mU_ne (Ne.symm h8r)).trans ((mU_ne (Ne.symm h7r)).trans h3)))] at hO
          rw [mU_id (show (mU (mU R 7 (frO φ_22)) 8 (vO ν_22)) v = some (vO κ) from ((mU_ne (Ne.symm h8v)).trans ((mU_ne (Ne.symm h7v)).trans h4)))] at hO
          refine m_iret hF hr hlk hQ rfl hO hS dX3_quickestRest_33 ?_
          have h9 := (nI_nL (a := 20) (b := i) (by decide) (by omega) c13)
          rw [show 21 - i = (21 - (i + 1)) + 1 from by omega, p_quickL, if_pos c29] at hv
          exact ⟨hv, _, _, rfl⟩
  exact L9 _ 0 (-1) 0 φ ν _ _ _ (Nat.lt_succ_self _) (by omega) rfl (lv_sub hl [3, 4, 5, 6, 0, 2, 1] rfl) hO hS
