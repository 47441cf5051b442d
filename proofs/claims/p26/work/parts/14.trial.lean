theorem ok_X3_thicknessAfter : mOK RX3 yX3_thicknessAfter cX3_thicknessAfter 5 (some .int) 3 := ⟨q_416, q_417, q_4, q_418, by decide +kernel⟩
set_option maxHeartbeats 400000 in
set_option maxRecDepth 100000 in
theorem k_X3_thicknessAfter (l : Launch) (G : mG) (lo : Nat) (sa : mSc) (ad : Nat → Nat) (R : mM) (r v : Nat) (φ ν ψ κ : Nat → Int32) (N : Nat) (h0 : R 6 = some (.inr (3, [.ref (ad 7), .ref (ad 8)]))) (h1 : R 7 = some (frO φ)) (h2 : R 8 = some (vO ν)) (h3 : R r = some (frO ψ)) (h4 : R v = some (vO κ)) (hrv : r ≠ v) (h6r : 6 ≠ r) (h7r : 7 ≠ r) (h8r : 8 ≠ r) (h6v : 6 ≠ v) (h7v : 7 ≠ v) (h8v : 8 ≠ v) (hb4 : ψ 4 = 0 ∨ ψ 4 = 1) (hN : N < 1000) : mI l yX3_thicknessAfter cX3_thicknessAfter 5 .int 5 106 G lo sa ad R [.ref (ad 6), .ref (ad r), .ref (ad v), .int (nI N)] (fun v R' => v = (p_try N ψ κ) ∧ ∃ (φ' : Nat → Int32), ∃ (ν' : Nat → Int32), R' = (mU (mU R 7 (frO φ')) 8 (vO ν'))) := by
  refine mI_of (by decide) (Nat.le_of_ble_eq_true rfl) ?_
  intro p e s m args below meth c hF hr hlk hC ls hl hO hS Q hQ
  have hx := hF.1
  have hb := hF.2.1
  have hl : lv_has ls 5 [(0, .ref (ad 6)), (1, .ref (ad r)), (2, .ref (ad v)), (3, .int (nI N))] := hl
  have hO : mO G lo ad (mU (mU (mU (mU (mU R 6 (.inr (3, [.ref (ad 7), .ref (ad 8)]))) 7 (frO φ)) 8 (vO ν)) r (frO ψ)) v (vO κ)) s.heap := by
    rw [mU_id h0, mU_id h1, mU_id h2, mU_id h3, mU_id h4]
    exact hO
  refine lv_aload_n hx hb dX3_thicknessAfter_0 rfl (lv_at hl 0 rfl) ?_
  refine lv_aload_n hx hb dX3_thicknessAfter_1 rfl (lv_at hl 1 rfl) ?_
  refine lv_aload_n hx hb dX3_thicknessAfter_2 rfl (lv_at hl 2 rfl) ?_
  refine m_vV (As := [.ref (ad r), .ref (ad v)]) (rest := []) (n := 2) hF hC hO hS (k_X3_begin l G lo sa ad _ r v φ ν ψ κ ((mU_ne h6v).trans ((mU_ne h6r).trans ((mU_ne (by decide : (6 : Nat) ≠ 8)).trans ((mU_ne (by decide : (6 : Nat) ≠ 7)).trans (mU_self))))) ((mU_ne h7v).trans ((mU_ne h7r).trans ((mU_ne (by decide : (7 : Nat) ≠ 8)).trans (mU_self)))) ((mU_ne h8v).trans ((mU_ne h8r).trans (mU_self))) ((mU_ne hrv).trans (mU_self)) (mU_self) hrv h6r h7r h8r h6v h7v h8v hb4) ok_X3_begin q_419 ((mU_ne h6v).trans ((mU_ne h6r).trans ((mU_ne (by decide : (6 : Nat) ≠ 8)).trans ((mU_ne (by decide : (6 : Nat) ≠ 7)).trans (mU_self))))) rfl ⟨Nat.le_of_ble_eq_true rfl, Nat.le_of_ble_eq_true rfl⟩ rfl hl.1 rfl (Nat.le_of_ble_eq_true rfl) ⟨Nat.le_of_ble_eq_true rfl, Nat.le_of_ble_eq_true rfl⟩ dX3_thicknessAfter_3 (fun R' H locs hp hO hS => ?_)
  have hR := hp
  rw [hR] at hO
  have hO : mO G lo ad (mU (mU (mU (mU (mU (mU (mU R 6 (.inr (3, [.ref (ad 7), .ref (ad 8)]))) 7 (frO φ)) 8 (vO ν)) r (frO ψ)) v (vO κ)) 7 (frO ψ)) 8 (vO κ)) H := hO
  rw [mU_sw h7v, mU_sw h7r, mU_sw (by decide : (7 : Nat) ≠ 8), mU_mU] at hO
  rw [mU_sw h8v, mU_sw h8r, mU_mU] at hO
  refine lv_iconst (v := 0) hx hb dX3_thicknessAfter_6 (by decide) ?_
  refine lv_istore (lv' := [(4, .int 0), (0, .ref (ad 6)), (1, .ref (ad r)), (2, .ref (ad v)), (3, .int (nI N))]) hx hb dX3_thicknessAfter_7 hl (by decide) rfl (fun ls hl => ?_)
  have L9 : ∀ (n : Nat) (i : Nat) (φ9 : Nat → Int32) (ν9 : Nat → Int32) (H : Heap) (locs : List Loc) (ls : Array Slot), N - i < n → i ≤ N → p_try (N - i) φ9 ν9 = p_try N ψ κ → lv_has ls 5 [(0, .ref (ad 6)), (3, .int (nI N)), (4, .int (nI i))] → mO G lo ad (mU (mU (mU (mU (mU R 6 (.inr (3, [.ref (ad 7), .ref (ad 8)]))) 7 (frO φ9)) 8 (vO ν9)) r (frO ψ)) v (vO κ)) H → va_S (mA lo) s.heap H locs → W p l e (mRm 5 106) s m args below meth c H locs 0 0 Q (F0 m 9 ls []) := by
    intro n
    induction n with
    | zero => intro i φ9 ν9 H locs ls hn; exact absurd hn (Nat.not_lt_zero _)
    | succ n ih9 =>
      intro i φ9 ν9 H locs ls hn9 hi hv hl hO hS
      refine lv_iload hx hb dX3_thicknessAfter_9 (lv_at hl 2 rfl) ?_
      refine lv_iload_n hx hb dX3_thicknessAfter_11 rfl (lv_at hl 1 rfl) ?_
      refine lv_icmp_ge (tgt := 31) hx hb dX3_thicknessAfter_12 (by decide) (fun c12 => ?_) (fun c12 => ?_)
      · refine lv_aload_n hx hb dX3_thicknessAfter_31 rfl (lv_at hl 0 rfl) ?_
        refine m_get inX3 hF hC hO ((mU_ne h6v).trans ((mU_ne h6r).trans ((mU_ne (by decide : (6 : Nat) ≠ 8)).trans ((mU_ne (by decide : (6 : Nat) ≠ 7)).trans (mU_self))))) rfl 0 (by decide) q_104 (v := .ref (ad 7)) rfl dX3_thicknessAfter_32 ?_
        refine m_get inX0 hF hC hO ((mU_ne h7v).trans ((mU_ne h7r).trans ((mU_ne (by decide : (7 : Nat) ≠ 8)).trans (mU_self)))) rfl 2 (by decide) q_76 (v := .int (φ9 2)) rfl dX3_thicknessAfter_35 ?_
        rw [mU_id (show R 6 = some (.inr (3, [.ref (ad 7), .ref (ad 8)])) from h0)] at hO
        rw [mU_id (show (mU (mU R 7 (frO φ9)) 8 (vO ν9)) r = some (frO ψ) from ((mU_ne (Ne.symm h8r)).trans ((mU_ne (Ne.symm h7r)).trans h3)))] at hO
        rw [mU_id (show (mU (mU R 7 (frO φ9)) 8 (vO ν9)) v = some (vO κ) from ((mU_ne (Ne.symm h8v)).trans ((mU_ne (Ne.symm h7v)).trans h4)))] at hO
        refine m_iret hF hr hlk hQ rfl hO hS dX3_thicknessAfter_38 ?_
        first
        | (have e : i = N := Nat.le_antisymm hi (nI_E (a := N) (b := i) (by omega) (by omega) c12)
           subst e
           rw [Nat.sub_self] at hv
           exact ⟨hv, _, _, rfl⟩)
        | (have h9 := (nI_nE (a := N) (b := i) (by omega) (by omega) c12)
           rw [show N - i = (N - (i + 1)) + 1 from by omega, p_try, if_neg b16] at hv
           exact ⟨hv, _, _, rfl⟩)
      · refine lv_aload_n hx hb dX3_thicknessAfter_15 rfl (lv_at hl 0 rfl) ?_
        refine m_vI (As := []) (rest := []) (n := 0) hF hC hO hS (k_X3_tryDip l G lo sa ad _ φ9 ν9 ((mU_ne h6v).trans ((mU_ne h6r).trans ((mU_ne (by decide : (6 : Nat) ≠ 8)).trans ((mU_ne (by decide : (6 : Nat) ≠ 7)).trans (mU_self))))) ((mU_ne h7v).trans ((mU_ne h7r).trans ((mU_ne (by decide : (7 : Nat) ≠ 8)).trans (mU_self)))) ((mU_ne h8v).trans ((mU_ne h8r).trans (mU_self)))) ok_X3_tryDip q_431 ((mU_ne h6v).trans ((mU_ne h6r).trans ((mU_ne (by decide : (6 : Nat) ≠ 8)).trans ((mU_ne (by decide : (6 : Nat) ≠ 7)).trans (mU_self))))) rfl ⟨Nat.le_of_ble_eq_true rfl, Nat.le_of_ble_eq_true rfl⟩ rfl hl.1 rfl (Nat.le_of_ble_eq_true rfl) ⟨Nat.le_of_ble_eq_true rfl, Nat.le_of_ble_eq_true rfl⟩ dX3_thicknessAfter_16 (fun v16 R' H locs hp hO hS => ?_)
        obtain ⟨rfl, b16, hR⟩ | ⟨rfl, b16, hR⟩ := hp
        · rw [hR] at hO
          have hO : mO G lo ad (mU (mU (mU (mU (mU (mU (mU R 6 (.inr (3, [.ref (ad 7), .ref (ad 8)]))) 7 (frO φ9)) 8 (vO ν9)) r (frO ψ)) v (vO κ)) 7 (frO (p_dipF φ9 (ν9 1)))) 8 (vO (p_burnV (p_dipV φ9 ν9)))) H := hO
          rw [mU_sw h7v, mU_sw h7r, mU_sw (by decide : (7 : Nat) ≠ 8), mU_mU] at hO
          rw [mU_sw h8v, mU_sw h8r, mU_mU] at hO
          refine lv_if_ne (tgt := 25) hx hb dX3_thicknessAfter_19 (by decide) (fun c19 => ?_) (fun c19 => absurd c19 (by decide))
          refine lv_iinc (v := (nI (i + 1))) (lv' := [(4, .int (nI (i + 1))), (0, .ref (ad 6)), (3, .int (nI N))]) hx hb dX3_thicknessAfter_25 hl (k := 2) rfl (nI_inc i) (by decide) rfl (fun ls hl => ?_)
          refine lv_goto (tgt := 9) hx hb dX3_thicknessAfter_28 (by decide) ?_
          exact ih9 (i + 1) (p_dipF φ9 (ν9 1)) (p_burnV (p_dipV φ9 ν9)) _ _ _ (by have := (nI_nE (a := N) (b := i) (by omega) (by omega) c12); omega) (by have := (nI_nE (a := N) (b := i) (by omega) (by omega) c12); omega) (by have := (nI_nE (a := N) (b := i) (by omega) (by omega) c12); rw [← hv, show N - i = (N - (i + 1)) + 1 from by omega, p_try, if_pos b16]) (lv_sub hl [1, 2, 0] rfl) hO hS
        · rw [hR] at hO
          refine lv_if_ne (tgt := 25) hx hb dX3_thicknessAfter_19 (by decide) (fun c19 => absurd (by decide) c19) (fun c19 => ?_)
          refine lv_goto (tgt := 31) hx hb dX3_thicknessAfter_22 (by decide) ?_
          refine lv_aload_n hx hb dX3_thicknessAfter_31 rfl (lv_at hl 0 rfl) ?_
          refine m_get inX3 hF hC hO ((mU_ne h6v).trans ((mU_ne h6r).trans ((mU_ne (by decide : (6 : Nat) ≠ 8)).trans ((mU_ne (by decide : (6 : Nat) ≠ 7)).trans (mU_self))))) rfl 0 (by decide) q_104 (v := .ref (ad 7)) rfl dX3_thicknessAfter_32 ?_
          refine m_get inX0 hF hC hO ((mU_ne h7v).trans ((mU_ne h7r).trans ((mU_ne (by decide : (7 : Nat) ≠ 8)).trans (mU_self)))) rfl 2 (by decide) q_76 (v := .int (φ9 2)) rfl dX3_thicknessAfter_35 ?_
          rw [mU_id (show R 6 = some (.inr (3, [.ref (ad 7), .ref (ad 8)])) from h0)] at hO
          rw [mU_id (show (mU (mU R 7 (frO φ9)) 8 (vO ν9)) r = some (frO ψ) from ((mU_ne (Ne.symm h8r)).trans ((mU_ne (Ne.symm h7r)).trans h3)))] at hO
          rw [mU_id (show (mU (mU R 7 (frO φ9)) 8 (vO ν9)) v = some (vO κ) from ((mU_ne (Ne.symm h8v)).trans ((mU_ne (Ne.symm h7v)).trans h4)))] at hO
          refine m_iret hF hr hlk hQ rfl hO hS dX3_thicknessAfter_38 ?_
          first
          | (have e : i = N := Nat.le_antisymm hi (nI_E (a := N) (b := i) (by omega) (by omega) c12)
             subst e
             rw [Nat.sub_self] at hv
             exact ⟨hv, _, _, rfl⟩)
          | (have h9 := (nI_nE (a := N) (b := i) (by omega) (by omega) c12)
             rw [show N - i = (N - (i + 1)) + 1 from by omega, p_try, if_neg b16] at hv
             exact ⟨hv, _, _, rfl⟩)
  exact L9 _ 0 ψ κ _ _ _ (Nat.lt_succ_self _) (by omega) rfl (lv_sub hl [1, 4, 0] rfl) hO hS
