theorem ok_X5_framesMade : mOK RX5 yX5_framesMade cX5_framesMade 6 (some .int) 0 := ⟨q_389, qs_8, q_1, q_390, by decide +kernel⟩
set_option maxHeartbeats 400000 in
set_option maxRecDepth 100000 in
theorem k_X5_framesMade (l : Launch) (G : mG) (lo : Nat) (sa : mSc) (ad : Nat → Nat) (R : mM) (g : Nat → Int32) (nf : Nat) (F : Nat → Nat → Int32) (f : Nat → Int32) (no : Nat) (O : Nat → Nat → Int32) (tf tv fw : Nat → Int32) (hnf : nf ≤ 12) (hno : no ≤ 20) : mI l yX5_framesMade cX5_framesMade 6 .int 0 0 G lo sa ad (WC G ad g nf F f no O tf tv fw R) [.ref (ad 0)] (fun v R' => v = nI nf ∧ R' = (WC G ad g nf F f no O tf tv fw R)) := by
  refine mI_of (by decide) (Nat.le_of_ble_eq_true rfl) ?_
  intro p e s m args below meth c hF hr hlk hC ls hl hO hS Q hQ
  have hx := hF.1
  have hb := hF.2.1
  have hl : lv_has ls 6 [(0, .ref (ad 0))] := hl
  refine lv_iconst (v := 0) hx hb dX5_framesMade_0 (by decide) ?_
  refine lv_istore_n (lv' := [(1, .int 0), (0, .ref (ad 0))]) hx hb dX5_framesMade_1 rfl hl (by decide) rfl (fun ls hl => ?_)
  refine lv_aload_n hx hb dX5_framesMade_2 rfl (lv_at hl 1 rfl) ?_
  refine m_get inX5 hF hC hO rfl rfl 1 (by decide) q_112 (v := .ref (ad 2)) rfl dX5_framesMade_3 ?_
  refine lv_astore_n (lv' := [(2, .ref (ad 2)), (1, .int 0), (0, .ref (ad 0))]) hx hb dX5_framesMade_6 rfl hl (by decide) rfl (fun ls hl => ?_)
  refine lv_aload_n hx hb dX5_framesMade_7 rfl (lv_at hl 0 rfl) ?_
  refine m_alen 3 hF hC hO rfl rfl (v := 12) rfl dX5_framesMade_8 ?_
  refine lv_istore_n (lv' := [(3, .int 12), (2, .ref (ad 2)), (1, .int 0), (0, .ref (ad 0))]) hx hb dX5_framesMade_9 rfl hl (by decide) rfl (fun ls hl => ?_)
  refine lv_iconst (v := 0) hx hb dX5_framesMade_10 (by decide) ?_
  refine lv_istore (lv' := [(4, .int 0), (3, .int 12), (2, .ref (ad 2)), (1, .int 0), (0, .ref (ad 0))]) hx hb dX5_framesMade_11 hl (by decide) rfl (fun ls hl => ?_)
  have L13 : ∀ (n : Nat) (i : Nat) (acc : Int32) (H : Heap) (locs : List Loc) (ls : Array Slot), 12 - i < n → i ≤ 12 → acc = nI (min i nf) → lv_has ls 6 [(0, .ref (ad 0)), (2, .ref (ad 2)), (3, .int 12), (4, .int (nI i)), (1, .int acc)] → mO G lo ad (WC G ad g nf F f no O tf tv fw R) H → va_S (mA lo) s.heap H locs → W p l e (mRm 0 0) s m args below meth c H locs 0 0 Q (F0 m 13 ls []) := by
    intro n
    induction n with
    | zero => intro i acc H locs ls hn; exact absurd hn (Nat.not_lt_zero _)
    | succ n ih13 =>
      intro i acc H locs ls hn13 hi hv0 hl hO hS
      refine lv_iload hx hb dX5_framesMade_13 (lv_at hl 3 rfl) ?_
      refine lv_iload_n hx hb dX5_framesMade_15 rfl (lv_at hl 2 rfl) ?_
      refine lv_icmp_ge (tgt := 39) hx hb dX5_framesMade_16 (by decide) (fun c16 => ?_) (fun c16 => ?_)
      · refine lv_iload_n hx hb dX5_framesMade_39 rfl (lv_at hl 4 rfl) ?_
        refine m_iret hF hr hlk hQ rfl hO hS dX5_framesMade_40 ?_
        have e9 : i = 12 := Nat.le_antisymm hi (nI_E (a := 12) (b := i) (by decide) (by omega) c16)
        exact ⟨by rw [hv0, e9, Nat.min_eq_right (by omega)], rfl⟩
      · refine lv_aload_n hx hb dX5_framesMade_19 rfl (lv_at hl 1 rfl) ?_
        refine lv_iload hx hb dX5_framesMade_20 (lv_at hl 3 rfl) ?_
        rcases Nat.lt_or_ge i nf with hin | hout
        · refine m_aldF hF hC hO rfl (j := i) (nI_clamp (by omega)) (vp_in_nI (nI_nE (a := 12) (b := i) (by decide) (by omega) c16) (by decide)) dX5_framesMade_22 (v := .ref (ad (100 + i))) (adF_in hin) ?_
          refine lv_astore (lv' := [(5, .ref (ad (100 + i))), (0, .ref (ad 0)), (2, .ref (ad 2)), (3, .int 12), (4, .int (nI i)), (1, .int acc)]) hx hb dX5_framesMade_23 hl (by decide) rfl (fun ls hl => ?_)
          refine lv_aload hx hb dX5_framesMade_25 (lv_at hl 0 rfl) ?_
          refine lv_ifnull hx hb dX5_framesMade_27 ?_
          refine lv_iinc (v := (acc + Int32.ofInt 1)) (lv' := [(1, .int (acc + Int32.ofInt 1)), (5, .ref (ad (100 + i))), (0, .ref (ad 0)), (2, .ref (ad 2)), (3, .int 12), (4, .int (nI i))]) hx hb dX5_framesMade_30 hl (k := 5) rfl rfl (by decide) rfl (fun ls hl => ?_)
          refine lv_iinc (v := (nI (i + 1))) (lv' := [(4, .int (nI (i + 1))), (1, .int (acc + Int32.ofInt 1)), (5, .ref (ad (100 + i))), (0, .ref (ad 0)), (2, .ref (ad 2)), (3, .int 12)]) hx hb dX5_framesMade_33 hl (k := 5) rfl (nI_inc i) (by decide) rfl (fun ls hl => ?_)
          refine lv_goto (tgt := 13) hx hb dX5_framesMade_36 (by decide) ?_
          exact ih13 (i + 1) (acc + Int32.ofInt 1) _ _ _ (by have := (nI_nE (a := 12) (b := i) (by decide) (by omega) c16); omega) (by have := (nI_nE (a := 12) (b := i) (by decide) (by omega) c16); omega) (by rw [hv0, Nat.min_eq_left (by omega), Nat.min_eq_left (by omega)]; exact nI_inc i) (lv_sub hl [3, 4, 5, 0, 1] rfl) hO hS
        · refine m_aldF hF hC hO rfl (j := i) (nI_clamp (by omega)) (vp_in_nI (nI_nE (a := 12) (b := i) (by decide) (by omega) c16) (by decide)) dX5_framesMade_22 (v := .null) (adF_out hout) ?_
          refine lv_astoreN (lv' := [(5, .null), (0, .ref (ad 0)), (2, .ref (ad 2)), (3, .int 12), (4, .int (nI i)), (1, .int acc)]) hx hb dX5_framesMade_23 hl (by decide) rfl (fun ls hl => ?_)
          refine lv_aloadN hx hb dX5_framesMade_25 (lv_at hl 0 rfl) ?_
          refine lv_ifnullN (tgt := 33) hx hb dX5_framesMade_27 (by decide) ?_
          refine lv_iinc (v := (nI (i + 1))) (lv' := [(4, .int (nI (i + 1))), (5, .null), (0, .ref (ad 0)), (2, .ref (ad 2)), (3, .int 12), (1, .int acc)]) hx hb dX5_framesMade_33 hl (k := 4) rfl (nI_inc i) (by decide) rfl (fun ls hl => ?_)
          refine lv_goto (tgt := 13) hx hb dX5_framesMade_36 (by decide) ?_
          exact ih13 (i + 1) acc _ _ _ (by have := (nI_nE (a := 12) (b := i) (by decide) (by omega) c16); omega) (by have := (nI_nE (a := 12) (b := i) (by decide) (by omega) c16); omega) (by rw [hv0, Nat.min_eq_right (by omega), Nat.min_eq_right (by omega)]) (lv_sub hl [2, 3, 4, 0, 5] rfl) hO hS
  exact L13 _ 0 0 _ _ _ (Nat.lt_succ_self _) (by omega) (by rw [Nat.zero_min]; rfl) (lv_sub hl [4, 2, 1, 0, 3] rfl) hO hS
theorem ok_X5_ordersTaken : mOK RX5 yX5_ordersTaken cX5_ordersTaken 6 (some .int) 0 := ⟨q_402, qs_10, q_1, q_403, by decide +kernel⟩
set_option maxHeartbeats 400000 in
set_option maxRecDepth 100000 in
theorem k_X5_ordersTaken (l : Launch) (G : mG) (lo : Nat) (sa : mSc) (ad : Nat → Nat) (R : mM) (g : Nat → Int32) (nf : Nat) (F : Nat → Nat → Int32) (f : Nat → Int32) (no : Nat) (O : Nat → Nat → Int32) (tf tv fw : Nat → Int32) (hnf : nf ≤ 12) (hno : no ≤ 20) : mI l yX5_ordersTaken cX5_ordersTaken 6 .int 0 0 G lo sa ad (WC G ad g nf F f no O tf tv fw R) [.ref (ad 0)] (fun v R' => v = nI no ∧ R' = (WC G ad g nf F f no O tf tv fw R)) := by
  refine mI_of (by decide) (Nat.le_of_ble_eq_true rfl) ?_
  intro p e s m args below meth c hF hr hlk hC ls hl hO hS Q hQ
  have hx := hF.1
  have hb := hF.2.1
  have hl : lv_has ls 6 [(0, .ref (ad 0))] := hl
  refine lv_iconst (v := 0) hx hb dX5_ordersTaken_0 (by decide) ?_
  refine lv_istore_n (lv' := [(1, .int 0), (0, .ref (ad 0))]) hx hb dX5_ordersTaken_1 rfl hl (by decide) rfl (fun ls hl => ?_)
  refine lv_aload_n hx hb dX5_ordersTaken_2 rfl (lv_at hl 1 rfl) ?_
  refine m_get inX5 hF hC hO rfl rfl 3 (by decide) q_114 (v := .ref (ad 5)) rfl dX5_ordersTaken_3 ?_
  refine lv_astore_n (lv' := [(2, .ref (ad 5)), (1, .int 0), (0, .ref (ad 0))]) hx hb dX5_ordersTaken_6 rfl hl (by decide) rfl (fun ls hl => ?_)
  refine lv_aload_n hx hb dX5_ordersTaken_7 rfl (lv_at hl 0 rfl) ?_
  refine m_alen 4 hF hC hO rfl rfl (v := 20) rfl dX5_ordersTaken_8 ?_
  refine lv_istore_n (lv' := [(3, .int 20), (2, .ref (ad 5)), (1, .int 0), (0, .ref (ad 0))]) hx hb dX5_ordersTaken_9 rfl hl (by decide) rfl (fun ls hl => ?_)
  refine lv_iconst (v := 0) hx hb dX5_ordersTaken_10 (by decide) ?_
  refine lv_istore (lv' := [(4, .int 0), (3, .int 20), (2, .ref (ad 5)), (1, .int 0), (0, .ref (ad 0))]) hx hb dX5_ordersTaken_11 hl (by decide) rfl (fun ls hl => ?_)
  have L13 : ∀ (n : Nat) (i : Nat) (acc : Int32) (H : Heap) (locs : List Loc) (ls : Array Slot), 20 - i < n → i ≤ 20 → acc = nI (min i no) → lv_has ls 6 [(0, .ref (ad 0)), (2, .ref (ad 5)), (3, .int 20), (4, .int (nI i)), (1, .int acc)] → mO G lo ad (WC G ad g nf F f no O tf tv fw R) H → va_S (mA lo) s.heap H locs → W p l e (mRm 0 0) s m args below meth c H locs 0 0 Q (F0 m 13 ls []) := by
    intro n
    induction n with
    | zero => intro i acc H locs ls hn; exact absurd hn (Nat.not_lt_zero _)
    | succ n ih13 =>
      intro i acc H locs ls hn13 hi hv0 hl hO hS
      refine lv_iload hx hb dX5_ordersTaken_13 (lv_at hl 3 rfl) ?_
      refine lv_iload_n hx hb dX5_ordersTaken_15 rfl (lv_at hl 2 rfl) ?_
      refine lv_icmp_ge (tgt := 39) hx hb dX5_ordersTaken_16 (by decide) (fun c16 => ?_) (fun c16 => ?_)
      · refine lv_iload_n hx hb dX5_ordersTaken_39 rfl (lv_at hl 4 rfl) ?_
        refine m_iret hF hr hlk hQ rfl hO hS dX5_ordersTaken_40 ?_
        have e9 : i = 20 := Nat.le_antisymm hi (nI_E (a := 20) (b := i) (by decide) (by omega) c16)
        exact ⟨by rw [hv0, e9, Nat.min_eq_right (by omega)], rfl⟩
      · refine lv_aload_n hx hb dX5_ordersTaken_19 rfl (lv_at hl 1 rfl) ?_
        refine lv_iload hx hb dX5_ordersTaken_20 (lv_at hl 3 rfl) ?_
        rcases Nat.lt_or_ge i no with hin | hout
        · refine m_aldO hF hC hO rfl (j := i) (nI_clamp (by omega)) (vp_in_nI (nI_nE (a := 20) (b := i) (by decide) (by omega) c16) (by decide)) dX5_ordersTaken_22 (v := .ref (ad (120 + i))) (adF_in hin) ?_
          refine lv_astore (lv' := [(5, .ref (ad (120 + i))), (0, .ref (ad 0)), (2, .ref (ad 5)), (3, .int 20), (4, .int (nI i)), (1, .int acc)]) hx hb dX5_ordersTaken_23 hl (by decide) rfl (fun ls hl => ?_)
          refine lv_aload hx hb dX5_ordersTaken_25 (lv_at hl 0 rfl) ?_
          refine lv_ifnull hx hb dX5_ordersTaken_27 ?_
          refine lv_iinc (v := (acc + Int32.ofInt 1)) (lv' := [(1, .int (acc + Int32.ofInt 1)), (5, .ref (ad (120 + i))), (0, .ref (ad 0)), (2, .ref (ad 5)), (3, .int 20), (4, .int (nI i))]) hx hb dX5_ordersTaken_30 hl (k := 5) rfl rfl (by decide) rfl (fun ls hl => ?_)
          refine lv_iinc (v := (nI (i + 1))) (lv' := [(4, .int (nI (i + 1))), (1, .int (acc + Int32.ofInt 1)), (5, .ref (ad (120 + i))), (0, .ref (ad 0)), (2, .ref (ad 5)), (3, .int 20)]) hx hb dX5_ordersTaken_33 hl (k := 5) rfl (nI_inc i) (by decide) rfl (fun ls hl => ?_)
          refine lv_goto (tgt := 13) hx hb dX5_ordersTaken_36 (by decide) ?_
          exact ih13 (i + 1) (acc + Int32.ofInt 1) _ _ _ (by have := (nI_nE (a := 20) (b := i) (by decide) (by omega) c16); omega) (by have := (nI_nE (a := 20) (b := i) (by decide) (by omega) c16); omega) (by rw [hv0, Nat.min_eq_left (by omega), Nat.min_eq_left (by omega)]; exact nI_inc i) (lv_sub hl [3, 4, 5, 0, 1] rfl) hO hS
        · refine m_aldO hF hC hO rfl (j := i) (nI_clamp (by omega)) (vp_in_nI (nI_nE (a := 20) (b := i) (by decide) (by omega) c16) (by decide)) dX5_ordersTaken_22 (v := .null) (adF_out hout) ?_
          refine lv_astoreN (lv' := [(5, .null), (0, .ref (ad 0)), (2, .ref (ad 5)), (3, .int 20), (4, .int (nI i)), (1, .int acc)]) hx hb dX5_ordersTaken_23 hl (by decide) rfl (fun ls hl => ?_)
          refine lv_aloadN hx hb dX5_ordersTaken_25 (lv_at hl 0 rfl) ?_
          refine lv_ifnullN (tgt := 33) hx hb dX5_ordersTaken_27 (by decide) ?_
          refine lv_iinc (v := (nI (i + 1))) (lv' := [(4, .int (nI (i + 1))), (5, .null), (0, .ref (ad 0)), (2, .ref (ad 5)), (3, .int 20), (1, .int acc)]) hx hb dX5_ordersTaken_33 hl (k := 4) rfl (nI_inc i) (by decide) rfl (fun ls hl => ?_)
          refine lv_goto (tgt := 13) hx hb dX5_ordersTaken_36 (by decide) ?_
          exact ih13 (i + 1) acc _ _ _ (by have := (nI_nE (a := 20) (b := i) (by decide) (by omega) c16); omega) (by have := (nI_nE (a := 20) (b := i) (by decide) (by omega) c16); omega) (by rw [hv0, Nat.min_eq_right (by omega), Nat.min_eq_right (by omega)]) (lv_sub hl [2, 3, 4, 0, 5] rfl) hO hS
  exact L13 _ 0 0 _ _ _ (Nat.lt_succ_self _) (by omega) (by rw [Nat.zero_min]; rfl) (lv_sub hl [4, 2, 1, 0, 3] rfl) hO hS
theorem ok_X5_framesHanging : mOK RX5 yX5_framesHanging cX5_framesHanging 6 (some .int) 0 := ⟨q_393, qs_9, q_1, q_394, by decide +kernel⟩
set_option maxHeartbeats 400000 in
set_option maxRecDepth 100000 in
theorem k_X5_framesHanging (l : Launch) (G : mG) (lo : Nat) (sa : mSc) (ad : Nat → Nat) (R : mM) (g : Nat → Int32) (nf : Nat) (F : Nat → Nat → Int32) (f : Nat → Int32) (no : Nat) (O : Nat → Nat → Int32) (tf tv fw : Nat → Int32) (hnf : nf ≤ 12) (hno : no ≤ 20) : mI l yX5_framesHanging cX5_framesHanging 6 .int 1 20 G lo sa ad (WC G ad g nf F f no O tf tv fw R) [.ref (ad 0)] (fun v R' => v = m_hangL nf 0 F 0 ∧ R' = (WC G ad g nf F f no O tf tv fw R)) := by
  refine mI_of (by decide) (Nat.le_of_ble_eq_true rfl) ?_
  intro p e s m args below meth c hF hr hlk hC ls hl hO hS Q hQ
  have hx := hF.1
  have hb := hF.2.1
  have hl : lv_has ls 6 [(0, .ref (ad 0))] := hl
  refine lv_iconst (v := 0) hx hb dX5_framesHanging_0 (by decide) ?_
  refine lv_istore_n (lv' := [(1, .int 0), (0, .ref (ad 0))]) hx hb dX5_framesHanging_1 rfl hl (by decide) rfl (fun ls hl => ?_)
  refine lv_aload_n hx hb dX5_framesHanging_2 rfl (lv_at hl 1 rfl) ?_
  refine m_get inX5 hF hC hO rfl rfl 1 (by decide) q_112 (v := .ref (ad 2)) rfl dX5_framesHanging_3 ?_
  refine lv_astore_n (lv' := [(2, .ref (ad 2)), (1, .int 0), (0, .ref (ad 0))]) hx hb dX5_framesHanging_6 rfl hl (by decide) rfl (fun ls hl => ?_)
  refine lv_aload_n hx hb dX5_framesHanging_7 rfl (lv_at hl 0 rfl) ?_
  refine m_alen 3 hF hC hO rfl rfl (v := 12) rfl dX5_framesHanging_8 ?_
  refine lv_istore_n (lv' := [(3, .int 12), (2, .ref (ad 2)), (1, .int 0), (0, .ref (ad 0))]) hx hb dX5_framesHanging_9 rfl hl (by decide) rfl (fun ls hl => ?_)
  refine lv_iconst (v := 0) hx hb dX5_framesHanging_10 (by decide) ?_
  refine lv_istore (lv' := [(4, .int 0), (3, .int 12), (2, .ref (ad 2)), (1, .int 0), (0, .ref (ad 0))]) hx hb dX5_framesHanging_11 hl (by decide) rfl (fun ls hl => ?_)
  have L13 : ∀ (n : Nat) (i : Nat) (acc : Int32) (H : Heap) (locs : List Loc) (ls : Array Slot), 12 - i < n → i ≤ 12 → m_hangL (nf - i) i F acc = m_hangL nf 0 F 0 → lv_has ls 6 [(0, .ref (ad 0)), (2, .ref (ad 2)), (3, .int 12), (4, .int (nI i)), (1, .int acc)] → mO G lo ad (WC G ad g nf F f no O tf tv fw R) H → va_S (mA lo) s.heap H locs → W p l e (mRm 1 20) s m args below meth c H locs 0 0 Q (F0 m 13 ls []) := by
    intro n
    induction n with
    | zero => intro i acc H locs ls hn; exact absurd hn (Nat.not_lt_zero _)
    | succ n ih13 =>
      intro i acc H locs ls hn13 hi hv0 hl hO hS
      refine lv_iload hx hb dX5_framesHanging_13 (lv_at hl 3 rfl) ?_
      refine lv_iload_n hx hb dX5_framesHanging_15 rfl (lv_at hl 2 rfl) ?_
      refine lv_icmp_ge (tgt := 47) hx hb dX5_framesHanging_16 (by decide) (fun c16 => ?_) (fun c16 => ?_)
      · refine lv_iload_n hx hb dX5_framesHanging_47 rfl (lv_at hl 4 rfl) ?_
        refine m_iret hF hr hlk hQ rfl hO hS dX5_framesHanging_48 ?_
        have e9 : i = 12 := Nat.le_antisymm hi (nI_E (a := 12) (b := i) (by decide) (by omega) c16)
        rw [show nf - i = 0 from by omega] at hv0
        exact ⟨hv0, rfl⟩
      · refine lv_aload_n hx hb dX5_framesHanging_19 rfl (lv_at hl 1 rfl) ?_
        refine lv_iload hx hb dX5_framesHanging_20 (lv_at hl 3 rfl) ?_
        rcases Nat.lt_or_ge i nf with hin | hout
        · refine m_aldF hF hC hO rfl (j := i) (nI_clamp (by omega)) (vp_in_nI (nI_nE (a := 12) (b := i) (by decide) (by omega) c16) (by decide)) dX5_framesHanging_22 (v := .ref (ad (100 + i))) (adF_in hin) ?_
          refine lv_astore (lv' := [(5, .ref (ad (100 + i))), (0, .ref (ad 0)), (2, .ref (ad 2)), (3, .int 12), (4, .int (nI i)), (1, .int acc)]) hx hb dX5_framesHanging_23 hl (by decide) rfl (fun ls hl => ?_)
          refine lv_aload hx hb dX5_framesHanging_25 (lv_at hl 0 rfl) ?_
          refine lv_ifnull hx hb dX5_framesHanging_27 ?_
          refine lv_aload hx hb dX5_framesHanging_30 (lv_at hl 0 rfl) ?_
          refine m_vI (As := []) (rest := []) (n := 0) hF hC hO hS (k_X0_hangs l G lo sa ad _ (100 + i) (F i) (WC_F (i := i) (by assumption) hnf)) ok_X0_hangs q_395 (WC_F (i := i) (by assumption) hnf) rfl ⟨Nat.le_of_ble_eq_true rfl, Nat.le_of_ble_eq_true rfl⟩ rfl hl.1 rfl (Nat.le_of_ble_eq_true rfl) ⟨Nat.le_of_ble_eq_true rfl, Nat.le_of_ble_eq_true rfl⟩ dX5_framesHanging_32 (fun v32 R' H locs hp hO hS => ?_)
          obtain ⟨⟨rfl, b32⟩ | ⟨rfl, b32⟩, hR⟩ := hp
          · rw [hR] at hO
            refine lv_if_eq (tgt := 41) hx hb dX5_framesHanging_35 (by decide) (fun c35 => absurd c35 (by decide)) (fun c35 => ?_)
            refine lv_iinc (v := (acc + 1)) (lv' := [(1, .int (acc + 1)), (5, .ref (ad (100 + i))), (0, .ref (ad 0)), (2, .ref (ad 2)), (3, .int 12), (4, .int (nI i))]) hx hb dX5_framesHanging_38 hl (k := 5) rfl rfl (by decide) rfl (fun ls hl => ?_)
            refine lv_iinc (v := (nI (i + 1))) (lv' := [(4, .int (nI (i + 1))), (1, .int (acc + 1)), (5, .ref (ad (100 + i))), (0, .ref (ad 0)), (2, .ref (ad 2)), (3, .int 12)]) hx hb dX5_framesHanging_41 hl (k := 5) rfl (nI_inc i) (by decide) rfl (fun ls hl => ?_)
            refine lv_goto (tgt := 13) hx hb dX5_framesHanging_44 (by decide) ?_
            exact ih13 (i + 1) (acc + 1) _ _ _ (by have := (nI_nE (a := 12) (b := i) (by decide) (by omega) c16); omega) (by have := (nI_nE (a := 12) (b := i) (by decide) (by omega) c16); omega) (by rw [← hv0, show nf - i = (nf - (i + 1)) + 1 from by omega, m_hangL, if_pos b32]) (lv_sub hl [3, 4, 5, 0, 1] rfl) hO hS
          · rw [hR] at hO
            refine lv_if_eq (tgt := 41) hx hb dX5_framesHanging_35 (by decide) (fun c35 => ?_) (fun c35 => absurd (by decide) c35)
            refine lv_iinc (v := (nI (i + 1))) (lv' := [(4, .int (nI (i + 1))), (5, .ref (ad (100 + i))), (0, .ref (ad 0)), (2, .ref (ad 2)), (3, .int 12), (1, .int acc)]) hx hb dX5_framesHanging_41 hl (k := 4) rfl (nI_inc i) (by decide) rfl (fun ls hl => ?_)
            refine lv_goto (tgt := 13) hx hb dX5_framesHanging_44 (by decide) ?_
            exact ih13 (i + 1) acc _ _ _ (by have := (nI_nE (a := 12) (b := i) (by decide) (by omega) c16); omega) (by have := (nI_nE (a := 12) (b := i) (by decide) (by omega) c16); omega) (by rw [← hv0, show nf - i = (nf - (i + 1)) + 1 from by omega, m_hangL, if_neg b32, Int32.add_zero]) (lv_sub hl [2, 3, 4, 0, 5] rfl) hO hS
        · refine m_aldF hF hC hO rfl (j := i) (nI_clamp (by omega)) (vp_in_nI (nI_nE (a := 12) (b := i) (by decide) (by omega) c16) (by decide)) dX5_framesHanging_22 (v := .null) (adF_out hout) ?_
          refine lv_astoreN (lv' := [(5, .null), (0, .ref (ad 0)), (2, .ref (ad 2)), (3, .int 12), (4, .int (nI i)), (1, .int acc)]) hx hb dX5_framesHanging_23 hl (by decide) rfl (fun ls hl => ?_)
          refine lv_aloadN hx hb dX5_framesHanging_25 (lv_at hl 0 rfl) ?_
          refine lv_ifnullN (tgt := 41) hx hb dX5_framesHanging_27 (by decide) ?_
          refine lv_iinc (v := (nI (i + 1))) (lv' := [(4, .int (nI (i + 1))), (5, .null), (0, .ref (ad 0)), (2, .ref (ad 2)), (3, .int 12), (1, .int acc)]) hx hb dX5_framesHanging_41 hl (k := 4) rfl (nI_inc i) (by decide) rfl (fun ls hl => ?_)
          refine lv_goto (tgt := 13) hx hb dX5_framesHanging_44 (by decide) ?_
          exact ih13 (i + 1) acc _ _ _ (by have := (nI_nE (a := 12) (b := i) (by decide) (by omega) c16); omega) (by have := (nI_nE (a := 12) (b := i) (by decide) (by omega) c16); omega) (by rw [← hv0, show nf - (i + 1) = 0 from by omega, show nf - i = 0 from by omega]; rfl) (lv_sub hl [2, 3, 4, 0, 5] rfl) hO hS
  exact L13 _ 0 0 _ _ _ (Nat.lt_succ_self _) (by omega) rfl (lv_sub hl [4, 2, 1, 0, 3] rfl) hO hS
theorem ok_X5_ordersInState : mOK RX5 yX5_ordersInState cX5_ordersInState 7 (some .int) 1 := ⟨q_406, qs_11, q_1, q_407, by decide +kernel⟩
set_option maxHeartbeats 400000 in
set_option maxRecDepth 100000 in
theorem k_X5_ordersInState (l : Launch) (G : mG) (lo : Nat) (sa : mSc) (ad : Nat → Nat) (R : mM) (g : Nat → Int32) (nf : Nat) (F : Nat → Nat → Int32) (f : Nat → Int32) (no : Nat) (O : Nat → Nat → Int32) (tf tv fw : Nat → Int32) (x : Int32) (hnf : nf ≤ 12) (hno : no ≤ 20) : mI l yX5_ordersInState cX5_ordersInState 7 .int 0 0 G lo sa ad (WC G ad g nf F f no O tf tv fw R) [.ref (ad 0), .int x] (fun v R' => v = m_with no O x ∧ R' = (WC G ad g nf F f no O tf tv fw R)) := by
  refine mI_of (by decide) (Nat.le_of_ble_eq_true rfl) ?_
  intro p e s m args below meth c hF hr hlk hC ls hl hO hS Q hQ
  have hx := hF.1
  have hb := hF.2.1
  have hl : lv_has ls 7 [(0, .ref (ad 0)), (1, .int x)] := hl
  refine lv_iconst (v := 0) hx hb dX5_ordersInState_0 (by decide) ?_
  refine lv_istore_n (lv' := [(2, .int 0), (0, .ref (ad 0)), (1, .int x)]) hx hb dX5_ordersInState_1 rfl hl (by decide) rfl (fun ls hl => ?_)
  refine lv_aload_n hx hb dX5_ordersInState_2 rfl (lv_at hl 1 rfl) ?_
  refine m_get inX5 hF hC hO rfl rfl 3 (by decide) q_114 (v := .ref (ad 5)) rfl dX5_ordersInState_3 ?_
  refine lv_astore_n (lv' := [(3, .ref (ad 5)), (2, .int 0), (0, .ref (ad 0)), (1, .int x)]) hx hb dX5_ordersInState_6 rfl hl (by decide) rfl (fun ls hl => ?_)
  refine lv_aload_n hx hb dX5_ordersInState_7 rfl (lv_at hl 0 rfl) ?_
  refine m_alen 4 hF hC hO rfl rfl (v := 20) rfl dX5_ordersInState_8 ?_
  refine lv_istore (lv' := [(4, .int 20), (3, .ref (ad 5)), (2, .int 0), (0, .ref (ad 0)), (1, .int x)]) hx hb dX5_ordersInState_9 hl (by decide) rfl (fun ls hl => ?_)
  refine lv_iconst (v := 0) hx hb dX5_ordersInState_11 (by decide) ?_
  refine lv_istore (lv' := [(5, .int 0), (4, .int 20), (3, .ref (ad 5)), (2, .int 0), (0, .ref (ad 0)), (1, .int x)]) hx hb dX5_ordersInState_12 hl (by decide) rfl (fun ls hl => ?_)
  have L14 : ∀ (n : Nat) (i : Nat) (acc : Int32) (H : Heap) (locs : List Loc) (ls : Array Slot), 20 - i < n → i ≤ 20 → m_withL (no - i) i O x acc = m_with no O x → lv_has ls 7 [(0, .ref (ad 0)), (1, .int x), (3, .ref (ad 5)), (4, .int 20), (5, .int (nI i)), (2, .int acc)] → mO G lo ad (WC G ad g nf F f no O tf tv fw R) H → va_S (mA lo) s.heap H locs → W p l e (mRm 0 0) s m args below meth c H locs 0 0 Q (F0 m 14 ls []) := by
    intro n
    induction n with
    | zero => intro i acc H locs ls hn; exact absurd hn (Nat.not_lt_zero _)
    | succ n ih14 =>
      intro i acc H locs ls hn14 hi hv0 hl hO hS
      refine lv_iload hx hb dX5_ordersInState_14 (lv_at hl 4 rfl) ?_
      refine lv_iload hx hb dX5_ordersInState_16 (lv_at hl 3 rfl) ?_
      refine lv_icmp_ge (tgt := 50) hx hb dX5_ordersInState_18 (by decide) (fun c18 => ?_) (fun c18 => ?_)
      · refine lv_iload_n hx hb dX5_ordersInState_50 rfl (lv_at hl 5 rfl) ?_
        refine m_iret hF hr hlk hQ rfl hO hS dX5_ordersInState_51 ?_
        have e9 : i = 20 := Nat.le_antisymm hi (nI_E (a := 20) (b := i) (by decide) (by omega) c18)
        rw [show no - i = 0 from by omega] at hv0
        exact ⟨hv0, rfl⟩
      · refine lv_aload_n hx hb dX5_ordersInState_21 rfl (lv_at hl 2 rfl) ?_
        refine lv_iload hx hb dX5_ordersInState_22 (lv_at hl 4 rfl) ?_
        rcases Nat.lt_or_ge i no with hin | hout
        · refine m_aldO hF hC hO rfl (j := i) (nI_clamp (by omega)) (vp_in_nI (nI_nE (a := 20) (b := i) (by decide) (by omega) c18) (by decide)) dX5_ordersInState_24 (v := .ref (ad (120 + i))) (adF_in hin) ?_
          refine lv_astore (lv' := [(6, .ref (ad (120 + i))), (0, .ref (ad 0)), (1, .int x), (3, .ref (ad 5)), (4, .int 20), (5, .int (nI i)), (2, .int acc)]) hx hb dX5_ordersInState_25 hl (by decide) rfl (fun ls hl => ?_)
          refine lv_aload hx hb dX5_ordersInState_27 (lv_at hl 0 rfl) ?_
          refine lv_ifnull hx hb dX5_ordersInState_29 ?_
          refine lv_aload hx hb dX5_ordersInState_32 (lv_at hl 0 rfl) ?_
          refine m_get inX1 hF hC hO (WC_O (i := i) (by assumption) hno) rfl 4 (by decide) q_647 (v := .int ((O i) 4)) rfl dX5_ordersInState_34 ?_
          refine lv_iload_n hx hb dX5_ordersInState_37 rfl (lv_at hl 2 rfl) ?_
          refine lv_icmp_ne (tgt := 44) hx hb dX5_ordersInState_38 (by decide) (fun c38 => ?_) (fun c38 => ?_)
          · refine lv_iinc (v := (nI (i + 1))) (lv' := [(5, .int (nI (i + 1))), (6, .ref (ad (120 + i))), (0, .ref (ad 0)), (1, .int x), (3, .ref (ad 5)), (4, .int 20), (2, .int acc)]) hx hb dX5_ordersInState_44 hl (k := 5) rfl (nI_inc i) (by decide) rfl (fun ls hl => ?_)
            refine lv_goto (tgt := 14) hx hb dX5_ordersInState_47 (by decide) ?_
            exact ih14 (i + 1) acc _ _ _ (by have := (nI_nE (a := 20) (b := i) (by decide) (by omega) c18); omega) (by have := (nI_nE (a := 20) (b := i) (by decide) (by omega) c18); omega) (by rw [← hv0, show no - i = (no - (i + 1)) + 1 from by omega, m_withL, if_neg c38, Int32.add_zero]) (lv_sub hl [2, 3, 4, 5, 0, 6] rfl) hO hS
          · refine lv_iinc (v := (acc + 1)) (lv' := [(2, .int (acc + 1)), (6, .ref (ad (120 + i))), (0, .ref (ad 0)), (1, .int x), (3, .ref (ad 5)), (4, .int 20), (5, .int (nI i))]) hx hb dX5_ordersInState_41 hl (k := 6) rfl rfl (by decide) rfl (fun ls hl => ?_)
            refine lv_iinc (v := (nI (i + 1))) (lv' := [(5, .int (nI (i + 1))), (2, .int (acc + 1)), (6, .ref (ad (120 + i))), (0, .ref (ad 0)), (1, .int x), (3, .ref (ad 5)), (4, .int 20)]) hx hb dX5_ordersInState_44 hl (k := 6) rfl (nI_inc i) (by decide) rfl (fun ls hl => ?_)
            refine lv_goto (tgt := 14) hx hb dX5_ordersInState_47 (by decide) ?_
            exact ih14 (i + 1) (acc + 1) _ _ _ (by have := (nI_nE (a := 20) (b := i) (by decide) (by omega) c18); omega) (by have := (nI_nE (a := 20) (b := i) (by decide) (by omega) c18); omega) (by rw [← hv0, show no - i = (no - (i + 1)) + 1 from by omega, m_withL, if_pos c38]) (lv_sub hl [3, 4, 5, 6, 0, 1] rfl) hO hS
        · refine m_aldO hF hC hO rfl (j := i) (nI_clamp (by omega)) (vp_in_nI (nI_nE (a := 20) (b := i) (by decide) (by omega) c18) (by decide)) dX5_ordersInState_24 (v := .null) (adF_out hout) ?_
          refine lv_astoreN (lv' := [(6, .null), (0, .ref (ad 0)), (1, .int x), (3, .ref (ad 5)), (4, .int 20), (5, .int (nI i)), (2, .int acc)]) hx hb dX5_ordersInState_25 hl (by decide) rfl (fun ls hl => ?_)
          refine lv_aloadN hx hb dX5_ordersInState_27 (lv_at hl 0 rfl) ?_
          refine lv_ifnullN (tgt := 44) hx hb dX5_ordersInState_29 (by decide) ?_
          refine lv_iinc (v := (nI (i + 1))) (lv' := [(5, .int (nI (i + 1))), (6, .null), (0, .ref (ad 0)), (1, .int x), (3, .ref (ad 5)), (4, .int 20), (2, .int acc)]) hx hb dX5_ordersInState_44 hl (k := 5) rfl (nI_inc i) (by decide) rfl (fun ls hl => ?_)
          refine lv_goto (tgt := 14) hx hb dX5_ordersInState_47 (by decide) ?_
          exact ih14 (i + 1) acc _ _ _ (by have := (nI_nE (a := 20) (b := i) (by decide) (by omega) c18); omega) (by have := (nI_nE (a := 20) (b := i) (by decide) (by omega) c18); omega) (by rw [← hv0, show no - (i + 1) = 0 from by omega, show no - i = 0 from by omega]; rfl) (lv_sub hl [2, 3, 4, 5, 0, 6] rfl) hO hS
  exact L14 _ 0 0 _ _ _ (Nat.lt_succ_self _) (by omega) rfl (lv_sub hl [4, 5, 2, 1, 0, 3] rfl) hO hS
theorem ok_X5_frameOn : mOK RX5 yX5_frameOn cX5_frameOn 3 (some .int) 1 := ⟨q_351, qs_7, q_1, q_352, by decide +kernel⟩
set_option maxHeartbeats 400000 in
set_option maxRecDepth 100000 in
theorem k_X5_frameOn (l : Launch) (G : mG) (lo : Nat) (sa : mSc) (ad : Nat → Nat) (R : mM) (g : Nat → Int32) (nf : Nat) (F : Nat → Nat → Int32) (f : Nat → Int32) (no : Nat) (O : Nat → Nat → Int32) (tf tv fw : Nat → Int32) (h : Int32) (hnf : nf ≤ 12) (hno : no ≤ 20) : mI l yX5_frameOn cX5_frameOn 3 .int 0 0 G lo sa ad (WC G ad g nf F f no O tf tv fw R) [.ref (ad 0), .int h] (fun v R' => v = m_at nf F h ∧ R' = (WC G ad g nf F f no O tf tv fw R)) := by
  refine mI_of (by decide) (Nat.le_of_ble_eq_true rfl) ?_
  intro p e s m args below meth c hF hr hlk hC ls hl hO hS Q hQ
  have hx := hF.1
  have hb := hF.2.1
  have hl : lv_has ls 3 [(0, .ref (ad 0)), (1, .int h)] := hl
  refine lv_iconst (v := 0) hx hb dX5_frameOn_0 (by decide) ?_
  refine lv_istore_n (lv' := [(2, .int 0), (0, .ref (ad 0)), (1, .int h)]) hx hb dX5_frameOn_1 rfl hl (by decide) rfl (fun ls hl => ?_)
  have L2 : ∀ (n : Nat) (i : Nat) (H : Heap) (locs : List Loc) (ls : Array Slot), 12 - i < n → i ≤ 12 → m_atL (nf - i) i F h = m_at nf F h → lv_has ls 3 [(0, .ref (ad 0)), (1, .int h), (2, .int (nI i))] → mO G lo ad (WC G ad g nf F f no O tf tv fw R) H → va_S (mA lo) s.heap H locs → W p l e (mRm 0 0) s m args below meth c H locs 0 0 Q (F0 m 2 ls []) := by
    intro n
    induction n with
    | zero => intro i H locs ls hn; exact absurd hn (Nat.not_lt_zero _)
    | succ n ih2 =>
      intro i H locs ls hn2 hi hv0 hl hO hS
      refine lv_iload_n hx hb dX5_frameOn_2 rfl (lv_at hl 2 rfl) ?_
      refine lv_aload_n hx hb dX5_frameOn_3 rfl (lv_at hl 0 rfl) ?_
      refine m_get inX5 hF hC hO rfl rfl 1 (by decide) q_112 (v := .ref (ad 2)) rfl dX5_frameOn_4 ?_
      refine m_alen 3 hF hC hO rfl rfl (v := 12) rfl dX5_frameOn_7 ?_
      refine lv_icmp_ge (tgt := 41) hx hb dX5_frameOn_8 (by decide) (fun c8 => ?_) (fun c8 => ?_)
      · refine lv_iconst (v := -1) hx hb dX5_frameOn_41 (by decide) ?_
        refine m_iret hF hr hlk hQ rfl hO hS dX5_frameOn_42 ?_
        have e9 : i = 12 := Nat.le_antisymm hi (nI_E (a := 12) (b := i) (by decide) (by omega) c8)
        rw [show nf - i = 0 from by omega] at hv0
        exact ⟨hv0, rfl⟩
      · refine lv_aload_n hx hb dX5_frameOn_11 rfl (lv_at hl 0 rfl) ?_
        refine m_get inX5 hF hC hO rfl rfl 1 (by decide) q_112 (v := .ref (ad 2)) rfl dX5_frameOn_12 ?_
        refine lv_iload_n hx hb dX5_frameOn_15 rfl (lv_at hl 2 rfl) ?_
        rcases Nat.lt_or_ge i nf with hin | hout
        · refine m_aldF hF hC hO rfl (j := i) (nI_clamp (by omega)) (vp_in_nI (nI_nE (a := 12) (b := i) (by decide) (by omega) c8) (by decide)) dX5_frameOn_16 (v := .ref (ad (100 + i))) (adF_in hin) ?_
          refine lv_ifnull hx hb dX5_frameOn_17 ?_
          refine lv_aload_n hx hb dX5_frameOn_20 rfl (lv_at hl 0 rfl) ?_
          refine m_get inX5 hF hC hO rfl rfl 1 (by decide) q_112 (v := .ref (ad 2)) rfl dX5_frameOn_21 ?_
          refine lv_iload_n hx hb dX5_frameOn_24 rfl (lv_at hl 2 rfl) ?_
          refine m_aldF hF hC hO rfl (j := i) (nI_clamp (by omega)) (vp_in_nI (nI_nE (a := 12) (b := i) (by decide) (by omega) c8) (by decide)) dX5_frameOn_25 (v := .ref (ad (100 + i))) (adF_in (by first | assumption | omega)) ?_
          refine m_get inX0 hF hC hO (WC_F (i := i) (by assumption) hnf) rfl 5 (by decide) q_84 (v := .int ((F i) 5)) rfl dX5_frameOn_26 ?_
          refine lv_iload_n hx hb dX5_frameOn_29 rfl (lv_at hl 1 rfl) ?_
          refine lv_icmp_ne (tgt := 35) hx hb dX5_frameOn_30 (by decide) (fun c30 => ?_) (fun c30 => ?_)
          · refine lv_iinc (v := (nI (i + 1))) (lv' := [(2, .int (nI (i + 1))), (0, .ref (ad 0)), (1, .int h)]) hx hb dX5_frameOn_35 hl (k := 2) rfl (nI_inc i) (by decide) rfl (fun ls hl => ?_)
            refine lv_goto (tgt := 2) hx hb dX5_frameOn_38 (by decide) ?_
            exact ih2 (i + 1) _ _ _ (by have := (nI_nE (a := 12) (b := i) (by decide) (by omega) c8); omega) (by have := (nI_nE (a := 12) (b := i) (by decide) (by omega) c8); omega) (by rw [← hv0, show nf - i = (nf - (i + 1)) + 1 from by omega, m_atL, if_neg c30]) (lv_sub hl [1, 2, 0] rfl) hO hS
          · refine lv_iload_n hx hb dX5_frameOn_33 rfl (lv_at hl 2 rfl) ?_
            refine m_iret hF hr hlk hQ rfl hO hS dX5_frameOn_34 ?_
            rw [show nf - i = (nf - (i + 1)) + 1 from by omega, m_atL, if_pos c30] at hv0
            exact ⟨hv0, rfl⟩
        · refine m_aldF hF hC hO rfl (j := i) (nI_clamp (by omega)) (vp_in_nI (nI_nE (a := 12) (b := i) (by decide) (by omega) c8) (by decide)) dX5_frameOn_16 (v := .null) (adF_out hout) ?_
          refine lv_ifnullN (tgt := 35) hx hb dX5_frameOn_17 (by decide) ?_
          refine lv_iinc (v := (nI (i + 1))) (lv' := [(2, .int (nI (i + 1))), (0, .ref (ad 0)), (1, .int h)]) hx hb dX5_frameOn_35 hl (k := 2) rfl (nI_inc i) (by decide) rfl (fun ls hl => ?_)
          refine lv_goto (tgt := 2) hx hb dX5_frameOn_38 (by decide) ?_
          exact ih2 (i + 1) _ _ _ (by have := (nI_nE (a := 12) (b := i) (by decide) (by omega) c8); omega) (by have := (nI_nE (a := 12) (b := i) (by decide) (by omega) c8); omega) (by rw [← hv0, show nf - (i + 1) = 0 from by omega, show nf - i = 0 from by omega]; rfl) (lv_sub hl [1, 2, 0] rfl) hO hS
  exact L2 _ 0 _ _ _ (Nat.lt_succ_self _) (by omega) rfl (lv_sub hl [1, 2, 0] rfl) hO hS
theorem ok_X5_endDay : mOK RX5 yX5_endDay cX5_endDay 6 none 1 := ⟨q_303, qs_6, q_1, q_304, by decide +kernel⟩
set_option maxHeartbeats 400000 in
set_option maxRecDepth 100000 in
theorem k_X5_endDay (l : Launch) (G : mG) (lo : Nat) (sa : mSc) (ad : Nat → Nat) (R : mM) (g : Nat → Int32) (nf : Nat) (F : Nat → Nat → Int32) (f : Nat → Int32) (no : Nat) (O : Nat → Nat → Int32) (tf tv fw : Nat → Int32) (d : Int32) (hnf : nf ≤ 12) (hno : no ≤ 20) : mV l yX5_endDay cX5_endDay 6 0 0 G lo sa ad (WC G ad g nf F f no O tf tv fw R) [.ref (ad 0), .int d] (fun R' => R' = (WC G ad g nf F f no (c_lateTo no d O) tf tv fw R)) := by
  refine mV_of (by decide) (Nat.le_of_ble_eq_true rfl) ?_
  intro p e s m args below meth c hF hr hlk hC ls hl hO hS Q hQ
  have hx := hF.1
  have hb := hF.2.1
  have hl : lv_has ls 6 [(0, .ref (ad 0)), (1, .int d)] := hl
  refine lv_aload_n hx hb dX5_endDay_0 rfl (lv_at hl 0 rfl) ?_
  refine m_get inX5 hF hC hO rfl rfl 3 (by decide) q_114 (v := .ref (ad 5)) rfl dX5_endDay_1 ?_
  refine lv_astore_n (lv' := [(2, .ref (ad 5)), (0, .ref (ad 0)), (1, .int d)]) hx hb dX5_endDay_4 rfl hl (by decide) rfl (fun ls hl => ?_)
  refine lv_aload_n hx hb dX5_endDay_5 rfl (lv_at hl 0 rfl) ?_
  refine m_alen 4 hF hC hO rfl rfl (v := 20) rfl dX5_endDay_6 ?_
  refine lv_istore_n (lv' := [(3, .int 20), (2, .ref (ad 5)), (0, .ref (ad 0)), (1, .int d)]) hx hb dX5_endDay_7 rfl hl (by decide) rfl (fun ls hl => ?_)
  refine lv_iconst (v := 0) hx hb dX5_endDay_8 (by decide) ?_
  refine lv_istore (lv' := [(4, .int 0), (3, .int 20), (2, .ref (ad 5)), (0, .ref (ad 0)), (1, .int d)]) hx hb dX5_endDay_9 hl (by decide) rfl (fun ls hl => ?_)
  have L11 : ∀ (n : Nat) (i : Nat) (H : Heap) (locs : List Loc) (ls : Array Slot), 20 - i < n → i ≤ 20 → lv_has ls 6 [(0, .ref (ad 0)), (1, .int d), (2, .ref (ad 5)), (3, .int 20), (4, .int (nI i))] → mO G lo ad (WC G ad g nf F f no (c_lateTo (min i no) d O) tf tv fw R) H → va_S (mA lo) s.heap H locs → W p l e (mRm 0 0) s m args below meth c H locs 0 0 Q (F0 m 11 ls []) := by
    intro n
    induction n with
    | zero => intro i H locs ls hn; exact absurd hn (Nat.not_lt_zero _)
    | succ n ih11 =>
      intro i H locs ls hn11 hi hl hO hS
      refine lv_iload hx hb dX5_endDay_11 (lv_at hl 4 rfl) ?_
      refine lv_iload_n hx hb dX5_endDay_13 rfl (lv_at hl 3 rfl) ?_
      refine lv_icmp_ge (tgt := 57) hx hb dX5_endDay_14 (by decide) (fun c14 => ?_) (fun c14 => ?_)
      · refine m_vret hF hr hlk hQ hO hS dX5_endDay_57 ?_
        have e9 : i = 20 := Nat.le_antisymm hi (nI_E (a := 20) (b := i) (by decide) (by omega) c14)
        rw [e9, Nat.min_eq_right (by omega)]
      · refine lv_aload_n hx hb dX5_endDay_17 rfl (lv_at hl 2 rfl) ?_
        refine lv_iload hx hb dX5_endDay_18 (lv_at hl 4 rfl) ?_
        rcases Nat.lt_or_ge i no with hin | hout
        · refine m_aldO hF hC hO rfl (j := i) (nI_clamp (by omega)) (vp_in_nI (nI_nE (a := 20) (b := i) (by decide) (by omega) c14) (by decide)) dX5_endDay_20 (v := .ref (ad (120 + i))) (adF_in hin) ?_
          refine lv_astore (lv' := [(5, .ref (ad (120 + i))), (0, .ref (ad 0)), (1, .int d), (2, .ref (ad 5)), (3, .int 20), (4, .int (nI i))]) hx hb dX5_endDay_21 hl (by decide) rfl (fun ls hl => ?_)
          refine lv_aload hx hb dX5_endDay_23 (lv_at hl 0 rfl) ?_
          refine lv_ifnull hx hb dX5_endDay_25 ?_
          refine lv_aload hx hb dX5_endDay_28 (lv_at hl 0 rfl) ?_
          refine m_get inX1 hF hC hO (WC_O (i := i) (by assumption) hno) rfl 4 (by decide) q_647 (v := .int (((c_lateTo (min i no) d O) i) 4)) rfl dX5_endDay_30 ?_
          refine lv_if_ne (tgt := 51) hx hb dX5_endDay_33 (by decide) (fun c33 => ?_) (fun c33 => ?_)
          · refine lv_iinc (v := (nI (i + 1))) (lv' := [(4, .int (nI (i + 1))), (5, .ref (ad (120 + i))), (0, .ref (ad 0)), (1, .int d), (2, .ref (ad 5)), (3, .int 20)]) hx hb dX5_endDay_51 hl (k := 5) rfl (nI_inc i) (by decide) rfl (fun ls hl => ?_)
            refine lv_goto (tgt := 11) hx hb dX5_endDay_54 (by decide) ?_
            rw [Nat.min_eq_left (show i ≤ no by omega)] at c33 hO
            rw [c_lateTo_b (fun h => absurd (by rw [c_lateTo_at]; exact h.1) c33), show c_lateTo (i + 1) d O = c_lateTo (min (i + 1) no) d O from by rw [Nat.min_eq_left (by omega)]] at hO
            exact ih11 (i + 1) _ _ _ (by have := (nI_nE (a := 20) (b := i) (by decide) (by omega) c14); omega) (by have := (nI_nE (a := 20) (b := i) (by decide) (by omega) c14); omega) (lv_sub hl [2, 3, 4, 5, 0] rfl) hO hS
          · refine lv_aload hx hb dX5_endDay_36 (lv_at hl 0 rfl) ?_
            refine m_get inX1 hF hC hO (WC_O (i := i) (by assumption) hno) rfl 3 (by decide) q_645 (v := .int (((c_lateTo (min i no) d O) i) 3)) rfl dX5_endDay_38 ?_
            refine lv_iload_n hx hb dX5_endDay_41 rfl (lv_at hl 2 rfl) ?_
            refine lv_icmp_gt (tgt := 51) hx hb dX5_endDay_42 (by decide) (fun c42 => ?_) (fun c42 => ?_)
            · refine lv_iinc (v := (nI (i + 1))) (lv' := [(4, .int (nI (i + 1))), (5, .ref (ad (120 + i))), (0, .ref (ad 0)), (1, .int d), (2, .ref (ad 5)), (3, .int 20)]) hx hb dX5_endDay_51 hl (k := 5) rfl (nI_inc i) (by decide) rfl (fun ls hl => ?_)
              refine lv_goto (tgt := 11) hx hb dX5_endDay_54 (by decide) ?_
              rw [Nat.min_eq_left (show i ≤ no by omega)] at c42 hO
              rw [c_lateTo_b (fun h => absurd (by rw [c_lateTo_at]; exact h.2) (Int32.not_le.mpr c42)), show c_lateTo (i + 1) d O = c_lateTo (min (i + 1) no) d O from by rw [Nat.min_eq_left (by omega)]] at hO
              exact ih11 (i + 1) _ _ _ (by have := (nI_nE (a := 20) (b := i) (by decide) (by omega) c14); omega) (by have := (nI_nE (a := 20) (b := i) (by decide) (by omega) c14); omega) (lv_sub hl [2, 3, 4, 5, 0] rfl) hO hS
            · refine lv_aload hx hb dX5_endDay_45 (lv_at hl 0 rfl) ?_
              refine lv_iconst (v := 2) hx hb dX5_endDay_47 (by decide) ?_
              refine m_put (ty := .int) tyX1 tyX1_ok nmX1 inX1 hF hC hO hS (WC_O (i := i) (by assumption) hno) rfl 4 (by decide) q_647 rfl (by decide +kernel) rfl rfl (fs' := [.int (((c_lateTo (min i no) d O) i) 0), .int (((c_lateTo (min i no) d O) i) 1), .int (((c_lateTo (min i no) d O) i) 2), .int (((c_lateTo (min i no) d O) i) 3), .int 2]) (Nat.le_of_ble_eq_true rfl) rfl dX5_endDay_48 (fun H locs hO hS => ?_)
              have hO : mO G lo ad (mU (WC G ad g nf F f no (c_lateTo (min i no) d O) tf tv fw R) (120 + i) (orO (upd ((c_lateTo (min i no) d O) i) 4 2))) H := hO
              rw [WC_wO (by assumption) hno] at hO
              refine lv_iinc (v := (nI (i + 1))) (lv' := [(4, .int (nI (i + 1))), (5, .ref (ad (120 + i))), (0, .ref (ad 0)), (1, .int d), (2, .ref (ad 5)), (3, .int 20)]) hx hb dX5_endDay_51 hl (k := 5) rfl (nI_inc i) (by decide) rfl (fun ls hl => ?_)
              refine lv_goto (tgt := 11) hx hb dX5_endDay_54 (by decide) ?_
              rw [Nat.min_eq_left (show i ≤ no by omega)] at c33 c42 hO
              rw [c_lateTo_s (by rw [← c_lateTo_at (n := i) (q := d) (O := O)]; exact ⟨c33, Int32.not_lt.mp c42⟩), show c_lateTo (i + 1) d O = c_lateTo (min (i + 1) no) d O from by rw [Nat.min_eq_left (by omega)]] at hO
              exact ih11 (i + 1) _ _ _ (by have := (nI_nE (a := 20) (b := i) (by decide) (by omega) c14); omega) (by have := (nI_nE (a := 20) (b := i) (by decide) (by omega) c14); omega) (lv_sub hl [2, 3, 4, 5, 0] rfl) hO hS
        · refine m_aldO hF hC hO rfl (j := i) (nI_clamp (by omega)) (vp_in_nI (nI_nE (a := 20) (b := i) (by decide) (by omega) c14) (by decide)) dX5_endDay_20 (v := .null) (adF_out hout) ?_
          refine lv_astoreN (lv' := [(5, .null), (0, .ref (ad 0)), (1, .int d), (2, .ref (ad 5)), (3, .int 20), (4, .int (nI i))]) hx hb dX5_endDay_21 hl (by decide) rfl (fun ls hl => ?_)
          refine lv_aloadN hx hb dX5_endDay_23 (lv_at hl 0 rfl) ?_
          refine lv_ifnullN (tgt := 51) hx hb dX5_endDay_25 (by decide) ?_
          refine lv_iinc (v := (nI (i + 1))) (lv' := [(4, .int (nI (i + 1))), (5, .null), (0, .ref (ad 0)), (1, .int d), (2, .ref (ad 5)), (3, .int 20)]) hx hb dX5_endDay_51 hl (k := 5) rfl (nI_inc i) (by decide) rfl (fun ls hl => ?_)
          refine lv_goto (tgt := 11) hx hb dX5_endDay_54 (by decide) ?_
          rw [show c_lateTo (min i no) d O = c_lateTo (min (i + 1) no) d O from by rw [Nat.min_eq_right (by omega), Nat.min_eq_right (by omega)]] at hO
          exact ih11 (i + 1) _ _ _ (by have := (nI_nE (a := 20) (b := i) (by decide) (by omega) c14); omega) (by have := (nI_nE (a := 20) (b := i) (by decide) (by omega) c14); omega) (lv_sub hl [2, 3, 4, 5, 0] rfl) hO hS
  rw [show O = c_lateTo (min 0 no) d O from by rw [Nat.zero_min]; exact c_lateTo_0.symm] at hO
  exact L11 _ 0 _ _ _ (Nat.lt_succ_self _) (by omega) (lv_sub hl [3, 4, 2, 1, 0] rfl) hO hS
theorem ok_X5_letQuarterGo : mOK RX5 yX5_letQuarterGo cX5_letQuarterGo 6 none 1 := ⟨q_285, qs_4, q_1, q_286, by decide +kernel⟩
set_option maxHeartbeats 400000 in
set_option maxRecDepth 100000 in
theorem k_X5_letQuarterGo (l : Launch) (G : mG) (lo : Nat) (sa : mSc) (ad : Nat → Nat) (R : mM) (g : Nat → Int32) (nf : Nat) (F : Nat → Nat → Int32) (f : Nat → Int32) (no : Nat) (O : Nat → Nat → Int32) (tf tv fw : Nat → Int32) (b qn : Nat) (hnf : nf ≤ 12) (hno : no ≤ 20) (hb9 : b < nf) (hq : g 3 = nI qn) (hqn : qn < 1000000) : mV l yX5_letQuarterGo cX5_letQuarterGo 6 3 60 G lo sa ad (WC G ad g nf F f no O tf tv fw R) [.ref (ad 0), .ref (ad (100 + b))] (fun R' => R' = (WC G ad (m_qG g) nf (m_coolTo nf b F) f no (m_qO no g O) tf tv fw R)) := by
  refine mV_of (by decide) (Nat.le_of_ble_eq_true rfl) ?_
  intro p e s m args below meth c hF hr hlk hC ls hl hO hS Q hQ
  have hx := hF.1
  have hb := hF.2.1
  have hl : lv_has ls 6 [(0, .ref (ad 0)), (1, .ref (ad (100 + b)))] := hl
  refine lv_aload_n hx hb dX5_letQuarterGo_0 rfl (lv_at hl 0 rfl) ?_
  refine m_get inX5 hF hC hO rfl rfl 0 (by decide) q_111 (v := .ref (ad 1)) rfl dX5_letQuarterGo_1 ?_
  refine m_vV (As := []) (rest := []) (n := 0) hF hC hO hS (k_X4_burn l G lo sa ad _ 1 g rfl) ok_X4_burn q_287 rfl rfl ⟨Nat.le_of_ble_eq_true rfl, Nat.le_of_ble_eq_true rfl⟩ rfl hl.1 rfl (Nat.le_of_ble_eq_true rfl) ⟨Nat.le_of_ble_eq_true rfl, Nat.le_of_ble_eq_true rfl⟩ dX5_letQuarterGo_4 (fun R' H locs hp hO hS => ?_)
  have hR := hp
  rw [hR] at hO
  have hO : mO G lo ad (mU (WC G ad g nf F f no O tf tv fw R) 1 (vO (p_burnV g))) H := hO
  rw [WC_w1 (by first | rfl | (unfold p_throwV; split <;> rfl) | (unfold p_dipV; split <;> rfl)) (by first | rfl | (unfold p_throwV; split <;> rfl) | (unfold p_dipV; split <;> rfl)) (by first | rfl | (unfold p_throwV; split <;> rfl) | (unfold p_dipV; split <;> rfl))] at hO
  refine lv_aload_n hx hb dX5_letQuarterGo_7 rfl (lv_at hl 0 rfl) ?_
  refine m_get inX5 hF hC hO rfl rfl 1 (by decide) q_112 (v := .ref (ad 2)) rfl dX5_letQuarterGo_8 ?_
  refine lv_astore_n (lv' := [(2, .ref (ad 2)), (0, .ref (ad 0)), (1, .ref (ad (100 + b)))]) hx hb dX5_letQuarterGo_11 rfl hl (by decide) rfl (fun ls hl => ?_)
  refine lv_aload_n hx hb dX5_letQuarterGo_12 rfl (lv_at hl 0 rfl) ?_
  refine m_alen 3 hF hC hO rfl rfl (v := 12) rfl dX5_letQuarterGo_13 ?_
  refine lv_istore_n (lv' := [(3, .int 12), (2, .ref (ad 2)), (0, .ref (ad 0)), (1, .ref (ad (100 + b)))]) hx hb dX5_letQuarterGo_14 rfl hl (by decide) rfl (fun ls hl => ?_)
  refine lv_iconst (v := 0) hx hb dX5_letQuarterGo_15 (by decide) ?_
  refine lv_istore (lv' := [(4, .int 0), (3, .int 12), (2, .ref (ad 2)), (0, .ref (ad 0)), (1, .ref (ad (100 + b)))]) hx hb dX5_letQuarterGo_16 hl (by decide) rfl (fun ls hl => ?_)
  have L18 : ∀ (n : Nat) (i : Nat) (H : Heap) (locs : List Loc) (ls : Array Slot), 12 - i < n → i ≤ 12 → lv_has ls 6 [(0, .ref (ad 0)), (1, .ref (ad (100 + b))), (2, .ref (ad 2)), (3, .int 12), (4, .int (nI i))] → mO G lo ad (WC G ad (p_burnV g) nf (m_coolTo (min i nf) b F) f no O tf tv fw R) H → va_S (mA lo) s.heap H locs → W p l e (mRm 3 60) s m args below meth c H locs 0 0 Q (F0 m 18 ls []) := by
    intro n
    induction n with
    | zero => intro i H locs ls hn; exact absurd hn (Nat.not_lt_zero _)
    | succ n ih18 =>
      intro i H locs ls hn18 hi hl hO hS
      refine lv_iload hx hb dX5_letQuarterGo_18 (lv_at hl 4 rfl) ?_
      refine lv_iload_n hx hb dX5_letQuarterGo_20 rfl (lv_at hl 3 rfl) ?_
      refine lv_icmp_ge (tgt := 52) hx hb dX5_letQuarterGo_21 (by decide) (fun c21 => ?_) (fun c21 => ?_)
      · have e9 : i = 12 := Nat.le_antisymm hi (nI_E (a := 12) (b := i) (by decide) (by omega) c21)
        rw [show min i nf = nf from by omega] at hO
        refine lv_aload_n hx hb dX5_letQuarterGo_52 rfl (lv_at hl 0 rfl) ?_
        refine lv_dup hx hb dX5_letQuarterGo_53 rfl ?_
        refine m_get inX5 hF hC hO rfl rfl 6 (by decide) q_117 (v := .int (g 3)) rfl dX5_letQuarterGo_54 ?_
        refine lv_iconst (v := 1) hx hb dX5_letQuarterGo_57 (by decide) ?_
        refine lv_iadd hx hb dX5_letQuarterGo_58 ?_
        refine m_put (ty := .int) tyX5 tyX5_ok nmX5 inX5 hF hC hO hS rfl rfl 6 (by decide) q_117 rfl (by decide +kernel) rfl rfl (fs' := [.ref (ad 1), .ref (ad 2), .ref (ad 3), .ref (ad 5), .ref (ad 6), .ref (ad 9), .int ((g 3) + 1), .int (g 4), .int (g 5)]) (Nat.le_of_ble_eq_true rfl) rfl dX5_letQuarterGo_59 (fun H locs hO hS => ?_)
        have hO : mO G lo ad (mU (WC G ad (p_burnV g) nf (m_coolTo nf b F) f no O tf tv fw R) 0 (xO ad (upd (p_burnV g) 3 ((g 3) + 1)))) H := hO
        rw [WC_w0 (by rfl) (by rfl) (by rfl)] at hO
        refine lv_aload_n hx hb dX5_letQuarterGo_62 rfl (lv_at hl 0 rfl) ?_
        refine m_get inX5 hF hC hO rfl rfl 6 (by decide) q_117 (v := .int ((g 3) + 1)) rfl dX5_letQuarterGo_63 ?_
        refine lv_bipush (v := 40) hx hb dX5_letQuarterGo_66 (by decide) ?_
        refine lv_irem hx hb dX5_letQuarterGo_68 (by decide) ?_
        refine lv_if_ne (tgt := 85) hx hb dX5_letQuarterGo_69 (by decide) (fun c69 => ?_) (fun c69 => ?_)
        · refine m_vret hF hr hlk hQ hO hS dX5_letQuarterGo_85 ?_
          rw [m_qO, if_neg (show ¬ (g 3 + 1) - (g 3 + 1) / 40 * 40 = 0 from c69)]
          rfl
        · refine lv_aload_n hx hb dX5_letQuarterGo_72 rfl (lv_at hl 0 rfl) ?_
          refine lv_aload_n hx hb dX5_letQuarterGo_73 rfl (lv_at hl 0 rfl) ?_
          refine m_get inX5 hF hC hO rfl rfl 6 (by decide) q_117 (v := .int ((g 3) + 1)) rfl dX5_letQuarterGo_74 ?_
          refine lv_bipush (v := 40) hx hb dX5_letQuarterGo_77 (by decide) ?_
          refine lv_idiv hx hb dX5_letQuarterGo_79 (by decide) ?_
          refine lv_iconst (v := 1) hx hb dX5_letQuarterGo_80 (by decide) ?_
          refine lv_isub hx hb dX5_letQuarterGo_81 ?_
          refine m_vV (As := [.int ((((g 3) + 1) / 40) - 1)]) (rest := []) (n := 1) hF hC hO hS (k_X5_endDay l G lo sa ad R (upd (p_burnV g) 3 ((g 3) + 1)) nf (m_coolTo nf b F) f no O tf tv fw ((((g 3) + 1) / 40) - 1) hnf hno) ok_X5_endDay q_301 rfl rfl ⟨Nat.le_of_ble_eq_true rfl, Nat.le_of_ble_eq_true rfl⟩ rfl hl.1 rfl (Nat.le_of_ble_eq_true rfl) ⟨Nat.le_of_ble_eq_true rfl, Nat.le_of_ble_eq_true rfl⟩ dX5_letQuarterGo_82 (fun R' H locs hp hO hS => ?_)
          have hR := hp
          rw [hR] at hO
          refine m_vret hF hr hlk hQ hO hS dX5_letQuarterGo_85 ?_
          have hx40 : (g 3 + 1) / 40 = nI ((qn + 1) / 40) := by rw [hq, nI_1]; exact pk_div (by omega) (by decide) (by decide)
          have hr40 : nI ((qn + 1) % 40) = nI 0 := by
            have h9 := pk_rem (a := qn + 1) (d := 40) (by omega) (by decide) (by decide)
            rw [← h9, ← nI_1, ← hq]
            exact c69
          have hr0 := (nI_eq (by omega) (by decide)).mp hr40
          obtain ⟨m9, hm9⟩ : ∃ m9, (qn + 1) / 40 = m9 + 1 := ⟨(qn + 1) / 40 - 1, by omega⟩
          rw [m_qO, if_pos (show (g 3 + 1) - (g 3 + 1) / 40 * 40 = 0 from c69), hx40, hm9, ← late_eq (by omega), ← hm9, ← hx40]
          rfl
      · refine lv_aload_n hx hb dX5_letQuarterGo_24 rfl (lv_at hl 2 rfl) ?_
        refine lv_iload hx hb dX5_letQuarterGo_25 (lv_at hl 4 rfl) ?_
        rcases Nat.lt_or_ge i nf with hin | hout
        · refine m_aldF hF hC hO rfl (j := i) (nI_clamp (by omega)) (vp_in_nI (nI_nE (a := 12) (b := i) (by decide) (by omega) c21) (by decide)) dX5_letQuarterGo_27 (v := .ref (ad (100 + i))) (adF_in hin) ?_
          refine lv_astore (lv' := [(5, .ref (ad (100 + i))), (0, .ref (ad 0)), (1, .ref (ad (100 + b))), (2, .ref (ad 2)), (3, .int 12), (4, .int (nI i))]) hx hb dX5_letQuarterGo_28 hl (by decide) rfl (fun ls hl => ?_)
          refine lv_aload hx hb dX5_letQuarterGo_30 (lv_at hl 0 rfl) ?_
          refine lv_ifnull hx hb dX5_letQuarterGo_32 ?_
          refine lv_aload hx hb dX5_letQuarterGo_35 (lv_at hl 0 rfl) ?_
          refine lv_aload_n hx hb dX5_letQuarterGo_37 rfl (lv_at hl 2 rfl) ?_
          refine lv_acmp_eq (rx := (some (ad (100 + i)))) (ry := (some (ad (100 + b)))) (tgt := 46) hx hb dX5_letQuarterGo_38 (by decide) (fun c38 => ?_) (fun c38 => ?_)
          · refine lv_iinc (v := (nI (i + 1))) (lv' := [(4, .int (nI (i + 1))), (5, .ref (ad (100 + i))), (0, .ref (ad 0)), (1, .ref (ad (100 + b))), (2, .ref (ad 2)), (3, .int 12)]) hx hb dX5_letQuarterGo_46 hl (k := 5) rfl (nI_inc i) (by decide) rfl (fun ls hl => ?_)
            refine lv_goto (tgt := 18) hx hb dX5_letQuarterGo_49 (by decide) ?_
            have eib : i = b := by have := (hO.inj (WC_F (i := i) (by assumption) hnf) (WC_F (i := b) hb9 hnf)).mp c38; omega
            rw [Nat.min_eq_left (show i ≤ nf by omega), m_coolTo_b eib, show m_coolTo (i + 1) b F = m_coolTo (min (i + 1) nf) b F from by rw [Nat.min_eq_left (by omega)]] at hO
            exact ih18 (i + 1) _ _ _ (by have := (nI_nE (a := 12) (b := i) (by decide) (by omega) c21); omega) (by have := (nI_nE (a := 12) (b := i) (by decide) (by omega) c21); omega) (lv_sub hl [2, 3, 4, 5, 0] rfl) hO hS
          · refine lv_aload hx hb dX5_letQuarterGo_41 (lv_at hl 0 rfl) ?_
            refine m_vV (As := []) (rest := []) (n := 0) hF hC hO hS (k_X0_cool l G lo sa ad _ (100 + i) ((m_coolTo (min i nf) b F) i) (WC_F (i := i) (by assumption) hnf)) ok_X0_cool q_293 (WC_F (i := i) (by assumption) hnf) rfl ⟨Nat.le_of_ble_eq_true rfl, Nat.le_of_ble_eq_true rfl⟩ rfl hl.1 rfl (Nat.le_of_ble_eq_true rfl) ⟨Nat.le_of_ble_eq_true rfl, Nat.le_of_ble_eq_true rfl⟩ dX5_letQuarterGo_43 (fun R' H locs hp hO hS => ?_)
            have hR := hp
            rw [hR] at hO
            have hO : mO G lo ad (mU (WC G ad (p_burnV g) nf (m_coolTo (min i nf) b F) f no O tf tv fw R) (100 + i) (frO (p_coolF ((m_coolTo (min i nf) b F) i)))) H := hO
            rw [WC_wF (by assumption) hnf] at hO
            refine lv_iinc (v := (nI (i + 1))) (lv' := [(4, .int (nI (i + 1))), (5, .ref (ad (100 + i))), (0, .ref (ad 0)), (1, .ref (ad (100 + b))), (2, .ref (ad 2)), (3, .int 12)]) hx hb dX5_letQuarterGo_46 hl (k := 5) rfl (nI_inc i) (by decide) rfl (fun ls hl => ?_)
            refine lv_goto (tgt := 18) hx hb dX5_letQuarterGo_49 (by decide) ?_
            rw [Nat.min_eq_left (show i ≤ nf by omega), m_coolTo_s (fun h => c38 (by rw [h])), show m_coolTo (i + 1) b F = m_coolTo (min (i + 1) nf) b F from by rw [Nat.min_eq_left (by omega)]] at hO
            exact ih18 (i + 1) _ _ _ (by have := (nI_nE (a := 12) (b := i) (by decide) (by omega) c21); omega) (by have := (nI_nE (a := 12) (b := i) (by decide) (by omega) c21); omega) (lv_sub hl [2, 3, 4, 5, 0] rfl) hO hS
        · refine m_aldF hF hC hO rfl (j := i) (nI_clamp (by omega)) (vp_in_nI (nI_nE (a := 12) (b := i) (by decide) (by omega) c21) (by decide)) dX5_letQuarterGo_27 (v := .null) (adF_out hout) ?_
          refine lv_astoreN (lv' := [(5, .null), (0, .ref (ad 0)), (1, .ref (ad (100 + b))), (2, .ref (ad 2)), (3, .int 12), (4, .int (nI i))]) hx hb dX5_letQuarterGo_28 hl (by decide) rfl (fun ls hl => ?_)
          refine lv_aloadN hx hb dX5_letQuarterGo_30 (lv_at hl 0 rfl) ?_
          refine lv_ifnullN (tgt := 46) hx hb dX5_letQuarterGo_32 (by decide) ?_
          refine lv_iinc (v := (nI (i + 1))) (lv' := [(4, .int (nI (i + 1))), (5, .null), (0, .ref (ad 0)), (1, .ref (ad (100 + b))), (2, .ref (ad 2)), (3, .int 12)]) hx hb dX5_letQuarterGo_46 hl (k := 5) rfl (nI_inc i) (by decide) rfl (fun ls hl => ?_)
          refine lv_goto (tgt := 18) hx hb dX5_letQuarterGo_49 (by decide) ?_
          rw [cool_min (by omega)] at hO
          exact ih18 (i + 1) _ _ _ (by have := (nI_nE (a := 12) (b := i) (by decide) (by omega) c21); omega) (by have := (nI_nE (a := 12) (b := i) (by decide) (by omega) c21); omega) (lv_sub hl [2, 3, 4, 5, 0] rfl) hO hS
  rw [show F = m_coolTo (min 0 nf) b F from by rw [Nat.zero_min]; exact m_coolTo_0.symm] at hO
  exact L18 _ 0 _ _ _ (Nat.lt_succ_self _) (by omega) (lv_sub hl [3, 4, 2, 1, 0] rfl) hO hS
-- 
set_option maxHeartbeats 400000 in
set_option maxRecDepth 100000 in
theorem k_X5_letQuarterGo0 (l : Launch) (G : mG) (lo : Nat) (sa : mSc) (ad : Nat → Nat) (R : mM) (g : Nat → Int32) (nf : Nat) (F : Nat → Nat → Int32) (f : Nat → Int32) (no : Nat) (O : Nat → Nat → Int32) (tf tv fw : Nat → Int32) (b qn : Nat) (hnf : nf ≤ 12) (hno : no ≤ 20) (hb9 : nf ≤ b) (hq : g 3 = nI qn) (hqn : qn < 1000000) : mV l yX5_letQuarterGo cX5_letQuarterGo 6 3 60 G lo sa ad (WC G ad g nf F f no O tf tv fw R) [.ref (ad 0), .null] (fun R' => R' = (WC G ad (m_qG g) nf (m_coolTo nf b F) f no (m_qO no g O) tf tv fw R)) := by
  refine mV_of (by decide) (Nat.le_of_ble_eq_true rfl) ?_
  intro p e s m args below meth c hF hr hlk hC ls hl hO hS Q hQ
  have hx := hF.1
  have hb := hF.2.1
  have hl : lv_has ls 6 [(0, .ref (ad 0)), (1, .null)] := hl
  refine lv_aload_n hx hb dX5_letQuarterGo_0 rfl (lv_at hl 0 rfl) ?_
  refine m_get inX5 hF hC hO rfl rfl 0 (by decide) q_111 (v := .ref (ad 1)) rfl dX5_letQuarterGo_1 ?_
  refine m_vV (As := []) (rest := []) (n := 0) hF hC hO hS (k_X4_burn l G lo sa ad _ 1 g rfl) ok_X4_burn q_287 rfl rfl ⟨Nat.le_of_ble_eq_true rfl, Nat.le_of_ble_eq_true rfl⟩ rfl hl.1 rfl (Nat.le_of_ble_eq_true rfl) ⟨Nat.le_of_ble_eq_true rfl, Nat.le_of_ble_eq_true rfl⟩ dX5_letQuarterGo_4 (fun R' H locs hp hO hS => ?_)
  have hR := hp
  rw [hR] at hO
  have hO : mO G lo ad (mU (WC G ad g nf F f no O tf tv fw R) 1 (vO (p_burnV g))) H := hO
  rw [WC_w1 (by first | rfl | (unfold p_throwV; split <;> rfl) | (unfold p_dipV; split <;> rfl)) (by first | rfl | (unfold p_throwV; split <;> rfl) | (unfold p_dipV; split <;> rfl)) (by first | rfl | (unfold p_throwV; split <;> rfl) | (unfold p_dipV; split <;> rfl))] at hO
  refine lv_aload_n hx hb dX5_letQuarterGo_7 rfl (lv_at hl 0 rfl) ?_
  refine m_get inX5 hF hC hO rfl rfl 1 (by decide) q_112 (v := .ref (ad 2)) rfl dX5_letQuarterGo_8 ?_
  refine lv_astore_n (lv' := [(2, .ref (ad 2)), (0, .ref (ad 0)), (1, .null)]) hx hb dX5_letQuarterGo_11 rfl hl (by decide) rfl (fun ls hl => ?_)
  refine lv_aload_n hx hb dX5_letQuarterGo_12 rfl (lv_at hl 0 rfl) ?_
  refine m_alen 3 hF hC hO rfl rfl (v := 12) rfl dX5_letQuarterGo_13 ?_
  refine lv_istore_n (lv' := [(3, .int 12), (2, .ref (ad 2)), (0, .ref (ad 0)), (1, .null)]) hx hb dX5_letQuarterGo_14 rfl hl (by decide) rfl (fun ls hl => ?_)
  refine lv_iconst (v := 0) hx hb dX5_letQuarterGo_15 (by decide) ?_
  refine lv_istore (lv' := [(4, .int 0), (3, .int 12), (2, .ref (ad 2)), (0, .ref (ad 0)), (1, .null)]) hx hb dX5_letQuarterGo_16 hl (by decide) rfl (fun ls hl => ?_)
  have L18 : ∀ (n : Nat) (i : Nat) (H : Heap) (locs : List Loc) (ls : Array Slot), 12 - i < n → i ≤ 12 → lv_has ls 6 [(0, .ref (ad 0)), (1, .null), (2, .ref (ad 2)), (3, .int 12), (4, .int (nI i))] → mO G lo ad (WC G ad (p_burnV g) nf (m_coolTo (min i nf) b F) f no O tf tv fw R) H → va_S (mA lo) s.heap H locs → W p l e (mRm 3 60) s m args below meth c H locs 0 0 Q (F0 m 18 ls []) := by
    intro n
    induction n with
    | zero => intro i H locs ls hn; exact absurd hn (Nat.not_lt_zero _)
    | succ n ih18 =>
      intro i H locs ls hn18 hi hl hO hS
      refine lv_iload hx hb dX5_letQuarterGo_18 (lv_at hl 4 rfl) ?_
      refine lv_iload_n hx hb dX5_letQuarterGo_20 rfl (lv_at hl 3 rfl) ?_
      refine lv_icmp_ge (tgt := 52) hx hb dX5_letQuarterGo_21 (by decide) (fun c21 => ?_) (fun c21 => ?_)
      · have e9 : i = 12 := Nat.le_antisymm hi (nI_E (a := 12) (b := i) (by decide) (by omega) c21)
        rw [show min i nf = nf from by omega] at hO
        refine lv_aload_n hx hb dX5_letQuarterGo_52 rfl (lv_at hl 0 rfl) ?_
        refine lv_dup hx hb dX5_letQuarterGo_53 rfl ?_
        refine m_get inX5 hF hC hO rfl rfl 6 (by decide) q_117 (v := .int (g 3)) rfl dX5_letQuarterGo_54 ?_
        refine lv_iconst (v := 1) hx hb dX5_letQuarterGo_57 (by decide) ?_
        refine lv_iadd hx hb dX5_letQuarterGo_58 ?_
        refine m_put (ty := .int) tyX5 tyX5_ok nmX5 inX5 hF hC hO hS rfl rfl 6 (by decide) q_117 rfl (by decide +kernel) rfl rfl (fs' := [.ref (ad 1), .ref (ad 2), .ref (ad 3), .ref (ad 5), .ref (ad 6), .ref (ad 9), .int ((g 3) + 1), .int (g 4), .int (g 5)]) (Nat.le_of_ble_eq_true rfl) rfl dX5_letQuarterGo_59 (fun H locs hO hS => ?_)
        have hO : mO G lo ad (mU (WC G ad (p_burnV g) nf (m_coolTo nf b F) f no O tf tv fw R) 0 (xO ad (upd (p_burnV g) 3 ((g 3) + 1)))) H := hO
        rw [WC_w0 (by rfl) (by rfl) (by rfl)] at hO
        refine lv_aload_n hx hb dX5_letQuarterGo_62 rfl (lv_at hl 0 rfl) ?_
        refine m_get inX5 hF hC hO rfl rfl 6 (by decide) q_117 (v := .int ((g 3) + 1)) rfl dX5_letQuarterGo_63 ?_
        refine lv_bipush (v := 40) hx hb dX5_letQuarterGo_66 (by decide) ?_
        refine lv_irem hx hb dX5_letQuarterGo_68 (by decide) ?_
        refine lv_if_ne (tgt := 85) hx hb dX5_letQuarterGo_69 (by decide) (fun c69 => ?_) (fun c69 => ?_)
        · refine m_vret hF hr hlk hQ hO hS dX5_letQuarterGo_85 ?_
          rw [m_qO, if_neg (show ¬ (g 3 + 1) - (g 3 + 1) / 40 * 40 = 0 from c69)]
          rfl
        · refine lv_aload_n hx hb dX5_letQuarterGo_72 rfl (lv_at hl 0 rfl) ?_
          refine lv_aload_n hx hb dX5_letQuarterGo_73 rfl (lv_at hl 0 rfl) ?_
          refine m_get inX5 hF hC hO rfl rfl 6 (by decide) q_117 (v := .int ((g 3) + 1)) rfl dX5_letQuarterGo_74 ?_
          refine lv_bipush (v := 40) hx hb dX5_letQuarterGo_77 (by decide) ?_
          refine lv_idiv hx hb dX5_letQuarterGo_79 (by decide) ?_
          refine lv_iconst (v := 1) hx hb dX5_letQuarterGo_80 (by decide) ?_
          refine lv_isub hx hb dX5_letQuarterGo_81 ?_
          refine m_vV (As := [.int ((((g 3) + 1) / 40) - 1)]) (rest := []) (n := 1) hF hC hO hS (k_X5_endDay l G lo sa ad R (upd (p_burnV g) 3 ((g 3) + 1)) nf (m_coolTo nf b F) f no O tf tv fw ((((g 3) + 1) / 40) - 1) hnf hno) ok_X5_endDay q_301 rfl rfl ⟨Nat.le_of_ble_eq_true rfl, Nat.le_of_ble_eq_true rfl⟩ rfl hl.1 rfl (Nat.le_of_ble_eq_true rfl) ⟨Nat.le_of_ble_eq_true rfl, Nat.le_of_ble_eq_true rfl⟩ dX5_letQuarterGo_82 (fun R' H locs hp hO hS => ?_)
          have hR := hp
          rw [hR] at hO
          refine m_vret hF hr hlk hQ hO hS dX5_letQuarterGo_85 ?_
          have hx40 : (g 3 + 1) / 40 = nI ((qn + 1) / 40) := by rw [hq, nI_1]; exact pk_div (by omega) (by decide) (by decide)
          have hr40 : nI ((qn + 1) % 40) = nI 0 := by
            have h9 := pk_rem (a := qn + 1) (d := 40) (by omega) (by decide) (by decide)
            rw [← h9, ← nI_1, ← hq]
            exact c69
          have hr0 := (nI_eq (by omega) (by decide)).mp hr40
          obtain ⟨m9, hm9⟩ : ∃ m9, (qn + 1) / 40 = m9 + 1 := ⟨(qn + 1) / 40 - 1, by omega⟩
          rw [m_qO, if_pos (show (g 3 + 1) - (g 3 + 1) / 40 * 40 = 0 from c69), hx40, hm9, ← late_eq (by omega), ← hm9, ← hx40]
          rfl
      · refine lv_aload_n hx hb dX5_letQuarterGo_24 rfl (lv_at hl 2 rfl) ?_
        refine lv_iload hx hb dX5_letQuarterGo_25 (lv_at hl 4 rfl) ?_
        rcases Nat.lt_or_ge i nf with hin | hout
        · refine m_aldF hF hC hO rfl (j := i) (nI_clamp (by omega)) (vp_in_nI (nI_nE (a := 12) (b := i) (by decide) (by omega) c21) (by decide)) dX5_letQuarterGo_27 (v := .ref (ad (100 + i))) (adF_in hin) ?_
          refine lv_astore (lv' := [(5, .ref (ad (100 + i))), (0, .ref (ad 0)), (1, .null), (2, .ref (ad 2)), (3, .int 12), (4, .int (nI i))]) hx hb dX5_letQuarterGo_28 hl (by decide) rfl (fun ls hl => ?_)
          refine lv_aload hx hb dX5_letQuarterGo_30 (lv_at hl 0 rfl) ?_
          refine lv_ifnull hx hb dX5_letQuarterGo_32 ?_
          refine lv_aload hx hb dX5_letQuarterGo_35 (lv_at hl 0 rfl) ?_
          refine lv_aload_nN hx hb dX5_letQuarterGo_37 rfl (lv_at hl 2 rfl) ?_
          refine lv_acmp_eq (rx := (some (ad (100 + i)))) (ry := none) (tgt := 46) hx hb dX5_letQuarterGo_38 (by decide) (fun c38 => nomatch c38) (fun c38 => ?_)
          refine lv_aload hx hb dX5_letQuarterGo_41 (lv_at hl 0 rfl) ?_
          refine m_vV (As := []) (rest := []) (n := 0) hF hC hO hS (k_X0_cool l G lo sa ad _ (100 + i) ((m_coolTo (min i nf) b F) i) (WC_F (i := i) (by assumption) hnf)) ok_X0_cool q_293 (WC_F (i := i) (by assumption) hnf) rfl ⟨Nat.le_of_ble_eq_true rfl, Nat.le_of_ble_eq_true rfl⟩ rfl hl.1 rfl (Nat.le_of_ble_eq_true rfl) ⟨Nat.le_of_ble_eq_true rfl, Nat.le_of_ble_eq_true rfl⟩ dX5_letQuarterGo_43 (fun R' H locs hp hO hS => ?_)
          have hR := hp
          rw [hR] at hO
          have hO : mO G lo ad (mU (WC G ad (p_burnV g) nf (m_coolTo (min i nf) b F) f no O tf tv fw R) (100 + i) (frO (p_coolF ((m_coolTo (min i nf) b F) i)))) H := hO
          rw [WC_wF (by assumption) hnf] at hO
          refine lv_iinc (v := (nI (i + 1))) (lv' := [(4, .int (nI (i + 1))), (5, .ref (ad (100 + i))), (0, .ref (ad 0)), (1, .null), (2, .ref (ad 2)), (3, .int 12)]) hx hb dX5_letQuarterGo_46 hl (k := 5) rfl (nI_inc i) (by decide) rfl (fun ls hl => ?_)
          refine lv_goto (tgt := 18) hx hb dX5_letQuarterGo_49 (by decide) ?_
          rw [Nat.min_eq_left (show i ≤ nf by omega), m_coolTo_s (by omega), show m_coolTo (i + 1) b F = m_coolTo (min (i + 1) nf) b F from by rw [Nat.min_eq_left (by omega)]] at hO
          exact ih18 (i + 1) _ _ _ (by have := (nI_nE (a := 12) (b := i) (by decide) (by omega) c21); omega) (by have := (nI_nE (a := 12) (b := i) (by decide) (by omega) c21); omega) (lv_sub hl [2, 3, 4, 5, 0] rfl) hO hS
        · refine m_aldF hF hC hO rfl (j := i) (nI_clamp (by omega)) (vp_in_nI (nI_nE (a := 12) (b := i) (by decide) (by omega) c21) (by decide)) dX5_letQuarterGo_27 (v := .null) (adF_out hout) ?_
          refine lv_astoreN (lv' := [(5, .null), (0, .ref (ad 0)), (1, .null), (2, .ref (ad 2)), (3, .int 12), (4, .int (nI i))]) hx hb dX5_letQuarterGo_28 hl (by decide) rfl (fun ls hl => ?_)
          refine lv_aloadN hx hb dX5_letQuarterGo_30 (lv_at hl 0 rfl) ?_
          refine lv_ifnullN (tgt := 46) hx hb dX5_letQuarterGo_32 (by decide) ?_
          refine lv_iinc (v := (nI (i + 1))) (lv' := [(4, .int (nI (i + 1))), (5, .null), (0, .ref (ad 0)), (1, .null), (2, .ref (ad 2)), (3, .int 12)]) hx hb dX5_letQuarterGo_46 hl (k := 5) rfl (nI_inc i) (by decide) rfl (fun ls hl => ?_)
          refine lv_goto (tgt := 18) hx hb dX5_letQuarterGo_49 (by decide) ?_
          rw [cool_min (by omega)] at hO
          exact ih18 (i + 1) _ _ _ (by have := (nI_nE (a := 12) (b := i) (by decide) (by omega) c21); omega) (by have := (nI_nE (a := 12) (b := i) (by decide) (by omega) c21); omega) (lv_sub hl [2, 3, 4, 5, 0] rfl) hO hS
  rw [show F = m_coolTo (min 0 nf) b F from by rw [Nat.zero_min]; exact m_coolTo_0.symm] at hO
  exact L18 _ 0 _ _ _ (Nat.lt_succ_self _) (by omega) (lv_sub hl [3, 4, 2, 1, 0] rfl) hO hS
