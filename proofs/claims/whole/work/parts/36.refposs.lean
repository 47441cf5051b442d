theorem nI_nm {i : Nat} (h : i < 2 ^ 31) : nI i = -1 → False := fun q => by
  have h2 := nI_nneg h
  rw [q] at h2
  exact h2 (by decide)
theorem or_le {O : Nat → Nat → Int32} {no i j : Nat} (hOk : ∀ j, j < no → ∃ kk zz mm : Nat, kk < 4 ∧ 1 ≤ zz ∧ zz ≤ 9 ∧ 1 ≤ mm ∧ mm ≤ 60 ∧ O j 0 = nI kk ∧ O j 1 = nI zz ∧ O j 2 = nI mm) (hi : i < no) (hj : j < no) (h : O i 2 ≤ O j 2) : nn (O i 2) ≤ nn (O j 2) := by
  obtain ⟨_, _, a, _, _, _, _, ha, _, _, e1⟩ := hOk i hi
  obtain ⟨_, _, b, _, _, _, _, hb, _, _, e2⟩ := hOk j hj
  rw [e1, e2] at h
  rw [e1, e2, nn_nI (by omega), nn_nI (by omega)]
  exact nI_E (a := a) (b := b) (by omega) (by omega) h
theorem ok_X6_possibleOf : mOK RX6 yX6_possibleOf cX6_possibleOf 7 (some .int) 1 := ⟨q_903, qs_42, q_6, q_904, by decide +kernel⟩
set_option maxHeartbeats 400000 in
set_option maxRecDepth 100000 in
theorem k_X6_possibleOf (l : Launch) (G : mG) (lo : Nat) (sa ad : Nat → Nat) (R : mM) (th : Int32) (g : Nat → Int32) (nf : Nat) (F : Nat → Nat → Int32) (f : Nat → Int32) (no : Nat) (O : Nat → Nat → Int32) (it ch : Nat → Int32) (k : Nat) (hnf : nf ≤ 12) (hno : no ≤ 20) (hk4 : k < 4) (hOk : ∀ j, j < no → ∃ kk zz mm : Nat, kk < 4 ∧ 1 ≤ zz ∧ zz ≤ 9 ∧ 1 ≤ mm ∧ mm ≤ 60 ∧ O j 0 = nI kk ∧ O j 1 = nI zz ∧ O j 2 = nI mm) (hfS : okS f) : mI l yX6_possibleOf cX6_possibleOf 7 .int 1 24 G lo sa ad (WM G ad th g nf F f no O it ch R) [.ref (ad 50), .int (nI k)] (fun v R' => v = nI (dRz O f no k 9 []).length ∧ ∃ (ch' : Nat → Int32), R' = (WM G ad th g nf F f no O it ch' R)) := by
  refine mI_of (by decide) (Nat.le_of_ble_eq_true rfl) ?_
  intro p e s m args below meth c hF hr hlk hC ls hl hO hS Q hQ
  have hx := hF.1
  have hb := hF.2.1
  have hl : lv_has ls 7 [(0, .ref (ad 50)), (1, .int (nI k))] := hl
  refine lv_iconst (v := 0) hx hb dX6_possibleOf_0 (by decide) ?_
  refine lv_istore_n (lv' := [(2, .int 0), (0, .ref (ad 50)), (1, .int (nI k))]) hx hb dX6_possibleOf_1 rfl hl (by decide) rfl (fun ls hl => ?_)
  refine lv_iconst (v := 0) hx hb dX6_possibleOf_2 (by decide) ?_
  refine lv_istore_n (lv' := [(3, .int 0), (2, .int 0), (0, .ref (ad 50)), (1, .int (nI k))]) hx hb dX6_possibleOf_3 rfl hl (by decide) rfl (fun ls hl => ?_)
  refine lv_iconst (v := 0) hx hb dX6_possibleOf_4 (by decide) ?_
  refine lv_istore (lv' := [(4, .int 0), (3, .int 0), (2, .int 0), (0, .ref (ad 50)), (1, .int (nI k))]) hx hb dX6_possibleOf_5 hl (by decide) rfl (fun ls hl => ?_)
  have L7 : ∀ (n : Nat) (i : Nat) (c9 : Nat → Int32) (H : Heap) (locs : List Loc) (ls : Array Slot), no - i < n → i ≤ no → (∀ j, j < i → c9 j = 0) → lv_has ls 7 [(0, .ref (ad 50)), (1, .int (nI k)), (2, .int 0), (3, .int 0), (4, .int (nI i))] → mO G lo ad (WM G ad th g nf F f no O it c9 R) H → va_S (mA lo) s.heap H locs → W p l e (mRm 1 24) s m args below meth c H locs 0 0 Q (F0 m 7 ls []) := by
    intro n
    induction n with
    | zero => intro i c9 H locs ls hn; exact absurd hn (Nat.not_lt_zero _)
    | succ n ih7 =>
      intro i c9 H locs ls hn7 hi hc hl hO hS
      refine lv_iload hx hb dX6_possibleOf_7 (lv_at hl 4 rfl) ?_
      refine lv_aload_n hx hb dX6_possibleOf_9 rfl (lv_at hl 0 rfl) ?_
      refine m_get inX6 hF hC hO rfl rfl 7 (by decide) q_669 (v := .int (nI no)) rfl dX6_possibleOf_10 ?_
      refine lv_icmp_ge (tgt := 30) hx hb dX6_possibleOf_13 (by decide) (fun c13 => ?_) (fun c13 => ?_)
      · refine lv_bipush (v := 9) hx hb dX6_possibleOf_30 (by decide) ?_
        refine lv_istore (lv' := [(4, .int 9), (0, .ref (ad 50)), (1, .int (nI k)), (2, .int 0), (3, .int 0)]) hx hb dX6_possibleOf_32 hl (by decide) rfl (fun ls hl => ?_)
        have L34 : ∀ (n : Nat) (z : Nat) (Dz : List Nat) (cz : Nat → Int32) (H : Heap) (locs : List Loc) (ls : Array Slot), z < n → z ≤ 9 → dRz O f no k z Dz = dRz O f no k 9 [] → lSt O no cz Dz z 0 → lv_has ls 7 [(0, .ref (ad 50)), (1, .int (nI k)), (4, .int (nI z)), (2, .int (nI (lsum Dz))), (3, .int (nI Dz.length))] → mO G lo ad (WM G ad th g nf F f no O it cz R) H → va_S (mA lo) s.heap H locs → W p l e (mRm 1 24) s m args below meth c H locs 0 0 Q (F0 m 34 ls []) := by
          intro n
          induction n with
          | zero => intro z Dz cz H locs ls hn; exact absurd hn (Nat.not_lt_zero _)
          | succ n ih34 =>
            intro z Dz cz H locs ls hn34 hz9 hvz hSz hl hO hS
            refine lv_iload hx hb dX6_possibleOf_34 (lv_at hl 2 rfl) ?_
            refine lv_if_le (tgt := 213) hx hb dX6_possibleOf_36 (by decide) (fun c36 => ?_) (fun c36 => ?_)
            · refine lv_iload_n hx hb dX6_possibleOf_213 rfl (lv_at hl 4 rfl) ?_
              refine m_iret hF hr hlk hQ rfl hO hS dX6_possibleOf_214 ?_
              have e9 : z = 0 := by
                cases z with
                | zero => rfl
                | succ z1 => exact absurd c36 (Int32.not_le.mpr (nI_lt (a := 0) (b := z1 + 1) (by omega) (by omega)))
              subst e9
              exact ⟨by rw [← hvz]; rfl, _, rfl⟩
            · obtain ⟨z1, rfl⟩ : ∃ z1, z = z1 + 1 := by
                cases z with
                | zero => exact absurd (by decide) c36
                | succ z1 => exact ⟨z1, rfl⟩
              have hsN := amount_sN hfS (k := k) (b := z1 + 1) hk4 (by omega) hz9
              have hsB := sN_le hfS (10 - (z1 + 1)) k (z1 + 1) hk4 (by omega) (by omega)
              refine lv_iconst (v := 0) hx hb dX6_possibleOf_39 (by decide) ?_
              refine lv_istore (lv' := [(5, .int 0), (0, .ref (ad 50)), (1, .int (nI k)), (4, .int (nI (z1 + 1))), (2, .int (nI (lsum Dz))), (3, .int (nI Dz.length))]) hx hb dX6_possibleOf_40 hl (by decide) rfl (fun ls hl => ?_)
              have L42 : ∀ (n : Nat) (i : Nat) (Dd : List Nat) (c9 : Nat → Int32) (H : Heap) (locs : List Loc) (ls : Array Slot), no - i < n → i ≤ no → dR O k (z1 + 1) (no - i) i Dd = dR O k (z1 + 1) no 0 Dz → lSt O no c9 Dd (z1 + 1) i → lv_has ls 7 [(0, .ref (ad 50)), (1, .int (nI k)), (4, .int (nI (z1 + 1))), (5, .int (nI i)), (2, .int (nI (lsum Dd))), (3, .int (nI Dd.length))] → mO G lo ad (WM G ad th g nf F f no O it c9 R) H → va_S (mA lo) s.heap H locs → W p l e (mRm 1 24) s m args below meth c H locs 0 0 Q (F0 m 42 ls []) := by
                intro n
                induction n with
                | zero => intro i Dd c9 H locs ls hn; exact absurd hn (Nat.not_lt_zero _)
                | succ n ih42 =>
                  intro i Dd c9 H locs ls hn42 hi hv hSt hl hO hS
                  refine lv_iload hx hb dX6_possibleOf_42 (lv_at hl 3 rfl) ?_
                  refine lv_aload_n hx hb dX6_possibleOf_44 rfl (lv_at hl 0 rfl) ?_
                  refine m_get inX6 hF hC hO rfl rfl 7 (by decide) q_669 (v := .int (nI no)) rfl dX6_possibleOf_45 ?_
                  refine lv_icmp_ge (tgt := 114) hx hb dX6_possibleOf_48 (by decide) (fun c48 => ?_) (fun c48 => ?_)
                  · have L114 : ∀ (n : Nat) (Dw : List Nat) (cw : Nat → Int32) (H : Heap) (locs : List Loc) (ls : Array Slot), Dw.length < n → ltrim (sN (10 - (z1 + 1)) f k (z1 + 1)) Dw = ltrim (sN (10 - (z1 + 1)) f k (z1 + 1)) (dR O k (z1 + 1) no 0 Dz) → lSt O no cw Dw (z1 + 1) no → lv_has ls 7 [(0, .ref (ad 50)), (1, .int (nI k)), (4, .int (nI (z1 + 1))), (2, .int (nI (lsum Dw))), (3, .int (nI Dw.length))] → mO G lo ad (WM G ad th g nf F f no O it cw R) H → va_S (mA lo) s.heap H locs → W p l e (mRm 1 24) s m args below meth c H locs 0 0 Q (F0 m 114 ls []) := by
                      intro n
                      induction n with
                      | zero => intro Dw cw H locs ls hn; exact absurd hn (Nat.not_lt_zero _)
                      | succ n ih114 =>
                        intro Dw cw H locs ls hn114 hvw hSw hl hO hS
                        refine lv_iload_n hx hb dX6_possibleOf_114 rfl (lv_at hl 3 rfl) ?_
                        refine lv_aload_n hx hb dX6_possibleOf_115 rfl (lv_at hl 0 rfl) ?_
                        refine lv_iload_n hx hb dX6_possibleOf_116 rfl (lv_at hl 1 rfl) ?_
                        refine lv_iload hx hb dX6_possibleOf_117 (lv_at hl 2 rfl) ?_
                        refine m_vI (As := [.int (nI k), .int (nI (z1 + 1))]) (rest := [.int (nI (lsum Dw))]) (n := 2) hF hC hO hS (k_X6_enough l G lo sa ad R th g nf F f no O it cw k (z1 + 1) hnf hno hk4 (by omega) hz9) ok_X6_enough q_845 rfl rfl ⟨Nat.le_of_ble_eq_true rfl, Nat.le_of_ble_eq_true rfl⟩ rfl hl.1 rfl (Nat.le_of_ble_eq_true rfl) ⟨Nat.le_of_ble_eq_true rfl, Nat.le_of_ble_eq_true rfl⟩ dX6_possibleOf_119 (fun v119 R' H locs hp hO hS => ?_)
                        obtain ⟨rfl, hR⟩ := hp
                        rw [hR] at hO
                        rw [hsN]
                        refine lv_icmp_le (tgt := 207) hx hb dX6_possibleOf_122 (by decide) (fun c122 => ?_) (fun c122 => ?_)
                        · refine lv_iinc (v := (nI z1)) (lv' := [(4, .int (nI z1)), (0, .ref (ad 50)), (1, .int (nI k)), (2, .int (nI (lsum Dw))), (3, .int (nI Dw.length))]) hx hb dX6_possibleOf_207 hl (k := 2) rfl ((nI_dec (z1 + 1)).trans (nI_pred z1)) (by decide) rfl (fun ls hl => ?_)
                          refine lv_goto (tgt := 34) hx hb dX6_possibleOf_210 (by decide) ?_
                          exact ih34 z1 Dw cw _ _ _ (by omega) (by omega) (by rw [← hvz, dRz, ← hvw, trim_le (nI_E (a := lsum Dw) (b := (sN (10 - (z1 + 1)) f k (z1 + 1))) (by have := lSt_bd hSw; omega) (by omega) c122)]) (lSt_next hSw) (lv_sub hl [1, 2, 0, 3, 4] rfl) hO hS
                        · have hbd := lSt_bd hSw
                          have hgt : (sN (10 - (z1 + 1)) f k (z1 + 1)) < lsum Dw := nI_nE (a := lsum Dw) (b := (sN (10 - (z1 + 1)) f k (z1 + 1))) (by omega) (by omega) (fun h => c122 h)
                          obtain ⟨w, I, rfl⟩ : ∃ w I, Dw = w :: I := by
                            cases Dw with
                            | nil => exact absurd hgt (Nat.not_lt_zero _)
                            | cons w I => exact ⟨w, I, rfl⟩
                          have hcb9 := hSw.2.2.1
                          refine lv_iconst (v := -1) hx hb dX6_possibleOf_125 (by decide) ?_
                          refine lv_istore (lv' := [(5, .int (-1)), (0, .ref (ad 50)), (1, .int (nI k)), (4, .int (nI (z1 + 1))), (2, .int (nI (lsum (w :: I)))), (3, .int (nI (w :: I).length))]) hx hb dX6_possibleOf_126 hl (by decide) rfl (fun ls hl => ?_)
                          refine lv_iconst (v := 0) hx hb dX6_possibleOf_128 (by decide) ?_
                          refine lv_istore (lv' := [(6, .int 0), (5, .int (-1)), (0, .ref (ad 50)), (1, .int (nI k)), (4, .int (nI (z1 + 1))), (2, .int (nI (lsum (w :: I)))), (3, .int (nI (w :: I).length))]) hx hb dX6_possibleOf_129 hl (by decide) rfl (fun ls hl => ?_)
                          have L131 : ∀ (n : Nat) (j : Nat) (b9 : Int32) (H : Heap) (locs : List Loc) (ls : Array Slot), no - j < n → j ≤ no → ((b9 = -1 ∧ ∀ i, i < j → ¬ cw i = 1) ∨ ∃ b, b < no ∧ b9 = nI b ∧ cw b = 1 ∧ ∀ i, i < j → cw i = 1 → nn (O i 2) ≤ nn (O b 2)) → lv_has ls 7 [(0, .ref (ad 50)), (1, .int (nI k)), (2, .int (nI (lsum (w :: I)))), (3, .int (nI (w :: I).length)), (4, .int (nI (z1 + 1))), (6, .int (nI j)), (5, .int b9)] → mO G lo ad (WM G ad th g nf F f no O it cw R) H → va_S (mA lo) s.heap H locs → W p l e (mRm 1 24) s m args below meth c H locs 0 0 Q (F0 m 131 ls []) := by
                            intro n
                            induction n with
                            | zero => intro j b9 H locs ls hn; exact absurd hn (Nat.not_lt_zero _)
                            | succ n ih131 =>
                              intro j b9 H locs ls hn131 hj hbst hl hO hS
                              refine lv_iload hx hb dX6_possibleOf_131 (lv_at hl 5 rfl) ?_
                              refine lv_aload_n hx hb dX6_possibleOf_133 rfl (lv_at hl 0 rfl) ?_
                              refine m_get inX6 hF hC hO rfl rfl 7 (by decide) q_669 (v := .int (nI no)) rfl dX6_possibleOf_134 ?_
                              refine lv_icmp_ge (tgt := 183) hx hb dX6_possibleOf_137 (by decide) (fun c137 => ?_) (fun c137 => ?_)
                              · have e9 : j = no := Nat.le_antisymm hj (nI_E (a := no) (b := j) (by omega) (by omega) c137)
                                rw [e9] at hbst
                                obtain ⟨hmx, j0, hj0, hcj0, hwj0⟩ := lSt_max hSw
                                obtain ⟨b, hbl, rfl, hcb, hmax⟩ := hbst.resolve_left (fun h => h.2 j0 hj0 hcj0)
                                have hwb : nn (O b 2) = w := Nat.le_antisymm (hmx b hbl hcb) (by rw [← hwj0]; exact hmax j0 hj0 hcj0)
                                refine lv_aload_n hx hb dX6_possibleOf_183 rfl (lv_at hl 0 rfl) ?_
                                refine m_get inX6 hF hC hO rfl rfl 13 (by decide) q_675 (v := .ref (ad 55)) rfl dX6_possibleOf_184 ?_
                                refine lv_iload hx hb dX6_possibleOf_187 (lv_at hl 6 rfl) ?_
                                refine lv_iconst (v := 0) hx hb dX6_possibleOf_189 (by decide) ?_
                                refine m_zast hF hC hO hS rfl (j := b) (nI_clamp (by omega)) rfl (vp_in_nI (by omega) (by decide)) dX6_possibleOf_190 (fun H locs hO hS => ?_)
                                have hO : mO G lo ad (mU (WM G ad th g nf F f no O it cw R) 55 (.inl (G.2 2, 20, .inl (upd cw b 0)))) H := hO
                                rw [WM_w5] at hO
                                refine lv_iload_n hx hb dX6_possibleOf_191 rfl (lv_at hl 2 rfl) ?_
                                refine lv_aload_n hx hb dX6_possibleOf_192 rfl (lv_at hl 0 rfl) ?_
                                refine lv_iload hx hb dX6_possibleOf_193 (lv_at hl 6 rfl) ?_
                                refine lv_iconst (v := 2) hx hb dX6_possibleOf_195 (by decide) ?_
                                refine m_vI (As := [.int (nI b), .int 2]) (rest := [.int (nI (lsum (w :: I)))]) (n := 2) hF hC hO hS (k_X6_or l G lo sa ad R th g nf F f no O it (upd cw b 0) b 2 hnf hno (Nat.lt_of_lt_of_le hbl hno) (by omega)) ok_X6_or q_806 rfl rfl ⟨Nat.le_of_ble_eq_true rfl, Nat.le_of_ble_eq_true rfl⟩ rfl hl.1 rfl (Nat.le_of_ble_eq_true rfl) ⟨Nat.le_of_ble_eq_true rfl, Nat.le_of_ble_eq_true rfl⟩ dX6_possibleOf_196 (fun v196 R' H locs hp hO hS => ?_)
                                obtain ⟨rfl, hR⟩ := hp
                                rw [hR] at hO
                                obtain ⟨kk, zz, mm, hkk, hzz1, hzz9, hmm1, hmm60, hw0, hw1, hw2⟩ := hOk b hbl
                                have hmw : mm = w := by rw [← hwb, hw2]; exact (nn_nI (by omega)).symm
                                rw [hw2, hmw]
                                refine lv_isub hx hb dX6_possibleOf_199 ?_
                                rw [show nI (lsum (w :: I)) - nI w = nI (lsum I) from by rw [pk_sub (by show w ≤ w + lsum I; omega)]; congr 1; show w + lsum I - w = lsum I; omega]
                                refine lv_istore_n (lv' := [(2, .int (nI (lsum I))), (0, .ref (ad 50)), (1, .int (nI k)), (3, .int (nI (w :: I).length)), (4, .int (nI (z1 + 1))), (6, .int (nI j)), (5, .int (nI b))]) hx hb dX6_possibleOf_200 rfl hl (by decide) rfl (fun ls hl => ?_)
                                refine lv_iinc (v := (nI I.length)) (lv' := [(3, .int (nI I.length)), (2, .int (nI (lsum I))), (0, .ref (ad 50)), (1, .int (nI k)), (4, .int (nI (z1 + 1))), (6, .int (nI j)), (5, .int (nI b))]) hx hb dX6_possibleOf_201 hl (k := 3) rfl ((nI_dec (I.length + 1)).trans (nI_pred I.length)) (by decide) rfl (fun ls hl => ?_)
                                refine lv_goto (tgt := 114) hx hb dX6_possibleOf_204 (by decide) ?_
                                exact ih114 I (upd cw b 0) _ _ _ (by have := hn114; simp only [List.length_cons] at this; omega) (by rw [← hvw, trim_gt (by have h8 : lsum (w :: I) = w + lsum I := rfl; omega)]) (lSt_drop hSw hbl hcb hwb) (lv_sub hl [2, 3, 4, 1, 0] rfl) hO hS
                              · refine lv_aload_n hx hb dX6_possibleOf_140 rfl (lv_at hl 0 rfl) ?_
                                refine m_get inX6 hF hC hO rfl rfl 13 (by decide) q_675 (v := .ref (ad 55)) rfl dX6_possibleOf_141 ?_
                                refine lv_iload hx hb dX6_possibleOf_144 (lv_at hl 5 rfl) ?_
                                refine m_zald hF hC hO rfl (j := j) (nI_clamp (by have := (nI_nE (a := no) (b := j) (by omega) (by omega) c137); omega)) (vp_in_nI (by have := (nI_nE (a := no) (b := j) (by omega) (by omega) c137); omega) (by decide)) dX6_possibleOf_146 ?_
                                refine lv_if_eq (tgt := 177) hx hb dX6_possibleOf_147 (by decide) (fun c147 => ?_) (fun c147 => ?_)
                                · refine lv_iinc (v := (nI (j + 1))) (lv' := [(6, .int (nI (j + 1))), (0, .ref (ad 50)), (1, .int (nI k)), (2, .int (nI (lsum (w :: I)))), (3, .int (nI (w :: I).length)), (4, .int (nI (z1 + 1))), (5, .int b9)]) hx hb dX6_possibleOf_177 hl (k := 5) rfl (nI_inc j) (by decide) rfl (fun ls hl => ?_)
                                  refine lv_goto (tgt := 131) hx hb dX6_possibleOf_180 (by decide) ?_
                                  exact ih131 (j + 1) b9 _ _ _ (by have := (nI_nE (a := no) (b := j) (by omega) (by omega) c137); omega) (by have := (nI_nE (a := no) (b := j) (by omega) (by omega) c137); omega) (hbst.elim (fun h => Or.inl ⟨h.1, fun i hi hc => by rcases Nat.lt_or_ge i j with q | q; exact h.2 i q hc; rw [show i = j by omega, c147] at hc; exact absurd hc (by decide)⟩) (fun ⟨b, hb, e, hcb, hmax⟩ => Or.inr ⟨b, hb, e, hcb, fun i hi hc => by rcases Nat.lt_or_ge i j with q | q; exact hmax i q hc; rw [show i = j by omega, c147] at hc; exact absurd hc (by decide)⟩)) (lv_sub hl [1, 2, 3, 4, 5, 0, 6] rfl) hO hS
                                · refine lv_iload hx hb dX6_possibleOf_150 (lv_at hl 6 rfl) ?_
                                  refine lv_iconst (v := -1) hx hb dX6_possibleOf_152 (by decide) ?_
                                  refine lv_icmp_eq (tgt := 173) hx hb dX6_possibleOf_153 (by decide) (fun c153 => ?_) (fun c153 => ?_)
                                  · refine lv_iload hx hb dX6_possibleOf_173 (lv_at hl 5 rfl) ?_
                                    refine lv_istore (lv' := [(5, .int (nI j)), (0, .ref (ad 50)), (1, .int (nI k)), (2, .int (nI (lsum (w :: I)))), (3, .int (nI (w :: I).length)), (4, .int (nI (z1 + 1))), (6, .int (nI j))]) hx hb dX6_possibleOf_175 hl (by decide) rfl (fun ls hl => ?_)
                                    refine lv_iinc (v := (nI (j + 1))) (lv' := [(6, .int (nI (j + 1))), (5, .int (nI j)), (0, .ref (ad 50)), (1, .int (nI k)), (2, .int (nI (lsum (w :: I)))), (3, .int (nI (w :: I).length)), (4, .int (nI (z1 + 1)))]) hx hb dX6_possibleOf_177 hl (k := 6) rfl (nI_inc j) (by decide) rfl (fun ls hl => ?_)
                                    refine lv_goto (tgt := 131) hx hb dX6_possibleOf_180 (by decide) ?_
                                    exact ih131 (j + 1) (nI j) _ _ _ (by have := (nI_nE (a := no) (b := j) (by omega) (by omega) c137); omega) (by have := (nI_nE (a := no) (b := j) (by omega) (by omega) c137); omega) (Or.inr ⟨j, (nI_nE (a := no) (b := j) (by omega) (by omega) c137), rfl, (hcb9 j (nI_nE (a := no) (b := j) (by omega) (by omega) c137)).resolve_left c147, fun i hi hc => by rcases Nat.lt_or_ge i j with h | h; exact absurd hc ((hbst.resolve_right (fun ⟨b, hb, e, _⟩ => by rw [e] at c153; exact nI_nm (by omega) c153)).2 i h); rw [show i = j by omega]; exact Nat.le_refl _⟩) (lv_sub hl [2, 3, 4, 5, 6, 0, 1] rfl) hO hS
                                  · obtain ⟨b, hbl, rfl, hcb, hmax⟩ := hbst.resolve_left (fun h => c153 h.1)
                                    refine lv_aload_n hx hb dX6_possibleOf_156 rfl (lv_at hl 0 rfl) ?_
                                    refine lv_iload hx hb dX6_possibleOf_157 (lv_at hl 5 rfl) ?_
                                    refine lv_iconst (v := 2) hx hb dX6_possibleOf_159 (by decide) ?_
                                    refine m_vI (As := [.int (nI j), .int 2]) (rest := []) (n := 2) hF hC hO hS (k_X6_or l G lo sa ad R th g nf F f no O it cw j 2 hnf hno (Nat.lt_of_lt_of_le (nI_nE (a := no) (b := j) (by omega) (by omega) c137) hno) (by omega)) ok_X6_or q_806 rfl rfl ⟨Nat.le_of_ble_eq_true rfl, Nat.le_of_ble_eq_true rfl⟩ rfl hl.1 rfl (Nat.le_of_ble_eq_true rfl) ⟨Nat.le_of_ble_eq_true rfl, Nat.le_of_ble_eq_true rfl⟩ dX6_possibleOf_160 (fun v160 R' H locs hp hO hS => ?_)
                                    obtain ⟨rfl, hR⟩ := hp
                                    rw [hR] at hO
                                    refine lv_aload_n hx hb dX6_possibleOf_163 rfl (lv_at hl 0 rfl) ?_
                                    refine lv_iload hx hb dX6_possibleOf_164 (lv_at hl 6 rfl) ?_
                                    refine lv_iconst (v := 2) hx hb dX6_possibleOf_166 (by decide) ?_
                                    refine m_vI (As := [.int (nI b), .int 2]) (rest := [.int (O j 2)]) (n := 2) hF hC hO hS (k_X6_or l G lo sa ad R th g nf F f no O it cw b 2 hnf hno (Nat.lt_of_lt_of_le hbl hno) (by omega)) ok_X6_or q_806 rfl rfl ⟨Nat.le_of_ble_eq_true rfl, Nat.le_of_ble_eq_true rfl⟩ rfl hl.1 rfl (Nat.le_of_ble_eq_true rfl) ⟨Nat.le_of_ble_eq_true rfl, Nat.le_of_ble_eq_true rfl⟩ dX6_possibleOf_167 (fun v167 R' H locs hp hO hS => ?_)
                                    obtain ⟨rfl, hR⟩ := hp
                                    rw [hR] at hO
                                    refine lv_icmp_le (tgt := 177) hx hb dX6_possibleOf_170 (by decide) (fun c170 => ?_) (fun c170 => ?_)
                                    · refine lv_iinc (v := (nI (j + 1))) (lv' := [(6, .int (nI (j + 1))), (0, .ref (ad 50)), (1, .int (nI k)), (2, .int (nI (lsum (w :: I)))), (3, .int (nI (w :: I).length)), (4, .int (nI (z1 + 1))), (5, .int (nI b))]) hx hb dX6_possibleOf_177 hl (k := 5) rfl (nI_inc j) (by decide) rfl (fun ls hl => ?_)
                                      refine lv_goto (tgt := 131) hx hb dX6_possibleOf_180 (by decide) ?_
                                      exact ih131 (j + 1) (nI b) _ _ _ (by have := (nI_nE (a := no) (b := j) (by omega) (by omega) c137); omega) (by have := (nI_nE (a := no) (b := j) (by omega) (by omega) c137); omega) (Or.inr ⟨b, hbl, rfl, hcb, fun i hi hc => by rcases Nat.lt_or_ge i j with h | h; exact hmax i h hc; rw [show i = j by omega]; exact or_le hOk (nI_nE (a := no) (b := j) (by omega) (by omega) c137) (by omega) c170⟩) (lv_sub hl [1, 2, 3, 4, 5, 0, 6] rfl) hO hS
                                    · refine lv_iload hx hb dX6_possibleOf_173 (lv_at hl 5 rfl) ?_
                                      refine lv_istore (lv' := [(5, .int (nI j)), (0, .ref (ad 50)), (1, .int (nI k)), (2, .int (nI (lsum (w :: I)))), (3, .int (nI (w :: I).length)), (4, .int (nI (z1 + 1))), (6, .int (nI j))]) hx hb dX6_possibleOf_175 hl (by decide) rfl (fun ls hl => ?_)
                                      refine lv_iinc (v := (nI (j + 1))) (lv' := [(6, .int (nI (j + 1))), (5, .int (nI j)), (0, .ref (ad 50)), (1, .int (nI k)), (2, .int (nI (lsum (w :: I)))), (3, .int (nI (w :: I).length)), (4, .int (nI (z1 + 1)))]) hx hb dX6_possibleOf_177 hl (k := 6) rfl (nI_inc j) (by decide) rfl (fun ls hl => ?_)
                                      refine lv_goto (tgt := 131) hx hb dX6_possibleOf_180 (by decide) ?_
                                      exact ih131 (j + 1) (nI j) _ _ _ (by have := (nI_nE (a := no) (b := j) (by omega) (by omega) c137); omega) (by have := (nI_nE (a := no) (b := j) (by omega) (by omega) c137); omega) (Or.inr ⟨j, (nI_nE (a := no) (b := j) (by omega) (by omega) c137), rfl, (hcb9 j (nI_nE (a := no) (b := j) (by omega) (by omega) c137)).resolve_left c147, fun i hi hc => by rcases Nat.lt_or_ge i j with h | h; exact Nat.le_trans (hmax i h hc) (or_le hOk (by omega) (nI_nE (a := no) (b := j) (by omega) (by omega) c137) (Int32.le_of_lt (Int32.not_le.mp c170))); rw [show i = j by omega]; exact Nat.le_refl _⟩) (lv_sub hl [2, 3, 4, 5, 6, 0, 1] rfl) hO hS
                          exact L131 _ 0 (-1) _ _ _ (Nat.lt_succ_self _) (by omega) (Or.inl ⟨rfl, fun i hi => absurd hi (Nat.not_lt_zero _)⟩) (lv_sub hl [2, 3, 5, 6, 4, 0, 1] rfl) hO hS
                    have e9 : i = no := Nat.le_antisymm hi (nI_E (a := no) (b := i) (by omega) (by omega) c48)
                    rw [e9] at hv hSt
                    rw [Nat.sub_self] at hv
                    change Dd = _ at hv
                    exact L114 _ Dd c9 _ _ _ (Nat.lt_succ_self _) (by rw [← hv]) hSt (lv_sub hl [0, 1, 2, 4, 5] rfl) hO hS
                  · refine lv_aload_n hx hb dX6_possibleOf_51 rfl (lv_at hl 0 rfl) ?_
                    refine lv_iload hx hb dX6_possibleOf_52 (lv_at hl 3 rfl) ?_
                    refine lv_iconst (v := 0) hx hb dX6_possibleOf_54 (by decide) ?_
                    refine m_vI (As := [.int (nI i), .int 0]) (rest := []) (n := 2) hF hC hO hS (k_X6_or l G lo sa ad R th g nf F f no O it c9 i 0 hnf hno (Nat.lt_of_lt_of_le (nI_nE (a := no) (b := i) (by omega) (by omega) c48) hno) (by omega)) ok_X6_or q_806 rfl rfl ⟨Nat.le_of_ble_eq_true rfl, Nat.le_of_ble_eq_true rfl⟩ rfl hl.1 rfl (Nat.le_of_ble_eq_true rfl) ⟨Nat.le_of_ble_eq_true rfl, Nat.le_of_ble_eq_true rfl⟩ dX6_possibleOf_55 (fun v55 R' H locs hp hO hS => ?_)
                    obtain ⟨rfl, hR⟩ := hp
                    rw [hR] at hO
                    refine lv_iload_n hx hb dX6_possibleOf_58 rfl (lv_at hl 1 rfl) ?_
                    refine lv_icmp_ne (tgt := 108) hx hb dX6_possibleOf_59 (by decide) (fun c59 => ?_) (fun c59 => ?_)
                    · refine lv_iinc (v := (nI (i + 1))) (lv' := [(5, .int (nI (i + 1))), (0, .ref (ad 50)), (1, .int (nI k)), (4, .int (nI (z1 + 1))), (2, .int (nI (lsum Dd))), (3, .int (nI Dd.length))]) hx hb dX6_possibleOf_108 hl (k := 3) rfl (nI_inc i) (by decide) rfl (fun ls hl => ?_)
                      refine lv_goto (tgt := 42) hx hb dX6_possibleOf_111 (by decide) ?_
                      exact ih42 (i + 1) Dd c9 _ _ _ (by have := (nI_nE (a := no) (b := i) (by omega) (by omega) c48); omega) (by have := (nI_nE (a := no) (b := i) (by omega) (by omega) c48); omega) (by rw [← hv, show no - i = (no - (i + 1)) + 1 from by have := (nI_nE (a := no) (b := i) (by omega) (by omega) c48); omega, dR, if_neg (show ¬ (O i 4 = 0 ∧ O i 0 = nI k ∧ O i 1 = nI (z1 + 1)) from fun h => c59 h.2.1)]) (lSt_skip hSt) (lv_sub hl [1, 2, 3, 0, 4, 5] rfl) hO hS
                    · refine lv_aload_n hx hb dX6_possibleOf_62 rfl (lv_at hl 0 rfl) ?_
                      refine lv_iload hx hb dX6_possibleOf_63 (lv_at hl 3 rfl) ?_
                      refine lv_iconst (v := 4) hx hb dX6_possibleOf_65 (by decide) ?_
                      refine m_vI (As := [.int (nI i), .int 4]) (rest := []) (n := 2) hF hC hO hS (k_X6_or l G lo sa ad R th g nf F f no O it c9 i 4 hnf hno (Nat.lt_of_lt_of_le (nI_nE (a := no) (b := i) (by omega) (by omega) c48) hno) (by omega)) ok_X6_or q_806 rfl rfl ⟨Nat.le_of_ble_eq_true rfl, Nat.le_of_ble_eq_true rfl⟩ rfl hl.1 rfl (Nat.le_of_ble_eq_true rfl) ⟨Nat.le_of_ble_eq_true rfl, Nat.le_of_ble_eq_true rfl⟩ dX6_possibleOf_66 (fun v66 R' H locs hp hO hS => ?_)
                      obtain ⟨rfl, hR⟩ := hp
                      rw [hR] at hO
                      refine lv_if_ne (tgt := 108) hx hb dX6_possibleOf_69 (by decide) (fun c69 => ?_) (fun c69 => ?_)
                      · refine lv_iinc (v := (nI (i + 1))) (lv' := [(5, .int (nI (i + 1))), (0, .ref (ad 50)), (1, .int (nI k)), (4, .int (nI (z1 + 1))), (2, .int (nI (lsum Dd))), (3, .int (nI Dd.length))]) hx hb dX6_possibleOf_108 hl (k := 3) rfl (nI_inc i) (by decide) rfl (fun ls hl => ?_)
                        refine lv_goto (tgt := 42) hx hb dX6_possibleOf_111 (by decide) ?_
                        exact ih42 (i + 1) Dd c9 _ _ _ (by have := (nI_nE (a := no) (b := i) (by omega) (by omega) c48); omega) (by have := (nI_nE (a := no) (b := i) (by omega) (by omega) c48); omega) (by rw [← hv, show no - i = (no - (i + 1)) + 1 from by have := (nI_nE (a := no) (b := i) (by omega) (by omega) c48); omega, dR, if_neg (show ¬ (O i 4 = 0 ∧ O i 0 = nI k ∧ O i 1 = nI (z1 + 1)) from fun h => c69 h.1)]) (lSt_skip hSt) (lv_sub hl [1, 2, 3, 0, 4, 5] rfl) hO hS
                      · refine lv_aload_n hx hb dX6_possibleOf_72 rfl (lv_at hl 0 rfl) ?_
                        refine lv_iload hx hb dX6_possibleOf_73 (lv_at hl 3 rfl) ?_
                        refine lv_iconst (v := 1) hx hb dX6_possibleOf_75 (by decide) ?_
                        refine m_vI (As := [.int (nI i), .int 1]) (rest := []) (n := 2) hF hC hO hS (k_X6_or l G lo sa ad R th g nf F f no O it c9 i 1 hnf hno (Nat.lt_of_lt_of_le (nI_nE (a := no) (b := i) (by omega) (by omega) c48) hno) (by omega)) ok_X6_or q_806 rfl rfl ⟨Nat.le_of_ble_eq_true rfl, Nat.le_of_ble_eq_true rfl⟩ rfl hl.1 rfl (Nat.le_of_ble_eq_true rfl) ⟨Nat.le_of_ble_eq_true rfl, Nat.le_of_ble_eq_true rfl⟩ dX6_possibleOf_76 (fun v76 R' H locs hp hO hS => ?_)
                        obtain ⟨rfl, hR⟩ := hp
                        rw [hR] at hO
                        refine lv_iload hx hb dX6_possibleOf_79 (lv_at hl 2 rfl) ?_
                        refine lv_icmp_eq (tgt := 87) hx hb dX6_possibleOf_81 (by decide) (fun c81 => ?_) (fun c81 => ?_)
                        · refine lv_aload_n hx hb dX6_possibleOf_87 rfl (lv_at hl 0 rfl) ?_
                          refine m_get inX6 hF hC hO rfl rfl 13 (by decide) q_675 (v := .ref (ad 55)) rfl dX6_possibleOf_88 ?_
                          refine lv_iload hx hb dX6_possibleOf_91 (lv_at hl 3 rfl) ?_
                          refine lv_iconst (v := 1) hx hb dX6_possibleOf_93 (by decide) ?_
                          refine m_zast hF hC hO hS rfl (j := i) (nI_clamp (by have := (nI_nE (a := no) (b := i) (by omega) (by omega) c48); omega)) rfl (vp_in_nI (by have := (nI_nE (a := no) (b := i) (by omega) (by omega) c48); omega) (by decide)) dX6_possibleOf_94 (fun H locs hO hS => ?_)
                          have hO : mO G lo ad (mU (WM G ad th g nf F f no O it c9 R) 55 (.inl (G.2 2, 20, .inl (upd c9 i 1)))) H := hO
                          rw [WM_w5] at hO
                          refine lv_iload_n hx hb dX6_possibleOf_95 rfl (lv_at hl 4 rfl) ?_
                          refine lv_aload_n hx hb dX6_possibleOf_96 rfl (lv_at hl 0 rfl) ?_
                          refine lv_iload hx hb dX6_possibleOf_97 (lv_at hl 3 rfl) ?_
                          refine lv_iconst (v := 2) hx hb dX6_possibleOf_99 (by decide) ?_
                          refine m_vI (As := [.int (nI i), .int 2]) (rest := [.int (nI (lsum Dd))]) (n := 2) hF hC hO hS (k_X6_or l G lo sa ad R th g nf F f no O it (upd c9 i 1) i 2 hnf hno (Nat.lt_of_lt_of_le (nI_nE (a := no) (b := i) (by omega) (by omega) c48) hno) (by omega)) ok_X6_or q_806 rfl rfl ⟨Nat.le_of_ble_eq_true rfl, Nat.le_of_ble_eq_true rfl⟩ rfl hl.1 rfl (Nat.le_of_ble_eq_true rfl) ⟨Nat.le_of_ble_eq_true rfl, Nat.le_of_ble_eq_true rfl⟩ dX6_possibleOf_100 (fun v100 R' H locs hp hO hS => ?_)
                          obtain ⟨rfl, hR⟩ := hp
                          rw [hR] at hO
                          obtain ⟨kk, zz, mm, hkk, hzz1, hzz9, hmm1, hmm60, hw0, hw1, hw2⟩ := hOk i (nI_nE (a := no) (b := i) (by omega) (by omega) c48)
                          rw [hw2]
                          have hzi : zz = z1 + 1 := (nI_eq (by omega) (by omega)).mp (hw1.symm.trans c81)
                          have hsz : nn (O i 1) = z1 + 1 := by rw [hw1, hzi]; exact nn_nI (by omega)
                          have hvm : nn (O i 2) = mm := by rw [hw2]; exact nn_nI (by omega)
                          refine lv_iadd hx hb dX6_possibleOf_103 ?_
                          rw [nI_add, show lsum Dd + mm = lsum (lins mm Dd) from by rw [lsum_lins, Nat.add_comm]]
                          refine lv_istore_n (lv' := [(2, .int (nI (lsum (lins mm Dd)))), (0, .ref (ad 50)), (1, .int (nI k)), (4, .int (nI (z1 + 1))), (5, .int (nI i)), (3, .int (nI Dd.length))]) hx hb dX6_possibleOf_104 rfl hl (by decide) rfl (fun ls hl => ?_)
                          refine lv_iinc (v := (nI (Dd.length + 1))) (lv' := [(3, .int (nI (Dd.length + 1))), (2, .int (nI (lsum (lins mm Dd)))), (0, .ref (ad 50)), (1, .int (nI k)), (4, .int (nI (z1 + 1))), (5, .int (nI i))]) hx hb dX6_possibleOf_105 hl (k := 5) rfl (nI_inc _) (by decide) rfl (fun ls hl => ?_)
                          refine lv_iinc (v := (nI (i + 1))) (lv' := [(5, .int (nI (i + 1))), (3, .int (nI (Dd.length + 1))), (2, .int (nI (lsum (lins mm Dd)))), (0, .ref (ad 50)), (1, .int (nI k)), (4, .int (nI (z1 + 1)))]) hx hb dX6_possibleOf_108 hl (k := 5) rfl (nI_inc i) (by decide) rfl (fun ls hl => ?_)
                          refine lv_goto (tgt := 42) hx hb dX6_possibleOf_111 (by decide) ?_
                          rw [show Dd.length + 1 = (lins mm Dd).length from (len_lins mm Dd).symm] at hl
                          exact ih42 (i + 1) (lins mm Dd) (upd c9 i 1) _ _ _ (by have := (nI_nE (a := no) (b := i) (by omega) (by omega) c48); omega) (by have := (nI_nE (a := no) (b := i) (by omega) (by omega) c48); omega) (by rw [← hv, show no - i = (no - (i + 1)) + 1 from by have := (nI_nE (a := no) (b := i) (by omega) (by omega) c48); omega, dR, if_pos (show O i 4 = 0 ∧ O i 0 = nI k ∧ O i 1 = nI (z1 + 1) from ⟨c69, c59, c81⟩), hvm]) (lSt_mark hSt (nI_nE (a := no) (b := i) (by omega) (by omega) c48) hsz hvm hmm60) (lv_sub hl [3, 4, 5, 0, 2, 1] rfl) hO hS
                        · refine lv_goto (tgt := 108) hx hb dX6_possibleOf_84 (by decide) ?_
                          refine lv_iinc (v := (nI (i + 1))) (lv' := [(5, .int (nI (i + 1))), (0, .ref (ad 50)), (1, .int (nI k)), (4, .int (nI (z1 + 1))), (2, .int (nI (lsum Dd))), (3, .int (nI Dd.length))]) hx hb dX6_possibleOf_108 hl (k := 3) rfl (nI_inc i) (by decide) rfl (fun ls hl => ?_)
                          refine lv_goto (tgt := 42) hx hb dX6_possibleOf_111 (by decide) ?_
                          exact ih42 (i + 1) Dd c9 _ _ _ (by have := (nI_nE (a := no) (b := i) (by omega) (by omega) c48); omega) (by have := (nI_nE (a := no) (b := i) (by omega) (by omega) c48); omega) (by rw [← hv, show no - i = (no - (i + 1)) + 1 from by have := (nI_nE (a := no) (b := i) (by omega) (by omega) c48); omega, dR, if_neg (show ¬ (O i 4 = 0 ∧ O i 0 = nI k ∧ O i 1 = nI (z1 + 1)) from fun h => c81 h.2.2)]) (lSt_skip hSt) (lv_sub hl [1, 2, 3, 0, 4, 5] rfl) hO hS
              exact L42 _ 0 Dz cz _ _ _ (Nat.lt_succ_self _) (by omega) rfl hSz (lv_sub hl [1, 2, 3, 0, 4, 5] rfl) hO hS
        have e9 : i = no := Nat.le_antisymm hi (nI_E (a := no) (b := i) (by omega) (by omega) c13)
        rw [e9] at hc
        exact L34 _ 9 ([]) c9 _ _ _ (Nat.lt_succ_self _) (by omega) rfl (lSt_0 hc) (lv_sub hl [1, 2, 0, 3, 4] rfl) hO hS
      · refine lv_aload_n hx hb dX6_possibleOf_16 rfl (lv_at hl 0 rfl) ?_
        refine m_get inX6 hF hC hO rfl rfl 13 (by decide) q_675 (v := .ref (ad 55)) rfl dX6_possibleOf_17 ?_
        refine lv_iload hx hb dX6_possibleOf_20 (lv_at hl 4 rfl) ?_
        refine lv_iconst (v := 0) hx hb dX6_possibleOf_22 (by decide) ?_
        refine m_zast hF hC hO hS rfl (j := i) (nI_clamp (by have := (nI_nE (a := no) (b := i) (by omega) (by omega) c13); omega)) rfl (vp_in_nI (by have := (nI_nE (a := no) (b := i) (by omega) (by omega) c13); omega) (by decide)) dX6_possibleOf_23 (fun H locs hO hS => ?_)
        have hO : mO G lo ad (mU (WM G ad th g nf F f no O it c9 R) 55 (.inl (G.2 2, 20, .inl (upd c9 i 0)))) H := hO
        rw [WM_w5] at hO
        refine lv_iinc (v := (nI (i + 1))) (lv' := [(4, .int (nI (i + 1))), (0, .ref (ad 50)), (1, .int (nI k)), (2, .int 0), (3, .int 0)]) hx hb dX6_possibleOf_24 hl (k := 4) rfl (nI_inc i) (by decide) rfl (fun ls hl => ?_)
        refine lv_goto (tgt := 7) hx hb dX6_possibleOf_27 (by decide) ?_
        exact ih7 (i + 1) (upd c9 i 0) _ _ _ (by have := (nI_nE (a := no) (b := i) (by omega) (by omega) c13); omega) (by have := (nI_nE (a := no) (b := i) (by omega) (by omega) c13); omega) (fun j hj => by by_cases e : j = i; rw [e, upd_at]; rw [upd_no e]; exact hc j (by omega)) (lv_sub hl [1, 2, 3, 4, 0] rfl) hO hS
  exact L7 _ 0 ch _ _ _ (Nat.lt_succ_self _) (by omega) (fun j hj => absurd hj (Nat.not_lt_zero _)) (lv_sub hl [3, 4, 2, 1, 0] rfl) hO hS
