theorem ok_X5_digest : mOK RX5 yX5_digest cX5_digest 5 (some .long) 0 := ⟨q_211, q_212, q_1, q_213, by decide +kernel⟩
set_option maxHeartbeats 400000 in
set_option maxRecDepth 100000 in
theorem k_X5_digest (l : Launch) (G : mG) (lo : Nat) (sa ad : Nat → Nat) (R : mM) (g : Nat → Int32) (nf : Nat) (F : Nat → Nat → Int32) (f : Nat → Int32) (no : Nat) (O : Nat → Nat → Int32) (tf tv fw : Nat → Int32) (hnf : nf ≤ 12) (hno : no ≤ 20) (hOk : ∀ j, j < no → ∃ kk zz, kk < 4 ∧ 1 ≤ zz ∧ zz ≤ 9 ∧ O j 0 = nI kk ∧ O j 1 = nI zz) (hcr : ∀ i, i < nf → F i 4 = 0 ∨ F i 4 = 1) : mL l yX5_digest cX5_digest 5 6 133 G lo sa ad (WC G ad g nf F f no O tf tv fw R) [.ref (ad 0)] (fun v R' => v = cg_5 g nf F f no O ∧ R' = (WC G ad g nf F f no O tf tv fw R)) := by
  refine mL_of (by decide) (Nat.le_of_ble_eq_true rfl) ?_
  intro p e s m args below meth c hF hr hlk hC ls hl hO hS Q hQ
  have hx := hF.1
  have hb := hF.2.1
  have hl : lv_has ls 5 [(0, .ref (ad 0))] := hl
  refine lv_ldc2 hx hb hF.2.2.2.1 (hF.2.2.2.2 _ q_214) dX5_digest_0 ?_
  refine lv_lstore_n (lv' := [(1, .long 613), (0, .ref (ad 0))]) hx hb dX5_digest_3 rfl hl (by decide) rfl (fun ls hl => ?_)
  refine lv_iconst (v := 0) hx hb dX5_digest_4 (by decide) ?_
  refine lv_istore_n (lv' := [(3, .int 0), (1, .long 613), (0, .ref (ad 0))]) hx hb dX5_digest_5 rfl hl (by decide) rfl (fun ls hl => ?_)
  have L6 : ∀ (n : Nat) (a1 : Nat) (d1 : Int64) (H : Heap) (locs : List Loc) (ls : Array Slot), 9 - a1 < n → a1 ≤ 9 → 0 ≤ a1 → dgL (9 - a1) a1 (c_count g nf F f no O) d1 = cg_1 g nf F f no O → lv_has ls 5 [(0, .ref (ad 0)), (3, .int (nI a1)), (1, .long d1)] → mO G lo ad (WC G ad g nf F f no O tf tv fw R) H → va_S (mA lo) s.heap H locs → W p l e (mRm 6 133) s m args below meth c H locs 0 0 Q (F0 m 6 ls []) := by
    intro n
    induction n with
    | zero => intro a1 d1 H locs ls hn; exact absurd hn (Nat.not_lt_zero _)
    | succ n ih6 =>
      intro a1 d1 H locs ls hn6 ha1 h0a1 hva1 hl hO hS
      refine lv_iload_n hx hb dX5_digest_6 rfl (lv_at hl 1 rfl) ?_
      refine lv_bipush (v := 8) hx hb dX5_digest_7 (by decide) ?_
      refine lv_icmp_gt (tgt := 31) hx hb dX5_digest_9 (by decide) (fun c9 => ?_) (fun c9 => ?_)
      · refine lv_iconst (v := 0) hx hb dX5_digest_31 (by decide) ?_
        refine lv_istore_n (lv' := [(3, .int 0), (0, .ref (ad 0)), (1, .long d1)]) hx hb dX5_digest_32 rfl hl (by decide) rfl (fun ls hl => ?_)
        have L33 : ∀ (n : Nat) (a2 : Nat) (d2 : Int64) (H : Heap) (locs : List Loc) (ls : Array Slot), 4 - a2 < n → a2 ≤ 4 → 0 ≤ a2 → dgL (4 - a2) a2 (fun k => m_vat g (nI k)) d2 = cg_2 g nf F f no O → lv_has ls 5 [(0, .ref (ad 0)), (3, .int (nI a2)), (1, .long d2)] → mO G lo ad (WC G ad g nf F f no O tf tv fw R) H → va_S (mA lo) s.heap H locs → W p l e (mRm 6 133) s m args below meth c H locs 0 0 Q (F0 m 33 ls []) := by
          intro n
          induction n with
          | zero => intro a2 d2 H locs ls hn; exact absurd hn (Nat.not_lt_zero _)
          | succ n ih33 =>
            intro a2 d2 H locs ls hn33 ha2 h0a2 hva2 hl hO hS
            refine lv_iload_n hx hb dX5_digest_33 rfl (lv_at hl 1 rfl) ?_
            refine lv_iconst (v := 3) hx hb dX5_digest_34 (by decide) ?_
            refine lv_icmp_gt (tgt := 57) hx hb dX5_digest_35 (by decide) (fun c35 => ?_) (fun c35 => ?_)
            · refine lv_iconst (v := 0) hx hb dX5_digest_57 (by decide) ?_
              refine lv_istore_n (lv' := [(3, .int 0), (0, .ref (ad 0)), (1, .long d2)]) hx hb dX5_digest_58 rfl hl (by decide) rfl (fun ls hl => ?_)
              have L59 : ∀ (n : Nat) (a3 : Nat) (d3 : Int64) (H : Heap) (locs : List Loc) (ls : Array Slot), nf - a3 < n → a3 ≤ nf → 0 ≤ a3 → dgN (nf - a3) a3 (fun i d => dgL 8 0 (c_frame (F i)) d) d3 = cg_3 g nf F f no O → lv_has ls 5 [(0, .ref (ad 0)), (3, .int (nI a3)), (1, .long d3)] → mO G lo ad (WC G ad g nf F f no O tf tv fw R) H → va_S (mA lo) s.heap H locs → W p l e (mRm 6 133) s m args below meth c H locs 0 0 Q (F0 m 59 ls []) := by
                intro n
                induction n with
                | zero => intro a3 d3 H locs ls hn; exact absurd hn (Nat.not_lt_zero _)
                | succ n ih59 =>
                  intro a3 d3 H locs ls hn59 ha3 h0a3 hva3 hl hO hS
                  refine lv_iload_n hx hb dX5_digest_59 rfl (lv_at hl 1 rfl) ?_
                  refine lv_aload_n hx hb dX5_digest_60 rfl (lv_at hl 0 rfl) ?_
                  refine m_vI (As := []) (rest := [.int (nI a3)]) (n := 0) hF hC hO hS (k_X5_framesMade l G lo sa ad R g nf F f no O tf tv fw hnf hno) ok_X5_framesMade q_220 rfl rfl ⟨Nat.le_of_ble_eq_true rfl, Nat.le_of_ble_eq_true rfl⟩ rfl hl.1 rfl (Nat.le_of_ble_eq_true rfl) ⟨Nat.le_of_ble_eq_true rfl, Nat.le_of_ble_eq_true rfl⟩ dX5_digest_61 (fun v61 R' H locs hp hO hS => ?_)
                  obtain ⟨rfl, hR⟩ := hp
                  rw [hR] at hO
                  refine lv_icmp_ge (tgt := 104) hx hb dX5_digest_64 (by decide) (fun c64 => ?_) (fun c64 => ?_)
                  · refine lv_iconst (v := 0) hx hb dX5_digest_104 (by decide) ?_
                    refine lv_istore_n (lv' := [(3, .int 0), (0, .ref (ad 0)), (1, .long d3)]) hx hb dX5_digest_105 rfl hl (by decide) rfl (fun ls hl => ?_)
                    have L106 : ∀ (n : Nat) (a4 : Nat) (d4 : Int64) (H : Heap) (locs : List Loc) (ls : Array Slot), 4 - a4 < n → a4 ≤ 4 → 0 ≤ a4 → dgN (4 - a4) a4 (fun k d => dgL 9 1 (fun z => f (9 * k + z - 1)) d) d4 = cg_4 g nf F f no O → lv_has ls 5 [(0, .ref (ad 0)), (3, .int (nI a4)), (1, .long d4)] → mO G lo ad (WC G ad g nf F f no O tf tv fw R) H → va_S (mA lo) s.heap H locs → W p l e (mRm 6 133) s m args below meth c H locs 0 0 Q (F0 m 106 ls []) := by
                      intro n
                      induction n with
                      | zero => intro a4 d4 H locs ls hn; exact absurd hn (Nat.not_lt_zero _)
                      | succ n ih106 =>
                        intro a4 d4 H locs ls hn106 ha4 h0a4 hva4 hl hO hS
                        refine lv_iload_n hx hb dX5_digest_106 rfl (lv_at hl 1 rfl) ?_
                        refine lv_iconst (v := 4) hx hb dX5_digest_107 (by decide) ?_
                        refine lv_icmp_ge (tgt := 148) hx hb dX5_digest_108 (by decide) (fun c108 => ?_) (fun c108 => ?_)
                        · refine lv_iconst (v := 0) hx hb dX5_digest_148 (by decide) ?_
                          refine lv_istore_n (lv' := [(3, .int 0), (0, .ref (ad 0)), (1, .long d4)]) hx hb dX5_digest_149 rfl hl (by decide) rfl (fun ls hl => ?_)
                          have L150 : ∀ (n : Nat) (a5 : Nat) (d5 : Int64) (H : Heap) (locs : List Loc) (ls : Array Slot), no - a5 < n → a5 ≤ no → 0 ≤ a5 → dgN (no - a5) a5 (fun j d => dgL 6 0 (V_order f (O j)) d) d5 = cg_5 g nf F f no O → lv_has ls 5 [(0, .ref (ad 0)), (3, .int (nI a5)), (1, .long d5)] → mO G lo ad (WC G ad g nf F f no O tf tv fw R) H → va_S (mA lo) s.heap H locs → W p l e (mRm 6 133) s m args below meth c H locs 0 0 Q (F0 m 150 ls []) := by
                            intro n
                            induction n with
                            | zero => intro a5 d5 H locs ls hn; exact absurd hn (Nat.not_lt_zero _)
                            | succ n ih150 =>
                              intro a5 d5 H locs ls hn150 ha5 h0a5 hva5 hl hO hS
                              refine lv_iload_n hx hb dX5_digest_150 rfl (lv_at hl 1 rfl) ?_
                              refine lv_aload_n hx hb dX5_digest_151 rfl (lv_at hl 0 rfl) ?_
                              refine m_vI (As := []) (rest := [.int (nI a5)]) (n := 0) hF hC hO hS (k_X5_ordersTaken l G lo sa ad R g nf F f no O tf tv fw hnf hno) ok_X5_ordersTaken q_233 rfl rfl ⟨Nat.le_of_ble_eq_true rfl, Nat.le_of_ble_eq_true rfl⟩ rfl hl.1 rfl (Nat.le_of_ble_eq_true rfl) ⟨Nat.le_of_ble_eq_true rfl, Nat.le_of_ble_eq_true rfl⟩ dX5_digest_152 (fun v152 R' H locs hp hO hS => ?_)
                              obtain ⟨rfl, hR⟩ := hp
                              rw [hR] at hO
                              refine lv_icmp_ge (tgt := 194) hx hb dX5_digest_155 (by decide) (fun c155 => ?_) (fun c155 => ?_)
                              · refine lv_lload_n hx hb dX5_digest_194 rfl (lv_at hl 2 rfl) ?_
                                refine m_lret hF hr hlk hQ hO hS dX5_digest_195 ?_
                                have e9 : a5 = no := Nat.le_antisymm ha5 (nI_E (a := no) (b := a5) (by omega) (by omega) c155)
                                rw [e9, Nat.sub_self] at hva5
                                exact ⟨hva5, rfl⟩
                              · have ha5 := (show a5 < no from (nI_nE (a := no) (b := a5) (by omega) (by omega) c155))
                                obtain ⟨kk, zz, hkk, hz1, hz9, hw0, hw1⟩ := hOk a5 ha5
                                have hn0 : nn (O a5 0) = kk := by rw [hw0]; exact nn_nI (by omega)
                                have hn1 : nn (O a5 1) = zz := by rw [hw1]; exact nn_nI (by omega)
                                refine lv_iconst (v := 0) hx hb dX5_digest_158 (by decide) ?_
                                refine lv_istore (lv' := [(4, .int 0), (0, .ref (ad 0)), (3, .int (nI a5)), (1, .long d5)]) hx hb dX5_digest_159 hl (by decide) rfl (fun ls hl => ?_)
                                have L161 : ∀ (n : Nat) (b5 : Nat) (e5 : Int64) (H : Heap) (locs : List Loc) (ls : Array Slot), 6 - b5 < n → b5 ≤ 6 → 0 ≤ b5 → dgL (6 - b5) b5 (V_order f (O a5)) e5 = dgL 6 0 (V_order f (O a5)) d5 → lv_has ls 5 [(0, .ref (ad 0)), (3, .int (nI a5)), (4, .int (nI b5)), (1, .long e5)] → mO G lo ad (WC G ad g nf F f no O tf tv fw R) H → va_S (mA lo) s.heap H locs → W p l e (mRm 6 133) s m args below meth c H locs 0 0 Q (F0 m 161 ls []) := by
                                  intro n
                                  induction n with
                                  | zero => intro b5 e5 H locs ls hn; exact absurd hn (Nat.not_lt_zero _)
                                  | succ n ih161 =>
                                    intro b5 e5 H locs ls hn161 hb5 h0b5 hvb5 hl hO hS
                                    refine lv_iload hx hb dX5_digest_161 (lv_at hl 2 rfl) ?_
                                    refine lv_iconst (v := 5) hx hb dX5_digest_163 (by decide) ?_
                                    refine lv_icmp_gt (tgt := 188) hx hb dX5_digest_164 (by decide) (fun c164 => ?_) (fun c164 => ?_)
                                    · refine lv_iinc (v := (nI (a5 + 1))) (lv' := [(3, .int (nI (a5 + 1))), (0, .ref (ad 0)), (4, .int (nI b5)), (1, .long e5)]) hx hb dX5_digest_188 hl (k := 1) rfl (nI_inc a5) (by decide) rfl (fun ls hl => ?_)
                                      refine lv_goto (tgt := 150) hx hb dX5_digest_191 (by decide) ?_
                                      exact ih150 (a5 + 1) e5 _ _ _ (by have := (show a5 < no from (nI_nE (a := no) (b := a5) (by omega) (by omega) c155)); omega) (by have := (show a5 < no from (nI_nE (a := no) (b := a5) (by omega) (by omega) c155)); omega) (by omega) (by have := (show a5 < no from (nI_nE (a := no) (b := a5) (by omega) (by omega) c155)); have e9 : b5 = 6 := (by have := nI_L (a := 5) (b := b5) (by decide) (by omega) c164; omega); rw [e9, Nat.sub_self] at hvb5; rw [← hva5, show no - a5 = (no - (a5 + 1)) + 1 from by omega, dgN, ← hvb5]; rfl) (lv_sub hl [1, 0, 3] rfl) hO hS
                                    · refine lv_lload_n hx hb dX5_digest_167 rfl (lv_at hl 3 rfl) ?_
                                      refine lv_ldc2 hx hb hF.2.2.2.1 (hF.2.2.2.2 _ q_215) dX5_digest_168 ?_
                                      refine lv_lmul hx hb dX5_digest_171 ?_
                                      refine lv_aload_n hx hb dX5_digest_172 rfl (lv_at hl 0 rfl) ?_
                                      refine lv_iload_n hx hb dX5_digest_173 rfl (lv_at hl 1 rfl) ?_
                                      refine lv_iload hx hb dX5_digest_174 (lv_at hl 2 rfl) ?_
                                      refine m_vI (As := [.int (nI a5), .int (nI b5)]) (rest := [.long (e5 * 31)]) (n := 2) hF hC hO hS (k_X5_order l G lo sa ad R g nf F f no O tf tv fw a5 b5 kk zz hnf hno ha5 (by have := (show b5 < 6 from (by have := nI_nL (a := 5) (b := b5) (by decide) (by omega) c164; omega)); omega) hkk hz1 hz9 hw0 hw1) ok_X5_order q_336 rfl rfl ⟨Nat.le_of_ble_eq_true rfl, Nat.le_of_ble_eq_true rfl⟩ rfl hl.1 rfl (Nat.le_of_ble_eq_true rfl) ⟨Nat.le_of_ble_eq_true rfl, Nat.le_of_ble_eq_true rfl⟩ dX5_digest_176 (fun v176 R' H locs hp hO hS => ?_)
                                      obtain ⟨rfl, hR⟩ := hp
                                      rw [hR] at hO
                                      rw [show (if b5 < 5 then O a5 b5 else if O a5 4 ≠ 1 ∧ O a5 2 ≤ p_amountFrom f kk zz then 1 else 0) = V_order f (O a5) b5 from (V_order_k hn0 hn1).symm]
                                      refine lv_i2l (v := ((V_order f (O a5) b5).toInt64)) hx hb dX5_digest_179 rfl ?_
                                      refine lv_ladd hx hb dX5_digest_180 ?_
                                      refine lv_lstore_n (lv' := [(1, .long ((e5 * 31) + (V_order f (O a5) b5).toInt64)), (0, .ref (ad 0)), (3, .int (nI a5)), (4, .int (nI b5))]) hx hb dX5_digest_181 rfl hl (by decide) rfl (fun ls hl => ?_)
                                      refine lv_iinc (v := (nI (b5 + 1))) (lv' := [(4, .int (nI (b5 + 1))), (1, .long ((e5 * 31) + (V_order f (O a5) b5).toInt64)), (0, .ref (ad 0)), (3, .int (nI a5))]) hx hb dX5_digest_182 hl (k := 3) rfl (nI_inc b5) (by decide) rfl (fun ls hl => ?_)
                                      refine lv_goto (tgt := 161) hx hb dX5_digest_185 (by decide) ?_
                                      exact ih161 (b5 + 1) ((e5 * 31) + (V_order f (O a5) b5).toInt64) _ _ _ (by have := (show b5 < 6 from (by have := nI_nL (a := 5) (b := b5) (by decide) (by omega) c164; omega)); omega) (by have := (show b5 < 6 from (by have := nI_nL (a := 5) (b := b5) (by decide) (by omega) c164; omega)); omega) (by omega) (by have := (show b5 < 6 from (by have := nI_nL (a := 5) (b := b5) (by decide) (by omega) c164; omega)); rw [← hvb5, show 6 - b5 = (6 - (b5 + 1)) + 1 from by omega]; rfl) (lv_sub hl [2, 3, 0, 1] rfl) hO hS
                                exact L161 _ 0 d5 _ _ _ (Nat.lt_succ_self _) (by omega) (by omega) rfl (lv_sub hl [1, 2, 0, 3] rfl) hO hS
                          exact L150 _ 0 d4 _ _ _ (Nat.lt_succ_self _) (by omega) (by omega) (by have e9 : a4 = 4 := (by have := nI_E (a := 4) (b := a4) (by omega) (by omega) c108; omega); rw [e9, Nat.sub_self] at hva4; rw [show d4 = cg_4 g nf F f no O from hva4]; rfl) (lv_sub hl [1, 0, 2] rfl) hO hS
                        · refine lv_iconst (v := 1) hx hb dX5_digest_111 (by decide) ?_
                          refine lv_istore (lv' := [(4, .int 1), (0, .ref (ad 0)), (3, .int (nI a4)), (1, .long d4)]) hx hb dX5_digest_112 hl (by decide) rfl (fun ls hl => ?_)
                          have L114 : ∀ (n : Nat) (b4 : Nat) (e4 : Int64) (H : Heap) (locs : List Loc) (ls : Array Slot), 10 - b4 < n → b4 ≤ 10 → 1 ≤ b4 → dgL (10 - b4) b4 (fun z => f (9 * a4 + z - 1)) e4 = dgL 9 1 (fun z => f (9 * a4 + z - 1)) d4 → lv_has ls 5 [(0, .ref (ad 0)), (3, .int (nI a4)), (4, .int (nI b4)), (1, .long e4)] → mO G lo ad (WC G ad g nf F f no O tf tv fw R) H → va_S (mA lo) s.heap H locs → W p l e (mRm 6 133) s m args below meth c H locs 0 0 Q (F0 m 114 ls []) := by
                            intro n
                            induction n with
                            | zero => intro b4 e4 H locs ls hn; exact absurd hn (Nat.not_lt_zero _)
                            | succ n ih114 =>
                              intro b4 e4 H locs ls hn114 hb4 h0b4 hvb4 hl hO hS
                              refine lv_iload hx hb dX5_digest_114 (lv_at hl 2 rfl) ?_
                              refine lv_bipush (v := 9) hx hb dX5_digest_116 (by decide) ?_
                              refine lv_icmp_gt (tgt := 142) hx hb dX5_digest_118 (by decide) (fun c118 => ?_) (fun c118 => ?_)
                              · refine lv_iinc (v := (nI (a4 + 1))) (lv' := [(3, .int (nI (a4 + 1))), (0, .ref (ad 0)), (4, .int (nI b4)), (1, .long e4)]) hx hb dX5_digest_142 hl (k := 1) rfl (nI_inc a4) (by decide) rfl (fun ls hl => ?_)
                                refine lv_goto (tgt := 106) hx hb dX5_digest_145 (by decide) ?_
                                exact ih106 (a4 + 1) e4 _ _ _ (by have := (show a4 < 4 from (nI_nE (a := 4) (b := a4) (by omega) (by omega) c108)); omega) (by have := (show a4 < 4 from (nI_nE (a := 4) (b := a4) (by omega) (by omega) c108)); omega) (by omega) (by have := (show a4 < 4 from (nI_nE (a := 4) (b := a4) (by omega) (by omega) c108)); have e9 : b4 = 10 := (by have := nI_L (a := 9) (b := b4) (by decide) (by omega) c118; omega); rw [e9, Nat.sub_self] at hvb4; rw [← hva4, show 4 - a4 = (4 - (a4 + 1)) + 1 from by omega, dgN, ← hvb4]; rfl) (lv_sub hl [1, 0, 3] rfl) hO hS
                              · refine lv_lload_n hx hb dX5_digest_121 rfl (lv_at hl 3 rfl) ?_
                                refine lv_ldc2 hx hb hF.2.2.2.1 (hF.2.2.2.2 _ q_215) dX5_digest_122 ?_
                                refine lv_lmul hx hb dX5_digest_125 ?_
                                refine lv_aload_n hx hb dX5_digest_126 rfl (lv_at hl 0 rfl) ?_
                                refine lv_iload_n hx hb dX5_digest_127 rfl (lv_at hl 1 rfl) ?_
                                refine lv_iload hx hb dX5_digest_128 (lv_at hl 2 rfl) ?_
                                refine m_vI (As := [.int (nI a4), .int (nI b4)]) (rest := [.long (e4 * 31)]) (n := 2) hF hC hO hS (k_X5_store l G lo sa ad R g nf F f no O tf tv fw a4 b4 hnf hno (show a4 < 4 from (nI_nE (a := 4) (b := a4) (by omega) (by omega) c108)) h0b4 (by have := (show b4 < 10 from (by have := nI_nL (a := 9) (b := b4) (by decide) (by omega) c118; omega)); omega)) ok_X5_store q_329 rfl rfl ⟨Nat.le_of_ble_eq_true rfl, Nat.le_of_ble_eq_true rfl⟩ rfl hl.1 rfl (Nat.le_of_ble_eq_true rfl) ⟨Nat.le_of_ble_eq_true rfl, Nat.le_of_ble_eq_true rfl⟩ dX5_digest_130 (fun v130 R' H locs hp hO hS => ?_)
                                obtain ⟨rfl, hR⟩ := hp
                                rw [hR] at hO
                                refine lv_i2l (v := ((f (9 * a4 + b4 - 1)).toInt64)) hx hb dX5_digest_133 rfl ?_
                                refine lv_ladd hx hb dX5_digest_134 ?_
                                refine lv_lstore_n (lv' := [(1, .long ((e4 * 31) + (f (9 * a4 + b4 - 1)).toInt64)), (0, .ref (ad 0)), (3, .int (nI a4)), (4, .int (nI b4))]) hx hb dX5_digest_135 rfl hl (by decide) rfl (fun ls hl => ?_)
                                refine lv_iinc (v := (nI (b4 + 1))) (lv' := [(4, .int (nI (b4 + 1))), (1, .long ((e4 * 31) + (f (9 * a4 + b4 - 1)).toInt64)), (0, .ref (ad 0)), (3, .int (nI a4))]) hx hb dX5_digest_136 hl (k := 3) rfl (nI_inc b4) (by decide) rfl (fun ls hl => ?_)
                                refine lv_goto (tgt := 114) hx hb dX5_digest_139 (by decide) ?_
                                exact ih114 (b4 + 1) ((e4 * 31) + (f (9 * a4 + b4 - 1)).toInt64) _ _ _ (by have := (show b4 < 10 from (by have := nI_nL (a := 9) (b := b4) (by decide) (by omega) c118; omega)); omega) (by have := (show b4 < 10 from (by have := nI_nL (a := 9) (b := b4) (by decide) (by omega) c118; omega)); omega) (by omega) (by have := (show b4 < 10 from (by have := nI_nL (a := 9) (b := b4) (by decide) (by omega) c118; omega)); rw [← hvb4, show 10 - b4 = (10 - (b4 + 1)) + 1 from by omega]; rfl) (lv_sub hl [2, 3, 0, 1] rfl) hO hS
                          exact L114 _ 1 d4 _ _ _ (Nat.lt_succ_self _) (by omega) (by omega) rfl (lv_sub hl [1, 2, 0, 3] rfl) hO hS
                    exact L106 _ 0 d3 _ _ _ (Nat.lt_succ_self _) (by omega) (by omega) (by have e9 : a3 = nf := (by have := nI_E (a := nf) (b := a3) (by omega) (by omega) c64; omega); rw [e9, Nat.sub_self] at hva3; rw [show d3 = cg_3 g nf F f no O from hva3]; rfl) (lv_sub hl [1, 0, 2] rfl) hO hS
                  · have ha3 := (show a3 < nf from (nI_nE (a := nf) (b := a3) (by omega) (by omega) c64))
                    refine lv_iconst (v := 0) hx hb dX5_digest_67 (by decide) ?_
                    refine lv_istore (lv' := [(4, .int 0), (0, .ref (ad 0)), (3, .int (nI a3)), (1, .long d3)]) hx hb dX5_digest_68 hl (by decide) rfl (fun ls hl => ?_)
                    have L70 : ∀ (n : Nat) (b3 : Nat) (e3 : Int64) (H : Heap) (locs : List Loc) (ls : Array Slot), 8 - b3 < n → b3 ≤ 8 → 0 ≤ b3 → dgL (8 - b3) b3 (c_frame (F a3)) e3 = dgL 8 0 (c_frame (F a3)) d3 → lv_has ls 5 [(0, .ref (ad 0)), (3, .int (nI a3)), (4, .int (nI b3)), (1, .long e3)] → mO G lo ad (WC G ad g nf F f no O tf tv fw R) H → va_S (mA lo) s.heap H locs → W p l e (mRm 6 133) s m args below meth c H locs 0 0 Q (F0 m 70 ls []) := by
                      intro n
                      induction n with
                      | zero => intro b3 e3 H locs ls hn; exact absurd hn (Nat.not_lt_zero _)
                      | succ n ih70 =>
                        intro b3 e3 H locs ls hn70 hb3 h0b3 hvb3 hl hO hS
                        refine lv_iload hx hb dX5_digest_70 (lv_at hl 2 rfl) ?_
                        refine lv_bipush (v := 7) hx hb dX5_digest_72 (by decide) ?_
                        refine lv_icmp_gt (tgt := 98) hx hb dX5_digest_74 (by decide) (fun c74 => ?_) (fun c74 => ?_)
                        · refine lv_iinc (v := (nI (a3 + 1))) (lv' := [(3, .int (nI (a3 + 1))), (0, .ref (ad 0)), (4, .int (nI b3)), (1, .long e3)]) hx hb dX5_digest_98 hl (k := 1) rfl (nI_inc a3) (by decide) rfl (fun ls hl => ?_)
                          refine lv_goto (tgt := 59) hx hb dX5_digest_101 (by decide) ?_
                          exact ih59 (a3 + 1) e3 _ _ _ (by have := (show a3 < nf from (nI_nE (a := nf) (b := a3) (by omega) (by omega) c64)); omega) (by have := (show a3 < nf from (nI_nE (a := nf) (b := a3) (by omega) (by omega) c64)); omega) (by omega) (by have := (show a3 < nf from (nI_nE (a := nf) (b := a3) (by omega) (by omega) c64)); have e9 : b3 = 8 := (by have := nI_L (a := 7) (b := b3) (by decide) (by omega) c74; omega); rw [e9, Nat.sub_self] at hvb3; rw [← hva3, show nf - a3 = (nf - (a3 + 1)) + 1 from by omega, dgN, ← hvb3]; rfl) (lv_sub hl [1, 0, 3] rfl) hO hS
                        · refine lv_lload_n hx hb dX5_digest_77 rfl (lv_at hl 3 rfl) ?_
                          refine lv_ldc2 hx hb hF.2.2.2.1 (hF.2.2.2.2 _ q_215) dX5_digest_78 ?_
                          refine lv_lmul hx hb dX5_digest_81 ?_
                          refine lv_aload_n hx hb dX5_digest_82 rfl (lv_at hl 0 rfl) ?_
                          refine lv_iload_n hx hb dX5_digest_83 rfl (lv_at hl 1 rfl) ?_
                          refine lv_iload hx hb dX5_digest_84 (lv_at hl 2 rfl) ?_
                          refine m_vI (As := [.int (nI a3), .int (nI b3)]) (rest := [.long (e3 * 31)]) (n := 2) hF hC hO hS (k_X5_frame l G lo sa ad R g nf F f no O tf tv fw a3 b3 hnf hno ha3 (by have := (show b3 < 8 from (by have := nI_nL (a := 7) (b := b3) (by decide) (by omega) c74; omega)); omega) (hcr a3 ha3)) ok_X5_frame q_315 rfl rfl ⟨Nat.le_of_ble_eq_true rfl, Nat.le_of_ble_eq_true rfl⟩ rfl hl.1 rfl (Nat.le_of_ble_eq_true rfl) ⟨Nat.le_of_ble_eq_true rfl, Nat.le_of_ble_eq_true rfl⟩ dX5_digest_86 (fun v86 R' H locs hp hO hS => ?_)
                          obtain ⟨rfl, hR⟩ := hp
                          rw [hR] at hO
                          refine lv_i2l (v := ((c_frame (F a3) b3).toInt64)) hx hb dX5_digest_89 rfl ?_
                          refine lv_ladd hx hb dX5_digest_90 ?_
                          refine lv_lstore_n (lv' := [(1, .long ((e3 * 31) + (c_frame (F a3) b3).toInt64)), (0, .ref (ad 0)), (3, .int (nI a3)), (4, .int (nI b3))]) hx hb dX5_digest_91 rfl hl (by decide) rfl (fun ls hl => ?_)
                          refine lv_iinc (v := (nI (b3 + 1))) (lv' := [(4, .int (nI (b3 + 1))), (1, .long ((e3 * 31) + (c_frame (F a3) b3).toInt64)), (0, .ref (ad 0)), (3, .int (nI a3))]) hx hb dX5_digest_92 hl (k := 3) rfl (nI_inc b3) (by decide) rfl (fun ls hl => ?_)
                          refine lv_goto (tgt := 70) hx hb dX5_digest_95 (by decide) ?_
                          exact ih70 (b3 + 1) ((e3 * 31) + (c_frame (F a3) b3).toInt64) _ _ _ (by have := (show b3 < 8 from (by have := nI_nL (a := 7) (b := b3) (by decide) (by omega) c74; omega)); omega) (by have := (show b3 < 8 from (by have := nI_nL (a := 7) (b := b3) (by decide) (by omega) c74; omega)); omega) (by omega) (by have := (show b3 < 8 from (by have := nI_nL (a := 7) (b := b3) (by decide) (by omega) c74; omega)); rw [← hvb3, show 8 - b3 = (8 - (b3 + 1)) + 1 from by omega]; rfl) (lv_sub hl [2, 3, 0, 1] rfl) hO hS
                    exact L70 _ 0 d3 _ _ _ (Nat.lt_succ_self _) (by omega) (by omega) rfl (lv_sub hl [1, 2, 0, 3] rfl) hO hS
              exact L59 _ 0 d2 _ _ _ (Nat.lt_succ_self _) (by omega) (by omega) (by have e9 : a2 = 4 := (by have := nI_L (a := 3) (b := a2) (by decide) (by omega) c35; omega); rw [e9, Nat.sub_self] at hva2; rw [show d2 = cg_2 g nf F f no O from hva2]; rfl) (lv_sub hl [1, 0, 2] rfl) hO hS
            · refine lv_lload_n hx hb dX5_digest_38 rfl (lv_at hl 2 rfl) ?_
              refine lv_ldc2 hx hb hF.2.2.2.1 (hF.2.2.2.2 _ q_215) dX5_digest_39 ?_
              refine lv_lmul hx hb dX5_digest_42 ?_
              refine lv_aload_n hx hb dX5_digest_43 rfl (lv_at hl 0 rfl) ?_
              refine lv_iload_n hx hb dX5_digest_44 rfl (lv_at hl 1 rfl) ?_
              refine m_vI (As := [.int (nI a2)]) (rest := [.long (d2 * 31)]) (n := 1) hF hC hO hS (k_X5_vat l G lo sa ad R g nf F f no O tf tv fw a2 hnf hno (by have := (show a2 < 4 from (by have := nI_nL (a := 3) (b := a2) (by decide) (by omega) c35; omega)); omega)) ok_X5_vat q_309 rfl rfl ⟨Nat.le_of_ble_eq_true rfl, Nat.le_of_ble_eq_true rfl⟩ rfl hl.1 rfl (Nat.le_of_ble_eq_true rfl) ⟨Nat.le_of_ble_eq_true rfl, Nat.le_of_ble_eq_true rfl⟩ dX5_digest_45 (fun v45 R' H locs hp hO hS => ?_)
              obtain ⟨rfl, hR⟩ := hp
              rw [hR] at hO
              refine lv_i2l (v := ((m_vat g (nI a2)).toInt64)) hx hb dX5_digest_48 rfl ?_
              refine lv_ladd hx hb dX5_digest_49 ?_
              refine lv_lstore_n (lv' := [(1, .long ((d2 * 31) + (m_vat g (nI a2)).toInt64)), (0, .ref (ad 0)), (3, .int (nI a2))]) hx hb dX5_digest_50 rfl hl (by decide) rfl (fun ls hl => ?_)
              refine lv_iinc (v := (nI (a2 + 1))) (lv' := [(3, .int (nI (a2 + 1))), (1, .long ((d2 * 31) + (m_vat g (nI a2)).toInt64)), (0, .ref (ad 0))]) hx hb dX5_digest_51 hl (k := 2) rfl (nI_inc a2) (by decide) rfl (fun ls hl => ?_)
              refine lv_goto (tgt := 33) hx hb dX5_digest_54 (by decide) ?_
              exact ih33 (a2 + 1) ((d2 * 31) + (m_vat g (nI a2)).toInt64) _ _ _ (by have := (show a2 < 4 from (by have := nI_nL (a := 3) (b := a2) (by decide) (by omega) c35; omega)); omega) (by have := (show a2 < 4 from (by have := nI_nL (a := 3) (b := a2) (by decide) (by omega) c35; omega)); omega) (by omega) (by have := (show a2 < 4 from (by have := nI_nL (a := 3) (b := a2) (by decide) (by omega) c35; omega)); rw [← hva2, show 4 - a2 = (4 - (a2 + 1)) + 1 from by omega]; rfl) (lv_sub hl [2, 0, 1] rfl) hO hS
        exact L33 _ 0 d1 _ _ _ (Nat.lt_succ_self _) (by omega) (by omega) (by have e9 : a1 = 9 := (by have := nI_L (a := 8) (b := a1) (by decide) (by omega) c9; omega); rw [e9, Nat.sub_self] at hva1; rw [show d1 = cg_1 g nf F f no O from hva1]; rfl) (lv_sub hl [1, 0, 2] rfl) hO hS
      · refine lv_lload_n hx hb dX5_digest_12 rfl (lv_at hl 2 rfl) ?_
        refine lv_ldc2 hx hb hF.2.2.2.1 (hF.2.2.2.2 _ q_215) dX5_digest_13 ?_
        refine lv_lmul hx hb dX5_digest_16 ?_
        refine lv_aload_n hx hb dX5_digest_17 rfl (lv_at hl 0 rfl) ?_
        refine lv_iload_n hx hb dX5_digest_18 rfl (lv_at hl 1 rfl) ?_
        refine m_vI (As := [.int (nI a1)]) (rest := [.long (d1 * 31)]) (n := 1) hF hC hO hS (k_X5_count l G lo sa ad R g nf F f no O tf tv fw a1 hnf hno (by have := (show a1 < 9 from (by have := nI_nL (a := 8) (b := a1) (by decide) (by omega) c9; omega)); omega)) ok_X5_count q_216 rfl rfl ⟨Nat.le_of_ble_eq_true rfl, Nat.le_of_ble_eq_true rfl⟩ rfl hl.1 rfl (Nat.le_of_ble_eq_true rfl) ⟨Nat.le_of_ble_eq_true rfl, Nat.le_of_ble_eq_true rfl⟩ dX5_digest_19 (fun v19 R' H locs hp hO hS => ?_)
        obtain ⟨rfl, hR⟩ := hp
        rw [hR] at hO
        refine lv_i2l (v := ((c_count g nf F f no O a1).toInt64)) hx hb dX5_digest_22 rfl ?_
        refine lv_ladd hx hb dX5_digest_23 ?_
        refine lv_lstore_n (lv' := [(1, .long ((d1 * 31) + (c_count g nf F f no O a1).toInt64)), (0, .ref (ad 0)), (3, .int (nI a1))]) hx hb dX5_digest_24 rfl hl (by decide) rfl (fun ls hl => ?_)
        refine lv_iinc (v := (nI (a1 + 1))) (lv' := [(3, .int (nI (a1 + 1))), (1, .long ((d1 * 31) + (c_count g nf F f no O a1).toInt64)), (0, .ref (ad 0))]) hx hb dX5_digest_25 hl (k := 2) rfl (nI_inc a1) (by decide) rfl (fun ls hl => ?_)
        refine lv_goto (tgt := 6) hx hb dX5_digest_28 (by decide) ?_
        exact ih6 (a1 + 1) ((d1 * 31) + (c_count g nf F f no O a1).toInt64) _ _ _ (by have := (show a1 < 9 from (by have := nI_nL (a := 8) (b := a1) (by decide) (by omega) c9; omega)); omega) (by have := (show a1 < 9 from (by have := nI_nL (a := 8) (b := a1) (by decide) (by omega) c9; omega)); omega) (by omega) (by have := (show a1 < 9 from (by have := nI_nL (a := 8) (b := a1) (by decide) (by omega) c9; omega)); rw [← hva1, show 9 - a1 = (9 - (a1 + 1)) + 1 from by omega]; rfl) (lv_sub hl [2, 0, 1] rfl) hO hS
  exact L6 _ 0 613 _ _ _ (Nat.lt_succ_self _) (by omega) (by omega) rfl (lv_sub hl [2, 0, 1] rfl) hO hS
