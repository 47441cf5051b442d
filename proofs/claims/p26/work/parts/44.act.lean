abbrev keepA (x : Nat) : Prop := x ≤ 50 ∨ (58 < x ∧ x < 100) ∨ 240 ≤ x
def actPost (G : mG) (ad : Nat → Nat) (R : mM) (n q nf : Nat) (tf tv fw : Nat → Int32) : Int32 → mAd → Prop := fun v u' => v = 1 ∧ (∀ x, keepA x → ad x = u'.1 x) ∧
  ∃ (g' : Nat → Int32) (F' : Nat → Nat → Int32) (f' : Nat → Int32) (no' : Nat) (O' : Nat → Nat → Int32) (w' : Int32), IV (n + 1) (q + 1) g' nf F' f' no' O' ∧ u'.2 = WS G u'.1 g' nf F' f' no' O' w' (WC G u'.1 g' nf F' f' no' O' tf tv fw R)
theorem at_neg {nf : Nat} {F : Nat → Nat → Int32} {h : Int32} (hn : nf ≤ 12) (h0 : m_at nf F h < 0) : m_at nf F h = -1 := by
  rcases at_cases (F := F) (h := h) hn with h9 | ⟨k, hk, e⟩
  · exact h9
  · rw [e] at h0; exact absurd h0 (nI_nneg (by omega))
theorem one_nI (z : Nat) : (1 : Int32) + nI z = nI (z + 1) := by rw [show (1 : Int32) = nI 1 from rfl, nI_add, Nat.add_comm]
theorem size_0 {φ : Nat → Int32} (h0 : 0 ≤ p_size φ) (h : p_size φ ≤ 0) : p_size φ = 0 := Int32.le_antisymm h h0
theorem cool_at {nf k : Nat} {F : Nat → Nat → Int32} {X : Nat → Int32} : m_coolTo nf k (va_up F k X) k = X := by simp [m_coolTo, va_up]
set_option maxHeartbeats 400000 in
set_option maxRecDepth 100000 in
theorem act_0 {p : Program} {l : Launch} {e : Env} {s : State} {m : MethodId} {args : Array Value} {below : List Frame} {meth : Method} {c : Code} {G : mG} {lo : Nat} {sa : mSc} {ad : Nat → Nat} {R : mM} {Q : State → Prop} {H : Heap} {locs : List Loc} {ls : Array Slot} {g : Nat → Int32} {nf : Nat} {F : Nat → Nat → Int32} {f : Nat → Int32} {no : Nat} {O : Nat → Nat → Int32} {w : Int32} {tf tv fw : Nat → Int32} {n q k : Nat} {x : Int32} (hF : mF p m c cL_act 17 s args RL) (hr : meth.sig.returnType = some .boolean) (hlk : meth.locks = false) (hC : mC G lo sa s s.heap) (hO : mO G lo ad (WS G ad g nf F f no O w (WC G ad g nf F f no O tf tv fw R)) H) (hS : va_S (mA lo) s.heap H locs) (hQ : Q = MQ below (va_Qi (actPost G ad R n q nf tf tv fw) (mBa G lo) (mA lo)) args s 3 31 (mA lo)) (hI : IV n q g nf F f no O) (h1 : 1 ≤ nf) (hn : n ≤ 400) (hq : q ≤ 400) (hz : R 58 = none) (hk : k < nf) (hl : lv_has ls 17 [(0, .ref (ad 0)), (1, .ref (ad 50)), (2, .int x), (3, .int (nI k)), (4, .ref (ad (200 + k)))]) : W p l e (nRm 7 250 3 31) s m args below meth c H locs 0 0 Q (F0 m 64 ls []) := by
  have hx := hF.1
  have hb := hF.2.1
  have hnf : nf ≤ 12 := by have := hI.1; omega
  have hno : no ≤ 20 := hI.2.1
  have hFv := hI.fr
  have hOv := hI.or
  obtain ⟨qn, hqn9, hq3⟩ := hI.qn
  refine lv_iload_n hx hb dL_act_64 rfl (lv_at hl 2 rfl) ?_
  refine lv_iconst (v := 3) hx hb dL_act_65 (by decide) ?_
  refine lv_ishr hx hb dL_act_66 ?_
  generalize (x >>> (3 &&& 31)) = sh66
  refine lv_bipush (v := 12) hx hb dL_act_67 (by decide) ?_
  refine m_sI (As := [.int sh66, .int 12]) (rest := []) (n := 2) hF hC hO hS (k_L_below l G lo sa ad _ sh66 12 (by omega) (by omega)) ok_L_below q_479 ⟨Nat.le_of_ble_eq_true rfl, Nat.le_of_ble_eq_true rfl⟩ rfl hl.1 rfl (Nat.le_of_ble_eq_true rfl) ⟨Nat.le_of_ble_eq_true rfl, Nat.le_of_ble_eq_true rfl⟩ dL_act_69 (fun v69 R' H locs hp hO hS => ?_)
  obtain ⟨⟨h, hh, rfl⟩, hR⟩ := hp
  rw [hR] at hO
  refine lv_istore (lv' := [(5, .int (nI h)), (0, .ref (ad 0)), (1, .ref (ad 50)), (2, .int x), (3, .int (nI k)), (4, .ref (ad (200 + k)))]) hx hb dL_act_72 hl (by decide) rfl (fun ls hl => ?_)
  refine lv_aload_n hx hb dL_act_74 rfl (lv_at hl 2 rfl) ?_
  refine lv_iload hx hb dL_act_75 (lv_at hl 0 rfl) ?_
  refine m_vI (As := [.int (nI h)]) (rest := []) (n := 1) hF hC hO hS (k_X7_at l G lo sa ad (WC G ad g nf F f no O tf tv fw R) g nf F f no O w (nI h) hnf hno) ok_X7_at q_599 rfl rfl ⟨Nat.le_of_ble_eq_true rfl, Nat.le_of_ble_eq_true rfl⟩ rfl hl.1 rfl (Nat.le_of_ble_eq_true rfl) ⟨Nat.le_of_ble_eq_true rfl, Nat.le_of_ble_eq_true rfl⟩ dL_act_77 (fun v77 R' H locs hp hO hS => ?_)
  obtain ⟨rfl, hR⟩ := hp
  rw [hR] at hO
  refine lv_if_lt (tgt := 95) hx hb dL_act_80 (by decide) (fun c80 => ?_) (fun c80 => ?_)
  · refine lv_aload hx hb dL_act_95 (lv_at hl 5 rfl) ?_
    refine m_get inX6 hF hC hO (WS_F (i := k) (by assumption) hnf) rfl 5 (by decide) q_580 (v := .int ((F k) 5)) rfl dL_act_97 ?_
    refine lv_istore (lv' := [(6, .int ((F k) 5)), (5, .int (nI h)), (0, .ref (ad 0)), (1, .ref (ad 50)), (2, .int x), (3, .int (nI k)), (4, .ref (ad (200 + k)))]) hx hb dL_act_100 hl (by decide) rfl (fun ls hl => ?_)
    refine lv_aload hx hb dL_act_102 (lv_at hl 6 rfl) ?_
    refine lv_iload hx hb dL_act_104 (lv_at hl 1 rfl) ?_
    refine m_put (ty := .int) tyX6 tyX6_ok nmX6 inX6 hF hC hO hS (WS_F (i := k) (by assumption) hnf) rfl 5 (by decide) q_580 rfl (by decide +kernel) rfl rfl (fs' := [.int ((F k) 0), .int ((F k) 1), .int ((F k) 2), .int ((F k) 3), .int ((F k) 4), .int (nI h), .int ((F k) 6)]) (Nat.le_of_ble_eq_true rfl) rfl dL_act_106 (fun H locs hO hS => ?_)
    have hO : mO G lo ad (mU (WS G ad g nf F f no O w (WC G ad g nf F f no O tf tv fw R)) (200 + k) (lfO (upd (F k) 5 (nI h)))) H := hO
    rw [WS_wF (by assumption) hnf] at hO
    refine lv_aload_n hx hb dL_act_109 rfl (lv_at hl 2 rfl) ?_
    refine lv_iload_n hx hb dL_act_110 rfl (lv_at hl 5 rfl) ?_
    refine lv_iload hx hb dL_act_111 (lv_at hl 1 rfl) ?_
    rw [← WC_WS] at hO
    refine m_vI (As := [.int (nI k), .int (nI h)]) (rest := []) (n := 2) hF hC hO hS (k_X5_hang l G lo sa ad (WS G ad g nf (va_up F k (upd (F k) 5 (nI h))) f no O w R) g nf F f no O tf tv fw k (nI h) hnf hno hk (p_in_nI (a := 0) (x := h) (b := 11) (by omega) (by omega) (by decide)) (Or.inl (at_neg hnf c80))) ok_X5_hang q_603 rfl rfl ⟨Nat.le_of_ble_eq_true rfl, Nat.le_of_ble_eq_true rfl⟩ rfl hl.1 rfl (Nat.le_of_ble_eq_true rfl) ⟨Nat.le_of_ble_eq_true rfl, Nat.le_of_ble_eq_true rfl⟩ dL_act_113 (fun v113 R' H locs hp hO hS => ?_)
    obtain ⟨rfl, hR⟩ := hp
    rw [hR] at hO
    refine lv_iload hx hb dL_act_116 (lv_at hl 0 rfl) ?_
    refine lv_icmp_ne (tgt := 125) hx hb dL_act_118 (by decide) (fun c118 => absurd rfl c118) (fun c118 => ?_)
    refine lv_iconst (v := 1) hx hb dL_act_121 (by decide) ?_
    refine lv_goto (tgt := 126) hx hb dL_act_122 (by decide) ?_
    rw [WC_WS] at hO
    refine m_niret hF hr hlk hQ (by decide) rfl hO hS dL_act_126 ?_
    exact ⟨rfl, fun _ _ => rfl, _, _, _, _, _, _, (iv_hang hI hk (by omega) (Or.inl (at_neg hnf c80))).mono (by omega) (by omega), rfl⟩
  · refine lv_aload_n hx hb dL_act_83 rfl (lv_at hl 2 rfl) ?_
    refine lv_iload hx hb dL_act_84 (lv_at hl 0 rfl) ?_
    refine m_vI (As := [.int (nI h)]) (rest := []) (n := 1) hF hC hO hS (k_X7_at l G lo sa ad (WC G ad g nf F f no O tf tv fw R) g nf F f no O w (nI h) hnf hno) ok_X7_at q_599 rfl rfl ⟨Nat.le_of_ble_eq_true rfl, Nat.le_of_ble_eq_true rfl⟩ rfl hl.1 rfl (Nat.le_of_ble_eq_true rfl) ⟨Nat.le_of_ble_eq_true rfl, Nat.le_of_ble_eq_true rfl⟩ dL_act_86 (fun v86 R' H locs hp hO hS => ?_)
    obtain ⟨rfl, hR⟩ := hp
    rw [hR] at hO
    refine lv_iload_n hx hb dL_act_89 rfl (lv_at hl 4 rfl) ?_
    refine lv_icmp_eq (tgt := 95) hx hb dL_act_90 (by decide) (fun c90 => ?_) (fun c90 => ?_)
    · refine lv_aload hx hb dL_act_95 (lv_at hl 5 rfl) ?_
      refine m_get inX6 hF hC hO (WS_F (i := k) (by assumption) hnf) rfl 5 (by decide) q_580 (v := .int ((F k) 5)) rfl dL_act_97 ?_
      refine lv_istore (lv' := [(6, .int ((F k) 5)), (5, .int (nI h)), (0, .ref (ad 0)), (1, .ref (ad 50)), (2, .int x), (3, .int (nI k)), (4, .ref (ad (200 + k)))]) hx hb dL_act_100 hl (by decide) rfl (fun ls hl => ?_)
      refine lv_aload hx hb dL_act_102 (lv_at hl 6 rfl) ?_
      refine lv_iload hx hb dL_act_104 (lv_at hl 1 rfl) ?_
      refine m_put (ty := .int) tyX6 tyX6_ok nmX6 inX6 hF hC hO hS (WS_F (i := k) (by assumption) hnf) rfl 5 (by decide) q_580 rfl (by decide +kernel) rfl rfl (fs' := [.int ((F k) 0), .int ((F k) 1), .int ((F k) 2), .int ((F k) 3), .int ((F k) 4), .int (nI h), .int ((F k) 6)]) (Nat.le_of_ble_eq_true rfl) rfl dL_act_106 (fun H locs hO hS => ?_)
      have hO : mO G lo ad (mU (WS G ad g nf F f no O w (WC G ad g nf F f no O tf tv fw R)) (200 + k) (lfO (upd (F k) 5 (nI h)))) H := hO
      rw [WS_wF (by assumption) hnf] at hO
      refine lv_aload_n hx hb dL_act_109 rfl (lv_at hl 2 rfl) ?_
      refine lv_iload_n hx hb dL_act_110 rfl (lv_at hl 5 rfl) ?_
      refine lv_iload hx hb dL_act_111 (lv_at hl 1 rfl) ?_
      rw [← WC_WS] at hO
      refine m_vI (As := [.int (nI k), .int (nI h)]) (rest := []) (n := 2) hF hC hO hS (k_X5_hang l G lo sa ad (WS G ad g nf (va_up F k (upd (F k) 5 (nI h))) f no O w R) g nf F f no O tf tv fw k (nI h) hnf hno hk (p_in_nI (a := 0) (x := h) (b := 11) (by omega) (by omega) (by decide)) (Or.inr c90)) ok_X5_hang q_603 rfl rfl ⟨Nat.le_of_ble_eq_true rfl, Nat.le_of_ble_eq_true rfl⟩ rfl hl.1 rfl (Nat.le_of_ble_eq_true rfl) ⟨Nat.le_of_ble_eq_true rfl, Nat.le_of_ble_eq_true rfl⟩ dL_act_113 (fun v113 R' H locs hp hO hS => ?_)
      obtain ⟨rfl, hR⟩ := hp
      rw [hR] at hO
      refine lv_iload hx hb dL_act_116 (lv_at hl 0 rfl) ?_
      refine lv_icmp_ne (tgt := 125) hx hb dL_act_118 (by decide) (fun c118 => absurd rfl c118) (fun c118 => ?_)
      refine lv_iconst (v := 1) hx hb dL_act_121 (by decide) ?_
      refine lv_goto (tgt := 126) hx hb dL_act_122 (by decide) ?_
      rw [WC_WS] at hO
      refine m_niret hF hr hlk hQ (by decide) rfl hO hS dL_act_126 ?_
      exact ⟨rfl, fun _ _ => rfl, _, _, _, _, _, _, (iv_hang hI hk (by omega) (Or.inr c90)).mono (by omega) (by omega), rfl⟩
    · refine lv_iconst (v := 1) hx hb dL_act_93 (by decide) ?_
      refine m_niret hF hr hlk hQ (by decide) rfl hO hS dL_act_94 ?_
      exact ⟨rfl, fun _ _ => rfl, _, _, _, _, _, _, hI.mono (by omega) (by omega), rfl⟩
set_option maxHeartbeats 400000 in
set_option maxRecDepth 100000 in
theorem act_1 {p : Program} {l : Launch} {e : Env} {s : State} {m : MethodId} {args : Array Value} {below : List Frame} {meth : Method} {c : Code} {G : mG} {lo : Nat} {sa : mSc} {ad : Nat → Nat} {R : mM} {Q : State → Prop} {H : Heap} {locs : List Loc} {ls : Array Slot} {g : Nat → Int32} {nf : Nat} {F : Nat → Nat → Int32} {f : Nat → Int32} {no : Nat} {O : Nat → Nat → Int32} {w : Int32} {tf tv fw : Nat → Int32} {n q k : Nat} {x : Int32} (hF : mF p m c cL_act 17 s args RL) (hr : meth.sig.returnType = some .boolean) (hlk : meth.locks = false) (hC : mC G lo sa s s.heap) (hO : mO G lo ad (WS G ad g nf F f no O w (WC G ad g nf F f no O tf tv fw R)) H) (hS : va_S (mA lo) s.heap H locs) (hQ : Q = MQ below (va_Qi (actPost G ad R n q nf tf tv fw) (mBa G lo) (mA lo)) args s 3 31 (mA lo)) (hI : IV n q g nf F f no O) (h1 : 1 ≤ nf) (hn : n ≤ 400) (hq : q ≤ 400) (hz : R 58 = none) (hk : k < nf) (hl : lv_has ls 17 [(0, .ref (ad 0)), (1, .ref (ad 50)), (2, .int x), (3, .int (nI k)), (4, .ref (ad (200 + k)))]) : W p l e (nRm 7 250 3 31) s m args below meth c H locs 0 0 Q (F0 m 127 ls []) := by
  have hx := hF.1
  have hb := hF.2.1
  have hnf : nf ≤ 12 := by have := hI.1; omega
  have hno : no ≤ 20 := hI.2.1
  have hFv := hI.fr
  have hOv := hI.or
  obtain ⟨qn, hqn9, hq3⟩ := hI.qn
  refine lv_aload hx hb dL_act_127 (lv_at hl 4 rfl) ?_
  refine m_get inX6 hF hC hO (WS_F (i := k) (by assumption) hnf) rfl 5 (by decide) q_580 (v := .int ((F k) 5)) rfl dL_act_129 ?_
  refine lv_if_lt (tgt := 145) hx hb dL_act_132 (by decide) (fun c132 => ?_) (fun c132 => ?_)
  · refine lv_iconst (v := 1) hx hb dL_act_145 (by decide) ?_
    refine m_niret hF hr hlk hQ (by decide) rfl hO hS dL_act_146 ?_
    exact ⟨rfl, fun _ _ => rfl, _, _, _, _, _, _, hI.mono (by omega) (by omega), rfl⟩
  · refine lv_iload_n hx hb dL_act_135 rfl (lv_at hl 2 rfl) ?_
    refine lv_iconst (v := 3) hx hb dL_act_136 (by decide) ?_
    refine lv_ishr hx hb dL_act_137 ?_
    generalize (x >>> (3 &&& 31)) = sh137
    refine lv_iconst (v := 3) hx hb dL_act_138 (by decide) ?_
    refine m_sI (As := [.int sh137, .int 3]) (rest := []) (n := 2) hF hC hO hS (k_L_below l G lo sa ad _ sh137 3 (by omega) (by omega)) ok_L_below q_479 ⟨Nat.le_of_ble_eq_true rfl, Nat.le_of_ble_eq_true rfl⟩ rfl hl.1 rfl (Nat.le_of_ble_eq_true rfl) ⟨Nat.le_of_ble_eq_true rfl, Nat.le_of_ble_eq_true rfl⟩ dL_act_139 (fun v139 R' H locs hp hO hS => ?_)
    obtain ⟨⟨z, hz, rfl⟩, hR⟩ := hp
    rw [hR] at hO
    refine lv_if_le (tgt := 147) hx hb dL_act_142 (by decide) (fun c142 => ?_) (fun c142 => ?_)
    · refine lv_aload hx hb dL_act_147 (lv_at hl 4 rfl) ?_
      refine m_get inX6 hF hC hO (WS_F (i := k) (by assumption) hnf) rfl 5 (by decide) q_580 (v := .int ((F k) 5)) rfl dL_act_149 ?_
      refine lv_istore (lv' := [(7, .int ((F k) 5)), (0, .ref (ad 0)), (1, .ref (ad 50)), (2, .int x), (3, .int (nI k)), (4, .ref (ad (200 + k)))]) hx hb dL_act_152 hl (by decide) rfl (fun ls hl => ?_)
      refine lv_aload hx hb dL_act_154 (lv_at hl 5 rfl) ?_
      refine lv_iconst (v := -1) hx hb dL_act_156 (by decide) ?_
      refine m_put (ty := .int) tyX6 tyX6_ok nmX6 inX6 hF hC hO hS (WS_F (i := k) (by assumption) hnf) rfl 5 (by decide) q_580 rfl (by decide +kernel) rfl rfl (fs' := [.int ((F k) 0), .int ((F k) 1), .int ((F k) 2), .int ((F k) 3), .int ((F k) 4), .int (-1), .int ((F k) 6)]) (Nat.le_of_ble_eq_true rfl) rfl dL_act_157 (fun H locs hO hS => ?_)
      have hO : mO G lo ad (mU (WS G ad g nf F f no O w (WC G ad g nf F f no O tf tv fw R)) (200 + k) (lfO (upd (F k) 5 (-1)))) H := hO
      rw [WS_wF (by assumption) hnf] at hO
      refine lv_aload_n hx hb dL_act_160 rfl (lv_at hl 1 rfl) ?_
      refine lv_iload_n hx hb dL_act_161 rfl (lv_at hl 4 rfl) ?_
      rw [← WC_WS] at hO
      refine m_vI (As := [.int (nI k)]) (rest := []) (n := 1) hF hC hO hS (k_X5_layAside l G lo sa ad (WS G ad g nf (va_up F k (upd (F k) 5 (-1))) f no O w R) g nf F f no O tf tv fw k hnf hno hk (fun e9 => c132 (by rw [e9]; decide))) ok_X5_layAside q_611 rfl rfl ⟨Nat.le_of_ble_eq_true rfl, Nat.le_of_ble_eq_true rfl⟩ rfl hl.1 rfl (Nat.le_of_ble_eq_true rfl) ⟨Nat.le_of_ble_eq_true rfl, Nat.le_of_ble_eq_true rfl⟩ dL_act_162 (fun v162 R' H locs hp hO hS => ?_)
      obtain ⟨rfl, hR⟩ := hp
      rw [hR] at hO
      refine lv_iload hx hb dL_act_165 (lv_at hl 0 rfl) ?_
      refine lv_icmp_ne (tgt := 174) hx hb dL_act_167 (by decide) (fun c167 => absurd rfl c167) (fun c167 => ?_)
      refine lv_iconst (v := 1) hx hb dL_act_170 (by decide) ?_
      refine lv_goto (tgt := 175) hx hb dL_act_171 (by decide) ?_
      rw [WC_WS] at hO
      refine m_niret hF hr hlk hQ (by decide) rfl hO hS dL_act_175 ?_
      exact ⟨rfl, fun _ _ => rfl, _, _, _, _, _, _, (iv_aside hI hk).mono (by omega) (by omega), rfl⟩
    · refine lv_iconst (v := 1) hx hb dL_act_145 (by decide) ?_
      refine m_niret hF hr hlk hQ (by decide) rfl hO hS dL_act_146 ?_
      exact ⟨rfl, fun _ _ => rfl, _, _, _, _, _, _, hI.mono (by omega) (by omega), rfl⟩
set_option maxHeartbeats 400000 in
set_option maxRecDepth 100000 in
theorem act_2 {p : Program} {l : Launch} {e : Env} {s : State} {m : MethodId} {args : Array Value} {below : List Frame} {meth : Method} {c : Code} {G : mG} {lo : Nat} {sa : mSc} {ad : Nat → Nat} {R : mM} {Q : State → Prop} {H : Heap} {locs : List Loc} {ls : Array Slot} {g : Nat → Int32} {nf : Nat} {F : Nat → Nat → Int32} {f : Nat → Int32} {no : Nat} {O : Nat → Nat → Int32} {w : Int32} {tf tv fw : Nat → Int32} {n q k : Nat} {x : Int32} (hF : mF p m c cL_act 17 s args RL) (hr : meth.sig.returnType = some .boolean) (hlk : meth.locks = false) (hC : mC G lo sa s s.heap) (hO : mO G lo ad (WS G ad g nf F f no O w (WC G ad g nf F f no O tf tv fw R)) H) (hS : va_S (mA lo) s.heap H locs) (hQ : Q = MQ below (va_Qi (actPost G ad R n q nf tf tv fw) (mBa G lo) (mA lo)) args s 3 31 (mA lo)) (hI : IV n q g nf F f no O) (h1 : 1 ≤ nf) (hn : n ≤ 400) (hq : q ≤ 400) (hz : R 58 = none) (hk : k < nf) (hl : lv_has ls 17 [(0, .ref (ad 0)), (1, .ref (ad 50)), (2, .int x), (3, .int (nI k)), (4, .ref (ad (200 + k)))]) : W p l e (nRm 7 250 3 31) s m args below meth c H locs 0 0 Q (F0 m 176 ls []) := by
  have hx := hF.1
  have hb := hF.2.1
  have hnf : nf ≤ 12 := by have := hI.1; omega
  have hno : no ≤ 20 := hI.2.1
  have hFv := hI.fr
  have hOv := hI.or
  obtain ⟨qn, hqn9, hq3⟩ := hI.qn
  refine lv_aload hx hb dL_act_176 (lv_at hl 4 rfl) ?_
  refine m_get inX6 hF hC hO (WS_F (i := k) (by assumption) hnf) rfl 2 (by decide) q_572 (v := .int ((F k) 2)) rfl dL_act_178 ?_
  refine lv_if_eq (tgt := 194) hx hb dL_act_181 (by decide) (fun c181 => ?_) (fun c181 => ?_)
  · refine lv_iconst (v := 1) hx hb dL_act_194 (by decide) ?_
    refine m_niret hF hr hlk hQ (by decide) rfl hO hS dL_act_195 ?_
    exact ⟨rfl, fun _ _ => rfl, _, _, _, _, _, _, hI.mono (by omega) (by omega), rfl⟩
  · refine lv_aload hx hb dL_act_184 (lv_at hl 4 rfl) ?_
    refine m_get inX6 hF hC hO (WS_F (i := k) (by assumption) hnf) rfl 3 (by decide) q_574 (v := .int ((F k) 3)) rfl dL_act_186 ?_
    refine lv_bipush (v := 20) hx hb dL_act_189 (by decide) ?_
    refine lv_icmp_le (tgt := 196) hx hb dL_act_191 (by decide) (fun c191 => ?_) (fun c191 => ?_)
    · refine lv_aload hx hb dL_act_196 (lv_at hl 4 rfl) ?_
      refine m_vI (As := []) (rest := []) (n := 0) hF hC hO hS (k_X6_size l G lo sa ad _ (200 + k) (F k) (WS_F (i := k) (by assumption) hnf)) ok_X6_size q_616 (WS_F (i := k) (by assumption) hnf) rfl ⟨Nat.le_of_ble_eq_true rfl, Nat.le_of_ble_eq_true rfl⟩ rfl hl.1 rfl (Nat.le_of_ble_eq_true rfl) ⟨Nat.le_of_ble_eq_true rfl, Nat.le_of_ble_eq_true rfl⟩ dL_act_198 (fun v198 R' H locs hp hO hS => ?_)
      obtain ⟨rfl, hR⟩ := hp
      rw [hR] at hO
      refine lv_istore (lv' := [(8, .int (p_size (F k))), (0, .ref (ad 0)), (1, .ref (ad 50)), (2, .int x), (3, .int (nI k)), (4, .ref (ad (200 + k)))]) hx hb dL_act_201 hl (by decide) rfl (fun ls hl => ?_)
      refine lv_iload hx hb dL_act_203 (lv_at hl 0 rfl) ?_
      refine lv_if_le (tgt := 232) hx hb dL_act_205 (by decide) (fun c205 => ?_) (fun c205 => ?_)
      · refine lv_aload_n hx hb dL_act_232 rfl (lv_at hl 2 rfl) ?_
        refine lv_sipush (v := 20000) hx hb dL_act_233 (by decide) ?_
        refine lv_aload_n hx hb dL_act_236 rfl (lv_at hl 2 rfl) ?_
        refine m_get inX7 hF hC hO rfl rfl 0 (by decide) q_501 (v := .int (g 0)) rfl dL_act_237 ?_
        refine lv_aload hx hb dL_act_240 (lv_at hl 5 rfl) ?_
        refine m_get inX6 hF hC hO (WS_F (i := k) (by assumption) hnf) rfl 2 (by decide) q_572 (v := .int ((F k) 2)) rfl dL_act_242 ?_
        refine lv_bipush (v := 8) hx hb dL_act_245 (by decide) ?_
        refine lv_aload hx hb dL_act_247 (lv_at hl 5 rfl) ?_
        refine m_get inX6 hF hC hO (WS_F (i := k) (by assumption) hnf) rfl 0 (by decide) q_568 (v := .int ((F k) 0)) rfl dL_act_249 ?_
        refine lv_iadd hx hb dL_act_252 ?_
        refine lv_imul hx hb dL_act_253 ?_
        refine lv_aload hx hb dL_act_254 (lv_at hl 5 rfl) ?_
        refine m_get inX6 hF hC hO (WS_F (i := k) (by assumption) hnf) rfl 1 (by decide) q_570 (v := .int ((F k) 1)) rfl dL_act_256 ?_
        refine lv_imul hx hb dL_act_259 ?_
        refine lv_bipush (v := 10) hx hb dL_act_260 (by decide) ?_
        refine lv_idiv hx hb dL_act_262 (by decide) ?_
        refine lv_iadd hx hb dL_act_263 ?_
        refine m_min hF hl.1 q_621 q_246 q_14 q_247 (Nat.le_of_ble_eq_true rfl) (Nat.le_of_ble_eq_true rfl) ⟨Nat.le_of_ble_eq_true rfl, Nat.le_of_ble_eq_true rfl⟩ dL_act_264 ?_
        refine m_put (ty := .int) tyX7 tyX7_ok nmX7 inX7 hF hC hO hS rfl rfl 0 (by decide) q_501 rfl (by decide +kernel) rfl rfl (fs' := [.int (jmin 20000 ((g 0) + (((((F k) 2) * (8 + ((F k) 0))) * ((F k) 1)) / 10))), .int (g 1), .int (g 2), .ref (ad 51), .ref (ad 52), .ref (ad 57), .int (g 3), .int (g 4), .int w]) (Nat.le_of_ble_eq_true rfl) rfl dL_act_267 (fun H locs hO hS => ?_)
        have hO : mO G lo ad (mU (WS G ad g nf F f no O w (WC G ad g nf F f no O tf tv fw R)) 50 (sO ad (upd g 0 (jmin 20000 ((g 0) + (((((F k) 2) * (8 + ((F k) 0))) * ((F k) 1)) / 10)))) w)) H := hO
        rw [WS_w0] at hO
        refine lv_aload_n hx hb dL_act_270 rfl (lv_at hl 2 rfl) ?_
        refine lv_dup hx hb dL_act_271 rfl ?_
        refine m_get inX7 hF hC hO rfl rfl 8 (by decide) q_516 (v := .int w) rfl dL_act_272 ?_
        refine lv_aload hx hb dL_act_275 (lv_at hl 5 rfl) ?_
        refine m_get inX6 hF hC hO (WS_F (i := k) (by assumption) hnf) rfl 1 (by decide) q_570 (v := .int ((F k) 1)) rfl dL_act_277 ?_
        refine lv_iadd hx hb dL_act_280 ?_
        refine m_put (ty := .int) tyX7 tyX7_ok nmX7 inX7 hF hC hO hS rfl rfl 8 (by decide) q_516 rfl (by decide +kernel) rfl rfl (fs' := [.int (jmin 20000 ((g 0) + (((((F k) 2) * (8 + ((F k) 0))) * ((F k) 1)) / 10))), .int (g 1), .int (g 2), .ref (ad 51), .ref (ad 52), .ref (ad 57), .int (g 3), .int (g 4), .int (w + ((F k) 1))]) (Nat.le_of_ble_eq_true rfl) rfl dL_act_281 (fun H locs hO hS => ?_)
        have hO : mO G lo ad (mU (WS G ad (upd g 0 (jmin 20000 ((g 0) + (((((F k) 2) * (8 + ((F k) 0))) * ((F k) 1)) / 10)))) nf F f no O w (WC G ad g nf F f no O tf tv fw R)) 50 (sO ad (upd g 0 (jmin 20000 ((g 0) + (((((F k) 2) * (8 + ((F k) 0))) * ((F k) 1)) / 10)))) (w + ((F k) 1)))) H := hO
        rw [WS_w0] at hO
        refine lv_aload hx hb dL_act_284 (lv_at hl 5 rfl) ?_
        refine lv_iconst (v := 0) hx hb dL_act_286 (by decide) ?_
        refine m_put (ty := .int) tyX6 tyX6_ok nmX6 inX6 hF hC hO hS (WS_F (i := k) (by assumption) hnf) rfl 2 (by decide) q_572 rfl (by decide +kernel) rfl rfl (fs' := [.int ((F k) 0), .int ((F k) 1), .int 0, .int ((F k) 3), .int ((F k) 4), .int ((F k) 5), .int ((F k) 6)]) (Nat.le_of_ble_eq_true rfl) rfl dL_act_287 (fun H locs hO hS => ?_)
        have hO : mO G lo ad (mU (WS G ad (upd g 0 (jmin 20000 ((g 0) + (((((F k) 2) * (8 + ((F k) 0))) * ((F k) 1)) / 10)))) nf F f no O (w + ((F k) 1)) (WC G ad g nf F f no O tf tv fw R)) (200 + k) (lfO (upd (F k) 2 0))) H := hO
        rw [WS_wF (by assumption) hnf] at hO
        refine lv_aload hx hb dL_act_290 (lv_at hl 5 rfl) ?_
        refine lv_iconst (v := 0) hx hb dL_act_292 (by decide) ?_
        refine m_put (ty := .int) tyX6 tyX6_ok nmX6 inX6 hF hC hO hS (WS_Fu (i := k) (by assumption) hnf) rfl 3 (by decide) q_574 rfl (by decide +kernel) rfl rfl (fs' := [.int ((upd (F k) 2 0) 0), .int ((upd (F k) 2 0) 1), .int ((upd (F k) 2 0) 2), .int 0, .int ((upd (F k) 2 0) 4), .int ((upd (F k) 2 0) 5), .int ((upd (F k) 2 0) 6)]) (Nat.le_of_ble_eq_true rfl) rfl dL_act_293 (fun H locs hO hS => ?_)
        have hO : mO G lo ad (mU (WS G ad (upd g 0 (jmin 20000 ((g 0) + (((((F k) 2) * (8 + ((F k) 0))) * ((F k) 1)) / 10)))) nf (va_up F k (upd (F k) 2 0)) f no O (w + ((F k) 1)) (WC G ad g nf F f no O tf tv fw R)) (200 + k) (lfO (upd (upd (F k) 2 0) 3 0))) H := hO
        rw [WS_wFu (by assumption) hnf] at hO
        refine lv_aload hx hb dL_act_296 (lv_at hl 5 rfl) ?_
        refine lv_iconst (v := 0) hx hb dL_act_298 (by decide) ?_
        refine m_put (ty := .int) tyX6 tyX6_ok nmX6 inX6 hF hC hO hS (WS_Fu (i := k) (by assumption) hnf) rfl 6 (by decide) q_582 rfl (by decide +kernel) rfl rfl (fs' := [.int ((upd (upd (F k) 2 0) 3 0) 0), .int ((upd (upd (F k) 2 0) 3 0) 1), .int ((upd (upd (F k) 2 0) 3 0) 2), .int ((upd (upd (F k) 2 0) 3 0) 3), .int ((upd (upd (F k) 2 0) 3 0) 4), .int ((upd (upd (F k) 2 0) 3 0) 5), .int 0]) (Nat.le_of_ble_eq_true rfl) rfl dL_act_299 (fun H locs hO hS => ?_)
        have hO : mO G lo ad (mU (WS G ad (upd g 0 (jmin 20000 ((g 0) + (((((F k) 2) * (8 + ((F k) 0))) * ((F k) 1)) / 10)))) nf (va_up F k (upd (upd (F k) 2 0) 3 0)) f no O (w + ((F k) 1)) (WC G ad g nf F f no O tf tv fw R)) (200 + k) (lfO (upd (upd (upd (F k) 2 0) 3 0) 6 0))) H := hO
        rw [WS_wFu (by assumption) hnf] at hO
        refine lv_aload hx hb dL_act_302 (lv_at hl 5 rfl) ?_
        refine lv_iconst (v := 0) hx hb dL_act_304 (by decide) ?_
        refine m_put (ty := .boolean) tyX6 tyX6_ok nmX6 inX6 hF hC hO hS (WS_Fu (i := k) (by assumption) hnf) rfl 4 (by decide) q_577 rfl (by decide +kernel) rfl rfl (fs' := [.int ((upd (upd (upd (F k) 2 0) 3 0) 6 0) 0), .int ((upd (upd (upd (F k) 2 0) 3 0) 6 0) 1), .int ((upd (upd (upd (F k) 2 0) 3 0) 6 0) 2), .int ((upd (upd (upd (F k) 2 0) 3 0) 6 0) 3), .int 0, .int ((upd (upd (upd (F k) 2 0) 3 0) 6 0) 5), .int ((upd (upd (upd (F k) 2 0) 3 0) 6 0) 6)]) (Nat.le_of_ble_eq_true rfl) rfl dL_act_305 (fun H locs hO hS => ?_)
        have hO : mO G lo ad (mU (WS G ad (upd g 0 (jmin 20000 ((g 0) + (((((F k) 2) * (8 + ((F k) 0))) * ((F k) 1)) / 10)))) nf (va_up F k (upd (upd (upd (F k) 2 0) 3 0) 6 0)) f no O (w + ((F k) 1)) (WC G ad g nf F f no O tf tv fw R)) (200 + k) (lfO (upd (upd (upd (upd (F k) 2 0) 3 0) 6 0) 4 0))) H := hO
        rw [WS_wFu (by assumption) hnf] at hO
        obtain ⟨kk, hkk, hk0⟩ := (hFv k hk).kind
        have he : p_size (F k) = 0 := size_0 (hFv k hk).size0 c205
        rw [renew_eq] at hO
        refine lv_aload_n hx hb dL_act_308 rfl (lv_at hl 1 rfl) ?_
        refine lv_iload_n hx hb dL_act_309 rfl (lv_at hl 4 rfl) ?_
        rw [← WC_WS] at hO
        refine m_vI (As := [.int (nI k)]) (rest := []) (n := 1) hF hC hO hS (k_X5_cutOff l G lo sa ad (WS G ad (upd g 0 (jmin 20000 ((g 0) + (((((F k) 2) * (8 + ((F k) 0))) * ((F k) 1)) / 10)))) nf (va_up F k (p_renewF (F k))) f no O (w + ((F k) 1)) R) g nf F f no O tf tv fw k kk hnf hno hk hkk hk0 c181 (Int32.not_lt.mpr c191) ((hFv k hk).size0)) ok_X5_cutOff q_305 rfl rfl ⟨Nat.le_of_ble_eq_true rfl, Nat.le_of_ble_eq_true rfl⟩ rfl hl.1 rfl (Nat.le_of_ble_eq_true rfl) ⟨Nat.le_of_ble_eq_true rfl, Nat.le_of_ble_eq_true rfl⟩ dL_act_310 (fun v310 R' H locs hp hO hS => ?_)
        obtain ⟨rfl, hR⟩ := hp
        rw [hR] at hO
        rw [WC_WS] at hO
        rw [show Cf_cut f (F k) = f from if_pos he, WS_g (g' := CG_cut g (F k)) (fun i hi => by rw [CG_cut, if_pos he]; rcases (show i = 0 ∨ i = 1 ∨ i = 2 ∨ i = 3 ∨ i = 4 by omega) with rfl | rfl | rfl | rfl | rfl <;> rfl)] at hO
        refine lv_iload hx hb dL_act_313 (lv_at hl 0 rfl) ?_
        refine lv_icmp_ne (tgt := 322) hx hb dL_act_315 (by decide) (fun c315 => absurd rfl c315) (fun c315 => ?_)
        refine lv_iconst (v := 1) hx hb dL_act_318 (by decide) ?_
        refine lv_goto (tgt := 323) hx hb dL_act_319 (by decide) ?_
        refine m_niret hF hr hlk hQ (by decide) rfl hO hS dL_act_323 ?_
        exact ⟨rfl, fun _ _ => rfl, _, _, _, _, _, _, (by have h9 := iv_cut hI hk; rw [show Cf_cut f (F k) = f from if_pos he] at h9; exact h9 : IV n (q + 1) (CG_cut g (F k)) nf (va_up F k (p_renewF (F k))) f no O).mono (by omega) (by omega), rfl⟩
      · refine lv_aload_n hx hb dL_act_208 rfl (lv_at hl 2 rfl) ?_
        refine m_get inX7 hF hC hO rfl rfl 4 (by decide) q_510 (v := .ref (ad 52)) rfl dL_act_209 ?_
        refine lv_aload hx hb dL_act_212 (lv_at hl 5 rfl) ?_
        refine m_get inX6 hF hC hO (WS_F (i := k) (by assumption) hnf) rfl 0 (by decide) q_568 (v := .int ((F k) 0)) rfl dL_act_214 ?_
        have hne : p_size (F k) ≠ 0 := (fun e9 => c205 (by rw [e9]; decide))
        obtain ⟨kk, hkk, hk0⟩ := (hFv k hk).kind
        obtain ⟨zz, hz1, hz9, hzz⟩ := size_zz (hFv k hk).size0 hne
        rw [hk0]
        refine m_aldA hF hC hO rfl (j := kk) (nI_clamp (by omega)) (vp_in_nI hkk (by decide)) dL_act_217 (v := .ref (ad (53 + kk))) (adF_in (by first | assumption | omega)) ?_
        refine lv_iload hx hb dL_act_218 (lv_at hl 0 rfl) ?_
        rw [hzz]
        refine lv_dup2_11 hx hb dL_act_220 rfl rfl ?_
        refine m_iald hF hC hO (WS_S (k := kk) (by first | assumption | omega)) (j := zz) (nI_clamp (by omega)) (vp_in_nI (by omega) (by decide)) dL_act_221 ?_
        rw [show ((rowF f kk) zz) = (f (9 * kk + zz - 1)) from rowF_at hz1 hz9]
        refine lv_aload hx hb dL_act_222 (lv_at hl 5 rfl) ?_
        refine m_get inX6 hF hC hO (WS_F (i := k) (by assumption) hnf) rfl 1 (by decide) q_570 (v := .int ((F k) 1)) rfl dL_act_224 ?_
        refine lv_iadd hx hb dL_act_227 ?_
        refine m_iast hF hC hO hS (WS_S (k := kk) (by first | assumption | omega)) (j := zz) (nI_clamp (by omega)) (vp_in_nI (by omega) (by decide)) dL_act_228 (fun H locs hO hS => ?_)
        have hO : mO G lo ad (mU (WS G ad g nf F f no O w (WC G ad g nf F f no O tf tv fw R)) (53 + kk) (.inl (G.2 0, 10, .inl (upd (rowF f kk) zz ((f (9 * kk + zz - 1)) + ((F k) 1)))))) H := hO
        rw [WS_wS (by first | assumption | omega) (by omega) (by omega)] at hO
        refine lv_goto (tgt := 284) hx hb dL_act_229 (by decide) ?_
        refine lv_aload hx hb dL_act_284 (lv_at hl 5 rfl) ?_
        refine lv_iconst (v := 0) hx hb dL_act_286 (by decide) ?_
        refine m_put (ty := .int) tyX6 tyX6_ok nmX6 inX6 hF hC hO hS (WS_F (i := k) (by assumption) hnf) rfl 2 (by decide) q_572 rfl (by decide +kernel) rfl rfl (fs' := [.int ((F k) 0), .int ((F k) 1), .int 0, .int ((F k) 3), .int ((F k) 4), .int ((F k) 5), .int ((F k) 6)]) (Nat.le_of_ble_eq_true rfl) rfl dL_act_287 (fun H locs hO hS => ?_)
        have hO : mO G lo ad (mU (WS G ad g nf F (upd f (9 * kk + zz - 1) ((f (9 * kk + zz - 1)) + ((F k) 1))) no O w (WC G ad g nf F f no O tf tv fw R)) (200 + k) (lfO (upd (F k) 2 0))) H := hO
        rw [WS_wF (by assumption) hnf] at hO
        refine lv_aload hx hb dL_act_290 (lv_at hl 5 rfl) ?_
        refine lv_iconst (v := 0) hx hb dL_act_292 (by decide) ?_
        refine m_put (ty := .int) tyX6 tyX6_ok nmX6 inX6 hF hC hO hS (WS_Fu (i := k) (by assumption) hnf) rfl 3 (by decide) q_574 rfl (by decide +kernel) rfl rfl (fs' := [.int ((upd (F k) 2 0) 0), .int ((upd (F k) 2 0) 1), .int ((upd (F k) 2 0) 2), .int 0, .int ((upd (F k) 2 0) 4), .int ((upd (F k) 2 0) 5), .int ((upd (F k) 2 0) 6)]) (Nat.le_of_ble_eq_true rfl) rfl dL_act_293 (fun H locs hO hS => ?_)
        have hO : mO G lo ad (mU (WS G ad g nf (va_up F k (upd (F k) 2 0)) (upd f (9 * kk + zz - 1) ((f (9 * kk + zz - 1)) + ((F k) 1))) no O w (WC G ad g nf F f no O tf tv fw R)) (200 + k) (lfO (upd (upd (F k) 2 0) 3 0))) H := hO
        rw [WS_wFu (by assumption) hnf] at hO
        refine lv_aload hx hb dL_act_296 (lv_at hl 5 rfl) ?_
        refine lv_iconst (v := 0) hx hb dL_act_298 (by decide) ?_
        refine m_put (ty := .int) tyX6 tyX6_ok nmX6 inX6 hF hC hO hS (WS_Fu (i := k) (by assumption) hnf) rfl 6 (by decide) q_582 rfl (by decide +kernel) rfl rfl (fs' := [.int ((upd (upd (F k) 2 0) 3 0) 0), .int ((upd (upd (F k) 2 0) 3 0) 1), .int ((upd (upd (F k) 2 0) 3 0) 2), .int ((upd (upd (F k) 2 0) 3 0) 3), .int ((upd (upd (F k) 2 0) 3 0) 4), .int ((upd (upd (F k) 2 0) 3 0) 5), .int 0]) (Nat.le_of_ble_eq_true rfl) rfl dL_act_299 (fun H locs hO hS => ?_)
        have hO : mO G lo ad (mU (WS G ad g nf (va_up F k (upd (upd (F k) 2 0) 3 0)) (upd f (9 * kk + zz - 1) ((f (9 * kk + zz - 1)) + ((F k) 1))) no O w (WC G ad g nf F f no O tf tv fw R)) (200 + k) (lfO (upd (upd (upd (F k) 2 0) 3 0) 6 0))) H := hO
        rw [WS_wFu (by assumption) hnf] at hO
        refine lv_aload hx hb dL_act_302 (lv_at hl 5 rfl) ?_
        refine lv_iconst (v := 0) hx hb dL_act_304 (by decide) ?_
        refine m_put (ty := .boolean) tyX6 tyX6_ok nmX6 inX6 hF hC hO hS (WS_Fu (i := k) (by assumption) hnf) rfl 4 (by decide) q_577 rfl (by decide +kernel) rfl rfl (fs' := [.int ((upd (upd (upd (F k) 2 0) 3 0) 6 0) 0), .int ((upd (upd (upd (F k) 2 0) 3 0) 6 0) 1), .int ((upd (upd (upd (F k) 2 0) 3 0) 6 0) 2), .int ((upd (upd (upd (F k) 2 0) 3 0) 6 0) 3), .int 0, .int ((upd (upd (upd (F k) 2 0) 3 0) 6 0) 5), .int ((upd (upd (upd (F k) 2 0) 3 0) 6 0) 6)]) (Nat.le_of_ble_eq_true rfl) rfl dL_act_305 (fun H locs hO hS => ?_)
        have hO : mO G lo ad (mU (WS G ad g nf (va_up F k (upd (upd (upd (F k) 2 0) 3 0) 6 0)) (upd f (9 * kk + zz - 1) ((f (9 * kk + zz - 1)) + ((F k) 1))) no O w (WC G ad g nf F f no O tf tv fw R)) (200 + k) (lfO (upd (upd (upd (upd (F k) 2 0) 3 0) 6 0) 4 0))) H := hO
        rw [WS_wFu (by assumption) hnf] at hO
        rw [renew_eq] at hO
        refine lv_aload_n hx hb dL_act_308 rfl (lv_at hl 1 rfl) ?_
        refine lv_iload_n hx hb dL_act_309 rfl (lv_at hl 4 rfl) ?_
        rw [← WC_WS] at hO
        refine m_vI (As := [.int (nI k)]) (rest := []) (n := 1) hF hC hO hS (k_X5_cutOff l G lo sa ad (WS G ad g nf (va_up F k (p_renewF (F k))) (upd f (9 * kk + zz - 1) ((f (9 * kk + zz - 1)) + ((F k) 1))) no O w R) g nf F f no O tf tv fw k kk hnf hno hk hkk hk0 c181 (Int32.not_lt.mpr c191) ((hFv k hk).size0)) ok_X5_cutOff q_305 rfl rfl ⟨Nat.le_of_ble_eq_true rfl, Nat.le_of_ble_eq_true rfl⟩ rfl hl.1 rfl (Nat.le_of_ble_eq_true rfl) ⟨Nat.le_of_ble_eq_true rfl, Nat.le_of_ble_eq_true rfl⟩ dL_act_310 (fun v310 R' H locs hp hO hS => ?_)
        obtain ⟨rfl, hR⟩ := hp
        rw [hR] at hO
        rw [WC_WS] at hO
        rw [show upd f (9 * kk + zz - 1) (f (9 * kk + zz - 1) + F k 1) = Cf_cut f (F k) from by rw [Cf_cut, if_neg hne, hk0, nn_nI (by omega), hzz, nn_nI (by omega)], show CG_cut g (F k) = g from if_neg hne] at hO
        refine lv_iload hx hb dL_act_313 (lv_at hl 0 rfl) ?_
        refine lv_icmp_ne (tgt := 322) hx hb dL_act_315 (by decide) (fun c315 => absurd rfl c315) (fun c315 => ?_)
        refine lv_iconst (v := 1) hx hb dL_act_318 (by decide) ?_
        refine lv_goto (tgt := 323) hx hb dL_act_319 (by decide) ?_
        refine m_niret hF hr hlk hQ (by decide) rfl hO hS dL_act_323 ?_
        exact ⟨rfl, fun _ _ => rfl, _, _, _, _, _, _, (by have h9 := iv_cut hI hk; rw [show CG_cut g (F k) = g from if_neg hne] at h9; exact h9 : IV n (q + 1) g nf (va_up F k (p_renewF (F k))) (Cf_cut f (F k)) no O).mono (by omega) (by omega), rfl⟩
    · refine lv_iconst (v := 1) hx hb dL_act_194 (by decide) ?_
      refine m_niret hF hr hlk hQ (by decide) rfl hO hS dL_act_195 ?_
      exact ⟨rfl, fun _ _ => rfl, _, _, _, _, _, _, hI.mono (by omega) (by omega), rfl⟩
set_option maxHeartbeats 400000 in
set_option maxRecDepth 100000 in
theorem act_3 {p : Program} {l : Launch} {e : Env} {s : State} {m : MethodId} {args : Array Value} {below : List Frame} {meth : Method} {c : Code} {G : mG} {lo : Nat} {sa : mSc} {ad : Nat → Nat} {R : mM} {Q : State → Prop} {H : Heap} {locs : List Loc} {ls : Array Slot} {g : Nat → Int32} {nf : Nat} {F : Nat → Nat → Int32} {f : Nat → Int32} {no : Nat} {O : Nat → Nat → Int32} {w : Int32} {tf tv fw : Nat → Int32} {n q k : Nat} {x : Int32} (hF : mF p m c cL_act 17 s args RL) (hr : meth.sig.returnType = some .boolean) (hlk : meth.locks = false) (hC : mC G lo sa s s.heap) (hO : mO G lo ad (WS G ad g nf F f no O w (WC G ad g nf F f no O tf tv fw R)) H) (hS : va_S (mA lo) s.heap H locs) (hQ : Q = MQ below (va_Qi (actPost G ad R n q nf tf tv fw) (mBa G lo) (mA lo)) args s 3 31 (mA lo)) (hI : IV n q g nf F f no O) (h1 : 1 ≤ nf) (hn : n ≤ 400) (hq : q ≤ 400) (hz : R 58 = none) (hk : k < nf) (hl : lv_has ls 17 [(0, .ref (ad 0)), (1, .ref (ad 50)), (2, .int x), (3, .int (nI k)), (4, .ref (ad (200 + k)))]) : W p l e (nRm 7 250 3 31) s m args below meth c H locs 0 0 Q (F0 m 324 ls []) := by
  have hx := hF.1
  have hb := hF.2.1
  have hnf : nf ≤ 12 := by have := hI.1; omega
  have hno : no ≤ 20 := hI.2.1
  have hFv := hI.fr
  have hOv := hI.or
  obtain ⟨qn, hqn9, hq3⟩ := hI.qn
  refine lv_aload_n hx hb dL_act_324 rfl (lv_at hl 1 rfl) ?_
  refine m_get inX7 hF hC hO rfl rfl 2 (by decide) q_505 (v := .int (g 2)) rfl dL_act_325 ?_
  refine lv_istore (lv' := [(9, .int (g 2)), (0, .ref (ad 0)), (1, .ref (ad 50)), (2, .int x), (3, .int (nI k)), (4, .ref (ad (200 + k)))]) hx hb dL_act_328 hl (by decide) rfl (fun ls hl => ?_)
  refine lv_aload_n hx hb dL_act_330 rfl (lv_at hl 2 rfl) ?_
  refine lv_iload_n hx hb dL_act_331 rfl (lv_at hl 3 rfl) ?_
  refine lv_iconst (v := 3) hx hb dL_act_332 (by decide) ?_
  refine lv_ishr hx hb dL_act_333 ?_
  generalize (x >>> (3 &&& 31)) = sh333
  refine lv_bipush (v := 6) hx hb dL_act_334 (by decide) ?_
  refine m_sI (As := [.int sh333, .int 6]) (rest := [.ref (ad 50)]) (n := 2) hF hC hO hS (k_L_below l G lo sa ad _ sh333 6 (by omega) (by omega)) ok_L_below q_479 ⟨Nat.le_of_ble_eq_true rfl, Nat.le_of_ble_eq_true rfl⟩ rfl hl.1 rfl (Nat.le_of_ble_eq_true rfl) ⟨Nat.le_of_ble_eq_true rfl, Nat.le_of_ble_eq_true rfl⟩ dL_act_336 (fun v336 R' H locs hp hO hS => ?_)
  obtain ⟨⟨l9, hl9, rfl⟩, hR⟩ := hp
  rw [hR] at hO
  refine m_put (ty := .int) tyX7 tyX7_ok nmX7 inX7 hF hC hO hS rfl rfl 2 (by decide) q_505 rfl (by decide +kernel) rfl rfl (fs' := [.int (g 0), .int (g 1), .int (nI l9), .ref (ad 51), .ref (ad 52), .ref (ad 57), .int (g 3), .int (g 4), .int w]) (Nat.le_of_ble_eq_true rfl) rfl dL_act_339 (fun H locs hO hS => ?_)
  have hO : mO G lo ad (mU (WS G ad g nf F f no O w (WC G ad g nf F f no O tf tv fw R)) 50 (sO ad (upd g 2 (nI l9)) w)) H := hO
  rw [WS_w0] at hO
  refine lv_aload_n hx hb dL_act_342 rfl (lv_at hl 1 rfl) ?_
  refine lv_aload_n hx hb dL_act_343 rfl (lv_at hl 2 rfl) ?_
  refine m_get inX7 hF hC hO rfl rfl 2 (by decide) q_505 (v := .int (nI l9)) rfl dL_act_344 ?_
  rw [← WC_WS] at hO
  refine m_vI (As := [.int (nI l9)]) (rest := []) (n := 1) hF hC hO hS (k_X5_setFire l G lo sa ad (WS G ad (upd g 2 (nI l9)) nf F f no O w R) g nf F f no O tf tv fw (nI l9) hnf hno (p_in_nI (a := 0) (x := l9) (b := 5) (by omega) (by omega) (by decide))) ok_X5_setFire q_546 rfl rfl ⟨Nat.le_of_ble_eq_true rfl, Nat.le_of_ble_eq_true rfl⟩ rfl hl.1 rfl (Nat.le_of_ble_eq_true rfl) ⟨Nat.le_of_ble_eq_true rfl, Nat.le_of_ble_eq_true rfl⟩ dL_act_347 (fun v347 R' H locs hp hO hS => ?_)
  obtain ⟨rfl, hR⟩ := hp
  rw [hR] at hO
  refine lv_iload hx hb dL_act_350 (lv_at hl 0 rfl) ?_
  refine lv_icmp_ne (tgt := 359) hx hb dL_act_352 (by decide) (fun c352 => absurd rfl c352) (fun c352 => ?_)
  refine lv_iconst (v := 1) hx hb dL_act_355 (by decide) ?_
  refine lv_goto (tgt := 360) hx hb dL_act_356 (by decide) ?_
  rw [WC_WS] at hO
  refine m_niret hF hr hlk hQ (by decide) rfl hO hS dL_act_360 ?_
  exact ⟨rfl, fun _ _ => rfl, _, _, _, _, _, _, (iv_fire hI (by omega : l9 ≤ 5)).mono (by omega) (by omega), rfl⟩
set_option maxHeartbeats 400000 in
set_option maxRecDepth 100000 in
theorem act_6 {p : Program} {l : Launch} {e : Env} {s : State} {m : MethodId} {args : Array Value} {below : List Frame} {meth : Method} {c : Code} {G : mG} {lo : Nat} {sa : mSc} {ad : Nat → Nat} {R : mM} {Q : State → Prop} {H : Heap} {locs : List Loc} {ls : Array Slot} {g : Nat → Int32} {nf : Nat} {F : Nat → Nat → Int32} {f : Nat → Int32} {no : Nat} {O : Nat → Nat → Int32} {w : Int32} {tf tv fw : Nat → Int32} {n q k : Nat} {x : Int32} (hF : mF p m c cL_act 17 s args RL) (hr : meth.sig.returnType = some .boolean) (hlk : meth.locks = false) (hC : mC G lo sa s s.heap) (hO : mO G lo ad (WS G ad g nf F f no O w (WC G ad g nf F f no O tf tv fw R)) H) (hS : va_S (mA lo) s.heap H locs) (hQ : Q = MQ below (va_Qi (actPost G ad R n q nf tf tv fw) (mBa G lo) (mA lo)) args s 3 31 (mA lo)) (hI : IV n q g nf F f no O) (h1 : 1 ≤ nf) (hn : n ≤ 400) (hq : q ≤ 400) (hz : R 58 = none) (hk : k < nf) (hl : lv_has ls 17 [(0, .ref (ad 0)), (1, .ref (ad 50)), (2, .int x), (3, .int (nI k)), (4, .ref (ad (200 + k)))]) : W p l e (nRm 7 250 3 31) s m args below meth c H locs 0 0 Q (F0 m 620 ls []) := by
  have hx := hF.1
  have hb := hF.2.1
  have hnf : nf ≤ 12 := by have := hI.1; omega
  have hno : no ≤ 20 := hI.2.1
  have hFv := hI.fr
  have hOv := hI.or
  obtain ⟨qn, hqn9, hq3⟩ := hI.qn
  refine lv_aload_n hx hb dL_act_620 rfl (lv_at hl 1 rfl) ?_
  refine lv_aload hx hb dL_act_621 (lv_at hl 4 rfl) ?_
  refine m_vI (As := [.ref (ad (200 + k))]) (rest := []) (n := 1) hF hC hO hS (k_X7_grows l G lo sa ad (WC G ad g nf F f no O tf tv fw R) g nf F f no O w k hnf hno (by assumption)) ok_X7_grows q_688 rfl rfl ⟨Nat.le_of_ble_eq_true rfl, Nat.le_of_ble_eq_true rfl⟩ rfl hl.1 rfl (Nat.le_of_ble_eq_true rfl) ⟨Nat.le_of_ble_eq_true rfl, Nat.le_of_ble_eq_true rfl⟩ dL_act_623 (fun v623 R' H locs hp hO hS => ?_)
  obtain ⟨rfl, hR⟩ := hp
  rw [hR] at hO
  refine lv_sipush (v := -1000) hx hb dL_act_626 (by decide) ?_
  refine lv_icmp_ne (tgt := 634) hx hb dL_act_629 (by decide) (fun c629 => ?_) (fun c629 => ?_)
  · have hc9 := s_can_of (hFv k hk) hI.gn c629
    have hgn : GN qn g := ⟨hI.gn.1, hI.gn.2.1, qn, Nat.le_refl _, hq3⟩
    refine lv_aload_n hx hb dL_act_634 rfl (lv_at hl 1 rfl) ?_
    refine lv_aload hx hb dL_act_635 (lv_at hl 4 rfl) ?_
    refine m_vV (As := [.ref (ad (200 + k))]) (rest := []) (n := 1) hF hC hO hS (k_X7_dip l G lo sa ad (WC G ad g nf F f no O tf tv fw R) g nf F f no O w k qn hnf hno hk hc9 hgn hFv hOv hq3 (by omega)) ok_X7_dip q_465 rfl rfl ⟨Nat.le_of_ble_eq_true rfl, Nat.le_of_ble_eq_true rfl⟩ rfl hl.1 rfl (Nat.le_of_ble_eq_true rfl) ⟨Nat.le_of_ble_eq_true rfl, Nat.le_of_ble_eq_true rfl⟩ dL_act_637 (fun R' H locs hp hO hS => ?_)
    have hR := hp
    rw [hR] at hO
    refine lv_aload_n hx hb dL_act_640 rfl (lv_at hl 0 rfl) ?_
    refine lv_iload_n hx hb dL_act_641 rfl (lv_at hl 3 rfl) ?_
    rw [← WC_WS] at hO
    refine m_vI (As := [.int (nI k)]) (rest := []) (n := 1) hF hC hO hS (k_X5_dip l G lo sa ad (WS G ad (m_qG (upd (p_dipV (F k) g) 4 (p_dipV (F k) g 4 + 1))) nf (m_coolTo nf k (va_up F k (p_dipF (F k) (g 1)))) f no (m_qO no (upd (p_dipV (F k) g) 4 (p_dipV (F k) g 4 + 1)) O) w R) g nf F f no O tf tv fw k qn hnf hno hk hc9 hq3 (by omega)) ok_X5_dip q_215 rfl rfl ⟨Nat.le_of_ble_eq_true rfl, Nat.le_of_ble_eq_true rfl⟩ rfl hl.1 rfl (Nat.le_of_ble_eq_true rfl) ⟨Nat.le_of_ble_eq_true rfl, Nat.le_of_ble_eq_true rfl⟩ dL_act_642 (fun v642 R' H locs hp hO hS => ?_)
    obtain ⟨rfl, hR⟩ := hp
    rw [hR] at hO
    refine lv_aload hx hb dL_act_645 (lv_at hl 4 rfl) ?_
    rw [WC_WS] at hO
    refine m_get inX6 hF hC hO (WS_F (i := k) (by assumption) hnf) rfl 2 (by decide) q_572 (v := .int (((m_coolTo nf k (va_up F k (p_dipF (F k) (g 1)))) k) 2)) rfl dL_act_647 ?_
    rw [cool_at]
    refine lv_icmp_ne (tgt := 657) hx hb dL_act_650 (by decide) (fun c650 => absurd rfl c650) (fun c650 => ?_)
    refine lv_iconst (v := 1) hx hb dL_act_653 (by decide) ?_
    refine lv_goto (tgt := 658) hx hb dL_act_654 (by decide) ?_
    refine m_niret hF hr hlk hQ (by decide) rfl hO hS dL_act_658 ?_
    exact ⟨rfl, fun _ _ => rfl, _, _, _, _, _, _, (iv_dip hI hk hc9).mono (by omega) (by omega), rfl⟩
  · refine lv_iconst (v := 1) hx hb dL_act_632 (by decide) ?_
    refine m_niret hF hr hlk hQ (by decide) rfl hO hS dL_act_633 ?_
    exact ⟨rfl, fun _ _ => rfl, _, _, _, _, _, _, hI.mono (by omega) (by omega), rfl⟩
