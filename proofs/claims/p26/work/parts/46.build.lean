theorem WS_eat {G : mG} {ad : Nat → Nat} {g : Nat → Int32} {nf no : Nat} {F O : Nat → Nat → Int32} {f : Nat → Int32} {w : Int32} {R : mM} {e : va_E} : WS G ad g nf F f no O w (mU R 50 e) = WS G ad g nf F f no O w R := by
  funext r
  by_cases h : outS r
  · rw [WS_at h rfl, WS_at h rfl, mU_ne (by omega)]
  · unfold WS
    by_cases h2 : 50 ≤ r ∧ r < 58
    · rw [if_pos h2, if_pos h2]
    · by_cases h3 : 200 ≤ r ∧ r < 212
      · rw [if_neg h2, if_neg h2, if_pos h3, if_pos h3]
      · have h4 : 220 ≤ r ∧ r < 240 := by omega
        rw [if_neg h2, if_neg h2, if_neg h3, if_neg h3, if_pos h4, if_pos h4]
theorem heat20 {a m : Nat} (ha : a + m ≤ 50000) (hm : 1 ≤ m) : ((20 : Int32) * nI a + 20 * nI m) / (nI a + nI m) = 20 := by
  rw [show (20 : Int32) = nI 20 from rfl, pk_mul, pk_mul, nI_add, nI_add, pk_div (by omega) (by omega) (by omega)]
  congr 1
  rw [← Nat.mul_add]
  exact Nat.mul_div_cancel _ (by omega)
theorem ok_L_build : mOS yL_build cL_build 10 (some (.object "CandleDipLaw$Sim")) 2 := ⟨q_488, q_0, q_489, by decide +kernel⟩
set_option maxHeartbeats 1000000 in
set_option maxRecDepth 100000 in
theorem k_L_build (l : Launch) (G : mG) (lo : Nat) (sa : mSc) (ad : Nat → Nat) (R : mM) (hz : ∀ x, 50 ≤ x → R x = none) : nR' l yL_build cL_build 10 (.object "CandleDipLaw$Sim") 6 200 40 400 G lo sa ad (WC G ad g_0 0 F_0 (fun _ => 0) 0 F_0 tf_0 g_0 (fun _ => 0) R) [.ref (ad 0), .ref sa.1] (fun u' => ad 0 = u'.1 0 ∧ ∃ (g : Nat → Int32) (nf : Nat) (F : Nat → Nat → Int32) (f : Nat → Int32) (no : Nat) (O : Nat → Nat → Int32) (w : Int32) (tf tv fw : Nat → Int32), 1 ≤ nf ∧ IV 34 0 g nf F f no O ∧ fw 0 = 0 ∧ u'.2 = WS G u'.1 g nf F f no O w (WC G u'.1 g nf F f no O tf tv fw R)) 50 := by
  refine nR_of' (by decide) (Nat.le_of_ble_eq_true rfl) ?_
  intro p e s m args below meth c hF hr hlk hC ls hl hO hS Q hQ
  have hx := hF.1
  have hb := hF.2.1
  have hnf : 0 ≤ 12 := by omega
  have hno : 0 ≤ 20 := by omega
  obtain ⟨a0, ha00⟩ : ∃ z, z = ad 0 := ⟨_, rfl⟩
  have ha0 := ha00
  have hl : lv_has ls 10 [(0, .ref (ad 0)), (1, .ref sa.1)] := hl
  refine m_new (ci := 7) (r := 50) (fs := [.int 0, .int 0, .int 0, .null, .null, .null, .int 0, .int 0, .int 0]) tyX7 tyX7_ok inX7 hF hC hO hS (WC_at2 (by omega) (hz 50 (by omega))) q_490 q_491 q_6 rfl (by decide) ⟨Nat.le_of_ble_eq_true rfl, Nat.le_of_ble_eq_true rfl⟩ dL_build_0 (fun ad1 H had1 hO hS => ?_)
  rw [WC_ad (ad := ad) (ad1 := ad1) (fun x hx => had1 x (by omega))] at hO
  rw [had1 0 (by omega)] at hl ha0
  refine lv_dup hx hb dL_build_3 rfl ?_
  refine m_iNH (host := RL) (As := []) (rest := [.ref (ad1 50)]) (n := 0) hF hC hO hS (k_X7_init l G lo sa ad1 _ mU_self ((mU_ne (by decide)).trans (WC_at2 (by omega) (hz 51 (by omega)))) ((mU_ne (by decide)).trans (WC_at2 (by omega) (hz 57 (by omega))))) ok_X7_init hC.2.2.2.2.1.1 ⟨Nat.le_of_ble_eq_true rfl, Nat.le_of_ble_eq_true rfl⟩ rfl hl.1 rfl (Nat.le_of_ble_eq_true rfl) ⟨Nat.le_of_ble_eq_true rfl, Nat.le_of_ble_eq_true rfl⟩ dL_build_4 (fun ad2 R2 H locs hp hO hS => ?_)
  dsimp only at hp
  obtain ⟨had2, hR⟩ := hp
  rw [hR, WS_eat, WC_ad (ad := ad1) (ad1 := ad2) (fun x hx => had2 x (by omega))] at hO
  rw [had2 0 (by omega)] at hl ha0
  rw [had2 50 (by omega)]
  refine W.widen (k := 8) (n := 53) (by omega) (by omega) ?_
  have hO : mO G lo ad2 (WS G ad2 g_0 0 F_0 (fun _ => 0) 0 F_0 0 (WC G ad2 g_0 0 F_0 (fun _ => 0) 0 F_0 tf_0 g_0 (fun _ => 0) R)) H := hO
  refine lv_astore_n (lv' := [(2, .ref (ad2 50)), (0, .ref (ad2 0)), (1, .ref sa.1)]) hx hb dL_build_7 rfl hl (by decide) rfl (fun ls hl => ?_)
  refine lv_iconst (v := 1) hx hb dL_build_8 (by decide) ?_
  refine lv_aload_n hx hb dL_build_9 rfl (lv_at hl 2 rfl) ?_
  refine lv_iconst (v := 0) hx hb dL_build_10 (by decide) ?_
  refine m_sI (As := [.ref sa.1, .int 0]) (rest := [.int 1]) (n := 2) hF hC hO hS (k_L_cell l G lo sa ad2 _ 0 (by omega)) ok_L_cell q_483 ⟨Nat.le_of_ble_eq_true rfl, Nat.le_of_ble_eq_true rfl⟩ rfl hl.1 rfl (Nat.le_of_ble_eq_true rfl) ⟨Nat.le_of_ble_eq_true rfl, Nat.le_of_ble_eq_true rfl⟩ dL_build_11 (fun v11 R' H locs hp hO hS => ?_)
  obtain ⟨hv11, hR⟩ := hp
  rw [hR] at hO
  refine lv_iconst (v := 4) hx hb dL_build_14 (by decide) ?_
  refine m_sI (As := [.int v11, .int 4]) (rest := [.int 1]) (n := 2) hF hC hO hS (k_L_below l G lo sa ad2 _ v11 4 (by omega) (by omega)) ok_L_below q_479 ⟨Nat.le_of_ble_eq_true rfl, Nat.le_of_ble_eq_true rfl⟩ rfl hl.1 rfl (Nat.le_of_ble_eq_true rfl) ⟨Nat.le_of_ble_eq_true rfl, Nat.le_of_ble_eq_true rfl⟩ dL_build_15 (fun v15 R' H locs hp hO hS => ?_)
  obtain ⟨⟨t4, ht4, rfl⟩, hR⟩ := hp
  rw [hR] at hO
  refine lv_iadd hx hb dL_build_18 ?_
  rw [one_nI]
  generalize hT : t4 + 1 = T
  refine lv_istore_n (lv' := [(3, .int (nI T)), (2, .ref (ad2 50)), (0, .ref (ad2 0)), (1, .ref sa.1)]) hx hb dL_build_19 rfl hl (by decide) rfl (fun ls hl => ?_)
  refine lv_iconst (v := 0) hx hb dL_build_20 (by decide) ?_
  refine lv_istore (lv' := [(4, .int 0), (3, .int (nI T)), (2, .ref (ad2 50)), (0, .ref (ad2 0)), (1, .ref sa.1)]) hx hb dL_build_21 hl (by decide) rfl (fun ls hl => ?_)
  have L23 : ∀ (nM : Nat) (i : Nat) (g : Nat → Int32) (H : Heap) (locs : List Loc) (ls : Array Slot), T - i < nM → i ≤ T → g 1 = 20 → (∃ a : Nat, a ≤ 5000 * i ∧ g 0 = nI a) → (g 2 = 0 ∧ g 3 = 0) → lv_has ls 10 [(0, .ref (ad2 0)), (1, .ref sa.1), (2, .ref (ad2 50)), (3, .int (nI T)), (4, .int (nI i))] → mO G lo ad2 (WS G ad2 g 0 F_0 (fun _ => 0) 0 F_0 0 (WC G ad2 g 0 F_0 (fun _ => 0) 0 F_0 tf_0 g_0 (fun _ => 0) R)) H → va_S (mA lo) s.heap H locs → W p l e (nRm 6 200 40 400) s m args below meth c H locs 8 53 Q (F0 m 23 ls []) := by
    intro nM
    induction nM with
    | zero => intro i g H locs ls hn; exact absurd hn (Nat.not_lt_zero _)
    | succ nM ih23 =>
      intro i g H locs ls hn23 hi hg1 hg0 hgr hl hO hS
      refine lv_iload hx hb dL_build_23 (lv_at hl 4 rfl) ?_
      refine lv_iload_n hx hb dL_build_25 rfl (lv_at hl 3 rfl) ?_
      refine lv_icmp_ge (tgt := 128) hx hb dL_build_26 (by decide) (fun c26 => ?_) (fun c26 => ?_)
      · refine lv_aload_n hx hb dL_build_128 rfl (lv_at hl 2 rfl) ?_
        refine lv_iconst (v := 1) hx hb dL_build_129 (by decide) ?_
        refine lv_aload_n hx hb dL_build_130 rfl (lv_at hl 1 rfl) ?_
        refine lv_iconst (v := 2) hx hb dL_build_131 (by decide) ?_
        refine m_sI (As := [.ref sa.1, .int 2]) (rest := [.int 1, .ref (ad2 50)]) (n := 2) hF hC hO hS (k_L_cell l G lo sa ad2 _ 2 (by omega)) ok_L_cell q_483 ⟨Nat.le_of_ble_eq_true rfl, Nat.le_of_ble_eq_true rfl⟩ rfl hl.1 rfl (Nat.le_of_ble_eq_true rfl) ⟨Nat.le_of_ble_eq_true rfl, Nat.le_of_ble_eq_true rfl⟩ dL_build_132 (fun v132 R' H locs hp hO hS => ?_)
        obtain ⟨hv132, hR⟩ := hp
        rw [hR] at hO
        refine lv_iconst (v := 5) hx hb dL_build_135 (by decide) ?_
        refine m_sI (As := [.int v132, .int 5]) (rest := [.int 1, .ref (ad2 50)]) (n := 2) hF hC hO hS (k_L_below l G lo sa ad2 _ v132 5 (by omega) (by omega)) ok_L_below q_479 ⟨Nat.le_of_ble_eq_true rfl, Nat.le_of_ble_eq_true rfl⟩ rfl hl.1 rfl (Nat.le_of_ble_eq_true rfl) ⟨Nat.le_of_ble_eq_true rfl, Nat.le_of_ble_eq_true rfl⟩ dL_build_136 (fun v136 R' H locs hp hO hS => ?_)
        obtain ⟨⟨l5, hl5, rfl⟩, hR⟩ := hp
        rw [hR] at hO
        refine lv_iadd hx hb dL_build_139 ?_
        rw [one_nI]
        refine m_put (ty := .int) tyX7 tyX7_ok nmX7 inX7 hF hC hO hS rfl rfl 2 (by decide) q_505 rfl (by decide +kernel) rfl rfl (fs' := [.int (g 0), .int (g 1), .int (nI (l5 + 1)), .ref (ad2 51), .ref (ad2 52), .ref (ad2 57), .int (g 3), .int (g 4), .int 0]) (Nat.le_of_ble_eq_true rfl) rfl dL_build_140 (fun H locs hO hS => ?_)
        have hO : mO G lo ad2 (mU (WS G ad2 g 0 F_0 (fun _ => 0) 0 F_0 0 (WC G ad2 g 0 F_0 (fun _ => 0) 0 F_0 tf_0 g_0 (fun _ => 0) R)) 50 (sO ad2 (upd g 2 (nI (l5 + 1))) 0)) H := hO
        rw [WS_w0] at hO
        refine lv_aload_n hx hb dL_build_143 rfl (lv_at hl 0 rfl) ?_
        refine lv_aload_n hx hb dL_build_144 rfl (lv_at hl 2 rfl) ?_
        refine m_get inX7 hF hC hO rfl rfl 2 (by decide) q_505 (v := .int (nI (l5 + 1))) rfl dL_build_145 ?_
        rw [← WC_WS] at hO
        refine m_vI (As := [.int (nI (l5 + 1))]) (rest := []) (n := 1) hF hC hO hS (k_X5_setFire l G lo sa ad2 (WS G ad2 (upd g 2 (nI (l5 + 1))) 0 F_0 (fun _ => 0) 0 F_0 0 R) g 0 F_0 (fun _ => 0) 0 F_0 tf_0 g_0 (fun _ => 0) (nI (l5 + 1)) hnf hno (p_in_nI (a := 0) (x := l5 + 1) (b := 5) (by omega) (by omega) (by decide))) ok_X5_setFire q_546 rfl rfl ⟨Nat.le_of_ble_eq_true rfl, Nat.le_of_ble_eq_true rfl⟩ rfl hl.1 rfl (Nat.le_of_ble_eq_true rfl) ⟨Nat.le_of_ble_eq_true rfl, Nat.le_of_ble_eq_true rfl⟩ dL_build_148 (fun v148 R' H locs hp hO hS => ?_)
        obtain ⟨rfl, hR⟩ := hp
        rw [hR] at hO
        rw [WC_WS] at hO
        rw [hgr.1]
        obtain ⟨a, ha, ea⟩ := hg0
        have hi4 : i ≤ 4 := by omega
        have hgn : GN 0 (upd g 2 (nI (l5 + 1))) := ⟨⟨a, 20, by omega, by omega, ea, hg1⟩, ⟨l5 + 1, by omega, rfl⟩, 0, Nat.le_refl _, hgr.2⟩
        generalize upd g 2 (nI (l5 + 1)) = g5 at hO hgn
        have hq5 : g5 3 = nI 0 := by obtain ⟨m9, hm9, e9⟩ := hgn.2.2; rw [e9, show m9 = 0 by omega]
        refine lv_if_eq (tgt := 156) hx hb dL_build_151 (by decide) (fun c151 => ?_) (fun c151 => absurd (by decide) c151)
        refine lv_iconst (v := 1) hx hb dL_build_156 (by decide) ?_
        refine lv_aload_n hx hb dL_build_157 rfl (lv_at hl 1 rfl) ?_
        refine lv_iconst (v := 3) hx hb dL_build_158 (by decide) ?_
        refine m_sI (As := [.ref sa.1, .int 3]) (rest := [.int 1]) (n := 2) hF hC hO hS (k_L_cell l G lo sa ad2 _ 3 (by omega)) ok_L_cell q_483 ⟨Nat.le_of_ble_eq_true rfl, Nat.le_of_ble_eq_true rfl⟩ rfl hl.1 rfl (Nat.le_of_ble_eq_true rfl) ⟨Nat.le_of_ble_eq_true rfl, Nat.le_of_ble_eq_true rfl⟩ dL_build_159 (fun v159 R' H locs hp hO hS => ?_)
        obtain ⟨hv159, hR⟩ := hp
        rw [hR] at hO
        refine lv_bipush (v := 7) hx hb dL_build_162 (by decide) ?_
        refine m_sI (As := [.int v159, .int 7]) (rest := [.int 1]) (n := 2) hF hC hO hS (k_L_below l G lo sa ad2 _ v159 7 (by omega) (by omega)) ok_L_below q_479 ⟨Nat.le_of_ble_eq_true rfl, Nat.le_of_ble_eq_true rfl⟩ rfl hl.1 rfl (Nat.le_of_ble_eq_true rfl) ⟨Nat.le_of_ble_eq_true rfl, Nat.le_of_ble_eq_true rfl⟩ dL_build_164 (fun v164 R' H locs hp hO hS => ?_)
        obtain ⟨⟨n7, hn7, rfl⟩, hR⟩ := hp
        rw [hR] at hO
        refine lv_iadd hx hb dL_build_167 ?_
        rw [one_nI]
        generalize hN : n7 + 1 = N
        refine lv_istore (lv' := [(4, .int (nI N)), (0, .ref (ad2 0)), (1, .ref sa.1), (2, .ref (ad2 50)), (3, .int (nI T))]) hx hb dL_build_168 hl (by decide) rfl (fun ls hl => ?_)
        refine lv_iconst (v := 0) hx hb dL_build_170 (by decide) ?_
        refine lv_istore (lv' := [(5, .int 0), (4, .int (nI N)), (0, .ref (ad2 0)), (1, .ref sa.1), (2, .ref (ad2 50)), (3, .int (nI T))]) hx hb dL_build_171 hl (by decide) rfl (fun ls hl => ?_)
        have L173 : ∀ (nM : Nat) (i : Nat) (F : Nat → Nat → Int32) (adL : Nat → Nat) (H : Heap) (locs : List Loc) (ls : Array Slot), N - i < nM → i ≤ N → IV 0 0 g5 i F (fun _ => 0) 0 F_0 → a0 = adL 0 → lv_has ls 10 [(0, .ref (adL 0)), (1, .ref sa.1), (2, .ref (adL 50)), (4, .int (nI N)), (5, .int (nI i))] → mO G lo adL (WS G adL g5 i F (fun _ => 0) 0 F_0 0 (WC G adL g5 i F (fun _ => 0) 0 F_0 tf_0 g_0 (fun _ => 0) R)) H → va_S (mA lo) s.heap H locs → W p l e (nRm 6 200 40 400) s m args below meth c H locs (8 + 3 * i) (53 + 27 * i) Q (F0 m 173 ls []) := by
          intro nM
          induction nM with
          | zero => intro i F adL H locs ls hn; exact absurd hn (Nat.not_lt_zero _)
          | succ nM ih173 =>
            intro i F adL H locs ls hn173 hi hI ha0 hl hO hS
            refine lv_iload hx hb dL_build_173 (lv_at hl 4 rfl) ?_
            refine lv_iload hx hb dL_build_175 (lv_at hl 3 rfl) ?_
            refine lv_icmp_ge (tgt := 299) hx hb dL_build_177 (by decide) (fun c177 => ?_) (fun c177 => ?_)
            · refine lv_iconst (v := 5) hx hb dL_build_299 (by decide) ?_
              refine lv_aload_n hx hb dL_build_300 rfl (lv_at hl 1 rfl) ?_
              refine lv_bipush (v := 6) hx hb dL_build_301 (by decide) ?_
              refine m_sI (As := [.ref sa.1, .int 6]) (rest := [.int 5]) (n := 2) hF hC hO hS (k_L_cell l G lo sa adL _ 6 (by omega)) ok_L_cell q_483 ⟨Nat.le_of_ble_eq_true rfl, Nat.le_of_ble_eq_true rfl⟩ rfl hl.1 rfl (Nat.le_of_ble_eq_true rfl) ⟨(by show _ ≤ 40; omega), (by show _ ≤ 400; omega)⟩ dL_build_303 (fun v303 R' H locs hp hO hS => ?_)
              obtain ⟨hv303, hR⟩ := hp
              rw [hR] at hO
              refine lv_bipush (v := 30) hx hb dL_build_306 (by decide) ?_
              refine m_sI (As := [.int v303, .int 30]) (rest := [.int 5]) (n := 2) hF hC hO hS (k_L_below l G lo sa adL _ v303 30 (by omega) (by omega)) ok_L_below q_479 ⟨Nat.le_of_ble_eq_true rfl, Nat.le_of_ble_eq_true rfl⟩ rfl hl.1 rfl (Nat.le_of_ble_eq_true rfl) ⟨(by show _ ≤ 40; omega), (by show _ ≤ 400; omega)⟩ dL_build_308 (fun v308 R' H locs hp hO hS => ?_)
              obtain ⟨⟨b30, hb30, rfl⟩, hR⟩ := hp
              rw [hR] at hO
              refine lv_iadd hx hb dL_build_311 ?_
              rw [show (5 : Int32) + nI b30 = nI (b30 + 5) from by rw [show (5 : Int32) = nI 5 from rfl, nI_add, Nat.add_comm]]
              generalize hB : b30 + 5 = B
              have e7 : i = N := Nat.le_antisymm hi (nI_E (a := N) (b := i) (by omega) (by omega) c177)
              have hnf : i ≤ 12 := by omega
              refine W.widen (k := 29) (n := 242) (by omega) (by omega) ?_
              refine lv_istore (lv' := [(5, .int (nI B)), (0, .ref (adL 0)), (1, .ref sa.1), (2, .ref (adL 50)), (4, .int (nI N))]) hx hb dL_build_312 hl (by decide) rfl (fun ls hl => ?_)
              refine lv_iconst (v := 0) hx hb dL_build_314 (by decide) ?_
              refine lv_istore (lv' := [(6, .int 0), (5, .int (nI B)), (0, .ref (adL 0)), (1, .ref sa.1), (2, .ref (adL 50)), (4, .int (nI N))]) hx hb dL_build_315 hl (by decide) rfl (fun ls hl => ?_)
              have L317 : ∀ (nM : Nat) (j : Nat) (g9 : Nat → Int32) (F9 : Nat → Nat → Int32) (O9 : Nat → Nat → Int32) (H : Heap) (locs : List Loc) (ls : Array Slot), B - j < nM → j ≤ B → IV j 0 g9 i F9 (fun _ => 0) 0 O9 → g9 3 = nI j → m_pG (B - j) g9 = m_pG B g5 → m_pF (B - j) i 12 F9 = m_pF B i 12 F → m_pO (B - j) 0 g9 O9 = m_pO B 0 g5 F_0 → lv_has ls 10 [(0, .ref (adL 0)), (1, .ref sa.1), (2, .ref (adL 50)), (5, .int (nI B)), (6, .int (nI j))] → mO G lo adL (WS G adL g9 i F9 (fun _ => 0) 0 O9 0 (WC G adL g5 i F (fun _ => 0) 0 F_0 tf_0 g_0 (fun _ => 0) R)) H → va_S (mA lo) s.heap H locs → W p l e (nRm 6 200 40 400) s m args below meth c H locs 29 242 Q (F0 m 317 ls []) := by
                intro nM
                induction nM with
                | zero => intro j g9 F9 O9 H locs ls hn; exact absurd hn (Nat.not_lt_zero _)
                | succ nM ih317 =>
                  intro j g9 F9 O9 H locs ls hn317 hj hI9 hq9 hvg hvF hvO hl hO hS
                  refine lv_iload hx hb dL_build_317 (lv_at hl 4 rfl) ?_
                  refine lv_iload hx hb dL_build_319 (lv_at hl 3 rfl) ?_
                  refine lv_icmp_ge (tgt := 335) hx hb dL_build_321 (by decide) (fun c321 => ?_) (fun c321 => ?_)
                  · have e9 : j = B := Nat.le_antisymm hj (nI_E (a := B) (b := j) (by omega) (by omega) c321)
                    rw [e9, Nat.sub_self] at hvg hvF hvO
                    have hvg : g9 = m_pG B g5 := hvg
                    have hvF : F9 = m_pF B i 12 F := hvF
                    have hvO : O9 = m_pO B 0 g5 F_0 := hvO
                    refine lv_aload_n hx hb dL_build_335 rfl (lv_at hl 0 rfl) ?_
                    refine lv_iload hx hb dL_build_336 (lv_at hl 3 rfl) ?_
                    rw [← WC_WS] at hO
                    refine m_vI (As := [.int (nI B)]) (rest := []) (n := 1) hF hC hO hS (k_X5_pass l G lo sa adL (WS G adL g9 i F9 (fun _ => 0) 0 O9 0 R) g5 i F (fun _ => 0) 0 F_0 tf_0 g_0 (fun _ => 0) B 0 hnf hno (by omega) (by omega) hq5 (by decide)) ok_X5_pass q_363 rfl rfl ⟨Nat.le_of_ble_eq_true rfl, Nat.le_of_ble_eq_true rfl⟩ rfl hl.1 rfl (Nat.le_of_ble_eq_true rfl) ⟨Nat.le_of_ble_eq_true rfl, Nat.le_of_ble_eq_true rfl⟩ dL_build_338 (fun v338 R' H locs hp hO hS => ?_)
                    obtain ⟨rfl, hR⟩ := hp
                    rw [hR] at hO
                    rw [WC_WS] at hO
                    rw [← hvg, ← hvF, ← hvO] at hO
                    rw [← hvg]
                    refine lv_aload_n hx hb dL_build_341 rfl (lv_at hl 2 rfl) ?_
                    refine m_get inX7 hF hC hO rfl rfl 1 (by decide) q_504 (v := .int (g9 1)) rfl dL_build_342 ?_
                    refine lv_icmp_ne (tgt := 352) hx hb dL_build_345 (by decide) (fun c345 => absurd rfl c345) (fun c345 => ?_)
                    refine lv_aload_n hx hb dL_build_348 rfl (lv_at hl 2 rfl) ?_
                    refine lv_goto (tgt := 353) hx hb dL_build_349 (by decide) ?_
                    refine m_nraret hF hr hlk hQ ⟨by omega, by omega⟩ hO hS dL_build_353 ?_
                    exact ⟨ha00.symm.trans ha0, g9, i, F9, fun _ => 0, 0, O9, 0, tf_0, g_0, fun _ => 0, by omega, hI9.mono (by omega) (by omega), rfl, rfl⟩
                  · have hjn : j < B := (nI_nE (a := B) (b := j) (by omega) (by omega) c321)
                    refine lv_aload_n hx hb dL_build_324 rfl (lv_at hl 2 rfl) ?_
                    refine lv_null hx hb dL_build_325 ?_
                    refine m_vV (As := [.null]) (rest := []) (n := 1) hF hC hO hS (k_X7_pass0 l G lo sa adL (WC G adL g5 i F (fun _ => 0) 0 F_0 tf_0 g_0 (fun _ => 0) R) g9 i F9 (fun _ => 0) 0 O9 0 12 j hnf hno hnf hI9.fr hI9.or hq9 (by omega)) ok_X7_pass q_478 rfl rfl ⟨Nat.le_of_ble_eq_true rfl, Nat.le_of_ble_eq_true rfl⟩ rfl hl.1 rfl (Nat.le_of_ble_eq_true rfl) ⟨Nat.le_of_ble_eq_true rfl, Nat.le_of_ble_eq_true rfl⟩ dL_build_326 (fun R' H locs hp hO hS => ?_)
                    have hR := hp
                    rw [hR] at hO
                    refine lv_iinc (v := (nI (j + 1))) (lv' := [(6, .int (nI (j + 1))), (0, .ref (adL 0)), (1, .ref sa.1), (2, .ref (adL 50)), (5, .int (nI B))]) hx hb dL_build_329 hl (k := 4) rfl (nI_inc j) (by decide) rfl (fun ls hl => ?_)
                    refine lv_goto (tgt := 317) hx hb dL_build_332 (by decide) ?_
                    exact ih317 (j + 1) (m_qG g9) (m_coolTo i 12 F9) (m_qO 0 g9 O9) _ _ _ (by omega) (by omega) (iv_pass hI9) (by show g9 3 + 1 = _; rw [hq9]; exact nI_1 _) (by rw [← hvg, show B - j = (B - (j + 1)) + 1 from by omega]; rfl) (by rw [← hvF, show B - j = (B - (j + 1)) + 1 from by omega]; rfl) (by rw [← hvO, show B - j = (B - (j + 1)) + 1 from by omega]; rfl) (lv_sub hl [1, 2, 3, 4, 0] rfl) hO hS
              exact L317 _ 0 g5 F F_0 _ _ _ (Nat.lt_succ_self _) (by omega) hI hq5 rfl rfl rfl (lv_sub hl [2, 3, 4, 1, 0] rfl) hO hS
            · refine lv_aload_n hx hb dL_build_180 rfl (lv_at hl 1 rfl) ?_
              refine lv_iconst (v := 4) hx hb dL_build_181 (by decide) ?_
              refine lv_iload hx hb dL_build_182 (lv_at hl 4 rfl) ?_
              refine lv_iconst (v := 2) hx hb dL_build_184 (by decide) ?_
              refine lv_irem hx hb dL_build_185 (by decide) ?_
              refine lv_iadd hx hb dL_build_186 ?_
              rw [show (4 : Int32) + (nI i - nI i / 2 * 2) = nI (4 + i % 2) from by rw [show (2 : Int32) = nI 2 from rfl, pk_rem (by omega) (by decide) (by decide), show (4 : Int32) = nI 4 from rfl, nI_add]]
              refine m_sI (As := [.ref sa.1, .int (nI (4 + i % 2))]) (rest := []) (n := 2) hF hC hO hS (k_L_cell l G lo sa adL _ (4 + i % 2) (by omega)) ok_L_cell q_483 ⟨Nat.le_of_ble_eq_true rfl, Nat.le_of_ble_eq_true rfl⟩ rfl hl.1 rfl (Nat.le_of_ble_eq_true rfl) ⟨(by show _ ≤ 40; omega), (by show _ ≤ 400; omega)⟩ dL_build_187 (fun v187 R' H locs hp hO hS => ?_)
              obtain ⟨hv187, hR⟩ := hp
              rw [hR] at hO
              refine lv_iload hx hb dL_build_190 (lv_at hl 4 rfl) ?_
              refine lv_ishr hx hb dL_build_192 ?_
              generalize (v187 >>> ((nI i) &&& 31)) = sh192
              refine lv_iconst (v := 5) hx hb dL_build_193 (by decide) ?_
              refine lv_iload hx hb dL_build_194 (lv_at hl 4 rfl) ?_
              refine lv_imul hx hb dL_build_196 ?_
              refine lv_iadd hx hb dL_build_197 ?_
              generalize (sh192 + (5 * (nI i))) = x6
              refine lv_istore (lv' := [(6, .int x6), (0, .ref (adL 0)), (1, .ref sa.1), (2, .ref (adL 50)), (4, .int (nI N)), (5, .int (nI i))]) hx hb dL_build_198 hl (by decide) rfl (fun ls hl => ?_)
              refine lv_iload hx hb dL_build_200 (lv_at hl 0 rfl) ?_
              refine lv_iconst (v := 4) hx hb dL_build_202 (by decide) ?_
              refine m_sI (As := [.int x6, .int 4]) (rest := []) (n := 2) hF hC hO hS (k_L_below l G lo sa adL _ x6 4 (by omega) (by omega)) ok_L_below q_479 ⟨Nat.le_of_ble_eq_true rfl, Nat.le_of_ble_eq_true rfl⟩ rfl hl.1 rfl (Nat.le_of_ble_eq_true rfl) ⟨(by show _ ≤ 40; omega), (by show _ ≤ 400; omega)⟩ dL_build_203 (fun v203 R' H locs hp hO hS => ?_)
              obtain ⟨⟨k4, hk4, rfl⟩, hR⟩ := hp
              rw [hR] at hO
              refine lv_istore (lv' := [(7, .int (nI k4)), (6, .int x6), (0, .ref (adL 0)), (1, .ref sa.1), (2, .ref (adL 50)), (4, .int (nI N)), (5, .int (nI i))]) hx hb dL_build_206 hl (by decide) rfl (fun ls hl => ?_)
              refine lv_iconst (v := 1) hx hb dL_build_208 (by decide) ?_
              refine lv_iload hx hb dL_build_209 (lv_at hl 1 rfl) ?_
              refine lv_iconst (v := 2) hx hb dL_build_211 (by decide) ?_
              refine lv_ishr hx hb dL_build_212 ?_
              generalize (x6 >>> (2 &&& 31)) = sh212
              refine lv_bipush (v := 20) hx hb dL_build_213 (by decide) ?_
              refine m_sI (As := [.int sh212, .int 20]) (rest := [.int 1]) (n := 2) hF hC hO hS (k_L_below l G lo sa adL _ sh212 20 (by omega) (by omega)) ok_L_below q_479 ⟨Nat.le_of_ble_eq_true rfl, Nat.le_of_ble_eq_true rfl⟩ rfl hl.1 rfl (Nat.le_of_ble_eq_true rfl) ⟨(by show _ ≤ 40; omega), (by show _ ≤ 400; omega)⟩ dL_build_215 (fun v215 R' H locs hp hO hS => ?_)
              obtain ⟨⟨w20, hw20, rfl⟩, hR⟩ := hp
              rw [hR] at hO
              refine lv_iadd hx hb dL_build_218 ?_
              rw [one_nI]
              have hin : i < N := (nI_nE (a := N) (b := i) (by omega) (by omega) c177)
              refine lv_istore (lv' := [(8, .int (nI (w20 + 1))), (7, .int (nI k4)), (6, .int x6), (0, .ref (adL 0)), (1, .ref sa.1), (2, .ref (adL 50)), (4, .int (nI N)), (5, .int (nI i))]) hx hb dL_build_219 hl (by decide) rfl (fun ls hl => ?_)
              refine lv_aload_n hx hb dL_build_221 rfl (lv_at hl 3 rfl) ?_
              refine lv_iload hx hb dL_build_222 (lv_at hl 1 rfl) ?_
              refine lv_iload hx hb dL_build_224 (lv_at hl 0 rfl) ?_
              rw [← WC_WS] at hO
              refine m_vNi (As := [.int (nI k4), .int (nI (w20 + 1))]) (rest := []) (n := 2) hF hC hO hS (k_X5_addFrame l G lo sa adL _ g5 i F (fun _ => 0) 0 F_0 tf_0 g_0 (fun _ => 0) (nI k4) (nI (w20 + 1)) (by omega) (by omega) (by omega) (p_in_nI (a := 0) (b := 3) (by omega) (by omega) (by decide)) (p_in_nI (a := 1) (b := 20) (by omega) (by omega) (by decide))) ok_X5_addFrame q_551 rfl rfl ⟨Nat.le_of_ble_eq_true rfl, Nat.le_of_ble_eq_true rfl⟩ rfl hl.1 rfl (Nat.le_of_ble_eq_true rfl) ⟨(by show _ ≤ 40; omega), (by show _ ≤ 400; omega)⟩ dL_build_226 (fun v1 ad3 R1 H locs hp hO hS => ?_)
              dsimp only at hp
              obtain ⟨rfl, had3, hR⟩ := hp
              rw [hR, WS_ad (ad1 := ad3) (fun x hx => had3 x (by omega))] at hO
              rw [had3 0 (by omega), had3 50 (by omega)] at hl
              rw [had3 0 (by omega)] at ha0
              rw [WC_WS] at hO
              refine lv_iload hx hb dL_build_229 (lv_at hl 7 rfl) ?_
              refine lv_icmp_eq (tgt := 236) hx hb dL_build_231 (by decide) (fun c231 => ?_) (fun c231 => absurd (rfl) c231)
              refine lv_aload_n hx hb dL_build_236 rfl (lv_at hl 5 rfl) ?_
              refine lv_iload hx hb dL_build_237 (lv_at hl 1 rfl) ?_
              refine lv_iload hx hb dL_build_239 (lv_at hl 0 rfl) ?_
              refine m_vNv (As := [.int (nI k4), .int (nI (w20 + 1))]) (rest := []) (n := 2) hF hC hO hS (k_X7_frame l G lo sa ad3 _ g5 i F (fun _ => 0) 0 F_0 0 (nI k4) (nI (w20 + 1)) (by omega) (by omega) (by omega) (WC_at2 (by omega) (hz 58 (by omega)))) ok_X7_frame q_558 rfl rfl ⟨Nat.le_of_ble_eq_true rfl, Nat.le_of_ble_eq_true rfl⟩ rfl hl.1 rfl (Nat.le_of_ble_eq_true rfl) ⟨(by show _ ≤ 40; omega), (by show _ ≤ 400; omega)⟩ dL_build_241 (fun ad4 R2 H locs hp2 hO hS => ?_)
              dsimp only at hp2
              obtain ⟨had4, hR2⟩ := hp2
              rw [hR2, WC_ad (ad1 := ad4) (fun x hx => had4 x (by omega) (by omega) (by omega))] at hO
              rw [had4 0 (by omega) (by omega) (by omega), had4 50 (by omega) (by omega) (by omega)] at hl
              rw [had4 0 (by omega) (by omega) (by omega)] at ha0
              have hnf : i + 1 ≤ 12 := by omega
              have hii : i < i + 1 := Nat.lt_succ_self i
              have hI2 := iv_frame hI (by omega) hk4 (by omega : 1 ≤ w20 + 1) (by omega)
              refine lv_iload hx hb dL_build_244 (lv_at hl 2 rfl) ?_
              refine lv_iconst (v := 4) hx hb dL_build_246 (by decide) ?_
              refine lv_ishr hx hb dL_build_247 ?_
              generalize (x6 >>> (4 &&& 31)) = sh247
              refine lv_bipush (v := 12) hx hb dL_build_248 (by decide) ?_
              refine m_sI (As := [.int sh247, .int 12]) (rest := []) (n := 2) hF hC hO hS (k_L_below l G lo sa ad4 _ sh247 12 (by omega) (by omega)) ok_L_below q_479 ⟨Nat.le_of_ble_eq_true rfl, Nat.le_of_ble_eq_true rfl⟩ rfl hl.1 rfl (Nat.le_of_ble_eq_true rfl) ⟨(by show _ ≤ 40; omega), (by show _ ≤ 400; omega)⟩ dL_build_250 (fun v250 R' H locs hp hO hS => ?_)
              obtain ⟨⟨h12, hh12, rfl⟩, hR⟩ := hp
              rw [hR] at hO
              refine lv_istore (lv' := [(9, .int (nI h12)), (8, .int (nI (w20 + 1))), (7, .int (nI k4)), (6, .int x6), (0, .ref (ad4 0)), (1, .ref sa.1), (2, .ref (ad4 50)), (4, .int (nI N)), (5, .int (nI i))]) hx hb dL_build_253 hl (by decide) rfl (fun ls hl => ?_)
              refine lv_aload_n hx hb dL_build_255 rfl (lv_at hl 6 rfl) ?_
              refine lv_iload hx hb dL_build_256 (lv_at hl 0 rfl) ?_
              refine m_vI (As := [.int (nI h12)]) (rest := []) (n := 1) hF hC hO hS (k_X7_at l G lo sa ad4 (WC G ad4 g5 (i + 1) (va_up F i (N_F (nI k4) (nI (w20 + 1)))) (fun _ => 0) 0 F_0 tf_0 g_0 (fun _ => 0) R) g5 (i + 1) (va_up F i (N_F (nI k4) (nI (w20 + 1)))) (fun _ => 0) 0 F_0 0 (nI h12) hnf hno) ok_X7_at q_599 rfl rfl ⟨Nat.le_of_ble_eq_true rfl, Nat.le_of_ble_eq_true rfl⟩ rfl hl.1 rfl (Nat.le_of_ble_eq_true rfl) ⟨(by show _ ≤ 40; omega), (by show _ ≤ 400; omega)⟩ dL_build_258 (fun v258 R' H locs hp hO hS => ?_)
              obtain ⟨rfl, hR⟩ := hp
              rw [hR] at hO
              refine lv_if_lt (tgt := 267) hx hb dL_build_261 (by decide) (fun c261 => ?_) (fun c261 => ?_)
              · refine lv_aload_n hx hb dL_build_267 rfl (lv_at hl 6 rfl) ?_
                refine m_get inX7 hF hC hO rfl rfl 3 (by decide) q_508 (v := .ref (ad4 51)) rfl dL_build_268 ?_
                refine lv_iload hx hb dL_build_271 (lv_at hl 8 rfl) ?_
                refine m_aldP hF hC hO rfl (j := i) (nI_clamp (by omega)) (vp_in_nI hii (by omega)) dL_build_273 (v := .ref (ad4 (200 + i))) (adF_in (by first | assumption | omega)) ?_
                refine lv_iload hx hb dL_build_274 (lv_at hl 0 rfl) ?_
                refine m_put (ty := .int) tyX6 tyX6_ok nmX6 inX6 hF hC hO hS (WS_Fu (i := i) (by assumption) hnf) rfl 5 (by decide) q_580 rfl (by decide +kernel) rfl rfl (fs' := [.int ((N_F (nI k4) (nI (w20 + 1))) 0), .int ((N_F (nI k4) (nI (w20 + 1))) 1), .int ((N_F (nI k4) (nI (w20 + 1))) 2), .int ((N_F (nI k4) (nI (w20 + 1))) 3), .int ((N_F (nI k4) (nI (w20 + 1))) 4), .int (nI h12), .int ((N_F (nI k4) (nI (w20 + 1))) 6)]) (Nat.le_of_ble_eq_true rfl) rfl dL_build_276 (fun H locs hO hS => ?_)
                have hO : mO G lo ad4 (mU (WS G ad4 g5 (i + 1) (va_up F i (N_F (nI k4) (nI (w20 + 1)))) (fun _ => 0) 0 F_0 0 (WC G ad4 g5 (i + 1) (va_up F i (N_F (nI k4) (nI (w20 + 1)))) (fun _ => 0) 0 F_0 tf_0 g_0 (fun _ => 0) R)) (200 + i) (lfO (upd (N_F (nI k4) (nI (w20 + 1))) 5 (nI h12)))) H := hO
                rw [WS_wFu (by assumption) hnf] at hO
                refine lv_aload_n hx hb dL_build_279 rfl (lv_at hl 4 rfl) ?_
                refine lv_iload hx hb dL_build_280 (lv_at hl 8 rfl) ?_
                refine lv_iload hx hb dL_build_282 (lv_at hl 0 rfl) ?_
                rw [← WC_WS] at hO
                refine m_vI (As := [.int (nI i), .int (nI h12)]) (rest := []) (n := 2) hF hC hO hS (k_X5_hang l G lo sa ad4 (WS G ad4 g5 (i + 1) (va_up F i (upd (N_F (nI k4) (nI (w20 + 1))) 5 (nI h12))) (fun _ => 0) 0 F_0 0 R) g5 (i + 1) (va_up F i (N_F (nI k4) (nI (w20 + 1)))) (fun _ => 0) 0 F_0 tf_0 g_0 (fun _ => 0) i (nI h12) hnf hno hii (p_in_nI (a := 0) (x := h12) (b := 11) (by omega) (by omega) (by decide)) (Or.inl (at_neg hnf c261))) ok_X5_hang q_603 rfl rfl ⟨Nat.le_of_ble_eq_true rfl, Nat.le_of_ble_eq_true rfl⟩ rfl hl.1 rfl (Nat.le_of_ble_eq_true rfl) ⟨(by show _ ≤ 40; omega), (by show _ ≤ 400; omega)⟩ dL_build_284 (fun v284 R' H locs hp hO hS => ?_)
                obtain ⟨rfl, hR⟩ := hp
                rw [hR] at hO
                rw [WC_WS] at hO
                rw [va_up2] at hO
                rw [show va_up F i (N_F (nI k4) (nI (w20 + 1))) i 5 = -1 from by rw [va_upat]; rfl]
                refine lv_iconst (v := -1) hx hb dL_build_287 (by decide) ?_
                refine lv_icmp_eq (tgt := 293) hx hb dL_build_288 (by decide) (fun c288 => ?_) (fun c288 => absurd (by decide) c288)
                refine lv_iinc (v := (nI (i + 1))) (lv' := [(5, .int (nI (i + 1))), (9, .int (nI h12)), (8, .int (nI (w20 + 1))), (7, .int (nI k4)), (6, .int x6), (0, .ref (ad4 0)), (1, .ref sa.1), (2, .ref (ad4 50)), (4, .int (nI N))]) hx hb dL_build_293 hl (k := 8) rfl (nI_inc i) (by decide) rfl (fun ls hl => ?_)
                refine lv_goto (tgt := 173) hx hb dL_build_296 (by decide) ?_
                refine W.widen (k := 8 + 3 * (i + 1)) (n := 53 + 27 * (i + 1)) (by omega) (by omega) ?_
                exact ih173 (i + 1) (va_up F i (upd (N_F (nI k4) (nI (w20 + 1))) 5 (nI h12))) ad4 _ _ _ (by omega) (by omega) (by have h9 := iv_hang hI2 hii (by omega : h12 ≤ 11) (Or.inl (at_neg hnf c261)); rw [va_up2] at h9; exact h9) ha0 (lv_sub hl [5, 6, 7, 8, 0] rfl) hO hS
              · refine lv_goto (tgt := 293) hx hb dL_build_264 (by decide) ?_
                refine lv_iinc (v := (nI (i + 1))) (lv' := [(5, .int (nI (i + 1))), (9, .int (nI h12)), (8, .int (nI (w20 + 1))), (7, .int (nI k4)), (6, .int x6), (0, .ref (ad4 0)), (1, .ref sa.1), (2, .ref (ad4 50)), (4, .int (nI N))]) hx hb dL_build_293 hl (k := 8) rfl (nI_inc i) (by decide) rfl (fun ls hl => ?_)
                refine lv_goto (tgt := 173) hx hb dL_build_296 (by decide) ?_
                refine W.widen (k := 8 + 3 * (i + 1)) (n := 53 + 27 * (i + 1)) (by omega) (by omega) ?_
                exact ih173 (i + 1) (va_up F i (N_F (nI k4) (nI (w20 + 1)))) ad4 _ _ _ (by omega) (by omega) hI2 ha0 (lv_sub hl [5, 6, 7, 8, 0] rfl) hO hS
        exact L173 _ 0 F_0 ad2 _ _ _ (Nat.lt_succ_self _) (by omega) (⟨by omega, by omega, hgn, (fun i9 h9 => absurd h9 (Nat.not_lt_zero _)), (fun i9 h9 => absurd h9 (Nat.not_lt_zero _)), (fun j9 _ => ⟨0, by omega, rfl⟩), (fun a9 b9 h9 => absurd h9 (Nat.not_lt_zero _))⟩) ha0 (lv_sub hl [2, 3, 4, 1, 0] rfl) hO hS
      · refine lv_iconst (v := 1) hx hb dL_build_29 (by decide) ?_
        refine lv_aload_n hx hb dL_build_30 rfl (lv_at hl 1 rfl) ?_
        refine lv_iconst (v := 1) hx hb dL_build_31 (by decide) ?_
        refine m_sI (As := [.ref sa.1, .int 1]) (rest := [.int 1]) (n := 2) hF hC hO hS (k_L_cell l G lo sa ad2 _ 1 (by omega)) ok_L_cell q_483 ⟨Nat.le_of_ble_eq_true rfl, Nat.le_of_ble_eq_true rfl⟩ rfl hl.1 rfl (Nat.le_of_ble_eq_true rfl) ⟨Nat.le_of_ble_eq_true rfl, Nat.le_of_ble_eq_true rfl⟩ dL_build_32 (fun v32 R' H locs hp hO hS => ?_)
        obtain ⟨hv32, hR⟩ := hp
        rw [hR] at hO
        refine lv_iconst (v := 3) hx hb dL_build_35 (by decide) ?_
        refine lv_iload hx hb dL_build_36 (lv_at hl 4 rfl) ?_
        refine lv_imul hx hb dL_build_38 ?_
        refine lv_ishr hx hb dL_build_39 ?_
        generalize (v32 >>> ((3 * (nI i)) &&& 31)) = sh39
        refine lv_aload_n hx hb dL_build_40 rfl (lv_at hl 1 rfl) ?_
        refine lv_iconst (v := 0) hx hb dL_build_41 (by decide) ?_
        refine m_sI (As := [.ref sa.1, .int 0]) (rest := [.int sh39, .int 1]) (n := 2) hF hC hO hS (k_L_cell l G lo sa ad2 _ 0 (by omega)) ok_L_cell q_483 ⟨Nat.le_of_ble_eq_true rfl, Nat.le_of_ble_eq_true rfl⟩ rfl hl.1 rfl (Nat.le_of_ble_eq_true rfl) ⟨Nat.le_of_ble_eq_true rfl, Nat.le_of_ble_eq_true rfl⟩ dL_build_42 (fun v42 R' H locs hp hO hS => ?_)
        obtain ⟨hv42, hR⟩ := hp
        rw [hR] at hO
        refine lv_iconst (v := 5) hx hb dL_build_45 (by decide) ?_
        refine lv_ishr hx hb dL_build_46 ?_
        generalize (v42 >>> (5 &&& 31)) = sh46
        refine lv_iconst (v := 2) hx hb dL_build_47 (by decide) ?_
        refine m_sI (As := [.int sh46, .int 2]) (rest := [.int sh39, .int 1]) (n := 2) hF hC hO hS (k_L_below l G lo sa ad2 _ sh46 2 (by omega) (by omega)) ok_L_below q_479 ⟨Nat.le_of_ble_eq_true rfl, Nat.le_of_ble_eq_true rfl⟩ rfl hl.1 rfl (Nat.le_of_ble_eq_true rfl) ⟨Nat.le_of_ble_eq_true rfl, Nat.le_of_ble_eq_true rfl⟩ dL_build_48 (fun v48 R' H locs hp hO hS => ?_)
        obtain ⟨⟨b48, hb48, rfl⟩, hR⟩ := hp
        rw [hR] at hO
        refine lv_if_ne (tgt := 60) hx hb dL_build_51 (by decide) (fun c51 => ?_) (fun c51 => ?_)
        · refine lv_sipush (v := 300) hx hb dL_build_60 (by decide) ?_
          refine m_sI (As := [.int sh39, .int 300]) (rest := [.int 1]) (n := 2) hF hC hO hS (k_L_below l G lo sa ad2 _ sh39 300 (by omega) (by omega)) ok_L_below q_479 ⟨Nat.le_of_ble_eq_true rfl, Nat.le_of_ble_eq_true rfl⟩ rfl hl.1 rfl (Nat.le_of_ble_eq_true rfl) ⟨Nat.le_of_ble_eq_true rfl, Nat.le_of_ble_eq_true rfl⟩ dL_build_63 (fun v63 R' H locs hp hO hS => ?_)
          obtain ⟨⟨m63, hm63, rfl⟩, hR⟩ := hp
          rw [hR] at hO
          refine lv_iadd hx hb dL_build_66 ?_
          rw [one_nI]
          have hin : i < T := (nI_nE (a := T) (b := i) (by omega) (by omega) c26)
          obtain ⟨a, ha, ea⟩ := hg0
          have hsum : g 0 + nI (m63 + 1) = nI (a + (m63 + 1)) := by rw [ea, nI_add]
          have hpos : (0 : Int32) < g 0 + nI (m63 + 1) := by rw [hsum]; exact nI_lt (a := 0) (b := a + (m63 + 1)) (by omega) (by omega)
          refine lv_istore (lv' := [(5, .int (nI (m63 + 1))), (0, .ref (ad2 0)), (1, .ref sa.1), (2, .ref (ad2 50)), (3, .int (nI T)), (4, .int (nI i))]) hx hb dL_build_67 hl (by decide) rfl (fun ls hl => ?_)
          refine lv_aload_n hx hb dL_build_69 rfl (lv_at hl 3 rfl) ?_
          refine lv_aload_n hx hb dL_build_70 rfl (lv_at hl 3 rfl) ?_
          refine m_get inX7 hF hC hO rfl rfl 1 (by decide) q_504 (v := .int (g 1)) rfl dL_build_71 ?_
          refine lv_aload_n hx hb dL_build_74 rfl (lv_at hl 3 rfl) ?_
          refine m_get inX7 hF hC hO rfl rfl 0 (by decide) q_501 (v := .int (g 0)) rfl dL_build_75 ?_
          refine lv_imul hx hb dL_build_78 ?_
          refine lv_bipush (v := 20) hx hb dL_build_79 (by decide) ?_
          refine lv_iload hx hb dL_build_81 (lv_at hl 0 rfl) ?_
          refine lv_imul hx hb dL_build_83 ?_
          refine lv_iadd hx hb dL_build_84 ?_
          refine lv_aload_n hx hb dL_build_85 rfl (lv_at hl 3 rfl) ?_
          refine m_get inX7 hF hC hO rfl rfl 0 (by decide) q_501 (v := .int (g 0)) rfl dL_build_86 ?_
          refine lv_iload hx hb dL_build_89 (lv_at hl 0 rfl) ?_
          refine lv_iadd hx hb dL_build_91 ?_
          refine lv_idiv hx hb dL_build_92 (fun h9 => by rw [h9] at hpos; exact absurd hpos (by decide)) ?_
          refine m_put (ty := .int) tyX7 tyX7_ok nmX7 inX7 hF hC hO hS rfl rfl 1 (by decide) q_504 rfl (by decide +kernel) rfl rfl (fs' := [.int (g 0), .int ((((g 1) * (g 0)) + (20 * (nI (m63 + 1)))) / ((g 0) + (nI (m63 + 1)))), .int (g 2), .ref (ad2 51), .ref (ad2 52), .ref (ad2 57), .int (g 3), .int (g 4), .int 0]) (Nat.le_of_ble_eq_true rfl) rfl dL_build_93 (fun H locs hO hS => ?_)
          have hO : mO G lo ad2 (mU (WS G ad2 g 0 F_0 (fun _ => 0) 0 F_0 0 (WC G ad2 g 0 F_0 (fun _ => 0) 0 F_0 tf_0 g_0 (fun _ => 0) R)) 50 (sO ad2 (upd g 1 ((((g 1) * (g 0)) + (20 * (nI (m63 + 1)))) / ((g 0) + (nI (m63 + 1))))) 0)) H := hO
          rw [WS_w0] at hO
          refine lv_aload_n hx hb dL_build_96 rfl (lv_at hl 3 rfl) ?_
          refine lv_dup hx hb dL_build_97 rfl ?_
          refine m_get inX7 hF hC hO rfl rfl 0 (by decide) q_501 (v := .int (g 0)) rfl dL_build_98 ?_
          refine lv_iload hx hb dL_build_101 (lv_at hl 0 rfl) ?_
          refine lv_iadd hx hb dL_build_103 ?_
          refine m_put (ty := .int) tyX7 tyX7_ok nmX7 inX7 hF hC hO hS rfl rfl 0 (by decide) q_501 rfl (by decide +kernel) rfl rfl (fs' := [.int ((g 0) + (nI (m63 + 1))), .int ((((g 1) * (g 0)) + (20 * (nI (m63 + 1)))) / ((g 0) + (nI (m63 + 1)))), .int (g 2), .ref (ad2 51), .ref (ad2 52), .ref (ad2 57), .int (g 3), .int (g 4), .int 0]) (Nat.le_of_ble_eq_true rfl) rfl dL_build_104 (fun H locs hO hS => ?_)
          have hO : mO G lo ad2 (mU (WS G ad2 (upd g 1 ((((g 1) * (g 0)) + (20 * (nI (m63 + 1)))) / ((g 0) + (nI (m63 + 1))))) 0 F_0 (fun _ => 0) 0 F_0 0 (WC G ad2 g 0 F_0 (fun _ => 0) 0 F_0 tf_0 g_0 (fun _ => 0) R)) 50 (sO ad2 (upd (upd g 1 ((((g 1) * (g 0)) + (20 * (nI (m63 + 1)))) / ((g 0) + (nI (m63 + 1))))) 0 ((g 0) + (nI (m63 + 1)))) 0)) H := hO
          rw [WS_w0] at hO
          refine lv_aload_n hx hb dL_build_107 rfl (lv_at hl 1 rfl) ?_
          refine lv_iload hx hb dL_build_108 (lv_at hl 0 rfl) ?_
          rw [← WC_WS] at hO
          refine m_vI (As := [.int (nI (m63 + 1))]) (rest := []) (n := 1) hF hC hO hS (k_X5_melt l G lo sa ad2 (WS G ad2 (upd (upd g 1 ((((g 1) * (g 0)) + (20 * (nI (m63 + 1)))) / ((g 0) + (nI (m63 + 1))))) 0 ((g 0) + (nI (m63 + 1)))) 0 F_0 (fun _ => 0) 0 F_0 0 R) g 0 F_0 (fun _ => 0) 0 F_0 tf_0 g_0 (fun _ => 0) (nI (m63 + 1)) hnf hno (p_in_nI (a := 1) (x := m63 + 1) (b := 5000) (by omega) (by omega) (by decide)) (by rw [hsum]; exact nI_le (a := a + (m63 + 1)) (b := 20000) (by omega) (by decide))) ok_X5_melt q_536 rfl rfl ⟨Nat.le_of_ble_eq_true rfl, Nat.le_of_ble_eq_true rfl⟩ rfl hl.1 rfl (Nat.le_of_ble_eq_true rfl) ⟨Nat.le_of_ble_eq_true rfl, Nat.le_of_ble_eq_true rfl⟩ dL_build_110 (fun v110 R' H locs hp hO hS => ?_)
          obtain ⟨rfl, hR⟩ := hp
          rw [hR] at hO
          rw [WC_WS] at hO
          have hT9 : p_throwV g (nI (m63 + 1)) = upd (upd g 1 ((g 1 * g 0 + 20 * nI (m63 + 1)) / (g 0 + nI (m63 + 1)))) 0 (g 0 + nI (m63 + 1)) := by unfold p_throwV; rw [if_pos hpos]
          rw [hT9] at hO
          rw [hT9]
          have hO : mO G lo ad2 (WS G ad2 (upd (upd g 1 ((g 1 * g 0 + 20 * nI (m63 + 1)) / (g 0 + nI (m63 + 1)))) 0 (g 0 + nI (m63 + 1))) 0 F_0 (fun _ => 0) 0 F_0 0 (WC G ad2 (upd (upd g 1 ((g 1 * g 0 + 20 * nI (m63 + 1)) / (g 0 + nI (m63 + 1)))) 0 (g 0 + nI (m63 + 1))) 0 F_0 (fun _ => 0) 0 F_0 tf_0 g_0 (fun _ => 0) R)) H := hO
          refine lv_aload_n hx hb dL_build_113 rfl (lv_at hl 3 rfl) ?_
          refine m_get inX7 hF hC hO rfl rfl 1 (by decide) q_504 (v := .int ((g 1 * g 0 + 20 * nI (m63 + 1)) / (g 0 + nI (m63 + 1)))) rfl dL_build_114 ?_
          refine lv_icmp_eq (tgt := 122) hx hb dL_build_117 (by decide) (fun c117 => ?_) (fun c117 => absurd (rfl) c117)
          refine lv_iinc (v := (nI (i + 1))) (lv' := [(4, .int (nI (i + 1))), (5, .int (nI (m63 + 1))), (0, .ref (ad2 0)), (1, .ref sa.1), (2, .ref (ad2 50)), (3, .int (nI T))]) hx hb dL_build_122 hl (k := 5) rfl (nI_inc i) (by decide) rfl (fun ls hl => ?_)
          refine lv_goto (tgt := 23) hx hb dL_build_125 (by decide) ?_
          exact ih23 (i + 1) (upd (upd g 1 ((g 1 * g 0 + 20 * nI (m63 + 1)) / (g 0 + nI (m63 + 1)))) 0 (g 0 + nI (m63 + 1))) _ _ _ (by omega) (by omega) (show ((g 1 * g 0 + 20 * nI (m63 + 1)) / (g 0 + nI (m63 + 1))) = 20 by rw [hg1, ea]; exact heat20 (by omega) (by omega)) (⟨a + (m63 + 1), by omega, hsum⟩) hgr (lv_sub hl [2, 3, 4, 5, 0] rfl) hO hS
        · refine lv_sipush (v := 5000) hx hb dL_build_54 (by decide) ?_
          refine lv_goto (tgt := 63) hx hb dL_build_57 (by decide) ?_
          refine m_sI (As := [.int sh39, .int 5000]) (rest := [.int 1]) (n := 2) hF hC hO hS (k_L_below l G lo sa ad2 _ sh39 5000 (by omega) (by omega)) ok_L_below q_479 ⟨Nat.le_of_ble_eq_true rfl, Nat.le_of_ble_eq_true rfl⟩ rfl hl.1 rfl (Nat.le_of_ble_eq_true rfl) ⟨Nat.le_of_ble_eq_true rfl, Nat.le_of_ble_eq_true rfl⟩ dL_build_63 (fun v63 R' H locs hp hO hS => ?_)
          obtain ⟨⟨m63, hm63, rfl⟩, hR⟩ := hp
          rw [hR] at hO
          refine lv_iadd hx hb dL_build_66 ?_
          rw [one_nI]
          have hin : i < T := (nI_nE (a := T) (b := i) (by omega) (by omega) c26)
          obtain ⟨a, ha, ea⟩ := hg0
          have hsum : g 0 + nI (m63 + 1) = nI (a + (m63 + 1)) := by rw [ea, nI_add]
          have hpos : (0 : Int32) < g 0 + nI (m63 + 1) := by rw [hsum]; exact nI_lt (a := 0) (b := a + (m63 + 1)) (by omega) (by omega)
          refine lv_istore (lv' := [(5, .int (nI (m63 + 1))), (0, .ref (ad2 0)), (1, .ref sa.1), (2, .ref (ad2 50)), (3, .int (nI T)), (4, .int (nI i))]) hx hb dL_build_67 hl (by decide) rfl (fun ls hl => ?_)
          refine lv_aload_n hx hb dL_build_69 rfl (lv_at hl 3 rfl) ?_
          refine lv_aload_n hx hb dL_build_70 rfl (lv_at hl 3 rfl) ?_
          refine m_get inX7 hF hC hO rfl rfl 1 (by decide) q_504 (v := .int (g 1)) rfl dL_build_71 ?_
          refine lv_aload_n hx hb dL_build_74 rfl (lv_at hl 3 rfl) ?_
          refine m_get inX7 hF hC hO rfl rfl 0 (by decide) q_501 (v := .int (g 0)) rfl dL_build_75 ?_
          refine lv_imul hx hb dL_build_78 ?_
          refine lv_bipush (v := 20) hx hb dL_build_79 (by decide) ?_
          refine lv_iload hx hb dL_build_81 (lv_at hl 0 rfl) ?_
          refine lv_imul hx hb dL_build_83 ?_
          refine lv_iadd hx hb dL_build_84 ?_
          refine lv_aload_n hx hb dL_build_85 rfl (lv_at hl 3 rfl) ?_
          refine m_get inX7 hF hC hO rfl rfl 0 (by decide) q_501 (v := .int (g 0)) rfl dL_build_86 ?_
          refine lv_iload hx hb dL_build_89 (lv_at hl 0 rfl) ?_
          refine lv_iadd hx hb dL_build_91 ?_
          refine lv_idiv hx hb dL_build_92 (fun h9 => by rw [h9] at hpos; exact absurd hpos (by decide)) ?_
          refine m_put (ty := .int) tyX7 tyX7_ok nmX7 inX7 hF hC hO hS rfl rfl 1 (by decide) q_504 rfl (by decide +kernel) rfl rfl (fs' := [.int (g 0), .int ((((g 1) * (g 0)) + (20 * (nI (m63 + 1)))) / ((g 0) + (nI (m63 + 1)))), .int (g 2), .ref (ad2 51), .ref (ad2 52), .ref (ad2 57), .int (g 3), .int (g 4), .int 0]) (Nat.le_of_ble_eq_true rfl) rfl dL_build_93 (fun H locs hO hS => ?_)
          have hO : mO G lo ad2 (mU (WS G ad2 g 0 F_0 (fun _ => 0) 0 F_0 0 (WC G ad2 g 0 F_0 (fun _ => 0) 0 F_0 tf_0 g_0 (fun _ => 0) R)) 50 (sO ad2 (upd g 1 ((((g 1) * (g 0)) + (20 * (nI (m63 + 1)))) / ((g 0) + (nI (m63 + 1))))) 0)) H := hO
          rw [WS_w0] at hO
          refine lv_aload_n hx hb dL_build_96 rfl (lv_at hl 3 rfl) ?_
          refine lv_dup hx hb dL_build_97 rfl ?_
          refine m_get inX7 hF hC hO rfl rfl 0 (by decide) q_501 (v := .int (g 0)) rfl dL_build_98 ?_
          refine lv_iload hx hb dL_build_101 (lv_at hl 0 rfl) ?_
          refine lv_iadd hx hb dL_build_103 ?_
          refine m_put (ty := .int) tyX7 tyX7_ok nmX7 inX7 hF hC hO hS rfl rfl 0 (by decide) q_501 rfl (by decide +kernel) rfl rfl (fs' := [.int ((g 0) + (nI (m63 + 1))), .int ((((g 1) * (g 0)) + (20 * (nI (m63 + 1)))) / ((g 0) + (nI (m63 + 1)))), .int (g 2), .ref (ad2 51), .ref (ad2 52), .ref (ad2 57), .int (g 3), .int (g 4), .int 0]) (Nat.le_of_ble_eq_true rfl) rfl dL_build_104 (fun H locs hO hS => ?_)
          have hO : mO G lo ad2 (mU (WS G ad2 (upd g 1 ((((g 1) * (g 0)) + (20 * (nI (m63 + 1)))) / ((g 0) + (nI (m63 + 1))))) 0 F_0 (fun _ => 0) 0 F_0 0 (WC G ad2 g 0 F_0 (fun _ => 0) 0 F_0 tf_0 g_0 (fun _ => 0) R)) 50 (sO ad2 (upd (upd g 1 ((((g 1) * (g 0)) + (20 * (nI (m63 + 1)))) / ((g 0) + (nI (m63 + 1))))) 0 ((g 0) + (nI (m63 + 1)))) 0)) H := hO
          rw [WS_w0] at hO
          refine lv_aload_n hx hb dL_build_107 rfl (lv_at hl 1 rfl) ?_
          refine lv_iload hx hb dL_build_108 (lv_at hl 0 rfl) ?_
          rw [← WC_WS] at hO
          refine m_vI (As := [.int (nI (m63 + 1))]) (rest := []) (n := 1) hF hC hO hS (k_X5_melt l G lo sa ad2 (WS G ad2 (upd (upd g 1 ((((g 1) * (g 0)) + (20 * (nI (m63 + 1)))) / ((g 0) + (nI (m63 + 1))))) 0 ((g 0) + (nI (m63 + 1)))) 0 F_0 (fun _ => 0) 0 F_0 0 R) g 0 F_0 (fun _ => 0) 0 F_0 tf_0 g_0 (fun _ => 0) (nI (m63 + 1)) hnf hno (p_in_nI (a := 1) (x := m63 + 1) (b := 5000) (by omega) (by omega) (by decide)) (by rw [hsum]; exact nI_le (a := a + (m63 + 1)) (b := 20000) (by omega) (by decide))) ok_X5_melt q_536 rfl rfl ⟨Nat.le_of_ble_eq_true rfl, Nat.le_of_ble_eq_true rfl⟩ rfl hl.1 rfl (Nat.le_of_ble_eq_true rfl) ⟨Nat.le_of_ble_eq_true rfl, Nat.le_of_ble_eq_true rfl⟩ dL_build_110 (fun v110 R' H locs hp hO hS => ?_)
          obtain ⟨rfl, hR⟩ := hp
          rw [hR] at hO
          rw [WC_WS] at hO
          have hT9 : p_throwV g (nI (m63 + 1)) = upd (upd g 1 ((g 1 * g 0 + 20 * nI (m63 + 1)) / (g 0 + nI (m63 + 1)))) 0 (g 0 + nI (m63 + 1)) := by unfold p_throwV; rw [if_pos hpos]
          rw [hT9] at hO
          rw [hT9]
          have hO : mO G lo ad2 (WS G ad2 (upd (upd g 1 ((g 1 * g 0 + 20 * nI (m63 + 1)) / (g 0 + nI (m63 + 1)))) 0 (g 0 + nI (m63 + 1))) 0 F_0 (fun _ => 0) 0 F_0 0 (WC G ad2 (upd (upd g 1 ((g 1 * g 0 + 20 * nI (m63 + 1)) / (g 0 + nI (m63 + 1)))) 0 (g 0 + nI (m63 + 1))) 0 F_0 (fun _ => 0) 0 F_0 tf_0 g_0 (fun _ => 0) R)) H := hO
          refine lv_aload_n hx hb dL_build_113 rfl (lv_at hl 3 rfl) ?_
          refine m_get inX7 hF hC hO rfl rfl 1 (by decide) q_504 (v := .int ((g 1 * g 0 + 20 * nI (m63 + 1)) / (g 0 + nI (m63 + 1)))) rfl dL_build_114 ?_
          refine lv_icmp_eq (tgt := 122) hx hb dL_build_117 (by decide) (fun c117 => ?_) (fun c117 => absurd (rfl) c117)
          refine lv_iinc (v := (nI (i + 1))) (lv' := [(4, .int (nI (i + 1))), (5, .int (nI (m63 + 1))), (0, .ref (ad2 0)), (1, .ref sa.1), (2, .ref (ad2 50)), (3, .int (nI T))]) hx hb dL_build_122 hl (k := 5) rfl (nI_inc i) (by decide) rfl (fun ls hl => ?_)
          refine lv_goto (tgt := 23) hx hb dL_build_125 (by decide) ?_
          exact ih23 (i + 1) (upd (upd g 1 ((g 1 * g 0 + 20 * nI (m63 + 1)) / (g 0 + nI (m63 + 1)))) 0 (g 0 + nI (m63 + 1))) _ _ _ (by omega) (by omega) (show ((g 1 * g 0 + 20 * nI (m63 + 1)) / (g 0 + nI (m63 + 1))) = 20 by rw [hg1, ea]; exact heat20 (by omega) (by omega)) (⟨a + (m63 + 1), by omega, hsum⟩) hgr (lv_sub hl [2, 3, 4, 5, 0] rfl) hO hS
  exact L23 _ 0 g_0 _ _ _ (Nat.lt_succ_self _) (by omega) rfl (⟨0, by omega, rfl⟩) (⟨rfl, rfl⟩) (lv_sub hl [3, 4, 2, 1, 0] rfl) hO hS
