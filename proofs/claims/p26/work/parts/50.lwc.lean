theorem rel_dip {nf b no : Nat} {g : Nat → Int32} {F O : Nat → Nat → Int32} : RelD nf b no g F O (m_qG (dG (F b) g)) (m_coolTo nf b (va_up F b (p_dipF (F b) (g 1)))) (m_qO no (dG (F b) g) O) :=
  ⟨dG (F b) g, va_up F b (p_dipF (F b) (g 1)), rfl, dipV_hi (by decide), dipV_hi (by decide), dipV_hi (by decide), rfl, fun i hi => va_no hi,
    ⟨by rw [va_upat]; exact dipF_hi (by decide) (by decide) (by decide) (by decide), by rw [va_upat]; exact dipF_hi (by decide) (by decide) (by decide) (by decide), by rw [va_upat]; exact dipF_hi (by decide) (by decide) (by decide) (by decide)⟩, rfl⟩
theorem rel_pass {nf no : Nat} {g : Nat → Int32} {F O : Nat → Nat → Int32} : RelD nf 12 no g F O (m_qG g) (m_coolTo nf 12 F) (m_qO no g O) :=
  ⟨g, F, rfl, rfl, rfl, rfl, rfl, fun _ _ => rfl, ⟨rfl, rfl, rfl⟩, rfl⟩
set_option maxHeartbeats 1000000 in
set_option maxRecDepth 100000 in
theorem seg_c {p : Program} {l : Launch} {e : Env} {s : State} {m : MethodId} {below : List Frame} {meth : Method} {c : Code} {lo : Nat} {G : mG} {sa : mSc} {R : mM} (X : LwX p s m meth c lo G sa) {t : Nat} (ht : t < 40) (hz : ∀ x, 50 ≤ x → R x = none) (h594 : L594 p l e s m below meth c lo G sa R t) : L155 p l e s m below meth c lo G sa R t := by
  intro ad g nf F f no O w tf tv fw A x H locs ls cells slots hI h1 hfw hA hO hS hl hc9 hs9
  have hF := X.1
  have hC := X.2.1
  have hx := hF.1
  have hb := hF.2.1
  have hnf : nf ≤ 12 := by have := hI.1; omega
  have hno : no ≤ 20 := hI.2.1
  have hFv := hI.fr
  have hOv := hI.or
  obtain ⟨qn, hqn9, hq3⟩ := hI.qn
  have hgn : GN qn g := ⟨hI.gn.1, hI.gn.2.1, qn, Nat.le_refl _, hq3⟩
  refine lv_aload_n hx hb dL_law_155 rfl (lv_at hl 1 rfl) ?_
  refine lv_iconst (v := 0) hx hb dL_law_156 (by decide) ?_
  rw [← WC_WS] at hO
  refine m_vI (As := [.int 0]) (rest := []) (n := 1) hF hC hO hS (k_X5_vat l G lo sa ad (WS G ad g nf F f no O w (WW G ad nf A R)) g nf F f no O tf tv fw 0 hnf hno (by omega)) ok_X5_vat q_139 rfl rfl ⟨Nat.le_of_ble_eq_true rfl, Nat.le_of_ble_eq_true rfl⟩ rfl hl.1 rfl (Nat.le_of_ble_eq_true rfl) ⟨(by show _ ≤ 600104; omega), (by show _ ≤ 7301314; omega)⟩ dL_law_157 (fun v157 R' H locs hp hO hS => ?_)
  obtain ⟨rfl, hR⟩ := hp
  rw [hR] at hO
  rw [show m_vat g (nI 0) = (g 0) from by rw [m_vat, if_pos (by decide)]]
  refine lv_istore (lv' := [(7, .int (g 0)), (0, .ref sa.1), (1, .ref (ad 0)), (2, .ref (ad 50)), (3, .int (nI nf)), (4, .int (nI t)), (5, .int x), (6, .ref (ad 60))]) hx hb dL_law_160 hl (by decide) rfl (fun ls hl => ?_)
  refine lv_aload_n hx hb dL_law_162 rfl (lv_at hl 2 rfl) ?_
  refine lv_iconst (v := 1) hx hb dL_law_163 (by decide) ?_
  refine m_vI (As := [.int 1]) (rest := []) (n := 1) hF hC hO hS (k_X5_vat l G lo sa ad (WS G ad g nf F f no O w (WW G ad nf A R)) g nf F f no O tf tv fw 1 hnf hno (by omega)) ok_X5_vat q_139 rfl rfl ⟨Nat.le_of_ble_eq_true rfl, Nat.le_of_ble_eq_true rfl⟩ rfl hl.1 rfl (Nat.le_of_ble_eq_true rfl) ⟨(by show _ ≤ 600104; omega), (by show _ ≤ 7301314; omega)⟩ dL_law_164 (fun v164 R' H locs hp hO hS => ?_)
  obtain ⟨rfl, hR⟩ := hp
  rw [hR] at hO
  rw [show m_vat g (nI 1) = (g 1) from by rw [m_vat, if_neg (by decide), if_pos (by decide)]]
  refine lv_istore (lv' := [(8, .int (g 1)), (7, .int (g 0)), (0, .ref sa.1), (1, .ref (ad 0)), (2, .ref (ad 50)), (3, .int (nI nf)), (4, .int (nI t)), (5, .int x), (6, .ref (ad 60))]) hx hb dL_law_167 hl (by decide) rfl (fun ls hl => ?_)
  refine lv_aload_n hx hb dL_law_169 rfl (lv_at hl 3 rfl) ?_
  refine lv_bipush (v := 7) hx hb dL_law_170 (by decide) ?_
  refine m_vI (As := [.int 7]) (rest := []) (n := 1) hF hC hO hS (k_X5_count l G lo sa ad (WS G ad g nf F f no O w (WW G ad nf A R)) g nf F f no O tf tv fw 7 hnf hno (by omega)) ok_X5_count q_383 rfl rfl ⟨Nat.le_of_ble_eq_true rfl, Nat.le_of_ble_eq_true rfl⟩ rfl hl.1 rfl (Nat.le_of_ble_eq_true rfl) ⟨(by show _ ≤ 600104; omega), (by show _ ≤ 7301314; omega)⟩ dL_law_172 (fun v172 R' H locs hp hO hS => ?_)
  obtain ⟨rfl, hR⟩ := hp
  rw [hR] at hO
  rw [show c_count g nf F f no O 7 = (g 4) from rfl]
  refine lv_istore (lv' := [(9, .int (g 4)), (8, .int (g 1)), (7, .int (g 0)), (0, .ref sa.1), (1, .ref (ad 0)), (2, .ref (ad 50)), (3, .int (nI nf)), (4, .int (nI t)), (5, .int x), (6, .ref (ad 60))]) hx hb dL_law_175 hl (by decide) rfl (fun ls hl => ?_)
  refine lv_aload_n hx hb dL_law_177 rfl (lv_at hl 4 rfl) ?_
  refine lv_iconst (v := 0) hx hb dL_law_178 (by decide) ?_
  refine m_vI (As := [.int 0]) (rest := []) (n := 1) hF hC hO hS (k_X5_count l G lo sa ad (WS G ad g nf F f no O w (WW G ad nf A R)) g nf F f no O tf tv fw 0 hnf hno (by omega)) ok_X5_count q_383 rfl rfl ⟨Nat.le_of_ble_eq_true rfl, Nat.le_of_ble_eq_true rfl⟩ rfl hl.1 rfl (Nat.le_of_ble_eq_true rfl) ⟨(by show _ ≤ 600104; omega), (by show _ ≤ 7301314; omega)⟩ dL_law_179 (fun v179 R' H locs hp hO hS => ?_)
  obtain ⟨rfl, hR⟩ := hp
  rw [hR] at hO
  rw [show c_count g nf F f no O 0 = (g 3) from rfl]
  refine lv_istore (lv' := [(10, .int (g 3)), (9, .int (g 4)), (8, .int (g 1)), (7, .int (g 0)), (0, .ref sa.1), (1, .ref (ad 0)), (2, .ref (ad 50)), (3, .int (nI nf)), (4, .int (nI t)), (5, .int x), (6, .ref (ad 60))]) hx hb dL_law_182 hl (by decide) rfl (fun ls hl => ?_)
  refine lv_aload_n hx hb dL_law_184 rfl (lv_at hl 5 rfl) ?_
  refine lv_bipush (v := 6) hx hb dL_law_185 (by decide) ?_
  refine m_vI (As := [.int 6]) (rest := []) (n := 1) hF hC hO hS (k_X5_count l G lo sa ad (WS G ad g nf F f no O w (WW G ad nf A R)) g nf F f no O tf tv fw 6 hnf hno (by omega)) ok_X5_count q_383 rfl rfl ⟨Nat.le_of_ble_eq_true rfl, Nat.le_of_ble_eq_true rfl⟩ rfl hl.1 rfl (Nat.le_of_ble_eq_true rfl) ⟨(by show _ ≤ 600104; omega), (by show _ ≤ 7301314; omega)⟩ dL_law_187 (fun v187 R' H locs hp hO hS => ?_)
  obtain ⟨rfl, hR⟩ := hp
  rw [hR] at hO
  rw [show c_count g nf F f no O 6 = (m_with no O 2) from rfl]
  refine lv_istore (lv' := [(11, .int (m_with no O 2)), (10, .int (g 3)), (9, .int (g 4)), (8, .int (g 1)), (7, .int (g 0)), (0, .ref sa.1), (1, .ref (ad 0)), (2, .ref (ad 50)), (3, .int (nI nf)), (4, .int (nI t)), (5, .int x), (6, .ref (ad 60))]) hx hb dL_law_190 hl (by decide) rfl (fun ls hl => ?_)
  refine lv_aload_n hx hb dL_law_192 rfl (lv_at hl 6 rfl) ?_
  refine m_vI (As := []) (rest := []) (n := 0) hF hC hO hS (k_X5_advise l G lo sa ad (WS G ad g nf F f no O w (WW G ad nf A R)) g nf F f no O tf tv fw hnf hno) ok_X5_advise q_438 rfl rfl ⟨Nat.le_of_ble_eq_true rfl, Nat.le_of_ble_eq_true rfl⟩ rfl hl.1 rfl (Nat.le_of_ble_eq_true rfl) ⟨(by show _ ≤ 600104; omega), (by show _ ≤ 7301314; omega)⟩ dL_law_193 (fun v193 R' H locs hp hO hS => ?_)
  obtain ⟨rfl, hR⟩ := hp
  rw [hR] at hO
  rcases adv_spec (nf := nf) (g := g) (F := F) with ⟨he, hno9⟩ | ⟨b, he, hAdv⟩
  · rw [he]
    refine lv_istore (lv' := [(12, .int (-1)), (11, .int (m_with no O 2)), (10, .int (g 3)), (9, .int (g 4)), (8, .int (g 1)), (7, .int (g 0)), (0, .ref sa.1), (1, .ref (ad 0)), (2, .ref (ad 50)), (3, .int (nI nf)), (4, .int (nI t)), (5, .int x), (6, .ref (ad 60))]) hx hb dL_law_196 hl (by decide) rfl (fun ls hl => ?_)
    refine lv_iload hx hb dL_law_198 (lv_at hl 0 rfl) ?_
    refine lv_if_lt (tgt := 516) hx hb dL_law_200 (by decide) (fun c200 => ?_) (fun c200 => absurd (by decide) c200)
    refine lv_iconst (v := 0) hx hb dL_law_516 (by decide) ?_
    refine lv_istore (lv' := [(13, .int 0), (12, .int (-1)), (11, .int (m_with no O 2)), (10, .int (g 3)), (9, .int (g 4)), (8, .int (g 1)), (7, .int (g 0)), (0, .ref sa.1), (1, .ref (ad 0)), (2, .ref (ad 50)), (3, .int (nI nf)), (4, .int (nI t)), (5, .int x), (6, .ref (ad 60))]) hx hb dL_law_517 hl (by decide) rfl (fun ls hl => ?_)
    rw [WC_WS] at hO
    have L519 : ∀ (nM : Nat) (k : Nat) (tf : Nat → Int32) (tv : Nat → Int32) (H : Heap) (locs : List Loc) (ls : Array Slot), nf - k < nM → k ≤ nf → lv_has ls 21 [(0, .ref sa.1), (1, .ref (ad 0)), (2, .ref (ad 50)), (3, .int (nI nf)), (4, .int (nI t)), (5, .int x), (6, .ref (ad 60)), (7, .int (g 0)), (8, .int (g 1)), (9, .int (g 4)), (10, .int (g 3)), (11, .int (m_with no O 2)), (12, .int (-1)), (13, .int (nI k))] → mO G lo ad (WS G ad g nf F f no O w (WC G ad g nf F f no O tf tv fw (WW G ad nf A R))) H → va_S (mA lo) s.heap H locs → W p l e room_1 s m #[Value.ref sa.1] below meth c H locs cells slots (lw_Z below #[Value.ref sa.1] s) (F0 m 519 ls []) := by
      intro nM
      induction nM with
      | zero => intro k tf tv H locs ls hn; exact absurd hn (Nat.not_lt_zero _)
      | succ nM ih519 =>
        intro k tf tv H locs ls hn519 hk hl hO hS
        refine lv_iload hx hb dL_law_519 (lv_at hl 13 rfl) ?_
        refine lv_iload_n hx hb dL_law_521 rfl (lv_at hl 3 rfl) ?_
        refine lv_icmp_ge (tgt := 560) hx hb dL_law_522 (by decide) (fun c522 => ?_) (fun c522 => ?_)
        · refine lv_aload_n hx hb dL_law_560 rfl (lv_at hl 1 rfl) ?_
          refine lv_iconst (v := 1) hx hb dL_law_561 (by decide) ?_
          rw [← WC_WS] at hO
          refine m_vI (As := [.int 1]) (rest := []) (n := 1) hF hC hO hS (k_X5_pass l G lo sa ad (WS G ad g nf F f no O w (WW G ad nf A R)) g nf F f no O tf tv fw 1 qn hnf hno (by decide) (by decide) hq3 (by omega)) ok_X5_pass q_363 rfl rfl ⟨Nat.le_of_ble_eq_true rfl, Nat.le_of_ble_eq_true rfl⟩ rfl hl.1 rfl (Nat.le_of_ble_eq_true rfl) ⟨(by show _ ≤ 600104; omega), (by show _ ≤ 7301314; omega)⟩ dL_law_562 (fun v562 R' H locs hp hO hS => ?_)
          obtain ⟨rfl, hR⟩ := hp
          rw [hR] at hO
          have hO : mO G lo ad (WC G ad (m_qG g) nf (m_coolTo nf 12 F) f no (m_qO no g O) tf tv fw (WS G ad g nf F f no O w (WW G ad nf A R))) H := hO
          refine lv_pop hx hb dL_law_565 rfl ?_
          refine lv_aload_n hx hb dL_law_566 rfl (lv_at hl 2 rfl) ?_
          refine lv_null hx hb dL_law_567 ?_
          rw [WC_WS] at hO
          refine m_vV (As := [.null]) (rest := []) (n := 1) hF hC hO hS (k_X7_pass0 l G lo sa ad (WC G ad (m_qG g) nf (m_coolTo nf 12 F) f no (m_qO no g O) tf tv fw (WW G ad nf A R)) g nf F f no O w 12 qn hnf hno hnf hFv hOv hq3 (by omega)) ok_X7_pass q_478 rfl rfl ⟨Nat.le_of_ble_eq_true rfl, Nat.le_of_ble_eq_true rfl⟩ rfl hl.1 rfl (Nat.le_of_ble_eq_true rfl) ⟨(by show _ ≤ 600104; omega), (by show _ ≤ 7301314; omega)⟩ dL_law_568 (fun R' H locs hp hO hS => ?_)
          have hR := hp
          rw [hR] at hO
          obtain ⟨g1, hg1⟩ : ∃ z, z = m_qG g := ⟨_, rfl⟩
          obtain ⟨F1, hF1⟩ : ∃ z, z = m_coolTo nf 12 F := ⟨_, rfl⟩
          obtain ⟨O1, hO1⟩ : ∃ z, z = m_qO no g O := ⟨_, rfl⟩
          rw [← hg1, ← hF1, ← hO1] at hO
          have hI1 : IV (36 + 3 * t + 1) (3 * t + 2) g1 nf F1 f no O1 := by rw [hg1, hF1, hO1]; exact iv_pass hI
          refine lv_aload_n hx hb dL_law_571 rfl (lv_at hl 1 rfl) ?_
          refine lv_iconst (v := 0) hx hb dL_law_572 (by decide) ?_
          rw [← WC_WS] at hO
          refine m_vI (As := [.int 0]) (rest := []) (n := 1) hF hC hO hS (k_X5_vat l G lo sa ad (WS G ad g1 nf F1 f no O1 w (WW G ad nf A R)) g1 nf F1 f no O1 tf tv fw 0 hnf hno (by omega)) ok_X5_vat q_139 rfl rfl ⟨Nat.le_of_ble_eq_true rfl, Nat.le_of_ble_eq_true rfl⟩ rfl hl.1 rfl (Nat.le_of_ble_eq_true rfl) ⟨(by show _ ≤ 600104; omega), (by show _ ≤ 7301314; omega)⟩ dL_law_573 (fun v573 R' H locs hp hO hS => ?_)
          obtain ⟨rfl, hR⟩ := hp
          rw [hR] at hO
          rw [show m_vat g1 (nI 0) = (g1 0) from by rw [m_vat, if_pos (by decide)]]
          rw [show g1 0 = g 0 from by rw [hg1]; rfl]
          refine lv_iload hx hb dL_law_576 (lv_at hl 7 rfl) ?_
          refine lv_icmp_ne (tgt := 592) hx hb dL_law_578 (by decide) (fun c578 => absurd rfl c578) (fun c578 => ?_)
          refine lv_aload_n hx hb dL_law_581 rfl (lv_at hl 1 rfl) ?_
          refine lv_bipush (v := 7) hx hb dL_law_582 (by decide) ?_
          refine m_vI (As := [.int 7]) (rest := []) (n := 1) hF hC hO hS (k_X5_count l G lo sa ad (WS G ad g1 nf F1 f no O1 w (WW G ad nf A R)) g1 nf F1 f no O1 tf tv fw 7 hnf hno (by omega)) ok_X5_count q_383 rfl rfl ⟨Nat.le_of_ble_eq_true rfl, Nat.le_of_ble_eq_true rfl⟩ rfl hl.1 rfl (Nat.le_of_ble_eq_true rfl) ⟨(by show _ ≤ 600104; omega), (by show _ ≤ 7301314; omega)⟩ dL_law_584 (fun v584 R' H locs hp hO hS => ?_)
          obtain ⟨rfl, hR⟩ := hp
          rw [hR] at hO
          rw [show c_count g1 nf F1 f no O1 7 = (g1 4) from rfl]
          rw [show g1 4 = g 4 from by rw [hg1]; rfl]
          refine lv_iload hx hb dL_law_587 (lv_at hl 9 rfl) ?_
          refine lv_icmp_eq (tgt := 594) hx hb dL_law_589 (by decide) (fun c589 => ?_) (fun c589 => absurd (rfl) c589)
          rw [WC_WS] at hO
          exact h594 ad g1 nf F1 f no O1 w tf tv fw A x g F O 12 (-1) H _ _ _ _ (hI1.mono (by omega) (by omega)) hFv h1 hfw hA (Or.inr ⟨rfl, rfl⟩) (by rw [hg1, hF1, hO1]; exact rel_pass) hO hS (lv_sub hl [0, 1, 2, 3, 4, 5, 6, 8, 10, 11, 12] rfl) hc9 hs9
        · have hkn : k < nf := (nI_nE (a := nf) (b := k) (by omega) (by omega) c522)
          refine lv_aload hx hb dL_law_525 (lv_at hl 6 rfl) ?_
          refine lv_iload hx hb dL_law_527 (lv_at hl 13 rfl) ?_
          refine m_aldA hF hC hO (WS_at (by omega) (WC_at2 (by omega) WW_60)) (j := k) (nI_clamp (by omega)) (vp_in_nI hkn (by omega)) dL_law_529 (v := .ref (ad (240 + k))) (adF_in (by first | assumption | omega)) ?_
          refine lv_iconst (v := 5) hx hb dL_law_530 (by decide) ?_
          refine m_iald hF hC hO (WS_at (by omega) (WC_at2 (by omega) (WW_r (i := k) (by assumption)))) (j := 5) (by decide) (vp_in_nI (n := 5) (by decide) (by decide)) dL_law_531 ?_
          rw [show ((A k) 5) = (F k 5) from (by rw [hA k hkn]; rfl)]
          refine lv_if_lt (tgt := 554) hx hb dL_law_532 (by decide) (fun c532 => ?_) (fun c532 => ?_)
          · refine lv_iinc (v := (nI (k + 1))) (lv' := [(13, .int (nI (k + 1))), (0, .ref sa.1), (1, .ref (ad 0)), (2, .ref (ad 50)), (3, .int (nI nf)), (4, .int (nI t)), (5, .int x), (6, .ref (ad 60)), (7, .int (g 0)), (8, .int (g 1)), (9, .int (g 4)), (10, .int (g 3)), (11, .int (m_with no O 2)), (12, .int (-1))]) hx hb dL_law_554 hl (k := 13) rfl (nI_inc k) (by decide) rfl (fun ls hl => ?_)
            refine lv_goto (tgt := 519) hx hb dL_law_557 (by decide) ?_
            exact ih519 (k + 1) tf tv _ _ _ (by omega) (by omega) (lv_sub hl [1, 2, 3, 4, 5, 6, 7, 8, 9, 10, 11, 12, 13, 0] rfl) hO hS
          · refine lv_aload_n hx hb dL_law_535 rfl (lv_at hl 1 rfl) ?_
            refine lv_iload hx hb dL_law_536 (lv_at hl 13 rfl) ?_
            refine lv_iconst (v := 1) hx hb dL_law_538 (by decide) ?_
            rw [← WC_WS] at hO
            refine m_vI (As := [.int (nI k), .int 1]) (rest := []) (n := 2) hF hC hO hS (k_X5_would l G lo sa ad (WS G ad g nf F f no O w (WW G ad nf A R)) g nf F f no O tf tv fw k 1 hnf hno hkn (fun e9 => c532 (by rw [e9]; decide)) ((hFv k hkn).c01) (by decide) (by decide)) ok_X5_would q_409 rfl rfl ⟨Nat.le_of_ble_eq_true rfl, Nat.le_of_ble_eq_true rfl⟩ rfl hl.1 rfl (Nat.le_of_ble_eq_true rfl) ⟨(by show _ ≤ 600104; omega), (by show _ ≤ 7301314; omega)⟩ dL_law_539 (fun v539 R' H locs hp hO hS => ?_)
            obtain ⟨rfl, φ_539, ν_539, hR⟩ := hp
            rw [hR] at hO
            refine lv_aload hx hb dL_law_542 (lv_at hl 6 rfl) ?_
            refine lv_iload hx hb dL_law_544 (lv_at hl 13 rfl) ?_
            rw [WC_WS] at hO
            refine m_aldA hF hC hO (WS_at (by omega) (WC_at2 (by omega) WW_60)) (j := k) (nI_clamp (by omega)) (vp_in_nI hkn (by omega)) dL_law_546 (v := .ref (ad (240 + k))) (adF_in (by first | assumption | omega)) ?_
            refine lv_iconst (v := 2) hx hb dL_law_547 (by decide) ?_
            refine m_iald hF hC hO (WS_at (by omega) (WC_at2 (by omega) (WW_r (i := k) (by assumption)))) (j := 2) (by decide) (vp_in_nI (n := 2) (by decide) (by decide)) dL_law_548 ?_
            rw [show ((A k) 2) = (F k 2) from (by rw [hA k hkn]; rfl)]
            refine lv_icmp_le (tgt := 554) hx hb dL_law_549 (by decide) (fun c549 => ?_) (fun c549 => absurd (adv_none hFv hI.gn hno9 hkn) c549)
            refine lv_iinc (v := (nI (k + 1))) (lv' := [(13, .int (nI (k + 1))), (0, .ref sa.1), (1, .ref (ad 0)), (2, .ref (ad 50)), (3, .int (nI nf)), (4, .int (nI t)), (5, .int x), (6, .ref (ad 60)), (7, .int (g 0)), (8, .int (g 1)), (9, .int (g 4)), (10, .int (g 3)), (11, .int (m_with no O 2)), (12, .int (-1))]) hx hb dL_law_554 hl (k := 13) rfl (nI_inc k) (by decide) rfl (fun ls hl => ?_)
            refine lv_goto (tgt := 519) hx hb dL_law_557 (by decide) ?_
            exact ih519 (k + 1) φ_539 ν_539 _ _ _ (by omega) (by omega) (lv_sub hl [1, 2, 3, 4, 5, 6, 7, 8, 9, 10, 11, 12, 13, 0] rfl) hO hS
    exact L519 _ 0 tf tv _ _ _ (Nat.lt_succ_self _) (by omega) (lv_sub hl [7, 8, 9, 10, 11, 12, 13, 6, 5, 4, 3, 2, 1, 0] rfl) hO hS
  · rw [he]
    have hbn := hAdv.1
    have hcb := hAdv.2.1
    obtain ⟨hmo, ⟨M, hM1, hM16, eM⟩, h70, hb5, h7n⟩ := adv_best hFv hI.gn hAdv
    have hb0 : 0 ≤ b := Nat.zero_le _
    refine lv_istore (lv' := [(12, .int (nI b)), (11, .int (m_with no O 2)), (10, .int (g 3)), (9, .int (g 4)), (8, .int (g 1)), (7, .int (g 0)), (0, .ref sa.1), (1, .ref (ad 0)), (2, .ref (ad 50)), (3, .int (nI nf)), (4, .int (nI t)), (5, .int x), (6, .ref (ad 60))]) hx hb dL_law_196 hl (by decide) rfl (fun ls hl => ?_)
    refine lv_iload hx hb dL_law_198 (lv_at hl 0 rfl) ?_
    refine lv_if_lt (tgt := 516) hx hb dL_law_200 (by decide) (fun c200 => absurd c200 (nI_nneg (by omega))) (fun c200 => ?_)
    refine lv_aload_n hx hb dL_law_203 rfl (lv_at hl 7 rfl) ?_
    refine lv_iload hx hb dL_law_204 (lv_at hl 0 rfl) ?_
    refine lv_iconst (v := 1) hx hb dL_law_206 (by decide) ?_
    refine m_vI (As := [.int (nI b), .int 1]) (rest := []) (n := 2) hF hC hO hS (k_X5_would l G lo sa ad (WS G ad g nf F f no O w (WW G ad nf A R)) g nf F f no O tf tv fw b 1 hnf hno hbn hb5 ((hFv b hbn).c01) (by decide) (by decide)) ok_X5_would q_409 rfl rfl ⟨Nat.le_of_ble_eq_true rfl, Nat.le_of_ble_eq_true rfl⟩ rfl hl.1 rfl (Nat.le_of_ble_eq_true rfl) ⟨(by show _ ≤ 600104; omega), (by show _ ≤ 7301314; omega)⟩ dL_law_207 (fun v207 R' H locs hp hO hS => ?_)
    obtain ⟨rfl, φ_207, ν_207, hR⟩ := hp
    rw [hR] at hO
    refine lv_aload hx hb dL_law_210 (lv_at hl 12 rfl) ?_
    refine lv_iload hx hb dL_law_212 (lv_at hl 0 rfl) ?_
    rw [WC_WS] at hO
    refine m_aldA hF hC hO (WS_at (by omega) (WC_at2 (by omega) WW_60)) (j := b) (nI_clamp (by omega)) (vp_in_nI hbn (by omega)) dL_law_214 (v := .ref (ad (240 + b))) (adF_in (by first | assumption | omega)) ?_
    refine lv_iconst (v := 2) hx hb dL_law_215 (by decide) ?_
    refine m_iald hF hC hO (WS_at (by omega) (WC_at2 (by omega) (WW_r (i := b) (by assumption)))) (j := 2) (by decide) (vp_in_nI (n := 2) (by decide) (by decide)) dL_law_216 ?_
    rw [show ((A b) 2) = (F b 2) from (by rw [hA b hbn]; rfl)]
    refine lv_isub hx hb dL_law_217 ?_
    rw [hmo]
    refine lv_istore (lv' := [(13, .int (p_gain (F b) (g 1))), (12, .int (nI b)), (11, .int (m_with no O 2)), (10, .int (g 3)), (9, .int (g 4)), (8, .int (g 1)), (7, .int (g 0)), (0, .ref sa.1), (1, .ref (ad 0)), (2, .ref (ad 50)), (3, .int (nI nf)), (4, .int (nI t)), (5, .int x), (6, .ref (ad 60))]) hx hb dL_law_218 hl (by decide) rfl (fun ls hl => ?_)
    refine lv_iconst (v := 0) hx hb dL_law_220 (by decide) ?_
    refine lv_istore (lv' := [(14, .int 0), (13, .int (p_gain (F b) (g 1))), (12, .int (nI b)), (11, .int (m_with no O 2)), (10, .int (g 3)), (9, .int (g 4)), (8, .int (g 1)), (7, .int (g 0)), (0, .ref sa.1), (1, .ref (ad 0)), (2, .ref (ad 50)), (3, .int (nI nf)), (4, .int (nI t)), (5, .int x), (6, .ref (ad 60))]) hx hb dL_law_221 hl (by decide) rfl (fun ls hl => ?_)
    have L223 : ∀ (nM : Nat) (k : Nat) (tf : Nat → Int32) (tv : Nat → Int32) (H : Heap) (locs : List Loc) (ls : Array Slot), nf - k < nM → k ≤ nf → lv_has ls 21 [(0, .ref sa.1), (1, .ref (ad 0)), (2, .ref (ad 50)), (3, .int (nI nf)), (4, .int (nI t)), (5, .int x), (6, .ref (ad 60)), (7, .int (g 0)), (8, .int (g 1)), (9, .int (g 4)), (10, .int (g 3)), (11, .int (m_with no O 2)), (12, .int (nI b)), (13, .int (p_gain (F b) (g 1))), (14, .int (nI k))] → mO G lo ad (WS G ad g nf F f no O w (WC G ad g nf F f no O tf tv fw (WW G ad nf A R))) H → va_S (mA lo) s.heap H locs → W p l e room_1 s m #[Value.ref sa.1] below meth c H locs cells slots (lw_Z below #[Value.ref sa.1] s) (F0 m 223 ls []) := by
      intro nM
      induction nM with
      | zero => intro k tf tv H locs ls hn; exact absurd hn (Nat.not_lt_zero _)
      | succ nM ih223 =>
        intro k tf tv H locs ls hn223 hk hl hO hS
        refine lv_iload hx hb dL_law_223 (lv_at hl 14 rfl) ?_
        refine lv_iload_n hx hb dL_law_225 rfl (lv_at hl 3 rfl) ?_
        refine lv_icmp_ge (tgt := 302) hx hb dL_law_226 (by decide) (fun c226 => ?_) (fun c226 => ?_)
        · refine lv_iload hx hb dL_law_302 (lv_at hl 13 rfl) ?_
          refine lv_iconst (v := 1) hx hb dL_law_304 (by decide) ?_
          refine lv_icmp_lt (tgt := 329) hx hb dL_law_305 (by decide) (fun c305 => absurd c305 (Int32.not_lt.mpr (by rw [eM]; exact nI_le (a := 1) hM1 (by omega)))) (fun c305 => ?_)
          refine lv_aload_n hx hb dL_law_308 rfl (lv_at hl 1 rfl) ?_
          refine lv_iconst (v := 3) hx hb dL_law_309 (by decide) ?_
          rw [← WC_WS] at hO
          refine m_vI (As := [.int 3]) (rest := []) (n := 1) hF hC hO hS (k_X5_vat l G lo sa ad (WS G ad g nf F f no O w (WW G ad nf A R)) g nf F f no O tf tv fw 3 hnf hno (by omega)) ok_X5_vat q_139 rfl rfl ⟨Nat.le_of_ble_eq_true rfl, Nat.le_of_ble_eq_true rfl⟩ rfl hl.1 rfl (Nat.le_of_ble_eq_true rfl) ⟨(by show _ ≤ 600104; omega), (by show _ ≤ 7301314; omega)⟩ dL_law_310 (fun v310 R' H locs hp hO hS => ?_)
          obtain ⟨rfl, hR⟩ := hp
          rw [hR] at hO
          rw [show m_vat g (nI 3) = 1 from by rw [m_vat, if_neg (by decide), if_neg (by decide), if_neg (by decide), if_pos hcb.2.1]]
          refine lv_iconst (v := 1) hx hb dL_law_313 (by decide) ?_
          refine lv_icmp_ne (tgt := 329) hx hb dL_law_314 (by decide) (fun c314 => absurd (by decide) c314) (fun c314 => ?_)
          refine lv_aload hx hb dL_law_317 (lv_at hl 6 rfl) ?_
          refine lv_iload hx hb dL_law_319 (lv_at hl 12 rfl) ?_
          rw [WC_WS] at hO
          refine m_aldA hF hC hO (WS_at (by omega) (WC_at2 (by omega) WW_60)) (j := b) (nI_clamp (by omega)) (vp_in_nI hbn (by omega)) dL_law_321 (v := .ref (ad (240 + b))) (adF_in (by first | assumption | omega)) ?_
          refine lv_iconst (v := 3) hx hb dL_law_322 (by decide) ?_
          refine m_iald hF hC hO (WS_at (by omega) (WC_at2 (by omega) (WW_r (i := b) (by assumption)))) (j := 3) (by decide) (vp_in_nI (n := 3) (by decide) (by decide)) dL_law_323 ?_
          rw [show ((A b) 3) = (F b 3) from (by rw [hA b hbn]; rfl)]
          refine lv_bipush (v := 70) hx hb dL_law_324 (by decide) ?_
          refine lv_icmp_le (tgt := 331) hx hb dL_law_326 (by decide) (fun c326 => ?_) (fun c326 => absurd (h70) c326)
          refine lv_aload hx hb dL_law_331 (lv_at hl 6 rfl) ?_
          refine lv_iload hx hb dL_law_333 (lv_at hl 12 rfl) ?_
          refine m_aldA hF hC hO (WS_at (by omega) (WC_at2 (by omega) WW_60)) (j := b) (nI_clamp (by omega)) (vp_in_nI hbn (by omega)) dL_law_335 (v := .ref (ad (240 + b))) (adF_in (by first | assumption | omega)) ?_
          refine lv_iconst (v := 0) hx hb dL_law_336 (by decide) ?_
          refine m_iald hF hC hO (WS_at (by omega) (WC_at2 (by omega) (WW_r (i := b) (by assumption)))) (j := 0) (by decide) (vp_in_nI (n := 0) (by decide) (by decide)) dL_law_337 ?_
          rw [show ((A b) 0) = (F b 0) from (by rw [hA b hbn]; rfl)]
          refine lv_istore (lv' := [(14, .int (F b 0)), (0, .ref sa.1), (1, .ref (ad 0)), (2, .ref (ad 50)), (3, .int (nI nf)), (4, .int (nI t)), (5, .int x), (6, .ref (ad 60)), (7, .int (g 0)), (8, .int (g 1)), (9, .int (g 4)), (10, .int (g 3)), (11, .int (m_with no O 2)), (12, .int (nI b)), (13, .int (p_gain (F b) (g 1)))]) hx hb dL_law_338 hl (by decide) rfl (fun ls hl => ?_)
          refine lv_aload_n hx hb dL_law_340 rfl (lv_at hl 2 rfl) ?_
          refine lv_iload hx hb dL_law_341 (lv_at hl 13 rfl) ?_
          rw [← WC_WS] at hO
          refine m_vI (As := [.int (nI b)]) (rest := []) (n := 1) hF hC hO hS (k_X5_dip l G lo sa ad (WS G ad g nf F f no O w (WW G ad nf A R)) g nf F f no O tf tv fw b qn hnf hno hbn hcb hq3 (by omega)) ok_X5_dip q_215 rfl rfl ⟨Nat.le_of_ble_eq_true rfl, Nat.le_of_ble_eq_true rfl⟩ rfl hl.1 rfl (Nat.le_of_ble_eq_true rfl) ⟨(by show _ ≤ 600104; omega), (by show _ ≤ 7301314; omega)⟩ dL_law_343 (fun v343 R' H locs hp hO hS => ?_)
          obtain ⟨rfl, hR⟩ := hp
          rw [hR] at hO
          obtain ⟨g1, hg1⟩ : ∃ z, z = m_qG (upd (p_dipV (F b) g) 4 (p_dipV (F b) g 4 + 1)) := ⟨_, rfl⟩
          obtain ⟨F1, hF1⟩ : ∃ z, z = m_coolTo nf b (va_up F b (p_dipF (F b) (g 1))) := ⟨_, rfl⟩
          obtain ⟨O1, hO1⟩ : ∃ z, z = m_qO no (upd (p_dipV (F b) g) 4 (p_dipV (F b) g 4 + 1)) O := ⟨_, rfl⟩
          rw [← hg1, ← hF1, ← hO1] at hO
          have hI1 : IV (36 + 3 * t + 1) (3 * t + 2) g1 nf F1 f no O1 := by rw [hg1, hF1, hO1]; exact iv_dip hI hbn hcb
          rw [up_2 h7n]
          refine lv_aload hx hb dL_law_346 (lv_at hl 7 rfl) ?_
          refine lv_iload hx hb dL_law_348 (lv_at hl 13 rfl) ?_
          rw [WC_WS] at hO
          refine m_aldA hF hC hO (WS_at (by omega) (WC_at2 (by omega) WW_60)) (j := b) (nI_clamp (by omega)) (vp_in_nI hbn (by omega)) dL_law_350 (v := .ref (ad (240 + b))) (adF_in (by first | assumption | omega)) ?_
          refine lv_iconst (v := 2) hx hb dL_law_351 (by decide) ?_
          refine m_iald hF hC hO (WS_at (by omega) (WC_at2 (by omega) (WW_r (i := b) (by assumption)))) (j := 2) (by decide) (vp_in_nI (n := 2) (by decide) (by decide)) dL_law_352 ?_
          rw [show ((A b) 2) = (F b 2) from (by rw [hA b hbn]; rfl)]
          refine lv_iload hx hb dL_law_353 (lv_at hl 14 rfl) ?_
          refine lv_iadd hx hb dL_law_355 ?_
          refine lv_icmp_ne (tgt := 423) hx hb dL_law_356 (by decide) (fun c356 => absurd rfl c356) (fun c356 => ?_)
          refine lv_aload_n hx hb dL_law_359 rfl (lv_at hl 2 rfl) ?_
          refine lv_iconst (v := 0) hx hb dL_law_360 (by decide) ?_
          rw [← WC_WS] at hO
          refine m_vI (As := [.int 0]) (rest := []) (n := 1) hF hC hO hS (k_X5_vat l G lo sa ad (WS G ad g nf F f no O w (WW G ad nf A R)) g1 nf F1 f no O1 tf tv fw 0 hnf hno (by omega)) ok_X5_vat q_139 rfl rfl ⟨Nat.le_of_ble_eq_true rfl, Nat.le_of_ble_eq_true rfl⟩ rfl hl.1 rfl (Nat.le_of_ble_eq_true rfl) ⟨(by show _ ≤ 600104; omega), (by show _ ≤ 7301314; omega)⟩ dL_law_361 (fun v361 R' H locs hp hO hS => ?_)
          obtain ⟨rfl, hR⟩ := hp
          rw [hR] at hO
          rw [show m_vat g1 (nI 0) = (g1 0) from by rw [m_vat, if_pos (by decide)]]
          rw [show g1 0 = g 0 - p_gain (F b) (g 1) * (8 + F b 0) * F b 1 / 10 from by rw [hg1]; exact up_0 h7n]
          refine lv_iload hx hb dL_law_364 (lv_at hl 8 rfl) ?_
          refine lv_iload hx hb dL_law_366 (lv_at hl 14 rfl) ?_
          refine lv_bipush (v := 8) hx hb dL_law_368 (by decide) ?_
          refine lv_iload hx hb dL_law_370 (lv_at hl 0 rfl) ?_
          refine lv_iadd hx hb dL_law_372 ?_
          refine lv_imul hx hb dL_law_373 ?_
          refine lv_aload hx hb dL_law_374 (lv_at hl 7 rfl) ?_
          refine lv_iload hx hb dL_law_376 (lv_at hl 13 rfl) ?_
          rw [WC_WS] at hO
          refine m_aldA hF hC hO (WS_at (by omega) (WC_at2 (by omega) WW_60)) (j := b) (nI_clamp (by omega)) (vp_in_nI hbn (by omega)) dL_law_378 (v := .ref (ad (240 + b))) (adF_in (by first | assumption | omega)) ?_
          refine lv_iconst (v := 1) hx hb dL_law_379 (by decide) ?_
          refine m_iald hF hC hO (WS_at (by omega) (WC_at2 (by omega) (WW_r (i := b) (by assumption)))) (j := 1) (by decide) (vp_in_nI (n := 1) (by decide) (by decide)) dL_law_380 ?_
          rw [show ((A b) 1) = (F b 1) from (by rw [hA b hbn]; rfl)]
          refine lv_imul hx hb dL_law_381 ?_
          refine lv_bipush (v := 10) hx hb dL_law_382 (by decide) ?_
          refine lv_idiv hx hb dL_law_384 (by decide) ?_
          refine lv_isub hx hb dL_law_385 ?_
          refine lv_icmp_ne (tgt := 423) hx hb dL_law_386 (by decide) (fun c386 => absurd rfl c386) (fun c386 => ?_)
          refine lv_aload_n hx hb dL_law_389 rfl (lv_at hl 2 rfl) ?_
          refine lv_bipush (v := 7) hx hb dL_law_390 (by decide) ?_
          rw [← WC_WS] at hO
          refine m_vI (As := [.int 7]) (rest := []) (n := 1) hF hC hO hS (k_X5_count l G lo sa ad (WS G ad g nf F f no O w (WW G ad nf A R)) g1 nf F1 f no O1 tf tv fw 7 hnf hno (by omega)) ok_X5_count q_383 rfl rfl ⟨Nat.le_of_ble_eq_true rfl, Nat.le_of_ble_eq_true rfl⟩ rfl hl.1 rfl (Nat.le_of_ble_eq_true rfl) ⟨(by show _ ≤ 600104; omega), (by show _ ≤ 7301314; omega)⟩ dL_law_392 (fun v392 R' H locs hp hO hS => ?_)
          obtain ⟨rfl, hR⟩ := hp
          rw [hR] at hO
          rw [show c_count g1 nf F1 f no O1 7 = (g1 4) from rfl]
          rw [show g1 4 = g 4 + 1 from by rw [hg1]; show p_dipV (F b) g 4 + 1 = _; rw [dipV_hi (by decide)]]
          refine lv_iload hx hb dL_law_395 (lv_at hl 10 rfl) ?_
          refine lv_iconst (v := 1) hx hb dL_law_397 (by decide) ?_
          refine lv_iadd hx hb dL_law_398 ?_
          refine lv_icmp_ne (tgt := 423) hx hb dL_law_399 (by decide) (fun c399 => absurd rfl c399) (fun c399 => ?_)
          refine lv_aload_n hx hb dL_law_402 rfl (lv_at hl 2 rfl) ?_
          refine lv_iload hx hb dL_law_403 (lv_at hl 13 rfl) ?_
          refine lv_bipush (v := 6) hx hb dL_law_405 (by decide) ?_
          refine m_vI (As := [.int (nI b), .int 6]) (rest := []) (n := 2) hF hC hO hS (k_X5_frame l G lo sa ad (WS G ad g nf F f no O w (WW G ad nf A R)) g1 nf F1 f no O1 tf tv fw b 6 hnf hno hbn (by decide) ((hI1.fr b hbn).c01)) ok_X5_frame q_338 rfl rfl ⟨Nat.le_of_ble_eq_true rfl, Nat.le_of_ble_eq_true rfl⟩ rfl hl.1 rfl (Nat.le_of_ble_eq_true rfl) ⟨(by show _ ≤ 600104; omega), (by show _ ≤ 7301314; omega)⟩ dL_law_407 (fun v407 R' H locs hp hO hS => ?_)
          obtain ⟨rfl, hR⟩ := hp
          rw [hR] at hO
          rw [show c_frame (F1 b) 6 = (F1 b 6) from rfl]
          rw [show F1 b 6 = F b 6 + 1 from by rw [hF1, cool_at]; exact dipF_6]
          refine lv_aload hx hb dL_law_410 (lv_at hl 7 rfl) ?_
          refine lv_iload hx hb dL_law_412 (lv_at hl 13 rfl) ?_
          rw [WC_WS] at hO
          refine m_aldA hF hC hO (WS_at (by omega) (WC_at2 (by omega) WW_60)) (j := b) (nI_clamp (by omega)) (vp_in_nI hbn (by omega)) dL_law_414 (v := .ref (ad (240 + b))) (adF_in (by first | assumption | omega)) ?_
          refine lv_bipush (v := 6) hx hb dL_law_415 (by decide) ?_
          refine m_iald hF hC hO (WS_at (by omega) (WC_at2 (by omega) (WW_r (i := b) (by assumption)))) (j := 6) (by decide) (vp_in_nI (n := 6) (by decide) (by decide)) dL_law_417 ?_
          rw [show ((A b) 6) = (F b 6) from (by rw [hA b hbn]; rfl)]
          refine lv_iconst (v := 1) hx hb dL_law_418 (by decide) ?_
          refine lv_iadd hx hb dL_law_419 ?_
          refine lv_icmp_eq (tgt := 425) hx hb dL_law_420 (by decide) (fun c420 => ?_) (fun c420 => absurd (rfl) c420)
          refine lv_aload_n hx hb dL_law_425 rfl (lv_at hl 2 rfl) ?_
          refine lv_iload hx hb dL_law_426 (lv_at hl 13 rfl) ?_
          refine lv_iconst (v := 3) hx hb dL_law_428 (by decide) ?_
          rw [← WC_WS] at hO
          refine m_vI (As := [.int (nI b), .int 3]) (rest := []) (n := 2) hF hC hO hS (k_X5_frame l G lo sa ad (WS G ad g nf F f no O w (WW G ad nf A R)) g1 nf F1 f no O1 tf tv fw b 3 hnf hno hbn (by decide) ((hI1.fr b hbn).c01)) ok_X5_frame q_338 rfl rfl ⟨Nat.le_of_ble_eq_true rfl, Nat.le_of_ble_eq_true rfl⟩ rfl hl.1 rfl (Nat.le_of_ble_eq_true rfl) ⟨(by show _ ≤ 600104; omega), (by show _ ≤ 7301314; omega)⟩ dL_law_429 (fun v429 R' H locs hp hO hS => ?_)
          obtain ⟨rfl, hR⟩ := hp
          rw [hR] at hO
          rw [show c_frame (F1 b) 3 = (F1 b 3) from rfl]
          rw [show F1 b 3 = jmin 100 ((F b 3 + g 1) / 2) from by rw [hF1, cool_at]; exact up_3 h7n]
          refine lv_bipush (v := 100) hx hb dL_law_432 (by decide) ?_
          refine lv_aload hx hb dL_law_434 (lv_at hl 7 rfl) ?_
          refine lv_iload hx hb dL_law_436 (lv_at hl 13 rfl) ?_
          rw [WC_WS] at hO
          refine m_aldA hF hC hO (WS_at (by omega) (WC_at2 (by omega) WW_60)) (j := b) (nI_clamp (by omega)) (vp_in_nI hbn (by omega)) dL_law_438 (v := .ref (ad (240 + b))) (adF_in (by first | assumption | omega)) ?_
          refine lv_iconst (v := 3) hx hb dL_law_439 (by decide) ?_
          refine m_iald hF hC hO (WS_at (by omega) (WC_at2 (by omega) (WW_r (i := b) (by assumption)))) (j := 3) (by decide) (vp_in_nI (n := 3) (by decide) (by decide)) dL_law_440 ?_
          rw [show ((A b) 3) = (F b 3) from (by rw [hA b hbn]; rfl)]
          refine lv_iload hx hb dL_law_441 (lv_at hl 9 rfl) ?_
          refine lv_iadd hx hb dL_law_443 ?_
          refine lv_iconst (v := 2) hx hb dL_law_444 (by decide) ?_
          refine lv_idiv hx hb dL_law_445 (by decide) ?_
          refine m_min hF hl.1 q_621 q_246 q_14 q_247 (Nat.le_of_ble_eq_true rfl) (Nat.le_of_ble_eq_true rfl) ⟨(by show _ ≤ 600104; omega), (by show _ ≤ 7301314; omega)⟩ dL_law_446 ?_
          refine lv_icmp_ne (tgt := 500) hx hb dL_law_449 (by decide) (fun c449 => absurd rfl c449) (fun c449 => ?_)
          refine lv_aload_n hx hb dL_law_452 rfl (lv_at hl 2 rfl) ?_
          refine lv_iload hx hb dL_law_453 (lv_at hl 13 rfl) ?_
          refine lv_iconst (v := 4) hx hb dL_law_455 (by decide) ?_
          rw [← WC_WS] at hO
          refine m_vI (As := [.int (nI b), .int 4]) (rest := []) (n := 2) hF hC hO hS (k_X5_frame l G lo sa ad (WS G ad g nf F f no O w (WW G ad nf A R)) g1 nf F1 f no O1 tf tv fw b 4 hnf hno hbn (by decide) ((hI1.fr b hbn).c01)) ok_X5_frame q_338 rfl rfl ⟨Nat.le_of_ble_eq_true rfl, Nat.le_of_ble_eq_true rfl⟩ rfl hl.1 rfl (Nat.le_of_ble_eq_true rfl) ⟨(by show _ ≤ 600104; omega), (by show _ ≤ 7301314; omega)⟩ dL_law_456 (fun v456 R' H locs hp hO hS => ?_)
          obtain ⟨rfl, hR⟩ := hp
          rw [hR] at hO
          rw [show c_frame (F1 b) 4 = (F1 b 4) from rfl]
          refine lv_aload hx hb dL_law_459 (lv_at hl 7 rfl) ?_
          refine lv_iload hx hb dL_law_461 (lv_at hl 13 rfl) ?_
          rw [WC_WS] at hO
          refine m_aldA hF hC hO (WS_at (by omega) (WC_at2 (by omega) WW_60)) (j := b) (nI_clamp (by omega)) (vp_in_nI hbn (by omega)) dL_law_463 (v := .ref (ad (240 + b))) (adF_in (by first | assumption | omega)) ?_
          refine lv_iconst (v := 4) hx hb dL_law_464 (by decide) ?_
          refine m_iald hF hC hO (WS_at (by omega) (WC_at2 (by omega) (WW_r (i := b) (by assumption)))) (j := 4) (by decide) (vp_in_nI (n := 4) (by decide) (by decide)) dL_law_465 ?_
          rw [show ((A b) 4) = (F b 4) from (by rw [hA b hbn]; rfl)]
          refine lv_iconst (v := 1) hx hb dL_law_466 (by decide) ?_
          refine lv_icmp_eq (tgt := 492) hx hb dL_law_467 (by decide) (fun c467 => ?_) (fun c467 => ?_)
          · refine lv_iconst (v := 1) hx hb dL_law_492 (by decide) ?_
            refine lv_goto (tgt := 497) hx hb dL_law_493 (by decide) ?_
            refine lv_icmp_eq (tgt := 502) hx hb dL_law_497 (by decide) (fun c497 => ?_) (fun c497 => absurd ((by rw [hF1, cool_at]; exact up_4y h7n (Or.inl c467))) c497)
            refine lv_aload_n hx hb dL_law_502 rfl (lv_at hl 3 rfl) ?_
            refine lv_aload_n hx hb dL_law_503 rfl (lv_at hl 3 rfl) ?_
            refine m_get inX7 hF hC hO rfl rfl 3 (by decide) q_508 (v := .ref (ad 51)) rfl dL_law_504 ?_
            refine lv_iload hx hb dL_law_507 (lv_at hl 13 rfl) ?_
            refine m_aldP hF hC hO rfl (j := b) (nI_clamp (by omega)) (vp_in_nI hbn (by omega)) dL_law_509 (v := .ref (ad (200 + b))) (adF_in (by first | assumption | omega)) ?_
            refine m_vV (As := [.ref (ad (200 + b))]) (rest := []) (n := 1) hF hC hO hS (k_X7_dip l G lo sa ad (WC G ad g1 nf F1 f no O1 tf tv fw (WW G ad nf A R)) g nf F f no O w b qn hnf hno hbn hcb hgn hFv hOv hq3 (by omega)) ok_X7_dip q_465 rfl rfl ⟨Nat.le_of_ble_eq_true rfl, Nat.le_of_ble_eq_true rfl⟩ rfl hl.1 rfl (Nat.le_of_ble_eq_true rfl) ⟨(by show _ ≤ 600104; omega), (by show _ ≤ 7301314; omega)⟩ dL_law_510 (fun R' H locs hp hO hS => ?_)
            have hR := hp
            rw [hR] at hO
            rw [← hg1, ← hF1, ← hO1] at hO
            refine lv_goto (tgt := 594) hx hb dL_law_513 (by decide) ?_
            exact h594 ad g1 nf F1 f no O1 w tf tv fw A x g F O b (nI b) H _ _ _ _ (hI1.mono (by omega) (by omega)) hFv h1 hfw hA (Or.inl ⟨rfl, hbn⟩) (by rw [hg1, hF1, hO1]; exact rel_dip) hO hS (lv_sub hl [1, 2, 3, 4, 5, 6, 7, 9, 11, 12, 13] rfl) hc9 hs9
          · refine lv_aload hx hb dL_law_470 (lv_at hl 7 rfl) ?_
            refine lv_iload hx hb dL_law_472 (lv_at hl 13 rfl) ?_
            refine m_aldA hF hC hO (WS_at (by omega) (WC_at2 (by omega) WW_60)) (j := b) (nI_clamp (by omega)) (vp_in_nI hbn (by omega)) dL_law_474 (v := .ref (ad (240 + b))) (adF_in (by first | assumption | omega)) ?_
            refine lv_iconst (v := 2) hx hb dL_law_475 (by decide) ?_
            refine m_iald hF hC hO (WS_at (by omega) (WC_at2 (by omega) (WW_r (i := b) (by assumption)))) (j := 2) (by decide) (vp_in_nI (n := 2) (by decide) (by decide)) dL_law_476 ?_
            rw [show ((A b) 2) = (F b 2) from (by rw [hA b hbn]; rfl)]
            refine lv_if_le (tgt := 496) hx hb dL_law_477 (by decide) (fun c477 => ?_) (fun c477 => ?_)
            · refine lv_iconst (v := 0) hx hb dL_law_496 (by decide) ?_
              refine lv_icmp_eq (tgt := 502) hx hb dL_law_497 (by decide) (fun c497 => ?_) (fun c497 => absurd ((by rw [hF1, cool_at]; exact up_4n h7n (hFv b hbn).c01 c467 (fun q => q.1 (thick_0 (hFv b hbn) c477)))) c497)
              refine lv_aload_n hx hb dL_law_502 rfl (lv_at hl 3 rfl) ?_
              refine lv_aload_n hx hb dL_law_503 rfl (lv_at hl 3 rfl) ?_
              refine m_get inX7 hF hC hO rfl rfl 3 (by decide) q_508 (v := .ref (ad 51)) rfl dL_law_504 ?_
              refine lv_iload hx hb dL_law_507 (lv_at hl 13 rfl) ?_
              refine m_aldP hF hC hO rfl (j := b) (nI_clamp (by omega)) (vp_in_nI hbn (by omega)) dL_law_509 (v := .ref (ad (200 + b))) (adF_in (by first | assumption | omega)) ?_
              refine m_vV (As := [.ref (ad (200 + b))]) (rest := []) (n := 1) hF hC hO hS (k_X7_dip l G lo sa ad (WC G ad g1 nf F1 f no O1 tf tv fw (WW G ad nf A R)) g nf F f no O w b qn hnf hno hbn hcb hgn hFv hOv hq3 (by omega)) ok_X7_dip q_465 rfl rfl ⟨Nat.le_of_ble_eq_true rfl, Nat.le_of_ble_eq_true rfl⟩ rfl hl.1 rfl (Nat.le_of_ble_eq_true rfl) ⟨(by show _ ≤ 600104; omega), (by show _ ≤ 7301314; omega)⟩ dL_law_510 (fun R' H locs hp hO hS => ?_)
              have hR := hp
              rw [hR] at hO
              rw [← hg1, ← hF1, ← hO1] at hO
              refine lv_goto (tgt := 594) hx hb dL_law_513 (by decide) ?_
              exact h594 ad g1 nf F1 f no O1 w tf tv fw A x g F O b (nI b) H _ _ _ _ (hI1.mono (by omega) (by omega)) hFv h1 hfw hA (Or.inl ⟨rfl, hbn⟩) (by rw [hg1, hF1, hO1]; exact rel_dip) hO hS (lv_sub hl [1, 2, 3, 4, 5, 6, 7, 9, 11, 12, 13] rfl) hc9 hs9
            · refine lv_aload hx hb dL_law_480 (lv_at hl 7 rfl) ?_
              refine lv_iload hx hb dL_law_482 (lv_at hl 13 rfl) ?_
              refine m_aldA hF hC hO (WS_at (by omega) (WC_at2 (by omega) WW_60)) (j := b) (nI_clamp (by omega)) (vp_in_nI hbn (by omega)) dL_law_484 (v := .ref (ad (240 + b))) (adF_in (by first | assumption | omega)) ?_
              refine lv_iconst (v := 3) hx hb dL_law_485 (by decide) ?_
              refine m_iald hF hC hO (WS_at (by omega) (WC_at2 (by omega) (WW_r (i := b) (by assumption)))) (j := 3) (by decide) (vp_in_nI (n := 3) (by decide) (by decide)) dL_law_486 ?_
              rw [show ((A b) 3) = (F b 3) from (by rw [hA b hbn]; rfl)]
              refine lv_bipush (v := 10) hx hb dL_law_487 (by decide) ?_
              refine lv_icmp_ge (tgt := 496) hx hb dL_law_489 (by decide) (fun c489 => ?_) (fun c489 => ?_)
              · refine lv_iconst (v := 0) hx hb dL_law_496 (by decide) ?_
                refine lv_icmp_eq (tgt := 502) hx hb dL_law_497 (by decide) (fun c497 => ?_) (fun c497 => absurd ((by rw [hF1, cool_at]; exact up_4n h7n (hFv b hbn).c01 c467 (fun q => absurd q.2 (Int32.not_lt.mpr c489)))) c497)
                refine lv_aload_n hx hb dL_law_502 rfl (lv_at hl 3 rfl) ?_
                refine lv_aload_n hx hb dL_law_503 rfl (lv_at hl 3 rfl) ?_
                refine m_get inX7 hF hC hO rfl rfl 3 (by decide) q_508 (v := .ref (ad 51)) rfl dL_law_504 ?_
                refine lv_iload hx hb dL_law_507 (lv_at hl 13 rfl) ?_
                refine m_aldP hF hC hO rfl (j := b) (nI_clamp (by omega)) (vp_in_nI hbn (by omega)) dL_law_509 (v := .ref (ad (200 + b))) (adF_in (by first | assumption | omega)) ?_
                refine m_vV (As := [.ref (ad (200 + b))]) (rest := []) (n := 1) hF hC hO hS (k_X7_dip l G lo sa ad (WC G ad g1 nf F1 f no O1 tf tv fw (WW G ad nf A R)) g nf F f no O w b qn hnf hno hbn hcb hgn hFv hOv hq3 (by omega)) ok_X7_dip q_465 rfl rfl ⟨Nat.le_of_ble_eq_true rfl, Nat.le_of_ble_eq_true rfl⟩ rfl hl.1 rfl (Nat.le_of_ble_eq_true rfl) ⟨(by show _ ≤ 600104; omega), (by show _ ≤ 7301314; omega)⟩ dL_law_510 (fun R' H locs hp hO hS => ?_)
                have hR := hp
                rw [hR] at hO
                rw [← hg1, ← hF1, ← hO1] at hO
                refine lv_goto (tgt := 594) hx hb dL_law_513 (by decide) ?_
                exact h594 ad g1 nf F1 f no O1 w tf tv fw A x g F O b (nI b) H _ _ _ _ (hI1.mono (by omega) (by omega)) hFv h1 hfw hA (Or.inl ⟨rfl, hbn⟩) (by rw [hg1, hF1, hO1]; exact rel_dip) hO hS (lv_sub hl [1, 2, 3, 4, 5, 6, 7, 9, 11, 12, 13] rfl) hc9 hs9
              · refine lv_iconst (v := 1) hx hb dL_law_492 (by decide) ?_
                refine lv_goto (tgt := 497) hx hb dL_law_493 (by decide) ?_
                refine lv_icmp_eq (tgt := 502) hx hb dL_law_497 (by decide) (fun c497 => ?_) (fun c497 => absurd ((by rw [hF1, cool_at]; exact up_4y h7n (Or.inr ⟨thick_pos (hFv b hbn) c477, Int32.not_le.mp c489⟩))) c497)
                refine lv_aload_n hx hb dL_law_502 rfl (lv_at hl 3 rfl) ?_
                refine lv_aload_n hx hb dL_law_503 rfl (lv_at hl 3 rfl) ?_
                refine m_get inX7 hF hC hO rfl rfl 3 (by decide) q_508 (v := .ref (ad 51)) rfl dL_law_504 ?_
                refine lv_iload hx hb dL_law_507 (lv_at hl 13 rfl) ?_
                refine m_aldP hF hC hO rfl (j := b) (nI_clamp (by omega)) (vp_in_nI hbn (by omega)) dL_law_509 (v := .ref (ad (200 + b))) (adF_in (by first | assumption | omega)) ?_
                refine m_vV (As := [.ref (ad (200 + b))]) (rest := []) (n := 1) hF hC hO hS (k_X7_dip l G lo sa ad (WC G ad g1 nf F1 f no O1 tf tv fw (WW G ad nf A R)) g nf F f no O w b qn hnf hno hbn hcb hgn hFv hOv hq3 (by omega)) ok_X7_dip q_465 rfl rfl ⟨Nat.le_of_ble_eq_true rfl, Nat.le_of_ble_eq_true rfl⟩ rfl hl.1 rfl (Nat.le_of_ble_eq_true rfl) ⟨(by show _ ≤ 600104; omega), (by show _ ≤ 7301314; omega)⟩ dL_law_510 (fun R' H locs hp hO hS => ?_)
                have hR := hp
                rw [hR] at hO
                rw [← hg1, ← hF1, ← hO1] at hO
                refine lv_goto (tgt := 594) hx hb dL_law_513 (by decide) ?_
                exact h594 ad g1 nf F1 f no O1 w tf tv fw A x g F O b (nI b) H _ _ _ _ (hI1.mono (by omega) (by omega)) hFv h1 hfw hA (Or.inl ⟨rfl, hbn⟩) (by rw [hg1, hF1, hO1]; exact rel_dip) hO hS (lv_sub hl [1, 2, 3, 4, 5, 6, 7, 9, 11, 12, 13] rfl) hc9 hs9
        · have hkn : k < nf := (nI_nE (a := nf) (b := k) (by omega) (by omega) c226)
          refine lv_aload hx hb dL_law_229 (lv_at hl 6 rfl) ?_
          refine lv_iload hx hb dL_law_231 (lv_at hl 14 rfl) ?_
          refine m_aldA hF hC hO (WS_at (by omega) (WC_at2 (by omega) WW_60)) (j := k) (nI_clamp (by omega)) (vp_in_nI hkn (by omega)) dL_law_233 (v := .ref (ad (240 + k))) (adF_in (by first | assumption | omega)) ?_
          refine lv_iconst (v := 5) hx hb dL_law_234 (by decide) ?_
          refine m_iald hF hC hO (WS_at (by omega) (WC_at2 (by omega) (WW_r (i := k) (by assumption)))) (j := 5) (by decide) (vp_in_nI (n := 5) (by decide) (by decide)) dL_law_235 ?_
          rw [show ((A k) 5) = (F k 5) from (by rw [hA k hkn]; rfl)]
          refine lv_if_ge (tgt := 242) hx hb dL_law_236 (by decide) (fun c236 => ?_) (fun c236 => ?_)
          · refine lv_aload_n hx hb dL_law_242 rfl (lv_at hl 1 rfl) ?_
            refine lv_iload hx hb dL_law_243 (lv_at hl 14 rfl) ?_
            refine lv_iconst (v := 1) hx hb dL_law_245 (by decide) ?_
            rw [← WC_WS] at hO
            refine m_vI (As := [.int (nI k), .int 1]) (rest := []) (n := 2) hF hC hO hS (k_X5_would l G lo sa ad (WS G ad g nf F f no O w (WW G ad nf A R)) g nf F f no O tf tv fw k 1 hnf hno hkn (fun e9 => by rw [e9] at c236; exact absurd c236 (by decide)) ((hFv k hkn).c01) (by decide) (by decide)) ok_X5_would q_409 rfl rfl ⟨Nat.le_of_ble_eq_true rfl, Nat.le_of_ble_eq_true rfl⟩ rfl hl.1 rfl (Nat.le_of_ble_eq_true rfl) ⟨(by show _ ≤ 600104; omega), (by show _ ≤ 7301314; omega)⟩ dL_law_246 (fun v246 R' H locs hp hO hS => ?_)
            obtain ⟨rfl, φ_246, ν_246, hR⟩ := hp
            rw [hR] at hO
            refine lv_aload hx hb dL_law_249 (lv_at hl 6 rfl) ?_
            refine lv_iload hx hb dL_law_251 (lv_at hl 14 rfl) ?_
            rw [WC_WS] at hO
            refine m_aldA hF hC hO (WS_at (by omega) (WC_at2 (by omega) WW_60)) (j := k) (nI_clamp (by omega)) (vp_in_nI hkn (by omega)) dL_law_253 (v := .ref (ad (240 + k))) (adF_in (by first | assumption | omega)) ?_
            refine lv_iconst (v := 2) hx hb dL_law_254 (by decide) ?_
            refine m_iald hF hC hO (WS_at (by omega) (WC_at2 (by omega) (WW_r (i := k) (by assumption)))) (j := 2) (by decide) (vp_in_nI (n := 2) (by decide) (by decide)) dL_law_255 ?_
            rw [show ((A k) 2) = (F k 2) from (by rw [hA k hkn]; rfl)]
            refine lv_isub hx hb dL_law_256 ?_
            have hch := adv_chk hFv hI.gn hAdv hkn
            generalize p_try 1 (F k) g - F k 2 = z15 at hch ⊢
            refine lv_istore (lv' := [(15, .int z15), (0, .ref sa.1), (1, .ref (ad 0)), (2, .ref (ad 50)), (3, .int (nI nf)), (4, .int (nI t)), (5, .int x), (6, .ref (ad 60)), (7, .int (g 0)), (8, .int (g 1)), (9, .int (g 4)), (10, .int (g 3)), (11, .int (m_with no O 2)), (12, .int (nI b)), (13, .int (p_gain (F b) (g 1))), (14, .int (nI k))]) hx hb dL_law_257 hl (by decide) rfl (fun ls hl => ?_)
            refine lv_iload hx hb dL_law_259 (lv_at hl 0 rfl) ?_
            refine lv_iload hx hb dL_law_261 (lv_at hl 14 rfl) ?_
            refine lv_icmp_gt (tgt := 294) hx hb dL_law_263 (by decide) (fun c263 => absurd c263 (Int32.not_lt.mpr hch.1)) (fun c263 => ?_)
            refine lv_iload hx hb dL_law_266 (lv_at hl 0 rfl) ?_
            refine lv_iload hx hb dL_law_268 (lv_at hl 14 rfl) ?_
            refine lv_icmp_ne (tgt := 280) hx hb dL_law_270 (by decide) (fun c270 => ?_) (fun c270 => ?_)
            · refine lv_iload hx hb dL_law_280 (lv_at hl 0 rfl) ?_
              refine lv_bipush (v := 16) hx hb dL_law_282 (by decide) ?_
              refine lv_icmp_gt (tgt := 294) hx hb dL_law_284 (by decide) (fun c284 => absurd c284 (Int32.not_lt.mpr hch.2.2.1)) (fun c284 => ?_)
              refine lv_iload hx hb dL_law_287 (lv_at hl 0 rfl) ?_
              refine lv_bipush (v := -13) hx hb dL_law_289 (by decide) ?_
              refine lv_icmp_ge (tgt := 296) hx hb dL_law_291 (by decide) (fun c291 => ?_) (fun c291 => absurd (hch.2.2.2) c291)
              refine lv_iinc (v := (nI (k + 1))) (lv' := [(14, .int (nI (k + 1))), (15, .int z15), (0, .ref sa.1), (1, .ref (ad 0)), (2, .ref (ad 50)), (3, .int (nI nf)), (4, .int (nI t)), (5, .int x), (6, .ref (ad 60)), (7, .int (g 0)), (8, .int (g 1)), (9, .int (g 4)), (10, .int (g 3)), (11, .int (m_with no O 2)), (12, .int (nI b)), (13, .int (p_gain (F b) (g 1)))]) hx hb dL_law_296 hl (k := 15) rfl (nI_inc k) (by decide) rfl (fun ls hl => ?_)
              refine lv_goto (tgt := 223) hx hb dL_law_299 (by decide) ?_
              exact ih223 (k + 1) φ_246 ν_246 _ _ _ (by omega) (by omega) (lv_sub hl [2, 3, 4, 5, 6, 7, 8, 9, 10, 11, 12, 13, 14, 15, 0] rfl) hO hS
            · refine lv_iload hx hb dL_law_273 (lv_at hl 15 rfl) ?_
              refine lv_iload hx hb dL_law_275 (lv_at hl 13 rfl) ?_
              refine lv_icmp_lt (tgt := 294) hx hb dL_law_277 (by decide) (fun c277 => absurd (nI_L (a := k) (b := b) (by omega) (by omega) c277) (hch.2.1 c270)) (fun c277 => ?_)
              refine lv_iload hx hb dL_law_280 (lv_at hl 0 rfl) ?_
              refine lv_bipush (v := 16) hx hb dL_law_282 (by decide) ?_
              refine lv_icmp_gt (tgt := 294) hx hb dL_law_284 (by decide) (fun c284 => absurd c284 (Int32.not_lt.mpr hch.2.2.1)) (fun c284 => ?_)
              refine lv_iload hx hb dL_law_287 (lv_at hl 0 rfl) ?_
              refine lv_bipush (v := -13) hx hb dL_law_289 (by decide) ?_
              refine lv_icmp_ge (tgt := 296) hx hb dL_law_291 (by decide) (fun c291 => ?_) (fun c291 => absurd (hch.2.2.2) c291)
              refine lv_iinc (v := (nI (k + 1))) (lv' := [(14, .int (nI (k + 1))), (15, .int z15), (0, .ref sa.1), (1, .ref (ad 0)), (2, .ref (ad 50)), (3, .int (nI nf)), (4, .int (nI t)), (5, .int x), (6, .ref (ad 60)), (7, .int (g 0)), (8, .int (g 1)), (9, .int (g 4)), (10, .int (g 3)), (11, .int (m_with no O 2)), (12, .int (nI b)), (13, .int (p_gain (F b) (g 1)))]) hx hb dL_law_296 hl (k := 15) rfl (nI_inc k) (by decide) rfl (fun ls hl => ?_)
              refine lv_goto (tgt := 223) hx hb dL_law_299 (by decide) ?_
              exact ih223 (k + 1) φ_246 ν_246 _ _ _ (by omega) (by omega) (lv_sub hl [2, 3, 4, 5, 6, 7, 8, 9, 10, 11, 12, 13, 14, 15, 0] rfl) hO hS
          · refine lv_goto (tgt := 296) hx hb dL_law_239 (by decide) ?_
            refine lv_iinc (v := (nI (k + 1))) (lv' := [(14, .int (nI (k + 1))), (0, .ref sa.1), (1, .ref (ad 0)), (2, .ref (ad 50)), (3, .int (nI nf)), (4, .int (nI t)), (5, .int x), (6, .ref (ad 60)), (7, .int (g 0)), (8, .int (g 1)), (9, .int (g 4)), (10, .int (g 3)), (11, .int (m_with no O 2)), (12, .int (nI b)), (13, .int (p_gain (F b) (g 1)))]) hx hb dL_law_296 hl (k := 14) rfl (nI_inc k) (by decide) rfl (fun ls hl => ?_)
            refine lv_goto (tgt := 223) hx hb dL_law_299 (by decide) ?_
            exact ih223 (k + 1) tf tv _ _ _ (by omega) (by omega) (lv_sub hl [1, 2, 3, 4, 5, 6, 7, 8, 9, 10, 11, 12, 13, 14, 0] rfl) hO hS
    exact L223 _ 0 φ_207 ν_207 _ _ _ (Nat.lt_succ_self _) (by omega) (lv_sub hl [8, 9, 10, 11, 12, 13, 14, 7, 6, 5, 4, 3, 2, 1, 0] rfl) hO hS
