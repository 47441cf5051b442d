theorem rel_keep {nf b no : Nat} {go g : Nat → Int32} {Fo Oo F O : Nat → Nat → Int32} (h : RelD nf b no go Fo Oo g F O) (k : Nat) : F k 0 = Fo k 0 ∧ F k 1 = Fo k 1 ∧ F k 5 = Fo k 5 := by
  obtain ⟨gd, Fd, -, -, -, -, hF, hi, ⟨h0, h1, h5⟩, -⟩ := h
  have e : ∀ j, j ≠ 3 → F k j = Fd k j := fun j hj => by
    rw [hF]; unfold m_coolTo
    split
    · show upd (Fd k) 3 _ j = _
      rw [upd_no hj]
    · rfl
  rw [e 0 (by decide), e 1 (by decide), e 5 (by decide)]
  by_cases hk : k = b
  · subst hk; exact ⟨h0, h1, h5⟩
  · rw [hi k hk]; exact ⟨rfl, rfl, rfl⟩
theorem rel_cool {nf b no k : Nat} {go g : Nat → Int32} {Fo Oo F O : Nat → Nat → Int32} (h : RelD nf b no go Fo Oo g F O) (hk : k < nf) (hkb : k ≠ b) : F k = p_coolF (Fo k) := by
  obtain ⟨gd, Fd, -, -, -, -, hF, hi, -, -⟩ := h
  rw [hF]
  unfold m_coolTo
  rw [if_pos ⟨hk, hkb⟩, hi k hkb]
theorem place_in {φ : Nat → Int32} (h : FrV φ) (h0 : ¬ φ 5 < 0) : p_in (φ 5) 0 11 ∧ φ 5 ≠ -1 := by
  rcases h.2.1 with e | ⟨k, hk, e⟩
  · exact absurd (by rw [e]; decide) h0
  · rw [e]; exact ⟨p_in_nI (a := 0) (b := 11) (Nat.zero_le _) hk (by decide), nI_nm (by omega)⟩
theorem sum_acc {f : Nat → Int32} {y : Int32} : ∀ (n i : Nat) (acc : Int32), p_sum n f i (acc + y) = p_sum n f i acc + y
  | 0, _, _ => rfl
  | n + 1, i, acc => by
    rw [p_sum, p_sum, ← sum_acc n (i + 1) (acc + f i)]
    congr 1
    grind
theorem sum_out {f : Nat → Int32} {v : Int32} {j : Nat} : ∀ (n i : Nat) (acc : Int32), j < i → p_sum n (upd f j v) i acc = p_sum n f i acc
  | 0, _, _, _ => rfl
  | n + 1, i, acc, h => by
    rw [p_sum, p_sum, upd_no (by omega), sum_out n (i + 1) _ (by omega)]
theorem sum_upd {f : Nat → Int32} {y : Int32} {j : Nat} : ∀ (n i : Nat) (acc : Int32), i ≤ j → j < i + n → p_sum n (upd f j (f j + y)) i acc = p_sum n f i acc + y
  | 0, i, _, h1, h2 => by omega
  | n + 1, i, acc, h1, h2 => by
    rw [p_sum, p_sum]
    by_cases e : j = i
    · subst e
      rw [upd_at, sum_out n (j + 1) _ (by omega), show acc + (f j + y) = (acc + f j) + y from by grind, sum_acc]
    · rw [upd_no (by omega), sum_upd n (i + 1) _ (by omega) (by omega)]
theorem cutG_y {g φ : Nat → Int32} (h : p_size φ ≠ 0) : CG_cut g φ = g := if_neg h
theorem cutf_n {f φ : Nat → Int32} (h : p_size φ = 0) : Cf_cut f φ = f := if_pos h
set_option maxHeartbeats 1000000 in
set_option maxRecDepth 100000 in
theorem seg_e {p : Program} {l : Launch} {e : Env} {s : State} {m : MethodId} {below : List Frame} {meth : Method} {c : Code} {lo : Nat} {G : mG} {sa : mSc} {R : mM} (X : LwX p s m meth c lo G sa) {t : Nat} (ht : t < 40) (hz : ∀ x, 50 ≤ x → R x = none) (h964 : L964 p l e s m below meth c lo G sa R t) : L594 p l e s m below meth c lo G sa R t := by
  intro ad g nf F f no O w tf tv fw A x go Fo Oo b bv H locs ls cells slots hI hFo h1 hfw hA hbv hRel hO hS hl hc9 hs9
  have hF := X.1
  have hC := X.2.1
  have hx := hF.1
  have hb := hF.2.1
  have hnf : nf ≤ 12 := by have := hI.1; omega
  have hno : no ≤ 20 := hI.2.1
  have hFv := hI.fr
  have hOv := hI.or
  have hRel9 := hRel
  obtain ⟨gd, Fd, hG9, hd1, hd2, hd3, hF9, hFi, hFb, hO9⟩ := hRel9
  have hlate : m_with no Oo 2 ≤ m_with no O 2 := by rw [hO9]; exact late_up hno
  have hday : ¬ m_with no O 2 ≤ m_with no Oo 2 → (go 3 + 1) - (go 3 + 1) / 40 * 40 = 0 := fun h9 => Classical.byContradiction (fun h8 => h9 (by rw [hO9, late_day (by rw [hd3]; exact h8)]; exact Int32.le_refl _))
  refine lv_iload hx hb dL_law_594 (lv_at hl 7 rfl) ?_
  refine lv_bipush (v := 6) hx hb dL_law_596 (by decide) ?_
  refine lv_aload_n hx hb dL_law_598 rfl (lv_at hl 1 rfl) ?_
  refine lv_iconst (v := 2) hx hb dL_law_599 (by decide) ?_
  rw [← WC_WS] at hO
  refine m_vI (As := [.int 2]) (rest := [.int 6, .int (go 1)]) (n := 1) hF hC hO hS (k_X5_vat l G lo sa ad (WS G ad g nf F f no O w (WW G ad nf A R)) g nf F f no O tf tv fw 2 hnf hno (by omega)) ok_X5_vat q_139 rfl rfl ⟨Nat.le_of_ble_eq_true rfl, Nat.le_of_ble_eq_true rfl⟩ rfl hl.1 rfl (Nat.le_of_ble_eq_true rfl) ⟨(by show _ ≤ 600104; omega), (by show _ ≤ 7301314; omega)⟩ dL_law_600 (fun v600 R' H locs hp hO hS => ?_)
  obtain ⟨rfl, hR⟩ := hp
  rw [hR] at hO
  rw [show m_vat g (nI 2) = (g 2) from by rw [m_vat, if_neg (by decide), if_neg (by decide), if_pos (by decide)]]
  rw [show g 2 = go 2 from by rw [hG9]; exact hd2]
  refine lv_imul hx hb dL_law_603 ?_
  refine lv_iadd hx hb dL_law_604 ?_
  refine lv_istore (lv' := [(13, .int ((go 1) + (6 * (go 2)))), (0, .ref sa.1), (1, .ref (ad 0)), (2, .ref (ad 50)), (3, .int (nI nf)), (4, .int (nI t)), (5, .int x), (6, .ref (ad 60)), (8, .int (go 1)), (10, .int (go 3)), (11, .int (m_with no Oo 2)), (12, .int bv)]) hx hb dL_law_605 hl (by decide) rfl (fun ls hl => ?_)
  refine lv_aload_n hx hb dL_law_607 rfl (lv_at hl 2 rfl) ?_
  refine lv_iconst (v := 0) hx hb dL_law_608 (by decide) ?_
  refine m_vI (As := [.int 0]) (rest := []) (n := 1) hF hC hO hS (k_X5_count l G lo sa ad (WS G ad g nf F f no O w (WW G ad nf A R)) g nf F f no O tf tv fw 0 hnf hno (by omega)) ok_X5_count q_383 rfl rfl ⟨Nat.le_of_ble_eq_true rfl, Nat.le_of_ble_eq_true rfl⟩ rfl hl.1 rfl (Nat.le_of_ble_eq_true rfl) ⟨(by show _ ≤ 600104; omega), (by show _ ≤ 7301314; omega)⟩ dL_law_609 (fun v609 R' H locs hp hO hS => ?_)
  obtain ⟨rfl, hR⟩ := hp
  rw [hR] at hO
  rw [show c_count g nf F f no O 0 = (g 3) from rfl]
  rw [show g 3 = go 3 + 1 from by rw [hG9]; show gd 3 + 1 = _; rw [hd3]]
  refine lv_iload hx hb dL_law_612 (lv_at hl 9 rfl) ?_
  refine lv_iconst (v := 1) hx hb dL_law_614 (by decide) ?_
  refine lv_iadd hx hb dL_law_615 ?_
  refine lv_icmp_ne (tgt := 679) hx hb dL_law_616 (by decide) (fun c616 => absurd rfl c616) (fun c616 => ?_)
  refine lv_aload_n hx hb dL_law_619 rfl (lv_at hl 2 rfl) ?_
  refine lv_iconst (v := 1) hx hb dL_law_620 (by decide) ?_
  refine m_vI (As := [.int 1]) (rest := []) (n := 1) hF hC hO hS (k_X5_vat l G lo sa ad (WS G ad g nf F f no O w (WW G ad nf A R)) g nf F f no O tf tv fw 1 hnf hno (by omega)) ok_X5_vat q_139 rfl rfl ⟨Nat.le_of_ble_eq_true rfl, Nat.le_of_ble_eq_true rfl⟩ rfl hl.1 rfl (Nat.le_of_ble_eq_true rfl) ⟨(by show _ ≤ 600104; omega), (by show _ ≤ 7301314; omega)⟩ dL_law_621 (fun v621 R' H locs hp hO hS => ?_)
  obtain ⟨rfl, hR⟩ := hp
  rw [hR] at hO
  rw [show m_vat g (nI 1) = (g 1) from by rw [m_vat, if_neg (by decide), if_pos (by decide)]]
  rw [show g 1 = jmax 0 (jmin 120 (go 1 + 6 * go 2 - (go 1 + 6 * go 2 - 20) / 10)) from by rw [hG9]; show p_burn (gd 2) (gd 1) = _; rw [hd1, hd2]; rfl]
  refine lv_iconst (v := 0) hx hb dL_law_624 (by decide) ?_
  refine lv_bipush (v := 120) hx hb dL_law_625 (by decide) ?_
  refine lv_iload hx hb dL_law_627 (lv_at hl 0 rfl) ?_
  refine lv_iload hx hb dL_law_629 (lv_at hl 0 rfl) ?_
  refine lv_bipush (v := 20) hx hb dL_law_631 (by decide) ?_
  refine lv_isub hx hb dL_law_633 ?_
  refine lv_bipush (v := 10) hx hb dL_law_634 (by decide) ?_
  refine lv_idiv hx hb dL_law_636 (by decide) ?_
  refine lv_isub hx hb dL_law_637 ?_
  refine m_min hF hl.1 q_621 q_246 q_14 q_247 (Nat.le_of_ble_eq_true rfl) (Nat.le_of_ble_eq_true rfl) ⟨(by show _ ≤ 600104; omega), (by show _ ≤ 7301314; omega)⟩ dL_law_638 ?_
  refine m_max hF hl.1 q_689 q_277 q_14 q_278 (Nat.le_of_ble_eq_true rfl) (Nat.le_of_ble_eq_true rfl) ⟨(by show _ ≤ 600104; omega), (by show _ ≤ 7301314; omega)⟩ dL_law_641 ?_
  refine lv_icmp_ne (tgt := 679) hx hb dL_law_644 (by decide) (fun c644 => absurd rfl c644) (fun c644 => ?_)
  refine lv_aload_n hx hb dL_law_647 rfl (lv_at hl 2 rfl) ?_
  refine lv_bipush (v := 6) hx hb dL_law_648 (by decide) ?_
  refine m_vI (As := [.int 6]) (rest := []) (n := 1) hF hC hO hS (k_X5_count l G lo sa ad (WS G ad g nf F f no O w (WW G ad nf A R)) g nf F f no O tf tv fw 6 hnf hno (by omega)) ok_X5_count q_383 rfl rfl ⟨Nat.le_of_ble_eq_true rfl, Nat.le_of_ble_eq_true rfl⟩ rfl hl.1 rfl (Nat.le_of_ble_eq_true rfl) ⟨(by show _ ≤ 600104; omega), (by show _ ≤ 7301314; omega)⟩ dL_law_650 (fun v650 R' H locs hp hO hS => ?_)
  obtain ⟨rfl, hR⟩ := hp
  rw [hR] at hO
  rw [show c_count g nf F f no O 6 = (m_with no O 2) from rfl]
  refine lv_iload hx hb dL_law_653 (lv_at hl 10 rfl) ?_
  refine lv_icmp_lt (tgt := 679) hx hb dL_law_655 (by decide) (fun c655 => absurd c655 (Int32.not_lt.mpr hlate)) (fun c655 => ?_)
  refine lv_aload_n hx hb dL_law_658 rfl (lv_at hl 2 rfl) ?_
  refine lv_bipush (v := 6) hx hb dL_law_659 (by decide) ?_
  refine m_vI (As := [.int 6]) (rest := []) (n := 1) hF hC hO hS (k_X5_count l G lo sa ad (WS G ad g nf F f no O w (WW G ad nf A R)) g nf F f no O tf tv fw 6 hnf hno (by omega)) ok_X5_count q_383 rfl rfl ⟨Nat.le_of_ble_eq_true rfl, Nat.le_of_ble_eq_true rfl⟩ rfl hl.1 rfl (Nat.le_of_ble_eq_true rfl) ⟨(by show _ ≤ 600104; omega), (by show _ ≤ 7301314; omega)⟩ dL_law_661 (fun v661 R' H locs hp hO hS => ?_)
  obtain ⟨rfl, hR⟩ := hp
  rw [hR] at hO
  rw [show c_count g nf F f no O 6 = (m_with no O 2) from rfl]
  refine lv_iload hx hb dL_law_664 (lv_at hl 10 rfl) ?_
  rw [WC_WS] at hO
  have J681 : ∀  (H : Heap) (locs : List Loc) (ls : Array Slot), lv_has ls 21 [(13, .int ((go 1) + (6 * (go 2)))), (0, .ref sa.1), (1, .ref (ad 0)), (2, .ref (ad 50)), (3, .int (nI nf)), (4, .int (nI t)), (5, .int x), (6, .ref (ad 60)), (8, .int (go 1)), (10, .int (go 3)), (11, .int (m_with no Oo 2)), (12, .int bv)] → mO G lo ad (WS G ad g nf F f no O w (WC G ad g nf F f no O tf tv fw (WW G ad nf A R))) H → va_S (mA lo) s.heap H locs → W p l e room_1 s m #[Value.ref sa.1] below meth c H locs cells slots (lw_Z below #[Value.ref sa.1] s) (F0 m 681 ls []) := by
    intro  H locs ls  hl hO hS
    refine lv_iconst (v := 0) hx hb dL_law_681 (by decide) ?_
    refine lv_istore (lv' := [(14, .int 0), (13, .int ((go 1) + (6 * (go 2)))), (0, .ref sa.1), (1, .ref (ad 0)), (2, .ref (ad 50)), (3, .int (nI nf)), (4, .int (nI t)), (5, .int x), (6, .ref (ad 60)), (8, .int (go 1)), (10, .int (go 3)), (11, .int (m_with no Oo 2)), (12, .int bv)]) hx hb dL_law_682 hl (by decide) rfl (fun ls hl => ?_)
    have L684 : ∀ (nM : Nat) (k : Nat) (H : Heap) (locs : List Loc) (ls : Array Slot), nf - k < nM → k ≤ nf → lv_has ls 21 [(0, .ref sa.1), (1, .ref (ad 0)), (2, .ref (ad 50)), (3, .int (nI nf)), (4, .int (nI t)), (5, .int x), (6, .ref (ad 60)), (12, .int bv), (14, .int (nI k))] → mO G lo ad (WS G ad g nf F f no O w (WC G ad g nf F f no O tf tv fw (WW G ad nf A R))) H → va_S (mA lo) s.heap H locs → W p l e room_1 s m #[Value.ref sa.1] below meth c H locs cells slots (lw_Z below #[Value.ref sa.1] s) (F0 m 684 ls []) := by
      intro nM
      induction nM with
      | zero => intro k H locs ls hn; exact absurd hn (Nat.not_lt_zero _)
      | succ nM ih684 =>
        intro k H locs ls hn684 hk hl hO hS
        refine lv_iload hx hb dL_law_684 (lv_at hl 8 rfl) ?_
        refine lv_iload_n hx hb dL_law_686 rfl (lv_at hl 3 rfl) ?_
        refine lv_icmp_ge (tgt := 964) hx hb dL_law_687 (by decide) (fun c687 => ?_) (fun c687 => ?_)
        · exact h964 ad g nf F f no O w tf tv fw A x H _ _ _ _ hI h1 hfw hO hS (lv_sub hl [0, 1, 2, 3, 4, 5, 6] rfl) hc9 hs9
        · have hkn : k < nf := (nI_nE (a := nf) (b := k) (by omega) (by omega) c687)
          obtain ⟨hk0, hk1, hk5⟩ := rel_keep hRel k
          have hB := fr_bounds (hFv k hkn)
          refine lv_aload_n hx hb dL_law_690 rfl (lv_at hl 1 rfl) ?_
          refine lv_iload hx hb dL_law_691 (lv_at hl 8 rfl) ?_
          refine lv_iconst (v := 5) hx hb dL_law_693 (by decide) ?_
          rw [← WC_WS] at hO
          refine m_vI (As := [.int (nI k), .int 5]) (rest := []) (n := 2) hF hC hO hS (k_X5_frame l G lo sa ad (WS G ad g nf F f no O w (WW G ad nf A R)) g nf F f no O tf tv fw k 5 hnf hno hkn (by decide) ((hFv k hkn).c01)) ok_X5_frame q_338 rfl rfl ⟨Nat.le_of_ble_eq_true rfl, Nat.le_of_ble_eq_true rfl⟩ rfl hl.1 rfl (Nat.le_of_ble_eq_true rfl) ⟨(by show _ ≤ 600104; omega), (by show _ ≤ 7301314; omega)⟩ dL_law_694 (fun v694 R' H locs hp hO hS => ?_)
          obtain ⟨rfl, hR⟩ := hp
          rw [hR] at hO
          rw [show c_frame (F k) 5 = (F k 5) from rfl]
          refine lv_istore (lv' := [(15, .int (F k 5)), (0, .ref sa.1), (1, .ref (ad 0)), (2, .ref (ad 50)), (3, .int (nI nf)), (4, .int (nI t)), (5, .int x), (6, .ref (ad 60)), (12, .int bv), (14, .int (nI k))]) hx hb dL_law_697 hl (by decide) rfl (fun ls hl => ?_)
          refine lv_aload_n hx hb dL_law_699 rfl (lv_at hl 2 rfl) ?_
          refine lv_iload hx hb dL_law_700 (lv_at hl 9 rfl) ?_
          refine lv_iconst (v := 0) hx hb dL_law_702 (by decide) ?_
          refine m_vI (As := [.int (nI k), .int 0]) (rest := []) (n := 2) hF hC hO hS (k_X5_frame l G lo sa ad (WS G ad g nf F f no O w (WW G ad nf A R)) g nf F f no O tf tv fw k 0 hnf hno hkn (by decide) ((hFv k hkn).c01)) ok_X5_frame q_338 rfl rfl ⟨Nat.le_of_ble_eq_true rfl, Nat.le_of_ble_eq_true rfl⟩ rfl hl.1 rfl (Nat.le_of_ble_eq_true rfl) ⟨(by show _ ≤ 600104; omega), (by show _ ≤ 7301314; omega)⟩ dL_law_703 (fun v703 R' H locs hp hO hS => ?_)
          obtain ⟨rfl, hR⟩ := hp
          rw [hR] at hO
          rw [show c_frame (F k) 0 = (F k 0) from rfl]
          refine lv_aload hx hb dL_law_706 (lv_at hl 7 rfl) ?_
          refine lv_iload hx hb dL_law_708 (lv_at hl 9 rfl) ?_
          rw [WC_WS] at hO
          refine m_aldA hF hC hO (WS_at (by omega) (WC_at2 (by omega) WW_60)) (j := k) (nI_clamp (by omega)) (vp_in_nI hkn (by omega)) dL_law_710 (v := .ref (ad (240 + k))) (adF_in (by first | assumption | omega)) ?_
          refine lv_iconst (v := 0) hx hb dL_law_711 (by decide) ?_
          refine m_iald hF hC hO (WS_at (by omega) (WC_at2 (by omega) (WW_r (i := k) (by assumption)))) (j := 0) (by decide) (vp_in_nI (n := 0) (by decide) (by decide)) dL_law_712 ?_
          rw [show ((A k) 0) = (Fo k 0) from (by rw [hA k hkn]; rfl)]
          refine lv_icmp_ne (tgt := 761) hx hb dL_law_713 (by decide) (fun c713 => absurd hk0 c713) (fun c713 => ?_)
          refine lv_aload_n hx hb dL_law_716 rfl (lv_at hl 2 rfl) ?_
          refine lv_iload hx hb dL_law_717 (lv_at hl 9 rfl) ?_
          refine lv_iconst (v := 1) hx hb dL_law_719 (by decide) ?_
          rw [← WC_WS] at hO
          refine m_vI (As := [.int (nI k), .int 1]) (rest := []) (n := 2) hF hC hO hS (k_X5_frame l G lo sa ad (WS G ad g nf F f no O w (WW G ad nf A R)) g nf F f no O tf tv fw k 1 hnf hno hkn (by decide) ((hFv k hkn).c01)) ok_X5_frame q_338 rfl rfl ⟨Nat.le_of_ble_eq_true rfl, Nat.le_of_ble_eq_true rfl⟩ rfl hl.1 rfl (Nat.le_of_ble_eq_true rfl) ⟨(by show _ ≤ 600104; omega), (by show _ ≤ 7301314; omega)⟩ dL_law_720 (fun v720 R' H locs hp hO hS => ?_)
          obtain ⟨rfl, hR⟩ := hp
          rw [hR] at hO
          rw [show c_frame (F k) 1 = (F k 1) from rfl]
          refine lv_aload hx hb dL_law_723 (lv_at hl 7 rfl) ?_
          refine lv_iload hx hb dL_law_725 (lv_at hl 9 rfl) ?_
          rw [WC_WS] at hO
          refine m_aldA hF hC hO (WS_at (by omega) (WC_at2 (by omega) WW_60)) (j := k) (nI_clamp (by omega)) (vp_in_nI hkn (by omega)) dL_law_727 (v := .ref (ad (240 + k))) (adF_in (by first | assumption | omega)) ?_
          refine lv_iconst (v := 1) hx hb dL_law_728 (by decide) ?_
          refine m_iald hF hC hO (WS_at (by omega) (WC_at2 (by omega) (WW_r (i := k) (by assumption)))) (j := 1) (by decide) (vp_in_nI (n := 1) (by decide) (by decide)) dL_law_729 ?_
          rw [show ((A k) 1) = (Fo k 1) from (by rw [hA k hkn]; rfl)]
          refine lv_icmp_ne (tgt := 761) hx hb dL_law_730 (by decide) (fun c730 => absurd hk1 c730) (fun c730 => ?_)
          refine lv_iload hx hb dL_law_733 (lv_at hl 0 rfl) ?_
          refine lv_aload hx hb dL_law_735 (lv_at hl 7 rfl) ?_
          refine lv_iload hx hb dL_law_737 (lv_at hl 9 rfl) ?_
          refine m_aldA hF hC hO (WS_at (by omega) (WC_at2 (by omega) WW_60)) (j := k) (nI_clamp (by omega)) (vp_in_nI hkn (by omega)) dL_law_739 (v := .ref (ad (240 + k))) (adF_in (by first | assumption | omega)) ?_
          refine lv_iconst (v := 5) hx hb dL_law_740 (by decide) ?_
          refine m_iald hF hC hO (WS_at (by omega) (WC_at2 (by omega) (WW_r (i := k) (by assumption)))) (j := 5) (by decide) (vp_in_nI (n := 5) (by decide) (by decide)) dL_law_741 ?_
          rw [show ((A k) 5) = (Fo k 5) from (by rw [hA k hkn]; rfl)]
          refine lv_icmp_ne (tgt := 761) hx hb dL_law_742 (by decide) (fun c742 => absurd hk5 c742) (fun c742 => ?_)
          refine lv_iload hx hb dL_law_745 (lv_at hl 0 rfl) ?_
          have J763 : ∀  (H : Heap) (locs : List Loc) (ls : Array Slot), lv_has ls 21 [(15, .int (F k 5)), (0, .ref sa.1), (1, .ref (ad 0)), (2, .ref (ad 50)), (3, .int (nI nf)), (4, .int (nI t)), (5, .int x), (6, .ref (ad 60)), (12, .int bv), (14, .int (nI k))] → mO G lo ad (WS G ad g nf F f no O w (WC G ad g nf F f no O tf tv fw (WW G ad nf A R))) H → va_S (mA lo) s.heap H locs → W p l e room_1 s m #[Value.ref sa.1] below meth c H locs cells slots (lw_Z below #[Value.ref sa.1] s) (F0 m 763 ls []) := by
            intro  H locs ls  hl hO hS
            refine lv_aload_n hx hb dL_law_763 rfl (lv_at hl 2 rfl) ?_
            refine lv_iload hx hb dL_law_764 (lv_at hl 9 rfl) ?_
            refine lv_iconst (v := 2) hx hb dL_law_766 (by decide) ?_
            rw [← WC_WS] at hO
            refine m_vI (As := [.int (nI k), .int 2]) (rest := []) (n := 2) hF hC hO hS (k_X5_frame l G lo sa ad (WS G ad g nf F f no O w (WW G ad nf A R)) g nf F f no O tf tv fw k 2 hnf hno hkn (by decide) ((hFv k hkn).c01)) ok_X5_frame q_338 rfl rfl ⟨Nat.le_of_ble_eq_true rfl, Nat.le_of_ble_eq_true rfl⟩ rfl hl.1 rfl (Nat.le_of_ble_eq_true rfl) ⟨(by show _ ≤ 600104; omega), (by show _ ≤ 7301314; omega)⟩ dL_law_767 (fun v767 R' H locs hp hO hS => ?_)
            obtain ⟨rfl, hR⟩ := hp
            rw [hR] at hO
            rw [show c_frame (F k) 2 = (F k 2) from rfl]
            refine lv_if_lt (tgt := 842) hx hb dL_law_770 (by decide) (fun c770 => absurd c770 (Int32.not_lt.mpr hB.1)) (fun c770 => ?_)
            refine lv_aload_n hx hb dL_law_773 rfl (lv_at hl 2 rfl) ?_
            refine lv_iload hx hb dL_law_774 (lv_at hl 9 rfl) ?_
            refine lv_iconst (v := 2) hx hb dL_law_776 (by decide) ?_
            refine m_vI (As := [.int (nI k), .int 2]) (rest := []) (n := 2) hF hC hO hS (k_X5_frame l G lo sa ad (WS G ad g nf F f no O w (WW G ad nf A R)) g nf F f no O tf tv fw k 2 hnf hno hkn (by decide) ((hFv k hkn).c01)) ok_X5_frame q_338 rfl rfl ⟨Nat.le_of_ble_eq_true rfl, Nat.le_of_ble_eq_true rfl⟩ rfl hl.1 rfl (Nat.le_of_ble_eq_true rfl) ⟨(by show _ ≤ 600104; omega), (by show _ ≤ 7301314; omega)⟩ dL_law_777 (fun v777 R' H locs hp hO hS => ?_)
            obtain ⟨rfl, hR⟩ := hp
            rw [hR] at hO
            rw [show c_frame (F k) 2 = (F k 2) from rfl]
            refine lv_sipush (v := 400) hx hb dL_law_780 (by decide) ?_
            refine lv_icmp_gt (tgt := 842) hx hb dL_law_783 (by decide) (fun c783 => absurd c783 (Int32.not_lt.mpr hB.2.1)) (fun c783 => ?_)
            refine lv_aload_n hx hb dL_law_786 rfl (lv_at hl 2 rfl) ?_
            refine lv_iload hx hb dL_law_787 (lv_at hl 9 rfl) ?_
            refine lv_iconst (v := 3) hx hb dL_law_789 (by decide) ?_
            refine m_vI (As := [.int (nI k), .int 3]) (rest := []) (n := 2) hF hC hO hS (k_X5_frame l G lo sa ad (WS G ad g nf F f no O w (WW G ad nf A R)) g nf F f no O tf tv fw k 3 hnf hno hkn (by decide) ((hFv k hkn).c01)) ok_X5_frame q_338 rfl rfl ⟨Nat.le_of_ble_eq_true rfl, Nat.le_of_ble_eq_true rfl⟩ rfl hl.1 rfl (Nat.le_of_ble_eq_true rfl) ⟨(by show _ ≤ 600104; omega), (by show _ ≤ 7301314; omega)⟩ dL_law_790 (fun v790 R' H locs hp hO hS => ?_)
            obtain ⟨rfl, hR⟩ := hp
            rw [hR] at hO
            rw [show c_frame (F k) 3 = (F k 3) from rfl]
            refine lv_if_lt (tgt := 842) hx hb dL_law_793 (by decide) (fun c793 => absurd c793 (Int32.not_lt.mpr hB.2.2.1)) (fun c793 => ?_)
            refine lv_aload_n hx hb dL_law_796 rfl (lv_at hl 2 rfl) ?_
            refine lv_iload hx hb dL_law_797 (lv_at hl 9 rfl) ?_
            refine lv_iconst (v := 3) hx hb dL_law_799 (by decide) ?_
            refine m_vI (As := [.int (nI k), .int 3]) (rest := []) (n := 2) hF hC hO hS (k_X5_frame l G lo sa ad (WS G ad g nf F f no O w (WW G ad nf A R)) g nf F f no O tf tv fw k 3 hnf hno hkn (by decide) ((hFv k hkn).c01)) ok_X5_frame q_338 rfl rfl ⟨Nat.le_of_ble_eq_true rfl, Nat.le_of_ble_eq_true rfl⟩ rfl hl.1 rfl (Nat.le_of_ble_eq_true rfl) ⟨(by show _ ≤ 600104; omega), (by show _ ≤ 7301314; omega)⟩ dL_law_800 (fun v800 R' H locs hp hO hS => ?_)
            obtain ⟨rfl, hR⟩ := hp
            rw [hR] at hO
            rw [show c_frame (F k) 3 = (F k 3) from rfl]
            refine lv_bipush (v := 100) hx hb dL_law_803 (by decide) ?_
            refine lv_icmp_gt (tgt := 842) hx hb dL_law_805 (by decide) (fun c805 => absurd c805 (Int32.not_lt.mpr hB.2.2.2.1)) (fun c805 => ?_)
            refine lv_aload_n hx hb dL_law_808 rfl (lv_at hl 2 rfl) ?_
            refine lv_iload hx hb dL_law_809 (lv_at hl 9 rfl) ?_
            refine lv_bipush (v := 7) hx hb dL_law_811 (by decide) ?_
            refine m_vI (As := [.int (nI k), .int 7]) (rest := []) (n := 2) hF hC hO hS (k_X5_frame l G lo sa ad (WS G ad g nf F f no O w (WW G ad nf A R)) g nf F f no O tf tv fw k 7 hnf hno hkn (by decide) ((hFv k hkn).c01)) ok_X5_frame q_338 rfl rfl ⟨Nat.le_of_ble_eq_true rfl, Nat.le_of_ble_eq_true rfl⟩ rfl hl.1 rfl (Nat.le_of_ble_eq_true rfl) ⟨(by show _ ≤ 600104; omega), (by show _ ≤ 7301314; omega)⟩ dL_law_813 (fun v813 R' H locs hp hO hS => ?_)
            obtain ⟨rfl, hR⟩ := hp
            rw [hR] at hO
            rw [show c_frame (F k) 7 = (p_size (F k)) from rfl]
            refine lv_bipush (v := 9) hx hb dL_law_816 (by decide) ?_
            refine lv_icmp_gt (tgt := 842) hx hb dL_law_818 (by decide) (fun c818 => absurd c818 (Int32.not_lt.mpr hB.2.2.2.2.1)) (fun c818 => ?_)
            refine lv_aload_n hx hb dL_law_821 rfl (lv_at hl 2 rfl) ?_
            refine lv_iload hx hb dL_law_822 (lv_at hl 9 rfl) ?_
            refine lv_iconst (v := 2) hx hb dL_law_824 (by decide) ?_
            refine m_vI (As := [.int (nI k), .int 2]) (rest := []) (n := 2) hF hC hO hS (k_X5_frame l G lo sa ad (WS G ad g nf F f no O w (WW G ad nf A R)) g nf F f no O tf tv fw k 2 hnf hno hkn (by decide) ((hFv k hkn).c01)) ok_X5_frame q_338 rfl rfl ⟨Nat.le_of_ble_eq_true rfl, Nat.le_of_ble_eq_true rfl⟩ rfl hl.1 rfl (Nat.le_of_ble_eq_true rfl) ⟨(by show _ ≤ 600104; omega), (by show _ ≤ 7301314; omega)⟩ dL_law_825 (fun v825 R' H locs hp hO hS => ?_)
            obtain ⟨rfl, hR⟩ := hp
            rw [hR] at hO
            rw [show c_frame (F k) 2 = (F k 2) from rfl]
            rw [WC_WS] at hO
            have J844 : ∀  (H : Heap) (locs : List Loc) (ls : Array Slot), lv_has ls 21 [(15, .int (F k 5)), (0, .ref sa.1), (1, .ref (ad 0)), (2, .ref (ad 50)), (3, .int (nI nf)), (4, .int (nI t)), (5, .int x), (6, .ref (ad 60)), (12, .int bv), (14, .int (nI k))] → mO G lo ad (WS G ad g nf F f no O w (WC G ad g nf F f no O tf tv fw (WW G ad nf A R))) H → va_S (mA lo) s.heap H locs → W p l e room_1 s m #[Value.ref sa.1] below meth c H locs cells slots (lw_Z below #[Value.ref sa.1] s) (F0 m 844 ls []) := by
              intro  H locs ls  hl hO hS
              refine lv_iload hx hb dL_law_844 (lv_at hl 9 rfl) ?_
              refine lv_iload hx hb dL_law_846 (lv_at hl 8 rfl) ?_
              refine lv_icmp_ne (tgt := 854) hx hb dL_law_848 (by decide) (fun c848 => ?_) (fun c848 => ?_)
              · have hkb : k ≠ b := by
                  intro e9
                  rcases hbv with ⟨h9, h8⟩ | ⟨h9, h8⟩
                  · exact c848 (by rw [h9, e9])
                  · omega
                have hcl := rel_cool hRel hkn hkb
                refine lv_iload hx hb dL_law_854 (lv_at hl 0 rfl) ?_
                have J877 : ∀ (x877 : Int32) (H : Heap) (locs : List Loc) (ls : Array Slot), x877 = p_cooling (Fo k) → lv_has ls 21 [(15, .int (F k 5)), (0, .ref sa.1), (1, .ref (ad 0)), (2, .ref (ad 50)), (3, .int (nI nf)), (4, .int (nI t)), (5, .int x), (6, .ref (ad 60)), (12, .int bv), (14, .int (nI k))] → mO G lo ad (WS G ad g nf F f no O w (WC G ad g nf F f no O tf tv fw (WW G ad nf A R))) H → va_S (mA lo) s.heap H locs → W p l e room_1 s m #[Value.ref sa.1] below meth c H locs cells slots (lw_Z below #[Value.ref sa.1] s) (F0 m 877 ls [.int x877]) := by
                  intro x877 H locs ls hx877 hl hO hS
                  subst hx877
                  refine lv_istore (lv' := [(16, .int (p_cooling (Fo k))), (15, .int (F k 5)), (0, .ref sa.1), (1, .ref (ad 0)), (2, .ref (ad 50)), (3, .int (nI nf)), (4, .int (nI t)), (5, .int x), (6, .ref (ad 60)), (12, .int bv), (14, .int (nI k))]) hx hb dL_law_877 hl (by decide) rfl (fun ls hl => ?_)
                  refine lv_aload_n hx hb dL_law_879 rfl (lv_at hl 3 rfl) ?_
                  refine lv_iload hx hb dL_law_880 (lv_at hl 10 rfl) ?_
                  refine lv_iconst (v := 2) hx hb dL_law_882 (by decide) ?_
                  rw [← WC_WS] at hO
                  refine m_vI (As := [.int (nI k), .int 2]) (rest := []) (n := 2) hF hC hO hS (k_X5_frame l G lo sa ad (WS G ad g nf F f no O w (WW G ad nf A R)) g nf F f no O tf tv fw k 2 hnf hno hkn (by decide) ((hFv k hkn).c01)) ok_X5_frame q_338 rfl rfl ⟨Nat.le_of_ble_eq_true rfl, Nat.le_of_ble_eq_true rfl⟩ rfl hl.1 rfl (Nat.le_of_ble_eq_true rfl) ⟨(by show _ ≤ 600104; omega), (by show _ ≤ 7301314; omega)⟩ dL_law_883 (fun v883 R' H locs hp hO hS => ?_)
                  obtain ⟨rfl, hR⟩ := hp
                  rw [hR] at hO
                  rw [show c_frame (F k) 2 = (F k 2) from rfl]
                  refine lv_aload hx hb dL_law_886 (lv_at hl 8 rfl) ?_
                  refine lv_iload hx hb dL_law_888 (lv_at hl 10 rfl) ?_
                  rw [WC_WS] at hO
                  refine m_aldA hF hC hO (WS_at (by omega) (WC_at2 (by omega) WW_60)) (j := k) (nI_clamp (by omega)) (vp_in_nI hkn (by omega)) dL_law_890 (v := .ref (ad (240 + k))) (adF_in (by first | assumption | omega)) ?_
                  refine lv_iconst (v := 2) hx hb dL_law_891 (by decide) ?_
                  refine m_iald hF hC hO (WS_at (by omega) (WC_at2 (by omega) (WW_r (i := k) (by assumption)))) (j := 2) (by decide) (vp_in_nI (n := 2) (by decide) (by decide)) dL_law_892 ?_
                  rw [show ((A k) 2) = (Fo k 2) from (by rw [hA k hkn]; rfl)]
                  refine lv_icmp_ne (tgt := 956) hx hb dL_law_893 (by decide) (fun c893 => absurd (by rw [hcl]; rfl) c893) (fun c893 => ?_)
                  refine lv_aload_n hx hb dL_law_896 rfl (lv_at hl 3 rfl) ?_
                  refine lv_iload hx hb dL_law_897 (lv_at hl 10 rfl) ?_
                  refine lv_iconst (v := 3) hx hb dL_law_899 (by decide) ?_
                  rw [← WC_WS] at hO
                  refine m_vI (As := [.int (nI k), .int 3]) (rest := []) (n := 2) hF hC hO hS (k_X5_frame l G lo sa ad (WS G ad g nf F f no O w (WW G ad nf A R)) g nf F f no O tf tv fw k 3 hnf hno hkn (by decide) ((hFv k hkn).c01)) ok_X5_frame q_338 rfl rfl ⟨Nat.le_of_ble_eq_true rfl, Nat.le_of_ble_eq_true rfl⟩ rfl hl.1 rfl (Nat.le_of_ble_eq_true rfl) ⟨(by show _ ≤ 600104; omega), (by show _ ≤ 7301314; omega)⟩ dL_law_900 (fun v900 R' H locs hp hO hS => ?_)
                  obtain ⟨rfl, hR⟩ := hp
                  rw [hR] at hO
                  rw [show c_frame (F k) 3 = (F k 3) from rfl]
                  refine lv_iconst (v := 0) hx hb dL_law_903 (by decide) ?_
                  refine lv_aload hx hb dL_law_904 (lv_at hl 8 rfl) ?_
                  refine lv_iload hx hb dL_law_906 (lv_at hl 10 rfl) ?_
                  rw [WC_WS] at hO
                  refine m_aldA hF hC hO (WS_at (by omega) (WC_at2 (by omega) WW_60)) (j := k) (nI_clamp (by omega)) (vp_in_nI hkn (by omega)) dL_law_908 (v := .ref (ad (240 + k))) (adF_in (by first | assumption | omega)) ?_
                  refine lv_iconst (v := 3) hx hb dL_law_909 (by decide) ?_
                  refine m_iald hF hC hO (WS_at (by omega) (WC_at2 (by omega) (WW_r (i := k) (by assumption)))) (j := 3) (by decide) (vp_in_nI (n := 3) (by decide) (by decide)) dL_law_910 ?_
                  rw [show ((A k) 3) = (Fo k 3) from (by rw [hA k hkn]; rfl)]
                  refine lv_iload hx hb dL_law_911 (lv_at hl 0 rfl) ?_
                  refine lv_isub hx hb dL_law_913 ?_
                  refine m_max hF hl.1 q_689 q_277 q_14 q_278 (Nat.le_of_ble_eq_true rfl) (Nat.le_of_ble_eq_true rfl) ⟨(by show _ ≤ 600104; omega), (by show _ ≤ 7301314; omega)⟩ dL_law_914 ?_
                  refine lv_icmp_ne (tgt := 956) hx hb dL_law_917 (by decide) (fun c917 => absurd (by rw [hcl]; rfl) c917) (fun c917 => ?_)
                  refine lv_aload_n hx hb dL_law_920 rfl (lv_at hl 3 rfl) ?_
                  refine lv_iload hx hb dL_law_921 (lv_at hl 10 rfl) ?_
                  refine lv_iconst (v := 4) hx hb dL_law_923 (by decide) ?_
                  rw [← WC_WS] at hO
                  refine m_vI (As := [.int (nI k), .int 4]) (rest := []) (n := 2) hF hC hO hS (k_X5_frame l G lo sa ad (WS G ad g nf F f no O w (WW G ad nf A R)) g nf F f no O tf tv fw k 4 hnf hno hkn (by decide) ((hFv k hkn).c01)) ok_X5_frame q_338 rfl rfl ⟨Nat.le_of_ble_eq_true rfl, Nat.le_of_ble_eq_true rfl⟩ rfl hl.1 rfl (Nat.le_of_ble_eq_true rfl) ⟨(by show _ ≤ 600104; omega), (by show _ ≤ 7301314; omega)⟩ dL_law_924 (fun v924 R' H locs hp hO hS => ?_)
                  obtain ⟨rfl, hR⟩ := hp
                  rw [hR] at hO
                  rw [show c_frame (F k) 4 = (F k 4) from rfl]
                  refine lv_aload hx hb dL_law_927 (lv_at hl 8 rfl) ?_
                  refine lv_iload hx hb dL_law_929 (lv_at hl 10 rfl) ?_
                  rw [WC_WS] at hO
                  refine m_aldA hF hC hO (WS_at (by omega) (WC_at2 (by omega) WW_60)) (j := k) (nI_clamp (by omega)) (vp_in_nI hkn (by omega)) dL_law_931 (v := .ref (ad (240 + k))) (adF_in (by first | assumption | omega)) ?_
                  refine lv_iconst (v := 4) hx hb dL_law_932 (by decide) ?_
                  refine m_iald hF hC hO (WS_at (by omega) (WC_at2 (by omega) (WW_r (i := k) (by assumption)))) (j := 4) (by decide) (vp_in_nI (n := 4) (by decide) (by decide)) dL_law_933 ?_
                  rw [show ((A k) 4) = (Fo k 4) from (by rw [hA k hkn]; rfl)]
                  refine lv_icmp_ne (tgt := 956) hx hb dL_law_934 (by decide) (fun c934 => absurd (by rw [hcl]; rfl) c934) (fun c934 => ?_)
                  refine lv_aload_n hx hb dL_law_937 rfl (lv_at hl 3 rfl) ?_
                  refine lv_iload hx hb dL_law_938 (lv_at hl 10 rfl) ?_
                  refine lv_bipush (v := 6) hx hb dL_law_940 (by decide) ?_
                  rw [← WC_WS] at hO
                  refine m_vI (As := [.int (nI k), .int 6]) (rest := []) (n := 2) hF hC hO hS (k_X5_frame l G lo sa ad (WS G ad g nf F f no O w (WW G ad nf A R)) g nf F f no O tf tv fw k 6 hnf hno hkn (by decide) ((hFv k hkn).c01)) ok_X5_frame q_338 rfl rfl ⟨Nat.le_of_ble_eq_true rfl, Nat.le_of_ble_eq_true rfl⟩ rfl hl.1 rfl (Nat.le_of_ble_eq_true rfl) ⟨(by show _ ≤ 600104; omega), (by show _ ≤ 7301314; omega)⟩ dL_law_942 (fun v942 R' H locs hp hO hS => ?_)
                  obtain ⟨rfl, hR⟩ := hp
                  rw [hR] at hO
                  rw [show c_frame (F k) 6 = (F k 6) from rfl]
                  refine lv_aload hx hb dL_law_945 (lv_at hl 8 rfl) ?_
                  refine lv_iload hx hb dL_law_947 (lv_at hl 10 rfl) ?_
                  rw [WC_WS] at hO
                  refine m_aldA hF hC hO (WS_at (by omega) (WC_at2 (by omega) WW_60)) (j := k) (nI_clamp (by omega)) (vp_in_nI hkn (by omega)) dL_law_949 (v := .ref (ad (240 + k))) (adF_in (by first | assumption | omega)) ?_
                  refine lv_bipush (v := 6) hx hb dL_law_950 (by decide) ?_
                  refine m_iald hF hC hO (WS_at (by omega) (WC_at2 (by omega) (WW_r (i := k) (by assumption)))) (j := 6) (by decide) (vp_in_nI (n := 6) (by decide) (by decide)) dL_law_952 ?_
                  rw [show ((A k) 6) = (Fo k 6) from (by rw [hA k hkn]; rfl)]
                  refine lv_icmp_eq (tgt := 958) hx hb dL_law_953 (by decide) (fun c953 => ?_) (fun c953 => absurd ((by rw [hcl]; rfl)) c953)
                  refine lv_iinc (v := (nI (k + 1))) (lv' := [(14, .int (nI (k + 1))), (16, .int (p_cooling (Fo k))), (15, .int (F k 5)), (0, .ref sa.1), (1, .ref (ad 0)), (2, .ref (ad 50)), (3, .int (nI nf)), (4, .int (nI t)), (5, .int x), (6, .ref (ad 60)), (12, .int bv)]) hx hb dL_law_958 hl (k := 10) rfl (nI_inc k) (by decide) rfl (fun ls hl => ?_)
                  refine lv_goto (tgt := 684) hx hb dL_law_961 (by decide) ?_
                  exact ih684 (k + 1) _ _ _ (by omega) (by omega) (lv_sub hl [3, 4, 5, 6, 7, 8, 9, 10, 0] rfl) hO hS
                refine lv_if_ge (tgt := 863) hx hb dL_law_856 (by decide) (fun c856 => ?_) (fun c856 => ?_)
                · refine lv_iload hx hb dL_law_863 (lv_at hl 0 rfl) ?_
                  refine lv_bipush (v := 6) hx hb dL_law_865 (by decide) ?_
                  refine lv_icmp_ge (tgt := 875) hx hb dL_law_867 (by decide) (fun c867 => ?_) (fun c867 => ?_)
                  · refine lv_bipush (v := 6) hx hb dL_law_875 (by decide) ?_
                    exact J877 6 _ _ _ (by rw [cooling_p (hFo k hkn).2.1, ← hk5, if_neg (Int32.not_lt.mpr c856), if_neg (Int32.not_lt.mpr c867)]) (lv_sub hl [0, 1, 2, 3, 4, 5, 6, 7, 8, 9] rfl) hO hS
                  · refine lv_bipush (v := 12) hx hb dL_law_870 (by decide) ?_
                    refine lv_goto (tgt := 877) hx hb dL_law_872 (by decide) ?_
                    exact J877 12 _ _ _ (by rw [cooling_p (hFo k hkn).2.1, ← hk5, if_neg (Int32.not_lt.mpr c856), if_pos (Int32.not_le.mp c867)]) (lv_sub hl [0, 1, 2, 3, 4, 5, 6, 7, 8, 9] rfl) hO hS
                · refine lv_iconst (v := 3) hx hb dL_law_859 (by decide) ?_
                  refine lv_goto (tgt := 877) hx hb dL_law_860 (by decide) ?_
                  exact J877 3 _ _ _ (by rw [cooling_p (hFo k hkn).2.1, ← hk5, if_pos (Int32.not_le.mp c856)]) (lv_sub hl [0, 1, 2, 3, 4, 5, 6, 7, 8, 9] rfl) hO hS
              · refine lv_goto (tgt := 958) hx hb dL_law_851 (by decide) ?_
                refine lv_iinc (v := (nI (k + 1))) (lv' := [(14, .int (nI (k + 1))), (15, .int (F k 5)), (0, .ref sa.1), (1, .ref (ad 0)), (2, .ref (ad 50)), (3, .int (nI nf)), (4, .int (nI t)), (5, .int x), (6, .ref (ad 60)), (12, .int bv)]) hx hb dL_law_958 hl (k := 9) rfl (nI_inc k) (by decide) rfl (fun ls hl => ?_)
                refine lv_goto (tgt := 684) hx hb dL_law_961 (by decide) ?_
                exact ih684 (k + 1) _ _ _ (by omega) (by omega) (lv_sub hl [2, 3, 4, 5, 6, 7, 8, 9, 0] rfl) hO hS
            refine lv_if_ne (tgt := 844) hx hb dL_law_828 (by decide) (fun c828 => ?_) (fun c828 => ?_)
            · exact J844  _ _ _  (lv_sub hl [0, 1, 2, 3, 4, 5, 6, 7, 8, 9] rfl) hO hS
            · refine lv_aload_n hx hb dL_law_831 rfl (lv_at hl 2 rfl) ?_
              refine lv_iload hx hb dL_law_832 (lv_at hl 9 rfl) ?_
              refine lv_iconst (v := 4) hx hb dL_law_834 (by decide) ?_
              rw [← WC_WS] at hO
              refine m_vI (As := [.int (nI k), .int 4]) (rest := []) (n := 2) hF hC hO hS (k_X5_frame l G lo sa ad (WS G ad g nf F f no O w (WW G ad nf A R)) g nf F f no O tf tv fw k 4 hnf hno hkn (by decide) ((hFv k hkn).c01)) ok_X5_frame q_338 rfl rfl ⟨Nat.le_of_ble_eq_true rfl, Nat.le_of_ble_eq_true rfl⟩ rfl hl.1 rfl (Nat.le_of_ble_eq_true rfl) ⟨(by show _ ≤ 600104; omega), (by show _ ≤ 7301314; omega)⟩ dL_law_835 (fun v835 R' H locs hp hO hS => ?_)
              obtain ⟨rfl, hR⟩ := hp
              rw [hR] at hO
              rw [show c_frame (F k) 4 = (F k 4) from rfl]
              refine lv_iconst (v := 1) hx hb dL_law_838 (by decide) ?_
              refine lv_icmp_ne (tgt := 844) hx hb dL_law_839 (by decide) (fun c839 => ?_) (fun c839 => absurd c839 (hB.2.2.2.2.2 c828))
              rw [WC_WS] at hO
              exact J844  _ _ _  (lv_sub hl [0, 1, 2, 3, 4, 5, 6, 7, 8, 9] rfl) hO hS
          refine lv_if_lt (tgt := 763) hx hb dL_law_747 (by decide) (fun c747 => ?_) (fun c747 => ?_)
          · exact J763  _ _ _  (lv_sub hl [0, 1, 2, 3, 4, 5, 6, 7, 8, 9] rfl) hO hS
          · refine lv_aload_n hx hb dL_law_750 rfl (lv_at hl 2 rfl) ?_
            refine lv_iload hx hb dL_law_751 (lv_at hl 0 rfl) ?_
            rw [← WC_WS] at hO
            refine m_vI (As := [.int (F k 5)]) (rest := []) (n := 1) hF hC hO hS (k_X5_hook l G lo sa ad (WS G ad g nf F f no O w (WW G ad nf A R)) g nf F f no O tf tv fw (F k 5) hnf hno ((place_in (hFv k hkn) c747).1)) ok_X5_hook q_343 rfl rfl ⟨Nat.le_of_ble_eq_true rfl, Nat.le_of_ble_eq_true rfl⟩ rfl hl.1 rfl (Nat.le_of_ble_eq_true rfl) ⟨(by show _ ≤ 600104; omega), (by show _ ≤ 7301314; omega)⟩ dL_law_753 (fun v753 R' H locs hp hO hS => ?_)
            obtain ⟨rfl, hR⟩ := hp
            rw [hR] at hO
            rw [at_who hnf hI.2.2.2.2.2.2 hkn (place_in (hFv k hkn) c747).2]
            refine lv_iload hx hb dL_law_756 (lv_at hl 9 rfl) ?_
            refine lv_icmp_eq (tgt := 763) hx hb dL_law_758 (by decide) (fun c758 => ?_) (fun c758 => absurd (rfl) c758)
            rw [WC_WS] at hO
            exact J763  _ _ _  (lv_sub hl [0, 1, 2, 3, 4, 5, 6, 7, 8, 9] rfl) hO hS
    exact L684 _ 0 _ _ _ (Nat.lt_succ_self _) (by omega) (lv_sub hl [2, 3, 4, 5, 6, 7, 8, 12, 0] rfl) hO hS
  refine lv_icmp_le (tgt := 681) hx hb dL_law_666 (by decide) (fun c666 => ?_) (fun c666 => ?_)
  · exact J681  _ _ _  (lv_sub hl [0, 1, 2, 3, 4, 5, 6, 7, 8, 9, 10, 11] rfl) hO hS
  · refine lv_iload hx hb dL_law_669 (lv_at hl 9 rfl) ?_
    refine lv_iconst (v := 1) hx hb dL_law_671 (by decide) ?_
    refine lv_iadd hx hb dL_law_672 ?_
    refine lv_bipush (v := 40) hx hb dL_law_673 (by decide) ?_
    refine lv_irem hx hb dL_law_675 (by decide) ?_
    refine lv_if_eq (tgt := 681) hx hb dL_law_676 (by decide) (fun c676 => ?_) (fun c676 => absurd (hday c666) c676)
    exact J681  _ _ _  (lv_sub hl [0, 1, 2, 3, 4, 5, 6, 7, 8, 9, 10, 11] rfl) hO hS
