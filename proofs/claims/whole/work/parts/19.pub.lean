theorem ok_X6_melt : mOK RX6 yX6_melt cX6_melt 2 (some .int) 1 := ⟨q_711, q_712, q_6, q_713, by decide +kernel⟩
set_option maxHeartbeats 400000 in
set_option maxRecDepth 100000 in
theorem k_X6_melt (l : Launch) (G : mG) (lo : Nat) (sa ad : Nat → Nat) (R : mM) (th : Int32) (g : Nat → Int32) (nf : Nat) (F : Nat → Nat → Int32) (f : Nat → Int32) (no : Nat) (O : Nat → Nat → Int32) (it ch : Nat → Int32) (x : Int32) (hnf : nf ≤ 12) (hno : no ≤ 20) (hg0 : ∃ a, a ≤ 20000 ∧ g 0 = nI a) : mI l yX6_melt cX6_melt 2 .int 1 22 G lo sa ad (WM G ad th g nf F f no O it ch R) [.ref (ad 50), .int x] (fun v R' => (K_melt g x = 0 ∧ v = G_melt g x 1 ∧ ∃ (it' ch' : Nat → Int32), R' = (WM G ad 0 (G_melt g x) nf F f no O it' ch' R)) ∨ (¬ K_melt g x = 0 ∧ ∃ (it' ch' : Nat → Int32), R' = (WM G ad (K_melt g x) g nf F f no O it' ch' R))) := by
  refine mI_of (by decide) (Nat.le_of_ble_eq_true rfl) ?_
  intro p e s m args below meth c hF hr hlk hC ls hl hO hS Q hQ
  have hx := hF.1
  have hb := hF.2.1
  have hl : lv_has ls 2 [(0, .ref (ad 50)), (1, .int x)] := hl
  refine lv_aload_n hx hb dX6_melt_0 rfl (lv_at hl 0 rfl) ?_
  refine lv_iconst (v := 0) hx hb dX6_melt_1 (by decide) ?_
  refine m_put (ty := .int) tyX6 tyX6_ok nmX6 inX6 hF hC hO hS rfl rfl 0 (by decide) q_662 rfl (by decide +kernel) rfl rfl (fs' := [.int 0, .int (g 0), .int (g 1), .int (g 2), .int (nI nf), .ref (ad 51), .ref (ad 52), .int (nI no), .ref (ad 53), .int (g 3), .int (g 4), .int (g 5), .ref (ad 54), .ref (ad 55)]) (Nat.le_of_ble_eq_true rfl) rfl dX6_melt_2 (fun H locs hO hS => ?_)
  have hO : mO G lo ad (mU (WM G ad th g nf F f no O it ch R) 50 (mxO ad 0 g nf no)) H := hO
  rw [WM_w0] at hO
  refine lv_iload_n hx hb dX6_melt_5 rfl (lv_at hl 1 rfl) ?_
  refine lv_iconst (v := 1) hx hb dX6_melt_6 (by decide) ?_
  refine lv_sipush (v := 5000) hx hb dX6_melt_7 (by decide) ?_
  refine m_sI (As := [.int x, .int 1, .int 5000]) (rest := []) (n := 3) hF hC hO hS (k_X6_isIn l G lo sa ad _ x 1 5000 ) ok_X6_isIn q_714 ⟨Nat.le_of_ble_eq_true rfl, Nat.le_of_ble_eq_true rfl⟩ rfl hl.1 rfl (Nat.le_of_ble_eq_true rfl) ⟨Nat.le_of_ble_eq_true rfl, Nat.le_of_ble_eq_true rfl⟩ dX6_melt_10 (fun v10 R' H locs hp hO hS => ?_)
  obtain ⟨⟨rfl, b10⟩ | ⟨rfl, b10⟩, hR⟩ := hp
  · rw [hR] at hO
    refine lv_if_ne (tgt := 22) hx hb dX6_melt_13 (by decide) (fun c13 => ?_) (fun c13 => absurd c13 (by decide))
    refine lv_aload_n hx hb dX6_melt_22 rfl (lv_at hl 0 rfl) ?_
    refine m_get inX6 hF hC hO rfl rfl 1 (by decide) q_663 (v := .int (g 0)) rfl dX6_melt_23 ?_
    refine lv_iload_n hx hb dX6_melt_26 rfl (lv_at hl 1 rfl) ?_
    refine lv_iadd hx hb dX6_melt_27 ?_
    refine lv_sipush (v := 20000) hx hb dX6_melt_28 (by decide) ?_
    refine lv_icmp_le (tgt := 40) hx hb dX6_melt_31 (by decide) (fun c31 => ?_) (fun c31 => ?_)
    · refine lv_aload_n hx hb dX6_melt_40 rfl (lv_at hl 0 rfl) ?_
      refine lv_aload_n hx hb dX6_melt_41 rfl (lv_at hl 0 rfl) ?_
      refine m_get inX6 hF hC hO rfl rfl 2 (by decide) q_664 (v := .int (g 1)) rfl dX6_melt_42 ?_
      refine lv_aload_n hx hb dX6_melt_45 rfl (lv_at hl 0 rfl) ?_
      refine m_get inX6 hF hC hO rfl rfl 1 (by decide) q_663 (v := .int (g 0)) rfl dX6_melt_46 ?_
      refine lv_imul hx hb dX6_melt_49 ?_
      refine lv_bipush (v := 20) hx hb dX6_melt_50 (by decide) ?_
      refine lv_iload_n hx hb dX6_melt_52 rfl (lv_at hl 1 rfl) ?_
      refine lv_imul hx hb dX6_melt_53 ?_
      refine lv_iadd hx hb dX6_melt_54 ?_
      refine lv_aload_n hx hb dX6_melt_55 rfl (lv_at hl 0 rfl) ?_
      refine m_get inX6 hF hC hO rfl rfl 1 (by decide) q_663 (v := .int (g 0)) rfl dX6_melt_56 ?_
      refine lv_iload_n hx hb dX6_melt_59 rfl (lv_at hl 1 rfl) ?_
      refine lv_iadd hx hb dX6_melt_60 ?_
      refine lv_idiv hx hb dX6_melt_61 (fun h => by obtain ⟨a, ha, ea⟩ := hg0; obtain ⟨b, hb1, hb2, eb⟩ := in_of (a := 1) (b := 5000) (by decide) (by decide) b10; rw [ea, eb, nI_add] at h; exact nI_ne0 (by omega) (by omega) h) ?_
      refine m_put (ty := .int) tyX6 tyX6_ok nmX6 inX6 hF hC hO hS rfl rfl 2 (by decide) q_664 rfl (by decide +kernel) rfl rfl (fs' := [.int 0, .int (g 0), .int ((((g 1) * (g 0)) + (20 * x)) / ((g 0) + x)), .int (g 2), .int (nI nf), .ref (ad 51), .ref (ad 52), .int (nI no), .ref (ad 53), .int (g 3), .int (g 4), .int (g 5), .ref (ad 54), .ref (ad 55)]) (Nat.le_of_ble_eq_true rfl) rfl dX6_melt_62 (fun H locs hO hS => ?_)
      have hO : mO G lo ad (mU (WM G ad 0 g nf F f no O it ch R) 50 (mxO ad 0 (upd g 1 ((((g 1) * (g 0)) + (20 * x)) / ((g 0) + x))) nf no)) H := hO
      rw [WM_w0] at hO
      refine lv_aload_n hx hb dX6_melt_65 rfl (lv_at hl 0 rfl) ?_
      refine lv_dup hx hb dX6_melt_66 rfl ?_
      refine m_get inX6 hF hC hO rfl rfl 1 (by decide) q_663 (v := .int (g 0)) rfl dX6_melt_67 ?_
      refine lv_iload_n hx hb dX6_melt_70 rfl (lv_at hl 1 rfl) ?_
      refine lv_iadd hx hb dX6_melt_71 ?_
      refine m_put (ty := .int) tyX6 tyX6_ok nmX6 inX6 hF hC hO hS rfl rfl 1 (by decide) q_663 rfl (by decide +kernel) rfl rfl (fs' := [.int 0, .int ((g 0) + x), .int ((((g 1) * (g 0)) + (20 * x)) / ((g 0) + x)), .int (g 2), .int (nI nf), .ref (ad 51), .ref (ad 52), .int (nI no), .ref (ad 53), .int (g 3), .int (g 4), .int (g 5), .ref (ad 54), .ref (ad 55)]) (Nat.le_of_ble_eq_true rfl) rfl dX6_melt_72 (fun H locs hO hS => ?_)
      have hO : mO G lo ad (mU (WM G ad 0 (upd g 1 ((((g 1) * (g 0)) + (20 * x)) / ((g 0) + x))) nf F f no O it ch R) 50 (mxO ad 0 (upd (upd g 1 ((((g 1) * (g 0)) + (20 * x)) / ((g 0) + x))) 0 ((g 0) + x)) nf no)) H := hO
      rw [WM_w0] at hO
      refine lv_aload_n hx hb dX6_melt_75 rfl (lv_at hl 0 rfl) ?_
      refine m_get inX6 hF hC hO rfl rfl 2 (by decide) q_664 (v := .int ((((g 1) * (g 0)) + (20 * x)) / ((g 0) + x))) rfl dX6_melt_76 ?_
      refine m_iret hF hr hlk hQ rfl hO hS dX6_melt_79 ?_
      have hK : K_melt g x = 0 := by rw [K_melt, if_pos b10, if_pos c31]
      exact Or.inl ⟨hK, (by first | (simp only [G_melt]; done) | rfl), it, ch, (by first | (simp only [G_melt]; done) | rfl)⟩
    · refine lv_aload_n hx hb dX6_melt_34 rfl (lv_at hl 0 rfl) ?_
      refine lv_iconst (v := 2) hx hb dX6_melt_35 (by decide) ?_
      refine m_vI (As := [.int 2]) (rest := []) (n := 1) hF hC hO hS (k_X6_fail l G lo sa ad R 0 g nf F f no O it ch 2 hnf hno) ok_X6_fail q_717 rfl rfl ⟨Nat.le_of_ble_eq_true rfl, Nat.le_of_ble_eq_true rfl⟩ rfl hl.1 rfl (Nat.le_of_ble_eq_true rfl) ⟨Nat.le_of_ble_eq_true rfl, Nat.le_of_ble_eq_true rfl⟩ dX6_melt_36 (fun v36 R' H locs hp hO hS => ?_)
      obtain ⟨rfl, hR⟩ := hp
      rw [hR] at hO
      refine m_iret hF hr hlk hQ rfl hO hS dX6_melt_39 ?_
      have hK : K_melt g x = 2 := by rw [K_melt, if_pos b10, if_neg c31]
      exact Or.inr ⟨by rw [hK]; decide, it, ch, by rw [hK]⟩
  · rw [hR] at hO
    refine lv_if_ne (tgt := 22) hx hb dX6_melt_13 (by decide) (fun c13 => absurd (by decide) c13) (fun c13 => ?_)
    refine lv_aload_n hx hb dX6_melt_16 rfl (lv_at hl 0 rfl) ?_
    refine lv_iconst (v := 1) hx hb dX6_melt_17 (by decide) ?_
    refine m_vI (As := [.int 1]) (rest := []) (n := 1) hF hC hO hS (k_X6_fail l G lo sa ad R 0 g nf F f no O it ch 1 hnf hno) ok_X6_fail q_717 rfl rfl ⟨Nat.le_of_ble_eq_true rfl, Nat.le_of_ble_eq_true rfl⟩ rfl hl.1 rfl (Nat.le_of_ble_eq_true rfl) ⟨Nat.le_of_ble_eq_true rfl, Nat.le_of_ble_eq_true rfl⟩ dX6_melt_18 (fun v18 R' H locs hp hO hS => ?_)
    obtain ⟨rfl, hR⟩ := hp
    rw [hR] at hO
    refine m_iret hF hr hlk hQ rfl hO hS dX6_melt_21 ?_
    have hK : K_melt g x = 1 := by rw [K_melt, if_neg b10]
    exact Or.inr ⟨by rw [hK]; decide, it, ch, by rw [hK]⟩
theorem ok_X6_setFire : mOK RX6 yX6_setFire cX6_setFire 3 (some .int) 1 := ⟨q_722, q_723, q_6, q_724, by decide +kernel⟩
set_option maxHeartbeats 400000 in
set_option maxRecDepth 100000 in
theorem k_X6_setFire (l : Launch) (G : mG) (lo : Nat) (sa ad : Nat → Nat) (R : mM) (th : Int32) (g : Nat → Int32) (nf : Nat) (F : Nat → Nat → Int32) (f : Nat → Int32) (no : Nat) (O : Nat → Nat → Int32) (it ch : Nat → Int32) (x : Int32) (hnf : nf ≤ 12) (hno : no ≤ 20) : mI l yX6_setFire cX6_setFire 3 .int 1 22 G lo sa ad (WM G ad th g nf F f no O it ch R) [.ref (ad 50), .int x] (fun v R' => (K_setFire x = 0 ∧ v = g 2 ∧ ∃ (it' ch' : Nat → Int32), R' = (WM G ad 0 (G_setFire g x) nf F f no O it' ch' R)) ∨ (¬ K_setFire x = 0 ∧ ∃ (it' ch' : Nat → Int32), R' = (WM G ad (K_setFire x) g nf F f no O it' ch' R))) := by
  refine mI_of (by decide) (Nat.le_of_ble_eq_true rfl) ?_
  intro p e s m args below meth c hF hr hlk hC ls hl hO hS Q hQ
  have hx := hF.1
  have hb := hF.2.1
  have hl : lv_has ls 3 [(0, .ref (ad 50)), (1, .int x)] := hl
  refine lv_aload_n hx hb dX6_setFire_0 rfl (lv_at hl 0 rfl) ?_
  refine lv_iconst (v := 0) hx hb dX6_setFire_1 (by decide) ?_
  refine m_put (ty := .int) tyX6 tyX6_ok nmX6 inX6 hF hC hO hS rfl rfl 0 (by decide) q_662 rfl (by decide +kernel) rfl rfl (fs' := [.int 0, .int (g 0), .int (g 1), .int (g 2), .int (nI nf), .ref (ad 51), .ref (ad 52), .int (nI no), .ref (ad 53), .int (g 3), .int (g 4), .int (g 5), .ref (ad 54), .ref (ad 55)]) (Nat.le_of_ble_eq_true rfl) rfl dX6_setFire_2 (fun H locs hO hS => ?_)
  have hO : mO G lo ad (mU (WM G ad th g nf F f no O it ch R) 50 (mxO ad 0 g nf no)) H := hO
  rw [WM_w0] at hO
  refine lv_iload_n hx hb dX6_setFire_5 rfl (lv_at hl 1 rfl) ?_
  refine lv_iconst (v := 0) hx hb dX6_setFire_6 (by decide) ?_
  refine lv_iconst (v := 5) hx hb dX6_setFire_7 (by decide) ?_
  refine m_sI (As := [.int x, .int 0, .int 5]) (rest := []) (n := 3) hF hC hO hS (k_X6_isIn l G lo sa ad _ x 0 5 ) ok_X6_isIn q_714 ⟨Nat.le_of_ble_eq_true rfl, Nat.le_of_ble_eq_true rfl⟩ rfl hl.1 rfl (Nat.le_of_ble_eq_true rfl) ⟨Nat.le_of_ble_eq_true rfl, Nat.le_of_ble_eq_true rfl⟩ dX6_setFire_8 (fun v8 R' H locs hp hO hS => ?_)
  obtain ⟨⟨rfl, b8⟩ | ⟨rfl, b8⟩, hR⟩ := hp
  · rw [hR] at hO
    refine lv_if_ne (tgt := 20) hx hb dX6_setFire_11 (by decide) (fun c11 => ?_) (fun c11 => absurd c11 (by decide))
    refine lv_aload_n hx hb dX6_setFire_20 rfl (lv_at hl 0 rfl) ?_
    refine m_get inX6 hF hC hO rfl rfl 3 (by decide) q_665 (v := .int (g 2)) rfl dX6_setFire_21 ?_
    refine lv_istore_n (lv' := [(2, .int (g 2)), (0, .ref (ad 50)), (1, .int x)]) hx hb dX6_setFire_24 rfl hl (by decide) rfl (fun ls hl => ?_)
    refine lv_aload_n hx hb dX6_setFire_25 rfl (lv_at hl 1 rfl) ?_
    refine lv_iload_n hx hb dX6_setFire_26 rfl (lv_at hl 2 rfl) ?_
    refine m_put (ty := .int) tyX6 tyX6_ok nmX6 inX6 hF hC hO hS rfl rfl 3 (by decide) q_665 rfl (by decide +kernel) rfl rfl (fs' := [.int 0, .int (g 0), .int (g 1), .int x, .int (nI nf), .ref (ad 51), .ref (ad 52), .int (nI no), .ref (ad 53), .int (g 3), .int (g 4), .int (g 5), .ref (ad 54), .ref (ad 55)]) (Nat.le_of_ble_eq_true rfl) rfl dX6_setFire_27 (fun H locs hO hS => ?_)
    have hO : mO G lo ad (mU (WM G ad 0 g nf F f no O it ch R) 50 (mxO ad 0 (upd g 2 x) nf no)) H := hO
    rw [WM_w0] at hO
    refine lv_iload_n hx hb dX6_setFire_30 rfl (lv_at hl 0 rfl) ?_
    refine m_iret hF hr hlk hQ rfl hO hS dX6_setFire_31 ?_
    have hK : K_setFire x = 0 := by rw [K_setFire, if_pos b8]
    exact Or.inl ⟨hK, (by first | (simp only [G_setFire]; done) | rfl), it, ch, (by first | (simp only [G_setFire]; done) | rfl)⟩
  · rw [hR] at hO
    refine lv_if_ne (tgt := 20) hx hb dX6_setFire_11 (by decide) (fun c11 => absurd (by decide) c11) (fun c11 => ?_)
    refine lv_aload_n hx hb dX6_setFire_14 rfl (lv_at hl 0 rfl) ?_
    refine lv_iconst (v := 1) hx hb dX6_setFire_15 (by decide) ?_
    refine m_vI (As := [.int 1]) (rest := []) (n := 1) hF hC hO hS (k_X6_fail l G lo sa ad R 0 g nf F f no O it ch 1 hnf hno) ok_X6_fail q_717 rfl rfl ⟨Nat.le_of_ble_eq_true rfl, Nat.le_of_ble_eq_true rfl⟩ rfl hl.1 rfl (Nat.le_of_ble_eq_true rfl) ⟨Nat.le_of_ble_eq_true rfl, Nat.le_of_ble_eq_true rfl⟩ dX6_setFire_16 (fun v16 R' H locs hp hO hS => ?_)
    obtain ⟨rfl, hR⟩ := hp
    rw [hR] at hO
    refine m_iret hF hr hlk hQ rfl hO hS dX6_setFire_19 ?_
    have hK : K_setFire x = 1 := by rw [K_setFire, if_neg b8]
    exact Or.inr ⟨by rw [hK]; decide, it, ch, by rw [hK]⟩
theorem ok_X6_vat : mOK RX6 yX6_vat cX6_vat 2 (some .int) 1 := ⟨q_726, q_727, q_6, q_728, by decide +kernel⟩
set_option maxHeartbeats 400000 in
set_option maxRecDepth 100000 in
theorem k_X6_vat (l : Launch) (G : mG) (lo : Nat) (sa ad : Nat → Nat) (R : mM) (th : Int32) (g : Nat → Int32) (nf : Nat) (F : Nat → Nat → Int32) (f : Nat → Int32) (no : Nat) (O : Nat → Nat → Int32) (it ch : Nat → Int32) (x : Int32) (hnf : nf ≤ 12) (hno : no ≤ 20) : mI l yX6_vat cX6_vat 2 .int 1 22 G lo sa ad (WM G ad th g nf F f no O it ch R) [.ref (ad 50), .int x] (fun v R' => (K_vat x = 0 ∧ v = m_vat g x ∧ ∃ (it' ch' : Nat → Int32), R' = (WM G ad 0 g nf F f no O it' ch' R)) ∨ (¬ K_vat x = 0 ∧ ∃ (it' ch' : Nat → Int32), R' = (WM G ad (K_vat x) g nf F f no O it' ch' R))) := by
  refine mI_of (by decide) (Nat.le_of_ble_eq_true rfl) ?_
  intro p e s m args below meth c hF hr hlk hC ls hl hO hS Q hQ
  have hx := hF.1
  have hb := hF.2.1
  have hl : lv_has ls 2 [(0, .ref (ad 50)), (1, .int x)] := hl
  refine lv_aload_n hx hb dX6_vat_0 rfl (lv_at hl 0 rfl) ?_
  refine lv_iconst (v := 0) hx hb dX6_vat_1 (by decide) ?_
  refine m_put (ty := .int) tyX6 tyX6_ok nmX6 inX6 hF hC hO hS rfl rfl 0 (by decide) q_662 rfl (by decide +kernel) rfl rfl (fs' := [.int 0, .int (g 0), .int (g 1), .int (g 2), .int (nI nf), .ref (ad 51), .ref (ad 52), .int (nI no), .ref (ad 53), .int (g 3), .int (g 4), .int (g 5), .ref (ad 54), .ref (ad 55)]) (Nat.le_of_ble_eq_true rfl) rfl dX6_vat_2 (fun H locs hO hS => ?_)
  have hO : mO G lo ad (mU (WM G ad th g nf F f no O it ch R) 50 (mxO ad 0 g nf no)) H := hO
  rw [WM_w0] at hO
  refine lv_iload_n hx hb dX6_vat_5 rfl (lv_at hl 1 rfl) ?_
  refine lv_iconst (v := 0) hx hb dX6_vat_6 (by decide) ?_
  refine lv_iconst (v := 3) hx hb dX6_vat_7 (by decide) ?_
  refine m_sI (As := [.int x, .int 0, .int 3]) (rest := []) (n := 3) hF hC hO hS (k_X6_isIn l G lo sa ad _ x 0 3 ) ok_X6_isIn q_714 ⟨Nat.le_of_ble_eq_true rfl, Nat.le_of_ble_eq_true rfl⟩ rfl hl.1 rfl (Nat.le_of_ble_eq_true rfl) ⟨Nat.le_of_ble_eq_true rfl, Nat.le_of_ble_eq_true rfl⟩ dX6_vat_8 (fun v8 R' H locs hp hO hS => ?_)
  obtain ⟨⟨rfl, b8⟩ | ⟨rfl, b8⟩, hR⟩ := hp
  · rw [hR] at hO
    refine lv_if_eq (tgt := 22) hx hb dX6_vat_11 (by decide) (fun c11 => absurd c11 (by decide)) (fun c11 => ?_)
    refine lv_aload_n hx hb dX6_vat_14 rfl (lv_at hl 0 rfl) ?_
    refine lv_iload_n hx hb dX6_vat_15 rfl (lv_at hl 1 rfl) ?_
    refine m_vI (As := [.int x]) (rest := []) (n := 1) hF hC hO hS (k_X6_vatTold l G lo sa ad R 0 g nf F f no O it ch x hnf hno) ok_X6_vatTold q_729 rfl rfl ⟨Nat.le_of_ble_eq_true rfl, Nat.le_of_ble_eq_true rfl⟩ rfl hl.1 rfl (Nat.le_of_ble_eq_true rfl) ⟨Nat.le_of_ble_eq_true rfl, Nat.le_of_ble_eq_true rfl⟩ dX6_vat_16 (fun v16 R' H locs hp hO hS => ?_)
    obtain ⟨rfl, hR⟩ := hp
    rw [hR] at hO
    refine lv_goto (tgt := 27) hx hb dX6_vat_19 (by decide) ?_
    refine m_iret hF hr hlk hQ rfl hO hS dX6_vat_27 ?_
    have hK : K_vat x = 0 := by rw [K_vat, if_pos b8]
    exact Or.inl ⟨hK, (by first | (simp only [hcl]; done) | rfl), it, ch, (by first | (simp only [hcl]; done) | rfl)⟩
  · rw [hR] at hO
    refine lv_if_eq (tgt := 22) hx hb dX6_vat_11 (by decide) (fun c11 => ?_) (fun c11 => absurd (by decide) c11)
    refine lv_aload_n hx hb dX6_vat_22 rfl (lv_at hl 0 rfl) ?_
    refine lv_iconst (v := 1) hx hb dX6_vat_23 (by decide) ?_
    refine m_vI (As := [.int 1]) (rest := []) (n := 1) hF hC hO hS (k_X6_fail l G lo sa ad R 0 g nf F f no O it ch 1 hnf hno) ok_X6_fail q_717 rfl rfl ⟨Nat.le_of_ble_eq_true rfl, Nat.le_of_ble_eq_true rfl⟩ rfl hl.1 rfl (Nat.le_of_ble_eq_true rfl) ⟨Nat.le_of_ble_eq_true rfl, Nat.le_of_ble_eq_true rfl⟩ dX6_vat_24 (fun v24 R' H locs hp hO hS => ?_)
    obtain ⟨rfl, hR⟩ := hp
    rw [hR] at hO
    refine m_iret hF hr hlk hQ rfl hO hS dX6_vat_27 ?_
    have hK : K_vat x = 1 := by rw [K_vat, if_neg b8]
    exact Or.inr ⟨by rw [hK]; decide, it, ch, by rw [hK]⟩
theorem ok_X6_hang : mOK RX6 yX6_hang cX6_hang 4 (some .int) 2 := ⟨q_741, q_742, q_6, q_743, by decide +kernel⟩
set_option maxHeartbeats 400000 in
set_option maxRecDepth 100000 in
theorem k_X6_hang (l : Launch) (G : mG) (lo : Nat) (sa ad : Nat → Nat) (R : mM) (th : Int32) (g : Nat → Int32) (nf : Nat) (F : Nat → Nat → Int32) (f : Nat → Int32) (no : Nat) (O : Nat → Nat → Int32) (it ch : Nat → Int32) (x h : Int32) (hnf : nf ≤ 12) (hno : no ≤ 20) : mI l yX6_hang cX6_hang 4 .int 2 44 G lo sa ad (WM G ad th g nf F f no O it ch R) [.ref (ad 50), .int x, .int h] (fun v R' => (K_hang nf F x h = 0 ∧ v = F (nn x) 5 ∧ ∃ (it' ch' : Nat → Int32), R' = (WM G ad 0 g nf (F_place F (nn x) h) f no O it' ch' R)) ∨ (¬ K_hang nf F x h = 0 ∧ ∃ (it' ch' : Nat → Int32), R' = (WM G ad (K_hang nf F x h) g nf F f no O it' ch' R))) := by
  refine mI_of (by decide) (Nat.le_of_ble_eq_true rfl) ?_
  intro p e s m args below meth c hF hr hlk hC ls hl hO hS Q hQ
  have hx := hF.1
  have hb := hF.2.1
  have hl : lv_has ls 4 [(0, .ref (ad 50)), (1, .int x), (2, .int h)] := hl
  refine lv_aload_n hx hb dX6_hang_0 rfl (lv_at hl 0 rfl) ?_
  refine lv_iconst (v := 0) hx hb dX6_hang_1 (by decide) ?_
  refine m_put (ty := .int) tyX6 tyX6_ok nmX6 inX6 hF hC hO hS rfl rfl 0 (by decide) q_662 rfl (by decide +kernel) rfl rfl (fs' := [.int 0, .int (g 0), .int (g 1), .int (g 2), .int (nI nf), .ref (ad 51), .ref (ad 52), .int (nI no), .ref (ad 53), .int (g 3), .int (g 4), .int (g 5), .ref (ad 54), .ref (ad 55)]) (Nat.le_of_ble_eq_true rfl) rfl dX6_hang_2 (fun H locs hO hS => ?_)
  have hO : mO G lo ad (mU (WM G ad th g nf F f no O it ch R) 50 (mxO ad 0 g nf no)) H := hO
  rw [WM_w0] at hO
  refine lv_aload_n hx hb dX6_hang_5 rfl (lv_at hl 0 rfl) ?_
  refine lv_iload_n hx hb dX6_hang_6 rfl (lv_at hl 1 rfl) ?_
  refine m_vI (As := [.int x]) (rest := []) (n := 1) hF hC hO hS (k_X6_isFrame l G lo sa ad R 0 g nf F f no O it ch x hnf hno) ok_X6_isFrame q_744 rfl rfl ⟨Nat.le_of_ble_eq_true rfl, Nat.le_of_ble_eq_true rfl⟩ rfl hl.1 rfl (Nat.le_of_ble_eq_true rfl) ⟨Nat.le_of_ble_eq_true rfl, Nat.le_of_ble_eq_true rfl⟩ dX6_hang_7 (fun v7 R' H locs hp hO hS => ?_)
  obtain ⟨⟨rfl, b7⟩ | ⟨rfl, b7⟩, hR⟩ := hp
  · rw [hR] at hO
    refine lv_if_ne (tgt := 19) hx hb dX6_hang_10 (by decide) (fun c10 => ?_) (fun c10 => absurd c10 (by decide))
    refine lv_iload_n hx hb dX6_hang_19 rfl (lv_at hl 2 rfl) ?_
    refine lv_iconst (v := 0) hx hb dX6_hang_20 (by decide) ?_
    refine lv_bipush (v := 11) hx hb dX6_hang_21 (by decide) ?_
    refine m_sI (As := [.int h, .int 0, .int 11]) (rest := []) (n := 3) hF hC hO hS (k_X6_isIn l G lo sa ad _ h 0 11 ) ok_X6_isIn q_714 ⟨Nat.le_of_ble_eq_true rfl, Nat.le_of_ble_eq_true rfl⟩ rfl hl.1 rfl (Nat.le_of_ble_eq_true rfl) ⟨Nat.le_of_ble_eq_true rfl, Nat.le_of_ble_eq_true rfl⟩ dX6_hang_23 (fun v23 R' H locs hp hO hS => ?_)
    obtain ⟨⟨rfl, b23⟩ | ⟨rfl, b23⟩, hR⟩ := hp
    · rw [hR] at hO
      refine lv_if_ne (tgt := 35) hx hb dX6_hang_26 (by decide) (fun c26 => ?_) (fun c26 => absurd c26 (by decide))
      refine lv_aload_n hx hb dX6_hang_35 rfl (lv_at hl 0 rfl) ?_
      refine lv_iload_n hx hb dX6_hang_36 rfl (lv_at hl 2 rfl) ?_
      refine m_vI (As := [.int h]) (rest := []) (n := 1) hF hC hO hS (k_X6_at l G lo sa ad R 0 g nf F f no O it ch h hnf hno) ok_X6_at q_748 rfl rfl ⟨Nat.le_of_ble_eq_true rfl, Nat.le_of_ble_eq_true rfl⟩ rfl hl.1 rfl (Nat.le_of_ble_eq_true rfl) ⟨Nat.le_of_ble_eq_true rfl, Nat.le_of_ble_eq_true rfl⟩ dX6_hang_37 (fun v37 R' H locs hp hO hS => ?_)
      obtain ⟨rfl, hR⟩ := hp
      rw [hR] at hO
      refine lv_iconst (v := -1) hx hb dX6_hang_40 (by decide) ?_
      refine lv_icmp_eq (tgt := 59) hx hb dX6_hang_41 (by decide) (fun c41 => ?_) (fun c41 => ?_)
      · obtain ⟨i, hi, rfl⟩ := fr_of (by omega) b7
        have hcl : nn (nI i) = i := nn_nI (by omega)
        refine lv_aload_n hx hb dX6_hang_59 rfl (lv_at hl 0 rfl) ?_
        refine lv_iload_n hx hb dX6_hang_60 rfl (lv_at hl 1 rfl) ?_
        refine lv_iconst (v := 5) hx hb dX6_hang_61 (by decide) ?_
        refine m_vI (As := [.int (nI i), .int 5]) (rest := []) (n := 2) hF hC hO hS (k_X6_fr l G lo sa ad R 0 g nf F f no O it ch i 5 hnf hno (by omega) (by omega)) ok_X6_fr q_752 rfl rfl ⟨Nat.le_of_ble_eq_true rfl, Nat.le_of_ble_eq_true rfl⟩ rfl hl.1 rfl (Nat.le_of_ble_eq_true rfl) ⟨Nat.le_of_ble_eq_true rfl, Nat.le_of_ble_eq_true rfl⟩ dX6_hang_62 (fun v62 R' H locs hp hO hS => ?_)
        obtain ⟨rfl, hR⟩ := hp
        rw [hR] at hO
        refine lv_istore_n (lv' := [(3, .int (F i 5)), (0, .ref (ad 50)), (1, .int (nI i)), (2, .int h)]) hx hb dX6_hang_65 rfl hl (by decide) rfl (fun ls hl => ?_)
        refine lv_aload_n hx hb dX6_hang_66 rfl (lv_at hl 1 rfl) ?_
        refine lv_iload_n hx hb dX6_hang_67 rfl (lv_at hl 2 rfl) ?_
        refine lv_iconst (v := 5) hx hb dX6_hang_68 (by decide) ?_
        refine lv_iload_n hx hb dX6_hang_69 rfl (lv_at hl 3 rfl) ?_
        refine m_vV (As := [.int (nI i), .int 5, .int h]) (rest := []) (n := 3) hF hC hO hS (k_X6_set l G lo sa ad R 0 g nf F f no O it ch i 5 h hnf hno (by omega) (by omega)) ok_X6_set q_756 rfl rfl ⟨Nat.le_of_ble_eq_true rfl, Nat.le_of_ble_eq_true rfl⟩ rfl hl.1 rfl (Nat.le_of_ble_eq_true rfl) ⟨Nat.le_of_ble_eq_true rfl, Nat.le_of_ble_eq_true rfl⟩ dX6_hang_70 (fun R' H locs hp hO hS => ?_)
        have hR := hp
        rw [hR] at hO
        refine lv_iload_n hx hb dX6_hang_73 rfl (lv_at hl 0 rfl) ?_
        refine m_iret hF hr hlk hQ rfl hO hS dX6_hang_74 ?_
        have hK : K_hang nf F (nI i) h = 0 := by rw [K_hang, if_pos b7, if_pos b23, if_pos c41]
        exact Or.inl ⟨hK, (by first | (simp only [hcl, F_place]; done) | rfl), it, ch, (by first | (simp only [hcl, F_place]; done) | rfl)⟩
      · refine lv_aload_n hx hb dX6_hang_44 rfl (lv_at hl 0 rfl) ?_
        refine lv_iload_n hx hb dX6_hang_45 rfl (lv_at hl 2 rfl) ?_
        refine m_vI (As := [.int h]) (rest := []) (n := 1) hF hC hO hS (k_X6_at l G lo sa ad R 0 g nf F f no O it ch h hnf hno) ok_X6_at q_748 rfl rfl ⟨Nat.le_of_ble_eq_true rfl, Nat.le_of_ble_eq_true rfl⟩ rfl hl.1 rfl (Nat.le_of_ble_eq_true rfl) ⟨Nat.le_of_ble_eq_true rfl, Nat.le_of_ble_eq_true rfl⟩ dX6_hang_46 (fun v46 R' H locs hp hO hS => ?_)
        obtain ⟨rfl, hR⟩ := hp
        rw [hR] at hO
        refine lv_iload_n hx hb dX6_hang_49 rfl (lv_at hl 1 rfl) ?_
        refine lv_icmp_eq (tgt := 59) hx hb dX6_hang_50 (by decide) (fun c50 => ?_) (fun c50 => ?_)
        · obtain ⟨i, hi, rfl⟩ := fr_of (by omega) b7
          have hcl : nn (nI i) = i := nn_nI (by omega)
          refine lv_aload_n hx hb dX6_hang_59 rfl (lv_at hl 0 rfl) ?_
          refine lv_iload_n hx hb dX6_hang_60 rfl (lv_at hl 1 rfl) ?_
          refine lv_iconst (v := 5) hx hb dX6_hang_61 (by decide) ?_
          refine m_vI (As := [.int (nI i), .int 5]) (rest := []) (n := 2) hF hC hO hS (k_X6_fr l G lo sa ad R 0 g nf F f no O it ch i 5 hnf hno (by omega) (by omega)) ok_X6_fr q_752 rfl rfl ⟨Nat.le_of_ble_eq_true rfl, Nat.le_of_ble_eq_true rfl⟩ rfl hl.1 rfl (Nat.le_of_ble_eq_true rfl) ⟨Nat.le_of_ble_eq_true rfl, Nat.le_of_ble_eq_true rfl⟩ dX6_hang_62 (fun v62 R' H locs hp hO hS => ?_)
          obtain ⟨rfl, hR⟩ := hp
          rw [hR] at hO
          refine lv_istore_n (lv' := [(3, .int (F i 5)), (0, .ref (ad 50)), (1, .int (nI i)), (2, .int h)]) hx hb dX6_hang_65 rfl hl (by decide) rfl (fun ls hl => ?_)
          refine lv_aload_n hx hb dX6_hang_66 rfl (lv_at hl 1 rfl) ?_
          refine lv_iload_n hx hb dX6_hang_67 rfl (lv_at hl 2 rfl) ?_
          refine lv_iconst (v := 5) hx hb dX6_hang_68 (by decide) ?_
          refine lv_iload_n hx hb dX6_hang_69 rfl (lv_at hl 3 rfl) ?_
          refine m_vV (As := [.int (nI i), .int 5, .int h]) (rest := []) (n := 3) hF hC hO hS (k_X6_set l G lo sa ad R 0 g nf F f no O it ch i 5 h hnf hno (by omega) (by omega)) ok_X6_set q_756 rfl rfl ⟨Nat.le_of_ble_eq_true rfl, Nat.le_of_ble_eq_true rfl⟩ rfl hl.1 rfl (Nat.le_of_ble_eq_true rfl) ⟨Nat.le_of_ble_eq_true rfl, Nat.le_of_ble_eq_true rfl⟩ dX6_hang_70 (fun R' H locs hp hO hS => ?_)
          have hR := hp
          rw [hR] at hO
          refine lv_iload_n hx hb dX6_hang_73 rfl (lv_at hl 0 rfl) ?_
          refine m_iret hF hr hlk hQ rfl hO hS dX6_hang_74 ?_
          have hK : K_hang nf F (nI i) h = 0 := by rw [K_hang, if_pos b7, if_pos b23, if_neg c41, if_pos c50]
          exact Or.inl ⟨hK, (by first | (simp only [hcl, F_place]; done) | rfl), it, ch, (by first | (simp only [hcl, F_place]; done) | rfl)⟩
        · refine lv_aload_n hx hb dX6_hang_53 rfl (lv_at hl 0 rfl) ?_
          refine lv_iconst (v := 3) hx hb dX6_hang_54 (by decide) ?_
          refine m_vI (As := [.int 3]) (rest := []) (n := 1) hF hC hO hS (k_X6_fail l G lo sa ad R 0 g nf F f no O it ch 3 hnf hno) ok_X6_fail q_717 rfl rfl ⟨Nat.le_of_ble_eq_true rfl, Nat.le_of_ble_eq_true rfl⟩ rfl hl.1 rfl (Nat.le_of_ble_eq_true rfl) ⟨Nat.le_of_ble_eq_true rfl, Nat.le_of_ble_eq_true rfl⟩ dX6_hang_55 (fun v55 R' H locs hp hO hS => ?_)
          obtain ⟨rfl, hR⟩ := hp
          rw [hR] at hO
          refine m_iret hF hr hlk hQ rfl hO hS dX6_hang_58 ?_
          have hK : K_hang nf F x h = 3 := by rw [K_hang, if_pos b7, if_pos b23, if_neg c41, if_neg c50]
          exact Or.inr ⟨by rw [hK]; decide, it, ch, by rw [hK]⟩
    · rw [hR] at hO
      refine lv_if_ne (tgt := 35) hx hb dX6_hang_26 (by decide) (fun c26 => absurd (by decide) c26) (fun c26 => ?_)
      refine lv_aload_n hx hb dX6_hang_29 rfl (lv_at hl 0 rfl) ?_
      refine lv_iconst (v := 2) hx hb dX6_hang_30 (by decide) ?_
      refine m_vI (As := [.int 2]) (rest := []) (n := 1) hF hC hO hS (k_X6_fail l G lo sa ad R 0 g nf F f no O it ch 2 hnf hno) ok_X6_fail q_717 rfl rfl ⟨Nat.le_of_ble_eq_true rfl, Nat.le_of_ble_eq_true rfl⟩ rfl hl.1 rfl (Nat.le_of_ble_eq_true rfl) ⟨Nat.le_of_ble_eq_true rfl, Nat.le_of_ble_eq_true rfl⟩ dX6_hang_31 (fun v31 R' H locs hp hO hS => ?_)
      obtain ⟨rfl, hR⟩ := hp
      rw [hR] at hO
      refine m_iret hF hr hlk hQ rfl hO hS dX6_hang_34 ?_
      have hK : K_hang nf F x h = 2 := by rw [K_hang, if_pos b7, if_neg b23]
      exact Or.inr ⟨by rw [hK]; decide, it, ch, by rw [hK]⟩
  · rw [hR] at hO
    refine lv_if_ne (tgt := 19) hx hb dX6_hang_10 (by decide) (fun c10 => absurd (by decide) c10) (fun c10 => ?_)
    refine lv_aload_n hx hb dX6_hang_13 rfl (lv_at hl 0 rfl) ?_
    refine lv_iconst (v := 1) hx hb dX6_hang_14 (by decide) ?_
    refine m_vI (As := [.int 1]) (rest := []) (n := 1) hF hC hO hS (k_X6_fail l G lo sa ad R 0 g nf F f no O it ch 1 hnf hno) ok_X6_fail q_717 rfl rfl ⟨Nat.le_of_ble_eq_true rfl, Nat.le_of_ble_eq_true rfl⟩ rfl hl.1 rfl (Nat.le_of_ble_eq_true rfl) ⟨Nat.le_of_ble_eq_true rfl, Nat.le_of_ble_eq_true rfl⟩ dX6_hang_15 (fun v15 R' H locs hp hO hS => ?_)
    obtain ⟨rfl, hR⟩ := hp
    rw [hR] at hO
    refine m_iret hF hr hlk hQ rfl hO hS dX6_hang_18 ?_
    have hK : K_hang nf F x h = 1 := by rw [K_hang, if_neg b7]
    exact Or.inr ⟨by rw [hK]; decide, it, ch, by rw [hK]⟩
theorem ok_X6_layAside : mOK RX6 yX6_layAside cX6_layAside 3 (some .int) 1 := ⟨q_761, q_762, q_6, q_763, by decide +kernel⟩
set_option maxHeartbeats 400000 in
set_option maxRecDepth 100000 in
theorem k_X6_layAside (l : Launch) (G : mG) (lo : Nat) (sa ad : Nat → Nat) (R : mM) (th : Int32) (g : Nat → Int32) (nf : Nat) (F : Nat → Nat → Int32) (f : Nat → Int32) (no : Nat) (O : Nat → Nat → Int32) (it ch : Nat → Int32) (x : Int32) (hnf : nf ≤ 12) (hno : no ≤ 20) : mI l yX6_layAside cX6_layAside 3 .int 2 43 G lo sa ad (WM G ad th g nf F f no O it ch R) [.ref (ad 50), .int x] (fun v R' => (K_layAside nf F x = 0 ∧ v = F (nn x) 5 ∧ ∃ (it' ch' : Nat → Int32), R' = (WM G ad 0 g nf (F_place F (nn x) (-1)) f no O it' ch' R)) ∨ (¬ K_layAside nf F x = 0 ∧ ∃ (it' ch' : Nat → Int32), R' = (WM G ad (K_layAside nf F x) g nf F f no O it' ch' R))) := by
  refine mI_of (by decide) (Nat.le_of_ble_eq_true rfl) ?_
  intro p e s m args below meth c hF hr hlk hC ls hl hO hS Q hQ
  have hx := hF.1
  have hb := hF.2.1
  have hl : lv_has ls 3 [(0, .ref (ad 50)), (1, .int x)] := hl
  refine lv_aload_n hx hb dX6_layAside_0 rfl (lv_at hl 0 rfl) ?_
  refine lv_iconst (v := 0) hx hb dX6_layAside_1 (by decide) ?_
  refine m_put (ty := .int) tyX6 tyX6_ok nmX6 inX6 hF hC hO hS rfl rfl 0 (by decide) q_662 rfl (by decide +kernel) rfl rfl (fs' := [.int 0, .int (g 0), .int (g 1), .int (g 2), .int (nI nf), .ref (ad 51), .ref (ad 52), .int (nI no), .ref (ad 53), .int (g 3), .int (g 4), .int (g 5), .ref (ad 54), .ref (ad 55)]) (Nat.le_of_ble_eq_true rfl) rfl dX6_layAside_2 (fun H locs hO hS => ?_)
  have hO : mO G lo ad (mU (WM G ad th g nf F f no O it ch R) 50 (mxO ad 0 g nf no)) H := hO
  rw [WM_w0] at hO
  refine lv_aload_n hx hb dX6_layAside_5 rfl (lv_at hl 0 rfl) ?_
  refine lv_iload_n hx hb dX6_layAside_6 rfl (lv_at hl 1 rfl) ?_
  refine m_vI (As := [.int x]) (rest := []) (n := 1) hF hC hO hS (k_X6_isFrame l G lo sa ad R 0 g nf F f no O it ch x hnf hno) ok_X6_isFrame q_744 rfl rfl ⟨Nat.le_of_ble_eq_true rfl, Nat.le_of_ble_eq_true rfl⟩ rfl hl.1 rfl (Nat.le_of_ble_eq_true rfl) ⟨Nat.le_of_ble_eq_true rfl, Nat.le_of_ble_eq_true rfl⟩ dX6_layAside_7 (fun v7 R' H locs hp hO hS => ?_)
  obtain ⟨⟨rfl, b7⟩ | ⟨rfl, b7⟩, hR⟩ := hp
  · rw [hR] at hO
    refine lv_if_ne (tgt := 19) hx hb dX6_layAside_10 (by decide) (fun c10 => ?_) (fun c10 => absurd c10 (by decide))
    obtain ⟨i, hi, rfl⟩ := fr_of (by omega) b7
    have hcl : nn (nI i) = i := nn_nI (by omega)
    refine lv_aload_n hx hb dX6_layAside_19 rfl (lv_at hl 0 rfl) ?_
    refine lv_iload_n hx hb dX6_layAside_20 rfl (lv_at hl 1 rfl) ?_
    refine lv_iconst (v := 5) hx hb dX6_layAside_21 (by decide) ?_
    refine m_vI (As := [.int (nI i), .int 5]) (rest := []) (n := 2) hF hC hO hS (k_X6_fr l G lo sa ad R 0 g nf F f no O it ch i 5 hnf hno (by omega) (by omega)) ok_X6_fr q_752 rfl rfl ⟨Nat.le_of_ble_eq_true rfl, Nat.le_of_ble_eq_true rfl⟩ rfl hl.1 rfl (Nat.le_of_ble_eq_true rfl) ⟨Nat.le_of_ble_eq_true rfl, Nat.le_of_ble_eq_true rfl⟩ dX6_layAside_22 (fun v22 R' H locs hp hO hS => ?_)
    obtain ⟨rfl, hR⟩ := hp
    rw [hR] at hO
    refine lv_istore_n (lv' := [(2, .int (F i 5)), (0, .ref (ad 50)), (1, .int (nI i))]) hx hb dX6_layAside_25 rfl hl (by decide) rfl (fun ls hl => ?_)
    refine lv_iload_n hx hb dX6_layAside_26 rfl (lv_at hl 0 rfl) ?_
    refine lv_iconst (v := -1) hx hb dX6_layAside_27 (by decide) ?_
    refine lv_icmp_ne (tgt := 37) hx hb dX6_layAside_28 (by decide) (fun c28 => ?_) (fun c28 => ?_)
    · refine lv_aload_n hx hb dX6_layAside_37 rfl (lv_at hl 1 rfl) ?_
      refine lv_iload_n hx hb dX6_layAside_38 rfl (lv_at hl 2 rfl) ?_
      refine lv_iconst (v := 5) hx hb dX6_layAside_39 (by decide) ?_
      refine lv_iconst (v := -1) hx hb dX6_layAside_40 (by decide) ?_
      refine m_vV (As := [.int (nI i), .int 5, .int (-1)]) (rest := []) (n := 3) hF hC hO hS (k_X6_set l G lo sa ad R 0 g nf F f no O it ch i 5 (-1) hnf hno (by omega) (by omega)) ok_X6_set q_756 rfl rfl ⟨Nat.le_of_ble_eq_true rfl, Nat.le_of_ble_eq_true rfl⟩ rfl hl.1 rfl (Nat.le_of_ble_eq_true rfl) ⟨Nat.le_of_ble_eq_true rfl, Nat.le_of_ble_eq_true rfl⟩ dX6_layAside_41 (fun R' H locs hp hO hS => ?_)
      have hR := hp
      rw [hR] at hO
      refine lv_iload_n hx hb dX6_layAside_44 rfl (lv_at hl 0 rfl) ?_
      refine m_iret hF hr hlk hQ rfl hO hS dX6_layAside_45 ?_
      have hK : K_layAside nf F (nI i) = 0 := by rw [K_layAside, if_pos b7, hcl, if_neg c28]
      exact Or.inl ⟨hK, (by first | (simp only [hcl, F_place]; done) | rfl), it, ch, (by first | (simp only [hcl, F_place]; done) | rfl)⟩
    · refine lv_aload_n hx hb dX6_layAside_31 rfl (lv_at hl 1 rfl) ?_
      refine lv_iconst (v := 2) hx hb dX6_layAside_32 (by decide) ?_
      refine m_vI (As := [.int 2]) (rest := []) (n := 1) hF hC hO hS (k_X6_fail l G lo sa ad R 0 g nf F f no O it ch 2 hnf hno) ok_X6_fail q_717 rfl rfl ⟨Nat.le_of_ble_eq_true rfl, Nat.le_of_ble_eq_true rfl⟩ rfl hl.1 rfl (Nat.le_of_ble_eq_true rfl) ⟨Nat.le_of_ble_eq_true rfl, Nat.le_of_ble_eq_true rfl⟩ dX6_layAside_33 (fun v33 R' H locs hp hO hS => ?_)
      obtain ⟨rfl, hR⟩ := hp
      rw [hR] at hO
      refine m_iret hF hr hlk hQ rfl hO hS dX6_layAside_36 ?_
      have hK : K_layAside nf F (nI i) = 2 := by rw [K_layAside, if_pos b7, hcl, if_pos c28]
      exact Or.inr ⟨by rw [hK]; decide, it, ch, by rw [hK]⟩
  · rw [hR] at hO
    refine lv_if_ne (tgt := 19) hx hb dX6_layAside_10 (by decide) (fun c10 => absurd (by decide) c10) (fun c10 => ?_)
    refine lv_aload_n hx hb dX6_layAside_13 rfl (lv_at hl 0 rfl) ?_
    refine lv_iconst (v := 1) hx hb dX6_layAside_14 (by decide) ?_
    refine m_vI (As := [.int 1]) (rest := []) (n := 1) hF hC hO hS (k_X6_fail l G lo sa ad R 0 g nf F f no O it ch 1 hnf hno) ok_X6_fail q_717 rfl rfl ⟨Nat.le_of_ble_eq_true rfl, Nat.le_of_ble_eq_true rfl⟩ rfl hl.1 rfl (Nat.le_of_ble_eq_true rfl) ⟨Nat.le_of_ble_eq_true rfl, Nat.le_of_ble_eq_true rfl⟩ dX6_layAside_15 (fun v15 R' H locs hp hO hS => ?_)
    obtain ⟨rfl, hR⟩ := hp
    rw [hR] at hO
    refine m_iret hF hr hlk hQ rfl hO hS dX6_layAside_18 ?_
    have hK : K_layAside nf F x = 1 := by rw [K_layAside, if_neg b7]
    exact Or.inr ⟨by rw [hK]; decide, it, ch, by rw [hK]⟩
theorem ok_X6_frame : mOK RX6 yX6_frame cX6_frame 3 (some .int) 2 := ⟨q_818, q_819, q_6, q_820, by decide +kernel⟩
set_option maxHeartbeats 400000 in
set_option maxRecDepth 100000 in
theorem k_X6_frame (l : Launch) (G : mG) (lo : Nat) (sa ad : Nat → Nat) (R : mM) (th : Int32) (g : Nat → Int32) (nf : Nat) (F : Nat → Nat → Int32) (f : Nat → Int32) (no : Nat) (O : Nat → Nat → Int32) (it ch : Nat → Int32) (x w : Int32) (hnf : nf ≤ 12) (hno : no ≤ 20) : mI l yX6_frame cX6_frame 3 .int 3 64 G lo sa ad (WM G ad th g nf F f no O it ch R) [.ref (ad 50), .int x, .int w] (fun v R' => (K_frame nf x w = 0 ∧ v = m_frame (F (nn x)) (nn w) ∧ ∃ (it' ch' : Nat → Int32), R' = (WM G ad 0 g nf F f no O it' ch' R)) ∨ (¬ K_frame nf x w = 0 ∧ ∃ (it' ch' : Nat → Int32), R' = (WM G ad (K_frame nf x w) g nf F f no O it' ch' R))) := by
  refine mI_of (by decide) (Nat.le_of_ble_eq_true rfl) ?_
  intro p e s m args below meth c hF hr hlk hC ls hl hO hS Q hQ
  have hx := hF.1
  have hb := hF.2.1
  have hl : lv_has ls 3 [(0, .ref (ad 50)), (1, .int x), (2, .int w)] := hl
  refine lv_aload_n hx hb dX6_frame_0 rfl (lv_at hl 0 rfl) ?_
  refine lv_iconst (v := 0) hx hb dX6_frame_1 (by decide) ?_
  refine m_put (ty := .int) tyX6 tyX6_ok nmX6 inX6 hF hC hO hS rfl rfl 0 (by decide) q_662 rfl (by decide +kernel) rfl rfl (fs' := [.int 0, .int (g 0), .int (g 1), .int (g 2), .int (nI nf), .ref (ad 51), .ref (ad 52), .int (nI no), .ref (ad 53), .int (g 3), .int (g 4), .int (g 5), .ref (ad 54), .ref (ad 55)]) (Nat.le_of_ble_eq_true rfl) rfl dX6_frame_2 (fun H locs hO hS => ?_)
  have hO : mO G lo ad (mU (WM G ad th g nf F f no O it ch R) 50 (mxO ad 0 g nf no)) H := hO
  rw [WM_w0] at hO
  refine lv_aload_n hx hb dX6_frame_5 rfl (lv_at hl 0 rfl) ?_
  refine lv_iload_n hx hb dX6_frame_6 rfl (lv_at hl 1 rfl) ?_
  refine m_vI (As := [.int x]) (rest := []) (n := 1) hF hC hO hS (k_X6_isFrame l G lo sa ad R 0 g nf F f no O it ch x hnf hno) ok_X6_isFrame q_744 rfl rfl ⟨Nat.le_of_ble_eq_true rfl, Nat.le_of_ble_eq_true rfl⟩ rfl hl.1 rfl (Nat.le_of_ble_eq_true rfl) ⟨Nat.le_of_ble_eq_true rfl, Nat.le_of_ble_eq_true rfl⟩ dX6_frame_7 (fun v7 R' H locs hp hO hS => ?_)
  obtain ⟨⟨rfl, b7⟩ | ⟨rfl, b7⟩, hR⟩ := hp
  · rw [hR] at hO
    refine lv_if_eq (tgt := 32) hx hb dX6_frame_10 (by decide) (fun c10 => absurd c10 (by decide)) (fun c10 => ?_)
    refine lv_iload_n hx hb dX6_frame_13 rfl (lv_at hl 2 rfl) ?_
    refine lv_iconst (v := 0) hx hb dX6_frame_14 (by decide) ?_
    refine lv_bipush (v := 7) hx hb dX6_frame_15 (by decide) ?_
    refine m_sI (As := [.int w, .int 0, .int 7]) (rest := []) (n := 3) hF hC hO hS (k_X6_isIn l G lo sa ad _ w 0 7 ) ok_X6_isIn q_714 ⟨Nat.le_of_ble_eq_true rfl, Nat.le_of_ble_eq_true rfl⟩ rfl hl.1 rfl (Nat.le_of_ble_eq_true rfl) ⟨Nat.le_of_ble_eq_true rfl, Nat.le_of_ble_eq_true rfl⟩ dX6_frame_17 (fun v17 R' H locs hp hO hS => ?_)
    obtain ⟨⟨rfl, b17⟩ | ⟨rfl, b17⟩, hR⟩ := hp
    · rw [hR] at hO
      refine lv_if_eq (tgt := 32) hx hb dX6_frame_20 (by decide) (fun c20 => absurd c20 (by decide)) (fun c20 => ?_)
      obtain ⟨i, hi, rfl⟩ := fr_of (by omega) b7
      have hcl : nn (nI i) = i := nn_nI (by omega)
      obtain ⟨k, -, hk7, rfl⟩ := in_of (a := 0) (b := 7) (by decide) (by decide) b17
      have hcw : nn (nI k) = k := nn_nI (by omega)
      refine lv_aload_n hx hb dX6_frame_23 rfl (lv_at hl 0 rfl) ?_
      refine lv_iload_n hx hb dX6_frame_24 rfl (lv_at hl 1 rfl) ?_
      refine lv_iload_n hx hb dX6_frame_25 rfl (lv_at hl 2 rfl) ?_
      refine m_vI (As := [.int (nI i), .int (nI k)]) (rest := []) (n := 2) hF hC hO hS (k_X6_frameTold l G lo sa ad R 0 g nf F f no O it ch i k hnf hno (by omega) (by omega)) ok_X6_frameTold q_821 rfl rfl ⟨Nat.le_of_ble_eq_true rfl, Nat.le_of_ble_eq_true rfl⟩ rfl hl.1 rfl (Nat.le_of_ble_eq_true rfl) ⟨Nat.le_of_ble_eq_true rfl, Nat.le_of_ble_eq_true rfl⟩ dX6_frame_26 (fun v26 R' H locs hp hO hS => ?_)
      obtain ⟨rfl, hR⟩ := hp
      rw [hR] at hO
      refine lv_goto (tgt := 37) hx hb dX6_frame_29 (by decide) ?_
      refine m_iret hF hr hlk hQ rfl hO hS dX6_frame_37 ?_
      have hK : K_frame nf (nI i) (nI k) = 0 := by rw [K_frame, if_pos b7, if_pos b17]
      exact Or.inl ⟨hK, (by first | (simp only [hcl, hcw]; done) | rfl), it, ch, (by first | (simp only [hcl, hcw]; done) | rfl)⟩
    · rw [hR] at hO
      refine lv_if_eq (tgt := 32) hx hb dX6_frame_20 (by decide) (fun c20 => ?_) (fun c20 => absurd (by decide) c20)
      refine lv_aload_n hx hb dX6_frame_32 rfl (lv_at hl 0 rfl) ?_
      refine lv_iconst (v := 1) hx hb dX6_frame_33 (by decide) ?_
      refine m_vI (As := [.int 1]) (rest := []) (n := 1) hF hC hO hS (k_X6_fail l G lo sa ad R 0 g nf F f no O it ch 1 hnf hno) ok_X6_fail q_717 rfl rfl ⟨Nat.le_of_ble_eq_true rfl, Nat.le_of_ble_eq_true rfl⟩ rfl hl.1 rfl (Nat.le_of_ble_eq_true rfl) ⟨Nat.le_of_ble_eq_true rfl, Nat.le_of_ble_eq_true rfl⟩ dX6_frame_34 (fun v34 R' H locs hp hO hS => ?_)
      obtain ⟨rfl, hR⟩ := hp
      rw [hR] at hO
      refine m_iret hF hr hlk hQ rfl hO hS dX6_frame_37 ?_
      have hK : K_frame nf x w = 1 := by rw [K_frame, if_pos b7, if_neg b17]
      exact Or.inr ⟨by rw [hK]; decide, it, ch, by rw [hK]⟩
  · rw [hR] at hO
    refine lv_if_eq (tgt := 32) hx hb dX6_frame_10 (by decide) (fun c10 => ?_) (fun c10 => absurd (by decide) c10)
    refine lv_aload_n hx hb dX6_frame_32 rfl (lv_at hl 0 rfl) ?_
    refine lv_iconst (v := 1) hx hb dX6_frame_33 (by decide) ?_
    refine m_vI (As := [.int 1]) (rest := []) (n := 1) hF hC hO hS (k_X6_fail l G lo sa ad R 0 g nf F f no O it ch 1 hnf hno) ok_X6_fail q_717 rfl rfl ⟨Nat.le_of_ble_eq_true rfl, Nat.le_of_ble_eq_true rfl⟩ rfl hl.1 rfl (Nat.le_of_ble_eq_true rfl) ⟨Nat.le_of_ble_eq_true rfl, Nat.le_of_ble_eq_true rfl⟩ dX6_frame_34 (fun v34 R' H locs hp hO hS => ?_)
    obtain ⟨rfl, hR⟩ := hp
    rw [hR] at hO
    refine m_iret hF hr hlk hQ rfl hO hS dX6_frame_37 ?_
    have hK : K_frame nf x w = 1 := by rw [K_frame, if_neg b7]
    exact Or.inr ⟨by rw [hK]; decide, it, ch, by rw [hK]⟩
theorem ok_X6_hook : mOK RX6 yX6_hook cX6_hook 2 (some .int) 1 := ⟨q_826, q_827, q_6, q_828, by decide +kernel⟩
set_option maxHeartbeats 400000 in
set_option maxRecDepth 100000 in
theorem k_X6_hook (l : Launch) (G : mG) (lo : Nat) (sa ad : Nat → Nat) (R : mM) (th : Int32) (g : Nat → Int32) (nf : Nat) (F : Nat → Nat → Int32) (f : Nat → Int32) (no : Nat) (O : Nat → Nat → Int32) (it ch : Nat → Int32) (x : Int32) (hnf : nf ≤ 12) (hno : no ≤ 20) : mI l yX6_hook cX6_hook 2 .int 2 44 G lo sa ad (WM G ad th g nf F f no O it ch R) [.ref (ad 50), .int x] (fun v R' => (K_hook x = 0 ∧ v = m_at nf F x ∧ ∃ (it' ch' : Nat → Int32), R' = (WM G ad 0 g nf F f no O it' ch' R)) ∨ (¬ K_hook x = 0 ∧ ∃ (it' ch' : Nat → Int32), R' = (WM G ad (K_hook x) g nf F f no O it' ch' R))) := by
  refine mI_of (by decide) (Nat.le_of_ble_eq_true rfl) ?_
  intro p e s m args below meth c hF hr hlk hC ls hl hO hS Q hQ
  have hx := hF.1
  have hb := hF.2.1
  have hl : lv_has ls 2 [(0, .ref (ad 50)), (1, .int x)] := hl
  refine lv_aload_n hx hb dX6_hook_0 rfl (lv_at hl 0 rfl) ?_
  refine lv_iconst (v := 0) hx hb dX6_hook_1 (by decide) ?_
  refine m_put (ty := .int) tyX6 tyX6_ok nmX6 inX6 hF hC hO hS rfl rfl 0 (by decide) q_662 rfl (by decide +kernel) rfl rfl (fs' := [.int 0, .int (g 0), .int (g 1), .int (g 2), .int (nI nf), .ref (ad 51), .ref (ad 52), .int (nI no), .ref (ad 53), .int (g 3), .int (g 4), .int (g 5), .ref (ad 54), .ref (ad 55)]) (Nat.le_of_ble_eq_true rfl) rfl dX6_hook_2 (fun H locs hO hS => ?_)
  have hO : mO G lo ad (mU (WM G ad th g nf F f no O it ch R) 50 (mxO ad 0 g nf no)) H := hO
  rw [WM_w0] at hO
  refine lv_iload_n hx hb dX6_hook_5 rfl (lv_at hl 1 rfl) ?_
  refine lv_iconst (v := 0) hx hb dX6_hook_6 (by decide) ?_
  refine lv_bipush (v := 11) hx hb dX6_hook_7 (by decide) ?_
  refine m_sI (As := [.int x, .int 0, .int 11]) (rest := []) (n := 3) hF hC hO hS (k_X6_isIn l G lo sa ad _ x 0 11 ) ok_X6_isIn q_714 ⟨Nat.le_of_ble_eq_true rfl, Nat.le_of_ble_eq_true rfl⟩ rfl hl.1 rfl (Nat.le_of_ble_eq_true rfl) ⟨Nat.le_of_ble_eq_true rfl, Nat.le_of_ble_eq_true rfl⟩ dX6_hook_9 (fun v9 R' H locs hp hO hS => ?_)
  obtain ⟨⟨rfl, b9⟩ | ⟨rfl, b9⟩, hR⟩ := hp
  · rw [hR] at hO
    refine lv_if_eq (tgt := 23) hx hb dX6_hook_12 (by decide) (fun c12 => absurd c12 (by decide)) (fun c12 => ?_)
    refine lv_aload_n hx hb dX6_hook_15 rfl (lv_at hl 0 rfl) ?_
    refine lv_iload_n hx hb dX6_hook_16 rfl (lv_at hl 1 rfl) ?_
    refine m_vI (As := [.int x]) (rest := []) (n := 1) hF hC hO hS (k_X6_at l G lo sa ad R 0 g nf F f no O it ch x hnf hno) ok_X6_at q_748 rfl rfl ⟨Nat.le_of_ble_eq_true rfl, Nat.le_of_ble_eq_true rfl⟩ rfl hl.1 rfl (Nat.le_of_ble_eq_true rfl) ⟨Nat.le_of_ble_eq_true rfl, Nat.le_of_ble_eq_true rfl⟩ dX6_hook_17 (fun v17 R' H locs hp hO hS => ?_)
    obtain ⟨rfl, hR⟩ := hp
    rw [hR] at hO
    refine lv_goto (tgt := 28) hx hb dX6_hook_20 (by decide) ?_
    refine m_iret hF hr hlk hQ rfl hO hS dX6_hook_28 ?_
    have hK : K_hook x = 0 := by rw [K_hook, if_pos b9]
    exact Or.inl ⟨hK, (by first | (simp only [hcl]; done) | rfl), it, ch, (by first | (simp only [hcl]; done) | rfl)⟩
  · rw [hR] at hO
    refine lv_if_eq (tgt := 23) hx hb dX6_hook_12 (by decide) (fun c12 => ?_) (fun c12 => absurd (by decide) c12)
    refine lv_aload_n hx hb dX6_hook_23 rfl (lv_at hl 0 rfl) ?_
    refine lv_iconst (v := 1) hx hb dX6_hook_24 (by decide) ?_
    refine m_vI (As := [.int 1]) (rest := []) (n := 1) hF hC hO hS (k_X6_fail l G lo sa ad R 0 g nf F f no O it ch 1 hnf hno) ok_X6_fail q_717 rfl rfl ⟨Nat.le_of_ble_eq_true rfl, Nat.le_of_ble_eq_true rfl⟩ rfl hl.1 rfl (Nat.le_of_ble_eq_true rfl) ⟨Nat.le_of_ble_eq_true rfl, Nat.le_of_ble_eq_true rfl⟩ dX6_hook_25 (fun v25 R' H locs hp hO hS => ?_)
    obtain ⟨rfl, hR⟩ := hp
    rw [hR] at hO
    refine m_iret hF hr hlk hQ rfl hO hS dX6_hook_28 ?_
    have hK : K_hook x = 1 := by rw [K_hook, if_neg b9]
    exact Or.inr ⟨by rw [hK]; decide, it, ch, by rw [hK]⟩
theorem ok_X6_store : mOK RX6 yX6_store cX6_store 3 (some .int) 2 := ⟨q_830, q_831, q_6, q_832, by decide +kernel⟩
set_option maxHeartbeats 400000 in
set_option maxRecDepth 100000 in
theorem k_X6_store (l : Launch) (G : mG) (lo : Nat) (sa ad : Nat → Nat) (R : mM) (th : Int32) (g : Nat → Int32) (nf : Nat) (F : Nat → Nat → Int32) (f : Nat → Int32) (no : Nat) (O : Nat → Nat → Int32) (it ch : Nat → Int32) (x w : Int32) (hnf : nf ≤ 12) (hno : no ≤ 20) : mI l yX6_store cX6_store 3 .int 1 22 G lo sa ad (WM G ad th g nf F f no O it ch R) [.ref (ad 50), .int x, .int w] (fun v R' => (K_store x w = 0 ∧ v = f (9 * nn x + nn w - 1) ∧ ∃ (it' ch' : Nat → Int32), R' = (WM G ad 0 g nf F f no O it' ch' R)) ∨ (¬ K_store x w = 0 ∧ ∃ (it' ch' : Nat → Int32), R' = (WM G ad (K_store x w) g nf F f no O it' ch' R))) := by
  refine mI_of (by decide) (Nat.le_of_ble_eq_true rfl) ?_
  intro p e s m args below meth c hF hr hlk hC ls hl hO hS Q hQ
  have hx := hF.1
  have hb := hF.2.1
  have hl : lv_has ls 3 [(0, .ref (ad 50)), (1, .int x), (2, .int w)] := hl
  refine lv_aload_n hx hb dX6_store_0 rfl (lv_at hl 0 rfl) ?_
  refine lv_iconst (v := 0) hx hb dX6_store_1 (by decide) ?_
  refine m_put (ty := .int) tyX6 tyX6_ok nmX6 inX6 hF hC hO hS rfl rfl 0 (by decide) q_662 rfl (by decide +kernel) rfl rfl (fs' := [.int 0, .int (g 0), .int (g 1), .int (g 2), .int (nI nf), .ref (ad 51), .ref (ad 52), .int (nI no), .ref (ad 53), .int (g 3), .int (g 4), .int (g 5), .ref (ad 54), .ref (ad 55)]) (Nat.le_of_ble_eq_true rfl) rfl dX6_store_2 (fun H locs hO hS => ?_)
  have hO : mO G lo ad (mU (WM G ad th g nf F f no O it ch R) 50 (mxO ad 0 g nf no)) H := hO
  rw [WM_w0] at hO
  refine lv_iload_n hx hb dX6_store_5 rfl (lv_at hl 1 rfl) ?_
  refine lv_iconst (v := 0) hx hb dX6_store_6 (by decide) ?_
  refine lv_iconst (v := 3) hx hb dX6_store_7 (by decide) ?_
  refine m_sI (As := [.int x, .int 0, .int 3]) (rest := []) (n := 3) hF hC hO hS (k_X6_isIn l G lo sa ad _ x 0 3 ) ok_X6_isIn q_714 ⟨Nat.le_of_ble_eq_true rfl, Nat.le_of_ble_eq_true rfl⟩ rfl hl.1 rfl (Nat.le_of_ble_eq_true rfl) ⟨Nat.le_of_ble_eq_true rfl, Nat.le_of_ble_eq_true rfl⟩ dX6_store_8 (fun v8 R' H locs hp hO hS => ?_)
  obtain ⟨⟨rfl, b8⟩ | ⟨rfl, b8⟩, hR⟩ := hp
  · rw [hR] at hO
    refine lv_if_eq (tgt := 38) hx hb dX6_store_11 (by decide) (fun c11 => absurd c11 (by decide)) (fun c11 => ?_)
    refine lv_iload_n hx hb dX6_store_14 rfl (lv_at hl 2 rfl) ?_
    refine lv_iconst (v := 1) hx hb dX6_store_15 (by decide) ?_
    refine lv_bipush (v := 9) hx hb dX6_store_16 (by decide) ?_
    refine m_sI (As := [.int w, .int 1, .int 9]) (rest := []) (n := 3) hF hC hO hS (k_X6_isIn l G lo sa ad _ w 1 9 ) ok_X6_isIn q_714 ⟨Nat.le_of_ble_eq_true rfl, Nat.le_of_ble_eq_true rfl⟩ rfl hl.1 rfl (Nat.le_of_ble_eq_true rfl) ⟨Nat.le_of_ble_eq_true rfl, Nat.le_of_ble_eq_true rfl⟩ dX6_store_18 (fun v18 R' H locs hp hO hS => ?_)
    obtain ⟨⟨rfl, b18⟩ | ⟨rfl, b18⟩, hR⟩ := hp
    · rw [hR] at hO
      refine lv_if_eq (tgt := 38) hx hb dX6_store_21 (by decide) (fun c21 => absurd c21 (by decide)) (fun c21 => ?_)
      obtain ⟨i, -, hi3, rfl⟩ := in_of (a := 0) (b := 3) (by decide) (by decide) b8
      have hcl : nn (nI i) = i := nn_nI (by omega)
      obtain ⟨k, hk1, hk9, rfl⟩ := in_of (a := 1) (b := 9) (by decide) (by decide) b18
      have hcw : nn (nI k) = k := nn_nI (by omega)
      refine lv_aload_n hx hb dX6_store_24 rfl (lv_at hl 0 rfl) ?_
      refine m_get inX6 hF hC hO rfl rfl 6 (by decide) q_668 (v := .ref (ad 52)) rfl dX6_store_25 ?_
      refine lv_bipush (v := 10) hx hb dX6_store_28 (by decide) ?_
      refine lv_iload_n hx hb dX6_store_30 rfl (lv_at hl 1 rfl) ?_
      refine lv_imul hx hb dX6_store_31 ?_
      refine lv_iload_n hx hb dX6_store_32 rfl (lv_at hl 2 rfl) ?_
      refine lv_iadd hx hb dX6_store_33 ?_
      refine m_iald hF hC hO rfl (j := (10 * i + k)) (by rw [p_ixS]; exact nI_clamp (by omega)) (by rw [p_ixS]; exact vp_in_nI (by omega) (by decide)) dX6_store_34 ?_
      rw [show ((stF f) (10 * i + k)) = (f (9 * i + k - 1)) from st_rd hk1 hk9]
      refine lv_goto (tgt := 43) hx hb dX6_store_35 (by decide) ?_
      refine m_iret hF hr hlk hQ rfl hO hS dX6_store_43 ?_
      have hK : K_store (nI i) (nI k) = 0 := by rw [K_store, if_pos b8, if_pos b18]
      exact Or.inl ⟨hK, (by first | (simp only [hcl, hcw]; done) | rfl), it, ch, (by first | (simp only [hcl, hcw]; done) | rfl)⟩
    · rw [hR] at hO
      refine lv_if_eq (tgt := 38) hx hb dX6_store_21 (by decide) (fun c21 => ?_) (fun c21 => absurd (by decide) c21)
      refine lv_aload_n hx hb dX6_store_38 rfl (lv_at hl 0 rfl) ?_
      refine lv_iconst (v := 1) hx hb dX6_store_39 (by decide) ?_
      refine m_vI (As := [.int 1]) (rest := []) (n := 1) hF hC hO hS (k_X6_fail l G lo sa ad R 0 g nf F f no O it ch 1 hnf hno) ok_X6_fail q_717 rfl rfl ⟨Nat.le_of_ble_eq_true rfl, Nat.le_of_ble_eq_true rfl⟩ rfl hl.1 rfl (Nat.le_of_ble_eq_true rfl) ⟨Nat.le_of_ble_eq_true rfl, Nat.le_of_ble_eq_true rfl⟩ dX6_store_40 (fun v40 R' H locs hp hO hS => ?_)
      obtain ⟨rfl, hR⟩ := hp
      rw [hR] at hO
      refine m_iret hF hr hlk hQ rfl hO hS dX6_store_43 ?_
      have hK : K_store x w = 1 := by rw [K_store, if_pos b8, if_neg b18]
      exact Or.inr ⟨by rw [hK]; decide, it, ch, by rw [hK]⟩
  · rw [hR] at hO
    refine lv_if_eq (tgt := 38) hx hb dX6_store_11 (by decide) (fun c11 => ?_) (fun c11 => absurd (by decide) c11)
    refine lv_aload_n hx hb dX6_store_38 rfl (lv_at hl 0 rfl) ?_
    refine lv_iconst (v := 1) hx hb dX6_store_39 (by decide) ?_
    refine m_vI (As := [.int 1]) (rest := []) (n := 1) hF hC hO hS (k_X6_fail l G lo sa ad R 0 g nf F f no O it ch 1 hnf hno) ok_X6_fail q_717 rfl rfl ⟨Nat.le_of_ble_eq_true rfl, Nat.le_of_ble_eq_true rfl⟩ rfl hl.1 rfl (Nat.le_of_ble_eq_true rfl) ⟨Nat.le_of_ble_eq_true rfl, Nat.le_of_ble_eq_true rfl⟩ dX6_store_40 (fun v40 R' H locs hp hO hS => ?_)
    obtain ⟨rfl, hR⟩ := hp
    rw [hR] at hO
    refine m_iret hF hr hlk hQ rfl hO hS dX6_store_43 ?_
    have hK : K_store x w = 1 := by rw [K_store, if_neg b8]
    exact Or.inr ⟨by rw [hK]; decide, it, ch, by rw [hK]⟩
theorem ok_X6_count : mOK RX6 yX6_count cX6_count 2 (some .int) 1 := ⟨q_866, q_867, q_6, q_868, by decide +kernel⟩
set_option maxHeartbeats 400000 in
set_option maxRecDepth 100000 in
theorem k_X6_count (l : Launch) (G : mG) (lo : Nat) (sa ad : Nat → Nat) (R : mM) (th : Int32) (g : Nat → Int32) (nf : Nat) (F : Nat → Nat → Int32) (f : Nat → Int32) (no : Nat) (O : Nat → Nat → Int32) (it ch : Nat → Int32) (x : Int32) (hnf : nf ≤ 12) (hno : no ≤ 20) : mI l yX6_count cX6_count 2 .int 3 68 G lo sa ad (WM G ad th g nf F f no O it ch R) [.ref (ad 50), .int x] (fun v R' => (K_count x = 0 ∧ v = m_count g nf F f no O (nn x) ∧ ∃ (it' ch' : Nat → Int32), R' = (WM G ad 0 g nf F f no O it' ch' R)) ∨ (¬ K_count x = 0 ∧ ∃ (it' ch' : Nat → Int32), R' = (WM G ad (K_count x) g nf F f no O it' ch' R))) := by
  refine mI_of (by decide) (Nat.le_of_ble_eq_true rfl) ?_
  intro p e s m args below meth c hF hr hlk hC ls hl hO hS Q hQ
  have hx := hF.1
  have hb := hF.2.1
  have hl : lv_has ls 2 [(0, .ref (ad 50)), (1, .int x)] := hl
  refine lv_aload_n hx hb dX6_count_0 rfl (lv_at hl 0 rfl) ?_
  refine lv_iconst (v := 0) hx hb dX6_count_1 (by decide) ?_
  refine m_put (ty := .int) tyX6 tyX6_ok nmX6 inX6 hF hC hO hS rfl rfl 0 (by decide) q_662 rfl (by decide +kernel) rfl rfl (fs' := [.int 0, .int (g 0), .int (g 1), .int (g 2), .int (nI nf), .ref (ad 51), .ref (ad 52), .int (nI no), .ref (ad 53), .int (g 3), .int (g 4), .int (g 5), .ref (ad 54), .ref (ad 55)]) (Nat.le_of_ble_eq_true rfl) rfl dX6_count_2 (fun H locs hO hS => ?_)
  have hO : mO G lo ad (mU (WM G ad th g nf F f no O it ch R) 50 (mxO ad 0 g nf no)) H := hO
  rw [WM_w0] at hO
  refine lv_iload_n hx hb dX6_count_5 rfl (lv_at hl 1 rfl) ?_
  refine lv_iconst (v := 0) hx hb dX6_count_6 (by decide) ?_
  refine lv_bipush (v := 8) hx hb dX6_count_7 (by decide) ?_
  refine m_sI (As := [.int x, .int 0, .int 8]) (rest := []) (n := 3) hF hC hO hS (k_X6_isIn l G lo sa ad _ x 0 8 ) ok_X6_isIn q_714 ⟨Nat.le_of_ble_eq_true rfl, Nat.le_of_ble_eq_true rfl⟩ rfl hl.1 rfl (Nat.le_of_ble_eq_true rfl) ⟨Nat.le_of_ble_eq_true rfl, Nat.le_of_ble_eq_true rfl⟩ dX6_count_9 (fun v9 R' H locs hp hO hS => ?_)
  obtain ⟨⟨rfl, b9⟩ | ⟨rfl, b9⟩, hR⟩ := hp
  · rw [hR] at hO
    refine lv_if_eq (tgt := 23) hx hb dX6_count_12 (by decide) (fun c12 => absurd c12 (by decide)) (fun c12 => ?_)
    obtain ⟨i, -, hi8, rfl⟩ := in_of (a := 0) (b := 8) (by decide) (by decide) b9
    have hcl : nn (nI i) = i := nn_nI (by omega)
    refine lv_aload_n hx hb dX6_count_15 rfl (lv_at hl 0 rfl) ?_
    refine lv_iload_n hx hb dX6_count_16 rfl (lv_at hl 1 rfl) ?_
    refine m_vI (As := [.int (nI i)]) (rest := []) (n := 1) hF hC hO hS (k_X6_counted l G lo sa ad R 0 g nf F f no O it ch i hnf hno (by omega)) ok_X6_counted q_869 rfl rfl ⟨Nat.le_of_ble_eq_true rfl, Nat.le_of_ble_eq_true rfl⟩ rfl hl.1 rfl (Nat.le_of_ble_eq_true rfl) ⟨Nat.le_of_ble_eq_true rfl, Nat.le_of_ble_eq_true rfl⟩ dX6_count_17 (fun v17 R' H locs hp hO hS => ?_)
    obtain ⟨rfl, hR⟩ := hp
    rw [hR] at hO
    refine lv_goto (tgt := 28) hx hb dX6_count_20 (by decide) ?_
    refine m_iret hF hr hlk hQ rfl hO hS dX6_count_28 ?_
    have hK : K_count (nI i) = 0 := by rw [K_count, if_pos b9]
    exact Or.inl ⟨hK, (by first | (simp only [hcl]; done) | rfl), it, ch, (by first | (simp only [hcl]; done) | rfl)⟩
  · rw [hR] at hO
    refine lv_if_eq (tgt := 23) hx hb dX6_count_12 (by decide) (fun c12 => ?_) (fun c12 => absurd (by decide) c12)
    refine lv_aload_n hx hb dX6_count_23 rfl (lv_at hl 0 rfl) ?_
    refine lv_iconst (v := 1) hx hb dX6_count_24 (by decide) ?_
    refine m_vI (As := [.int 1]) (rest := []) (n := 1) hF hC hO hS (k_X6_fail l G lo sa ad R 0 g nf F f no O it ch 1 hnf hno) ok_X6_fail q_717 rfl rfl ⟨Nat.le_of_ble_eq_true rfl, Nat.le_of_ble_eq_true rfl⟩ rfl hl.1 rfl (Nat.le_of_ble_eq_true rfl) ⟨Nat.le_of_ble_eq_true rfl, Nat.le_of_ble_eq_true rfl⟩ dX6_count_25 (fun v25 R' H locs hp hO hS => ?_)
    obtain ⟨rfl, hR⟩ := hp
    rw [hR] at hO
    refine m_iret hF hr hlk hQ rfl hO hS dX6_count_28 ?_
    have hK : K_count x = 1 := by rw [K_count, if_neg b9]
    exact Or.inr ⟨by rw [hK]; decide, it, ch, by rw [hK]⟩
theorem ok_X6_order : mOK RX6 yX6_order cX6_order 3 (some .int) 2 := ⟨q_854, q_855, q_6, q_856, by decide +kernel⟩
set_option maxHeartbeats 400000 in
set_option maxRecDepth 100000 in
theorem k_X6_order (l : Launch) (G : mG) (lo : Nat) (sa ad : Nat → Nat) (R : mM) (th : Int32) (g : Nat → Int32) (nf : Nat) (F : Nat → Nat → Int32) (f : Nat → Int32) (no : Nat) (O : Nat → Nat → Int32) (it ch : Nat → Int32) (x w : Int32) (hnf : nf ≤ 12) (hno : no ≤ 20) (hOk : ∀ j, j < no → ∃ kk zz, kk < 4 ∧ 1 ≤ zz ∧ zz ≤ 9 ∧ O j 0 = nI kk ∧ O j 1 = nI zz) : mI l yX6_order cX6_order 3 .int 3 67 G lo sa ad (WM G ad th g nf F f no O it ch R) [.ref (ad 50), .int x, .int w] (fun v R' => (K_order no x w = 0 ∧ v = V_order f (O (nn x)) (nn w) ∧ ∃ (it' ch' : Nat → Int32), R' = (WM G ad 0 g nf F f no O it' ch' R)) ∨ (¬ K_order no x w = 0 ∧ ∃ (it' ch' : Nat → Int32), R' = (WM G ad (K_order no x w) g nf F f no O it' ch' R))) := by
  refine mI_of (by decide) (Nat.le_of_ble_eq_true rfl) ?_
  intro p e s m args below meth c hF hr hlk hC ls hl hO hS Q hQ
  have hx := hF.1
  have hb := hF.2.1
  have hl : lv_has ls 3 [(0, .ref (ad 50)), (1, .int x), (2, .int w)] := hl
  refine lv_aload_n hx hb dX6_order_0 rfl (lv_at hl 0 rfl) ?_
  refine lv_iconst (v := 0) hx hb dX6_order_1 (by decide) ?_
  refine m_put (ty := .int) tyX6 tyX6_ok nmX6 inX6 hF hC hO hS rfl rfl 0 (by decide) q_662 rfl (by decide +kernel) rfl rfl (fs' := [.int 0, .int (g 0), .int (g 1), .int (g 2), .int (nI nf), .ref (ad 51), .ref (ad 52), .int (nI no), .ref (ad 53), .int (g 3), .int (g 4), .int (g 5), .ref (ad 54), .ref (ad 55)]) (Nat.le_of_ble_eq_true rfl) rfl dX6_order_2 (fun H locs hO hS => ?_)
  have hO : mO G lo ad (mU (WM G ad th g nf F f no O it ch R) 50 (mxO ad 0 g nf no)) H := hO
  rw [WM_w0] at hO
  refine lv_iload_n hx hb dX6_order_5 rfl (lv_at hl 1 rfl) ?_
  refine lv_iconst (v := 0) hx hb dX6_order_6 (by decide) ?_
  refine lv_aload_n hx hb dX6_order_7 rfl (lv_at hl 0 rfl) ?_
  refine m_get inX6 hF hC hO rfl rfl 7 (by decide) q_669 (v := .int (nI no)) rfl dX6_order_8 ?_
  refine lv_iconst (v := 1) hx hb dX6_order_11 (by decide) ?_
  refine lv_isub hx hb dX6_order_12 ?_
  refine m_sI (As := [.int x, .int 0, .int ((nI no) - 1)]) (rest := []) (n := 3) hF hC hO hS (k_X6_isIn l G lo sa ad _ x 0 ((nI no) - 1) ) ok_X6_isIn q_714 ⟨Nat.le_of_ble_eq_true rfl, Nat.le_of_ble_eq_true rfl⟩ rfl hl.1 rfl (Nat.le_of_ble_eq_true rfl) ⟨Nat.le_of_ble_eq_true rfl, Nat.le_of_ble_eq_true rfl⟩ dX6_order_13 (fun v13 R' H locs hp hO hS => ?_)
  obtain ⟨⟨rfl, b13⟩ | ⟨rfl, b13⟩, hR⟩ := hp
  · rw [hR] at hO
    refine lv_if_eq (tgt := 37) hx hb dX6_order_16 (by decide) (fun c16 => absurd c16 (by decide)) (fun c16 => ?_)
    refine lv_iload_n hx hb dX6_order_19 rfl (lv_at hl 2 rfl) ?_
    refine lv_iconst (v := 0) hx hb dX6_order_20 (by decide) ?_
    refine lv_iconst (v := 5) hx hb dX6_order_21 (by decide) ?_
    refine m_sI (As := [.int w, .int 0, .int 5]) (rest := []) (n := 3) hF hC hO hS (k_X6_isIn l G lo sa ad _ w 0 5 ) ok_X6_isIn q_714 ⟨Nat.le_of_ble_eq_true rfl, Nat.le_of_ble_eq_true rfl⟩ rfl hl.1 rfl (Nat.le_of_ble_eq_true rfl) ⟨Nat.le_of_ble_eq_true rfl, Nat.le_of_ble_eq_true rfl⟩ dX6_order_22 (fun v22 R' H locs hp hO hS => ?_)
    obtain ⟨⟨rfl, b22⟩ | ⟨rfl, b22⟩, hR⟩ := hp
    · rw [hR] at hO
      refine lv_if_eq (tgt := 37) hx hb dX6_order_25 (by decide) (fun c25 => absurd c25 (by decide)) (fun c25 => ?_)
      obtain ⟨i, hi, rfl⟩ := fr_of (by omega) b13
      have hcl : nn (nI i) = i := nn_nI (by omega)
      obtain ⟨kk, zz, hkk, hz1, hz9, hw0, hw1⟩ := hOk i hi
      have hn0 : nn (O i 0) = kk := by rw [hw0]; exact nn_nI (by omega)
      have hn1 : nn (O i 1) = zz := by rw [hw1]; exact nn_nI (by omega)
      obtain ⟨k, -, hk5, rfl⟩ := in_of (a := 0) (b := 5) (by decide) (by decide) b22
      have hcw : nn (nI k) = k := nn_nI (by omega)
      refine lv_aload_n hx hb dX6_order_28 rfl (lv_at hl 0 rfl) ?_
      refine lv_iload_n hx hb dX6_order_29 rfl (lv_at hl 1 rfl) ?_
      refine lv_iload_n hx hb dX6_order_30 rfl (lv_at hl 2 rfl) ?_
      refine m_vI (As := [.int (nI i), .int (nI k)]) (rest := []) (n := 2) hF hC hO hS (k_X6_orderTold l G lo sa ad R 0 g nf F f no O it ch i k kk zz hnf hno (by omega) (by omega) hkk hz1 hz9 hw0 hw1) ok_X6_orderTold q_857 rfl rfl ⟨Nat.le_of_ble_eq_true rfl, Nat.le_of_ble_eq_true rfl⟩ rfl hl.1 rfl (Nat.le_of_ble_eq_true rfl) ⟨Nat.le_of_ble_eq_true rfl, Nat.le_of_ble_eq_true rfl⟩ dX6_order_31 (fun v31 R' H locs hp hO hS => ?_)
      obtain ⟨rfl, hR⟩ := hp
      rw [hR] at hO
      refine lv_goto (tgt := 42) hx hb dX6_order_34 (by decide) ?_
      refine m_iret hF hr hlk hQ rfl hO hS dX6_order_42 ?_
      have hK : K_order no (nI i) (nI k) = 0 := by rw [K_order, if_pos b13, if_pos b22]
      exact Or.inl ⟨hK, (by first | (simp only [hcl, hcw, V_order, p_canFill, hn0, hn1]; done) | rfl), it, ch, (by first | (simp only [hcl, hcw, V_order, p_canFill, hn0, hn1]; done) | rfl)⟩
    · rw [hR] at hO
      refine lv_if_eq (tgt := 37) hx hb dX6_order_25 (by decide) (fun c25 => ?_) (fun c25 => absurd (by decide) c25)
      refine lv_aload_n hx hb dX6_order_37 rfl (lv_at hl 0 rfl) ?_
      refine lv_iconst (v := 1) hx hb dX6_order_38 (by decide) ?_
      refine m_vI (As := [.int 1]) (rest := []) (n := 1) hF hC hO hS (k_X6_fail l G lo sa ad R 0 g nf F f no O it ch 1 hnf hno) ok_X6_fail q_717 rfl rfl ⟨Nat.le_of_ble_eq_true rfl, Nat.le_of_ble_eq_true rfl⟩ rfl hl.1 rfl (Nat.le_of_ble_eq_true rfl) ⟨Nat.le_of_ble_eq_true rfl, Nat.le_of_ble_eq_true rfl⟩ dX6_order_39 (fun v39 R' H locs hp hO hS => ?_)
      obtain ⟨rfl, hR⟩ := hp
      rw [hR] at hO
      refine m_iret hF hr hlk hQ rfl hO hS dX6_order_42 ?_
      have hK : K_order no x w = 1 := by rw [K_order, if_pos b13, if_neg b22]
      exact Or.inr ⟨by rw [hK]; decide, it, ch, by rw [hK]⟩
  · rw [hR] at hO
    refine lv_if_eq (tgt := 37) hx hb dX6_order_16 (by decide) (fun c16 => ?_) (fun c16 => absurd (by decide) c16)
    refine lv_aload_n hx hb dX6_order_37 rfl (lv_at hl 0 rfl) ?_
    refine lv_iconst (v := 1) hx hb dX6_order_38 (by decide) ?_
    refine m_vI (As := [.int 1]) (rest := []) (n := 1) hF hC hO hS (k_X6_fail l G lo sa ad R 0 g nf F f no O it ch 1 hnf hno) ok_X6_fail q_717 rfl rfl ⟨Nat.le_of_ble_eq_true rfl, Nat.le_of_ble_eq_true rfl⟩ rfl hl.1 rfl (Nat.le_of_ble_eq_true rfl) ⟨Nat.le_of_ble_eq_true rfl, Nat.le_of_ble_eq_true rfl⟩ dX6_order_39 (fun v39 R' H locs hp hO hS => ?_)
    obtain ⟨rfl, hR⟩ := hp
    rw [hR] at hO
    refine m_iret hF hr hlk hQ rfl hO hS dX6_order_42 ?_
    have hK : K_order no x w = 1 := by rw [K_order, if_neg b13]
    exact Or.inr ⟨by rw [hK]; decide, it, ch, by rw [hK]⟩
theorem ok_X6_pass : mOK RX6 yX6_pass cX6_pass 3 (some .int) 1 := ⟨q_862, q_863, q_6, q_864, by decide +kernel⟩
set_option maxHeartbeats 400000 in
set_option maxRecDepth 100000 in
theorem k_X6_pass (l : Launch) (G : mG) (lo : Nat) (sa ad : Nat → Nat) (R : mM) (th : Int32) (g : Nat → Int32) (nf : Nat) (F : Nat → Nat → Int32) (f : Nat → Int32) (no : Nat) (O : Nat → Nat → Int32) (it ch : Nat → Int32) (x : Int32) (hnf : nf ≤ 12) (hno : no ≤ 20) : mI l yX6_pass cX6_pass 3 .int 3 65 G lo sa ad (WM G ad th g nf F f no O it ch R) [.ref (ad 50), .int x] (fun v R' => (K_pass x = 0 ∧ v = m_pG (nn x) g 1 ∧ ∃ (it' ch' : Nat → Int32), R' = (WM G ad 0 (m_pG (nn x) g) nf (m_pF (nn x) nf 12 F) f no (m_pO (nn x) no g O) it' ch' R)) ∨ (¬ K_pass x = 0 ∧ ∃ (it' ch' : Nat → Int32), R' = (WM G ad (K_pass x) g nf F f no O it' ch' R))) := by
  refine mI_of (by decide) (Nat.le_of_ble_eq_true rfl) ?_
  intro p e s m args below meth c hF hr hlk hC ls hl hO hS Q hQ
  have hx := hF.1
  have hb := hF.2.1
  have hl : lv_has ls 3 [(0, .ref (ad 50)), (1, .int x)] := hl
  refine lv_aload_n hx hb dX6_pass_0 rfl (lv_at hl 0 rfl) ?_
  refine lv_iconst (v := 0) hx hb dX6_pass_1 (by decide) ?_
  refine m_put (ty := .int) tyX6 tyX6_ok nmX6 inX6 hF hC hO hS rfl rfl 0 (by decide) q_662 rfl (by decide +kernel) rfl rfl (fs' := [.int 0, .int (g 0), .int (g 1), .int (g 2), .int (nI nf), .ref (ad 51), .ref (ad 52), .int (nI no), .ref (ad 53), .int (g 3), .int (g 4), .int (g 5), .ref (ad 54), .ref (ad 55)]) (Nat.le_of_ble_eq_true rfl) rfl dX6_pass_2 (fun H locs hO hS => ?_)
  have hO : mO G lo ad (mU (WM G ad th g nf F f no O it ch R) 50 (mxO ad 0 g nf no)) H := hO
  rw [WM_w0] at hO
  refine lv_iload_n hx hb dX6_pass_5 rfl (lv_at hl 1 rfl) ?_
  refine lv_iconst (v := 1) hx hb dX6_pass_6 (by decide) ?_
  refine lv_sipush (v := 400) hx hb dX6_pass_7 (by decide) ?_
  refine m_sI (As := [.int x, .int 1, .int 400]) (rest := []) (n := 3) hF hC hO hS (k_X6_isIn l G lo sa ad _ x 1 400 ) ok_X6_isIn q_714 ⟨Nat.le_of_ble_eq_true rfl, Nat.le_of_ble_eq_true rfl⟩ rfl hl.1 rfl (Nat.le_of_ble_eq_true rfl) ⟨Nat.le_of_ble_eq_true rfl, Nat.le_of_ble_eq_true rfl⟩ dX6_pass_10 (fun v10 R' H locs hp hO hS => ?_)
  obtain ⟨⟨rfl, b10⟩ | ⟨rfl, b10⟩, hR⟩ := hp
  · rw [hR] at hO
    refine lv_if_ne (tgt := 22) hx hb dX6_pass_13 (by decide) (fun c13 => ?_) (fun c13 => absurd c13 (by decide))
    obtain ⟨N, hN1, hN4, rfl⟩ := in_of (a := 1) (b := 400) (by decide) (by decide) b10
    have hcl : nn (nI N) = N := nn_nI (by omega)
    refine lv_iconst (v := 0) hx hb dX6_pass_22 (by decide) ?_
    refine lv_istore_n (lv' := [(2, .int 0), (0, .ref (ad 50)), (1, .int (nI N))]) hx hb dX6_pass_23 rfl hl (by decide) rfl (fun ls hl => ?_)
    have L24 : ∀ (n : Nat) (j : Nat) (g9 : Nat → Int32) (F9 : Nat → Nat → Int32) (O9 : Nat → Nat → Int32) (H : Heap) (locs : List Loc) (ls : Array Slot), N - j < n → j ≤ N → m_pG (N - j) g9 = m_pG N g → m_pF (N - j) nf 12 F9 = m_pF N nf 12 F → m_pO (N - j) no g9 O9 = m_pO N no g O → lv_has ls 3 [(0, .ref (ad 50)), (1, .int (nI N)), (2, .int (nI j))] → mO G lo ad (WM G ad 0 g9 nf F9 f no O9 it ch R) H → va_S (mA lo) s.heap H locs → W p l e (mRm 3 65) s m args below meth c H locs 0 0 Q (F0 m 24 ls []) := by
      intro n
      induction n with
      | zero => intro j g9 F9 O9 H locs ls hn; exact absurd hn (Nat.not_lt_zero _)
      | succ n ih24 =>
        intro j g9 F9 O9 H locs ls hn24 hj hvg hvF hvO hl hO hS
        refine lv_iload_n hx hb dX6_pass_24 rfl (lv_at hl 2 rfl) ?_
        refine lv_iload_n hx hb dX6_pass_25 rfl (lv_at hl 1 rfl) ?_
        refine lv_icmp_ge (tgt := 40) hx hb dX6_pass_26 (by decide) (fun c26 => ?_) (fun c26 => ?_)
        · refine lv_aload_n hx hb dX6_pass_40 rfl (lv_at hl 0 rfl) ?_
          refine m_get inX6 hF hC hO rfl rfl 2 (by decide) q_664 (v := .int (g9 1)) rfl dX6_pass_41 ?_
          refine m_iret hF hr hlk hQ rfl hO hS dX6_pass_44 ?_
          have e9 : j = N := Nat.le_antisymm hj (nI_E (a := N) (b := j) (by omega) (by omega) c26)
          subst e9
          rw [Nat.sub_self] at hvg hvF hvO
          have hK : K_pass (nI j) = 0 := by rw [K_pass, if_pos b10]
          exact Or.inl ⟨hK, by rw [hcl, ← hvg]; rfl, it, ch, by rw [hcl, ← hvg, ← hvF, ← hvO]; rfl⟩
        · refine lv_aload_n hx hb dX6_pass_29 rfl (lv_at hl 0 rfl) ?_
          refine lv_iconst (v := -1) hx hb dX6_pass_30 (by decide) ?_
          refine m_vV (As := [.int (-1)]) (rest := []) (n := 1) hF hC hO hS (k_X6_quarterOn l G lo sa ad R 0 g9 nf F9 f no O9 it ch 12 (-1) hnf hno (fun i hi => ⟨fun h => absurd h (by rcases (show i = 0 ∨ i = 1 ∨ i = 2 ∨ i = 3 ∨ i = 4 ∨ i = 5 ∨ i = 6 ∨ i = 7 ∨ i = 8 ∨ i = 9 ∨ i = 10 ∨ i = 11 by omega) with h | h | h | h | h | h | h | h | h | h | h | h <;> subst h <;> decide), fun h => by omega⟩)) ok_X6_quarterOn q_793 rfl rfl ⟨Nat.le_of_ble_eq_true rfl, Nat.le_of_ble_eq_true rfl⟩ rfl hl.1 rfl (Nat.le_of_ble_eq_true rfl) ⟨Nat.le_of_ble_eq_true rfl, Nat.le_of_ble_eq_true rfl⟩ dX6_pass_31 (fun R' H locs hp hO hS => ?_)
          have hR := hp
          rw [hR] at hO
          refine lv_iinc (v := (nI (j + 1))) (lv' := [(2, .int (nI (j + 1))), (0, .ref (ad 50)), (1, .int (nI N))]) hx hb dX6_pass_34 hl (k := 2) rfl (nI_inc j) (by decide) rfl (fun ls hl => ?_)
          refine lv_goto (tgt := 24) hx hb dX6_pass_37 (by decide) ?_
          exact ih24 (j + 1) (m_qG g9) (m_coolTo nf 12 F9) (m_qO no g9 O9) _ _ _ (by have := (nI_nE (a := N) (b := j) (by omega) (by omega) c26); omega) (by have := (nI_nE (a := N) (b := j) (by omega) (by omega) c26); omega) (by have := (nI_nE (a := N) (b := j) (by omega) (by omega) c26); rw [← hvg, show N - j = (N - (j + 1)) + 1 from by omega]; rfl) (by have := (nI_nE (a := N) (b := j) (by omega) (by omega) c26); rw [← hvF, show N - j = (N - (j + 1)) + 1 from by omega]; rfl) (by have := (nI_nE (a := N) (b := j) (by omega) (by omega) c26); rw [← hvO, show N - j = (N - (j + 1)) + 1 from by omega]; rfl) (lv_sub hl [1, 2, 0] rfl) hO hS
    exact L24 _ 0 g F O _ _ _ (Nat.lt_succ_self _) (by omega) rfl rfl rfl (lv_sub hl [1, 2, 0] rfl) hO hS
  · rw [hR] at hO
    refine lv_if_ne (tgt := 22) hx hb dX6_pass_13 (by decide) (fun c13 => absurd (by decide) c13) (fun c13 => ?_)
    refine lv_aload_n hx hb dX6_pass_16 rfl (lv_at hl 0 rfl) ?_
    refine lv_iconst (v := 1) hx hb dX6_pass_17 (by decide) ?_
    refine m_vI (As := [.int 1]) (rest := []) (n := 1) hF hC hO hS (k_X6_fail l G lo sa ad R 0 g nf F f no O it ch 1 hnf hno) ok_X6_fail q_717 rfl rfl ⟨Nat.le_of_ble_eq_true rfl, Nat.le_of_ble_eq_true rfl⟩ rfl hl.1 rfl (Nat.le_of_ble_eq_true rfl) ⟨Nat.le_of_ble_eq_true rfl, Nat.le_of_ble_eq_true rfl⟩ dX6_pass_18 (fun v18 R' H locs hp hO hS => ?_)
    obtain ⟨rfl, hR⟩ := hp
    rw [hR] at hO
    refine m_iret hF hr hlk hQ rfl hO hS dX6_pass_21 ?_
    have hK : K_pass x = 1 := by rw [K_pass, if_neg b10]
    exact Or.inr ⟨by rw [hK]; decide, it, ch, by rw [hK]⟩
