def N_F (k w : Int32) : Nat → Int32 := upd (upd (upd (fun _ => 0) 5 (-1)) 0 k) 1 w
def N_O (k z u w : Int32) : Nat → Int32 := upd (upd (upd (upd (upd (fun _ => 0) 4 0) 0 k) 1 z) 2 u) 3 w
theorem p_m7 (i : Nat) : (7 : Int32) * nI i = nI (7 * i) := by rw [show (7 : Int32) = nI 7 from rfl, pk_mul]
theorem p_m5 (i : Nat) : (5 : Int32) * nI i = nI (5 * i) := by rw [show (5 : Int32) = nI 5 from rfl, pk_mul]
theorem nI_nneg {i : Nat} (h : i < 2 ^ 31) : ¬ nI i < 0 := nI_nlt (a := i) (b := 0) (by omega) h
theorem WC_Fn {G : mG} {ad : Nat → Nat} {g : Nat → Int32} {nf no : Nat} {F O : Nat → Nat → Int32} {f tf tv fw : Nat → Int32} {R : mM} {i : Nat} (h1 : nf ≤ i) (h2 : i < 12) : WC G ad g nf F f no O tf tv fw R (100 + i) = none := by
  unfold WC
  rw [if_neg (by omega), if_pos (by omega), if_neg (by omega)]
theorem WC_On {G : mG} {ad : Nat → Nat} {g : Nat → Int32} {nf no : Nat} {F O : Nat → Nat → Int32} {f tf tv fw : Nat → Int32} {R : mM} {i : Nat} (h1 : no ≤ i) (h2 : i < 20) : WC G ad g nf F f no O tf tv fw R (120 + i) = none := by
  unfold WC
  rw [if_neg (by omega), if_neg (by omega), if_pos (by omega), if_neg (by omega)]
theorem adF_ad {ad ad1 : Nat → Nat} {b n : Nat} (h : ∀ x, b ≤ x ∧ x < b + n → ad x = ad1 x) : adF ad b n = adF ad1 b n := by
  funext i
  unfold adF
  by_cases hi : i < n
  · rw [if_pos hi, if_pos hi, h (b + i) (by omega)]
  · rw [if_neg hi, if_neg hi]
theorem WC_ad {G : mG} {ad ad1 : Nat → Nat} {g : Nat → Int32} {nf no : Nat} {F O : Nat → Nat → Int32} {f tf tv fw : Nat → Int32} {R : mM} (h : ∀ x, (x < 10 ∨ (100 ≤ x ∧ x < 100 + nf) ∨ (120 ≤ x ∧ x < 120 + no)) → ad x = ad1 x) :
    WC G ad g nf F f no O tf tv fw R = WC G ad1 g nf F f no O tf tv fw R := by
  funext r
  unfold WC
  by_cases h10 : r < 10
  · rw [if_pos h10, if_pos h10]
    rcases (show r = 0 ∨ r = 1 ∨ r = 2 ∨ r = 3 ∨ r = 4 ∨ r = 5 ∨ r = 6 ∨ r = 7 ∨ r = 8 ∨ r = 9 by omega) with rfl | rfl | rfl | rfl | rfl | rfl | rfl | rfl | rfl | rfl
    · show some (xO ad g) = some (xO ad1 g)
      rw [xO, xO, h 1 (by omega), h 2 (by omega), h 3 (by omega), h 5 (by omega), h 6 (by omega), h 9 (by omega)]
    · rfl
    · show some (fsA G ad nf) = some (fsA G ad1 nf)
      rw [fsA, fsA, adF_ad (ad := ad) (ad1 := ad1) (fun x hx => h x (by omega))]
    · show some (Sum.inr (2, [Value.ref (ad 4)]) : va_E) = some (Sum.inr (2, [Value.ref (ad1 4)]))
      rw [h 4 (by omega)]
    · rfl
    · show some (osA G ad no) = some (osA G ad1 no)
      rw [osA, osA, adF_ad (ad := ad) (ad1 := ad1) (fun x hx => h x (by omega))]
    · show some (Sum.inr (3, [Value.ref (ad 7), Value.ref (ad 8)]) : va_E) = some (Sum.inr (3, [Value.ref (ad1 7), Value.ref (ad1 8)]))
      rw [h 7 (by omega), h 8 (by omega)]
    · rfl
    · rfl
    · rfl
  · rw [if_neg h10, if_neg h10]
theorem WM_ad {G : mG} {ad ad1 : Nat → Nat} {th : Int32} {g : Nat → Int32} {nf no : Nat} {F O : Nat → Nat → Int32} {f it ch : Nat → Int32} {R : mM} (h : ∀ x, 50 ≤ x → x < 56 → ad x = ad1 x) :
    WM G ad th g nf F f no O it ch R = WM G ad1 th g nf F f no O it ch R := by
  funext r
  unfold WM
  by_cases h10 : 50 ≤ r ∧ r < 56
  · rw [if_pos h10, if_pos h10]
    rcases (show r = 50 ∨ r = 51 ∨ r = 52 ∨ r = 53 ∨ r = 54 ∨ r = 55 by omega) with rfl | rfl | rfl | rfl | rfl | rfl
    · show some (mxO ad th g nf no) = some (mxO ad1 th g nf no)
      rw [mxO, mxO, h 51 (by omega) (by omega), h 52 (by omega) (by omega), h 53 (by omega) (by omega), h 54 (by omega) (by omega), h 55 (by omega) (by omega)]
    · rfl
    · rfl
    · rfl
    · rfl
    · rfl
  · rw [if_neg h10, if_neg h10]
theorem adF_up {ad : Nat → Nat} {b n : Nat} : va_up (adF ad b n) n (some (ad (b + n))) = adF ad b (n + 1) := by
  funext i
  unfold va_up adF
  by_cases h : i = n
  · subst h; rw [if_pos rfl, if_pos (by omega)]
  · rw [if_neg h]
    by_cases h2 : i < n
    · rw [if_pos h2, if_pos (by omega)]
    · rw [if_neg h2, if_neg (by omega)]
theorem WC_addF {G : mG} {ad : Nat → Nat} {g : Nat → Int32} {nf no : Nat} {F O : Nat → Nat → Int32} {f tf tv fw x : Nat → Int32} {R : mM} (hn : nf < 12) :
    mU (mU (WC G ad g nf F f no O tf tv fw R) (100 + nf) (frO x)) 2 (.inl (G.2 3, 12, .inr (.inr (.inr (.inr (va_up (adF ad 100 nf) nf (some (ad (100 + nf))))))))) = WC G ad g (nf + 1) (va_up F nf x) f no O tf tv fw R := by
  rw [adF_up]
  funext r
  by_cases h2 : r = 2
  · subst h2; rw [mU_self]; rfl
  · rw [mU_ne h2]
    by_cases hr : r = 100 + nf
    · subst hr
      rw [mU_self, WC_F (by omega) (by omega)]
      simp [va_up]
    · rw [mU_ne hr]
      unfold WC
      by_cases h10 : r < 10
      · rw [if_pos h10, if_pos h10]
        rcases (show r = 0 ∨ r = 1 ∨ r = 3 ∨ r = 4 ∨ r = 5 ∨ r = 6 ∨ r = 7 ∨ r = 8 ∨ r = 9 by omega) with rfl | rfl | rfl | rfl | rfl | rfl | rfl | rfl | rfl <;> rfl
      · rw [if_neg h10, if_neg h10]
        by_cases h3 : 100 ≤ r ∧ r < 112
        · rw [if_pos h3, if_pos h3]
          by_cases h4 : r < 100 + nf
          · have h5 : ¬ r - 100 = nf := by omega
            rw [if_pos h4, if_pos (by omega)]
            simp [va_up, h5]
          · rw [if_neg h4, if_neg (by omega)]
        · rw [if_neg h3, if_neg h3]
theorem WC_addO {G : mG} {ad : Nat → Nat} {g : Nat → Int32} {nf no : Nat} {F O : Nat → Nat → Int32} {f tf tv fw x : Nat → Int32} {R : mM} (hn : no < 20) :
    mU (mU (WC G ad g nf F f no O tf tv fw R) (120 + no) (orO x)) 5 (.inl (G.2 4, 20, .inr (.inr (.inr (.inr (va_up (adF ad 120 no) no (some (ad (120 + no))))))))) = WC G ad g nf F f (no + 1) (va_up O no x) tf tv fw R := by
  rw [adF_up]
  funext r
  by_cases h2 : r = 5
  · subst h2; rw [mU_self]; rfl
  · rw [mU_ne h2]
    by_cases hr : r = 120 + no
    · subst hr
      rw [mU_self, WC_O (by omega) (by omega)]
      simp [va_up]
    · rw [mU_ne hr]
      unfold WC
      by_cases h10 : r < 10
      · rw [if_pos h10, if_pos h10]
        rcases (show r = 0 ∨ r = 1 ∨ r = 2 ∨ r = 3 ∨ r = 4 ∨ r = 6 ∨ r = 7 ∨ r = 8 ∨ r = 9 by omega) with rfl | rfl | rfl | rfl | rfl | rfl | rfl | rfl | rfl <;> rfl
      · rw [if_neg h10, if_neg h10]
        by_cases h3 : 100 ≤ r ∧ r < 112
        · rw [if_pos h3, if_pos h3]
        · rw [if_neg h3, if_neg h3]
          by_cases h6 : 120 ≤ r ∧ r < 140
          · rw [if_pos h6, if_pos h6]
            by_cases h4 : r < 120 + no
            · have h5 : ¬ r - 120 = no := by omega
              rw [if_pos h4, if_pos (by omega)]
              simp [va_up, h5]
            · rw [if_neg h4, if_neg (by omega)]
          · rw [if_neg h6, if_neg h6]
theorem tab_new {F : Nat → Nat → Int32} {i : Nat} {k w : Int32} (_h : i < 2 ^ 20) : va_cpy (upd (upd (upd (upd (upd (upd (upd (fun _ => 0) 0 k) 1 w) 2 0) 3 0) 4 0) 5 (-1)) 6 0) (tabF F) 0 (7 * i) 7 = tabF (va_up F i (N_F k w)) := by
  funext j
  show (if 7 * i ≤ j ∧ j < 7 * i + 7 then _ else tabF F j) = (if j / 7 = i then N_F k w else F (j / 7)) (j % 7)
  by_cases h : 7 * i ≤ j ∧ j < 7 * i + 7
  · rw [if_pos h, if_pos (by omega)]
    have hj : j % 7 = j - 7 * i := by omega
    rw [hj]
    rcases (show j - 7 * i = 0 ∨ j - 7 * i = 1 ∨ j - 7 * i = 2 ∨ j - 7 * i = 3 ∨ j - 7 * i = 4 ∨ j - 7 * i = 5 ∨ j - 7 * i = 6 by omega) with q | q | q | q | q | q | q <;> rw [q] <;> rfl
  · rw [if_neg h, if_neg (by omega)]
theorem ot_new {F : Nat → Nat → Int32} {i : Nat} {k z u w : Int32} (_h : i < 2 ^ 20) : va_cpy (upd (upd (upd (upd (upd (fun _ => 0) 0 k) 1 z) 2 u) 3 w) 4 0) (otF F) 0 (5 * i) 5 = otF (va_up F i (N_O k z u w)) := by
  funext j
  show (if 5 * i ≤ j ∧ j < 5 * i + 5 then _ else otF F j) = (if j / 5 = i then N_O k z u w else F (j / 5)) (j % 5)
  by_cases h : 5 * i ≤ j ∧ j < 5 * i + 5
  · rw [if_pos h, if_pos (by omega)]
    have hj : j % 5 = j - 5 * i := by omega
    rw [hj]
    rcases (show j - 5 * i = 0 ∨ j - 5 * i = 1 ∨ j - 5 * i = 2 ∨ j - 5 * i = 3 ∨ j - 5 * i = 4 by omega) with q | q | q | q | q <;> rw [q] <;> rfl
  · rw [if_neg h, if_neg (by omega)]
theorem WM_back {G : mG} {lo : Nat} {ad ad1 : Nat → Nat} {th : Int32} {g : Nat → Int32} {nf no : Nat} {F O : Nat → Nat → Int32} {f it ch : Nat → Int32} {R : mM} {e : va_E} {H : Heap} (had : ∀ x, x ≠ 200 → ad x = ad1 x) (hz : R 200 = none)
    (h : mO G lo ad1 (mU (WM G ad1 th g nf F f no O it ch R) 200 e) H) : mO G lo ad (WM G ad th g nf F f no O it ch R) H := by
  have hz2 : WM G ad1 th g nf F f no O it ch R 200 = none := hz
  have h1 : mO G lo ad1 (WM G ad1 th g nf F f no O it ch R) H := h.drop (fun r x hx => by
    have hne : r ≠ 200 := fun q => by rw [q, hz2] at hx; cases hx
    rw [mU_ne hne]; exact hx)
  rw [WM_ad (ad := ad) (ad1 := ad1) (fun x _ h2 => had x (by omega))]
  exact h1.addr (fun r x hx => had r (fun q => by rw [q, hz2] at hx; cases hx))
theorem ok_X5_addFrame : mOK RX5 yX5_addFrame cX5_addFrame 4 (some .int) 2 := ⟨q_552, q_553, q_1, q_554, by decide +kernel⟩
set_option maxHeartbeats 400000 in
set_option maxRecDepth 100000 in
theorem k_X5_addFrame (l : Launch) (G : mG) (lo : Nat) (sa : mSc) (ad : Nat → Nat) (R : mM) (g : Nat → Int32) (nf : Nat) (F : Nat → Nat → Int32) (f : Nat → Int32) (no : Nat) (O : Nat → Nat → Int32) (tf tv fw : Nat → Int32) (k w : Int32) (hnf : nf ≤ 12) (hno : no ≤ 20) (hlt : nf < 12) (hk : p_in k 0 3) (hw : p_in w 1 20) : nI' l yX5_addFrame cX5_addFrame 4 .int 2 42 1 7 G lo sa ad (WC G ad g nf F f no O tf tv fw R) [.ref (ad 0), .int k, .int w] (fun v u' => v = nI nf ∧ (∀ x, x ≠ 100 + nf → ad x = u'.1 x) ∧ u'.2 = WC G u'.1 g (nf + 1) (va_up F nf (N_F k w)) f no O tf tv fw R) := by
  refine nI_of' (by decide) (Nat.le_of_ble_eq_true rfl) ?_
  intro p e s m args below meth c hF hr hlk hC ls hl hO hS Q hQ
  have hx := hF.1
  have hb := hF.2.1
  have hl : lv_has ls 4 [(0, .ref (ad 0)), (1, .int k), (2, .int w)] := hl
  refine lv_iload_n hx hb dX5_addFrame_0 rfl (lv_at hl 1 rfl) ?_
  refine lv_iconst (v := 0) hx hb dX5_addFrame_1 (by decide) ?_
  refine lv_iconst (v := 3) hx hb dX5_addFrame_2 (by decide) ?_
  refine m_sI (As := [.int k, .int 0, .int 3]) (rest := []) (n := 3) hF hC hO hS (k_X5_within l G lo sa ad _ k 0 3 ) ok_X5_within q_347 ⟨Nat.le_of_ble_eq_true rfl, Nat.le_of_ble_eq_true rfl⟩ rfl hl.1 rfl (Nat.le_of_ble_eq_true rfl) ⟨Nat.le_of_ble_eq_true rfl, Nat.le_of_ble_eq_true rfl⟩ dX5_addFrame_3 (fun v3 R' H locs hp hO hS => ?_)
  obtain ⟨⟨rfl, b3⟩ | ⟨rfl, b3⟩, hR⟩ := hp
  · rw [hR] at hO
    refine lv_if_eq (tgt := 19) hx hb dX5_addFrame_6 (by decide) (fun c6 => absurd c6 (by decide)) (fun c6 => ?_)
    refine lv_iload_n hx hb dX5_addFrame_9 rfl (lv_at hl 2 rfl) ?_
    refine lv_iconst (v := 1) hx hb dX5_addFrame_10 (by decide) ?_
    refine lv_bipush (v := 20) hx hb dX5_addFrame_11 (by decide) ?_
    refine m_sI (As := [.int w, .int 1, .int 20]) (rest := []) (n := 3) hF hC hO hS (k_X5_within l G lo sa ad _ w 1 20 ) ok_X5_within q_347 ⟨Nat.le_of_ble_eq_true rfl, Nat.le_of_ble_eq_true rfl⟩ rfl hl.1 rfl (Nat.le_of_ble_eq_true rfl) ⟨Nat.le_of_ble_eq_true rfl, Nat.le_of_ble_eq_true rfl⟩ dX5_addFrame_13 (fun v13 R' H locs hp hO hS => ?_)
    obtain ⟨⟨rfl, b13⟩ | ⟨rfl, b13⟩, hR⟩ := hp
    · rw [hR] at hO
      refine lv_if_ne (tgt := 29) hx hb dX5_addFrame_16 (by decide) (fun c16 => ?_) (fun c16 => absurd c16 (by decide))
      refine lv_aload_n hx hb dX5_addFrame_29 rfl (lv_at hl 0 rfl) ?_
      refine m_vI (As := []) (rest := []) (n := 0) hF hC hO hS (k_X5_framesMade l G lo sa ad R g nf F f no O tf tv fw hnf hno) ok_X5_framesMade q_387 (rfl) rfl ⟨Nat.le_of_ble_eq_true rfl, Nat.le_of_ble_eq_true rfl⟩ rfl hl.1 rfl (Nat.le_of_ble_eq_true rfl) ⟨Nat.le_of_ble_eq_true rfl, Nat.le_of_ble_eq_true rfl⟩ dX5_addFrame_30 (fun v30 R' H locs hp hO hS => ?_)
      obtain ⟨rfl, hR⟩ := hp
      rw [hR] at hO
      refine lv_istore_n (lv' := [(3, .int (nI nf)), (0, .ref (ad 0)), (1, .int k), (2, .int w)]) hx hb dX5_addFrame_33 rfl hl (by decide) rfl (fun ls hl => ?_)
      refine lv_iload_n hx hb dX5_addFrame_34 rfl (lv_at hl 0 rfl) ?_
      refine lv_aload_n hx hb dX5_addFrame_35 rfl (lv_at hl 1 rfl) ?_
      refine m_get inX5 hF hC hO (rfl) rfl 1 (by decide) q_112 (v := .ref (ad 2)) rfl dX5_addFrame_36 ?_
      refine m_alen 3 hF hC hO (rfl) rfl (v := 12) rfl dX5_addFrame_39 ?_
      refine lv_icmp_lt (tgt := 53) hx hb dX5_addFrame_40 (by decide) (fun c40 => ?_) (fun c40 => absurd ((nI_lt (a := nf) (b := 12) hlt (by decide))) c40)
      refine lv_aload_n hx hb dX5_addFrame_53 rfl (lv_at hl 1 rfl) ?_
      refine m_get inX5 hF hC hO (rfl) rfl 1 (by decide) q_112 (v := .ref (ad 2)) rfl dX5_addFrame_54 ?_
      refine lv_iload_n hx hb dX5_addFrame_57 rfl (lv_at hl 0 rfl) ?_
      refine m_new (ci := 0) (r := (100 + nf)) (fs := [.int 0, .int 0, .int 0, .int 0, .int 0, .int 0, .int 0]) tyX0 tyX0_ok inX0 hF hC hO hS ((WC_Fn (by omega) (by omega))) q_45 q_67 q_5 rfl (by decide) ⟨Nat.le_of_ble_eq_true rfl, Nat.le_of_ble_eq_true rfl⟩ dX5_addFrame_58 (fun ad1 H had1 hO hS => ?_)
      rw [WC_ad (ad1 := ad1) (fun x hx => had1 x (by omega))] at hO
      try simp only [had1 0 (by omega), had1 1 (by omega), had1 2 (by omega), had1 3 (by omega), had1 4 (by omega), had1 5 (by omega), had1 6 (by omega), had1 7 (by omega), had1 8 (by omega), had1 9 (by omega)] at hO
      try simp only [had1 0 (by omega), had1 1 (by omega), had1 2 (by omega), had1 3 (by omega), had1 4 (by omega), had1 5 (by omega), had1 6 (by omega), had1 7 (by omega), had1 8 (by omega), had1 9 (by omega)] at hl
      try simp only [had1 0 (by omega), had1 1 (by omega), had1 2 (by omega), had1 3 (by omega), had1 4 (by omega), had1 5 (by omega), had1 6 (by omega), had1 7 (by omega), had1 8 (by omega), had1 9 (by omega)]
      have hO : mO G lo ad1 (mU (WC G ad1 g nf F f no O tf tv fw R) (100 + nf) (frO (fun _ => 0))) H := hO
      refine lv_dup hx hb dX5_addFrame_61 rfl ?_
      refine lv_iload_n hx hb dX5_addFrame_62 rfl (lv_at hl 2 rfl) ?_
      refine lv_iload_n hx hb dX5_addFrame_63 rfl (lv_at hl 3 rfl) ?_
      refine m_iV (As := [.int k, .int w]) (rest := [.ref (ad1 (100 + nf)), .int (nI nf), .ref (ad1 2)]) (n := 2) hF hC hO hS (k_X0_init l G lo sa ad1 _ (100 + nf) (fun _ => 0) k w (mU_self)) ok_X0_init q_557 ⟨Nat.le_of_ble_eq_true rfl, Nat.le_of_ble_eq_true rfl⟩ rfl hl.1 rfl (Nat.le_of_ble_eq_true rfl) ⟨Nat.le_of_ble_eq_true rfl, Nat.le_of_ble_eq_true rfl⟩ dX5_addFrame_64 (fun R' H locs hp hO hS => ?_)
      have hR := hp
      rw [hR] at hO
      have hO : mO G lo ad1 (mU (mU (WC G ad1 g nf F f no O tf tv fw R) (100 + nf) (frO (fun _ => 0))) (100 + nf) (frO (upd (upd (upd (fun _ => 0) 5 (-1)) 0 k) 1 w))) H := hO
      rw [mU_mU] at hO
      refine m_qast (ci := 0) (j := nf) hF hC hO hS ((mU_ne (by omega : 2 ≠ (100 + nf))).trans (rfl)) (mU_self) rfl rfl (nI_clamp (by omega)) (vp_in_nI hlt (by decide)) dX5_addFrame_67 (fun H locs hO hS => ?_)
      rw [WC_addF hlt] at hO
      refine lv_iload_n hx hb dX5_addFrame_68 rfl (lv_at hl 0 rfl) ?_
      refine m_niret hF hr hlk hQ (by decide) rfl hO hS dX5_addFrame_69 ?_
      exact ⟨rfl, had1, rfl⟩
    · exact absurd hw b13
  · exact absurd hk b3
theorem ok_X5_addOrder : mOK RX5 yX5_addOrder cX5_addOrder 6 (some .int) 4 := ⟨q_627, q_628, q_1, q_629, by decide +kernel⟩
set_option maxHeartbeats 400000 in
set_option maxRecDepth 100000 in
theorem k_X5_addOrder (l : Launch) (G : mG) (lo : Nat) (sa : mSc) (ad : Nat → Nat) (R : mM) (g : Nat → Int32) (nf : Nat) (F : Nat → Nat → Int32) (f : Nat → Int32) (no : Nat) (O : Nat → Nat → Int32) (tf tv fw : Nat → Int32) (k z y w : Int32) (hnf : nf ≤ 12) (hno : no ≤ 20) (hlt : no < 20) (hk : p_in k 0 3) (hz : p_in z 1 9) (hy : p_in y 1 60) (hw : p_in w (g 3 / 40) 1000) : nI' l yX5_addOrder cX5_addOrder 6 .int 2 44 1 5 G lo sa ad (WC G ad g nf F f no O tf tv fw R) [.ref (ad 0), .int k, .int z, .int y, .int w] (fun v u' => v = nI no ∧ (∀ x, x ≠ 120 + no → ad x = u'.1 x) ∧ u'.2 = WC G u'.1 g nf F f (no + 1) (va_up O no (N_O k z y w)) tf tv fw R) := by
  refine nI_of' (by decide) (Nat.le_of_ble_eq_true rfl) ?_
  intro p e s m args below meth c hF hr hlk hC ls hl hO hS Q hQ
  have hx := hF.1
  have hb := hF.2.1
  have hl : lv_has ls 6 [(0, .ref (ad 0)), (1, .int k), (2, .int z), (3, .int y), (4, .int w)] := hl
  refine lv_iload_n hx hb dX5_addOrder_0 rfl (lv_at hl 1 rfl) ?_
  refine lv_iload_n hx hb dX5_addOrder_1 rfl (lv_at hl 2 rfl) ?_
  refine m_sI (As := [.int k, .int z]) (rest := []) (n := 2) hF hC hO hS (k_X2_hasShelf l G lo sa ad _ k z ) ok_X2_hasShelf q_357 ⟨Nat.le_of_ble_eq_true rfl, Nat.le_of_ble_eq_true rfl⟩ rfl hl.1 rfl (Nat.le_of_ble_eq_true rfl) ⟨Nat.le_of_ble_eq_true rfl, Nat.le_of_ble_eq_true rfl⟩ dX5_addOrder_2 (fun v2 R' H locs hp hO hS => ?_)
  obtain ⟨⟨rfl, b2⟩ | ⟨rfl, b2⟩, hR⟩ := hp
  · rw [hR] at hO
    refine lv_if_ne (tgt := 18) hx hb dX5_addOrder_5 (by decide) (fun c5 => ?_) (fun c5 => absurd c5 (by decide))
    refine lv_iload_n hx hb dX5_addOrder_18 rfl (lv_at hl 3 rfl) ?_
    refine lv_iconst (v := 1) hx hb dX5_addOrder_19 (by decide) ?_
    refine lv_bipush (v := 60) hx hb dX5_addOrder_20 (by decide) ?_
    refine m_sI (As := [.int y, .int 1, .int 60]) (rest := []) (n := 3) hF hC hO hS (k_X5_within l G lo sa ad _ y 1 60 ) ok_X5_within q_347 ⟨Nat.le_of_ble_eq_true rfl, Nat.le_of_ble_eq_true rfl⟩ rfl hl.1 rfl (Nat.le_of_ble_eq_true rfl) ⟨Nat.le_of_ble_eq_true rfl, Nat.le_of_ble_eq_true rfl⟩ dX5_addOrder_22 (fun v22 R' H locs hp hO hS => ?_)
    obtain ⟨⟨rfl, b22⟩ | ⟨rfl, b22⟩, hR⟩ := hp
    · rw [hR] at hO
      refine lv_if_ne (tgt := 38) hx hb dX5_addOrder_25 (by decide) (fun c25 => ?_) (fun c25 => absurd c25 (by decide))
      refine lv_iload hx hb dX5_addOrder_38 (lv_at hl 4 rfl) ?_
      refine lv_aload_n hx hb dX5_addOrder_40 rfl (lv_at hl 0 rfl) ?_
      refine m_get inX5 hF hC hO (rfl) rfl 6 (by decide) q_117 (v := .int (g 3)) rfl dX5_addOrder_41 ?_
      refine lv_bipush (v := 40) hx hb dX5_addOrder_44 (by decide) ?_
      refine lv_idiv hx hb dX5_addOrder_46 (by decide) ?_
      refine lv_sipush (v := 1000) hx hb dX5_addOrder_47 (by decide) ?_
      refine m_sI (As := [.int w, .int ((g 3) / 40), .int 1000]) (rest := []) (n := 3) hF hC hO hS (k_X5_within l G lo sa ad _ w ((g 3) / 40) 1000 ) ok_X5_within q_347 ⟨Nat.le_of_ble_eq_true rfl, Nat.le_of_ble_eq_true rfl⟩ rfl hl.1 rfl (Nat.le_of_ble_eq_true rfl) ⟨Nat.le_of_ble_eq_true rfl, Nat.le_of_ble_eq_true rfl⟩ dX5_addOrder_50 (fun v50 R' H locs hp hO hS => ?_)
      obtain ⟨⟨rfl, b50⟩ | ⟨rfl, b50⟩, hR⟩ := hp
      · rw [hR] at hO
        refine lv_if_ne (tgt := 66) hx hb dX5_addOrder_53 (by decide) (fun c53 => ?_) (fun c53 => absurd c53 (by decide))
        refine lv_aload_n hx hb dX5_addOrder_66 rfl (lv_at hl 0 rfl) ?_
        refine m_vI (As := []) (rest := []) (n := 0) hF hC hO hS (k_X5_ordersTaken l G lo sa ad R g nf F f no O tf tv fw hnf hno) ok_X5_ordersTaken q_400 (rfl) rfl ⟨Nat.le_of_ble_eq_true rfl, Nat.le_of_ble_eq_true rfl⟩ rfl hl.1 rfl (Nat.le_of_ble_eq_true rfl) ⟨Nat.le_of_ble_eq_true rfl, Nat.le_of_ble_eq_true rfl⟩ dX5_addOrder_67 (fun v67 R' H locs hp hO hS => ?_)
        obtain ⟨rfl, hR⟩ := hp
        rw [hR] at hO
        refine lv_istore (lv' := [(5, .int (nI no)), (0, .ref (ad 0)), (1, .int k), (2, .int z), (3, .int y), (4, .int w)]) hx hb dX5_addOrder_70 hl (by decide) rfl (fun ls hl => ?_)
        refine lv_iload hx hb dX5_addOrder_72 (lv_at hl 0 rfl) ?_
        refine lv_aload_n hx hb dX5_addOrder_74 rfl (lv_at hl 1 rfl) ?_
        refine m_get inX5 hF hC hO (rfl) rfl 3 (by decide) q_114 (v := .ref (ad 5)) rfl dX5_addOrder_75 ?_
        refine m_alen 4 hF hC hO (rfl) rfl (v := 20) rfl dX5_addOrder_78 ?_
        refine lv_icmp_lt (tgt := 92) hx hb dX5_addOrder_79 (by decide) (fun c79 => ?_) (fun c79 => absurd ((nI_lt (a := no) (b := 20) hlt (by decide))) c79)
        refine lv_aload_n hx hb dX5_addOrder_92 rfl (lv_at hl 1 rfl) ?_
        refine m_get inX5 hF hC hO (rfl) rfl 3 (by decide) q_114 (v := .ref (ad 5)) rfl dX5_addOrder_93 ?_
        refine lv_iload hx hb dX5_addOrder_96 (lv_at hl 0 rfl) ?_
        refine m_new (ci := 1) (r := (120 + no)) (fs := [.int 0, .int 0, .int 0, .int 0, .int 0]) tyX1 tyX1_ok inX1 hF hC hO hS ((WC_On (by omega) (by omega))) q_58 q_633 q_15 rfl (by decide) ⟨Nat.le_of_ble_eq_true rfl, Nat.le_of_ble_eq_true rfl⟩ dX5_addOrder_98 (fun ad1 H had1 hO hS => ?_)
        rw [WC_ad (ad1 := ad1) (fun x hx => had1 x (by omega))] at hO
        try simp only [had1 0 (by omega), had1 1 (by omega), had1 2 (by omega), had1 3 (by omega), had1 4 (by omega), had1 5 (by omega), had1 6 (by omega), had1 7 (by omega), had1 8 (by omega), had1 9 (by omega)] at hO
        try simp only [had1 0 (by omega), had1 1 (by omega), had1 2 (by omega), had1 3 (by omega), had1 4 (by omega), had1 5 (by omega), had1 6 (by omega), had1 7 (by omega), had1 8 (by omega), had1 9 (by omega)] at hl
        try simp only [had1 0 (by omega), had1 1 (by omega), had1 2 (by omega), had1 3 (by omega), had1 4 (by omega), had1 5 (by omega), had1 6 (by omega), had1 7 (by omega), had1 8 (by omega), had1 9 (by omega)]
        have hO : mO G lo ad1 (mU (WC G ad1 g nf F f no O tf tv fw R) (120 + no) (orO (fun _ => 0))) H := hO
        refine lv_dup hx hb dX5_addOrder_101 rfl ?_
        refine lv_iload_n hx hb dX5_addOrder_102 rfl (lv_at hl 2 rfl) ?_
        refine lv_iload_n hx hb dX5_addOrder_103 rfl (lv_at hl 3 rfl) ?_
        refine lv_iload_n hx hb dX5_addOrder_104 rfl (lv_at hl 4 rfl) ?_
        refine lv_iload hx hb dX5_addOrder_105 (lv_at hl 5 rfl) ?_
        refine m_iV (As := [.int k, .int z, .int y, .int w]) (rest := [.ref (ad1 (120 + no)), .int (nI no), .ref (ad1 5)]) (n := 4) hF hC hO hS (k_X1_init l G lo sa ad1 _ (120 + no) (fun _ => 0) k z y w (mU_self)) ok_X1_init q_634 ⟨Nat.le_of_ble_eq_true rfl, Nat.le_of_ble_eq_true rfl⟩ rfl hl.1 rfl (Nat.le_of_ble_eq_true rfl) ⟨Nat.le_of_ble_eq_true rfl, Nat.le_of_ble_eq_true rfl⟩ dX5_addOrder_107 (fun R' H locs hp hO hS => ?_)
        have hR := hp
        rw [hR] at hO
        have hO : mO G lo ad1 (mU (mU (WC G ad1 g nf F f no O tf tv fw R) (120 + no) (orO (fun _ => 0))) (120 + no) (orO (upd (upd (upd (upd (upd (fun _ => 0) 4 0) 0 k) 1 z) 2 y) 3 w))) H := hO
        rw [mU_mU] at hO
        refine m_qast (ci := 1) (j := no) hF hC hO hS ((mU_ne (by omega : 5 ≠ (120 + no))).trans (rfl)) (mU_self) rfl rfl (nI_clamp (by omega)) (vp_in_nI hlt (by decide)) dX5_addOrder_110 (fun H locs hO hS => ?_)
        rw [WC_addO hlt] at hO
        refine lv_iload hx hb dX5_addOrder_111 (lv_at hl 0 rfl) ?_
        refine m_niret hF hr hlk hQ (by decide) rfl hO hS dX5_addOrder_113 ?_
        exact ⟨rfl, had1, rfl⟩
      · exact absurd hw b50
    · exact absurd hy b22
  · exact absurd ⟨hk, hz⟩ b2
