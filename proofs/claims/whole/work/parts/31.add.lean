def N_F (k w : Int32) : Nat → Int32 := upd (upd (upd (fun _ => 0) 5 (-1)) 0 k) 1 w
def N_O (k z u w : Int32) : Nat → Int32 := upd (upd (upd (upd (upd (fun _ => 0) 4 0) 0 k) 1 z) 2 u) 3 w
theorem p_m7 (i : Nat) : (7 : Int32) * nI i = nI (7 * i) := by rw [show (7 : Int32) = nI 7 from rfl, pk_mul]
theorem p_m5 (i : Nat) : (5 : Int32) * nI i = nI (5 * i) := by rw [show (5 : Int32) = nI 5 from rfl, pk_mul]
theorem nI_nneg {i : Nat} (h : i < 2 ^ 31) : ¬ nI i < 0 := nI_nlt (a := i) (b := 0) (by omega) h
theorem WC_Fn {G : mG} {ad : Nat → Nat} {g : Nat → Int32} {nf no : Nat} {F O : Nat → Nat → Int32} {f tf tv fw : Nat → Int32} {R : mM} {i : Nat} (h1 : nf ≤ i) (h2 : i < 12) : WC G ad g nf F f no O tf tv fw R (100 + i) = none := by
  unfold WC
  rw [if_neg (by omega), if_pos (by omega), if_neg (by omega)]
theorem WC_On {G : mG} {ad : Nat → Nat} {g : Nat → Int32} {nf no : Nat} {F O : Nat → Nat → Int32} {f tf tv fw : Nat → Int32} {R : mM} {i : Nat} (h1 : no ≤ i) (h2 : i < 20) : WC G ad g nf F f no O tf tv fw R (120 + i) = none := by
  unfold WC
  rw [if_neg (by omega), if_neg (by omega), if_pos (by omega), if_neg (by omega)]
theorem adF_ad {ad ad1 : Nat → Nat} {b n : Nat} (h : ∀ x, b ≤ x ∧ x < b + n → ad x = ad1 x) : adF ad b n = adF ad1 b n := by
  funext i
  unfold adF
  by_cases hi : i < n
  · rw [if_pos hi, if_pos hi, h (b + i) (by omega)]
  · rw [if_neg hi, if_neg hi]
theorem WC_ad {G : mG} {ad ad1 : Nat → Nat} {g : Nat → Int32} {nf no : Nat} {F O : Nat → Nat → Int32} {f tf tv fw : Nat → Int32} {R : mM} (h : ∀ x, (x < 10 ∨ (100 ≤ x ∧ x < 100 + nf) ∨ (120 ≤ x ∧ x < 120 + no)) → ad x = ad1 x) :
    WC G ad g nf F f no O tf tv fw R = WC G ad1 g nf F f no O tf tv fw R := by
  funext r
  unfold WC
  by_cases h10 : r < 10
  · rw [if_pos h10, if_pos h10]
    rcases (show r = 0 ∨ r = 1 ∨ r = 2 ∨ r = 3 ∨ r = 4 ∨ r = 5 ∨ r = 6 ∨ r = 7 ∨ r = 8 ∨ r = 9 by omega) with rfl | rfl | rfl | rfl | rfl | rfl | rfl | rfl | rfl | rfl
    · show some (xO ad g) = some (xO ad1 g)
      rw [xO, xO, h 1 (by omega), h 2 (by omega), h 3 (by omega), h 5 (by omega), h 6 (by omega), h 9 (by omega)]
    · rfl
    · show some (fsA G ad nf) = some (fsA G ad1 nf)
      rw [fsA, fsA, adF_ad (ad := ad) (ad1 := ad1) (fun x hx => h x (by omega))]
    · show some (Sum.inr (2, [Value.ref (ad 4)]) : va_E) = some (Sum.inr (2, [Value.ref (ad1 4)]))
      rw [h 4 (by omega)]
    · rfl
    · show some (osA G ad no) = some (osA G ad1 no)
      rw [osA, osA, adF_ad (ad := ad) (ad1 := ad1) (fun x hx => h x (by omega))]
    · show some (Sum.inr (3, [Value.ref (ad 7), Value.ref (ad 8)]) : va_E) = some (Sum.inr (3, [Value.ref (ad1 7), Value.ref (ad1 8)]))
      rw [h 7 (by omega), h 8 (by omega)]
    · rfl
    · rfl
    · rfl
  · rw [if_neg h10, if_neg h10]
theorem WM_ad {G : mG} {ad ad1 : Nat → Nat} {th : Int32} {g : Nat → Int32} {nf no : Nat} {F O : Nat → Nat → Int32} {f it ch : Nat → Int32} {R : mM} (h : ∀ x, 50 ≤ x → x < 56 → ad x = ad1 x) :
    WM G ad th g nf F f no O it ch R = WM G ad1 th g nf F f no O it ch R := by
  funext r
  unfold WM
  by_cases h10 : 50 ≤ r ∧ r < 56
  · rw [if_pos h10, if_pos h10]
    rcases (show r = 50 ∨ r = 51 ∨ r = 52 ∨ r = 53 ∨ r = 54 ∨ r = 55 by omega) with rfl | rfl | rfl | rfl | rfl | rfl
    · show some (mxO ad th g nf no) = some (mxO ad1 th g nf no)
      rw [mxO, mxO, h 51 (by omega) (by omega), h 52 (by omega) (by omega), h 53 (by omega) (by omega), h 54 (by omega) (by omega), h 55 (by omega) (by omega)]
    · rfl
    · rfl
    · rfl
    · rfl
    · rfl
  · rw [if_neg h10, if_neg h10]
theorem adF_up {ad : Nat → Nat} {b n : Nat} : va_up (adF ad b n) n (some (ad (b + n))) = adF ad b (n + 1) := by
  funext i
  unfold va_up adF
  by_cases h : i = n
  · subst h; rw [if_pos rfl, if_pos (by omega)]
  · rw [if_neg h]
    by_cases h2 : i < n
    · rw [if_pos h2, if_pos (by omega)]
    · rw [if_neg h2, if_neg (by omega)]
theorem WC_addF {G : mG} {ad : Nat → Nat} {g : Nat → Int32} {nf no : Nat} {F O : Nat → Nat → Int32} {f tf tv fw x : Nat → Int32} {R : mM} (hn : nf < 12) :
    mU (mU (WC G ad g nf F f no O tf tv fw R) (100 + nf) (frO x)) 2 (.inl (G.2 3, 12, .inr (.inr (.inr (.inr (va_up (adF ad 100 nf) nf (some (ad (100 + nf))))))))) = WC G ad g (nf + 1) (va_up F nf x) f no O tf tv fw R := by
  rw [adF_up]
  funext r
  by_cases h2 : r = 2
  · subst h2; rw [mU_self]; rfl
  · rw [mU_ne h2]
    by_cases hr : r = 100 + nf
    · subst hr
      rw [mU_self, WC_F (by omega) (by omega)]
      simp [va_up]
    · rw [mU_ne hr]
      unfold WC
      by_cases h10 : r < 10
      · rw [if_pos h10, if_pos h10]
        rcases (show r = 0 ∨ r = 1 ∨ r = 3 ∨ r = 4 ∨ r = 5 ∨ r = 6 ∨ r = 7 ∨ r = 8 ∨ r = 9 by omega) with rfl | rfl | rfl | rfl | rfl | rfl | rfl | rfl | rfl <;> rfl
      · rw [if_neg h10, if_neg h10]
        by_cases h3 : 100 ≤ r ∧ r < 112
        · rw [if_pos h3, if_pos h3]
          by_cases h4 : r < 100 + nf
          · have h5 : ¬ r - 100 = nf := by omega
            rw [if_pos h4, if_pos (by omega)]
            simp [va_up, h5]
          · rw [if_neg h4, if_neg (by omega)]
        · rw [if_neg h3, if_neg h3]
theorem WC_addO {G : mG} {ad : Nat → Nat} {g : Nat → Int32} {nf no : Nat} {F O : Nat → Nat → Int32} {f tf tv fw x : Nat → Int32} {R : mM} (hn : no < 20) :
    mU (mU (WC G ad g nf F f no O tf tv fw R) (120 + no) (orO x)) 5 (.inl (G.2 4, 20, .inr (.inr (.inr (.inr (va_up (adF ad 120 no) no (some (ad (120 + no))))))))) = WC G ad g nf F f (no + 1) (va_up O no x) tf tv fw R := by
  rw [adF_up]
  funext r
  by_cases h2 : r = 5
  · subst h2; rw [mU_self]; rfl
  · rw [mU_ne h2]
    by_cases hr : r = 120 + no
    · subst hr
      rw [mU_self, WC_O (by omega) (by omega)]
      simp [va_up]
    · rw [mU_ne hr]
      unfold WC
      by_cases h10 : r < 10
      · rw [if_pos h10, if_pos h10]
        rcases (show r = 0 ∨ r = 1 ∨ r = 2 ∨ r = 3 ∨ r = 4 ∨ r = 6 ∨ r = 7 ∨ r = 8 ∨ r = 9 by omega) with rfl | rfl | rfl | rfl | rfl | rfl | rfl | rfl | rfl <;> rfl
      · rw [if_neg h10, if_neg h10]
        by_cases h3 : 100 ≤ r ∧ r < 112
        · rw [if_pos h3, if_pos h3]
        · rw [if_neg h3, if_neg h3]
          by_cases h6 : 120 ≤ r ∧ r < 140
          · rw [if_pos h6, if_pos h6]
            by_cases h4 : r < 120 + no
            · have h5 : ¬ r - 120 = no := by omega
              rw [if_pos h4, if_pos (by omega)]
              simp [va_up, h5]
            · rw [if_neg h4, if_neg (by omega)]
          · rw [if_neg h6, if_neg h6]
theorem tab_new {F : Nat → Nat → Int32} {i : Nat} {k w : Int32} (_h : i < 2 ^ 20) : va_cpy (upd (upd (upd (upd (upd (upd (upd (fun _ => 0) 0 k) 1 w) 2 0) 3 0) 4 0) 5 (-1)) 6 0) (tabF F) 0 (7 * i) 7 = tabF (va_up F i (N_F k w)) := by
  funext j
  show (if 7 * i ≤ j ∧ j < 7 * i + 7 then _ else tabF F j) = (if j / 7 = i then N_F k w else F (j / 7)) (j % 7)
  by_cases h : 7 * i ≤ j ∧ j < 7 * i + 7
  · rw [if_pos h, if_pos (by omega)]
    have hj : j % 7 = j - 7 * i := by omega
    rw [hj]
    rcases (show j - 7 * i = 0 ∨ j - 7 * i = 1 ∨ j - 7 * i = 2 ∨ j - 7 * i = 3 ∨ j - 7 * i = 4 ∨ j - 7 * i = 5 ∨ j - 7 * i = 6 by omega) with q | q | q | q | q | q | q <;> rw [q] <;> rfl
  · rw [if_neg h, if_neg (by omega)]
theorem ot_new {F : Nat → Nat → Int32} {i : Nat} {k z u w : Int32} (_h : i < 2 ^ 20) : va_cpy (upd (upd (upd (upd (upd (fun _ => 0) 0 k) 1 z) 2 u) 3 w) 4 0) (otF F) 0 (5 * i) 5 = otF (va_up F i (N_O k z u w)) := by
  funext j
  show (if 5 * i ≤ j ∧ j < 5 * i + 5 then _ else otF F j) = (if j / 5 = i then N_O k z u w else F (j / 5)) (j % 5)
  by_cases h : 5 * i ≤ j ∧ j < 5 * i + 5
  · rw [if_pos h, if_pos (by omega)]
    have hj : j % 5 = j - 5 * i := by omega
    rw [hj]
    rcases (show j - 5 * i = 0 ∨ j - 5 * i = 1 ∨ j - 5 * i = 2 ∨ j - 5 * i = 3 ∨ j - 5 * i = 4 by omega) with q | q | q | q | q <;> rw [q] <;> rfl
  · rw [if_neg h, if_neg (by omega)]
theorem WM_back {G : mG} {lo : Nat} {ad ad1 : Nat → Nat} {th : Int32} {g : Nat → Int32} {nf no : Nat} {F O : Nat → Nat → Int32} {f it ch : Nat → Int32} {R : mM} {e : va_E} {H : Heap} (had : ∀ x, x ≠ 200 → ad x = ad1 x) (hz : R 200 = none)
    (h : mO G lo ad1 (mU (WM G ad1 th g nf F f no O it ch R) 200 e) H) : mO G lo ad (WM G ad th g nf F f no O it ch R) H := by
  have hz2 : WM G ad1 th g nf F f no O it ch R 200 = none := hz
  have h1 : mO G lo ad1 (WM G ad1 th g nf F f no O it ch R) H := h.drop (fun r x hx => by
    have hne : r ≠ 200 := fun q => by rw [q, hz2] at hx; cases hx
    rw [mU_ne hne]; exact hx)
  rw [WM_ad (ad := ad) (ad1 := ad1) (fun x _ h2 => had x (by omega))]
  exact h1.addr (fun r x hx => had r (fun q => by rw [q, hz2] at hx; cases hx))
theorem ok_X5_addFrame : mOK RX5 yX5_addFrame cX5_addFrame 4 (some .int) 2 := ⟨q_414, q_415, q_1, q_416, by decide +kernel⟩
set_option maxHeartbeats 400000 in
set_option maxRecDepth 100000 in
theorem k_X5_addFrame (l : Launch) (G : mG) (lo : Nat) (sa ad : Nat → Nat) (R : mM) (g : Nat → Int32) (nf : Nat) (F : Nat → Nat → Int32) (f : Nat → Int32) (no : Nat) (O : Nat → Nat → Int32) (tf tv fw : Nat → Int32) (k w : Int32) (hnf : nf ≤ 12) (hno : no ≤ 20) (hlt : nf < 12) (hk : p_in k 0 3) (hw : p_in w 1 20) : nI' l yX5_addFrame cX5_addFrame 4 .int 2 42 1 7 G lo sa ad (WC G ad g nf F f no O tf tv fw R) [.ref (ad 0), .int k, .int w] (fun v u' => v = nI nf ∧ (∀ x, x ≠ 100 + nf → ad x = u'.1 x) ∧ u'.2 = WC G u'.1 g (nf + 1) (va_up F nf (N_F k w)) f no O tf tv fw R) := by
  refine nI_of' (by decide) (Nat.le_of_ble_eq_true rfl) ?_
  intro p e s m args below meth c hF hr hlk hC ls hl hO hS Q hQ
  have hx := hF.1
  have hb := hF.2.1
  have hl : lv_has ls 4 [(0, .ref (ad 0)), (1, .int k), (2, .int w)] := hl
  refine lv_iload_n hx hb dX5_addFrame_0 rfl (lv_at hl 1 rfl) ?_
  refine lv_iconst (v := 0) hx hb dX5_addFrame_1 (by decide) ?_
  refine lv_iconst (v := 3) hx hb dX5_addFrame_2 (by decide) ?_
  refine m_sI (As := [.int k, .int 0, .int 3]) (rest := []) (n := 3) hF hC hO hS (k_X5_within l G lo sa ad _ k 0 3 ) ok_X5_within q_360 ⟨Nat.le_of_ble_eq_true rfl, Nat.le_of_ble_eq_true rfl⟩ rfl hl.1 rfl (Nat.le_of_ble_eq_true rfl) ⟨Nat.le_of_ble_eq_true rfl, Nat.le_of_ble_eq_true rfl⟩ dX5_addFrame_3 (fun v3 R' H locs hp hO hS => ?_)
  obtain ⟨⟨rfl, b3⟩ | ⟨rfl, b3⟩, hR⟩ := hp
  · rw [hR] at hO
    refine lv_if_eq (tgt := 19) hx hb dX5_addFrame_6 (by decide) (fun c6 => absurd c6 (by decide)) (fun c6 => ?_)
    refine lv_iload_n hx hb dX5_addFrame_9 rfl (lv_at hl 2 rfl) ?_
    refine lv_iconst (v := 1) hx hb dX5_addFrame_10 (by decide) ?_
    refine lv_bipush (v := 20) hx hb dX5_addFrame_11 (by decide) ?_
    refine m_sI (As := [.int w, .int 1, .int 20]) (rest := []) (n := 3) hF hC hO hS (k_X5_within l G lo sa ad _ w 1 20 ) ok_X5_within q_360 ⟨Nat.le_of_ble_eq_true rfl, Nat.le_of_ble_eq_true rfl⟩ rfl hl.1 rfl (Nat.le_of_ble_eq_true rfl) ⟨Nat.le_of_ble_eq_true rfl, Nat.le_of_ble_eq_true rfl⟩ dX5_addFrame_13 (fun v13 R' H locs hp hO hS => ?_)
    obtain ⟨⟨rfl, b13⟩ | ⟨rfl, b13⟩, hR⟩ := hp
    · rw [hR] at hO
      refine lv_if_ne (tgt := 29) hx hb dX5_addFrame_16 (by decide) (fun c16 => ?_) (fun c16 => absurd c16 (by decide))
      refine lv_aload_n hx hb dX5_addFrame_29 rfl (lv_at hl 0 rfl) ?_
      refine m_vI (As := []) (rest := []) (n := 0) hF hC hO hS (k_X5_framesMade l G lo sa ad R g nf F f no O tf tv fw hnf hno) ok_X5_framesMade q_220 (rfl) rfl ⟨Nat.le_of_ble_eq_true rfl, Nat.le_of_ble_eq_true rfl⟩ rfl hl.1 rfl (Nat.le_of_ble_eq_true rfl) ⟨Nat.le_of_ble_eq_true rfl, Nat.le_of_ble_eq_true rfl⟩ dX5_addFrame_30 (fun v30 R' H locs hp hO hS => ?_)
      obtain ⟨rfl, hR⟩ := hp
      rw [hR] at hO
      refine lv_istore_n (lv' := [(3, .int (nI nf)), (0, .ref (ad 0)), (1, .int k), (2, .int w)]) hx hb dX5_addFrame_33 rfl hl (by decide) rfl (fun ls hl => ?_)
      refine lv_iload_n hx hb dX5_addFrame_34 rfl (lv_at hl 0 rfl) ?_
      refine lv_aload_n hx hb dX5_addFrame_35 rfl (lv_at hl 1 rfl) ?_
      refine m_get inX5 hF hC hO (rfl) rfl 1 (by decide) q_112 (v := .ref (ad 2)) rfl dX5_addFrame_36 ?_
      refine m_alen 3 hF hC hO (rfl) rfl (v := 12) rfl dX5_addFrame_39 ?_
      refine lv_icmp_lt (tgt := 53) hx hb dX5_addFrame_40 (by decide) (fun c40 => ?_) (fun c40 => absurd ((nI_lt (a := nf) (b := 12) hlt (by decide))) c40)
      refine lv_aload_n hx hb dX5_addFrame_53 rfl (lv_at hl 1 rfl) ?_
      refine m_get inX5 hF hC hO (rfl) rfl 1 (by decide) q_112 (v := .ref (ad 2)) rfl dX5_addFrame_54 ?_
      refine lv_iload_n hx hb dX5_addFrame_57 rfl (lv_at hl 0 rfl) ?_
      refine m_new (ci := 0) (r := (100 + nf)) (fs := [.int 0, .int 0, .int 0, .int 0, .int 0, .int 0, .int 0]) tyX0 tyX0_ok inX0 hF hC hO hS ((WC_Fn (by omega) (by omega))) q_45 q_67 q_5 rfl (by decide) ⟨Nat.le_of_ble_eq_true rfl, Nat.le_of_ble_eq_true rfl⟩ dX5_addFrame_58 (fun ad1 H had1 hO hS => ?_)
      rw [WC_ad (ad1 := ad1) (fun x hx => had1 x (by omega))] at hO
      try simp only [had1 0 (by omega), had1 1 (by omega), had1 2 (by omega), had1 3 (by omega), had1 4 (by omega), had1 5 (by omega), had1 6 (by omega), had1 7 (by omega), had1 8 (by omega), had1 9 (by omega)] at hO
      try simp only [had1 0 (by omega), had1 1 (by omega), had1 2 (by omega), had1 3 (by omega), had1 4 (by omega), had1 5 (by omega), had1 6 (by omega), had1 7 (by omega), had1 8 (by omega), had1 9 (by omega)] at hl
      try simp only [had1 0 (by omega), had1 1 (by omega), had1 2 (by omega), had1 3 (by omega), had1 4 (by omega), had1 5 (by omega), had1 6 (by omega), had1 7 (by omega), had1 8 (by omega), had1 9 (by omega)]
      have hO : mO G lo ad1 (mU (WC G ad1 g nf F f no O tf tv fw R) (100 + nf) (frO (fun _ => 0))) H := hO
      refine lv_dup hx hb dX5_addFrame_61 rfl ?_
      refine lv_iload_n hx hb dX5_addFrame_62 rfl (lv_at hl 2 rfl) ?_
      refine lv_iload_n hx hb dX5_addFrame_63 rfl (lv_at hl 3 rfl) ?_
      refine m_iV (As := [.int k, .int w]) (rest := [.ref (ad1 (100 + nf)), .int (nI nf), .ref (ad1 2)]) (n := 2) hF hC hO hS (k_X0_init l G lo sa ad1 _ (100 + nf) (fun _ => 0) k w (mU_self)) ok_X0_init q_419 ⟨Nat.le_of_ble_eq_true rfl, Nat.le_of_ble_eq_true rfl⟩ rfl hl.1 rfl (Nat.le_of_ble_eq_true rfl) ⟨Nat.le_of_ble_eq_true rfl, Nat.le_of_ble_eq_true rfl⟩ dX5_addFrame_64 (fun R' H locs hp hO hS => ?_)
      have hR := hp
      rw [hR] at hO
      have hO : mO G lo ad1 (mU (mU (WC G ad1 g nf F f no O tf tv fw R) (100 + nf) (frO (fun _ => 0))) (100 + nf) (frO (upd (upd (upd (fun _ => 0) 5 (-1)) 0 k) 1 w))) H := hO
      rw [mU_mU] at hO
      refine m_qast (ci := 0) (j := nf) hF hC hO hS ((mU_ne (by omega : 2 ≠ (100 + nf))).trans (rfl)) (mU_self) rfl rfl (nI_clamp (by omega)) (vp_in_nI hlt (by decide)) dX5_addFrame_67 (fun H locs hO hS => ?_)
      rw [WC_addF hlt] at hO
      refine lv_iload_n hx hb dX5_addFrame_68 rfl (lv_at hl 0 rfl) ?_
      refine m_niret hF hr hlk hQ (by decide) rfl hO hS dX5_addFrame_69 ?_
      exact ⟨rfl, had1, rfl⟩
    · exact absurd hw b13
  · exact absurd hk b3
theorem ok_X5_addOrder : mOK RX5 yX5_addOrder cX5_addOrder 6 (some .int) 4 := ⟨q_531, q_532, q_1, q_533, by decide +kernel⟩
set_option maxHeartbeats 400000 in
set_option maxRecDepth 100000 in
theorem k_X5_addOrder (l : Launch) (G : mG) (lo : Nat) (sa ad : Nat → Nat) (R : mM) (g : Nat → Int32) (nf : Nat) (F : Nat → Nat → Int32) (f : Nat → Int32) (no : Nat) (O : Nat → Nat → Int32) (tf tv fw : Nat → Int32) (k z y w : Int32) (hnf : nf ≤ 12) (hno : no ≤ 20) (hlt : no < 20) (hk : p_in k 0 3) (hz : p_in z 1 9) (hy : p_in y 1 60) (hw : p_in w (g 3 / 40) 1000) : nI' l yX5_addOrder cX5_addOrder 6 .int 2 44 1 5 G lo sa ad (WC G ad g nf F f no O tf tv fw R) [.ref (ad 0), .int k, .int z, .int y, .int w] (fun v u' => v = nI no ∧ (∀ x, x ≠ 120 + no → ad x = u'.1 x) ∧ u'.2 = WC G u'.1 g nf F f (no + 1) (va_up O no (N_O k z y w)) tf tv fw R) := by
  refine nI_of' (by decide) (Nat.le_of_ble_eq_true rfl) ?_
  intro p e s m args below meth c hF hr hlk hC ls hl hO hS Q hQ
  have hx := hF.1
  have hb := hF.2.1
  have hl : lv_has ls 6 [(0, .ref (ad 0)), (1, .int k), (2, .int z), (3, .int y), (4, .int w)] := hl
  refine lv_iload_n hx hb dX5_addOrder_0 rfl (lv_at hl 1 rfl) ?_
  refine lv_iload_n hx hb dX5_addOrder_1 rfl (lv_at hl 2 rfl) ?_
  refine m_sI (As := [.int k, .int z]) (rest := []) (n := 2) hF hC hO hS (k_X2_hasShelf l G lo sa ad _ k z ) ok_X2_hasShelf q_333 ⟨Nat.le_of_ble_eq_true rfl, Nat.le_of_ble_eq_true rfl⟩ rfl hl.1 rfl (Nat.le_of_ble_eq_true rfl) ⟨Nat.le_of_ble_eq_true rfl, Nat.le_of_ble_eq_true rfl⟩ dX5_addOrder_2 (fun v2 R' H locs hp hO hS => ?_)
  obtain ⟨⟨rfl, b2⟩ | ⟨rfl, b2⟩, hR⟩ := hp
  · rw [hR] at hO
    refine lv_if_ne (tgt := 18) hx hb dX5_addOrder_5 (by decide) (fun c5 => ?_) (fun c5 => absurd c5 (by decide))
    refine lv_iload_n hx hb dX5_addOrder_18 rfl (lv_at hl 3 rfl) ?_
    refine lv_iconst (v := 1) hx hb dX5_addOrder_19 (by decide) ?_
    refine lv_bipush (v := 60) hx hb dX5_addOrder_20 (by decide) ?_
    refine m_sI (As := [.int y, .int 1, .int 60]) (rest := []) (n := 3) hF hC hO hS (k_X5_within l G lo sa ad _ y 1 60 ) ok_X5_within q_360 ⟨Nat.le_of_ble_eq_true rfl, Nat.le_of_ble_eq_true rfl⟩ rfl hl.1 rfl (Nat.le_of_ble_eq_true rfl) ⟨Nat.le_of_ble_eq_true rfl, Nat.le_of_ble_eq_true rfl⟩ dX5_addOrder_22 (fun v22 R' H locs hp hO hS => ?_)
    obtain ⟨⟨rfl, b22⟩ | ⟨rfl, b22⟩, hR⟩ := hp
    · rw [hR] at hO
      refine lv_if_ne (tgt := 38) hx hb dX5_addOrder_25 (by decide) (fun c25 => ?_) (fun c25 => absurd c25 (by decide))
      refine lv_iload hx hb dX5_addOrder_38 (lv_at hl 4 rfl) ?_
      refine lv_aload_n hx hb dX5_addOrder_40 rfl (lv_at hl 0 rfl) ?_
      refine m_get inX5 hF hC hO (rfl) rfl 6 (by decide) q_117 (v := .int (g 3)) rfl dX5_addOrder_41 ?_
      refine lv_bipush (v := 40) hx hb dX5_addOrder_44 (by decide) ?_
      refine lv_idiv hx hb dX5_addOrder_46 (by decide) ?_
      refine lv_sipush (v := 1000) hx hb dX5_addOrder_47 (by decide) ?_
      refine m_sI (As := [.int w, .int ((g 3) / 40), .int 1000]) (rest := []) (n := 3) hF hC hO hS (k_X5_within l G lo sa ad _ w ((g 3) / 40) 1000 ) ok_X5_within q_360 ⟨Nat.le_of_ble_eq_true rfl, Nat.le_of_ble_eq_true rfl⟩ rfl hl.1 rfl (Nat.le_of_ble_eq_true rfl) ⟨Nat.le_of_ble_eq_true rfl, Nat.le_of_ble_eq_true rfl⟩ dX5_addOrder_50 (fun v50 R' H locs hp hO hS => ?_)
      obtain ⟨⟨rfl, b50⟩ | ⟨rfl, b50⟩, hR⟩ := hp
      · rw [hR] at hO
        refine lv_if_ne (tgt := 66) hx hb dX5_addOrder_53 (by decide) (fun c53 => ?_) (fun c53 => absurd c53 (by decide))
        refine lv_aload_n hx hb dX5_addOrder_66 rfl (lv_at hl 0 rfl) ?_
        refine m_vI (As := []) (rest := []) (n := 0) hF hC hO hS (k_X5_ordersTaken l G lo sa ad R g nf F f no O tf tv fw hnf hno) ok_X5_ordersTaken q_233 (rfl) rfl ⟨Nat.le_of_ble_eq_true rfl, Nat.le_of_ble_eq_true rfl⟩ rfl hl.1 rfl (Nat.le_of_ble_eq_true rfl) ⟨Nat.le_of_ble_eq_true rfl, Nat.le_of_ble_eq_true rfl⟩ dX5_addOrder_67 (fun v67 R' H locs hp hO hS => ?_)
        obtain ⟨rfl, hR⟩ := hp
        rw [hR] at hO
        refine lv_istore (lv' := [(5, .int (nI no)), (0, .ref (ad 0)), (1, .int k), (2, .int z), (3, .int y), (4, .int w)]) hx hb dX5_addOrder_70 hl (by decide) rfl (fun ls hl => ?_)
        refine lv_iload hx hb dX5_addOrder_72 (lv_at hl 0 rfl) ?_
        refine lv_aload_n hx hb dX5_addOrder_74 rfl (lv_at hl 1 rfl) ?_
        refine m_get inX5 hF hC hO (rfl) rfl 3 (by decide) q_114 (v := .ref (ad 5)) rfl dX5_addOrder_75 ?_
        refine m_alen 4 hF hC hO (rfl) rfl (v := 20) rfl dX5_addOrder_78 ?_
        refine lv_icmp_lt (tgt := 92) hx hb dX5_addOrder_79 (by decide) (fun c79 => ?_) (fun c79 => absurd ((nI_lt (a := no) (b := 20) hlt (by decide))) c79)
        refine lv_aload_n hx hb dX5_addOrder_92 rfl (lv_at hl 1 rfl) ?_
        refine m_get inX5 hF hC hO (rfl) rfl 3 (by decide) q_114 (v := .ref (ad 5)) rfl dX5_addOrder_93 ?_
        refine lv_iload hx hb dX5_addOrder_96 (lv_at hl 0 rfl) ?_
        refine m_new (ci := 1) (r := (120 + no)) (fs := [.int 0, .int 0, .int 0, .int 0, .int 0]) tyX1 tyX1_ok inX1 hF hC hO hS ((WC_On (by omega) (by omega))) q_58 q_537 q_15 rfl (by decide) ⟨Nat.le_of_ble_eq_true rfl, Nat.le_of_ble_eq_true rfl⟩ dX5_addOrder_98 (fun ad1 H had1 hO hS => ?_)
        rw [WC_ad (ad1 := ad1) (fun x hx => had1 x (by omega))] at hO
        try simp only [had1 0 (by omega), had1 1 (by omega), had1 2 (by omega), had1 3 (by omega), had1 4 (by omega), had1 5 (by omega), had1 6 (by omega), had1 7 (by omega), had1 8 (by omega), had1 9 (by omega)] at hO
        try simp only [had1 0 (by omega), had1 1 (by omega), had1 2 (by omega), had1 3 (by omega), had1 4 (by omega), had1 5 (by omega), had1 6 (by omega), had1 7 (by omega), had1 8 (by omega), had1 9 (by omega)] at hl
        try simp only [had1 0 (by omega), had1 1 (by omega), had1 2 (by omega), had1 3 (by omega), had1 4 (by omega), had1 5 (by omega), had1 6 (by omega), had1 7 (by omega), had1 8 (by omega), had1 9 (by omega)]
        have hO : mO G lo ad1 (mU (WC G ad1 g nf F f no O tf tv fw R) (120 + no) (orO (fun _ => 0))) H := hO
        refine lv_dup hx hb dX5_addOrder_101 rfl ?_
        refine lv_iload_n hx hb dX5_addOrder_102 rfl (lv_at hl 2 rfl) ?_
        refine lv_iload_n hx hb dX5_addOrder_103 rfl (lv_at hl 3 rfl) ?_
        refine lv_iload_n hx hb dX5_addOrder_104 rfl (lv_at hl 4 rfl) ?_
        refine lv_iload hx hb dX5_addOrder_105 (lv_at hl 5 rfl) ?_
        refine m_iV (As := [.int k, .int z, .int y, .int w]) (rest := [.ref (ad1 (120 + no)), .int (nI no), .ref (ad1 5)]) (n := 4) hF hC hO hS (k_X1_init l G lo sa ad1 _ (120 + no) (fun _ => 0) k z y w (mU_self)) ok_X1_init q_538 ⟨Nat.le_of_ble_eq_true rfl, Nat.le_of_ble_eq_true rfl⟩ rfl hl.1 rfl (Nat.le_of_ble_eq_true rfl) ⟨Nat.le_of_ble_eq_true rfl, Nat.le_of_ble_eq_true rfl⟩ dX5_addOrder_107 (fun R' H locs hp hO hS => ?_)
        have hR := hp
        rw [hR] at hO
        have hO : mO G lo ad1 (mU (mU (WC G ad1 g nf F f no O tf tv fw R) (120 + no) (orO (fun _ => 0))) (120 + no) (orO (upd (upd (upd (upd (upd (fun _ => 0) 4 0) 0 k) 1 z) 2 y) 3 w))) H := hO
        rw [mU_mU] at hO
        refine m_qast (ci := 1) (j := no) hF hC hO hS ((mU_ne (by omega : 5 ≠ (120 + no))).trans (rfl)) (mU_self) rfl rfl (nI_clamp (by omega)) (vp_in_nI hlt (by decide)) dX5_addOrder_110 (fun H locs hO hS => ?_)
        rw [WC_addO hlt] at hO
        refine lv_iload hx hb dX5_addOrder_111 (lv_at hl 0 rfl) ?_
        refine m_niret hF hr hlk hQ (by decide) rfl hO hS dX5_addOrder_113 ?_
        exact ⟨rfl, had1, rfl⟩
      · exact absurd hw b50
    · exact absurd hy b22
  · exact absurd ⟨hk, hz⟩ b2
theorem ok_X6_addFrame : mOK RX6 yX6_addFrame cX6_addFrame 4 (some .int) 2 := ⟨q_734, q_735, q_6, q_736, by decide +kernel⟩
set_option maxHeartbeats 400000 in
set_option maxRecDepth 100000 in
theorem k_X6_addFrame (l : Launch) (G : mG) (lo : Nat) (sa ad : Nat → Nat) (R : mM) (th : Int32) (g : Nat → Int32) (nf : Nat) (F : Nat → Nat → Int32) (f : Nat → Int32) (no : Nat) (O : Nat → Nat → Int32) (it ch : Nat → Int32) (k w : Int32) (hnf : nf ≤ 12) (hno : no ≤ 20) (hz : R 200 = none) : nI' l yX6_addFrame cX6_addFrame 4 .int 1 60 1 7 G lo sa ad (WM G ad th g nf F f no O it ch R) [.ref (ad 50), .int k, .int w] (fun v u' => (K_addFrame nf k w = 0 ∧ v = nI nf ∧ u'.1 = ad ∧ u'.2 = WM G ad 0 g (nf + 1) (va_up F nf (N_F k w)) f no O it ch R) ∨ (¬ K_addFrame nf k w = 0 ∧ u'.1 = ad ∧ u'.2 = WM G ad (K_addFrame nf k w) g nf F f no O it ch R)) := by
  refine nI_of' (by decide) (Nat.le_of_ble_eq_true rfl) ?_
  intro p e s m args below meth c hF hr hlk hC ls hl hO hS Q hQ
  have hx := hF.1
  have hb := hF.2.1
  have hl : lv_has ls 4 [(0, .ref (ad 50)), (1, .int k), (2, .int w)] := hl
  refine lv_aload_n hx hb dX6_addFrame_0 rfl (lv_at hl 0 rfl) ?_
  refine lv_iconst (v := 0) hx hb dX6_addFrame_1 (by decide) ?_
  refine m_put (ty := .int) tyX6 tyX6_ok nmX6 inX6 hF hC hO hS (rfl) rfl 0 (by decide) q_662 rfl (by decide +kernel) rfl rfl (fs' := [.int 0, .int (g 0), .int (g 1), .int (g 2), .int (nI nf), .ref (ad 51), .ref (ad 52), .int (nI no), .ref (ad 53), .int (g 3), .int (g 4), .int (g 5), .ref (ad 54), .ref (ad 55)]) (Nat.le_of_ble_eq_true rfl) rfl dX6_addFrame_2 (fun H locs hO hS => ?_)
  have hO : mO G lo ad (mU (WM G ad th g nf F f no O it ch R) 50 (mxO ad 0 g nf no)) H := hO
  rw [] at hO
  rw [WM_w0] at hO
  refine lv_iload_n hx hb dX6_addFrame_5 rfl (lv_at hl 1 rfl) ?_
  refine lv_iconst (v := 0) hx hb dX6_addFrame_6 (by decide) ?_
  refine lv_iconst (v := 3) hx hb dX6_addFrame_7 (by decide) ?_
  refine m_sI (As := [.int k, .int 0, .int 3]) (rest := []) (n := 3) hF hC hO hS (k_X6_isIn l G lo sa ad _ k 0 3 ) ok_X6_isIn q_714 ⟨Nat.le_of_ble_eq_true rfl, Nat.le_of_ble_eq_true rfl⟩ rfl hl.1 rfl (Nat.le_of_ble_eq_true rfl) ⟨Nat.le_of_ble_eq_true rfl, Nat.le_of_ble_eq_true rfl⟩ dX6_addFrame_8 (fun v8 R' H locs hp hO hS => ?_)
  obtain ⟨⟨rfl, b8⟩ | ⟨rfl, b8⟩, hR⟩ := hp
  · rw [hR] at hO
    refine lv_if_eq (tgt := 24) hx hb dX6_addFrame_11 (by decide) (fun c11 => absurd c11 (by decide)) (fun c11 => ?_)
    refine lv_iload_n hx hb dX6_addFrame_14 rfl (lv_at hl 2 rfl) ?_
    refine lv_iconst (v := 1) hx hb dX6_addFrame_15 (by decide) ?_
    refine lv_bipush (v := 20) hx hb dX6_addFrame_16 (by decide) ?_
    refine m_sI (As := [.int w, .int 1, .int 20]) (rest := []) (n := 3) hF hC hO hS (k_X6_isIn l G lo sa ad _ w 1 20 ) ok_X6_isIn q_714 ⟨Nat.le_of_ble_eq_true rfl, Nat.le_of_ble_eq_true rfl⟩ rfl hl.1 rfl (Nat.le_of_ble_eq_true rfl) ⟨Nat.le_of_ble_eq_true rfl, Nat.le_of_ble_eq_true rfl⟩ dX6_addFrame_18 (fun v18 R' H locs hp hO hS => ?_)
    obtain ⟨⟨rfl, b18⟩ | ⟨rfl, b18⟩, hR⟩ := hp
    · rw [hR] at hO
      refine lv_if_ne (tgt := 30) hx hb dX6_addFrame_21 (by decide) (fun c21 => ?_) (fun c21 => absurd c21 (by decide))
      refine lv_aload_n hx hb dX6_addFrame_30 rfl (lv_at hl 0 rfl) ?_
      refine m_get inX6 hF hC hO (rfl) rfl 4 (by decide) q_666 (v := .int (nI nf)) rfl dX6_addFrame_31 ?_
      refine lv_bipush (v := 12) hx hb dX6_addFrame_34 (by decide) ?_
      refine lv_icmp_ne (tgt := 45) hx hb dX6_addFrame_36 (by decide) (fun c36 => ?_) (fun c36 => ?_)
      · refine lv_bipush (v := 7) hx hb dX6_addFrame_45 (by decide) ?_
        refine m_newa (k := 0) (r := 200) (N := 7) (arr := (7, .inl (fun _ => 0))) hF hC hO hS (hz) q_57 rfl rfl (fun _ => rfl) (fun _ => rfl) (by decide) rfl (by decide) ⟨Nat.le_of_ble_eq_true rfl, Nat.le_of_ble_eq_true rfl⟩ dX6_addFrame_47 (fun ad1 H had1 hO hS => ?_)
        rw [WM_ad (ad1 := ad1) (fun x h1 h2 => had1 x (by omega))] at hO
        try simp only [had1 50 (by decide), had1 51 (by decide), had1 52 (by decide), had1 53 (by decide), had1 54 (by decide), had1 55 (by decide)] at hO
        try simp only [had1 50 (by decide), had1 51 (by decide), had1 52 (by decide), had1 53 (by decide), had1 54 (by decide), had1 55 (by decide)] at hl
        try simp only [had1 50 (by decide), had1 51 (by decide), had1 52 (by decide), had1 53 (by decide), had1 54 (by decide), had1 55 (by decide)]
        have hO : mO G lo ad1 (mU (WM G ad1 0 g nf F f no O it ch R) 200 (.inl (G.2 0, 7, .inl (fun _ => 0)))) H := hO
        refine lv_dup hx hb dX6_addFrame_49 rfl ?_
        refine lv_iconst (v := 0) hx hb dX6_addFrame_50 (by decide) ?_
        refine lv_iload_n hx hb dX6_addFrame_51 rfl (lv_at hl 1 rfl) ?_
        refine m_iast hF hC hO hS (mU_self) (j := 0) (by decide) (vp_in_nI (n := 0) (by decide) (by decide)) dX6_addFrame_52 (fun H locs hO hS => ?_)
        have hO : mO G lo ad1 (mU (mU (WM G ad1 0 g nf F f no O it ch R) 200 (.inl (G.2 0, 7, .inl (fun _ => 0)))) 200 (.inl (G.2 0, 7, .inl (upd (fun _ => 0) 0 k)))) H := hO
        rw [mU_mU] at hO
        refine lv_dup hx hb dX6_addFrame_53 rfl ?_
        refine lv_iconst (v := 1) hx hb dX6_addFrame_54 (by decide) ?_
        refine lv_iload_n hx hb dX6_addFrame_55 rfl (lv_at hl 2 rfl) ?_
        refine m_iast hF hC hO hS (mU_self) (j := 1) (by decide) (vp_in_nI (n := 1) (by decide) (by decide)) dX6_addFrame_56 (fun H locs hO hS => ?_)
        have hO : mO G lo ad1 (mU (mU (WM G ad1 0 g nf F f no O it ch R) 200 (.inl (G.2 0, 7, .inl (upd (fun _ => 0) 0 k)))) 200 (.inl (G.2 0, 7, .inl (upd (upd (fun _ => 0) 0 k) 1 w)))) H := hO
        rw [mU_mU] at hO
        refine lv_dup hx hb dX6_addFrame_57 rfl ?_
        refine lv_iconst (v := 2) hx hb dX6_addFrame_58 (by decide) ?_
        refine lv_iconst (v := 0) hx hb dX6_addFrame_59 (by decide) ?_
        refine m_iast hF hC hO hS (mU_self) (j := 2) (by decide) (vp_in_nI (n := 2) (by decide) (by decide)) dX6_addFrame_60 (fun H locs hO hS => ?_)
        have hO : mO G lo ad1 (mU (mU (WM G ad1 0 g nf F f no O it ch R) 200 (.inl (G.2 0, 7, .inl (upd (upd (fun _ => 0) 0 k) 1 w)))) 200 (.inl (G.2 0, 7, .inl (upd (upd (upd (fun _ => 0) 0 k) 1 w) 2 0)))) H := hO
        rw [mU_mU] at hO
        refine lv_dup hx hb dX6_addFrame_61 rfl ?_
        refine lv_iconst (v := 3) hx hb dX6_addFrame_62 (by decide) ?_
        refine lv_iconst (v := 0) hx hb dX6_addFrame_63 (by decide) ?_
        refine m_iast hF hC hO hS (mU_self) (j := 3) (by decide) (vp_in_nI (n := 3) (by decide) (by decide)) dX6_addFrame_64 (fun H locs hO hS => ?_)
        have hO : mO G lo ad1 (mU (mU (WM G ad1 0 g nf F f no O it ch R) 200 (.inl (G.2 0, 7, .inl (upd (upd (upd (fun _ => 0) 0 k) 1 w) 2 0)))) 200 (.inl (G.2 0, 7, .inl (upd (upd (upd (upd (fun _ => 0) 0 k) 1 w) 2 0) 3 0)))) H := hO
        rw [mU_mU] at hO
        refine lv_dup hx hb dX6_addFrame_65 rfl ?_
        refine lv_iconst (v := 4) hx hb dX6_addFrame_66 (by decide) ?_
        refine lv_iconst (v := 0) hx hb dX6_addFrame_67 (by decide) ?_
        refine m_iast hF hC hO hS (mU_self) (j := 4) (by decide) (vp_in_nI (n := 4) (by decide) (by decide)) dX6_addFrame_68 (fun H locs hO hS => ?_)
        have hO : mO G lo ad1 (mU (mU (WM G ad1 0 g nf F f no O it ch R) 200 (.inl (G.2 0, 7, .inl (upd (upd (upd (upd (fun _ => 0) 0 k) 1 w) 2 0) 3 0)))) 200 (.inl (G.2 0, 7, .inl (upd (upd (upd (upd (upd (fun _ => 0) 0 k) 1 w) 2 0) 3 0) 4 0)))) H := hO
        rw [mU_mU] at hO
        refine lv_dup hx hb dX6_addFrame_69 rfl ?_
        refine lv_iconst (v := 5) hx hb dX6_addFrame_70 (by decide) ?_
        refine lv_iconst (v := -1) hx hb dX6_addFrame_71 (by decide) ?_
        refine m_iast hF hC hO hS (mU_self) (j := 5) (by decide) (vp_in_nI (n := 5) (by decide) (by decide)) dX6_addFrame_72 (fun H locs hO hS => ?_)
        have hO : mO G lo ad1 (mU (mU (WM G ad1 0 g nf F f no O it ch R) 200 (.inl (G.2 0, 7, .inl (upd (upd (upd (upd (upd (fun _ => 0) 0 k) 1 w) 2 0) 3 0) 4 0)))) 200 (.inl (G.2 0, 7, .inl (upd (upd (upd (upd (upd (upd (fun _ => 0) 0 k) 1 w) 2 0) 3 0) 4 0) 5 (-1))))) H := hO
        rw [mU_mU] at hO
        refine lv_dup hx hb dX6_addFrame_73 rfl ?_
        refine lv_bipush (v := 6) hx hb dX6_addFrame_74 (by decide) ?_
        refine lv_iconst (v := 0) hx hb dX6_addFrame_76 (by decide) ?_
        refine m_iast hF hC hO hS (mU_self) (j := 6) (by decide) (vp_in_nI (n := 6) (by decide) (by decide)) dX6_addFrame_77 (fun H locs hO hS => ?_)
        have hO : mO G lo ad1 (mU (mU (WM G ad1 0 g nf F f no O it ch R) 200 (.inl (G.2 0, 7, .inl (upd (upd (upd (upd (upd (upd (fun _ => 0) 0 k) 1 w) 2 0) 3 0) 4 0) 5 (-1))))) 200 (.inl (G.2 0, 7, .inl (upd (upd (upd (upd (upd (upd (upd (fun _ => 0) 0 k) 1 w) 2 0) 3 0) 4 0) 5 (-1)) 6 0)))) H := hO
        rw [mU_mU] at hO
        refine lv_astore_n (lv' := [(3, .ref (ad1 200)), (0, .ref (ad1 50)), (1, .int k), (2, .int w)]) hx hb dX6_addFrame_78 rfl hl (by decide) rfl (fun ls hl => ?_)
        refine lv_aload_n hx hb dX6_addFrame_79 rfl (lv_at hl 0 rfl) ?_
        refine lv_iconst (v := 0) hx hb dX6_addFrame_80 (by decide) ?_
        refine lv_aload_n hx hb dX6_addFrame_81 rfl (lv_at hl 1 rfl) ?_
        refine m_get inX6 hF hC hO ((mU_ne (by decide : (50 : Nat) ≠ 200)).trans (rfl)) rfl 5 (by decide) q_667 (v := .ref (ad1 51)) rfl dX6_addFrame_82 ?_
        refine lv_bipush (v := 7) hx hb dX6_addFrame_85 (by decide) ?_
        refine lv_aload_n hx hb dX6_addFrame_87 rfl (lv_at hl 1 rfl) ?_
        refine m_get inX6 hF hC hO ((mU_ne (by decide : (50 : Nat) ≠ 200)).trans (rfl)) rfl 4 (by decide) q_666 (v := .int (nI nf)) rfl dX6_addFrame_88 ?_
        refine lv_imul hx hb dX6_addFrame_91 ?_
        refine lv_bipush (v := 7) hx hb dX6_addFrame_92 (by decide) ?_
        refine m_copy (a := 0) (b := (7 * nf)) (k := 7) hF hC hO hS (mU_self) ((mU_ne (by decide : (51 : Nat) ≠ 200)).trans (rfl)) (by decide : (200 : Nat) ≠ 51) q_737 q_739 q_738 q_13 (by decide) (by rw [p_m7]; exact nI_nneg (by omega)) (by decide) rfl (by rw [p_m7]; exact nI_clamp (by omega)) rfl (by decide) (by have := c36; have h9 : nf ≠ 12 := (fun h => c36 (by rw [h]; rfl)); omega) hl.1 ⟨Nat.le_of_ble_eq_true rfl, by decide⟩ (Nat.le_of_ble_eq_true rfl) dX6_addFrame_94 (fun H locs hO hS => ?_)
        rw [mU_sw (by decide)] at hO
        rw [WM_w1 (tab_new (F := F) (i := nf) (k := k) (w := w) (by omega))] at hO
        replace hO := WM_back had1 hz hO
        have hl : lv_has ls 4 [(0, .ref (ad1 50)), (1, .int k), (2, .int w)] := lv_sub hl [1, 2, 3] rfl
        rw [← had1 50 (by decide)] at hl
        refine lv_aload_n hx hb dX6_addFrame_97 rfl (lv_at hl 0 rfl) ?_
        refine lv_dup hx hb dX6_addFrame_98 rfl ?_
        refine m_get inX6 hF hC hO rfl rfl 4 (by decide) q_666 (v := .int (nI nf)) rfl dX6_addFrame_99 ?_
        refine lv_iconst (v := 1) hx hb dX6_addFrame_102 (by decide) ?_
        refine lv_iadd hx hb dX6_addFrame_103 ?_
        rw [show nI nf + 1 = nI (nf + 1) from nI_1 nf]
        refine m_put (ty := .int) tyX6 tyX6_ok nmX6 inX6 hF hC hO hS rfl rfl 4 (by decide) q_666 rfl (by decide +kernel) rfl rfl (fs' := [.int 0, .int (g 0), .int (g 1), .int (g 2), .int (nI (nf + 1)), .ref (ad 51), .ref (ad 52), .int (nI no), .ref (ad 53), .int (g 3), .int (g 4), .int (g 5), .ref (ad 54), .ref (ad 55)]) (Nat.le_of_ble_eq_true rfl) rfl dX6_addFrame_104 (fun H locs hO hS => ?_)
        have hO : mO G lo ad (mU (WM G ad 0 g nf (va_up F nf (N_F k w)) f no O it ch R) 50 (mxO ad 0 g (nf + 1) no)) H := hO
        rw [WM_w0] at hO
        refine lv_aload_n hx hb dX6_addFrame_107 rfl (lv_at hl 0 rfl) ?_
        refine m_get inX6 hF hC hO rfl rfl 4 (by decide) q_666 (v := .int (nI (nf + 1))) rfl dX6_addFrame_108 ?_
        refine lv_iconst (v := 1) hx hb dX6_addFrame_111 (by decide) ?_
        refine lv_isub hx hb dX6_addFrame_112 ?_
        refine m_niret hF hr hlk hQ (by decide) rfl hO hS dX6_addFrame_113 ?_
        have hK : K_addFrame nf k w = 0 := by rw [K_addFrame, if_pos b8, if_pos b18, if_neg c36]
        exact Or.inl ⟨hK, by rw [nI_pred], rfl, rfl⟩
      · refine lv_aload_n hx hb dX6_addFrame_39 rfl (lv_at hl 0 rfl) ?_
        refine lv_iconst (v := 2) hx hb dX6_addFrame_40 (by decide) ?_
        refine m_vI (As := [.int 2]) (rest := []) (n := 1) hF hC hO hS (k_X6_fail l G lo sa ad R 0 g nf F f no O it ch 2 hnf hno) ok_X6_fail q_717 (rfl) rfl ⟨Nat.le_of_ble_eq_true rfl, Nat.le_of_ble_eq_true rfl⟩ rfl hl.1 rfl (Nat.le_of_ble_eq_true rfl) ⟨Nat.le_of_ble_eq_true rfl, Nat.le_of_ble_eq_true rfl⟩ dX6_addFrame_41 (fun v41 R' H locs hp hO hS => ?_)
        obtain ⟨rfl, hR⟩ := hp
        rw [hR] at hO
        refine m_niret hF hr hlk hQ (by decide) rfl hO hS dX6_addFrame_44 ?_
        have hK : K_addFrame nf k w = 2 := by rw [K_addFrame, if_pos b8, if_pos b18, if_pos c36]
        exact Or.inr ⟨by rw [hK]; decide, rfl, by rw [hK]⟩
    · rw [hR] at hO
      refine lv_if_ne (tgt := 30) hx hb dX6_addFrame_21 (by decide) (fun c21 => absurd (by decide) c21) (fun c21 => ?_)
      refine lv_aload_n hx hb dX6_addFrame_24 rfl (lv_at hl 0 rfl) ?_
      refine lv_iconst (v := 1) hx hb dX6_addFrame_25 (by decide) ?_
      refine m_vI (As := [.int 1]) (rest := []) (n := 1) hF hC hO hS (k_X6_fail l G lo sa ad R 0 g nf F f no O it ch 1 hnf hno) ok_X6_fail q_717 (rfl) rfl ⟨Nat.le_of_ble_eq_true rfl, Nat.le_of_ble_eq_true rfl⟩ rfl hl.1 rfl (Nat.le_of_ble_eq_true rfl) ⟨Nat.le_of_ble_eq_true rfl, Nat.le_of_ble_eq_true rfl⟩ dX6_addFrame_26 (fun v26 R' H locs hp hO hS => ?_)
      obtain ⟨rfl, hR⟩ := hp
      rw [hR] at hO
      refine m_niret hF hr hlk hQ (by decide) rfl hO hS dX6_addFrame_29 ?_
      have hK : K_addFrame nf k w = 1 := by rw [K_addFrame, if_pos b8, if_neg b18]
      exact Or.inr ⟨by rw [hK]; decide, rfl, by rw [hK]⟩
  · rw [hR] at hO
    refine lv_if_eq (tgt := 24) hx hb dX6_addFrame_11 (by decide) (fun c11 => ?_) (fun c11 => absurd (by decide) c11)
    refine lv_aload_n hx hb dX6_addFrame_24 rfl (lv_at hl 0 rfl) ?_
    refine lv_iconst (v := 1) hx hb dX6_addFrame_25 (by decide) ?_
    refine m_vI (As := [.int 1]) (rest := []) (n := 1) hF hC hO hS (k_X6_fail l G lo sa ad R 0 g nf F f no O it ch 1 hnf hno) ok_X6_fail q_717 (rfl) rfl ⟨Nat.le_of_ble_eq_true rfl, Nat.le_of_ble_eq_true rfl⟩ rfl hl.1 rfl (Nat.le_of_ble_eq_true rfl) ⟨Nat.le_of_ble_eq_true rfl, Nat.le_of_ble_eq_true rfl⟩ dX6_addFrame_26 (fun v26 R' H locs hp hO hS => ?_)
    obtain ⟨rfl, hR⟩ := hp
    rw [hR] at hO
    refine m_niret hF hr hlk hQ (by decide) rfl hO hS dX6_addFrame_29 ?_
    have hK : K_addFrame nf k w = 1 := by rw [K_addFrame, if_neg b8]
    exact Or.inr ⟨by rw [hK]; decide, rfl, by rw [hK]⟩
theorem ok_X6_addOrder : mOK RX6 yX6_addOrder cX6_addOrder 6 (some .int) 4 := ⟨q_834, q_835, q_6, q_836, by decide +kernel⟩
set_option maxHeartbeats 400000 in
set_option maxRecDepth 100000 in
theorem k_X6_addOrder (l : Launch) (G : mG) (lo : Nat) (sa ad : Nat → Nat) (R : mM) (th : Int32) (g : Nat → Int32) (nf : Nat) (F : Nat → Nat → Int32) (f : Nat → Int32) (no : Nat) (O : Nat → Nat → Int32) (it ch : Nat → Int32) (k z y w : Int32) (hnf : nf ≤ 12) (hno : no ≤ 20) (hz : R 200 = none) : nI' l yX6_addOrder cX6_addOrder 6 .int 1 60 1 5 G lo sa ad (WM G ad th g nf F f no O it ch R) [.ref (ad 50), .int k, .int z, .int y, .int w] (fun v u' => (K_addOrder g no k z y w = 0 ∧ v = nI no ∧ u'.1 = ad ∧ u'.2 = WM G ad 0 g nf F f (no + 1) (va_up O no (N_O k z y w)) it ch R) ∨ (¬ K_addOrder g no k z y w = 0 ∧ u'.1 = ad ∧ u'.2 = WM G ad (K_addOrder g no k z y w) g nf F f no O it ch R)) := by
  refine nI_of' (by decide) (Nat.le_of_ble_eq_true rfl) ?_
  intro p e s m args below meth c hF hr hlk hC ls hl hO hS Q hQ
  have hx := hF.1
  have hb := hF.2.1
  have hl : lv_has ls 6 [(0, .ref (ad 50)), (1, .int k), (2, .int z), (3, .int y), (4, .int w)] := hl
  refine lv_aload_n hx hb dX6_addOrder_0 rfl (lv_at hl 0 rfl) ?_
  refine lv_iconst (v := 0) hx hb dX6_addOrder_1 (by decide) ?_
  refine m_put (ty := .int) tyX6 tyX6_ok nmX6 inX6 hF hC hO hS (rfl) rfl 0 (by decide) q_662 rfl (by decide +kernel) rfl rfl (fs' := [.int 0, .int (g 0), .int (g 1), .int (g 2), .int (nI nf), .ref (ad 51), .ref (ad 52), .int (nI no), .ref (ad 53), .int (g 3), .int (g 4), .int (g 5), .ref (ad 54), .ref (ad 55)]) (Nat.le_of_ble_eq_true rfl) rfl dX6_addOrder_2 (fun H locs hO hS => ?_)
  have hO : mO G lo ad (mU (WM G ad th g nf F f no O it ch R) 50 (mxO ad 0 g nf no)) H := hO
  rw [] at hO
  rw [WM_w0] at hO
  refine lv_iload_n hx hb dX6_addOrder_5 rfl (lv_at hl 1 rfl) ?_
  refine lv_iconst (v := 0) hx hb dX6_addOrder_6 (by decide) ?_
  refine lv_iconst (v := 3) hx hb dX6_addOrder_7 (by decide) ?_
  refine m_sI (As := [.int k, .int 0, .int 3]) (rest := []) (n := 3) hF hC hO hS (k_X6_isIn l G lo sa ad _ k 0 3 ) ok_X6_isIn q_714 ⟨Nat.le_of_ble_eq_true rfl, Nat.le_of_ble_eq_true rfl⟩ rfl hl.1 rfl (Nat.le_of_ble_eq_true rfl) ⟨Nat.le_of_ble_eq_true rfl, Nat.le_of_ble_eq_true rfl⟩ dX6_addOrder_8 (fun v8 R' H locs hp hO hS => ?_)
  obtain ⟨⟨rfl, b8⟩ | ⟨rfl, b8⟩, hR⟩ := hp
  · rw [hR] at hO
    refine lv_if_eq (tgt := 52) hx hb dX6_addOrder_11 (by decide) (fun c11 => absurd c11 (by decide)) (fun c11 => ?_)
    refine lv_iload_n hx hb dX6_addOrder_14 rfl (lv_at hl 2 rfl) ?_
    refine lv_iconst (v := 1) hx hb dX6_addOrder_15 (by decide) ?_
    refine lv_bipush (v := 9) hx hb dX6_addOrder_16 (by decide) ?_
    refine m_sI (As := [.int z, .int 1, .int 9]) (rest := []) (n := 3) hF hC hO hS (k_X6_isIn l G lo sa ad _ z 1 9 ) ok_X6_isIn q_714 ⟨Nat.le_of_ble_eq_true rfl, Nat.le_of_ble_eq_true rfl⟩ rfl hl.1 rfl (Nat.le_of_ble_eq_true rfl) ⟨Nat.le_of_ble_eq_true rfl, Nat.le_of_ble_eq_true rfl⟩ dX6_addOrder_18 (fun v18 R' H locs hp hO hS => ?_)
    obtain ⟨⟨rfl, b18⟩ | ⟨rfl, b18⟩, hR⟩ := hp
    · rw [hR] at hO
      refine lv_if_eq (tgt := 52) hx hb dX6_addOrder_21 (by decide) (fun c21 => absurd c21 (by decide)) (fun c21 => ?_)
      refine lv_iload_n hx hb dX6_addOrder_24 rfl (lv_at hl 3 rfl) ?_
      refine lv_iconst (v := 1) hx hb dX6_addOrder_25 (by decide) ?_
      refine lv_bipush (v := 60) hx hb dX6_addOrder_26 (by decide) ?_
      refine m_sI (As := [.int y, .int 1, .int 60]) (rest := []) (n := 3) hF hC hO hS (k_X6_isIn l G lo sa ad _ y 1 60 ) ok_X6_isIn q_714 ⟨Nat.le_of_ble_eq_true rfl, Nat.le_of_ble_eq_true rfl⟩ rfl hl.1 rfl (Nat.le_of_ble_eq_true rfl) ⟨Nat.le_of_ble_eq_true rfl, Nat.le_of_ble_eq_true rfl⟩ dX6_addOrder_28 (fun v28 R' H locs hp hO hS => ?_)
      obtain ⟨⟨rfl, b28⟩ | ⟨rfl, b28⟩, hR⟩ := hp
      · rw [hR] at hO
        refine lv_if_eq (tgt := 52) hx hb dX6_addOrder_31 (by decide) (fun c31 => absurd c31 (by decide)) (fun c31 => ?_)
        refine lv_iload hx hb dX6_addOrder_34 (lv_at hl 4 rfl) ?_
        refine lv_aload_n hx hb dX6_addOrder_36 rfl (lv_at hl 0 rfl) ?_
        refine m_get inX6 hF hC hO (rfl) rfl 9 (by decide) q_671 (v := .int (g 3)) rfl dX6_addOrder_37 ?_
        refine lv_bipush (v := 40) hx hb dX6_addOrder_40 (by decide) ?_
        refine lv_idiv hx hb dX6_addOrder_42 (by decide) ?_
        refine lv_sipush (v := 1000) hx hb dX6_addOrder_43 (by decide) ?_
        refine m_sI (As := [.int w, .int ((g 3) / 40), .int 1000]) (rest := []) (n := 3) hF hC hO hS (k_X6_isIn l G lo sa ad _ w ((g 3) / 40) 1000 ) ok_X6_isIn q_714 ⟨Nat.le_of_ble_eq_true rfl, Nat.le_of_ble_eq_true rfl⟩ rfl hl.1 rfl (Nat.le_of_ble_eq_true rfl) ⟨Nat.le_of_ble_eq_true rfl, Nat.le_of_ble_eq_true rfl⟩ dX6_addOrder_46 (fun v46 R' H locs hp hO hS => ?_)
        obtain ⟨⟨rfl, b46⟩ | ⟨rfl, b46⟩, hR⟩ := hp
        · rw [hR] at hO
          refine lv_if_ne (tgt := 58) hx hb dX6_addOrder_49 (by decide) (fun c49 => ?_) (fun c49 => absurd c49 (by decide))
          refine lv_aload_n hx hb dX6_addOrder_58 rfl (lv_at hl 0 rfl) ?_
          refine m_get inX6 hF hC hO (rfl) rfl 7 (by decide) q_669 (v := .int (nI no)) rfl dX6_addOrder_59 ?_
          refine lv_bipush (v := 20) hx hb dX6_addOrder_62 (by decide) ?_
          refine lv_icmp_ne (tgt := 73) hx hb dX6_addOrder_64 (by decide) (fun c64 => ?_) (fun c64 => ?_)
          · refine lv_iconst (v := 5) hx hb dX6_addOrder_73 (by decide) ?_
            refine m_newa (k := 0) (r := 200) (N := 5) (arr := (5, .inl (fun _ => 0))) hF hC hO hS (hz) q_57 rfl rfl (fun _ => rfl) (fun _ => rfl) (by decide) rfl (by decide) ⟨Nat.le_of_ble_eq_true rfl, Nat.le_of_ble_eq_true rfl⟩ dX6_addOrder_74 (fun ad1 H had1 hO hS => ?_)
            rw [WM_ad (ad1 := ad1) (fun x h1 h2 => had1 x (by omega))] at hO
            try simp only [had1 50 (by decide), had1 51 (by decide), had1 52 (by decide), had1 53 (by decide), had1 54 (by decide), had1 55 (by decide)] at hO
            try simp only [had1 50 (by decide), had1 51 (by decide), had1 52 (by decide), had1 53 (by decide), had1 54 (by decide), had1 55 (by decide)] at hl
            try simp only [had1 50 (by decide), had1 51 (by decide), had1 52 (by decide), had1 53 (by decide), had1 54 (by decide), had1 55 (by decide)]
            have hO : mO G lo ad1 (mU (WM G ad1 0 g nf F f no O it ch R) 200 (.inl (G.2 0, 5, .inl (fun _ => 0)))) H := hO
            refine lv_dup hx hb dX6_addOrder_76 rfl ?_
            refine lv_iconst (v := 0) hx hb dX6_addOrder_77 (by decide) ?_
            refine lv_iload_n hx hb dX6_addOrder_78 rfl (lv_at hl 1 rfl) ?_
            refine m_iast hF hC hO hS (mU_self) (j := 0) (by decide) (vp_in_nI (n := 0) (by decide) (by decide)) dX6_addOrder_79 (fun H locs hO hS => ?_)
            have hO : mO G lo ad1 (mU (mU (WM G ad1 0 g nf F f no O it ch R) 200 (.inl (G.2 0, 5, .inl (fun _ => 0)))) 200 (.inl (G.2 0, 5, .inl (upd (fun _ => 0) 0 k)))) H := hO
            rw [mU_mU] at hO
            refine lv_dup hx hb dX6_addOrder_80 rfl ?_
            refine lv_iconst (v := 1) hx hb dX6_addOrder_81 (by decide) ?_
            refine lv_iload_n hx hb dX6_addOrder_82 rfl (lv_at hl 2 rfl) ?_
            refine m_iast hF hC hO hS (mU_self) (j := 1) (by decide) (vp_in_nI (n := 1) (by decide) (by decide)) dX6_addOrder_83 (fun H locs hO hS => ?_)
            have hO : mO G lo ad1 (mU (mU (WM G ad1 0 g nf F f no O it ch R) 200 (.inl (G.2 0, 5, .inl (upd (fun _ => 0) 0 k)))) 200 (.inl (G.2 0, 5, .inl (upd (upd (fun _ => 0) 0 k) 1 z)))) H := hO
            rw [mU_mU] at hO
            refine lv_dup hx hb dX6_addOrder_84 rfl ?_
            refine lv_iconst (v := 2) hx hb dX6_addOrder_85 (by decide) ?_
            refine lv_iload_n hx hb dX6_addOrder_86 rfl (lv_at hl 3 rfl) ?_
            refine m_iast hF hC hO hS (mU_self) (j := 2) (by decide) (vp_in_nI (n := 2) (by decide) (by decide)) dX6_addOrder_87 (fun H locs hO hS => ?_)
            have hO : mO G lo ad1 (mU (mU (WM G ad1 0 g nf F f no O it ch R) 200 (.inl (G.2 0, 5, .inl (upd (upd (fun _ => 0) 0 k) 1 z)))) 200 (.inl (G.2 0, 5, .inl (upd (upd (upd (fun _ => 0) 0 k) 1 z) 2 y)))) H := hO
            rw [mU_mU] at hO
            refine lv_dup hx hb dX6_addOrder_88 rfl ?_
            refine lv_iconst (v := 3) hx hb dX6_addOrder_89 (by decide) ?_
            refine lv_iload hx hb dX6_addOrder_90 (lv_at hl 4 rfl) ?_
            refine m_iast hF hC hO hS (mU_self) (j := 3) (by decide) (vp_in_nI (n := 3) (by decide) (by decide)) dX6_addOrder_92 (fun H locs hO hS => ?_)
            have hO : mO G lo ad1 (mU (mU (WM G ad1 0 g nf F f no O it ch R) 200 (.inl (G.2 0, 5, .inl (upd (upd (upd (fun _ => 0) 0 k) 1 z) 2 y)))) 200 (.inl (G.2 0, 5, .inl (upd (upd (upd (upd (fun _ => 0) 0 k) 1 z) 2 y) 3 w)))) H := hO
            rw [mU_mU] at hO
            refine lv_dup hx hb dX6_addOrder_93 rfl ?_
            refine lv_iconst (v := 4) hx hb dX6_addOrder_94 (by decide) ?_
            refine lv_iconst (v := 0) hx hb dX6_addOrder_95 (by decide) ?_
            refine m_iast hF hC hO hS (mU_self) (j := 4) (by decide) (vp_in_nI (n := 4) (by decide) (by decide)) dX6_addOrder_96 (fun H locs hO hS => ?_)
            have hO : mO G lo ad1 (mU (mU (WM G ad1 0 g nf F f no O it ch R) 200 (.inl (G.2 0, 5, .inl (upd (upd (upd (upd (fun _ => 0) 0 k) 1 z) 2 y) 3 w)))) 200 (.inl (G.2 0, 5, .inl (upd (upd (upd (upd (upd (fun _ => 0) 0 k) 1 z) 2 y) 3 w) 4 0)))) H := hO
            rw [mU_mU] at hO
            refine lv_astore (lv' := [(5, .ref (ad1 200)), (0, .ref (ad1 50)), (1, .int k), (2, .int z), (3, .int y), (4, .int w)]) hx hb dX6_addOrder_97 hl (by decide) rfl (fun ls hl => ?_)
            refine lv_aload hx hb dX6_addOrder_99 (lv_at hl 0 rfl) ?_
            refine lv_iconst (v := 0) hx hb dX6_addOrder_101 (by decide) ?_
            refine lv_aload_n hx hb dX6_addOrder_102 rfl (lv_at hl 1 rfl) ?_
            refine m_get inX6 hF hC hO ((mU_ne (by decide : (50 : Nat) ≠ 200)).trans (rfl)) rfl 8 (by decide) q_670 (v := .ref (ad1 53)) rfl dX6_addOrder_103 ?_
            refine lv_iconst (v := 5) hx hb dX6_addOrder_106 (by decide) ?_
            refine lv_aload_n hx hb dX6_addOrder_107 rfl (lv_at hl 1 rfl) ?_
            refine m_get inX6 hF hC hO ((mU_ne (by decide : (50 : Nat) ≠ 200)).trans (rfl)) rfl 7 (by decide) q_669 (v := .int (nI no)) rfl dX6_addOrder_108 ?_
            refine lv_imul hx hb dX6_addOrder_111 ?_
            refine lv_iconst (v := 5) hx hb dX6_addOrder_112 (by decide) ?_
            refine m_copy (a := 0) (b := (5 * no)) (k := 5) hF hC hO hS (mU_self) ((mU_ne (by decide : (53 : Nat) ≠ 200)).trans (rfl)) (by decide : (200 : Nat) ≠ 53) q_737 q_739 q_738 q_13 (by decide) (by rw [p_m5]; exact nI_nneg (by omega)) (by decide) rfl (by rw [p_m5]; exact nI_clamp (by omega)) rfl (by decide) (by have h9 : no ≠ 20 := (fun h => c64 (by rw [h]; rfl)); omega) hl.1 ⟨Nat.le_of_ble_eq_true rfl, by decide⟩ (Nat.le_of_ble_eq_true rfl) dX6_addOrder_113 (fun H locs hO hS => ?_)
            rw [mU_sw (by decide)] at hO
            rw [WM_w3 (ot_new (F := O) (i := no) (k := k) (z := z) (u := y) (w := w) (by omega))] at hO
            replace hO := WM_back had1 hz hO
            have hl : lv_has ls 6 [(0, .ref (ad1 50)), (1, .int k), (2, .int z), (3, .int y), (4, .int w)] := lv_sub hl [1, 2, 3, 4, 5] rfl
            rw [← had1 50 (by decide)] at hl
            refine lv_aload_n hx hb dX6_addOrder_116 rfl (lv_at hl 0 rfl) ?_
            refine lv_dup hx hb dX6_addOrder_117 rfl ?_
            refine m_get inX6 hF hC hO rfl rfl 7 (by decide) q_669 (v := .int (nI no)) rfl dX6_addOrder_118 ?_
            refine lv_iconst (v := 1) hx hb dX6_addOrder_121 (by decide) ?_
            refine lv_iadd hx hb dX6_addOrder_122 ?_
            rw [show nI no + 1 = nI (no + 1) from nI_1 no]
            refine m_put (ty := .int) tyX6 tyX6_ok nmX6 inX6 hF hC hO hS rfl rfl 7 (by decide) q_669 rfl (by decide +kernel) rfl rfl (fs' := [.int 0, .int (g 0), .int (g 1), .int (g 2), .int (nI nf), .ref (ad 51), .ref (ad 52), .int (nI (no + 1)), .ref (ad 53), .int (g 3), .int (g 4), .int (g 5), .ref (ad 54), .ref (ad 55)]) (Nat.le_of_ble_eq_true rfl) rfl dX6_addOrder_123 (fun H locs hO hS => ?_)
            have hO : mO G lo ad (mU (WM G ad 0 g nf F f no (va_up O no (N_O k z y w)) it ch R) 50 (mxO ad 0 g nf (no + 1))) H := hO
            rw [WM_w0] at hO
            refine lv_aload_n hx hb dX6_addOrder_126 rfl (lv_at hl 0 rfl) ?_
            refine m_get inX6 hF hC hO rfl rfl 7 (by decide) q_669 (v := .int (nI (no + 1))) rfl dX6_addOrder_127 ?_
            refine lv_iconst (v := 1) hx hb dX6_addOrder_130 (by decide) ?_
            refine lv_isub hx hb dX6_addOrder_131 ?_
            refine m_niret hF hr hlk hQ (by decide) rfl hO hS dX6_addOrder_132 ?_
            have hK : K_addOrder g no k z y w = 0 := by rw [K_addOrder, if_pos b8, if_pos b18, if_pos b28, if_pos b46, if_neg c64]
            exact Or.inl ⟨hK, by rw [nI_pred], rfl, rfl⟩
          · refine lv_aload_n hx hb dX6_addOrder_67 rfl (lv_at hl 0 rfl) ?_
            refine lv_iconst (v := 2) hx hb dX6_addOrder_68 (by decide) ?_
            refine m_vI (As := [.int 2]) (rest := []) (n := 1) hF hC hO hS (k_X6_fail l G lo sa ad R 0 g nf F f no O it ch 2 hnf hno) ok_X6_fail q_717 (rfl) rfl ⟨Nat.le_of_ble_eq_true rfl, Nat.le_of_ble_eq_true rfl⟩ rfl hl.1 rfl (Nat.le_of_ble_eq_true rfl) ⟨Nat.le_of_ble_eq_true rfl, Nat.le_of_ble_eq_true rfl⟩ dX6_addOrder_69 (fun v69 R' H locs hp hO hS => ?_)
            obtain ⟨rfl, hR⟩ := hp
            rw [hR] at hO
            refine m_niret hF hr hlk hQ (by decide) rfl hO hS dX6_addOrder_72 ?_
            have hK : K_addOrder g no k z y w = 2 := by rw [K_addOrder, if_pos b8, if_pos b18, if_pos b28, if_pos b46, if_pos c64]
            exact Or.inr ⟨by rw [hK]; decide, rfl, by rw [hK]⟩
        · rw [hR] at hO
          refine lv_if_ne (tgt := 58) hx hb dX6_addOrder_49 (by decide) (fun c49 => absurd (by decide) c49) (fun c49 => ?_)
          refine lv_aload_n hx hb dX6_addOrder_52 rfl (lv_at hl 0 rfl) ?_
          refine lv_iconst (v := 1) hx hb dX6_addOrder_53 (by decide) ?_
          refine m_vI (As := [.int 1]) (rest := []) (n := 1) hF hC hO hS (k_X6_fail l G lo sa ad R 0 g nf F f no O it ch 1 hnf hno) ok_X6_fail q_717 (rfl) rfl ⟨Nat.le_of_ble_eq_true rfl, Nat.le_of_ble_eq_true rfl⟩ rfl hl.1 rfl (Nat.le_of_ble_eq_true rfl) ⟨Nat.le_of_ble_eq_true rfl, Nat.le_of_ble_eq_true rfl⟩ dX6_addOrder_54 (fun v54 R' H locs hp hO hS => ?_)
          obtain ⟨rfl, hR⟩ := hp
          rw [hR] at hO
          refine m_niret hF hr hlk hQ (by decide) rfl hO hS dX6_addOrder_57 ?_
          have hK : K_addOrder g no k z y w = 1 := by rw [K_addOrder, if_pos b8, if_pos b18, if_pos b28, if_neg b46]
          exact Or.inr ⟨by rw [hK]; decide, rfl, by rw [hK]⟩
      · rw [hR] at hO
        refine lv_if_eq (tgt := 52) hx hb dX6_addOrder_31 (by decide) (fun c31 => ?_) (fun c31 => absurd (by decide) c31)
        refine lv_aload_n hx hb dX6_addOrder_52 rfl (lv_at hl 0 rfl) ?_
        refine lv_iconst (v := 1) hx hb dX6_addOrder_53 (by decide) ?_
        refine m_vI (As := [.int 1]) (rest := []) (n := 1) hF hC hO hS (k_X6_fail l G lo sa ad R 0 g nf F f no O it ch 1 hnf hno) ok_X6_fail q_717 (rfl) rfl ⟨Nat.le_of_ble_eq_true rfl, Nat.le_of_ble_eq_true rfl⟩ rfl hl.1 rfl (Nat.le_of_ble_eq_true rfl) ⟨Nat.le_of_ble_eq_true rfl, Nat.le_of_ble_eq_true rfl⟩ dX6_addOrder_54 (fun v54 R' H locs hp hO hS => ?_)
        obtain ⟨rfl, hR⟩ := hp
        rw [hR] at hO
        refine m_niret hF hr hlk hQ (by decide) rfl hO hS dX6_addOrder_57 ?_
        have hK : K_addOrder g no k z y w = 1 := by rw [K_addOrder, if_pos b8, if_pos b18, if_neg b28]
        exact Or.inr ⟨by rw [hK]; decide, rfl, by rw [hK]⟩
    · rw [hR] at hO
      refine lv_if_eq (tgt := 52) hx hb dX6_addOrder_21 (by decide) (fun c21 => ?_) (fun c21 => absurd (by decide) c21)
      refine lv_aload_n hx hb dX6_addOrder_52 rfl (lv_at hl 0 rfl) ?_
      refine lv_iconst (v := 1) hx hb dX6_addOrder_53 (by decide) ?_
      refine m_vI (As := [.int 1]) (rest := []) (n := 1) hF hC hO hS (k_X6_fail l G lo sa ad R 0 g nf F f no O it ch 1 hnf hno) ok_X6_fail q_717 (rfl) rfl ⟨Nat.le_of_ble_eq_true rfl, Nat.le_of_ble_eq_true rfl⟩ rfl hl.1 rfl (Nat.le_of_ble_eq_true rfl) ⟨Nat.le_of_ble_eq_true rfl, Nat.le_of_ble_eq_true rfl⟩ dX6_addOrder_54 (fun v54 R' H locs hp hO hS => ?_)
      obtain ⟨rfl, hR⟩ := hp
      rw [hR] at hO
      refine m_niret hF hr hlk hQ (by decide) rfl hO hS dX6_addOrder_57 ?_
      have hK : K_addOrder g no k z y w = 1 := by rw [K_addOrder, if_pos b8, if_neg b18]
      exact Or.inr ⟨by rw [hK]; decide, rfl, by rw [hK]⟩
  · rw [hR] at hO
    refine lv_if_eq (tgt := 52) hx hb dX6_addOrder_11 (by decide) (fun c11 => ?_) (fun c11 => absurd (by decide) c11)
    refine lv_aload_n hx hb dX6_addOrder_52 rfl (lv_at hl 0 rfl) ?_
    refine lv_iconst (v := 1) hx hb dX6_addOrder_53 (by decide) ?_
    refine m_vI (As := [.int 1]) (rest := []) (n := 1) hF hC hO hS (k_X6_fail l G lo sa ad R 0 g nf F f no O it ch 1 hnf hno) ok_X6_fail q_717 (rfl) rfl ⟨Nat.le_of_ble_eq_true rfl, Nat.le_of_ble_eq_true rfl⟩ rfl hl.1 rfl (Nat.le_of_ble_eq_true rfl) ⟨Nat.le_of_ble_eq_true rfl, Nat.le_of_ble_eq_true rfl⟩ dX6_addOrder_54 (fun v54 R' H locs hp hO hS => ?_)
    obtain ⟨rfl, hR⟩ := hp
    rw [hR] at hO
    refine m_niret hF hr hlk hQ (by decide) rfl hO hS dX6_addOrder_57 ?_
    have hK : K_addOrder g no k z y w = 1 := by rw [K_addOrder, if_neg b8]
    exact Or.inr ⟨by rw [hK]; decide, rfl, by rw [hK]⟩
