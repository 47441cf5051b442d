theorem loop_in {L q : Nat} (hL : L < 2 ^ 30) (hq : 5 * q < 2 ^ 30) (h : ¬ nI (5 * q) > Int32.ofNat L - 5) : 5 * q + 5 ≤ L := by
  have h1 := Int32.le_iff_toInt_le.mp (Int32.not_lt.mp h)
  have h2 : (Int32.ofNat L - 5).toInt = (L : Int) - 5 := pk_sub_toInt (a := L) (b := 5) hL (by decide)
  rw [h2, nI_toInt (by omega)] at h1
  omega
set_option maxHeartbeats 1000000 in
set_option maxRecDepth 100000 in
theorem law_loop {p : Program} {l : Launch} {e : Env} {s : State} {m : MethodId} {below : List Frame} {meth : Method} {c : Code} {b L : Nat} {xs : Nat → Int32} {G : mG} {sa : Nat → Nat} (X : LwX p l s m meth c b L xs G sa) : ∀ (n q : Nat), q + n = 513 → 5 * q ≤ L → LAt p l e s m below meth c b G 23 (5 * q) q := by
  intro n
  induction n with
  | zero => intro q h1 h2; have := X.hL; omega
  | succ n ih =>
    intro q hqn hqL
    have hN : 5 * q + 5 ≤ L → LAt p l e s m below meth c b G 1433 (5 * q) (q + 1) := by
      intro hi5 d ad th g nf F f no O tf tv fw it ch o Ro H locs ls cells slots hd hI hfw h60 h200 hO hS hl hc9 hs9
      refine lv_iinc (v := nI (5 * (q + 1))) (lv' := [(4, .int (nI (5 * (q + 1)))), (0, .ref b), (1, .ref (ad 0)), (2, .ref (ad 50)), (3, .ref (ad 60))]) (X.hF d).1 (X.hF d).2.1 dL_law_1433 hl (k := 4) rfl (by show nI (5 * q) + Int32.ofInt 5 = nI (5 * (q + 1)); rw [show (Int32.ofInt 5) = nI 5 from rfl, nI_add]; rfl) (by decide) rfl (fun ls hl => ?_)
      refine lv_goto (tgt := 23) (X.hF d).1 (X.hF d).2.1 dL_law_1436 (by decide) ?_
      exact ih (q + 1) (by omega) (by omega) d ad th g nf F f no O tf tv fw it ch o Ro _ _ _ _ _ hd hI hfw h60 h200 hO hS (lv_sub hl [1, 2, 3, 4, 0] rfl) hc9 hs9
    intro d ad th g nf F f no O tf tv fw it ch o Ro H locs ls cells slots hd hI hfw h60 h200 hO hS hl hc9 hs9
    have hx := (X.hF d).1
    have hb := (X.hF d).2.1
    have hbA : ¬ mA s.heap.size b := Nat.not_le.mpr X.hbl
    have hl : lv_has ls 9 [(0, .ref b), (1, .ref (ad 0)), (2, .ref (ad 50)), (3, .ref (ad 60)), (4, .int (nI (5 * q)))] := hl
    refine lv_iload hx hb dL_law_23 (lv_at hl 4 rfl) ?_
    refine lv_aload_n hx hb dL_law_25 rfl (lv_at hl 0 rfl) ?_
    refine va_slen (s := s.setDrawn d) (A := mA s.heap.size) hx hb X.hX X.hbl hbA hS dL_law_26 ?_
    refine lv_iconst (v := 5) hx hb dL_law_27 (by decide) ?_
    refine lv_isub hx hb dL_law_28 ?_
    refine lv_icmp_gt (tgt := 1439) hx hb dL_law_29 (by decide) (fun c29 => ?_) (fun c29 => ?_)
    · refine lv_iconst (v := 1) hx hb dL_law_1439 (by decide) ?_
      exact LAt.base X hd (by have := X.hL; omega) hS hc9 hs9 dL_law_1440
    · refine lv_aload_n hx hb dL_law_32 rfl (lv_at hl 0 rfl) ?_
      refine lv_iload hx hb dL_law_33 (lv_at hl 4 rfl) ?_
      have hi5 : 5 * q + 5 ≤ L := loop_in (by have := X.hL; omega) (by have := X.hL; omega) c29
      refine va_sld (s := s.setDrawn d) (A := mA s.heap.size) (i := nI (5 * q)) hx hb X.hX X.hbl hbA hS (vp_in_nI (by omega) (by have := X.hL; omega)) dL_law_35 ?_
      refine lv_bipush (v := 31) hx hb dL_law_36 (by decide) ?_
      refine lv_iand hx hb dL_law_38 ?_
      generalize (xs (nI (5 * q)).toNatClampNeg &&& 31) = x9
      have hq9 : q < 512 := by have := X.hL; omega
      rcases sw_cases x9 22 (by decide) with hsw | ⟨k, hk, hke⟩
      · refine lv_tableOut (tgt := 1433) hx hb dL_law_39 hsw (by decide) ?_
        exact hN hi5 d ad th g nf F f no O tf tv fw it ch o Ro _ _ _ _ _ hd hI.up hfw h60 h200 hO hS (lv_sub hl [0, 1, 2, 3, 4] rfl) (by omega) (by omega)
      · subst hke
        rcases (show k = 0 ∨ k = 1 ∨ k = 2 ∨ k = 3 ∨ k = 4 ∨ k = 5 ∨ k = 6 ∨ k = 7 ∨ k = 8 ∨ k = 9 ∨ k = 10 ∨ k = 11 ∨ k = 12 ∨ k = 13 ∨ k = 14 ∨ k = 15 ∨ k = 16 ∨ k = 17 ∨ k = 18 ∨ k = 19 ∨ k = 20 ∨ k = 21 ∨ k = 22 by omega) with rfl | rfl | rfl | rfl | rfl | rfl | rfl | rfl | rfl | rfl | rfl | rfl | rfl | rfl | rfl | rfl | rfl | rfl | rfl | rfl | rfl | rfl | rfl
        · refine lv_tableIn (off := 105) (tgt := 144) hx hb dL_law_39 (by decide) (by decide) (by decide) (by decide) ?_
          exact case_melt X hq9 hi5 (hN hi5) d ad th g nf F f no O tf tv fw it ch o Ro _ _ _ _ _ hd hI hfw h60 h200 hO hS (lv_sub hl [0, 1, 2, 3, 4] rfl) hc9 hs9
        · refine lv_tableIn (off := 161) (tgt := 200) hx hb dL_law_39 (by decide) (by decide) (by decide) (by decide) ?_
          exact case_setFire X hq9 hi5 (hN hi5) d ad th g nf F f no O tf tv fw it ch o Ro _ _ _ _ _ hd hI hfw h60 h200 hO hS (lv_sub hl [0, 1, 2, 3, 4] rfl) hc9 hs9
        · refine lv_tableIn (off := 217) (tgt := 256) hx hb dL_law_39 (by decide) (by decide) (by decide) (by decide) ?_
          exact case_vat X hq9 hi5 (hN hi5) d ad th g nf F f no O tf tv fw it ch o Ro _ _ _ _ _ hd hI hfw h60 h200 hO hS (lv_sub hl [0, 1, 2, 3, 4] rfl) hc9 hs9
        · refine lv_tableIn (off := 273) (tgt := 312) hx hb dL_law_39 (by decide) (by decide) (by decide) (by decide) ?_
          exact case_addFrame X hq9 hi5 (hN hi5) d ad th g nf F f no O tf tv fw it ch o Ro _ _ _ _ _ hd hI hfw h60 h200 hO hS (lv_sub hl [0, 1, 2, 3, 4] rfl) hc9 hs9
        · refine lv_tableIn (off := 341) (tgt := 380) hx hb dL_law_39 (by decide) (by decide) (by decide) (by decide) ?_
          exact case_hang X hq9 hi5 (hN hi5) d ad th g nf F f no O tf tv fw it ch o Ro _ _ _ _ _ hd hI hfw h60 h200 hO hS (lv_sub hl [0, 1, 2, 3, 4] rfl) hc9 hs9
        · refine lv_tableIn (off := 409) (tgt := 448) hx hb dL_law_39 (by decide) (by decide) (by decide) (by decide) ?_
          exact case_layAside X hq9 hi5 (hN hi5) d ad th g nf F f no O tf tv fw it ch o Ro _ _ _ _ _ hd hI hfw h60 h200 hO hS (lv_sub hl [0, 1, 2, 3, 4] rfl) hc9 hs9
        · refine lv_tableIn (off := 465) (tgt := 504) hx hb dL_law_39 (by decide) (by decide) (by decide) (by decide) ?_
          exact case_dip X hq9 hi5 (hN hi5) d ad th g nf F f no O tf tv fw it ch o Ro _ _ _ _ _ hd hI hfw h60 h200 hO hS (lv_sub hl [0, 1, 2, 3, 4] rfl) hc9 hs9
        · refine lv_tableIn (off := 521) (tgt := 560) hx hb dL_law_39 (by decide) (by decide) (by decide) (by decide) ?_
          exact case_cutOff X hq9 hi5 (hN hi5) d ad th g nf F f no O tf tv fw it ch o Ro _ _ _ _ _ hd hI hfw h60 h200 hO hS (lv_sub hl [0, 1, 2, 3, 4] rfl) hc9 hs9
        · refine lv_tableIn (off := 577) (tgt := 616) hx hb dL_law_39 (by decide) (by decide) (by decide) (by decide) ?_
          exact case_frame X hq9 hi5 (hN hi5) d ad th g nf F f no O tf tv fw it ch o Ro _ _ _ _ _ hd hI hfw h60 h200 hO hS (lv_sub hl [0, 1, 2, 3, 4] rfl) hc9 hs9
        · refine lv_tableIn (off := 645) (tgt := 684) hx hb dL_law_39 (by decide) (by decide) (by decide) (by decide) ?_
          exact case_hook X hq9 hi5 (hN hi5) d ad th g nf F f no O tf tv fw it ch o Ro _ _ _ _ _ hd hI hfw h60 h200 hO hS (lv_sub hl [0, 1, 2, 3, 4] rfl) hc9 hs9
        · refine lv_tableIn (off := 701) (tgt := 740) hx hb dL_law_39 (by decide) (by decide) (by decide) (by decide) ?_
          exact case_store X hq9 hi5 (hN hi5) d ad th g nf F f no O tf tv fw it ch o Ro _ _ _ _ _ hd hI hfw h60 h200 hO hS (lv_sub hl [0, 1, 2, 3, 4] rfl) hc9 hs9
        · refine lv_tableIn (off := 769) (tgt := 808) hx hb dL_law_39 (by decide) (by decide) (by decide) (by decide) ?_
          exact case_addOrder X hq9 hi5 (hN hi5) d ad th g nf F f no O tf tv fw it ch o Ro _ _ _ _ _ hd hI hfw h60 h200 hO hS (lv_sub hl [0, 1, 2, 3, 4] rfl) hc9 hs9
        · refine lv_tableIn (off := 861) (tgt := 900) hx hb dL_law_39 (by decide) (by decide) (by decide) (by decide) ?_
          exact case_fill X hq9 hi5 (hN hi5) d ad th g nf F f no O tf tv fw it ch o Ro _ _ _ _ _ hd hI hfw h60 h200 hO hS (lv_sub hl [0, 1, 2, 3, 4] rfl) hc9 hs9
        · refine lv_tableIn (off := 917) (tgt := 956) hx hb dL_law_39 (by decide) (by decide) (by decide) (by decide) ?_
          exact case_order X hq9 hi5 (hN hi5) d ad th g nf F f no O tf tv fw it ch o Ro _ _ _ _ _ hd hI hfw h60 h200 hO hS (lv_sub hl [0, 1, 2, 3, 4] rfl) hc9 hs9
        · refine lv_tableIn (off := 985) (tgt := 1024) hx hb dL_law_39 (by decide) (by decide) (by decide) (by decide) ?_
          exact case_pass X hq9 hi5 (hN hi5) d ad th g nf F f no O tf tv fw it ch o Ro _ _ _ _ _ hd hI hfw h60 h200 hO hS (lv_sub hl [0, 1, 2, 3, 4] rfl) hc9 hs9
        · refine lv_tableIn (off := 1041) (tgt := 1080) hx hb dL_law_39 (by decide) (by decide) (by decide) (by decide) ?_
          exact case_count X hq9 hi5 (hN hi5) d ad th g nf F f no O tf tv fw it ch o Ro _ _ _ _ _ hd hI hfw h60 h200 hO hS (lv_sub hl [0, 1, 2, 3, 4] rfl) hc9 hs9
        · refine lv_tableIn (off := 1097) (tgt := 1136) hx hb dL_law_39 (by decide) (by decide) (by decide) (by decide) ?_
          exact case_would X hq9 hi5 (hN hi5) d ad th g nf F f no O tf tv fw it ch o Ro _ _ _ _ _ hd hI hfw h60 h200 hO hS (lv_sub hl [0, 1, 2, 3, 4] rfl) hc9 hs9
        · refine lv_tableIn (off := 1165) (tgt := 1204) hx hb dL_law_39 (by decide) (by decide) (by decide) (by decide) ?_
          exact case_dipsTo X hq9 hi5 (hN hi5) d ad th g nf F f no O tf tv fw it ch o Ro _ _ _ _ _ hd hI hfw h60 h200 hO hS (lv_sub hl [0, 1, 2, 3, 4] rfl) hc9 hs9
        · refine lv_tableIn (off := 1245) (tgt := 1284) hx hb dL_law_39 (by decide) (by decide) (by decide) (by decide) ?_
          exact case_bestRest X hq9 hi5 (hN hi5) d ad th g nf F f no O tf tv fw it ch o Ro _ _ _ _ _ hd hI hfw h60 h200 hO hS (lv_sub hl [0, 1, 2, 3, 4] rfl) hc9 hs9
        · refine lv_tableIn (off := 1313) (tgt := 1352) hx hb dL_law_39 (by decide) (by decide) (by decide) (by decide) ?_
          exact case_advise X hq9 (hN hi5) d ad th g nf F f no O tf tv fw it ch o Ro _ _ _ _ _ hd hI hfw h60 h200 hO hS (lv_sub hl [0, 1, 2, 3, 4] rfl) hc9 hs9
        · refine lv_tableIn (off := 1326) (tgt := 1365) hx hb dL_law_39 (by decide) (by decide) (by decide) (by decide) ?_
          exact case_possible X hq9 (hN hi5) d ad th g nf F f no O tf tv fw it ch o Ro _ _ _ _ _ hd hI hfw h60 h200 hO hS (lv_sub hl [0, 1, 2, 3, 4] rfl) hc9 hs9
        · refine lv_tableIn (off := 1339) (tgt := 1378) hx hb dL_law_39 (by decide) (by decide) (by decide) (by decide) ?_
          exact case_mean X hq9 (hN hi5) d ad th g nf F f no O tf tv fw it ch o Ro _ _ _ _ _ hd hI hfw h60 h200 hO hS (lv_sub hl [0, 1, 2, 3, 4] rfl) hc9 hs9
        · refine lv_tableIn (off := 1380) (tgt := 1419) hx hb dL_law_39 (by decide) (by decide) (by decide) (by decide) ?_
          exact case_digest X hq9 (hN hi5) d ad th g nf F f no O tf tv fw it ch o Ro _ _ _ _ _ hd hI hfw h60 h200 hO hS (lv_sub hl [0, 1, 2, 3, 4] rfl) hc9 hs9
