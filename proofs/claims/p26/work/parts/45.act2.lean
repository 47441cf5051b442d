set_option maxHeartbeats 400000 in
set_option maxRecDepth 100000 in
theorem act_4 {p : Program} {l : Launch} {e : Env} {s : State} {m : MethodId} {args : Array Value} {below : List Frame} {meth : Method} {c : Code} {G : mG} {lo : Nat} {sa : mSc} {ad : Nat → Nat} {R : mM} {Q : State → Prop} {H : Heap} {locs : List Loc} {ls : Array Slot} {g : Nat → Int32} {nf : Nat} {F : Nat → Nat → Int32} {f : Nat → Int32} {no : Nat} {O : Nat → Nat → Int32} {w : Int32} {tf tv fw : Nat → Int32} {n q k : Nat} {x : Int32} (hF : mF p m c cL_act 17 s args RL) (hr : meth.sig.returnType = some .boolean) (hlk : meth.locks = false) (hC : mC G lo sa s s.heap) (hO : mO G lo ad (WS G ad g nf F f no O w (WC G ad g nf F f no O tf tv fw R)) H) (hS : va_S (mA lo) s.heap H locs) (hQ : Q = MQ below (va_Qi (actPost G ad R n q nf tf tv fw) (mBa G lo) (mA lo)) args s 3 31 (mA lo)) (hI : IV n q g nf F f no O) (h1 : 1 ≤ nf) (hn : n ≤ 400) (hq : q ≤ 400) (hz : R 58 = none) (hk : k < nf) (hl : lv_has ls 17 [(0, .ref (ad 0)), (1, .ref (ad 50)), (2, .int x), (3, .int (nI k)), (4, .ref (ad (200 + k)))]) : W p l e (nRm 7 250 3 31) s m args below meth c H locs 0 0 Q (F0 m 361 ls []) := by
  have hx := hF.1
  have hb := hF.2.1
  have hnf : nf ≤ 12 := by have := hI.1; omega
  have hno : no ≤ 20 := hI.2.1
  have hFv := hI.fr
  have hOv := hI.or
  obtain ⟨qn, hqn9, hq3⟩ := hI.qn
  refine lv_aload_n hx hb dL_act_361 rfl (lv_at hl 1 rfl) ?_
  refine m_get inX7 hF hC hO rfl rfl 5 (by decide) q_512 (v := .ref (ad 57)) rfl dL_act_362 ?_
  refine m_alen 1 hF hC hO rfl rfl (v := (nI no)) rfl dL_act_365 ?_
  refine lv_bipush (v := 20) hx hb dL_act_366 (by decide) ?_
  refine lv_icmp_ne (tgt := 373) hx hb dL_act_368 (by decide) (fun c368 => ?_) (fun c368 => ?_)
  · refine lv_aload_n hx hb dL_act_373 rfl (lv_at hl 1 rfl) ?_
    refine m_get inX7 hF hC hO rfl rfl 6 (by decide) q_513 (v := .int (g 3)) rfl dL_act_374 ?_
    refine lv_bipush (v := 40) hx hb dL_act_377 (by decide) ?_
    refine lv_idiv hx hb dL_act_379 (by decide) ?_
    refine lv_iload_n hx hb dL_act_380 rfl (lv_at hl 2 rfl) ?_
    refine lv_iconst (v := 5) hx hb dL_act_381 (by decide) ?_
    refine lv_ishr hx hb dL_act_382 ?_
    generalize (x >>> (5 &&& 31)) = sh382
    refine lv_iconst (v := 4) hx hb dL_act_383 (by decide) ?_
    refine m_sI (As := [.int sh382, .int 4]) (rest := [.int ((g 3) / 40)]) (n := 2) hF hC hO hS (k_L_below l G lo sa ad _ sh382 4 (by omega) (by omega)) ok_L_below q_479 ⟨Nat.le_of_ble_eq_true rfl, Nat.le_of_ble_eq_true rfl⟩ rfl hl.1 rfl (Nat.le_of_ble_eq_true rfl) ⟨Nat.le_of_ble_eq_true rfl, Nat.le_of_ble_eq_true rfl⟩ dL_act_384 (fun v384 R' H locs hp hO hS => ?_)
    obtain ⟨⟨d4, hd4, rfl⟩, hR⟩ := hp
    rw [hR] at hO
    refine lv_iadd hx hb dL_act_387 ?_
    have hlt : no < 20 := by have h9 : no ≠ 20 := (fun e9 => c368 (by rw [e9]; rfl)); omega
    obtain ⟨kk, hkk, hk0⟩ := (hFv k hk).kind
    have hday : g 3 / 40 + nI d4 = nI (qn / 40 + d4) := by rw [hq3, show (40 : Int32) = nI 40 from rfl, pk_div (by omega) (by decide) (by decide), nI_add]
    rw [hday]
    have hnn : no < no + 1 := Nat.lt_succ_self no
    have hno0 := hno
    refine lv_istore (lv' := [(10, .int (nI (qn / 40 + d4))), (0, .ref (ad 0)), (1, .ref (ad 50)), (2, .int x), (3, .int (nI k)), (4, .ref (ad (200 + k)))]) hx hb dL_act_388 hl (by decide) rfl (fun ls hl => ?_)
    refine lv_aload_n hx hb dL_act_390 rfl (lv_at hl 2 rfl) ?_
    refine lv_aload hx hb dL_act_391 (lv_at hl 5 rfl) ?_
    refine m_get inX6 hF hC hO (WS_F (i := k) (by assumption) hnf) rfl 0 (by decide) q_568 (v := .int ((F k) 0)) rfl dL_act_393 ?_
    refine lv_iconst (v := 1) hx hb dL_act_396 (by decide) ?_
    refine lv_iload_n hx hb dL_act_397 rfl (lv_at hl 3 rfl) ?_
    refine lv_iconst (v := 3) hx hb dL_act_398 (by decide) ?_
    refine lv_ishr hx hb dL_act_399 ?_
    generalize (x >>> (3 &&& 31)) = sh399
    refine lv_iconst (v := 4) hx hb dL_act_400 (by decide) ?_
    refine m_sI (As := [.int sh399, .int 4]) (rest := [.int 1, .int ((F k) 0), .ref (ad 50)]) (n := 2) hF hC hO hS (k_L_below l G lo sa ad _ sh399 4 (by omega) (by omega)) ok_L_below q_479 ⟨Nat.le_of_ble_eq_true rfl, Nat.le_of_ble_eq_true rfl⟩ rfl hl.1 rfl (Nat.le_of_ble_eq_true rfl) ⟨Nat.le_of_ble_eq_true rfl, Nat.le_of_ble_eq_true rfl⟩ dL_act_401 (fun v401 R' H locs hp hO hS => ?_)
    obtain ⟨⟨z4, hz4, rfl⟩, hR⟩ := hp
    rw [hR] at hO
    refine lv_iadd hx hb dL_act_404 ?_
    refine lv_iconst (v := 1) hx hb dL_act_405 (by decide) ?_
    refine lv_iload_n hx hb dL_act_406 rfl (lv_at hl 3 rfl) ?_
    refine lv_iconst (v := 4) hx hb dL_act_407 (by decide) ?_
    refine lv_ishr hx hb dL_act_408 ?_
    generalize (x >>> (4 &&& 31)) = sh408
    refine lv_bipush (v := 30) hx hb dL_act_409 (by decide) ?_
    refine m_sI (As := [.int sh408, .int 30]) (rest := [.int 1, .int (1 + (nI z4)), .int ((F k) 0), .ref (ad 50)]) (n := 2) hF hC hO hS (k_L_below l G lo sa ad _ sh408 30 (by omega) (by omega)) ok_L_below q_479 ⟨Nat.le_of_ble_eq_true rfl, Nat.le_of_ble_eq_true rfl⟩ rfl hl.1 rfl (Nat.le_of_ble_eq_true rfl) ⟨Nat.le_of_ble_eq_true rfl, Nat.le_of_ble_eq_true rfl⟩ dL_act_411 (fun v411 R' H locs hp hO hS => ?_)
    obtain ⟨⟨u4, hu4, rfl⟩, hR⟩ := hp
    rw [hR] at hO
    refine lv_iadd hx hb dL_act_414 ?_
    refine lv_iload hx hb dL_act_415 (lv_at hl 0 rfl) ?_
    rw [hk0, one_nI, one_nI]
    refine m_vNv (As := [.int (nI kk), .int (nI (z4 + 1)), .int (nI (u4 + 1)), .int (nI (qn / 40 + d4))]) (rest := []) (n := 4) hF hC hO hS (k_X7_order l G lo sa ad _ g nf F f no O w (nI kk) (nI (z4 + 1)) (nI (u4 + 1)) (nI (qn / 40 + d4)) hnf hno hlt (WC_at2 (by omega) hz)) ok_X7_order q_622 rfl rfl ⟨Nat.le_of_ble_eq_true rfl, Nat.le_of_ble_eq_true rfl⟩ rfl hl.1 rfl (Nat.le_of_ble_eq_true rfl) ⟨Nat.le_of_ble_eq_true rfl, Nat.le_of_ble_eq_true rfl⟩ dL_act_417 (fun ad1 R1 H locs hp hO hS => ?_)
    dsimp only at hp
    obtain ⟨had1, hR⟩ := hp
    rw [hR, WC_ad (ad := ad) (ad1 := ad1) (fun x hx => had1 x (by omega) (by omega) (by omega))] at hO
    rw [had1 0 (by omega) (by omega) (by omega), had1 50 (by omega) (by omega) (by omega), had1 (200 + k) (by omega) (by omega) (by omega)] at hl
    have hno : no + 1 ≤ 20 := hlt
    refine lv_aload_n hx hb dL_act_420 rfl (lv_at hl 2 rfl) ?_
    refine m_get inX7 hF hC hO rfl rfl 5 (by decide) q_512 (v := .ref (ad1 57)) rfl dL_act_421 ?_
    refine lv_aload_n hx hb dL_act_424 rfl (lv_at hl 2 rfl) ?_
    refine m_get inX7 hF hC hO rfl rfl 5 (by decide) q_512 (v := .ref (ad1 57)) rfl dL_act_425 ?_
    refine m_alen 1 hF hC hO rfl rfl (v := (nI (no + 1))) rfl dL_act_428 ?_
    refine lv_iconst (v := 1) hx hb dL_act_429 (by decide) ?_
    refine lv_isub hx hb dL_act_430 ?_
    refine m_aldA hF hC hO rfl (j := no) (by rw [nI_pred]; exact nI_clamp (by omega)) (by rw [nI_pred]; exact vp_in_nI (by omega) (by omega)) dL_act_431 (v := .ref (ad1 (220 + no))) (adF_in (by first | assumption | omega)) ?_
    refine lv_astore (lv' := [(11, .ref (ad1 (220 + no))), (10, .int (nI (qn / 40 + d4))), (0, .ref (ad1 0)), (1, .ref (ad1 50)), (2, .int x), (3, .int (nI k)), (4, .ref (ad1 (200 + k)))]) hx hb dL_act_432 hl (by decide) rfl (fun ls hl => ?_)
    refine lv_aload_n hx hb dL_act_434 rfl (lv_at hl 2 rfl) ?_
    refine lv_aload hx hb dL_act_435 (lv_at hl 0 rfl) ?_
    refine lv_iconst (v := 0) hx hb dL_act_437 (by decide) ?_
    refine m_iald hF hC hO (WS_Ou (i := no) (by assumption) hno) (j := 0) (by decide) (vp_in_nI (n := 0) (by decide) (by decide)) dL_act_438 ?_
    rw [show ((N_O (nI kk) (nI (z4 + 1)) (nI (u4 + 1)) (nI (qn / 40 + d4))) 0) = (nI kk) from rfl]
    refine lv_aload hx hb dL_act_439 (lv_at hl 0 rfl) ?_
    refine lv_iconst (v := 1) hx hb dL_act_441 (by decide) ?_
    refine m_iald hF hC hO (WS_Ou (i := no) (by assumption) hno) (j := 1) (by decide) (vp_in_nI (n := 1) (by decide) (by decide)) dL_act_442 ?_
    rw [show ((N_O (nI kk) (nI (z4 + 1)) (nI (u4 + 1)) (nI (qn / 40 + d4))) 1) = (nI (z4 + 1)) from rfl]
    refine lv_aload hx hb dL_act_443 (lv_at hl 0 rfl) ?_
    refine lv_iconst (v := 2) hx hb dL_act_445 (by decide) ?_
    refine m_iald hF hC hO (WS_Ou (i := no) (by assumption) hno) (j := 2) (by decide) (vp_in_nI (n := 2) (by decide) (by decide)) dL_act_446 ?_
    rw [show ((N_O (nI kk) (nI (z4 + 1)) (nI (u4 + 1)) (nI (qn / 40 + d4))) 2) = (nI (u4 + 1)) from rfl]
    refine lv_iload hx hb dL_act_447 (lv_at hl 1 rfl) ?_
    rw [← WC_WS] at hO
    refine m_vNi (As := [.int (nI kk), .int (nI (z4 + 1)), .int (nI (u4 + 1)), .int (nI (qn / 40 + d4))]) (rest := []) (n := 4) hF hC hO hS (k_X5_addOrder l G lo sa ad1 _ g nf F f no O tf tv fw (nI kk) (nI (z4 + 1)) (nI (u4 + 1)) (nI (qn / 40 + d4)) hnf hno0 hlt (p_in_nI (a := 0) (b := 3) (by omega) (by omega) (by decide)) (p_in_nI (a := 1) (b := 9) (by omega) (by omega) (by decide)) (p_in_nI (a := 1) (b := 60) (by omega) (by omega) (by decide)) (by rw [hq3, show (40 : Int32) = nI 40 from rfl, pk_div (by omega) (by decide) (by decide)]; exact p_in_nI (a := qn / 40) (b := 1000) (by omega) (by omega) (by decide))) ok_X5_addOrder q_626 rfl rfl ⟨Nat.le_of_ble_eq_true rfl, Nat.le_of_ble_eq_true rfl⟩ rfl hl.1 rfl (Nat.le_of_ble_eq_true rfl) ⟨Nat.le_of_ble_eq_true rfl, Nat.le_of_ble_eq_true rfl⟩ dL_act_449 (fun v2 ad2 R2 H locs hp2 hO hS => ?_)
    dsimp only at hp2
    obtain ⟨rfl, had2, hR2⟩ := hp2
    rw [hR2, WS_ad (ad := ad1) (ad1 := ad2) (fun x hx => had2 x (by omega))] at hO
    rw [had2 0 (by omega), had2 50 (by omega), had2 (200 + k) (by omega), had2 (220 + no) (by omega)] at hl
    rw [WC_WS] at hO
    refine lv_aload_n hx hb dL_act_452 rfl (lv_at hl 3 rfl) ?_
    refine m_get inX7 hF hC hO rfl rfl 5 (by decide) q_512 (v := .ref (ad2 57)) rfl dL_act_453 ?_
    refine m_alen 1 hF hC hO rfl rfl (v := (nI (no + 1))) rfl dL_act_456 ?_
    refine lv_iconst (v := 1) hx hb dL_act_457 (by decide) ?_
    refine lv_isub hx hb dL_act_458 ?_
    rw [nI_pred]
    refine lv_icmp_ne (tgt := 466) hx hb dL_act_459 (by decide) (fun c459 => absurd rfl c459) (fun c459 => ?_)
    refine lv_iconst (v := 1) hx hb dL_act_462 (by decide) ?_
    refine lv_goto (tgt := 467) hx hb dL_act_463 (by decide) ?_
    refine m_niret hF hr hlk hQ (by decide) rfl hO hS dL_act_467 ?_
    exact ⟨rfl, fun x hx9 => (had1 x (by omega) (by omega) (by omega)).trans (had2 x (by omega)), _, _, _, _, _, _, (iv_order hI hlt hkk (by omega : 1 ≤ z4 + 1) (by omega) (by omega : 1 ≤ u4 + 1) (by omega) (by omega : qn / 40 + d4 ≤ 1000)).mono (by omega) (by omega), rfl⟩
  · refine lv_iconst (v := 1) hx hb dL_act_371 (by decide) ?_
    refine m_niret hF hr hlk hQ (by decide) rfl hO hS dL_act_372 ?_
    exact ⟨rfl, fun _ _ => rfl, _, _, _, _, _, _, hI.mono (by omega) (by omega), rfl⟩
set_option maxHeartbeats 400000 in
set_option maxRecDepth 100000 in
theorem act_5 {p : Program} {l : Launch} {e : Env} {s : State} {m : MethodId} {args : Array Value} {below : List Frame} {meth : Method} {c : Code} {G : mG} {lo : Nat} {sa : mSc} {ad : Nat → Nat} {R : mM} {Q : State → Prop} {H : Heap} {locs : List Loc} {ls : Array Slot} {g : Nat → Int32} {nf : Nat} {F : Nat → Nat → Int32} {f : Nat → Int32} {no : Nat} {O : Nat → Nat → Int32} {w : Int32} {tf tv fw : Nat → Int32} {n q k : Nat} {x : Int32} (hF : mF p m c cL_act 17 s args RL) (hr : meth.sig.returnType = some .boolean) (hlk : meth.locks = false) (hC : mC G lo sa s s.heap) (hO : mO G lo ad (WS G ad g nf F f no O w (WC G ad g nf F f no O tf tv fw R)) H) (hS : va_S (mA lo) s.heap H locs) (hQ : Q = MQ below (va_Qi (actPost G ad R n q nf tf tv fw) (mBa G lo) (mA lo)) args s 3 31 (mA lo)) (hI : IV n q g nf F f no O) (h1 : 1 ≤ nf) (hn : n ≤ 400) (hq : q ≤ 400) (hz : R 58 = none) (hk : k < nf) (hl : lv_has ls 17 [(0, .ref (ad 0)), (1, .ref (ad 50)), (2, .int x), (3, .int (nI k)), (4, .ref (ad (200 + k)))]) : W p l e (nRm 7 250 3 31) s m args below meth c H locs 0 0 Q (F0 m 468 ls []) := by
  have hx := hF.1
  have hb := hF.2.1
  have hnf : nf ≤ 12 := by have := hI.1; omega
  have hno : no ≤ 20 := hI.2.1
  have hFv := hI.fr
  have hOv := hI.or
  obtain ⟨qn, hqn9, hq3⟩ := hI.qn
  refine lv_iconst (v := 0) hx hb dL_act_468 (by decide) ?_
  refine lv_istore (lv' := [(12, .int 0), (0, .ref (ad 0)), (1, .ref (ad 50)), (2, .int x), (3, .int (nI k)), (4, .ref (ad (200 + k)))]) hx hb dL_act_469 hl (by decide) rfl (fun ls hl => ?_)
  have L471 : ∀ (nM : Nat) (i : Nat) (H : Heap) (locs : List Loc) (ls : Array Slot), no - i < nM → i ≤ no → lv_has ls 17 [(0, .ref (ad 0)), (1, .ref (ad 50)), (2, .int x), (3, .int (nI k)), (4, .ref (ad (200 + k))), (12, .int (nI i))] → mO G lo ad (WS G ad g nf F f no O w (WC G ad g nf F f no O tf tv fw R)) H → va_S (mA lo) s.heap H locs → W p l e (nRm 7 250 3 31) s m args below meth c H locs 0 0 Q (F0 m 471 ls []) := by
    intro nM
    induction nM with
    | zero => intro i H locs ls hn; exact absurd hn (Nat.not_lt_zero _)
    | succ nM ih471 =>
      intro i H locs ls hn471 hi hl hO hS
      refine lv_iload hx hb dL_act_471 (lv_at hl 5 rfl) ?_
      refine lv_aload_n hx hb dL_act_473 rfl (lv_at hl 1 rfl) ?_
      refine m_get inX7 hF hC hO rfl rfl 5 (by decide) q_512 (v := .ref (ad 57)) rfl dL_act_474 ?_
      refine m_alen 1 hF hC hO rfl rfl (v := (nI no)) rfl dL_act_477 ?_
      refine lv_icmp_ge (tgt := 618) hx hb dL_act_478 (by decide) (fun c478 => ?_) (fun c478 => ?_)
      · refine lv_iconst (v := 1) hx hb dL_act_618 (by decide) ?_
        refine m_niret hF hr hlk hQ (by decide) rfl hO hS dL_act_619 ?_
        exact ⟨rfl, fun _ _ => rfl, _, _, _, _, _, _, hI.mono (by omega) (by omega), rfl⟩
      · have hin : i < no := (nI_nE (a := no) (b := i) (by omega) (by omega) c478)
        obtain ⟨⟨kk, zz, mm, hkk, hz1, hz9, hm1, hm60, hw0, hw1, hw2⟩, -⟩ := hOv i hin
        refine lv_aload_n hx hb dL_act_481 rfl (lv_at hl 1 rfl) ?_
        refine m_get inX7 hF hC hO rfl rfl 5 (by decide) q_512 (v := .ref (ad 57)) rfl dL_act_482 ?_
        refine lv_iload hx hb dL_act_485 (lv_at hl 5 rfl) ?_
        refine m_aldA hF hC hO rfl (j := i) (nI_clamp (by omega)) (vp_in_nI hin (by omega)) dL_act_487 (v := .ref (ad (220 + i))) (adF_in (by first | assumption | omega)) ?_
        refine lv_astore (lv' := [(13, .ref (ad (220 + i))), (0, .ref (ad 0)), (1, .ref (ad 50)), (2, .int x), (3, .int (nI k)), (4, .ref (ad (200 + k))), (12, .int (nI i))]) hx hb dL_act_488 hl (by decide) rfl (fun ls hl => ?_)
        refine lv_aload hx hb dL_act_490 (lv_at hl 0 rfl) ?_
        refine lv_iconst (v := 4) hx hb dL_act_492 (by decide) ?_
        refine m_iald hF hC hO (WS_O (i := i) (by assumption) hno) (j := 4) (by decide) (vp_in_nI (n := 4) (by decide) (by decide)) dL_act_493 ?_
        refine lv_iconst (v := 1) hx hb dL_act_494 (by decide) ?_
        refine lv_icmp_eq (tgt := 612) hx hb dL_act_495 (by decide) (fun c495 => ?_) (fun c495 => ?_)
        · refine lv_iinc (v := (nI (i + 1))) (lv' := [(12, .int (nI (i + 1))), (13, .ref (ad (220 + i))), (0, .ref (ad 0)), (1, .ref (ad 50)), (2, .int x), (3, .int (nI k)), (4, .ref (ad (200 + k)))]) hx hb dL_act_612 hl (k := 6) rfl (nI_inc i) (by decide) rfl (fun ls hl => ?_)
          refine lv_goto (tgt := 471) hx hb dL_act_615 (by decide) ?_
          exact ih471 (i + 1) _ _ _ (by omega) (by omega) (lv_sub hl [2, 3, 4, 5, 6, 0] rfl) hO hS
        · refine lv_aload_n hx hb dL_act_498 rfl (lv_at hl 2 rfl) ?_
          refine lv_aload hx hb dL_act_499 (lv_at hl 0 rfl) ?_
          refine lv_iconst (v := 0) hx hb dL_act_501 (by decide) ?_
          refine m_iald hF hC hO (WS_O (i := i) (by assumption) hno) (j := 0) (by decide) (vp_in_nI (n := 0) (by decide) (by decide)) dL_act_502 ?_
          refine lv_aload hx hb dL_act_503 (lv_at hl 0 rfl) ?_
          refine lv_iconst (v := 1) hx hb dL_act_505 (by decide) ?_
          refine m_iald hF hC hO (WS_O (i := i) (by assumption) hno) (j := 1) (by decide) (vp_in_nI (n := 1) (by decide) (by decide)) dL_act_506 ?_
          rw [hw0, hw1]
          refine m_vI (As := [.int (nI kk), .int (nI zz)]) (rest := []) (n := 2) hF hC hO hS (k_X7_enough l G lo sa ad (WC G ad g nf F f no O tf tv fw R) g nf F f no O w kk zz hnf hno hkk hz1 hz9) ok_X7_enough q_659 rfl rfl ⟨Nat.le_of_ble_eq_true rfl, Nat.le_of_ble_eq_true rfl⟩ rfl hl.1 rfl (Nat.le_of_ble_eq_true rfl) ⟨Nat.le_of_ble_eq_true rfl, Nat.le_of_ble_eq_true rfl⟩ dL_act_507 (fun v507 R' H locs hp hO hS => ?_)
          obtain ⟨rfl, hR⟩ := hp
          rw [hR] at hO
          refine lv_aload hx hb dL_act_510 (lv_at hl 0 rfl) ?_
          refine lv_iconst (v := 2) hx hb dL_act_512 (by decide) ?_
          refine m_iald hF hC hO (WS_O (i := i) (by assumption) hno) (j := 2) (by decide) (vp_in_nI (n := 2) (by decide) (by decide)) dL_act_513 ?_
          refine lv_icmp_ge (tgt := 520) hx hb dL_act_514 (by decide) (fun c514 => ?_) (fun c514 => ?_)
          · refine lv_aload hx hb dL_act_520 (lv_at hl 0 rfl) ?_
            refine lv_iconst (v := 2) hx hb dL_act_522 (by decide) ?_
            refine m_iald hF hC hO (WS_O (i := i) (by assumption) hno) (j := 2) (by decide) (vp_in_nI (n := 2) (by decide) (by decide)) dL_act_523 ?_
            refine lv_istore (lv' := [(14, .int ((O i) 2)), (13, .ref (ad (220 + i))), (0, .ref (ad 0)), (1, .ref (ad 50)), (2, .int x), (3, .int (nI k)), (4, .ref (ad (200 + k))), (12, .int (nI i))]) hx hb dL_act_524 hl (by decide) rfl (fun ls hl => ?_)
            refine lv_aload hx hb dL_act_526 (lv_at hl 1 rfl) ?_
            refine lv_iconst (v := 1) hx hb dL_act_528 (by decide) ?_
            refine m_iald hF hC hO (WS_O (i := i) (by assumption) hno) (j := 1) (by decide) (vp_in_nI (n := 1) (by decide) (by decide)) dL_act_529 ?_
            rw [hw1]
            refine lv_istore (lv' := [(15, .int (nI zz)), (14, .int ((O i) 2)), (13, .ref (ad (220 + i))), (0, .ref (ad 0)), (1, .ref (ad 50)), (2, .int x), (3, .int (nI k)), (4, .ref (ad (200 + k))), (12, .int (nI i))]) hx hb dL_act_530 hl (by decide) rfl (fun ls hl => ?_)
            have L532 : ∀ (nM : Nat) (z : Nat) (lf : Int32) (f9 : Nat → Int32) (H : Heap) (locs : List Loc) (ls : Array Slot), 10 - z < nM → z ≤ 10 → 1 ≤ z → p_takeL (10 - z) f9 kk z lf = p_take f kk zz (O i 2) → lv_has ls 17 [(0, .ref (ad 0)), (1, .ref (ad 50)), (2, .int x), (3, .int (nI k)), (4, .ref (ad (200 + k))), (12, .int (nI i)), (13, .ref (ad (220 + i))), (15, .int (nI z)), (14, .int lf)] → mO G lo ad (WS G ad g nf F f9 no O w (WC G ad g nf F f no O tf tv fw R)) H → va_S (mA lo) s.heap H locs → W p l e (nRm 7 250 3 31) s m args below meth c H locs 0 0 Q (F0 m 532 ls []) := by
              intro nM
              induction nM with
              | zero => intro z lf f9 H locs ls hn; exact absurd hn (Nat.not_lt_zero _)
              | succ nM ih532 =>
                intro z lf f9 H locs ls hn532 hz10 hzz1 hv hl hO hS
                refine lv_iload hx hb dL_act_532 (lv_at hl 7 rfl) ?_
                refine lv_bipush (v := 10) hx hb dL_act_534 (by decide) ?_
                refine lv_icmp_ge (tgt := 588) hx hb dL_act_536 (by decide) (fun c536 => ?_) (fun c536 => ?_)
                · have e9 : z = 10 := Nat.le_antisymm hz10 (nI_E (a := 10) (b := z) (by decide) (by omega) c536)
                  rw [e9] at hv
                  have hv : f9 = p_take f kk zz (O i 2) := hv
                  rw [hv] at hO
                  refine lv_aload hx hb dL_act_588 (lv_at hl 6 rfl) ?_
                  refine lv_iconst (v := 4) hx hb dL_act_590 (by decide) ?_
                  refine lv_iconst (v := 1) hx hb dL_act_591 (by decide) ?_
                  refine m_iast hF hC hO hS (WS_O (i := i) (by assumption) hno) (j := 4) (by decide) (vp_in_nI (n := 4) (by decide) (by decide)) dL_act_592 (fun H locs hO hS => ?_)
                  have hO : mO G lo ad (mU (WS G ad g nf F (p_take f kk zz (O i 2)) no O w (WC G ad g nf F f no O tf tv fw R)) (220 + i) (.inl (G.2 0, 5, .inl (upd (O i) 4 1)))) H := hO
                  rw [WS_wO (by assumption) hno] at hO
                  refine lv_aload_n hx hb dL_act_593 rfl (lv_at hl 0 rfl) ?_
                  refine lv_iload hx hb dL_act_594 (lv_at hl 5 rfl) ?_
                  rw [← WC_WS] at hO
                  refine m_vI (As := [.int (nI i)]) (rest := []) (n := 1) hF hC hO hS (k_X5_fill l G lo sa ad (WS G ad g nf F (p_take f kk zz (O i 2)) no (va_up O i (upd (O i) 4 1)) w R) g nf F f no O tf tv fw i kk zz hnf hno hin hkk hz1 hz9 hw0 hw1 (⟨c495, c514⟩)) ok_X5_fill q_663 rfl rfl ⟨Nat.le_of_ble_eq_true rfl, Nat.le_of_ble_eq_true rfl⟩ rfl hl.1 rfl (Nat.le_of_ble_eq_true rfl) ⟨Nat.le_of_ble_eq_true rfl, Nat.le_of_ble_eq_true rfl⟩ dL_act_596 (fun v596 R' H locs hp hO hS => ?_)
                  obtain ⟨rfl, hR⟩ := hp
                  rw [hR] at hO
                  refine lv_aload_n hx hb dL_act_599 rfl (lv_at hl 1 rfl) ?_
                  rw [WC_WS] at hO
                  refine m_vI (As := []) (rest := [.int (p_sum 36 (p_take f kk zz (O i 2)) 0 0)]) (n := 0) hF hC hO hS (k_X7_all l G lo sa ad (WC G ad g nf F (p_take f kk zz (O i 2)) no (va_up O i (upd (O i) 4 1)) tf tv fw R) g nf F (p_take f kk zz (O i 2)) no (va_up O i (upd (O i) 4 1)) w hnf hno) ok_X7_all q_684 rfl rfl ⟨Nat.le_of_ble_eq_true rfl, Nat.le_of_ble_eq_true rfl⟩ rfl hl.1 rfl (Nat.le_of_ble_eq_true rfl) ⟨Nat.le_of_ble_eq_true rfl, Nat.le_of_ble_eq_true rfl⟩ dL_act_600 (fun v600 R' H locs hp hO hS => ?_)
                  obtain ⟨rfl, hR⟩ := hp
                  rw [hR] at hO
                  refine lv_icmp_ne (tgt := 610) hx hb dL_act_603 (by decide) (fun c603 => absurd rfl c603) (fun c603 => ?_)
                  refine lv_iconst (v := 1) hx hb dL_act_606 (by decide) ?_
                  refine lv_goto (tgt := 611) hx hb dL_act_607 (by decide) ?_
                  refine m_niret hF hr hlk hQ (by decide) rfl hO hS dL_act_611 ?_
                  exact ⟨rfl, fun _ _ => rfl, _, _, _, _, _, _, (by have h9 := iv_fill (w := mm) hI (by omega) hin hkk hz1 hz9 (by omega); rw [← hw2] at h9; exact h9 : IV n q g nf F (p_take f kk zz (O i 2)) no (va_up O i (upd (O i) 4 1))).mono (by omega) (by omega), rfl⟩
                · have hzn : z < 10 := (nI_nE (a := 10) (b := z) (by decide) (by omega) c536)
                  refine lv_iload hx hb dL_act_539 (lv_at hl 8 rfl) ?_
                  refine lv_aload_n hx hb dL_act_541 rfl (lv_at hl 1 rfl) ?_
                  refine m_get inX7 hF hC hO rfl rfl 4 (by decide) q_510 (v := .ref (ad 52)) rfl dL_act_542 ?_
                  refine lv_aload hx hb dL_act_545 (lv_at hl 6 rfl) ?_
                  refine lv_iconst (v := 0) hx hb dL_act_547 (by decide) ?_
                  refine m_iald hF hC hO (WS_O (i := i) (by assumption) hno) (j := 0) (by decide) (vp_in_nI (n := 0) (by decide) (by decide)) dL_act_548 ?_
                  rw [hw0]
                  refine m_aldA hF hC hO rfl (j := kk) (nI_clamp (by omega)) (vp_in_nI hkk (by decide)) dL_act_549 (v := .ref (ad (53 + kk))) (adF_in (by first | assumption | omega)) ?_
                  refine lv_iload hx hb dL_act_550 (lv_at hl 7 rfl) ?_
                  refine m_iald hF hC hO (WS_S (k := kk) (by first | assumption | omega)) (j := z) (nI_clamp (by omega)) (vp_in_nI hzn (by decide)) dL_act_552 ?_
                  rw [show ((rowF f9 kk) z) = (f9 (9 * kk + z - 1)) from rowF_at hzz1 (by omega)]
                  refine m_min hF hl.1 q_621 q_246 q_14 q_247 (Nat.le_of_ble_eq_true rfl) (Nat.le_of_ble_eq_true rfl) ⟨Nat.le_of_ble_eq_true rfl, Nat.le_of_ble_eq_true rfl⟩ dL_act_553 ?_
                  refine lv_istore (lv' := [(16, .int (jmin lf (f9 (9 * kk + z - 1)))), (0, .ref (ad 0)), (1, .ref (ad 50)), (2, .int x), (3, .int (nI k)), (4, .ref (ad (200 + k))), (12, .int (nI i)), (13, .ref (ad (220 + i))), (15, .int (nI z)), (14, .int lf)]) hx hb dL_act_556 hl (by decide) rfl (fun ls hl => ?_)
                  refine lv_aload_n hx hb dL_act_558 rfl (lv_at hl 2 rfl) ?_
                  refine m_get inX7 hF hC hO rfl rfl 4 (by decide) q_510 (v := .ref (ad 52)) rfl dL_act_559 ?_
                  refine lv_aload hx hb dL_act_562 (lv_at hl 7 rfl) ?_
                  refine lv_iconst (v := 0) hx hb dL_act_564 (by decide) ?_
                  refine m_iald hF hC hO (WS_O (i := i) (by assumption) hno) (j := 0) (by decide) (vp_in_nI (n := 0) (by decide) (by decide)) dL_act_565 ?_
                  rw [hw0]
                  refine m_aldA hF hC hO rfl (j := kk) (nI_clamp (by omega)) (vp_in_nI hkk (by decide)) dL_act_566 (v := .ref (ad (53 + kk))) (adF_in (by first | assumption | omega)) ?_
                  refine lv_iload hx hb dL_act_567 (lv_at hl 8 rfl) ?_
                  refine lv_dup2_11 hx hb dL_act_569 rfl rfl ?_
                  refine m_iald hF hC hO (WS_S (k := kk) (by first | assumption | omega)) (j := z) (nI_clamp (by omega)) (vp_in_nI hzn (by decide)) dL_act_570 ?_
                  rw [show ((rowF f9 kk) z) = (f9 (9 * kk + z - 1)) from rowF_at hzz1 (by omega)]
                  refine lv_iload hx hb dL_act_571 (lv_at hl 0 rfl) ?_
                  refine lv_isub hx hb dL_act_573 ?_
                  refine m_iast hF hC hO hS (WS_S (k := kk) (by first | assumption | omega)) (j := z) (nI_clamp (by omega)) (vp_in_nI hzn (by decide)) dL_act_574 (fun H locs hO hS => ?_)
                  have hO : mO G lo ad (mU (WS G ad g nf F f9 no O w (WC G ad g nf F f no O tf tv fw R)) (53 + kk) (.inl (G.2 0, 10, .inl (upd (rowF f9 kk) z ((f9 (9 * kk + z - 1)) - (jmin lf (f9 (9 * kk + z - 1)))))))) H := hO
                  rw [WS_wS (by first | assumption | omega) (by omega) (by omega)] at hO
                  refine lv_iload hx hb dL_act_575 (lv_at hl 9 rfl) ?_
                  refine lv_iload hx hb dL_act_577 (lv_at hl 0 rfl) ?_
                  refine lv_isub hx hb dL_act_579 ?_
                  refine lv_istore (lv' := [(14, .int (lf - (jmin lf (f9 (9 * kk + z - 1))))), (16, .int (jmin lf (f9 (9 * kk + z - 1)))), (0, .ref (ad 0)), (1, .ref (ad 50)), (2, .int x), (3, .int (nI k)), (4, .ref (ad (200 + k))), (12, .int (nI i)), (13, .ref (ad (220 + i))), (15, .int (nI z))]) hx hb dL_act_580 hl (by decide) rfl (fun ls hl => ?_)
                  refine lv_iinc (v := (nI (z + 1))) (lv' := [(15, .int (nI (z + 1))), (14, .int (lf - (jmin lf (f9 (9 * kk + z - 1))))), (16, .int (jmin lf (f9 (9 * kk + z - 1)))), (0, .ref (ad 0)), (1, .ref (ad 50)), (2, .int x), (3, .int (nI k)), (4, .ref (ad (200 + k))), (12, .int (nI i)), (13, .ref (ad (220 + i)))]) hx hb dL_act_582 hl (k := 9) rfl (nI_inc z) (by decide) rfl (fun ls hl => ?_)
                  refine lv_goto (tgt := 532) hx hb dL_act_585 (by decide) ?_
                  rw [show upd f9 (9 * kk + z - 1) (f9 (9 * kk + z - 1) - jmin lf (f9 (9 * kk + z - 1))) = upd f9 (9 * kk + z - 1) (f9 (9 * kk + z - 1) + -(jmin lf (f9 (9 * kk + z - 1)))) from by rw [Int32.sub_eq_add_neg]] at hO
                  exact ih532 (z + 1) (lf - (jmin lf (f9 (9 * kk + z - 1)))) (upd f9 (9 * kk + z - 1) (f9 (9 * kk + z - 1) + -(jmin lf (f9 (9 * kk + z - 1))))) _ _ _ (by omega) (by omega) (by omega) (by rw [← hv, show 10 - z = (10 - (z + 1)) + 1 from by omega]; rfl) (lv_sub hl [3, 4, 5, 6, 7, 8, 9, 0, 1] rfl) hO hS
            exact L532 _ zz (O i 2) f _ _ _ (Nat.lt_succ_self _) (by omega) hz1 rfl (lv_sub hl [3, 4, 5, 6, 7, 8, 2, 0, 1] rfl) hO hS
          · refine lv_goto (tgt := 612) hx hb dL_act_517 (by decide) ?_
            refine lv_iinc (v := (nI (i + 1))) (lv' := [(12, .int (nI (i + 1))), (13, .ref (ad (220 + i))), (0, .ref (ad 0)), (1, .ref (ad 50)), (2, .int x), (3, .int (nI k)), (4, .ref (ad (200 + k)))]) hx hb dL_act_612 hl (k := 6) rfl (nI_inc i) (by decide) rfl (fun ls hl => ?_)
            refine lv_goto (tgt := 471) hx hb dL_act_615 (by decide) ?_
            exact ih471 (i + 1) _ _ _ (by omega) (by omega) (lv_sub hl [2, 3, 4, 5, 6, 0] rfl) hO hS
  exact L471 _ 0 _ _ _ (Nat.lt_succ_self _) (by omega) (lv_sub hl [1, 2, 3, 4, 5, 0] rfl) hO hS
theorem ok_L_act : mOS yL_act cL_act 17 (some .boolean) 3 := ⟨q_609, q_0, q_610, by decide +kernel⟩
set_option maxHeartbeats 400000 in
set_option maxRecDepth 100000 in
theorem k_L_act (l : Launch) (G : mG) (lo : Nat) (sa : mSc) (ad : Nat → Nat) (R : mM) (g : Nat → Int32) (nf : Nat) (F : Nat → Nat → Int32) (f : Nat → Int32) (no : Nat) (O : Nat → Nat → Int32) (w : Int32) (tf tv fw : Nat → Int32) (n q : Nat) (x : Int32) (hI : IV n q g nf F f no O) (h1 : 1 ≤ nf) (hn : n ≤ 400) (hq : q ≤ 400) (hz : R 58 = none) : nI' l yL_act cL_act 17 .boolean 7 250 3 31 G lo sa ad (WS G ad g nf F f no O w (WC G ad g nf F f no O tf tv fw R)) [.ref (ad 0), .ref (ad 50), .int x] (actPost G ad R n q nf tf tv fw) := by
  refine nI_of' (by decide) (Nat.le_of_ble_eq_true rfl) ?_
  intro p e s m args below meth c hF hr hlk hC ls hl hO hS Q hQ
  have hx := hF.1
  have hb := hF.2.1
  have hnf : nf ≤ 12 := by have := hI.1; omega
  have hno : no ≤ 20 := hI.2.1
  have hFv := hI.fr
  have hOv := hI.or
  obtain ⟨qn, hqn9, hq3⟩ := hI.qn
  have hl : lv_has ls 17 [(0, .ref (ad 0)), (1, .ref (ad 50)), (2, .int x)] := hl
  refine lv_iload_n hx hb dL_act_0 rfl (lv_at hl 2 rfl) ?_
  refine lv_aload_n hx hb dL_act_1 rfl (lv_at hl 1 rfl) ?_
  refine m_get inX7 hF hC hO rfl rfl 3 (by decide) q_508 (v := .ref (ad 51)) rfl dL_act_2 ?_
  refine m_alen 2 hF hC hO rfl rfl (v := (nI nf)) rfl dL_act_5 ?_
  refine m_sI (As := [.int x, .int (nI nf)]) (rest := []) (n := 2) hF hC hO hS (k_L_below l G lo sa ad _ x nf (by omega) (by omega)) ok_L_below q_479 ⟨Nat.le_of_ble_eq_true rfl, Nat.le_of_ble_eq_true rfl⟩ rfl hl.1 rfl (Nat.le_of_ble_eq_true rfl) ⟨Nat.le_of_ble_eq_true rfl, Nat.le_of_ble_eq_true rfl⟩ dL_act_6 (fun v6 R' H locs hp hO hS => ?_)
  obtain ⟨⟨k, hk, rfl⟩, hR⟩ := hp
  rw [hR] at hO
  refine lv_istore_n (lv' := [(3, .int (nI k)), (0, .ref (ad 0)), (1, .ref (ad 50)), (2, .int x)]) hx hb dL_act_9 rfl hl (by decide) rfl (fun ls hl => ?_)
  refine lv_aload_n hx hb dL_act_10 rfl (lv_at hl 2 rfl) ?_
  refine m_get inX7 hF hC hO rfl rfl 3 (by decide) q_508 (v := .ref (ad 51)) rfl dL_act_11 ?_
  refine lv_iload_n hx hb dL_act_14 rfl (lv_at hl 0 rfl) ?_
  refine m_aldP hF hC hO rfl (j := k) (nI_clamp (by omega)) (vp_in_nI hk (by omega)) dL_act_15 (v := .ref (ad (200 + k))) (adF_in (by first | assumption | omega)) ?_
  refine lv_astore (lv' := [(4, .ref (ad (200 + k))), (3, .int (nI k)), (0, .ref (ad 0)), (1, .ref (ad 50)), (2, .int x)]) hx hb dL_act_16 hl (by decide) rfl (fun ls hl => ?_)
  refine lv_iload_n hx hb dL_act_18 rfl (lv_at hl 4 rfl) ?_
  refine lv_bipush (v := 7) hx hb dL_act_19 (by decide) ?_
  refine lv_ishr hx hb dL_act_21 ?_
  generalize (x >>> (7 &&& 31)) = sh21
  refine lv_bipush (v := 9) hx hb dL_act_22 (by decide) ?_
  refine m_sI (As := [.int sh21, .int 9]) (rest := []) (n := 2) hF hC hO hS (k_L_below l G lo sa ad _ sh21 9 (by omega) (by omega)) ok_L_below q_479 ⟨Nat.le_of_ble_eq_true rfl, Nat.le_of_ble_eq_true rfl⟩ rfl hl.1 rfl (Nat.le_of_ble_eq_true rfl) ⟨Nat.le_of_ble_eq_true rfl, Nat.le_of_ble_eq_true rfl⟩ dL_act_24 (fun v24 R' H locs hp hO hS => ?_)
  obtain ⟨⟨op, hop, rfl⟩, hR⟩ := hp
  rw [hR] at hO
  rcases Nat.lt_or_ge op 6 with h6 | h6
  · rcases (show op = 0 ∨ op = 1 ∨ op = 2 ∨ op = 3 ∨ op = 4 ∨ op = 5 by omega) with rfl | rfl | rfl | rfl | rfl | rfl
    · refine lv_tableIn (off := 37) (tgt := 64) hx hb dL_act_27 (by decide) (by decide) (by decide) (by decide) ?_
      exact act_0 hF hr hlk hC hO hS hQ hI h1 hn hq hz hk (lv_sub hl [2, 3, 4, 1, 0] rfl)
    · refine lv_tableIn (off := 100) (tgt := 127) hx hb dL_act_27 (by decide) (by decide) (by decide) (by decide) ?_
      exact act_1 hF hr hlk hC hO hS hQ hI h1 hn hq hz hk (lv_sub hl [2, 3, 4, 1, 0] rfl)
    · refine lv_tableIn (off := 149) (tgt := 176) hx hb dL_act_27 (by decide) (by decide) (by decide) (by decide) ?_
      exact act_2 hF hr hlk hC hO hS hQ hI h1 hn hq hz hk (lv_sub hl [2, 3, 4, 1, 0] rfl)
    · refine lv_tableIn (off := 297) (tgt := 324) hx hb dL_act_27 (by decide) (by decide) (by decide) (by decide) ?_
      exact act_3 hF hr hlk hC hO hS hQ hI h1 hn hq hz hk (lv_sub hl [2, 3, 4, 1, 0] rfl)
    · refine lv_tableIn (off := 334) (tgt := 361) hx hb dL_act_27 (by decide) (by decide) (by decide) (by decide) ?_
      exact act_4 hF hr hlk hC hO hS hQ hI h1 hn hq hz hk (lv_sub hl [2, 3, 4, 1, 0] rfl)
    · refine lv_tableIn (off := 441) (tgt := 468) hx hb dL_act_27 (by decide) (by decide) (by decide) (by decide) ?_
      exact act_5 hF hr hlk hC hO hS hQ hI h1 hn hq hz hk (lv_sub hl [2, 3, 4, 1, 0] rfl)
  · refine lv_tableOut (tgt := 620) hx hb dL_act_27 (Or.inr (by rw [nI_toInt (by omega)]; omega)) (by decide) ?_
    exact act_6 hF hr hlk hC hO hS hQ hI h1 hn hq hz hk (lv_sub hl [2, 3, 4, 1, 0] rfl)
