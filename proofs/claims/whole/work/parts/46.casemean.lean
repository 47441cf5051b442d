theorem nan_two {x y : UInt64} (h : x = y ∨ (isNaN64 x = true ∧ isNaN64 y = true)) (hc : ¬ Op.cmpValue (FP.dcmp x y) .l = 0) : ¬ Op.cmpValue (FP.dcmp x x) .l = 0 ∧ ¬ Op.cmpValue (FP.dcmp y y) .l = 0 := by
  rcases h with rfl | ⟨h1, h2⟩
  · exact ⟨hc, hc⟩
  · rw [nan_cmp h1, nan_cmp h2]; exact ⟨by decide, by decide⟩
theorem mean_two {x y v : UInt64} {P Q : Prop} (hPQ : P ↔ Q) (hx : (P ∧ alike64 x v = true) ∨ (¬ P ∧ x = FP.dconst0)) (hy : (Q ∧ alike64 y v = true) ∨ (¬ Q ∧ y = FP.dconst0)) : x = y ∨ (isNaN64 x = true ∧ isNaN64 y = true) := by
  rcases hx with ⟨h1, h2⟩ | ⟨h1, rfl⟩ <;> rcases hy with ⟨h3, h4⟩ | ⟨h3, rfl⟩
  · exact alike_two h2 h4
  · exact absurd (hPQ.mp h1) h3
  · exact absurd (hPQ.mpr h3) h1
  · exact Or.inl rfl
set_option maxHeartbeats 1000000 in
set_option maxRecDepth 100000 in
theorem case_mean {p : Program} {l : Launch} {e : Env} {s : State} {m : MethodId} {below : List Frame} {meth : Method} {c : Code} {b L : Nat} {xs : Nat → Int32} {G : mG} {sa : Nat → Nat} (X : LwX p l s m meth c b L xs G sa) {i q : Nat} (hq : q < 512) (hN : LAt p l e s m below meth c b G 1433 i (q + 1)) : LAt p l e s m below meth c b G 1378 i q := by
  intro d ad th g nf F f no O tf tv fw it ch o Ro H locs ls cells slots hd hI hfw h60 h200 hO hS hl hc9 hs9
  have hx := (X.hF d).1
  have hb := (X.hF d).2.1
  have hnf := hI.1
  have hno := hI.2.1
  rw [← WC_WM] at hO
  have hl : lv_has ls 9 [(0, .ref b), (1, .ref (ad 0)), (2, .ref (ad 50)), (3, .ref (ad 60)), (4, .int (nI i))] := hl
  refine lv_aload_n hx hb dL_law_1378 rfl (lv_at hl 1 rfl) ?_
  refine m_vD (As := []) (rest := []) (n := 0) hd (X.hF d) (X.hC d) hO hS (k_X5_mean l G _ sa ad _ g nf F f no O tf tv fw hnf hno) ok_X5_mean q_206 rfl rfl ⟨Nat.le_of_ble_eq_true rfl, Nat.le_of_ble_eq_true rfl⟩ rfl hl.1 rfl (Nat.le_of_ble_eq_true rfl) ⟨(by show _ ≤ 616075; omega), (by show _ ≤ 7247878; omega)⟩ dL_law_1379 (fun p1 R1 H locs hp1 hO hS d1 hd1 => ?_)
  obtain ⟨hv1, hR1⟩ := hp1
  rw [hR1, WC_WM] at hO
  refine lv_dstore (lv' := [(5, .double p1), (0, .ref b), (1, .ref (ad 0)), (2, .ref (ad 50)), (3, .ref (ad 60)), (4, .int (nI i))]) hx hb dL_law_1382 hl (by decide) rfl (fun ls hl => ?_)
  refine lv_aload_n hx hb dL_law_1384 rfl (lv_at hl 3 rfl) ?_
  refine m_vD (As := []) (rest := []) (n := 0) hd1 (X.hF d1) (X.hC d1) hO hS (k_X6_mean l G _ sa ad _ th g nf F f no O it ch hnf hno) ok_X6_mean q_905 rfl rfl ⟨Nat.le_of_ble_eq_true rfl, Nat.le_of_ble_eq_true rfl⟩ rfl hl.1 rfl (Nat.le_of_ble_eq_true rfl) ⟨(by show _ ≤ 616075; omega), (by show _ ≤ 7247878; omega)⟩ dL_law_1385 (fun p2 R2 H locs hp2 hO hS d2 hd2 => ?_)
  obtain ⟨hv2, hR2⟩ := hp2
  rw [hR2] at hO
  have h2n := mean_two (s_mean hI) hv1 hv2
  refine lv_dstore (lv' := [(7, .double p2), (5, .double p1), (0, .ref b), (1, .ref (ad 0)), (2, .ref (ad 50)), (3, .ref (ad 60)), (4, .int (nI i))]) hx hb dL_law_1388 hl (by decide) rfl (fun ls hl => ?_)
  refine lv_dload hx hb dL_law_1390 (lv_at hl 1 rfl) ?_
  refine lv_dload hx hb dL_law_1392 (lv_at hl 0 rfl) ?_
  refine lv_dcmp hx hb dL_law_1394 ?_
  refine lv_if_eq (tgt := 1416) hx hb dL_law_1395 (by decide) (fun c1395 => ?_) (fun c1395 => ?_)
  · refine lv_goto (tgt := 1433) hx hb dL_law_1416 (by decide) ?_
    exact hN d2 ad 0 g nf F f no O tf tv fw it ch o _ _ _ _ _ _ hd2 hI.up hfw h60 h200 hO hS (lv_sub hl [2, 3, 4, 5, 6] rfl) (by omega) (by omega)
  · refine lv_dload hx hb dL_law_1398 (lv_at hl 1 rfl) ?_
    refine lv_dload hx hb dL_law_1400 (lv_at hl 1 rfl) ?_
    refine lv_dcmp hx hb dL_law_1402 ?_
    refine lv_if_eq (tgt := 1414) hx hb dL_law_1403 (by decide) (fun c1403 => absurd c1403 ((nan_two h2n c1395).1)) (fun c1403 => ?_)
    refine lv_dload hx hb dL_law_1406 (lv_at hl 0 rfl) ?_
    refine lv_dload hx hb dL_law_1408 (lv_at hl 0 rfl) ?_
    refine lv_dcmp hx hb dL_law_1410 ?_
    refine lv_if_ne (tgt := 1416) hx hb dL_law_1411 (by decide) (fun c1411 => ?_) (fun c1411 => absurd c1411 ((nan_two h2n c1395).2))
    refine lv_goto (tgt := 1433) hx hb dL_law_1416 (by decide) ?_
    exact hN d2 ad 0 g nf F f no O tf tv fw it ch o _ _ _ _ _ _ hd2 hI.up hfw h60 h200 hO hS (lv_sub hl [2, 3, 4, 5, 6] rfl) (by omega) (by omega)
