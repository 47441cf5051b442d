theorem vpL {o : Nat → Int64} {x : Int64} : vp_updL o 0 x 0 = x := by simp [vp_updL]
theorem lg_self (x : Int64) : lg_cmp x x = 0 := by simp [lg_cmp]
theorem Inv.up {q nf no : Nat} {g f : Nat → Int32} {F O : Nat → Nat → Int32} (h : Inv q g nf F f no O) : Inv (q + 1) g nf F f no O := ⟨h.1, h.2.1, h.2.2.1.up, h.2.2.2.1, h.2.2.2.2.1, h.2.2.2.2.2.up⟩
set_option maxHeartbeats 1000000 in
set_option maxRecDepth 100000 in
theorem case_melt {p : Program} {l : Launch} {e : Env} {s : State} {m : MethodId} {below : List Frame} {meth : Method} {c : Code} {b L : Nat} {xs : Nat → Int32} {G : mG} {sa : Nat → Nat} (X : LwX p l s m meth c b L xs G sa) {i q : Nat} (hq : q < 512) (hi5 : i + 5 ≤ L) (hN : LAt p l e s m below meth c b G 1433 i (q + 1)) : LAt p l e s m below meth c b G 144 i q := by
  intro d ad th g nf F f no O tf tv fw it ch o Ro H locs ls cells slots hd hI hfw h60 h200 hO hS hl hc9 hs9
  have hF := X.hF d
  have hC := X.hC d
  have hx := hF.1
  have hb := hF.2.1
  have hbA : ¬ mA s.heap.size b := Nat.not_le.mpr X.hbl
  have hnf := hI.1
  have hno := hI.2.1
  have hL9 := X.hL
  rw [← WC_WM] at hO
  have hl : lv_has ls 9 [(0, .ref b), (1, .ref (ad 0)), (2, .ref (ad 50)), (3, .ref (ad 60)), (4, .int (nI i))] := hl
  refine lv_aload_n hx hb dL_law_144 rfl (lv_at hl 1 rfl) ?_
  refine lv_aload_n hx hb dL_law_145 rfl (lv_at hl 0 rfl) ?_
  refine lv_iload hx hb dL_law_146 (lv_at hl 4 rfl) ?_
  refine lv_iconst (v := 1) hx hb dL_law_148 (by decide) ?_
  refine lv_iadd hx hb dL_law_149 ?_
  refine va_sld (s := s.setDrawn d) (A := mA s.heap.size) (i := nI i + 1) hx hb X.hX X.hbl hbA hS (by rw [show (1 : Int32) = nI 1 from rfl, nI_add]; exact vp_in_nI (by omega) (by omega)) dL_law_150 ?_
  refine lv_aload_n hx hb dL_law_151 rfl (lv_at hl 3 rfl) ?_
  refine m_sW (As := [.ref (ad 0), .int (xs (nI i + 1).toNatClampNeg), .ref (ad 60)]) (rest := []) (n := 3) hF hC hO hS (k_L_melt l G _ sa ad _ g nf F f no O tf tv fw o (xs (nI i + 1).toNatClampNeg) hnf hno X.hfl (WM_at (by decide) h60) ) ok_L_melt (by decide +kernel) q_351 ⟨Nat.le_of_ble_eq_true rfl, Nat.le_of_ble_eq_true rfl⟩ rfl hl.1 rfl (Nat.le_of_ble_eq_true rfl) ⟨(by show _ ≤ 616075; omega), (by show _ ≤ 7247878; omega)⟩ dL_law_152 (fun v1 ad1 R1 H locs hp hO hS => ?_)
  dsimp only at hp
  obtain ⟨hK, rfl, had, tf9, tv9, hR⟩ | ⟨hK, rfl, hR⟩ := hp
  · rw [hR, WM_ad (ad := ad) (ad1 := ad1) (fun x h1 h2 => had x (by omega)), WM_b, WC_WM] at hO
    rw [had 0 (by decide), had 50 (by decide), had 60 (by decide)] at hl
    obtain ⟨eG, hG2⟩ := s_melt hI.2.2.1 hK
    rw [eG] at hO
    have hI2 : Inv (q + 1) (G_melt g (xs (nI i + 1).toNatClampNeg)) nf F f no O := ⟨hI.1, hI.2.1, hG2, hI.2.2.2.1, hI.2.2.2.2.1, hI.2.2.2.2.2.up⟩
    refine lv_istore (lv' := [(5, .int 0), (0, .ref b), (1, .ref (ad1 0)), (2, .ref (ad1 50)), (3, .ref (ad1 60)), (4, .int (nI i))]) hx hb dL_law_155 hl (by decide) rfl (fun ls hl => ?_)
    refine lv_aload_n hx hb dL_law_157 rfl (lv_at hl 3 rfl) ?_
    refine lv_aload_n hx hb dL_law_158 rfl (lv_at hl 1 rfl) ?_
    refine lv_iload hx hb dL_law_159 (lv_at hl 5 rfl) ?_
    refine lv_iconst (v := 1) hx hb dL_law_161 (by decide) ?_
    refine lv_iadd hx hb dL_law_162 ?_
    refine va_sld (s := s.setDrawn d) (A := mA s.heap.size) (i := nI i + 1) hx hb X.hX X.hbl hbA hS (by rw [show (1 : Int32) = nI 1 from rfl, nI_add]; exact vp_in_nI (by omega) (by omega)) dL_law_163 ?_
    refine m_vI (As := [.int (xs (nI i + 1).toNatClampNeg)]) (rest := []) (n := 1) hF hC hO hS (k_X6_melt l G _ sa ad1 _ th g nf F f no O it ch (xs (nI i + 1).toNatClampNeg) hnf hno (by obtain ⟨⟨a9, h9, ha9, _, e9, _⟩, _⟩ := hI.2.2.1; exact ⟨a9, ha9, e9⟩)) ok_X6_melt q_710 rfl rfl ⟨Nat.le_of_ble_eq_true rfl, Nat.le_of_ble_eq_true rfl⟩ rfl hl.1 rfl (Nat.le_of_ble_eq_true rfl) ⟨(by show _ ≤ 616075; omega), (by show _ ≤ 7247878; omega)⟩ dL_law_164 (fun v2 R2 H locs hp2 hO hS => ?_)
    obtain ⟨-, rfl, it9, ch9, hR2⟩ := hp2.resolve_right (fun z => z.1 hK)
    rw [hR2] at hO
    refine lv_istore (lv' := [(6, .int (G_melt g (xs (nI i + 1).toNatClampNeg) 1)), (5, .int 0), (0, .ref b), (1, .ref (ad1 0)), (2, .ref (ad1 50)), (3, .ref (ad1 60)), (4, .int (nI i))]) hx hb dL_law_167 hl (by decide) rfl (fun ls hl => ?_)
    refine lv_aload_n hx hb dL_law_169 rfl (lv_at hl 4 rfl) ?_
    refine m_vI (As := []) (rest := []) (n := 0) hF hC hO hS (k_X6_thrown l G _ sa ad1 _ 0 (G_melt g (xs (nI i + 1).toNatClampNeg)) nf F f no O it9 ch9 hI2.1 hI2.2.1) ok_X6_thrown q_706 rfl rfl ⟨Nat.le_of_ble_eq_true rfl, Nat.le_of_ble_eq_true rfl⟩ rfl hl.1 rfl (Nat.le_of_ble_eq_true rfl) ⟨(by show _ ≤ 616075; omega), (by show _ ≤ 7247878; omega)⟩ dL_law_170 (fun v3 R3 H locs hp3 hO hS => ?_)
    obtain ⟨rfl, hR3⟩ := hp3
    rw [hR3] at hO
    refine lv_iload hx hb dL_law_173 (lv_at hl 1 rfl) ?_
    refine lv_icmp_eq (tgt := 180) hx hb dL_law_175 (by decide) (fun c175 => ?_) (fun c175 => absurd (by decide) c175)
    refine lv_iload hx hb dL_law_180 (lv_at hl 1 rfl) ?_
    refine lv_if_ne (tgt := 197) hx hb dL_law_182 (by decide) (fun c182 => absurd (by decide) c182) (fun c182 => ?_)
    refine lv_aload_n hx hb dL_law_185 rfl (lv_at hl 5 rfl) ?_
    refine lv_iconst (v := 0) hx hb dL_law_186 (by decide) ?_
    refine m_lald hF hC hO (WM_at (by decide) (WC_at (by decide) mU_self)) (j := 0) (by decide) (vp_in_nI (n := 0) (by decide) (by decide)) dL_law_187 ?_
    rw [vpL]
    refine lv_iload hx hb dL_law_188 (lv_at hl 0 rfl) ?_
    refine lv_i2l (v := ((G_melt g (xs (nI i + 1).toNatClampNeg) 1).toInt64)) hx hb dL_law_190 rfl ?_
    refine W.lcmp hx hb dL_law_191 ?_
    refine lv_if_eq (tgt := 197) hx hb dL_law_192 (by decide) (fun c192 => ?_) (fun c192 => absurd (lg_self _) c192)
    refine lv_goto (tgt := 1433) hx hb dL_law_197 (by decide) ?_
    exact hN d ad1 0 (G_melt g (xs (nI i + 1).toNatClampNeg)) nf F f no O tf9 tv9 fw it9 ch9 _ _ _ _ _ _ _ hd hI2 hfw mU_self ((mU_ne (by decide)).trans h200) hO hS (lv_sub hl [2, 3, 4, 5, 6] rfl) (by omega) (by omega)
  · obtain ⟨ha1, hR1⟩ := Prod.mk.inj hR
    rw [ha1, hR1, WC_WM] at hO
    have hI2 := hI.up
    refine lv_istore (lv' := [(5, .int (K_melt g (xs (nI i + 1).toNatClampNeg))), (0, .ref b), (1, .ref (ad 0)), (2, .ref (ad 50)), (3, .ref (ad 60)), (4, .int (nI i))]) hx hb dL_law_155 hl (by decide) rfl (fun ls hl => ?_)
    refine lv_aload_n hx hb dL_law_157 rfl (lv_at hl 3 rfl) ?_
    refine lv_aload_n hx hb dL_law_158 rfl (lv_at hl 1 rfl) ?_
    refine lv_iload hx hb dL_law_159 (lv_at hl 5 rfl) ?_
    refine lv_iconst (v := 1) hx hb dL_law_161 (by decide) ?_
    refine lv_iadd hx hb dL_law_162 ?_
    refine va_sld (s := s.setDrawn d) (A := mA s.heap.size) (i := nI i + 1) hx hb X.hX X.hbl hbA hS (by rw [show (1 : Int32) = nI 1 from rfl, nI_add]; exact vp_in_nI (by omega) (by omega)) dL_law_163 ?_
    refine m_vI (As := [.int (xs (nI i + 1).toNatClampNeg)]) (rest := []) (n := 1) hF hC hO hS (k_X6_melt l G _ sa ad _ th g nf F f no O it ch (xs (nI i + 1).toNatClampNeg) hnf hno (by obtain ⟨⟨a9, h9, ha9, _, e9, _⟩, _⟩ := hI.2.2.1; exact ⟨a9, ha9, e9⟩)) ok_X6_melt q_710 rfl rfl ⟨Nat.le_of_ble_eq_true rfl, Nat.le_of_ble_eq_true rfl⟩ rfl hl.1 rfl (Nat.le_of_ble_eq_true rfl) ⟨(by show _ ≤ 616075; omega), (by show _ ≤ 7247878; omega)⟩ dL_law_164 (fun v2 R2 H locs hp2 hO hS => ?_)
    obtain ⟨-, it9, ch9, hR2⟩ := hp2.resolve_left (fun z => hK z.1)
    rw [hR2] at hO
    refine lv_istore (lv' := [(6, .int v2), (5, .int (K_melt g (xs (nI i + 1).toNatClampNeg))), (0, .ref b), (1, .ref (ad 0)), (2, .ref (ad 50)), (3, .ref (ad 60)), (4, .int (nI i))]) hx hb dL_law_167 hl (by decide) rfl (fun ls hl => ?_)
    refine lv_aload_n hx hb dL_law_169 rfl (lv_at hl 4 rfl) ?_
    refine m_vI (As := []) (rest := []) (n := 0) hF hC hO hS (k_X6_thrown l G _ sa ad _ (K_melt g (xs (nI i + 1).toNatClampNeg)) g nf F f no O it9 ch9 hI2.1 hI2.2.1) ok_X6_thrown q_706 rfl rfl ⟨Nat.le_of_ble_eq_true rfl, Nat.le_of_ble_eq_true rfl⟩ rfl hl.1 rfl (Nat.le_of_ble_eq_true rfl) ⟨(by show _ ≤ 616075; omega), (by show _ ≤ 7247878; omega)⟩ dL_law_170 (fun v3 R3 H locs hp3 hO hS => ?_)
    obtain ⟨rfl, hR3⟩ := hp3
    rw [hR3] at hO
    refine lv_iload hx hb dL_law_173 (lv_at hl 1 rfl) ?_
    refine lv_icmp_eq (tgt := 180) hx hb dL_law_175 (by decide) (fun c175 => ?_) (fun c175 => absurd (rfl) c175)
    refine lv_iload hx hb dL_law_180 (lv_at hl 1 rfl) ?_
    refine lv_if_ne (tgt := 197) hx hb dL_law_182 (by decide) (fun c182 => ?_) (fun c182 => absurd c182 (hK))
    refine lv_goto (tgt := 1433) hx hb dL_law_197 (by decide) ?_
    exact hN d ad (K_melt g (xs (nI i + 1).toNatClampNeg)) g nf F f no O tf tv fw it9 ch9 o _ _ _ _ _ _ hd hI2 hfw h60 h200 hO hS (lv_sub hl [2, 3, 4, 5, 6] rfl) (by omega) (by omega)
set_option maxHeartbeats 1000000 in
set_option maxRecDepth 100000 in
theorem case_setFire {p : Program} {l : Launch} {e : Env} {s : State} {m : MethodId} {below : List Frame} {meth : Method} {c : Code} {b L : Nat} {xs : Nat → Int32} {G : mG} {sa : Nat → Nat} (X : LwX p l s m meth c b L xs G sa) {i q : Nat} (hq : q < 512) (hi5 : i + 5 ≤ L) (hN : LAt p l e s m below meth c b G 1433 i (q + 1)) : LAt p l e s m below meth c b G 200 i q := by
  intro d ad th g nf F f no O tf tv fw it ch o Ro H locs ls cells slots hd hI hfw h60 h200 hO hS hl hc9 hs9
  have hF := X.hF d
  have hC := X.hC d
  have hx := hF.1
  have hb := hF.2.1
  have hbA : ¬ mA s.heap.size b := Nat.not_le.mpr X.hbl
  have hnf := hI.1
  have hno := hI.2.1
  have hL9 := X.hL
  rw [← WC_WM] at hO
  have hl : lv_has ls 9 [(0, .ref b), (1, .ref (ad 0)), (2, .ref (ad 50)), (3, .ref (ad 60)), (4, .int (nI i))] := hl
  refine lv_aload_n hx hb dL_law_200 rfl (lv_at hl 1 rfl) ?_
  refine lv_aload_n hx hb dL_law_201 rfl (lv_at hl 0 rfl) ?_
  refine lv_iload hx hb dL_law_202 (lv_at hl 4 rfl) ?_
  refine lv_iconst (v := 1) hx hb dL_law_204 (by decide) ?_
  refine lv_iadd hx hb dL_law_205 ?_
  refine va_sld (s := s.setDrawn d) (A := mA s.heap.size) (i := nI i + 1) hx hb X.hX X.hbl hbA hS (by rw [show (1 : Int32) = nI 1 from rfl, nI_add]; exact vp_in_nI (by omega) (by omega)) dL_law_206 ?_
  refine lv_aload_n hx hb dL_law_207 rfl (lv_at hl 3 rfl) ?_
  refine m_sW (As := [.ref (ad 0), .int (xs (nI i + 1).toNatClampNeg), .ref (ad 60)]) (rest := []) (n := 3) hF hC hO hS (k_L_setFire l G _ sa ad _ g nf F f no O tf tv fw o (xs (nI i + 1).toNatClampNeg) hnf hno X.hfl (WM_at (by decide) h60) ) ok_L_setFire (by decide +kernel) q_397 ⟨Nat.le_of_ble_eq_true rfl, Nat.le_of_ble_eq_true rfl⟩ rfl hl.1 rfl (Nat.le_of_ble_eq_true rfl) ⟨(by show _ ≤ 616075; omega), (by show _ ≤ 7247878; omega)⟩ dL_law_208 (fun v1 ad1 R1 H locs hp hO hS => ?_)
  dsimp only at hp
  obtain ⟨hK, rfl, had, tf9, tv9, hR⟩ | ⟨hK, rfl, hR⟩ := hp
  · rw [hR, WM_ad (ad := ad) (ad1 := ad1) (fun x h1 h2 => had x (by omega)), WM_b, WC_WM] at hO
    rw [had 0 (by decide), had 50 (by decide), had 60 (by decide)] at hl
    have hI2 : Inv (q + 1) (G_setFire g (xs (nI i + 1).toNatClampNeg)) nf F f no O := ⟨hI.1, hI.2.1, s_setFire hI.2.2.1 hK, hI.2.2.2.1, hI.2.2.2.2.1, hI.2.2.2.2.2.up⟩
    refine lv_istore (lv' := [(5, .int 0), (0, .ref b), (1, .ref (ad1 0)), (2, .ref (ad1 50)), (3, .ref (ad1 60)), (4, .int (nI i))]) hx hb dL_law_211 hl (by decide) rfl (fun ls hl => ?_)
    refine lv_aload_n hx hb dL_law_213 rfl (lv_at hl 3 rfl) ?_
    refine lv_aload_n hx hb dL_law_214 rfl (lv_at hl 1 rfl) ?_
    refine lv_iload hx hb dL_law_215 (lv_at hl 5 rfl) ?_
    refine lv_iconst (v := 1) hx hb dL_law_217 (by decide) ?_
    refine lv_iadd hx hb dL_law_218 ?_
    refine va_sld (s := s.setDrawn d) (A := mA s.heap.size) (i := nI i + 1) hx hb X.hX X.hbl hbA hS (by rw [show (1 : Int32) = nI 1 from rfl, nI_add]; exact vp_in_nI (by omega) (by omega)) dL_law_219 ?_
    refine m_vI (As := [.int (xs (nI i + 1).toNatClampNeg)]) (rest := []) (n := 1) hF hC hO hS (k_X6_setFire l G _ sa ad1 _ th g nf F f no O it ch (xs (nI i + 1).toNatClampNeg) hnf hno ) ok_X6_setFire q_721 rfl rfl ⟨Nat.le_of_ble_eq_true rfl, Nat.le_of_ble_eq_true rfl⟩ rfl hl.1 rfl (Nat.le_of_ble_eq_true rfl) ⟨(by show _ ≤ 616075; omega), (by show _ ≤ 7247878; omega)⟩ dL_law_220 (fun v2 R2 H locs hp2 hO hS => ?_)
    obtain ⟨-, rfl, it9, ch9, hR2⟩ := hp2.resolve_right (fun z => z.1 hK)
    rw [hR2] at hO
    refine lv_istore (lv' := [(6, .int (g 2)), (5, .int 0), (0, .ref b), (1, .ref (ad1 0)), (2, .ref (ad1 50)), (3, .ref (ad1 60)), (4, .int (nI i))]) hx hb dL_law_223 hl (by decide) rfl (fun ls hl => ?_)
    refine lv_aload_n hx hb dL_law_225 rfl (lv_at hl 4 rfl) ?_
    refine m_vI (As := []) (rest := []) (n := 0) hF hC hO hS (k_X6_thrown l G _ sa ad1 _ 0 (G_setFire g (xs (nI i + 1).toNatClampNeg)) nf F f no O it9 ch9 hI2.1 hI2.2.1) ok_X6_thrown q_706 rfl rfl ⟨Nat.le_of_ble_eq_true rfl, Nat.le_of_ble_eq_true rfl⟩ rfl hl.1 rfl (Nat.le_of_ble_eq_true rfl) ⟨(by show _ ≤ 616075; omega), (by show _ ≤ 7247878; omega)⟩ dL_law_226 (fun v3 R3 H locs hp3 hO hS => ?_)
    obtain ⟨rfl, hR3⟩ := hp3
    rw [hR3] at hO
    refine lv_iload hx hb dL_law_229 (lv_at hl 1 rfl) ?_
    refine lv_icmp_eq (tgt := 236) hx hb dL_law_231 (by decide) (fun c231 => ?_) (fun c231 => absurd (by decide) c231)
    refine lv_iload hx hb dL_law_236 (lv_at hl 1 rfl) ?_
    refine lv_if_ne (tgt := 253) hx hb dL_law_238 (by decide) (fun c238 => absurd (by decide) c238) (fun c238 => ?_)
    refine lv_aload_n hx hb dL_law_241 rfl (lv_at hl 5 rfl) ?_
    refine lv_iconst (v := 0) hx hb dL_law_242 (by decide) ?_
    refine m_lald hF hC hO (WM_at (by decide) (WC_at (by decide) mU_self)) (j := 0) (by decide) (vp_in_nI (n := 0) (by decide) (by decide)) dL_law_243 ?_
    rw [vpL]
    refine lv_iload hx hb dL_law_244 (lv_at hl 0 rfl) ?_
    refine lv_i2l (v := ((g 2).toInt64)) hx hb dL_law_246 rfl ?_
    refine W.lcmp hx hb dL_law_247 ?_
    refine lv_if_eq (tgt := 253) hx hb dL_law_248 (by decide) (fun c248 => ?_) (fun c248 => absurd (lg_self _) c248)
    refine lv_goto (tgt := 1433) hx hb dL_law_253 (by decide) ?_
    exact hN d ad1 0 (G_setFire g (xs (nI i + 1).toNatClampNeg)) nf F f no O tf9 tv9 fw it9 ch9 _ _ _ _ _ _ _ hd hI2 hfw mU_self ((mU_ne (by decide)).trans h200) hO hS (lv_sub hl [2, 3, 4, 5, 6] rfl) (by omega) (by omega)
  · obtain ⟨ha1, hR1⟩ := Prod.mk.inj hR
    rw [ha1, hR1, WC_WM] at hO
    have hI2 := hI.up
    refine lv_istore (lv' := [(5, .int (K_setFire (xs (nI i + 1).toNatClampNeg))), (0, .ref b), (1, .ref (ad 0)), (2, .ref (ad 50)), (3, .ref (ad 60)), (4, .int (nI i))]) hx hb dL_law_211 hl (by decide) rfl (fun ls hl => ?_)
    refine lv_aload_n hx hb dL_law_213 rfl (lv_at hl 3 rfl) ?_
    refine lv_aload_n hx hb dL_law_214 rfl (lv_at hl 1 rfl) ?_
    refine lv_iload hx hb dL_law_215 (lv_at hl 5 rfl) ?_
    refine lv_iconst (v := 1) hx hb dL_law_217 (by decide) ?_
    refine lv_iadd hx hb dL_law_218 ?_
    refine va_sld (s := s.setDrawn d) (A := mA s.heap.size) (i := nI i + 1) hx hb X.hX X.hbl hbA hS (by rw [show (1 : Int32) = nI 1 from rfl, nI_add]; exact vp_in_nI (by omega) (by omega)) dL_law_219 ?_
    refine m_vI (As := [.int (xs (nI i + 1).toNatClampNeg)]) (rest := []) (n := 1) hF hC hO hS (k_X6_setFire l G _ sa ad _ th g nf F f no O it ch (xs (nI i + 1).toNatClampNeg) hnf hno ) ok_X6_setFire q_721 rfl rfl ⟨Nat.le_of_ble_eq_true rfl, Nat.le_of_ble_eq_true rfl⟩ rfl hl.1 rfl (Nat.le_of_ble_eq_true rfl) ⟨(by show _ ≤ 616075; omega), (by show _ ≤ 7247878; omega)⟩ dL_law_220 (fun v2 R2 H locs hp2 hO hS => ?_)
    obtain ⟨-, it9, ch9, hR2⟩ := hp2.resolve_left (fun z => hK z.1)
    rw [hR2] at hO
    refine lv_istore (lv' := [(6, .int v2), (5, .int (K_setFire (xs (nI i + 1).toNatClampNeg))), (0, .ref b), (1, .ref (ad 0)), (2, .ref (ad 50)), (3, .ref (ad 60)), (4, .int (nI i))]) hx hb dL_law_223 hl (by decide) rfl (fun ls hl => ?_)
    refine lv_aload_n hx hb dL_law_225 rfl (lv_at hl 4 rfl) ?_
    refine m_vI (As := []) (rest := []) (n := 0) hF hC hO hS (k_X6_thrown l G _ sa ad _ (K_setFire (xs (nI i + 1).toNatClampNeg)) g nf F f no O it9 ch9 hI2.1 hI2.2.1) ok_X6_thrown q_706 rfl rfl ⟨Nat.le_of_ble_eq_true rfl, Nat.le_of_ble_eq_true rfl⟩ rfl hl.1 rfl (Nat.le_of_ble_eq_true rfl) ⟨(by show _ ≤ 616075; omega), (by show _ ≤ 7247878; omega)⟩ dL_law_226 (fun v3 R3 H locs hp3 hO hS => ?_)
    obtain ⟨rfl, hR3⟩ := hp3
    rw [hR3] at hO
    refine lv_iload hx hb dL_law_229 (lv_at hl 1 rfl) ?_
    refine lv_icmp_eq (tgt := 236) hx hb dL_law_231 (by decide) (fun c231 => ?_) (fun c231 => absurd (rfl) c231)
    refine lv_iload hx hb dL_law_236 (lv_at hl 1 rfl) ?_
    refine lv_if_ne (tgt := 253) hx hb dL_law_238 (by decide) (fun c238 => ?_) (fun c238 => absurd c238 (hK))
    refine lv_goto (tgt := 1433) hx hb dL_law_253 (by decide) ?_
    exact hN d ad (K_setFire (xs (nI i + 1).toNatClampNeg)) g nf F f no O tf tv fw it9 ch9 o _ _ _ _ _ _ hd hI2 hfw h60 h200 hO hS (lv_sub hl [2, 3, 4, 5, 6] rfl) (by omega) (by omega)
set_option maxHeartbeats 1000000 in
set_option maxRecDepth 100000 in
theorem case_vat {p : Program} {l : Launch} {e : Env} {s : State} {m : MethodId} {below : List Frame} {meth : Method} {c : Code} {b L : Nat} {xs : Nat → Int32} {G : mG} {sa : Nat → Nat} (X : LwX p l s m meth c b L xs G sa) {i q : Nat} (hq : q < 512) (hi5 : i + 5 ≤ L) (hN : LAt p l e s m below meth c b G 1433 i (q + 1)) : LAt p l e s m below meth c b G 256 i q := by
  intro d ad th g nf F f no O tf tv fw it ch o Ro H locs ls cells slots hd hI hfw h60 h200 hO hS hl hc9 hs9
  have hF := X.hF d
  have hC := X.hC d
  have hx := hF.1
  have hb := hF.2.1
  have hbA : ¬ mA s.heap.size b := Nat.not_le.mpr X.hbl
  have hnf := hI.1
  have hno := hI.2.1
  have hL9 := X.hL
  rw [← WC_WM] at hO
  have hl : lv_has ls 9 [(0, .ref b), (1, .ref (ad 0)), (2, .ref (ad 50)), (3, .ref (ad 60)), (4, .int (nI i))] := hl
  refine lv_aload_n hx hb dL_law_256 rfl (lv_at hl 1 rfl) ?_
  refine lv_aload_n hx hb dL_law_257 rfl (lv_at hl 0 rfl) ?_
  refine lv_iload hx hb dL_law_258 (lv_at hl 4 rfl) ?_
  refine lv_iconst (v := 1) hx hb dL_law_260 (by decide) ?_
  refine lv_iadd hx hb dL_law_261 ?_
  refine va_sld (s := s.setDrawn d) (A := mA s.heap.size) (i := nI i + 1) hx hb X.hX X.hbl hbA hS (by rw [show (1 : Int32) = nI 1 from rfl, nI_add]; exact vp_in_nI (by omega) (by omega)) dL_law_262 ?_
  refine lv_aload_n hx hb dL_law_263 rfl (lv_at hl 3 rfl) ?_
  refine m_sW (As := [.ref (ad 0), .int (xs (nI i + 1).toNatClampNeg), .ref (ad 60)]) (rest := []) (n := 3) hF hC hO hS (k_L_vat l G _ sa ad _ g nf F f no O tf tv fw o (xs (nI i + 1).toNatClampNeg) hnf hno X.hfl (WM_at (by decide) h60) ) ok_L_vat (by decide +kernel) q_405 ⟨Nat.le_of_ble_eq_true rfl, Nat.le_of_ble_eq_true rfl⟩ rfl hl.1 rfl (Nat.le_of_ble_eq_true rfl) ⟨(by show _ ≤ 616075; omega), (by show _ ≤ 7247878; omega)⟩ dL_law_264 (fun v1 ad1 R1 H locs hp hO hS => ?_)
  dsimp only at hp
  obtain ⟨hK, rfl, had, tf9, tv9, hR⟩ | ⟨hK, rfl, hR⟩ := hp
  · rw [hR, WM_ad (ad := ad) (ad1 := ad1) (fun x h1 h2 => had x (by omega)), WM_b, WC_WM] at hO
    rw [had 0 (by decide), had 50 (by decide), had 60 (by decide)] at hl
    have hI2 := hI.up
    refine lv_istore (lv' := [(5, .int 0), (0, .ref b), (1, .ref (ad1 0)), (2, .ref (ad1 50)), (3, .ref (ad1 60)), (4, .int (nI i))]) hx hb dL_law_267 hl (by decide) rfl (fun ls hl => ?_)
    refine lv_aload_n hx hb dL_law_269 rfl (lv_at hl 3 rfl) ?_
    refine lv_aload_n hx hb dL_law_270 rfl (lv_at hl 1 rfl) ?_
    refine lv_iload hx hb dL_law_271 (lv_at hl 5 rfl) ?_
    refine lv_iconst (v := 1) hx hb dL_law_273 (by decide) ?_
    refine lv_iadd hx hb dL_law_274 ?_
    refine va_sld (s := s.setDrawn d) (A := mA s.heap.size) (i := nI i + 1) hx hb X.hX X.hbl hbA hS (by rw [show (1 : Int32) = nI 1 from rfl, nI_add]; exact vp_in_nI (by omega) (by omega)) dL_law_275 ?_
    refine m_vI (As := [.int (xs (nI i + 1).toNatClampNeg)]) (rest := []) (n := 1) hF hC hO hS (k_X6_vat l G _ sa ad1 _ th g nf F f no O it ch (xs (nI i + 1).toNatClampNeg) hnf hno ) ok_X6_vat q_725 rfl rfl ⟨Nat.le_of_ble_eq_true rfl, Nat.le_of_ble_eq_true rfl⟩ rfl hl.1 rfl (Nat.le_of_ble_eq_true rfl) ⟨(by show _ ≤ 616075; omega), (by show _ ≤ 7247878; omega)⟩ dL_law_276 (fun v2 R2 H locs hp2 hO hS => ?_)
    obtain ⟨-, rfl, it9, ch9, hR2⟩ := hp2.resolve_right (fun z => z.1 hK)
    rw [hR2] at hO
    refine lv_istore (lv' := [(6, .int (m_vat g (xs (nI i + 1).toNatClampNeg))), (5, .int 0), (0, .ref b), (1, .ref (ad1 0)), (2, .ref (ad1 50)), (3, .ref (ad1 60)), (4, .int (nI i))]) hx hb dL_law_279 hl (by decide) rfl (fun ls hl => ?_)
    refine lv_aload_n hx hb dL_law_281 rfl (lv_at hl 4 rfl) ?_
    refine m_vI (As := []) (rest := []) (n := 0) hF hC hO hS (k_X6_thrown l G _ sa ad1 _ 0 g nf F f no O it9 ch9 hI2.1 hI2.2.1) ok_X6_thrown q_706 rfl rfl ⟨Nat.le_of_ble_eq_true rfl, Nat.le_of_ble_eq_true rfl⟩ rfl hl.1 rfl (Nat.le_of_ble_eq_true rfl) ⟨(by show _ ≤ 616075; omega), (by show _ ≤ 7247878; omega)⟩ dL_law_282 (fun v3 R3 H locs hp3 hO hS => ?_)
    obtain ⟨rfl, hR3⟩ := hp3
    rw [hR3] at hO
    refine lv_iload hx hb dL_law_285 (lv_at hl 1 rfl) ?_
    refine lv_icmp_eq (tgt := 292) hx hb dL_law_287 (by decide) (fun c287 => ?_) (fun c287 => absurd (by decide) c287)
    refine lv_iload hx hb dL_law_292 (lv_at hl 1 rfl) ?_
    refine lv_if_ne (tgt := 309) hx hb dL_law_294 (by decide) (fun c294 => absurd (by decide) c294) (fun c294 => ?_)
    refine lv_aload_n hx hb dL_law_297 rfl (lv_at hl 5 rfl) ?_
    refine lv_iconst (v := 0) hx hb dL_law_298 (by decide) ?_
    refine m_lald hF hC hO (WM_at (by decide) (WC_at (by decide) mU_self)) (j := 0) (by decide) (vp_in_nI (n := 0) (by decide) (by decide)) dL_law_299 ?_
    rw [vpL]
    refine lv_iload hx hb dL_law_300 (lv_at hl 0 rfl) ?_
    refine lv_i2l (v := ((m_vat g (xs (nI i + 1).toNatClampNeg)).toInt64)) hx hb dL_law_302 rfl ?_
    refine W.lcmp hx hb dL_law_303 ?_
    refine lv_if_eq (tgt := 309) hx hb dL_law_304 (by decide) (fun c304 => ?_) (fun c304 => absurd (lg_self _) c304)
    refine lv_goto (tgt := 1433) hx hb dL_law_309 (by decide) ?_
    exact hN d ad1 0 g nf F f no O tf9 tv9 fw it9 ch9 _ _ _ _ _ _ _ hd hI2 hfw mU_self ((mU_ne (by decide)).trans h200) hO hS (lv_sub hl [2, 3, 4, 5, 6] rfl) (by omega) (by omega)
  · obtain ⟨ha1, hR1⟩ := Prod.mk.inj hR
    rw [ha1, hR1, WC_WM] at hO
    have hI2 := hI.up
    refine lv_istore (lv' := [(5, .int (K_vat (xs (nI i + 1).toNatClampNeg))), (0, .ref b), (1, .ref (ad 0)), (2, .ref (ad 50)), (3, .ref (ad 60)), (4, .int (nI i))]) hx hb dL_law_267 hl (by decide) rfl (fun ls hl => ?_)
    refine lv_aload_n hx hb dL_law_269 rfl (lv_at hl 3 rfl) ?_
    refine lv_aload_n hx hb dL_law_270 rfl (lv_at hl 1 rfl) ?_
    refine lv_iload hx hb dL_law_271 (lv_at hl 5 rfl) ?_
    refine lv_iconst (v := 1) hx hb dL_law_273 (by decide) ?_
    refine lv_iadd hx hb dL_law_274 ?_
    refine va_sld (s := s.setDrawn d) (A := mA s.heap.size) (i := nI i + 1) hx hb X.hX X.hbl hbA hS (by rw [show (1 : Int32) = nI 1 from rfl, nI_add]; exact vp_in_nI (by omega) (by omega)) dL_law_275 ?_
    refine m_vI (As := [.int (xs (nI i + 1).toNatClampNeg)]) (rest := []) (n := 1) hF hC hO hS (k_X6_vat l G _ sa ad _ th g nf F f no O it ch (xs (nI i + 1).toNatClampNeg) hnf hno ) ok_X6_vat q_725 rfl rfl ⟨Nat.le_of_ble_eq_true rfl, Nat.le_of_ble_eq_true rfl⟩ rfl hl.1 rfl (Nat.le_of_ble_eq_true rfl) ⟨(by show _ ≤ 616075; omega), (by show _ ≤ 7247878; omega)⟩ dL_law_276 (fun v2 R2 H locs hp2 hO hS => ?_)
    obtain ⟨-, it9, ch9, hR2⟩ := hp2.resolve_left (fun z => hK z.1)
    rw [hR2] at hO
    refine lv_istore (lv' := [(6, .int v2), (5, .int (K_vat (xs (nI i + 1).toNatClampNeg))), (0, .ref b), (1, .ref (ad 0)), (2, .ref (ad 50)), (3, .ref (ad 60)), (4, .int (nI i))]) hx hb dL_law_279 hl (by decide) rfl (fun ls hl => ?_)
    refine lv_aload_n hx hb dL_law_281 rfl (lv_at hl 4 rfl) ?_
    refine m_vI (As := []) (rest := []) (n := 0) hF hC hO hS (k_X6_thrown l G _ sa ad _ (K_vat (xs (nI i + 1).toNatClampNeg)) g nf F f no O it9 ch9 hI2.1 hI2.2.1) ok_X6_thrown q_706 rfl rfl ⟨Nat.le_of_ble_eq_true rfl, Nat.le_of_ble_eq_true rfl⟩ rfl hl.1 rfl (Nat.le_of_ble_eq_true rfl) ⟨(by show _ ≤ 616075; omega), (by show _ ≤ 7247878; omega)⟩ dL_law_282 (fun v3 R3 H locs hp3 hO hS => ?_)
    obtain ⟨rfl, hR3⟩ := hp3
    rw [hR3] at hO
    refine lv_iload hx hb dL_law_285 (lv_at hl 1 rfl) ?_
    refine lv_icmp_eq (tgt := 292) hx hb dL_law_287 (by decide) (fun c287 => ?_) (fun c287 => absurd (rfl) c287)
    refine lv_iload hx hb dL_law_292 (lv_at hl 1 rfl) ?_
    refine lv_if_ne (tgt := 309) hx hb dL_law_294 (by decide) (fun c294 => ?_) (fun c294 => absurd c294 (hK))
    refine lv_goto (tgt := 1433) hx hb dL_law_309 (by decide) ?_
    exact hN d ad (K_vat (xs (nI i + 1).toNatClampNeg)) g nf F f no O tf tv fw it9 ch9 o _ _ _ _ _ _ hd hI2 hfw h60 h200 hO hS (lv_sub hl [2, 3, 4, 5, 6] rfl) (by omega) (by omega)
set_option maxHeartbeats 1000000 in
set_option maxRecDepth 100000 in
theorem case_addFrame {p : Program} {l : Launch} {e : Env} {s : State} {m : MethodId} {below : List Frame} {meth : Method} {c : Code} {b L : Nat} {xs : Nat → Int32} {G : mG} {sa : Nat → Nat} (X : LwX p l s m meth c b L xs G sa) {i q : Nat} (hq : q < 512) (hi5 : i + 5 ≤ L) (hN : LAt p l e s m below meth c b G 1433 i (q + 1)) : LAt p l e s m below meth c b G 312 i q := by
  intro d ad th g nf F f no O tf tv fw it ch o Ro H locs ls cells slots hd hI hfw h60 h200 hO hS hl hc9 hs9
  have hF := X.hF d
  have hC := X.hC d
  have hx := hF.1
  have hb := hF.2.1
  have hbA : ¬ mA s.heap.size b := Nat.not_le.mpr X.hbl
  have hnf := hI.1
  have hno := hI.2.1
  have hL9 := X.hL
  rw [← WC_WM] at hO
  have hl : lv_has ls 9 [(0, .ref b), (1, .ref (ad 0)), (2, .ref (ad 50)), (3, .ref (ad 60)), (4, .int (nI i))] := hl
  refine lv_aload_n hx hb dL_law_312 rfl (lv_at hl 1 rfl) ?_
  refine lv_aload_n hx hb dL_law_313 rfl (lv_at hl 0 rfl) ?_
  refine lv_iload hx hb dL_law_314 (lv_at hl 4 rfl) ?_
  refine lv_iconst (v := 1) hx hb dL_law_316 (by decide) ?_
  refine lv_iadd hx hb dL_law_317 ?_
  refine va_sld (s := s.setDrawn d) (A := mA s.heap.size) (i := nI i + 1) hx hb X.hX X.hbl hbA hS (by rw [show (1 : Int32) = nI 1 from rfl, nI_add]; exact vp_in_nI (by omega) (by omega)) dL_law_318 ?_
  refine lv_aload_n hx hb dL_law_319 rfl (lv_at hl 0 rfl) ?_
  refine lv_iload hx hb dL_law_320 (lv_at hl 4 rfl) ?_
  refine lv_iconst (v := 2) hx hb dL_law_322 (by decide) ?_
  refine lv_iadd hx hb dL_law_323 ?_
  refine va_sld (s := s.setDrawn d) (A := mA s.heap.size) (i := nI i + 2) hx hb X.hX X.hbl hbA hS (by rw [show (2 : Int32) = nI 2 from rfl, nI_add]; exact vp_in_nI (by omega) (by omega)) dL_law_324 ?_
  refine lv_aload_n hx hb dL_law_325 rfl (lv_at hl 3 rfl) ?_
  refine m_sW (As := [.ref (ad 0), .int (xs (nI i + 1).toNatClampNeg), .int (xs (nI i + 2).toNatClampNeg), .ref (ad 60)]) (rest := []) (n := 4) hF hC hO hS (k_L_addFrame l G _ sa ad _ g nf F f no O tf tv fw o (xs (nI i + 1).toNatClampNeg) (xs (nI i + 2).toNatClampNeg) hnf hno X.hfl (WM_at (by decide) h60) ) ok_L_addFrame (by decide +kernel) q_410 ⟨Nat.le_of_ble_eq_true rfl, Nat.le_of_ble_eq_true rfl⟩ rfl hl.1 rfl (Nat.le_of_ble_eq_true rfl) ⟨(by show _ ≤ 616075; omega), (by show _ ≤ 7247878; omega)⟩ dL_law_326 (fun v1 ad1 R1 H locs hp hO hS => ?_)
  dsimp only at hp
  obtain ⟨hK, rfl, had, tf9, tv9, hR⟩ | ⟨hK, rfl, hR⟩ := hp
  · rw [hR, WM_ad (ad := ad) (ad1 := ad1) (fun x h1 h2 => had x (by omega)), WM_b, WC_WM] at hO
    rw [had 0 (by decide), had 50 (by decide), had 60 (by decide)] at hl
    have hI2 := s_addFrame hI hK
    refine lv_istore (lv' := [(5, .int 0), (0, .ref b), (1, .ref (ad1 0)), (2, .ref (ad1 50)), (3, .ref (ad1 60)), (4, .int (nI i))]) hx hb dL_law_329 hl (by decide) rfl (fun ls hl => ?_)
    refine lv_aload_n hx hb dL_law_331 rfl (lv_at hl 3 rfl) ?_
    refine lv_aload_n hx hb dL_law_332 rfl (lv_at hl 1 rfl) ?_
    refine lv_iload hx hb dL_law_333 (lv_at hl 5 rfl) ?_
    refine lv_iconst (v := 1) hx hb dL_law_335 (by decide) ?_
    refine lv_iadd hx hb dL_law_336 ?_
    refine va_sld (s := s.setDrawn d) (A := mA s.heap.size) (i := nI i + 1) hx hb X.hX X.hbl hbA hS (by rw [show (1 : Int32) = nI 1 from rfl, nI_add]; exact vp_in_nI (by omega) (by omega)) dL_law_337 ?_
    refine lv_aload_n hx hb dL_law_338 rfl (lv_at hl 1 rfl) ?_
    refine lv_iload hx hb dL_law_339 (lv_at hl 5 rfl) ?_
    refine lv_iconst (v := 2) hx hb dL_law_341 (by decide) ?_
    refine lv_iadd hx hb dL_law_342 ?_
    refine va_sld (s := s.setDrawn d) (A := mA s.heap.size) (i := nI i + 2) hx hb X.hX X.hbl hbA hS (by rw [show (2 : Int32) = nI 2 from rfl, nI_add]; exact vp_in_nI (by omega) (by omega)) dL_law_343 ?_
    refine m_vNi (As := [.int (xs (nI i + 1).toNatClampNeg), .int (xs (nI i + 2).toNatClampNeg)]) (rest := []) (n := 2) hF hC hO hS (k_X6_addFrame l G _ sa ad1 _ th g nf F f no O it ch (xs (nI i + 1).toNatClampNeg) (xs (nI i + 2).toNatClampNeg) hnf hno (WC_at (by decide) ((mU_ne (by decide)).trans h200))) ok_X6_addFrame q_733 rfl rfl ⟨Nat.le_of_ble_eq_true rfl, Nat.le_of_ble_eq_true rfl⟩ rfl hl.1 rfl (Nat.le_of_ble_eq_true rfl) ⟨(by show _ ≤ 616075; omega), (by show _ ≤ 7247878; omega)⟩ dL_law_344 (fun v2 ad2 R2 H locs hp2 hO hS => ?_)
    dsimp only at hp2
    obtain ⟨-, rfl, ha2, hR2⟩ := hp2.resolve_right (fun z => z.1 hK)
    rw [ha2, hR2] at hO
    refine lv_istore (lv' := [(6, .int (nI nf)), (5, .int 0), (0, .ref b), (1, .ref (ad1 0)), (2, .ref (ad1 50)), (3, .ref (ad1 60)), (4, .int (nI i))]) hx hb dL_law_347 hl (by decide) rfl (fun ls hl => ?_)
    refine lv_aload_n hx hb dL_law_349 rfl (lv_at hl 4 rfl) ?_
    refine m_vI (As := []) (rest := []) (n := 0) hF hC hO hS (k_X6_thrown l G _ sa ad1 _ 0 g (nf + 1) (va_up F nf (N_F (xs (nI i + 1).toNatClampNeg) (xs (nI i + 2).toNatClampNeg))) f no O it ch hI2.1 hI2.2.1) ok_X6_thrown q_706 rfl rfl ⟨Nat.le_of_ble_eq_true rfl, Nat.le_of_ble_eq_true rfl⟩ rfl hl.1 rfl (Nat.le_of_ble_eq_true rfl) ⟨(by show _ ≤ 616075; omega), (by show _ ≤ 7247878; omega)⟩ dL_law_350 (fun v3 R3 H locs hp3 hO hS => ?_)
    obtain ⟨rfl, hR3⟩ := hp3
    rw [hR3] at hO
    refine lv_iload hx hb dL_law_353 (lv_at hl 1 rfl) ?_
    refine lv_icmp_eq (tgt := 360) hx hb dL_law_355 (by decide) (fun c355 => ?_) (fun c355 => absurd (by decide) c355)
    refine lv_iload hx hb dL_law_360 (lv_at hl 1 rfl) ?_
    refine lv_if_ne (tgt := 377) hx hb dL_law_362 (by decide) (fun c362 => absurd (by decide) c362) (fun c362 => ?_)
    refine lv_aload_n hx hb dL_law_365 rfl (lv_at hl 5 rfl) ?_
    refine lv_iconst (v := 0) hx hb dL_law_366 (by decide) ?_
    refine m_lald hF hC hO (WM_at (by decide) (WC_at (by decide) mU_self)) (j := 0) (by decide) (vp_in_nI (n := 0) (by decide) (by decide)) dL_law_367 ?_
    rw [vpL]
    refine lv_iload hx hb dL_law_368 (lv_at hl 0 rfl) ?_
    refine lv_i2l (v := ((nI nf).toInt64)) hx hb dL_law_370 rfl ?_
    refine W.lcmp hx hb dL_law_371 ?_
    refine lv_if_eq (tgt := 377) hx hb dL_law_372 (by decide) (fun c372 => ?_) (fun c372 => absurd (lg_self _) c372)
    refine lv_goto (tgt := 1433) hx hb dL_law_377 (by decide) ?_
    exact hN d ad1 0 g (nf + 1) (va_up F nf (N_F (xs (nI i + 1).toNatClampNeg) (xs (nI i + 2).toNatClampNeg))) f no O tf9 tv9 fw it ch _ _ _ _ _ _ _ hd hI2 hfw mU_self ((mU_ne (by decide)).trans h200) hO hS (lv_sub hl [2, 3, 4, 5, 6] rfl) (by omega) (by omega)
  · obtain ⟨ha1, hR1⟩ := Prod.mk.inj hR
    rw [ha1, hR1, WC_WM] at hO
    have hI2 := hI.up
    refine lv_istore (lv' := [(5, .int (K_addFrame nf (xs (nI i + 1).toNatClampNeg) (xs (nI i + 2).toNatClampNeg))), (0, .ref b), (1, .ref (ad 0)), (2, .ref (ad 50)), (3, .ref (ad 60)), (4, .int (nI i))]) hx hb dL_law_329 hl (by decide) rfl (fun ls hl => ?_)
    refine lv_aload_n hx hb dL_law_331 rfl (lv_at hl 3 rfl) ?_
    refine lv_aload_n hx hb dL_law_332 rfl (lv_at hl 1 rfl) ?_
    refine lv_iload hx hb dL_law_333 (lv_at hl 5 rfl) ?_
    refine lv_iconst (v := 1) hx hb dL_law_335 (by decide) ?_
    refine lv_iadd hx hb dL_law_336 ?_
    refine va_sld (s := s.setDrawn d) (A := mA s.heap.size) (i := nI i + 1) hx hb X.hX X.hbl hbA hS (by rw [show (1 : Int32) = nI 1 from rfl, nI_add]; exact vp_in_nI (by omega) (by omega)) dL_law_337 ?_
    refine lv_aload_n hx hb dL_law_338 rfl (lv_at hl 1 rfl) ?_
    refine lv_iload hx hb dL_law_339 (lv_at hl 5 rfl) ?_
    refine lv_iconst (v := 2) hx hb dL_law_341 (by decide) ?_
    refine lv_iadd hx hb dL_law_342 ?_
    refine va_sld (s := s.setDrawn d) (A := mA s.heap.size) (i := nI i + 2) hx hb X.hX X.hbl hbA hS (by rw [show (2 : Int32) = nI 2 from rfl, nI_add]; exact vp_in_nI (by omega) (by omega)) dL_law_343 ?_
    refine m_vNi (As := [.int (xs (nI i + 1).toNatClampNeg), .int (xs (nI i + 2).toNatClampNeg)]) (rest := []) (n := 2) hF hC hO hS (k_X6_addFrame l G _ sa ad _ th g nf F f no O it ch (xs (nI i + 1).toNatClampNeg) (xs (nI i + 2).toNatClampNeg) hnf hno (WC_at (by decide) h200)) ok_X6_addFrame q_733 rfl rfl ⟨Nat.le_of_ble_eq_true rfl, Nat.le_of_ble_eq_true rfl⟩ rfl hl.1 rfl (Nat.le_of_ble_eq_true rfl) ⟨(by show _ ≤ 616075; omega), (by show _ ≤ 7247878; omega)⟩ dL_law_344 (fun v2 ad2 R2 H locs hp2 hO hS => ?_)
    dsimp only at hp2
    obtain ⟨-, ha2, hR2⟩ := hp2.resolve_left (fun z => hK z.1)
    rw [ha2, hR2] at hO
    refine lv_istore (lv' := [(6, .int v2), (5, .int (K_addFrame nf (xs (nI i + 1).toNatClampNeg) (xs (nI i + 2).toNatClampNeg))), (0, .ref b), (1, .ref (ad 0)), (2, .ref (ad 50)), (3, .ref (ad 60)), (4, .int (nI i))]) hx hb dL_law_347 hl (by decide) rfl (fun ls hl => ?_)
    refine lv_aload_n hx hb dL_law_349 rfl (lv_at hl 4 rfl) ?_
    refine m_vI (As := []) (rest := []) (n := 0) hF hC hO hS (k_X6_thrown l G _ sa ad _ (K_addFrame nf (xs (nI i + 1).toNatClampNeg) (xs (nI i + 2).toNatClampNeg)) g nf F f no O it ch hI2.1 hI2.2.1) ok_X6_thrown q_706 rfl rfl ⟨Nat.le_of_ble_eq_true rfl, Nat.le_of_ble_eq_true rfl⟩ rfl hl.1 rfl (Nat.le_of_ble_eq_true rfl) ⟨(by show _ ≤ 616075; omega), (by show _ ≤ 7247878; omega)⟩ dL_law_350 (fun v3 R3 H locs hp3 hO hS => ?_)
    obtain ⟨rfl, hR3⟩ := hp3
    rw [hR3] at hO
    refine lv_iload hx hb dL_law_353 (lv_at hl 1 rfl) ?_
    refine lv_icmp_eq (tgt := 360) hx hb dL_law_355 (by decide) (fun c355 => ?_) (fun c355 => absurd (rfl) c355)
    refine lv_iload hx hb dL_law_360 (lv_at hl 1 rfl) ?_
    refine lv_if_ne (tgt := 377) hx hb dL_law_362 (by decide) (fun c362 => ?_) (fun c362 => absurd c362 (hK))
    refine lv_goto (tgt := 1433) hx hb dL_law_377 (by decide) ?_
    exact hN d ad (K_addFrame nf (xs (nI i + 1).toNatClampNeg) (xs (nI i + 2).toNatClampNeg)) g nf F f no O tf tv fw it ch o _ _ _ _ _ _ hd hI2 hfw h60 h200 hO hS (lv_sub hl [2, 3, 4, 5, 6] rfl) (by omega) (by omega)
set_option maxHeartbeats 1000000 in
set_option maxRecDepth 100000 in
theorem case_hang {p : Program} {l : Launch} {e : Env} {s : State} {m : MethodId} {below : List Frame} {meth : Method} {c : Code} {b L : Nat} {xs : Nat → Int32} {G : mG} {sa : Nat → Nat} (X : LwX p l s m meth c b L xs G sa) {i q : Nat} (hq : q < 512) (hi5 : i + 5 ≤ L) (hN : LAt p l e s m below meth c b G 1433 i (q + 1)) : LAt p l e s m below meth c b G 380 i q := by
  intro d ad th g nf F f no O tf tv fw it ch o Ro H locs ls cells slots hd hI hfw h60 h200 hO hS hl hc9 hs9
  have hF := X.hF d
  have hC := X.hC d
  have hx := hF.1
  have hb := hF.2.1
  have hbA : ¬ mA s.heap.size b := Nat.not_le.mpr X.hbl
  have hnf := hI.1
  have hno := hI.2.1
  have hL9 := X.hL
  rw [← WC_WM] at hO
  have hl : lv_has ls 9 [(0, .ref b), (1, .ref (ad 0)), (2, .ref (ad 50)), (3, .ref (ad 60)), (4, .int (nI i))] := hl
  refine lv_aload_n hx hb dL_law_380 rfl (lv_at hl 1 rfl) ?_
  refine lv_aload_n hx hb dL_law_381 rfl (lv_at hl 0 rfl) ?_
  refine lv_iload hx hb dL_law_382 (lv_at hl 4 rfl) ?_
  refine lv_iconst (v := 1) hx hb dL_law_384 (by decide) ?_
  refine lv_iadd hx hb dL_law_385 ?_
  refine va_sld (s := s.setDrawn d) (A := mA s.heap.size) (i := nI i + 1) hx hb X.hX X.hbl hbA hS (by rw [show (1 : Int32) = nI 1 from rfl, nI_add]; exact vp_in_nI (by omega) (by omega)) dL_law_386 ?_
  refine lv_aload_n hx hb dL_law_387 rfl (lv_at hl 0 rfl) ?_
  refine lv_iload hx hb dL_law_388 (lv_at hl 4 rfl) ?_
  refine lv_iconst (v := 2) hx hb dL_law_390 (by decide) ?_
  refine lv_iadd hx hb dL_law_391 ?_
  refine va_sld (s := s.setDrawn d) (A := mA s.heap.size) (i := nI i + 2) hx hb X.hX X.hbl hbA hS (by rw [show (2 : Int32) = nI 2 from rfl, nI_add]; exact vp_in_nI (by omega) (by omega)) dL_law_392 ?_
  refine lv_aload_n hx hb dL_law_393 rfl (lv_at hl 3 rfl) ?_
  refine m_sW (As := [.ref (ad 0), .int (xs (nI i + 1).toNatClampNeg), .int (xs (nI i + 2).toNatClampNeg), .ref (ad 60)]) (rest := []) (n := 4) hF hC hO hS (k_L_hang l G _ sa ad _ g nf F f no O tf tv fw o (xs (nI i + 1).toNatClampNeg) (xs (nI i + 2).toNatClampNeg) hnf hno X.hfl (WM_at (by decide) h60) ) ok_L_hang (by decide +kernel) q_420 ⟨Nat.le_of_ble_eq_true rfl, Nat.le_of_ble_eq_true rfl⟩ rfl hl.1 rfl (Nat.le_of_ble_eq_true rfl) ⟨(by show _ ≤ 616075; omega), (by show _ ≤ 7247878; omega)⟩ dL_law_394 (fun v1 ad1 R1 H locs hp hO hS => ?_)
  dsimp only at hp
  obtain ⟨hK, rfl, had, tf9, tv9, hR⟩ | ⟨hK, rfl, hR⟩ := hp
  · rw [hR, WM_ad (ad := ad) (ad1 := ad1) (fun x h1 h2 => had x (by omega)), WM_b, WC_WM] at hO
    rw [had 0 (by decide), had 50 (by decide), had 60 (by decide)] at hl
    have hI2 : Inv (q + 1) g nf (F_place F (nn (xs (nI i + 1).toNatClampNeg)) (xs (nI i + 2).toNatClampNeg)) f no O := s_hang hI hK
    refine lv_istore (lv' := [(5, .int 0), (0, .ref b), (1, .ref (ad1 0)), (2, .ref (ad1 50)), (3, .ref (ad1 60)), (4, .int (nI i))]) hx hb dL_law_397 hl (by decide) rfl (fun ls hl => ?_)
    refine lv_aload_n hx hb dL_law_399 rfl (lv_at hl 3 rfl) ?_
    refine lv_aload_n hx hb dL_law_400 rfl (lv_at hl 1 rfl) ?_
    refine lv_iload hx hb dL_law_401 (lv_at hl 5 rfl) ?_
    refine lv_iconst (v := 1) hx hb dL_law_403 (by decide) ?_
    refine lv_iadd hx hb dL_law_404 ?_
    refine va_sld (s := s.setDrawn d) (A := mA s.heap.size) (i := nI i + 1) hx hb X.hX X.hbl hbA hS (by rw [show (1 : Int32) = nI 1 from rfl, nI_add]; exact vp_in_nI (by omega) (by omega)) dL_law_405 ?_
    refine lv_aload_n hx hb dL_law_406 rfl (lv_at hl 1 rfl) ?_
    refine lv_iload hx hb dL_law_407 (lv_at hl 5 rfl) ?_
    refine lv_iconst (v := 2) hx hb dL_law_409 (by decide) ?_
    refine lv_iadd hx hb dL_law_410 ?_
    refine va_sld (s := s.setDrawn d) (A := mA s.heap.size) (i := nI i + 2) hx hb X.hX X.hbl hbA hS (by rw [show (2 : Int32) = nI 2 from rfl, nI_add]; exact vp_in_nI (by omega) (by omega)) dL_law_411 ?_
    refine m_vI (As := [.int (xs (nI i + 1).toNatClampNeg), .int (xs (nI i + 2).toNatClampNeg)]) (rest := []) (n := 2) hF hC hO hS (k_X6_hang l G _ sa ad1 _ th g nf F f no O it ch (xs (nI i + 1).toNatClampNeg) (xs (nI i + 2).toNatClampNeg) hnf hno ) ok_X6_hang q_740 rfl rfl ⟨Nat.le_of_ble_eq_true rfl, Nat.le_of_ble_eq_true rfl⟩ rfl hl.1 rfl (Nat.le_of_ble_eq_true rfl) ⟨(by show _ ≤ 616075; omega), (by show _ ≤ 7247878; omega)⟩ dL_law_412 (fun v2 R2 H locs hp2 hO hS => ?_)
    obtain ⟨-, rfl, it9, ch9, hR2⟩ := hp2.resolve_right (fun z => z.1 hK)
    rw [hR2] at hO
    refine lv_istore (lv' := [(6, .int (F (nn (xs (nI i + 1).toNatClampNeg)) 5)), (5, .int 0), (0, .ref b), (1, .ref (ad1 0)), (2, .ref (ad1 50)), (3, .ref (ad1 60)), (4, .int (nI i))]) hx hb dL_law_415 hl (by decide) rfl (fun ls hl => ?_)
    refine lv_aload_n hx hb dL_law_417 rfl (lv_at hl 4 rfl) ?_
    refine m_vI (As := []) (rest := []) (n := 0) hF hC hO hS (k_X6_thrown l G _ sa ad1 _ 0 g nf (F_place F (nn (xs (nI i + 1).toNatClampNeg)) (xs (nI i + 2).toNatClampNeg)) f no O it9 ch9 hI2.1 hI2.2.1) ok_X6_thrown q_706 rfl rfl ⟨Nat.le_of_ble_eq_true rfl, Nat.le_of_ble_eq_true rfl⟩ rfl hl.1 rfl (Nat.le_of_ble_eq_true rfl) ⟨(by show _ ≤ 616075; omega), (by show _ ≤ 7247878; omega)⟩ dL_law_418 (fun v3 R3 H locs hp3 hO hS => ?_)
    obtain ⟨rfl, hR3⟩ := hp3
    rw [hR3] at hO
    refine lv_iload hx hb dL_law_421 (lv_at hl 1 rfl) ?_
    refine lv_icmp_eq (tgt := 428) hx hb dL_law_423 (by decide) (fun c423 => ?_) (fun c423 => absurd (by decide) c423)
    refine lv_iload hx hb dL_law_428 (lv_at hl 1 rfl) ?_
    refine lv_if_ne (tgt := 445) hx hb dL_law_430 (by decide) (fun c430 => absurd (by decide) c430) (fun c430 => ?_)
    refine lv_aload_n hx hb dL_law_433 rfl (lv_at hl 5 rfl) ?_
    refine lv_iconst (v := 0) hx hb dL_law_434 (by decide) ?_
    refine m_lald hF hC hO (WM_at (by decide) (WC_at (by decide) mU_self)) (j := 0) (by decide) (vp_in_nI (n := 0) (by decide) (by decide)) dL_law_435 ?_
    rw [vpL]
    refine lv_iload hx hb dL_law_436 (lv_at hl 0 rfl) ?_
    refine lv_i2l (v := ((F (nn (xs (nI i + 1).toNatClampNeg)) 5).toInt64)) hx hb dL_law_438 rfl ?_
    refine W.lcmp hx hb dL_law_439 ?_
    refine lv_if_eq (tgt := 445) hx hb dL_law_440 (by decide) (fun c440 => ?_) (fun c440 => absurd (lg_self _) c440)
    refine lv_goto (tgt := 1433) hx hb dL_law_445 (by decide) ?_
    exact hN d ad1 0 g nf (F_place F (nn (xs (nI i + 1).toNatClampNeg)) (xs (nI i + 2).toNatClampNeg)) f no O tf9 tv9 fw it9 ch9 _ _ _ _ _ _ _ hd hI2 hfw mU_self ((mU_ne (by decide)).trans h200) hO hS (lv_sub hl [2, 3, 4, 5, 6] rfl) (by omega) (by omega)
  · obtain ⟨ha1, hR1⟩ := Prod.mk.inj hR
    rw [ha1, hR1, WC_WM] at hO
    have hI2 := hI.up
    refine lv_istore (lv' := [(5, .int (K_hang nf F (xs (nI i + 1).toNatClampNeg) (xs (nI i + 2).toNatClampNeg))), (0, .ref b), (1, .ref (ad 0)), (2, .ref (ad 50)), (3, .ref (ad 60)), (4, .int (nI i))]) hx hb dL_law_397 hl (by decide) rfl (fun ls hl => ?_)
    refine lv_aload_n hx hb dL_law_399 rfl (lv_at hl 3 rfl) ?_
    refine lv_aload_n hx hb dL_law_400 rfl (lv_at hl 1 rfl) ?_
    refine lv_iload hx hb dL_law_401 (lv_at hl 5 rfl) ?_
    refine lv_iconst (v := 1) hx hb dL_law_403 (by decide) ?_
    refine lv_iadd hx hb dL_law_404 ?_
    refine va_sld (s := s.setDrawn d) (A := mA s.heap.size) (i := nI i + 1) hx hb X.hX X.hbl hbA hS (by rw [show (1 : Int32) = nI 1 from rfl, nI_add]; exact vp_in_nI (by omega) (by omega)) dL_law_405 ?_
    refine lv_aload_n hx hb dL_law_406 rfl (lv_at hl 1 rfl) ?_
    refine lv_iload hx hb dL_law_407 (lv_at hl 5 rfl) ?_
    refine lv_iconst (v := 2) hx hb dL_law_409 (by decide) ?_
    refine lv_iadd hx hb dL_law_410 ?_
    refine va_sld (s := s.setDrawn d) (A := mA s.heap.size) (i := nI i + 2) hx hb X.hX X.hbl hbA hS (by rw [show (2 : Int32) = nI 2 from rfl, nI_add]; exact vp_in_nI (by omega) (by omega)) dL_law_411 ?_
    refine m_vI (As := [.int (xs (nI i + 1).toNatClampNeg), .int (xs (nI i + 2).toNatClampNeg)]) (rest := []) (n := 2) hF hC hO hS (k_X6_hang l G _ sa ad _ th g nf F f no O it ch (xs (nI i + 1).toNatClampNeg) (xs (nI i + 2).toNatClampNeg) hnf hno ) ok_X6_hang q_740 rfl rfl ⟨Nat.le_of_ble_eq_true rfl, Nat.le_of_ble_eq_true rfl⟩ rfl hl.1 rfl (Nat.le_of_ble_eq_true rfl) ⟨(by show _ ≤ 616075; omega), (by show _ ≤ 7247878; omega)⟩ dL_law_412 (fun v2 R2 H locs hp2 hO hS => ?_)
    obtain ⟨-, it9, ch9, hR2⟩ := hp2.resolve_left (fun z => hK z.1)
    rw [hR2] at hO
    refine lv_istore (lv' := [(6, .int v2), (5, .int (K_hang nf F (xs (nI i + 1).toNatClampNeg) (xs (nI i + 2).toNatClampNeg))), (0, .ref b), (1, .ref (ad 0)), (2, .ref (ad 50)), (3, .ref (ad 60)), (4, .int (nI i))]) hx hb dL_law_415 hl (by decide) rfl (fun ls hl => ?_)
    refine lv_aload_n hx hb dL_law_417 rfl (lv_at hl 4 rfl) ?_
    refine m_vI (As := []) (rest := []) (n := 0) hF hC hO hS (k_X6_thrown l G _ sa ad _ (K_hang nf F (xs (nI i + 1).toNatClampNeg) (xs (nI i + 2).toNatClampNeg)) g nf F f no O it9 ch9 hI2.1 hI2.2.1) ok_X6_thrown q_706 rfl rfl ⟨Nat.le_of_ble_eq_true rfl, Nat.le_of_ble_eq_true rfl⟩ rfl hl.1 rfl (Nat.le_of_ble_eq_true rfl) ⟨(by show _ ≤ 616075; omega), (by show _ ≤ 7247878; omega)⟩ dL_law_418 (fun v3 R3 H locs hp3 hO hS => ?_)
    obtain ⟨rfl, hR3⟩ := hp3
    rw [hR3] at hO
    refine lv_iload hx hb dL_law_421 (lv_at hl 1 rfl) ?_
    refine lv_icmp_eq (tgt := 428) hx hb dL_law_423 (by decide) (fun c423 => ?_) (fun c423 => absurd (rfl) c423)
    refine lv_iload hx hb dL_law_428 (lv_at hl 1 rfl) ?_
    refine lv_if_ne (tgt := 445) hx hb dL_law_430 (by decide) (fun c430 => ?_) (fun c430 => absurd c430 (hK))
    refine lv_goto (tgt := 1433) hx hb dL_law_445 (by decide) ?_
    exact hN d ad (K_hang nf F (xs (nI i + 1).toNatClampNeg) (xs (nI i + 2).toNatClampNeg)) g nf F f no O tf tv fw it9 ch9 o _ _ _ _ _ _ hd hI2 hfw h60 h200 hO hS (lv_sub hl [2, 3, 4, 5, 6] rfl) (by omega) (by omega)
set_option maxHeartbeats 1000000 in
set_option maxRecDepth 100000 in
theorem case_layAside {p : Program} {l : Launch} {e : Env} {s : State} {m : MethodId} {below : List Frame} {meth : Method} {c : Code} {b L : Nat} {xs : Nat → Int32} {G : mG} {sa : Nat → Nat} (X : LwX p l s m meth c b L xs G sa) {i q : Nat} (hq : q < 512) (hi5 : i + 5 ≤ L) (hN : LAt p l e s m below meth c b G 1433 i (q + 1)) : LAt p l e s m below meth c b G 448 i q := by
  intro d ad th g nf F f no O tf tv fw it ch o Ro H locs ls cells slots hd hI hfw h60 h200 hO hS hl hc9 hs9
  have hF := X.hF d
  have hC := X.hC d
  have hx := hF.1
  have hb := hF.2.1
  have hbA : ¬ mA s.heap.size b := Nat.not_le.mpr X.hbl
  have hnf := hI.1
  have hno := hI.2.1
  have hL9 := X.hL
  rw [← WC_WM] at hO
  have hl : lv_has ls 9 [(0, .ref b), (1, .ref (ad 0)), (2, .ref (ad 50)), (3, .ref (ad 60)), (4, .int (nI i))] := hl
  refine lv_aload_n hx hb dL_law_448 rfl (lv_at hl 1 rfl) ?_
  refine lv_aload_n hx hb dL_law_449 rfl (lv_at hl 0 rfl) ?_
  refine lv_iload hx hb dL_law_450 (lv_at hl 4 rfl) ?_
  refine lv_iconst (v := 1) hx hb dL_law_452 (by decide) ?_
  refine lv_iadd hx hb dL_law_453 ?_
  refine va_sld (s := s.setDrawn d) (A := mA s.heap.size) (i := nI i + 1) hx hb X.hX X.hbl hbA hS (by rw [show (1 : Int32) = nI 1 from rfl, nI_add]; exact vp_in_nI (by omega) (by omega)) dL_law_454 ?_
  refine lv_aload_n hx hb dL_law_455 rfl (lv_at hl 3 rfl) ?_
  refine m_sW (As := [.ref (ad 0), .int (xs (nI i + 1).toNatClampNeg), .ref (ad 60)]) (rest := []) (n := 3) hF hC hO hS (k_L_layAside l G _ sa ad _ g nf F f no O tf tv fw o (xs (nI i + 1).toNatClampNeg) hnf hno X.hfl (WM_at (by decide) h60) ) ok_L_layAside (by decide +kernel) q_433 ⟨Nat.le_of_ble_eq_true rfl, Nat.le_of_ble_eq_true rfl⟩ rfl hl.1 rfl (Nat.le_of_ble_eq_true rfl) ⟨(by show _ ≤ 616075; omega), (by show _ ≤ 7247878; omega)⟩ dL_law_456 (fun v1 ad1 R1 H locs hp hO hS => ?_)
  dsimp only at hp
  obtain ⟨hK, rfl, had, tf9, tv9, hR⟩ | ⟨hK, rfl, hR⟩ := hp
  · rw [hR, WM_ad (ad := ad) (ad1 := ad1) (fun x h1 h2 => had x (by omega)), WM_b, WC_WM] at hO
    rw [had 0 (by decide), had 50 (by decide), had 60 (by decide)] at hl
    have hI2 : Inv (q + 1) g nf (F_place F (nn (xs (nI i + 1).toNatClampNeg)) (-1)) f no O := s_layAside hI hK
    refine lv_istore (lv' := [(5, .int 0), (0, .ref b), (1, .ref (ad1 0)), (2, .ref (ad1 50)), (3, .ref (ad1 60)), (4, .int (nI i))]) hx hb dL_law_459 hl (by decide) rfl (fun ls hl => ?_)
    refine lv_aload_n hx hb dL_law_461 rfl (lv_at hl 3 rfl) ?_
    refine lv_aload_n hx hb dL_law_462 rfl (lv_at hl 1 rfl) ?_
    refine lv_iload hx hb dL_law_463 (lv_at hl 5 rfl) ?_
    refine lv_iconst (v := 1) hx hb dL_law_465 (by decide) ?_
    refine lv_iadd hx hb dL_law_466 ?_
    refine va_sld (s := s.setDrawn d) (A := mA s.heap.size) (i := nI i + 1) hx hb X.hX X.hbl hbA hS (by rw [show (1 : Int32) = nI 1 from rfl, nI_add]; exact vp_in_nI (by omega) (by omega)) dL_law_467 ?_
    refine m_vI (As := [.int (xs (nI i + 1).toNatClampNeg)]) (rest := []) (n := 1) hF hC hO hS (k_X6_layAside l G _ sa ad1 _ th g nf F f no O it ch (xs (nI i + 1).toNatClampNeg) hnf hno ) ok_X6_layAside q_760 rfl rfl ⟨Nat.le_of_ble_eq_true rfl, Nat.le_of_ble_eq_true rfl⟩ rfl hl.1 rfl (Nat.le_of_ble_eq_true rfl) ⟨(by show _ ≤ 616075; omega), (by show _ ≤ 7247878; omega)⟩ dL_law_468 (fun v2 R2 H locs hp2 hO hS => ?_)
    obtain ⟨-, rfl, it9, ch9, hR2⟩ := hp2.resolve_right (fun z => z.1 hK)
    rw [hR2] at hO
    refine lv_istore (lv' := [(6, .int (F (nn (xs (nI i + 1).toNatClampNeg)) 5)), (5, .int 0), (0, .ref b), (1, .ref (ad1 0)), (2, .ref (ad1 50)), (3, .ref (ad1 60)), (4, .int (nI i))]) hx hb dL_law_471 hl (by decide) rfl (fun ls hl => ?_)
    refine lv_aload_n hx hb dL_law_473 rfl (lv_at hl 4 rfl) ?_
    refine m_vI (As := []) (rest := []) (n := 0) hF hC hO hS (k_X6_thrown l G _ sa ad1 _ 0 g nf (F_place F (nn (xs (nI i + 1).toNatClampNeg)) (-1)) f no O it9 ch9 hI2.1 hI2.2.1) ok_X6_thrown q_706 rfl rfl ⟨Nat.le_of_ble_eq_true rfl, Nat.le_of_ble_eq_true rfl⟩ rfl hl.1 rfl (Nat.le_of_ble_eq_true rfl) ⟨(by show _ ≤ 616075; omega), (by show _ ≤ 7247878; omega)⟩ dL_law_474 (fun v3 R3 H locs hp3 hO hS => ?_)
    obtain ⟨rfl, hR3⟩ := hp3
    rw [hR3] at hO
    refine lv_iload hx hb dL_law_477 (lv_at hl 1 rfl) ?_
    refine lv_icmp_eq (tgt := 484) hx hb dL_law_479 (by decide) (fun c479 => ?_) (fun c479 => absurd (by decide) c479)
    refine lv_iload hx hb dL_law_484 (lv_at hl 1 rfl) ?_
    refine lv_if_ne (tgt := 501) hx hb dL_law_486 (by decide) (fun c486 => absurd (by decide) c486) (fun c486 => ?_)
    refine lv_aload_n hx hb dL_law_489 rfl (lv_at hl 5 rfl) ?_
    refine lv_iconst (v := 0) hx hb dL_law_490 (by decide) ?_
    refine m_lald hF hC hO (WM_at (by decide) (WC_at (by decide) mU_self)) (j := 0) (by decide) (vp_in_nI (n := 0) (by decide) (by decide)) dL_law_491 ?_
    rw [vpL]
    refine lv_iload hx hb dL_law_492 (lv_at hl 0 rfl) ?_
    refine lv_i2l (v := ((F (nn (xs (nI i + 1).toNatClampNeg)) 5).toInt64)) hx hb dL_law_494 rfl ?_
    refine W.lcmp hx hb dL_law_495 ?_
    refine lv_if_eq (tgt := 501) hx hb dL_law_496 (by decide) (fun c496 => ?_) (fun c496 => absurd (lg_self _) c496)
    refine lv_goto (tgt := 1433) hx hb dL_law_501 (by decide) ?_
    exact hN d ad1 0 g nf (F_place F (nn (xs (nI i + 1).toNatClampNeg)) (-1)) f no O tf9 tv9 fw it9 ch9 _ _ _ _ _ _ _ hd hI2 hfw mU_self ((mU_ne (by decide)).trans h200) hO hS (lv_sub hl [2, 3, 4, 5, 6] rfl) (by omega) (by omega)
  · obtain ⟨ha1, hR1⟩ := Prod.mk.inj hR
    rw [ha1, hR1, WC_WM] at hO
    have hI2 := hI.up
    refine lv_istore (lv' := [(5, .int (K_layAside nf F (xs (nI i + 1).toNatClampNeg))), (0, .ref b), (1, .ref (ad 0)), (2, .ref (ad 50)), (3, .ref (ad 60)), (4, .int (nI i))]) hx hb dL_law_459 hl (by decide) rfl (fun ls hl => ?_)
    refine lv_aload_n hx hb dL_law_461 rfl (lv_at hl 3 rfl) ?_
    refine lv_aload_n hx hb dL_law_462 rfl (lv_at hl 1 rfl) ?_
    refine lv_iload hx hb dL_law_463 (lv_at hl 5 rfl) ?_
    refine lv_iconst (v := 1) hx hb dL_law_465 (by decide) ?_
    refine lv_iadd hx hb dL_law_466 ?_
    refine va_sld (s := s.setDrawn d) (A := mA s.heap.size) (i := nI i + 1) hx hb X.hX X.hbl hbA hS (by rw [show (1 : Int32) = nI 1 from rfl, nI_add]; exact vp_in_nI (by omega) (by omega)) dL_law_467 ?_
    refine m_vI (As := [.int (xs (nI i + 1).toNatClampNeg)]) (rest := []) (n := 1) hF hC hO hS (k_X6_layAside l G _ sa ad _ th g nf F f no O it ch (xs (nI i + 1).toNatClampNeg) hnf hno ) ok_X6_layAside q_760 rfl rfl ⟨Nat.le_of_ble_eq_true rfl, Nat.le_of_ble_eq_true rfl⟩ rfl hl.1 rfl (Nat.le_of_ble_eq_true rfl) ⟨(by show _ ≤ 616075; omega), (by show _ ≤ 7247878; omega)⟩ dL_law_468 (fun v2 R2 H locs hp2 hO hS => ?_)
    obtain ⟨-, it9, ch9, hR2⟩ := hp2.resolve_left (fun z => hK z.1)
    rw [hR2] at hO
    refine lv_istore (lv' := [(6, .int v2), (5, .int (K_layAside nf F (xs (nI i + 1).toNatClampNeg))), (0, .ref b), (1, .ref (ad 0)), (2, .ref (ad 50)), (3, .ref (ad 60)), (4, .int (nI i))]) hx hb dL_law_471 hl (by decide) rfl (fun ls hl => ?_)
    refine lv_aload_n hx hb dL_law_473 rfl (lv_at hl 4 rfl) ?_
    refine m_vI (As := []) (rest := []) (n := 0) hF hC hO hS (k_X6_thrown l G _ sa ad _ (K_layAside nf F (xs (nI i + 1).toNatClampNeg)) g nf F f no O it9 ch9 hI2.1 hI2.2.1) ok_X6_thrown q_706 rfl rfl ⟨Nat.le_of_ble_eq_true rfl, Nat.le_of_ble_eq_true rfl⟩ rfl hl.1 rfl (Nat.le_of_ble_eq_true rfl) ⟨(by show _ ≤ 616075; omega), (by show _ ≤ 7247878; omega)⟩ dL_law_474 (fun v3 R3 H locs hp3 hO hS => ?_)
    obtain ⟨rfl, hR3⟩ := hp3
    rw [hR3] at hO
    refine lv_iload hx hb dL_law_477 (lv_at hl 1 rfl) ?_
    refine lv_icmp_eq (tgt := 484) hx hb dL_law_479 (by decide) (fun c479 => ?_) (fun c479 => absurd (rfl) c479)
    refine lv_iload hx hb dL_law_484 (lv_at hl 1 rfl) ?_
    refine lv_if_ne (tgt := 501) hx hb dL_law_486 (by decide) (fun c486 => ?_) (fun c486 => absurd c486 (hK))
    refine lv_goto (tgt := 1433) hx hb dL_law_501 (by decide) ?_
    exact hN d ad (K_layAside nf F (xs (nI i + 1).toNatClampNeg)) g nf F f no O tf tv fw it9 ch9 o _ _ _ _ _ _ hd hI2 hfw h60 h200 hO hS (lv_sub hl [2, 3, 4, 5, 6] rfl) (by omega) (by omega)
set_option maxHeartbeats 1000000 in
set_option maxRecDepth 100000 in
theorem case_dip {p : Program} {l : Launch} {e : Env} {s : State} {m : MethodId} {below : List Frame} {meth : Method} {c : Code} {b L : Nat} {xs : Nat → Int32} {G : mG} {sa : Nat → Nat} (X : LwX p l s m meth c b L xs G sa) {i q : Nat} (hq : q < 512) (hi5 : i + 5 ≤ L) (hN : LAt p l e s m below meth c b G 1433 i (q + 1)) : LAt p l e s m below meth c b G 504 i q := by
  intro d ad th g nf F f no O tf tv fw it ch o Ro H locs ls cells slots hd hI hfw h60 h200 hO hS hl hc9 hs9
  have hF := X.hF d
  have hC := X.hC d
  have hx := hF.1
  have hb := hF.2.1
  have hbA : ¬ mA s.heap.size b := Nat.not_le.mpr X.hbl
  have hnf := hI.1
  have hno := hI.2.1
  have hL9 := X.hL
  rw [← WC_WM] at hO
  have hl : lv_has ls 9 [(0, .ref b), (1, .ref (ad 0)), (2, .ref (ad 50)), (3, .ref (ad 60)), (4, .int (nI i))] := hl
  refine lv_aload_n hx hb dL_law_504 rfl (lv_at hl 1 rfl) ?_
  refine lv_aload_n hx hb dL_law_505 rfl (lv_at hl 0 rfl) ?_
  refine lv_iload hx hb dL_law_506 (lv_at hl 4 rfl) ?_
  refine lv_iconst (v := 1) hx hb dL_law_508 (by decide) ?_
  refine lv_iadd hx hb dL_law_509 ?_
  refine va_sld (s := s.setDrawn d) (A := mA s.heap.size) (i := nI i + 1) hx hb X.hX X.hbl hbA hS (by rw [show (1 : Int32) = nI 1 from rfl, nI_add]; exact vp_in_nI (by omega) (by omega)) dL_law_510 ?_
  refine lv_aload_n hx hb dL_law_511 rfl (lv_at hl 3 rfl) ?_
  refine m_sW (As := [.ref (ad 0), .int (xs (nI i + 1).toNatClampNeg), .ref (ad 60)]) (rest := []) (n := 3) hF hC hO hS (k_L_dip l G _ sa ad _ g nf F f no O tf tv fw o (xs (nI i + 1).toNatClampNeg) hnf hno X.hfl (WM_at (by decide) h60) (by obtain ⟨_, _, n9, hn9, e9⟩ := hI.2.2.1; exact ⟨n9, by omega, e9⟩)) ok_L_dip (by decide +kernel) q_441 ⟨Nat.le_of_ble_eq_true rfl, Nat.le_of_ble_eq_true rfl⟩ rfl hl.1 rfl (Nat.le_of_ble_eq_true rfl) ⟨(by show _ ≤ 616075; omega), (by show _ ≤ 7247878; omega)⟩ dL_law_512 (fun v1 ad1 R1 H locs hp hO hS => ?_)
  dsimp only at hp
  obtain ⟨hK, rfl, had, tf9, tv9, hR⟩ | ⟨hK, rfl, hR⟩ := hp
  · rw [hR, WM_ad (ad := ad) (ad1 := ad1) (fun x h1 h2 => had x (by omega)), WM_b, WC_WM] at hO
    rw [had 0 (by decide), had 50 (by decide), had 60 (by decide)] at hl
    obtain ⟨eV, eG, eF, eO, hI2⟩ := s_dip hI hK
    have hKr : K_dip g nf F (xs (nI i + 1).toNatClampNeg) = 0 := (s_Kdip hI).symm.trans hK
    rw [eV, eG, eF, eO] at hO
    refine lv_istore (lv' := [(5, .int 0), (0, .ref b), (1, .ref (ad1 0)), (2, .ref (ad1 50)), (3, .ref (ad1 60)), (4, .int (nI i))]) hx hb dL_law_515 hl (by decide) rfl (fun ls hl => ?_)
    refine lv_aload_n hx hb dL_law_517 rfl (lv_at hl 3 rfl) ?_
    refine lv_aload_n hx hb dL_law_518 rfl (lv_at hl 1 rfl) ?_
    refine lv_iload hx hb dL_law_519 (lv_at hl 5 rfl) ?_
    refine lv_iconst (v := 1) hx hb dL_law_521 (by decide) ?_
    refine lv_iadd hx hb dL_law_522 ?_
    refine va_sld (s := s.setDrawn d) (A := mA s.heap.size) (i := nI i + 1) hx hb X.hX X.hbl hbA hS (by rw [show (1 : Int32) = nI 1 from rfl, nI_add]; exact vp_in_nI (by omega) (by omega)) dL_law_523 ?_
    refine m_vI (As := [.int (xs (nI i + 1).toNatClampNeg)]) (rest := []) (n := 1) hF hC hO hS (k_X6_dip l G _ sa ad1 _ th g nf F f no O it ch (xs (nI i + 1).toNatClampNeg) hnf hno ) ok_X6_dip q_764 rfl rfl ⟨Nat.le_of_ble_eq_true rfl, Nat.le_of_ble_eq_true rfl⟩ rfl hl.1 rfl (Nat.le_of_ble_eq_true rfl) ⟨(by show _ ≤ 616075; omega), (by show _ ≤ 7247878; omega)⟩ dL_law_524 (fun v2 R2 H locs hp2 hO hS => ?_)
    obtain ⟨-, rfl, it9, ch9, hR2⟩ := hp2.resolve_right (fun z => z.1 hKr)
    rw [hR2] at hO
    refine lv_istore (lv' := [(6, .int (F_dip g nf F (nn (xs (nI i + 1).toNatClampNeg)) (nn (xs (nI i + 1).toNatClampNeg)) 2)), (5, .int 0), (0, .ref b), (1, .ref (ad1 0)), (2, .ref (ad1 50)), (3, .ref (ad1 60)), (4, .int (nI i))]) hx hb dL_law_527 hl (by decide) rfl (fun ls hl => ?_)
    refine lv_aload_n hx hb dL_law_529 rfl (lv_at hl 4 rfl) ?_
    refine m_vI (As := []) (rest := []) (n := 0) hF hC hO hS (k_X6_thrown l G _ sa ad1 _ 0 (G_dip g F (nn (xs (nI i + 1).toNatClampNeg))) nf (F_dip g nf F (nn (xs (nI i + 1).toNatClampNeg))) f no (O_dip g F no O (nn (xs (nI i + 1).toNatClampNeg))) it9 ch9 hI2.1 hI2.2.1) ok_X6_thrown q_706 rfl rfl ⟨Nat.le_of_ble_eq_true rfl, Nat.le_of_ble_eq_true rfl⟩ rfl hl.1 rfl (Nat.le_of_ble_eq_true rfl) ⟨(by show _ ≤ 616075; omega), (by show _ ≤ 7247878; omega)⟩ dL_law_530 (fun v3 R3 H locs hp3 hO hS => ?_)
    obtain ⟨rfl, hR3⟩ := hp3
    rw [hR3] at hO
    refine lv_iload hx hb dL_law_533 (lv_at hl 1 rfl) ?_
    refine lv_icmp_eq (tgt := 540) hx hb dL_law_535 (by decide) (fun c535 => ?_) (fun c535 => absurd (by decide) c535)
    refine lv_iload hx hb dL_law_540 (lv_at hl 1 rfl) ?_
    refine lv_if_ne (tgt := 557) hx hb dL_law_542 (by decide) (fun c542 => absurd (by decide) c542) (fun c542 => ?_)
    refine lv_aload_n hx hb dL_law_545 rfl (lv_at hl 5 rfl) ?_
    refine lv_iconst (v := 0) hx hb dL_law_546 (by decide) ?_
    refine m_lald hF hC hO (WM_at (by decide) (WC_at (by decide) mU_self)) (j := 0) (by decide) (vp_in_nI (n := 0) (by decide) (by decide)) dL_law_547 ?_
    rw [vpL]
    refine lv_iload hx hb dL_law_548 (lv_at hl 0 rfl) ?_
    refine lv_i2l (v := ((F_dip g nf F (nn (xs (nI i + 1).toNatClampNeg)) (nn (xs (nI i + 1).toNatClampNeg)) 2).toInt64)) hx hb dL_law_550 rfl ?_
    refine W.lcmp hx hb dL_law_551 ?_
    refine lv_if_eq (tgt := 557) hx hb dL_law_552 (by decide) (fun c552 => ?_) (fun c552 => absurd (lg_self _) c552)
    refine lv_goto (tgt := 1433) hx hb dL_law_557 (by decide) ?_
    exact hN d ad1 0 (G_dip g F (nn (xs (nI i + 1).toNatClampNeg))) nf (F_dip g nf F (nn (xs (nI i + 1).toNatClampNeg))) f no (O_dip g F no O (nn (xs (nI i + 1).toNatClampNeg))) tf9 tv9 fw it9 ch9 _ _ _ _ _ _ _ hd hI2 hfw mU_self ((mU_ne (by decide)).trans h200) hO hS (lv_sub hl [2, 3, 4, 5, 6] rfl) (by omega) (by omega)
  · obtain ⟨ha1, hR1⟩ := Prod.mk.inj hR
    rw [ha1, hR1, WC_WM] at hO
    have hI2 := hI.up
    have hKe : (KC_dip g nf F (xs (nI i + 1).toNatClampNeg)) = (K_dip g nf F (xs (nI i + 1).toNatClampNeg)) := s_Kdip hI
    rw [hKe] at hK
    rw [hKe]
    refine lv_istore (lv' := [(5, .int (K_dip g nf F (xs (nI i + 1).toNatClampNeg))), (0, .ref b), (1, .ref (ad 0)), (2, .ref (ad 50)), (3, .ref (ad 60)), (4, .int (nI i))]) hx hb dL_law_515 hl (by decide) rfl (fun ls hl => ?_)
    refine lv_aload_n hx hb dL_law_517 rfl (lv_at hl 3 rfl) ?_
    refine lv_aload_n hx hb dL_law_518 rfl (lv_at hl 1 rfl) ?_
    refine lv_iload hx hb dL_law_519 (lv_at hl 5 rfl) ?_
    refine lv_iconst (v := 1) hx hb dL_law_521 (by decide) ?_
    refine lv_iadd hx hb dL_law_522 ?_
    refine va_sld (s := s.setDrawn d) (A := mA s.heap.size) (i := nI i + 1) hx hb X.hX X.hbl hbA hS (by rw [show (1 : Int32) = nI 1 from rfl, nI_add]; exact vp_in_nI (by omega) (by omega)) dL_law_523 ?_
    refine m_vI (As := [.int (xs (nI i + 1).toNatClampNeg)]) (rest := []) (n := 1) hF hC hO hS (k_X6_dip l G _ sa ad _ th g nf F f no O it ch (xs (nI i + 1).toNatClampNeg) hnf hno ) ok_X6_dip q_764 rfl rfl ⟨Nat.le_of_ble_eq_true rfl, Nat.le_of_ble_eq_true rfl⟩ rfl hl.1 rfl (Nat.le_of_ble_eq_true rfl) ⟨(by show _ ≤ 616075; omega), (by show _ ≤ 7247878; omega)⟩ dL_law_524 (fun v2 R2 H locs hp2 hO hS => ?_)
    obtain ⟨-, it9, ch9, hR2⟩ := hp2.resolve_left (fun z => hK z.1)
    rw [hR2] at hO
    refine lv_istore (lv' := [(6, .int v2), (5, .int (K_dip g nf F (xs (nI i + 1).toNatClampNeg))), (0, .ref b), (1, .ref (ad 0)), (2, .ref (ad 50)), (3, .ref (ad 60)), (4, .int (nI i))]) hx hb dL_law_527 hl (by decide) rfl (fun ls hl => ?_)
    refine lv_aload_n hx hb dL_law_529 rfl (lv_at hl 4 rfl) ?_
    refine m_vI (As := []) (rest := []) (n := 0) hF hC hO hS (k_X6_thrown l G _ sa ad _ (K_dip g nf F (xs (nI i + 1).toNatClampNeg)) g nf F f no O it9 ch9 hI2.1 hI2.2.1) ok_X6_thrown q_706 rfl rfl ⟨Nat.le_of_ble_eq_true rfl, Nat.le_of_ble_eq_true rfl⟩ rfl hl.1 rfl (Nat.le_of_ble_eq_true rfl) ⟨(by show _ ≤ 616075; omega), (by show _ ≤ 7247878; omega)⟩ dL_law_530 (fun v3 R3 H locs hp3 hO hS => ?_)
    obtain ⟨rfl, hR3⟩ := hp3
    rw [hR3] at hO
    refine lv_iload hx hb dL_law_533 (lv_at hl 1 rfl) ?_
    refine lv_icmp_eq (tgt := 540) hx hb dL_law_535 (by decide) (fun c535 => ?_) (fun c535 => absurd (rfl) c535)
    refine lv_iload hx hb dL_law_540 (lv_at hl 1 rfl) ?_
    refine lv_if_ne (tgt := 557) hx hb dL_law_542 (by decide) (fun c542 => ?_) (fun c542 => absurd c542 (hK))
    refine lv_goto (tgt := 1433) hx hb dL_law_557 (by decide) ?_
    exact hN d ad (K_dip g nf F (xs (nI i + 1).toNatClampNeg)) g nf F f no O tf tv fw it9 ch9 o _ _ _ _ _ _ hd hI2 hfw h60 h200 hO hS (lv_sub hl [2, 3, 4, 5, 6] rfl) (by omega) (by omega)
set_option maxHeartbeats 1000000 in
set_option maxRecDepth 100000 in
theorem case_cutOff {p : Program} {l : Launch} {e : Env} {s : State} {m : MethodId} {below : List Frame} {meth : Method} {c : Code} {b L : Nat} {xs : Nat → Int32} {G : mG} {sa : Nat → Nat} (X : LwX p l s m meth c b L xs G sa) {i q : Nat} (hq : q < 512) (hi5 : i + 5 ≤ L) (hN : LAt p l e s m below meth c b G 1433 i (q + 1)) : LAt p l e s m below meth c b G 560 i q := by
  intro d ad th g nf F f no O tf tv fw it ch o Ro H locs ls cells slots hd hI hfw h60 h200 hO hS hl hc9 hs9
  have hF := X.hF d
  have hC := X.hC d
  have hx := hF.1
  have hb := hF.2.1
  have hbA : ¬ mA s.heap.size b := Nat.not_le.mpr X.hbl
  have hnf := hI.1
  have hno := hI.2.1
  have hL9 := X.hL
  rw [← WC_WM] at hO
  have hl : lv_has ls 9 [(0, .ref b), (1, .ref (ad 0)), (2, .ref (ad 50)), (3, .ref (ad 60)), (4, .int (nI i))] := hl
  refine lv_aload_n hx hb dL_law_560 rfl (lv_at hl 1 rfl) ?_
  refine lv_aload_n hx hb dL_law_561 rfl (lv_at hl 0 rfl) ?_
  refine lv_iload hx hb dL_law_562 (lv_at hl 4 rfl) ?_
  refine lv_iconst (v := 1) hx hb dL_law_564 (by decide) ?_
  refine lv_iadd hx hb dL_law_565 ?_
  refine va_sld (s := s.setDrawn d) (A := mA s.heap.size) (i := nI i + 1) hx hb X.hX X.hbl hbA hS (by rw [show (1 : Int32) = nI 1 from rfl, nI_add]; exact vp_in_nI (by omega) (by omega)) dL_law_566 ?_
  refine lv_aload_n hx hb dL_law_567 rfl (lv_at hl 3 rfl) ?_
  refine m_sW (As := [.ref (ad 0), .int (xs (nI i + 1).toNatClampNeg), .ref (ad 60)]) (rest := []) (n := 3) hF hC hO hS (k_L_cutOff l G _ sa ad _ g nf F f no O tf tv fw o (xs (nI i + 1).toNatClampNeg) hnf hno X.hfl (WM_at (by decide) h60) (fun i hi => ⟨by obtain ⟨⟨k, w, hk, _, _, e0, _⟩, _⟩ := hI.2.2.2.1 i hi; exact ⟨k, hk, e0⟩, (frI_size (hI.2.2.2.1 i hi)).2⟩)) ok_L_cutOff (by decide +kernel) q_486 ⟨Nat.le_of_ble_eq_true rfl, Nat.le_of_ble_eq_true rfl⟩ rfl hl.1 rfl (Nat.le_of_ble_eq_true rfl) ⟨(by show _ ≤ 616075; omega), (by show _ ≤ 7247878; omega)⟩ dL_law_568 (fun v1 ad1 R1 H locs hp hO hS => ?_)
  dsimp only at hp
  obtain ⟨hK, rfl, had, tf9, tv9, hR⟩ | ⟨hK, rfl, hR⟩ := hp
  · rw [hR, WM_ad (ad := ad) (ad1 := ad1) (fun x h1 h2 => had x (by omega)), WM_b, WC_WM] at hO
    rw [had 0 (by decide), had 50 (by decide), had 60 (by decide)] at hl
    obtain ⟨eV, eG, eF, hI2⟩ := s_cutOff hI hK
    rw [eV, eG, eF] at hO
    refine lv_istore (lv' := [(5, .int 0), (0, .ref b), (1, .ref (ad1 0)), (2, .ref (ad1 50)), (3, .ref (ad1 60)), (4, .int (nI i))]) hx hb dL_law_571 hl (by decide) rfl (fun ls hl => ?_)
    refine lv_aload_n hx hb dL_law_573 rfl (lv_at hl 3 rfl) ?_
    refine lv_aload_n hx hb dL_law_574 rfl (lv_at hl 1 rfl) ?_
    refine lv_iload hx hb dL_law_575 (lv_at hl 5 rfl) ?_
    refine lv_iconst (v := 1) hx hb dL_law_577 (by decide) ?_
    refine lv_iadd hx hb dL_law_578 ?_
    refine va_sld (s := s.setDrawn d) (A := mA s.heap.size) (i := nI i + 1) hx hb X.hX X.hbl hbA hS (by rw [show (1 : Int32) = nI 1 from rfl, nI_add]; exact vp_in_nI (by omega) (by omega)) dL_law_579 ?_
    refine m_vI (As := [.int (xs (nI i + 1).toNatClampNeg)]) (rest := []) (n := 1) hF hC hO hS (k_X6_cutOff l G _ sa ad1 _ th g nf F f no O it ch (xs (nI i + 1).toNatClampNeg) hnf hno (fun i hi => by obtain ⟨⟨k, w, hk, _, _, e0, _⟩, _⟩ := hI.2.2.2.1 i hi; exact ⟨k, hk, e0⟩)) ok_X6_cutOff q_810 rfl rfl ⟨Nat.le_of_ble_eq_true rfl, Nat.le_of_ble_eq_true rfl⟩ rfl hl.1 rfl (Nat.le_of_ble_eq_true rfl) ⟨(by show _ ≤ 616075; omega), (by show _ ≤ 7247878; omega)⟩ dL_law_580 (fun v2 R2 H locs hp2 hO hS => ?_)
    obtain ⟨-, rfl, it9, ch9, hR2⟩ := hp2.resolve_right (fun z => z.1 hK)
    rw [hR2] at hO
    refine lv_istore (lv' := [(6, .int (S_cut (F (nn (xs (nI i + 1).toNatClampNeg))))), (5, .int 0), (0, .ref b), (1, .ref (ad1 0)), (2, .ref (ad1 50)), (3, .ref (ad1 60)), (4, .int (nI i))]) hx hb dL_law_583 hl (by decide) rfl (fun ls hl => ?_)
    refine lv_aload_n hx hb dL_law_585 rfl (lv_at hl 4 rfl) ?_
    refine m_vI (As := []) (rest := []) (n := 0) hF hC hO hS (k_X6_thrown l G _ sa ad1 _ 0 (G_cut g (F (nn (xs (nI i + 1).toNatClampNeg)))) nf (va_up F (nn (xs (nI i + 1).toNatClampNeg)) (p_renewF (F (nn (xs (nI i + 1).toNatClampNeg))))) (f_cut f (F (nn (xs (nI i + 1).toNatClampNeg)))) no O it9 ch9 hI2.1 hI2.2.1) ok_X6_thrown q_706 rfl rfl ⟨Nat.le_of_ble_eq_true rfl, Nat.le_of_ble_eq_true rfl⟩ rfl hl.1 rfl (Nat.le_of_ble_eq_true rfl) ⟨(by show _ ≤ 616075; omega), (by show _ ≤ 7247878; omega)⟩ dL_law_586 (fun v3 R3 H locs hp3 hO hS => ?_)
    obtain ⟨rfl, hR3⟩ := hp3
    rw [hR3] at hO
    refine lv_iload hx hb dL_law_589 (lv_at hl 1 rfl) ?_
    refine lv_icmp_eq (tgt := 596) hx hb dL_law_591 (by decide) (fun c591 => ?_) (fun c591 => absurd (by decide) c591)
    refine lv_iload hx hb dL_law_596 (lv_at hl 1 rfl) ?_
    refine lv_if_ne (tgt := 613) hx hb dL_law_598 (by decide) (fun c598 => absurd (by decide) c598) (fun c598 => ?_)
    refine lv_aload_n hx hb dL_law_601 rfl (lv_at hl 5 rfl) ?_
    refine lv_iconst (v := 0) hx hb dL_law_602 (by decide) ?_
    refine m_lald hF hC hO (WM_at (by decide) (WC_at (by decide) mU_self)) (j := 0) (by decide) (vp_in_nI (n := 0) (by decide) (by decide)) dL_law_603 ?_
    rw [vpL]
    refine lv_iload hx hb dL_law_604 (lv_at hl 0 rfl) ?_
    refine lv_i2l (v := ((S_cut (F (nn (xs (nI i + 1).toNatClampNeg)))).toInt64)) hx hb dL_law_606 rfl ?_
    refine W.lcmp hx hb dL_law_607 ?_
    refine lv_if_eq (tgt := 613) hx hb dL_law_608 (by decide) (fun c608 => ?_) (fun c608 => absurd (lg_self _) c608)
    refine lv_goto (tgt := 1433) hx hb dL_law_613 (by decide) ?_
    exact hN d ad1 0 (G_cut g (F (nn (xs (nI i + 1).toNatClampNeg)))) nf (va_up F (nn (xs (nI i + 1).toNatClampNeg)) (p_renewF (F (nn (xs (nI i + 1).toNatClampNeg))))) (f_cut f (F (nn (xs (nI i + 1).toNatClampNeg)))) no O tf9 tv9 fw it9 ch9 _ _ _ _ _ _ _ hd hI2 hfw mU_self ((mU_ne (by decide)).trans h200) hO hS (lv_sub hl [2, 3, 4, 5, 6] rfl) (by omega) (by omega)
  · obtain ⟨ha1, hR1⟩ := Prod.mk.inj hR
    rw [ha1, hR1, WC_WM] at hO
    have hI2 := hI.up
    refine lv_istore (lv' := [(5, .int (K_cutOff nf F (xs (nI i + 1).toNatClampNeg))), (0, .ref b), (1, .ref (ad 0)), (2, .ref (ad 50)), (3, .ref (ad 60)), (4, .int (nI i))]) hx hb dL_law_571 hl (by decide) rfl (fun ls hl => ?_)
    refine lv_aload_n hx hb dL_law_573 rfl (lv_at hl 3 rfl) ?_
    refine lv_aload_n hx hb dL_law_574 rfl (lv_at hl 1 rfl) ?_
    refine lv_iload hx hb dL_law_575 (lv_at hl 5 rfl) ?_
    refine lv_iconst (v := 1) hx hb dL_law_577 (by decide) ?_
    refine lv_iadd hx hb dL_law_578 ?_
    refine va_sld (s := s.setDrawn d) (A := mA s.heap.size) (i := nI i + 1) hx hb X.hX X.hbl hbA hS (by rw [show (1 : Int32) = nI 1 from rfl, nI_add]; exact vp_in_nI (by omega) (by omega)) dL_law_579 ?_
    refine m_vI (As := [.int (xs (nI i + 1).toNatClampNeg)]) (rest := []) (n := 1) hF hC hO hS (k_X6_cutOff l G _ sa ad _ th g nf F f no O it ch (xs (nI i + 1).toNatClampNeg) hnf hno (fun i hi => by obtain ⟨⟨k, w, hk, _, _, e0, _⟩, _⟩ := hI.2.2.2.1 i hi; exact ⟨k, hk, e0⟩)) ok_X6_cutOff q_810 rfl rfl ⟨Nat.le_of_ble_eq_true rfl, Nat.le_of_ble_eq_true rfl⟩ rfl hl.1 rfl (Nat.le_of_ble_eq_true rfl) ⟨(by show _ ≤ 616075; omega), (by show _ ≤ 7247878; omega)⟩ dL_law_580 (fun v2 R2 H locs hp2 hO hS => ?_)
    obtain ⟨-, it9, ch9, hR2⟩ := hp2.resolve_left (fun z => hK z.1)
    rw [hR2] at hO
    refine lv_istore (lv' := [(6, .int v2), (5, .int (K_cutOff nf F (xs (nI i + 1).toNatClampNeg))), (0, .ref b), (1, .ref (ad 0)), (2, .ref (ad 50)), (3, .ref (ad 60)), (4, .int (nI i))]) hx hb dL_law_583 hl (by decide) rfl (fun ls hl => ?_)
    refine lv_aload_n hx hb dL_law_585 rfl (lv_at hl 4 rfl) ?_
    refine m_vI (As := []) (rest := []) (n := 0) hF hC hO hS (k_X6_thrown l G _ sa ad _ (K_cutOff nf F (xs (nI i + 1).toNatClampNeg)) g nf F f no O it9 ch9 hI2.1 hI2.2.1) ok_X6_thrown q_706 rfl rfl ⟨Nat.le_of_ble_eq_true rfl, Nat.le_of_ble_eq_true rfl⟩ rfl hl.1 rfl (Nat.le_of_ble_eq_true rfl) ⟨(by show _ ≤ 616075; omega), (by show _ ≤ 7247878; omega)⟩ dL_law_586 (fun v3 R3 H locs hp3 hO hS => ?_)
    obtain ⟨rfl, hR3⟩ := hp3
    rw [hR3] at hO
    refine lv_iload hx hb dL_law_589 (lv_at hl 1 rfl) ?_
    refine lv_icmp_eq (tgt := 596) hx hb dL_law_591 (by decide) (fun c591 => ?_) (fun c591 => absurd (rfl) c591)
    refine lv_iload hx hb dL_law_596 (lv_at hl 1 rfl) ?_
    refine lv_if_ne (tgt := 613) hx hb dL_law_598 (by decide) (fun c598 => ?_) (fun c598 => absurd c598 (hK))
    refine lv_goto (tgt := 1433) hx hb dL_law_613 (by decide) ?_
    exact hN d ad (K_cutOff nf F (xs (nI i + 1).toNatClampNeg)) g nf F f no O tf tv fw it9 ch9 o _ _ _ _ _ _ hd hI2 hfw h60 h200 hO hS (lv_sub hl [2, 3, 4, 5, 6] rfl) (by omega) (by omega)
set_option maxHeartbeats 1000000 in
set_option maxRecDepth 100000 in
theorem case_frame {p : Program} {l : Launch} {e : Env} {s : State} {m : MethodId} {below : List Frame} {meth : Method} {c : Code} {b L : Nat} {xs : Nat → Int32} {G : mG} {sa : Nat → Nat} (X : LwX p l s m meth c b L xs G sa) {i q : Nat} (hq : q < 512) (hi5 : i + 5 ≤ L) (hN : LAt p l e s m below meth c b G 1433 i (q + 1)) : LAt p l e s m below meth c b G 616 i q := by
  intro d ad th g nf F f no O tf tv fw it ch o Ro H locs ls cells slots hd hI hfw h60 h200 hO hS hl hc9 hs9
  have hF := X.hF d
  have hC := X.hC d
  have hx := hF.1
  have hb := hF.2.1
  have hbA : ¬ mA s.heap.size b := Nat.not_le.mpr X.hbl
  have hnf := hI.1
  have hno := hI.2.1
  have hL9 := X.hL
  rw [← WC_WM] at hO
  have hl : lv_has ls 9 [(0, .ref b), (1, .ref (ad 0)), (2, .ref (ad 50)), (3, .ref (ad 60)), (4, .int (nI i))] := hl
  refine lv_aload_n hx hb dL_law_616 rfl (lv_at hl 1 rfl) ?_
  refine lv_aload_n hx hb dL_law_617 rfl (lv_at hl 0 rfl) ?_
  refine lv_iload hx hb dL_law_618 (lv_at hl 4 rfl) ?_
  refine lv_iconst (v := 1) hx hb dL_law_620 (by decide) ?_
  refine lv_iadd hx hb dL_law_621 ?_
  refine va_sld (s := s.setDrawn d) (A := mA s.heap.size) (i := nI i + 1) hx hb X.hX X.hbl hbA hS (by rw [show (1 : Int32) = nI 1 from rfl, nI_add]; exact vp_in_nI (by omega) (by omega)) dL_law_622 ?_
  refine lv_aload_n hx hb dL_law_623 rfl (lv_at hl 0 rfl) ?_
  refine lv_iload hx hb dL_law_624 (lv_at hl 4 rfl) ?_
  refine lv_iconst (v := 2) hx hb dL_law_626 (by decide) ?_
  refine lv_iadd hx hb dL_law_627 ?_
  refine va_sld (s := s.setDrawn d) (A := mA s.heap.size) (i := nI i + 2) hx hb X.hX X.hbl hbA hS (by rw [show (2 : Int32) = nI 2 from rfl, nI_add]; exact vp_in_nI (by omega) (by omega)) dL_law_628 ?_
  refine lv_aload_n hx hb dL_law_629 rfl (lv_at hl 3 rfl) ?_
  refine m_sW (As := [.ref (ad 0), .int (xs (nI i + 1).toNatClampNeg), .int (xs (nI i + 2).toNatClampNeg), .ref (ad 60)]) (rest := []) (n := 4) hF hC hO hS (k_L_frame l G _ sa ad _ g nf F f no O tf tv fw o (xs (nI i + 1).toNatClampNeg) (xs (nI i + 2).toNatClampNeg) hnf hno X.hfl (WM_at (by decide) h60) (fun i hi => by obtain ⟨_, t, m, c, _, _, hc, _, _, e4⟩ := hI.2.2.2.1 i hi; rw [e4]; rcases (show c = 0 ∨ c = 1 by omega) with rfl | rfl; exact Or.inl rfl; exact Or.inr rfl)) ok_L_frame (by decide +kernel) q_512 ⟨Nat.le_of_ble_eq_true rfl, Nat.le_of_ble_eq_true rfl⟩ rfl hl.1 rfl (Nat.le_of_ble_eq_true rfl) ⟨(by show _ ≤ 616075; omega), (by show _ ≤ 7247878; omega)⟩ dL_law_630 (fun v1 ad1 R1 H locs hp hO hS => ?_)
  dsimp only at hp
  obtain ⟨hK, rfl, had, tf9, tv9, hR⟩ | ⟨hK, rfl, hR⟩ := hp
  · rw [hR, WM_ad (ad := ad) (ad1 := ad1) (fun x h1 h2 => had x (by omega)), WM_b, WC_WM] at hO
    rw [had 0 (by decide), had 50 (by decide), had 60 (by decide)] at hl
    obtain ⟨i9, hi9, e9⟩ := fr_of (by omega) (K0_frame hK).1
    have eV : c_frame (F (nn (xs (nI i + 1).toNatClampNeg))) (nn (xs (nI i + 2).toNatClampNeg)) = m_frame (F (nn (xs (nI i + 1).toNatClampNeg))) (nn (xs (nI i + 2).toNatClampNeg)) := by rw [e9, nn_nI (by omega)]; exact frame_eq (hI.2.2.2.1 i9 hi9) _
    rw [eV] at hO
    have hI2 := hI.up
    refine lv_istore (lv' := [(5, .int 0), (0, .ref b), (1, .ref (ad1 0)), (2, .ref (ad1 50)), (3, .ref (ad1 60)), (4, .int (nI i))]) hx hb dL_law_633 hl (by decide) rfl (fun ls hl => ?_)
    refine lv_aload_n hx hb dL_law_635 rfl (lv_at hl 3 rfl) ?_
    refine lv_aload_n hx hb dL_law_636 rfl (lv_at hl 1 rfl) ?_
    refine lv_iload hx hb dL_law_637 (lv_at hl 5 rfl) ?_
    refine lv_iconst (v := 1) hx hb dL_law_639 (by decide) ?_
    refine lv_iadd hx hb dL_law_640 ?_
    refine va_sld (s := s.setDrawn d) (A := mA s.heap.size) (i := nI i + 1) hx hb X.hX X.hbl hbA hS (by rw [show (1 : Int32) = nI 1 from rfl, nI_add]; exact vp_in_nI (by omega) (by omega)) dL_law_641 ?_
    refine lv_aload_n hx hb dL_law_642 rfl (lv_at hl 1 rfl) ?_
    refine lv_iload hx hb dL_law_643 (lv_at hl 5 rfl) ?_
    refine lv_iconst (v := 2) hx hb dL_law_645 (by decide) ?_
    refine lv_iadd hx hb dL_law_646 ?_
    refine va_sld (s := s.setDrawn d) (A := mA s.heap.size) (i := nI i + 2) hx hb X.hX X.hbl hbA hS (by rw [show (2 : Int32) = nI 2 from rfl, nI_add]; exact vp_in_nI (by omega) (by omega)) dL_law_647 ?_
    refine m_vI (As := [.int (xs (nI i + 1).toNatClampNeg), .int (xs (nI i + 2).toNatClampNeg)]) (rest := []) (n := 2) hF hC hO hS (k_X6_frame l G _ sa ad1 _ th g nf F f no O it ch (xs (nI i + 1).toNatClampNeg) (xs (nI i + 2).toNatClampNeg) hnf hno ) ok_X6_frame q_817 rfl rfl ⟨Nat.le_of_ble_eq_true rfl, Nat.le_of_ble_eq_true rfl⟩ rfl hl.1 rfl (Nat.le_of_ble_eq_true rfl) ⟨(by show _ ≤ 616075; omega), (by show _ ≤ 7247878; omega)⟩ dL_law_648 (fun v2 R2 H locs hp2 hO hS => ?_)
    obtain ⟨-, rfl, it9, ch9, hR2⟩ := hp2.resolve_right (fun z => z.1 hK)
    rw [hR2] at hO
    refine lv_istore (lv' := [(6, .int (m_frame (F (nn (xs (nI i + 1).toNatClampNeg))) (nn (xs (nI i + 2).toNatClampNeg)))), (5, .int 0), (0, .ref b), (1, .ref (ad1 0)), (2, .ref (ad1 50)), (3, .ref (ad1 60)), (4, .int (nI i))]) hx hb dL_law_651 hl (by decide) rfl (fun ls hl => ?_)
    refine lv_aload_n hx hb dL_law_653 rfl (lv_at hl 4 rfl) ?_
    refine m_vI (As := []) (rest := []) (n := 0) hF hC hO hS (k_X6_thrown l G _ sa ad1 _ 0 g nf F f no O it9 ch9 hI2.1 hI2.2.1) ok_X6_thrown q_706 rfl rfl ⟨Nat.le_of_ble_eq_true rfl, Nat.le_of_ble_eq_true rfl⟩ rfl hl.1 rfl (Nat.le_of_ble_eq_true rfl) ⟨(by show _ ≤ 616075; omega), (by show _ ≤ 7247878; omega)⟩ dL_law_654 (fun v3 R3 H locs hp3 hO hS => ?_)
    obtain ⟨rfl, hR3⟩ := hp3
    rw [hR3] at hO
    refine lv_iload hx hb dL_law_657 (lv_at hl 1 rfl) ?_
    refine lv_icmp_eq (tgt := 664) hx hb dL_law_659 (by decide) (fun c659 => ?_) (fun c659 => absurd (by decide) c659)
    refine lv_iload hx hb dL_law_664 (lv_at hl 1 rfl) ?_
    refine lv_if_ne (tgt := 681) hx hb dL_law_666 (by decide) (fun c666 => absurd (by decide) c666) (fun c666 => ?_)
    refine lv_aload_n hx hb dL_law_669 rfl (lv_at hl 5 rfl) ?_
    refine lv_iconst (v := 0) hx hb dL_law_670 (by decide) ?_
    refine m_lald hF hC hO (WM_at (by decide) (WC_at (by decide) mU_self)) (j := 0) (by decide) (vp_in_nI (n := 0) (by decide) (by decide)) dL_law_671 ?_
    rw [vpL]
    refine lv_iload hx hb dL_law_672 (lv_at hl 0 rfl) ?_
    refine lv_i2l (v := ((m_frame (F (nn (xs (nI i + 1).toNatClampNeg))) (nn (xs (nI i + 2).toNatClampNeg))).toInt64)) hx hb dL_law_674 rfl ?_
    refine W.lcmp hx hb dL_law_675 ?_
    refine lv_if_eq (tgt := 681) hx hb dL_law_676 (by decide) (fun c676 => ?_) (fun c676 => absurd (lg_self _) c676)
    refine lv_goto (tgt := 1433) hx hb dL_law_681 (by decide) ?_
    exact hN d ad1 0 g nf F f no O tf9 tv9 fw it9 ch9 _ _ _ _ _ _ _ hd hI2 hfw mU_self ((mU_ne (by decide)).trans h200) hO hS (lv_sub hl [2, 3, 4, 5, 6] rfl) (by omega) (by omega)
  · obtain ⟨ha1, hR1⟩ := Prod.mk.inj hR
    rw [ha1, hR1, WC_WM] at hO
    have hI2 := hI.up
    refine lv_istore (lv' := [(5, .int (K_frame nf (xs (nI i + 1).toNatClampNeg) (xs (nI i + 2).toNatClampNeg))), (0, .ref b), (1, .ref (ad 0)), (2, .ref (ad 50)), (3, .ref (ad 60)), (4, .int (nI i))]) hx hb dL_law_633 hl (by decide) rfl (fun ls hl => ?_)
    refine lv_aload_n hx hb dL_law_635 rfl (lv_at hl 3 rfl) ?_
    refine lv_aload_n hx hb dL_law_636 rfl (lv_at hl 1 rfl) ?_
    refine lv_iload hx hb dL_law_637 (lv_at hl 5 rfl) ?_
    refine lv_iconst (v := 1) hx hb dL_law_639 (by decide) ?_
    refine lv_iadd hx hb dL_law_640 ?_
    refine va_sld (s := s.setDrawn d) (A := mA s.heap.size) (i := nI i + 1) hx hb X.hX X.hbl hbA hS (by rw [show (1 : Int32) = nI 1 from rfl, nI_add]; exact vp_in_nI (by omega) (by omega)) dL_law_641 ?_
    refine lv_aload_n hx hb dL_law_642 rfl (lv_at hl 1 rfl) ?_
    refine lv_iload hx hb dL_law_643 (lv_at hl 5 rfl) ?_
    refine lv_iconst (v := 2) hx hb dL_law_645 (by decide) ?_
    refine lv_iadd hx hb dL_law_646 ?_
    refine va_sld (s := s.setDrawn d) (A := mA s.heap.size) (i := nI i + 2) hx hb X.hX X.hbl hbA hS (by rw [show (2 : Int32) = nI 2 from rfl, nI_add]; exact vp_in_nI (by omega) (by omega)) dL_law_647 ?_
    refine m_vI (As := [.int (xs (nI i + 1).toNatClampNeg), .int (xs (nI i + 2).toNatClampNeg)]) (rest := []) (n := 2) hF hC hO hS (k_X6_frame l G _ sa ad _ th g nf F f no O it ch (xs (nI i + 1).toNatClampNeg) (xs (nI i + 2).toNatClampNeg) hnf hno ) ok_X6_frame q_817 rfl rfl ⟨Nat.le_of_ble_eq_true rfl, Nat.le_of_ble_eq_true rfl⟩ rfl hl.1 rfl (Nat.le_of_ble_eq_true rfl) ⟨(by show _ ≤ 616075; omega), (by show _ ≤ 7247878; omega)⟩ dL_law_648 (fun v2 R2 H locs hp2 hO hS => ?_)
    obtain ⟨-, it9, ch9, hR2⟩ := hp2.resolve_left (fun z => hK z.1)
    rw [hR2] at hO
    refine lv_istore (lv' := [(6, .int v2), (5, .int (K_frame nf (xs (nI i + 1).toNatClampNeg) (xs (nI i + 2).toNatClampNeg))), (0, .ref b), (1, .ref (ad 0)), (2, .ref (ad 50)), (3, .ref (ad 60)), (4, .int (nI i))]) hx hb dL_law_651 hl (by decide) rfl (fun ls hl => ?_)
    refine lv_aload_n hx hb dL_law_653 rfl (lv_at hl 4 rfl) ?_
    refine m_vI (As := []) (rest := []) (n := 0) hF hC hO hS (k_X6_thrown l G _ sa ad _ (K_frame nf (xs (nI i + 1).toNatClampNeg) (xs (nI i + 2).toNatClampNeg)) g nf F f no O it9 ch9 hI2.1 hI2.2.1) ok_X6_thrown q_706 rfl rfl ⟨Nat.le_of_ble_eq_true rfl, Nat.le_of_ble_eq_true rfl⟩ rfl hl.1 rfl (Nat.le_of_ble_eq_true rfl) ⟨(by show _ ≤ 616075; omega), (by show _ ≤ 7247878; omega)⟩ dL_law_654 (fun v3 R3 H locs hp3 hO hS => ?_)
    obtain ⟨rfl, hR3⟩ := hp3
    rw [hR3] at hO
    refine lv_iload hx hb dL_law_657 (lv_at hl 1 rfl) ?_
    refine lv_icmp_eq (tgt := 664) hx hb dL_law_659 (by decide) (fun c659 => ?_) (fun c659 => absurd (rfl) c659)
    refine lv_iload hx hb dL_law_664 (lv_at hl 1 rfl) ?_
    refine lv_if_ne (tgt := 681) hx hb dL_law_666 (by decide) (fun c666 => ?_) (fun c666 => absurd c666 (hK))
    refine lv_goto (tgt := 1433) hx hb dL_law_681 (by decide) ?_
    exact hN d ad (K_frame nf (xs (nI i + 1).toNatClampNeg) (xs (nI i + 2).toNatClampNeg)) g nf F f no O tf tv fw it9 ch9 o _ _ _ _ _ _ hd hI2 hfw h60 h200 hO hS (lv_sub hl [2, 3, 4, 5, 6] rfl) (by omega) (by omega)
set_option maxHeartbeats 1000000 in
set_option maxRecDepth 100000 in
theorem case_hook {p : Program} {l : Launch} {e : Env} {s : State} {m : MethodId} {below : List Frame} {meth : Method} {c : Code} {b L : Nat} {xs : Nat → Int32} {G : mG} {sa : Nat → Nat} (X : LwX p l s m meth c b L xs G sa) {i q : Nat} (hq : q < 512) (hi5 : i + 5 ≤ L) (hN : LAt p l e s m below meth c b G 1433 i (q + 1)) : LAt p l e s m below meth c b G 684 i q := by
  intro d ad th g nf F f no O tf tv fw it ch o Ro H locs ls cells slots hd hI hfw h60 h200 hO hS hl hc9 hs9
  have hF := X.hF d
  have hC := X.hC d
  have hx := hF.1
  have hb := hF.2.1
  have hbA : ¬ mA s.heap.size b := Nat.not_le.mpr X.hbl
  have hnf := hI.1
  have hno := hI.2.1
  have hL9 := X.hL
  rw [← WC_WM] at hO
  have hl : lv_has ls 9 [(0, .ref b), (1, .ref (ad 0)), (2, .ref (ad 50)), (3, .ref (ad 60)), (4, .int (nI i))] := hl
  refine lv_aload_n hx hb dL_law_684 rfl (lv_at hl 1 rfl) ?_
  refine lv_aload_n hx hb dL_law_685 rfl (lv_at hl 0 rfl) ?_
  refine lv_iload hx hb dL_law_686 (lv_at hl 4 rfl) ?_
  refine lv_iconst (v := 1) hx hb dL_law_688 (by decide) ?_
  refine lv_iadd hx hb dL_law_689 ?_
  refine va_sld (s := s.setDrawn d) (A := mA s.heap.size) (i := nI i + 1) hx hb X.hX X.hbl hbA hS (by rw [show (1 : Int32) = nI 1 from rfl, nI_add]; exact vp_in_nI (by omega) (by omega)) dL_law_690 ?_
  refine lv_aload_n hx hb dL_law_691 rfl (lv_at hl 3 rfl) ?_
  refine m_sW (As := [.ref (ad 0), .int (xs (nI i + 1).toNatClampNeg), .ref (ad 60)]) (rest := []) (n := 3) hF hC hO hS (k_L_hook l G _ sa ad _ g nf F f no O tf tv fw o (xs (nI i + 1).toNatClampNeg) hnf hno X.hfl (WM_at (by decide) h60) ) ok_L_hook (by decide +kernel) q_516 ⟨Nat.le_of_ble_eq_true rfl, Nat.le_of_ble_eq_true rfl⟩ rfl hl.1 rfl (Nat.le_of_ble_eq_true rfl) ⟨(by show _ ≤ 616075; omega), (by show _ ≤ 7247878; omega)⟩ dL_law_692 (fun v1 ad1 R1 H locs hp hO hS => ?_)
  dsimp only at hp
  obtain ⟨hK, rfl, had, tf9, tv9, hR⟩ | ⟨hK, rfl, hR⟩ := hp
  · rw [hR, WM_ad (ad := ad) (ad1 := ad1) (fun x h1 h2 => had x (by omega)), WM_b, WC_WM] at hO
    rw [had 0 (by decide), had 50 (by decide), had 60 (by decide)] at hl
    have hI2 := hI.up
    refine lv_istore (lv' := [(5, .int 0), (0, .ref b), (1, .ref (ad1 0)), (2, .ref (ad1 50)), (3, .ref (ad1 60)), (4, .int (nI i))]) hx hb dL_law_695 hl (by decide) rfl (fun ls hl => ?_)
    refine lv_aload_n hx hb dL_law_697 rfl (lv_at hl 3 rfl) ?_
    refine lv_aload_n hx hb dL_law_698 rfl (lv_at hl 1 rfl) ?_
    refine lv_iload hx hb dL_law_699 (lv_at hl 5 rfl) ?_
    refine lv_iconst (v := 1) hx hb dL_law_701 (by decide) ?_
    refine lv_iadd hx hb dL_law_702 ?_
    refine va_sld (s := s.setDrawn d) (A := mA s.heap.size) (i := nI i + 1) hx hb X.hX X.hbl hbA hS (by rw [show (1 : Int32) = nI 1 from rfl, nI_add]; exact vp_in_nI (by omega) (by omega)) dL_law_703 ?_
    refine m_vI (As := [.int (xs (nI i + 1).toNatClampNeg)]) (rest := []) (n := 1) hF hC hO hS (k_X6_hook l G _ sa ad1 _ th g nf F f no O it ch (xs (nI i + 1).toNatClampNeg) hnf hno ) ok_X6_hook q_825 rfl rfl ⟨Nat.le_of_ble_eq_true rfl, Nat.le_of_ble_eq_true rfl⟩ rfl hl.1 rfl (Nat.le_of_ble_eq_true rfl) ⟨(by show _ ≤ 616075; omega), (by show _ ≤ 7247878; omega)⟩ dL_law_704 (fun v2 R2 H locs hp2 hO hS => ?_)
    obtain ⟨-, rfl, it9, ch9, hR2⟩ := hp2.resolve_right (fun z => z.1 hK)
    rw [hR2] at hO
    refine lv_istore (lv' := [(6, .int (m_at nf F (xs (nI i + 1).toNatClampNeg))), (5, .int 0), (0, .ref b), (1, .ref (ad1 0)), (2, .ref (ad1 50)), (3, .ref (ad1 60)), (4, .int (nI i))]) hx hb dL_law_707 hl (by decide) rfl (fun ls hl => ?_)
    refine lv_aload_n hx hb dL_law_709 rfl (lv_at hl 4 rfl) ?_
    refine m_vI (As := []) (rest := []) (n := 0) hF hC hO hS (k_X6_thrown l G _ sa ad1 _ 0 g nf F f no O it9 ch9 hI2.1 hI2.2.1) ok_X6_thrown q_706 rfl rfl ⟨Nat.le_of_ble_eq_true rfl, Nat.le_of_ble_eq_true rfl⟩ rfl hl.1 rfl (Nat.le_of_ble_eq_true rfl) ⟨(by show _ ≤ 616075; omega), (by show _ ≤ 7247878; omega)⟩ dL_law_710 (fun v3 R3 H locs hp3 hO hS => ?_)
    obtain ⟨rfl, hR3⟩ := hp3
    rw [hR3] at hO
    refine lv_iload hx hb dL_law_713 (lv_at hl 1 rfl) ?_
    refine lv_icmp_eq (tgt := 720) hx hb dL_law_715 (by decide) (fun c715 => ?_) (fun c715 => absurd (by decide) c715)
    refine lv_iload hx hb dL_law_720 (lv_at hl 1 rfl) ?_
    refine lv_if_ne (tgt := 737) hx hb dL_law_722 (by decide) (fun c722 => absurd (by decide) c722) (fun c722 => ?_)
    refine lv_aload_n hx hb dL_law_725 rfl (lv_at hl 5 rfl) ?_
    refine lv_iconst (v := 0) hx hb dL_law_726 (by decide) ?_
    refine m_lald hF hC hO (WM_at (by decide) (WC_at (by decide) mU_self)) (j := 0) (by decide) (vp_in_nI (n := 0) (by decide) (by decide)) dL_law_727 ?_
    rw [vpL]
    refine lv_iload hx hb dL_law_728 (lv_at hl 0 rfl) ?_
    refine lv_i2l (v := ((m_at nf F (xs (nI i + 1).toNatClampNeg)).toInt64)) hx hb dL_law_730 rfl ?_
    refine W.lcmp hx hb dL_law_731 ?_
    refine lv_if_eq (tgt := 737) hx hb dL_law_732 (by decide) (fun c732 => ?_) (fun c732 => absurd (lg_self _) c732)
    refine lv_goto (tgt := 1433) hx hb dL_law_737 (by decide) ?_
    exact hN d ad1 0 g nf F f no O tf9 tv9 fw it9 ch9 _ _ _ _ _ _ _ hd hI2 hfw mU_self ((mU_ne (by decide)).trans h200) hO hS (lv_sub hl [2, 3, 4, 5, 6] rfl) (by omega) (by omega)
  · obtain ⟨ha1, hR1⟩ := Prod.mk.inj hR
    rw [ha1, hR1, WC_WM] at hO
    have hI2 := hI.up
    refine lv_istore (lv' := [(5, .int (K_hook (xs (nI i + 1).toNatClampNeg))), (0, .ref b), (1, .ref (ad 0)), (2, .ref (ad 50)), (3, .ref (ad 60)), (4, .int (nI i))]) hx hb dL_law_695 hl (by decide) rfl (fun ls hl => ?_)
    refine lv_aload_n hx hb dL_law_697 rfl (lv_at hl 3 rfl) ?_
    refine lv_aload_n hx hb dL_law_698 rfl (lv_at hl 1 rfl) ?_
    refine lv_iload hx hb dL_law_699 (lv_at hl 5 rfl) ?_
    refine lv_iconst (v := 1) hx hb dL_law_701 (by decide) ?_
    refine lv_iadd hx hb dL_law_702 ?_
    refine va_sld (s := s.setDrawn d) (A := mA s.heap.size) (i := nI i + 1) hx hb X.hX X.hbl hbA hS (by rw [show (1 : Int32) = nI 1 from rfl, nI_add]; exact vp_in_nI (by omega) (by omega)) dL_law_703 ?_
    refine m_vI (As := [.int (xs (nI i + 1).toNatClampNeg)]) (rest := []) (n := 1) hF hC hO hS (k_X6_hook l G _ sa ad _ th g nf F f no O it ch (xs (nI i + 1).toNatClampNeg) hnf hno ) ok_X6_hook q_825 rfl rfl ⟨Nat.le_of_ble_eq_true rfl, Nat.le_of_ble_eq_true rfl⟩ rfl hl.1 rfl (Nat.le_of_ble_eq_true rfl) ⟨(by show _ ≤ 616075; omega), (by show _ ≤ 7247878; omega)⟩ dL_law_704 (fun v2 R2 H locs hp2 hO hS => ?_)
    obtain ⟨-, it9, ch9, hR2⟩ := hp2.resolve_left (fun z => hK z.1)
    rw [hR2] at hO
    refine lv_istore (lv' := [(6, .int v2), (5, .int (K_hook (xs (nI i + 1).toNatClampNeg))), (0, .ref b), (1, .ref (ad 0)), (2, .ref (ad 50)), (3, .ref (ad 60)), (4, .int (nI i))]) hx hb dL_law_707 hl (by decide) rfl (fun ls hl => ?_)
    refine lv_aload_n hx hb dL_law_709 rfl (lv_at hl 4 rfl) ?_
    refine m_vI (As := []) (rest := []) (n := 0) hF hC hO hS (k_X6_thrown l G _ sa ad _ (K_hook (xs (nI i + 1).toNatClampNeg)) g nf F f no O it9 ch9 hI2.1 hI2.2.1) ok_X6_thrown q_706 rfl rfl ⟨Nat.le_of_ble_eq_true rfl, Nat.le_of_ble_eq_true rfl⟩ rfl hl.1 rfl (Nat.le_of_ble_eq_true rfl) ⟨(by show _ ≤ 616075; omega), (by show _ ≤ 7247878; omega)⟩ dL_law_710 (fun v3 R3 H locs hp3 hO hS => ?_)
    obtain ⟨rfl, hR3⟩ := hp3
    rw [hR3] at hO
    refine lv_iload hx hb dL_law_713 (lv_at hl 1 rfl) ?_
    refine lv_icmp_eq (tgt := 720) hx hb dL_law_715 (by decide) (fun c715 => ?_) (fun c715 => absurd (rfl) c715)
    refine lv_iload hx hb dL_law_720 (lv_at hl 1 rfl) ?_
    refine lv_if_ne (tgt := 737) hx hb dL_law_722 (by decide) (fun c722 => ?_) (fun c722 => absurd c722 (hK))
    refine lv_goto (tgt := 1433) hx hb dL_law_737 (by decide) ?_
    exact hN d ad (K_hook (xs (nI i + 1).toNatClampNeg)) g nf F f no O tf tv fw it9 ch9 o _ _ _ _ _ _ hd hI2 hfw h60 h200 hO hS (lv_sub hl [2, 3, 4, 5, 6] rfl) (by omega) (by omega)
set_option maxHeartbeats 1000000 in
set_option maxRecDepth 100000 in
theorem case_store {p : Program} {l : Launch} {e : Env} {s : State} {m : MethodId} {below : List Frame} {meth : Method} {c : Code} {b L : Nat} {xs : Nat → Int32} {G : mG} {sa : Nat → Nat} (X : LwX p l s m meth c b L xs G sa) {i q : Nat} (hq : q < 512) (hi5 : i + 5 ≤ L) (hN : LAt p l e s m below meth c b G 1433 i (q + 1)) : LAt p l e s m below meth c b G 740 i q := by
  intro d ad th g nf F f no O tf tv fw it ch o Ro H locs ls cells slots hd hI hfw h60 h200 hO hS hl hc9 hs9
  have hF := X.hF d
  have hC := X.hC d
  have hx := hF.1
  have hb := hF.2.1
  have hbA : ¬ mA s.heap.size b := Nat.not_le.mpr X.hbl
  have hnf := hI.1
  have hno := hI.2.1
  have hL9 := X.hL
  rw [← WC_WM] at hO
  have hl : lv_has ls 9 [(0, .ref b), (1, .ref (ad 0)), (2, .ref (ad 50)), (3, .ref (ad 60)), (4, .int (nI i))] := hl
  refine lv_aload_n hx hb dL_law_740 rfl (lv_at hl 1 rfl) ?_
  refine lv_aload_n hx hb dL_law_741 rfl (lv_at hl 0 rfl) ?_
  refine lv_iload hx hb dL_law_742 (lv_at hl 4 rfl) ?_
  refine lv_iconst (v := 1) hx hb dL_law_744 (by decide) ?_
  refine lv_iadd hx hb dL_law_745 ?_
  refine va_sld (s := s.setDrawn d) (A := mA s.heap.size) (i := nI i + 1) hx hb X.hX X.hbl hbA hS (by rw [show (1 : Int32) = nI 1 from rfl, nI_add]; exact vp_in_nI (by omega) (by omega)) dL_law_746 ?_
  refine lv_aload_n hx hb dL_law_747 rfl (lv_at hl 0 rfl) ?_
  refine lv_iload hx hb dL_law_748 (lv_at hl 4 rfl) ?_
  refine lv_iconst (v := 2) hx hb dL_law_750 (by decide) ?_
  refine lv_iadd hx hb dL_law_751 ?_
  refine va_sld (s := s.setDrawn d) (A := mA s.heap.size) (i := nI i + 2) hx hb X.hX X.hbl hbA hS (by rw [show (2 : Int32) = nI 2 from rfl, nI_add]; exact vp_in_nI (by omega) (by omega)) dL_law_752 ?_
  refine lv_aload_n hx hb dL_law_753 rfl (lv_at hl 3 rfl) ?_
  refine m_sW (As := [.ref (ad 0), .int (xs (nI i + 1).toNatClampNeg), .int (xs (nI i + 2).toNatClampNeg), .ref (ad 60)]) (rest := []) (n := 4) hF hC hO hS (k_L_store l G _ sa ad _ g nf F f no O tf tv fw o (xs (nI i + 1).toNatClampNeg) (xs (nI i + 2).toNatClampNeg) hnf hno X.hfl (WM_at (by decide) h60) ) ok_L_store (by decide +kernel) q_523 ⟨Nat.le_of_ble_eq_true rfl, Nat.le_of_ble_eq_true rfl⟩ rfl hl.1 rfl (Nat.le_of_ble_eq_true rfl) ⟨(by show _ ≤ 616075; omega), (by show _ ≤ 7247878; omega)⟩ dL_law_754 (fun v1 ad1 R1 H locs hp hO hS => ?_)
  dsimp only at hp
  obtain ⟨hK, rfl, had, tf9, tv9, hR⟩ | ⟨hK, rfl, hR⟩ := hp
  · rw [hR, WM_ad (ad := ad) (ad1 := ad1) (fun x h1 h2 => had x (by omega)), WM_b, WC_WM] at hO
    rw [had 0 (by decide), had 50 (by decide), had 60 (by decide)] at hl
    have hI2 := hI.up
    refine lv_istore (lv' := [(5, .int 0), (0, .ref b), (1, .ref (ad1 0)), (2, .ref (ad1 50)), (3, .ref (ad1 60)), (4, .int (nI i))]) hx hb dL_law_757 hl (by decide) rfl (fun ls hl => ?_)
    refine lv_aload_n hx hb dL_law_759 rfl (lv_at hl 3 rfl) ?_
    refine lv_aload_n hx hb dL_law_760 rfl (lv_at hl 1 rfl) ?_
    refine lv_iload hx hb dL_law_761 (lv_at hl 5 rfl) ?_
    refine lv_iconst (v := 1) hx hb dL_law_763 (by decide) ?_
    refine lv_iadd hx hb dL_law_764 ?_
    refine va_sld (s := s.setDrawn d) (A := mA s.heap.size) (i := nI i + 1) hx hb X.hX X.hbl hbA hS (by rw [show (1 : Int32) = nI 1 from rfl, nI_add]; exact vp_in_nI (by omega) (by omega)) dL_law_765 ?_
    refine lv_aload_n hx hb dL_law_766 rfl (lv_at hl 1 rfl) ?_
    refine lv_iload hx hb dL_law_767 (lv_at hl 5 rfl) ?_
    refine lv_iconst (v := 2) hx hb dL_law_769 (by decide) ?_
    refine lv_iadd hx hb dL_law_770 ?_
    refine va_sld (s := s.setDrawn d) (A := mA s.heap.size) (i := nI i + 2) hx hb X.hX X.hbl hbA hS (by rw [show (2 : Int32) = nI 2 from rfl, nI_add]; exact vp_in_nI (by omega) (by omega)) dL_law_771 ?_
    refine m_vI (As := [.int (xs (nI i + 1).toNatClampNeg), .int (xs (nI i + 2).toNatClampNeg)]) (rest := []) (n := 2) hF hC hO hS (k_X6_store l G _ sa ad1 _ th g nf F f no O it ch (xs (nI i + 1).toNatClampNeg) (xs (nI i + 2).toNatClampNeg) hnf hno ) ok_X6_store q_829 rfl rfl ⟨Nat.le_of_ble_eq_true rfl, Nat.le_of_ble_eq_true rfl⟩ rfl hl.1 rfl (Nat.le_of_ble_eq_true rfl) ⟨(by show _ ≤ 616075; omega), (by show _ ≤ 7247878; omega)⟩ dL_law_772 (fun v2 R2 H locs hp2 hO hS => ?_)
    obtain ⟨-, rfl, it9, ch9, hR2⟩ := hp2.resolve_right (fun z => z.1 hK)
    rw [hR2] at hO
    refine lv_istore (lv' := [(6, .int (f (9 * nn (xs (nI i + 1).toNatClampNeg) + nn (xs (nI i + 2).toNatClampNeg) - 1))), (5, .int 0), (0, .ref b), (1, .ref (ad1 0)), (2, .ref (ad1 50)), (3, .ref (ad1 60)), (4, .int (nI i))]) hx hb dL_law_775 hl (by decide) rfl (fun ls hl => ?_)
    refine lv_aload_n hx hb dL_law_777 rfl (lv_at hl 4 rfl) ?_
    refine m_vI (As := []) (rest := []) (n := 0) hF hC hO hS (k_X6_thrown l G _ sa ad1 _ 0 g nf F f no O it9 ch9 hI2.1 hI2.2.1) ok_X6_thrown q_706 rfl rfl ⟨Nat.le_of_ble_eq_true rfl, Nat.le_of_ble_eq_true rfl⟩ rfl hl.1 rfl (Nat.le_of_ble_eq_true rfl) ⟨(by show _ ≤ 616075; omega), (by show _ ≤ 7247878; omega)⟩ dL_law_778 (fun v3 R3 H locs hp3 hO hS => ?_)
    obtain ⟨rfl, hR3⟩ := hp3
    rw [hR3] at hO
    refine lv_iload hx hb dL_law_781 (lv_at hl 1 rfl) ?_
    refine lv_icmp_eq (tgt := 788) hx hb dL_law_783 (by decide) (fun c783 => ?_) (fun c783 => absurd (by decide) c783)
    refine lv_iload hx hb dL_law_788 (lv_at hl 1 rfl) ?_
    refine lv_if_ne (tgt := 805) hx hb dL_law_790 (by decide) (fun c790 => absurd (by decide) c790) (fun c790 => ?_)
    refine lv_aload_n hx hb dL_law_793 rfl (lv_at hl 5 rfl) ?_
    refine lv_iconst (v := 0) hx hb dL_law_794 (by decide) ?_
    refine m_lald hF hC hO (WM_at (by decide) (WC_at (by decide) mU_self)) (j := 0) (by decide) (vp_in_nI (n := 0) (by decide) (by decide)) dL_law_795 ?_
    rw [vpL]
    refine lv_iload hx hb dL_law_796 (lv_at hl 0 rfl) ?_
    refine lv_i2l (v := ((f (9 * nn (xs (nI i + 1).toNatClampNeg) + nn (xs (nI i + 2).toNatClampNeg) - 1)).toInt64)) hx hb dL_law_798 rfl ?_
    refine W.lcmp hx hb dL_law_799 ?_
    refine lv_if_eq (tgt := 805) hx hb dL_law_800 (by decide) (fun c800 => ?_) (fun c800 => absurd (lg_self _) c800)
    refine lv_goto (tgt := 1433) hx hb dL_law_805 (by decide) ?_
    exact hN d ad1 0 g nf F f no O tf9 tv9 fw it9 ch9 _ _ _ _ _ _ _ hd hI2 hfw mU_self ((mU_ne (by decide)).trans h200) hO hS (lv_sub hl [2, 3, 4, 5, 6] rfl) (by omega) (by omega)
  · obtain ⟨ha1, hR1⟩ := Prod.mk.inj hR
    rw [ha1, hR1, WC_WM] at hO
    have hI2 := hI.up
    refine lv_istore (lv' := [(5, .int (K_store (xs (nI i + 1).toNatClampNeg) (xs (nI i + 2).toNatClampNeg))), (0, .ref b), (1, .ref (ad 0)), (2, .ref (ad 50)), (3, .ref (ad 60)), (4, .int (nI i))]) hx hb dL_law_757 hl (by decide) rfl (fun ls hl => ?_)
    refine lv_aload_n hx hb dL_law_759 rfl (lv_at hl 3 rfl) ?_
    refine lv_aload_n hx hb dL_law_760 rfl (lv_at hl 1 rfl) ?_
    refine lv_iload hx hb dL_law_761 (lv_at hl 5 rfl) ?_
    refine lv_iconst (v := 1) hx hb dL_law_763 (by decide) ?_
    refine lv_iadd hx hb dL_law_764 ?_
    refine va_sld (s := s.setDrawn d) (A := mA s.heap.size) (i := nI i + 1) hx hb X.hX X.hbl hbA hS (by rw [show (1 : Int32) = nI 1 from rfl, nI_add]; exact vp_in_nI (by omega) (by omega)) dL_law_765 ?_
    refine lv_aload_n hx hb dL_law_766 rfl (lv_at hl 1 rfl) ?_
    refine lv_iload hx hb dL_law_767 (lv_at hl 5 rfl) ?_
    refine lv_iconst (v := 2) hx hb dL_law_769 (by decide) ?_
    refine lv_iadd hx hb dL_law_770 ?_
    refine va_sld (s := s.setDrawn d) (A := mA s.heap.size) (i := nI i + 2) hx hb X.hX X.hbl hbA hS (by rw [show (2 : Int32) = nI 2 from rfl, nI_add]; exact vp_in_nI (by omega) (by omega)) dL_law_771 ?_
    refine m_vI (As := [.int (xs (nI i + 1).toNatClampNeg), .int (xs (nI i + 2).toNatClampNeg)]) (rest := []) (n := 2) hF hC hO hS (k_X6_store l G _ sa ad _ th g nf F f no O it ch (xs (nI i + 1).toNatClampNeg) (xs (nI i + 2).toNatClampNeg) hnf hno ) ok_X6_store q_829 rfl rfl ⟨Nat.le_of_ble_eq_true rfl, Nat.le_of_ble_eq_true rfl⟩ rfl hl.1 rfl (Nat.le_of_ble_eq_true rfl) ⟨(by show _ ≤ 616075; omega), (by show _ ≤ 7247878; omega)⟩ dL_law_772 (fun v2 R2 H locs hp2 hO hS => ?_)
    obtain ⟨-, it9, ch9, hR2⟩ := hp2.resolve_left (fun z => hK z.1)
    rw [hR2] at hO
    refine lv_istore (lv' := [(6, .int v2), (5, .int (K_store (xs (nI i + 1).toNatClampNeg) (xs (nI i + 2).toNatClampNeg))), (0, .ref b), (1, .ref (ad 0)), (2, .ref (ad 50)), (3, .ref (ad 60)), (4, .int (nI i))]) hx hb dL_law_775 hl (by decide) rfl (fun ls hl => ?_)
    refine lv_aload_n hx hb dL_law_777 rfl (lv_at hl 4 rfl) ?_
    refine m_vI (As := []) (rest := []) (n := 0) hF hC hO hS (k_X6_thrown l G _ sa ad _ (K_store (xs (nI i + 1).toNatClampNeg) (xs (nI i + 2).toNatClampNeg)) g nf F f no O it9 ch9 hI2.1 hI2.2.1) ok_X6_thrown q_706 rfl rfl ⟨Nat.le_of_ble_eq_true rfl, Nat.le_of_ble_eq_true rfl⟩ rfl hl.1 rfl (Nat.le_of_ble_eq_true rfl) ⟨(by show _ ≤ 616075; omega), (by show _ ≤ 7247878; omega)⟩ dL_law_778 (fun v3 R3 H locs hp3 hO hS => ?_)
    obtain ⟨rfl, hR3⟩ := hp3
    rw [hR3] at hO
    refine lv_iload hx hb dL_law_781 (lv_at hl 1 rfl) ?_
    refine lv_icmp_eq (tgt := 788) hx hb dL_law_783 (by decide) (fun c783 => ?_) (fun c783 => absurd (rfl) c783)
    refine lv_iload hx hb dL_law_788 (lv_at hl 1 rfl) ?_
    refine lv_if_ne (tgt := 805) hx hb dL_law_790 (by decide) (fun c790 => ?_) (fun c790 => absurd c790 (hK))
    refine lv_goto (tgt := 1433) hx hb dL_law_805 (by decide) ?_
    exact hN d ad (K_store (xs (nI i + 1).toNatClampNeg) (xs (nI i + 2).toNatClampNeg)) g nf F f no O tf tv fw it9 ch9 o _ _ _ _ _ _ hd hI2 hfw h60 h200 hO hS (lv_sub hl [2, 3, 4, 5, 6] rfl) (by omega) (by omega)
set_option maxHeartbeats 1000000 in
set_option maxRecDepth 100000 in
theorem case_addOrder {p : Program} {l : Launch} {e : Env} {s : State} {m : MethodId} {below : List Frame} {meth : Method} {c : Code} {b L : Nat} {xs : Nat → Int32} {G : mG} {sa : Nat → Nat} (X : LwX p l s m meth c b L xs G sa) {i q : Nat} (hq : q < 512) (hi5 : i + 5 ≤ L) (hN : LAt p l e s m below meth c b G 1433 i (q + 1)) : LAt p l e s m below meth c b G 808 i q := by
  intro d ad th g nf F f no O tf tv fw it ch o Ro H locs ls cells slots hd hI hfw h60 h200 hO hS hl hc9 hs9
  have hF := X.hF d
  have hC := X.hC d
  have hx := hF.1
  have hb := hF.2.1
  have hbA : ¬ mA s.heap.size b := Nat.not_le.mpr X.hbl
  have hnf := hI.1
  have hno := hI.2.1
  have hL9 := X.hL
  rw [← WC_WM] at hO
  have hl : lv_has ls 9 [(0, .ref b), (1, .ref (ad 0)), (2, .ref (ad 50)), (3, .ref (ad 60)), (4, .int (nI i))] := hl
  refine lv_aload_n hx hb dL_law_808 rfl (lv_at hl 1 rfl) ?_
  refine lv_aload_n hx hb dL_law_809 rfl (lv_at hl 0 rfl) ?_
  refine lv_iload hx hb dL_law_810 (lv_at hl 4 rfl) ?_
  refine lv_iconst (v := 1) hx hb dL_law_812 (by decide) ?_
  refine lv_iadd hx hb dL_law_813 ?_
  refine va_sld (s := s.setDrawn d) (A := mA s.heap.size) (i := nI i + 1) hx hb X.hX X.hbl hbA hS (by rw [show (1 : Int32) = nI 1 from rfl, nI_add]; exact vp_in_nI (by omega) (by omega)) dL_law_814 ?_
  refine lv_aload_n hx hb dL_law_815 rfl (lv_at hl 0 rfl) ?_
  refine lv_iload hx hb dL_law_816 (lv_at hl 4 rfl) ?_
  refine lv_iconst (v := 2) hx hb dL_law_818 (by decide) ?_
  refine lv_iadd hx hb dL_law_819 ?_
  refine va_sld (s := s.setDrawn d) (A := mA s.heap.size) (i := nI i + 2) hx hb X.hX X.hbl hbA hS (by rw [show (2 : Int32) = nI 2 from rfl, nI_add]; exact vp_in_nI (by omega) (by omega)) dL_law_820 ?_
  refine lv_aload_n hx hb dL_law_821 rfl (lv_at hl 0 rfl) ?_
  refine lv_iload hx hb dL_law_822 (lv_at hl 4 rfl) ?_
  refine lv_iconst (v := 3) hx hb dL_law_824 (by decide) ?_
  refine lv_iadd hx hb dL_law_825 ?_
  refine va_sld (s := s.setDrawn d) (A := mA s.heap.size) (i := nI i + 3) hx hb X.hX X.hbl hbA hS (by rw [show (3 : Int32) = nI 3 from rfl, nI_add]; exact vp_in_nI (by omega) (by omega)) dL_law_826 ?_
  refine lv_aload_n hx hb dL_law_827 rfl (lv_at hl 0 rfl) ?_
  refine lv_iload hx hb dL_law_828 (lv_at hl 4 rfl) ?_
  refine lv_iconst (v := 4) hx hb dL_law_830 (by decide) ?_
  refine lv_iadd hx hb dL_law_831 ?_
  refine va_sld (s := s.setDrawn d) (A := mA s.heap.size) (i := nI i + 4) hx hb X.hX X.hbl hbA hS (by rw [show (4 : Int32) = nI 4 from rfl, nI_add]; exact vp_in_nI (by omega) (by omega)) dL_law_832 ?_
  refine lv_aload_n hx hb dL_law_833 rfl (lv_at hl 3 rfl) ?_
  refine m_sW (As := [.ref (ad 0), .int (xs (nI i + 1).toNatClampNeg), .int (xs (nI i + 2).toNatClampNeg), .int (xs (nI i + 3).toNatClampNeg), .int (xs (nI i + 4).toNatClampNeg), .ref (ad 60)]) (rest := []) (n := 6) hF hC hO hS (k_L_addOrder l G _ sa ad _ g nf F f no O tf tv fw o (xs (nI i + 1).toNatClampNeg) (xs (nI i + 2).toNatClampNeg) (xs (nI i + 3).toNatClampNeg) (xs (nI i + 4).toNatClampNeg) hnf hno X.hfl (WM_at (by decide) h60) ) ok_L_addOrder (by decide +kernel) q_527 ⟨Nat.le_of_ble_eq_true rfl, Nat.le_of_ble_eq_true rfl⟩ rfl hl.1 rfl (Nat.le_of_ble_eq_true rfl) ⟨(by show _ ≤ 616075; omega), (by show _ ≤ 7247878; omega)⟩ dL_law_834 (fun v1 ad1 R1 H locs hp hO hS => ?_)
  dsimp only at hp
  obtain ⟨hK, rfl, had, tf9, tv9, hR⟩ | ⟨hK, rfl, hR⟩ := hp
  · rw [hR, WM_ad (ad := ad) (ad1 := ad1) (fun x h1 h2 => had x (by omega)), WM_b, WC_WM] at hO
    rw [had 0 (by decide), had 50 (by decide), had 60 (by decide)] at hl
    have hI2 := s_addOrder hI hK
    refine lv_istore (lv' := [(5, .int 0), (0, .ref b), (1, .ref (ad1 0)), (2, .ref (ad1 50)), (3, .ref (ad1 60)), (4, .int (nI i))]) hx hb dL_law_837 hl (by decide) rfl (fun ls hl => ?_)
    refine lv_aload_n hx hb dL_law_839 rfl (lv_at hl 3 rfl) ?_
    refine lv_aload_n hx hb dL_law_840 rfl (lv_at hl 1 rfl) ?_
    refine lv_iload hx hb dL_law_841 (lv_at hl 5 rfl) ?_
    refine lv_iconst (v := 1) hx hb dL_law_843 (by decide) ?_
    refine lv_iadd hx hb dL_law_844 ?_
    refine va_sld (s := s.setDrawn d) (A := mA s.heap.size) (i := nI i + 1) hx hb X.hX X.hbl hbA hS (by rw [show (1 : Int32) = nI 1 from rfl, nI_add]; exact vp_in_nI (by omega) (by omega)) dL_law_845 ?_
    refine lv_aload_n hx hb dL_law_846 rfl (lv_at hl 1 rfl) ?_
    refine lv_iload hx hb dL_law_847 (lv_at hl 5 rfl) ?_
    refine lv_iconst (v := 2) hx hb dL_law_849 (by decide) ?_
    refine lv_iadd hx hb dL_law_850 ?_
    refine va_sld (s := s.setDrawn d) (A := mA s.heap.size) (i := nI i + 2) hx hb X.hX X.hbl hbA hS (by rw [show (2 : Int32) = nI 2 from rfl, nI_add]; exact vp_in_nI (by omega) (by omega)) dL_law_851 ?_
    refine lv_aload_n hx hb dL_law_852 rfl (lv_at hl 1 rfl) ?_
    refine lv_iload hx hb dL_law_853 (lv_at hl 5 rfl) ?_
    refine lv_iconst (v := 3) hx hb dL_law_855 (by decide) ?_
    refine lv_iadd hx hb dL_law_856 ?_
    refine va_sld (s := s.setDrawn d) (A := mA s.heap.size) (i := nI i + 3) hx hb X.hX X.hbl hbA hS (by rw [show (3 : Int32) = nI 3 from rfl, nI_add]; exact vp_in_nI (by omega) (by omega)) dL_law_857 ?_
    refine lv_aload_n hx hb dL_law_858 rfl (lv_at hl 1 rfl) ?_
    refine lv_iload hx hb dL_law_859 (lv_at hl 5 rfl) ?_
    refine lv_iconst (v := 4) hx hb dL_law_861 (by decide) ?_
    refine lv_iadd hx hb dL_law_862 ?_
    refine va_sld (s := s.setDrawn d) (A := mA s.heap.size) (i := nI i + 4) hx hb X.hX X.hbl hbA hS (by rw [show (4 : Int32) = nI 4 from rfl, nI_add]; exact vp_in_nI (by omega) (by omega)) dL_law_863 ?_
    refine m_vNi (As := [.int (xs (nI i + 1).toNatClampNeg), .int (xs (nI i + 2).toNatClampNeg), .int (xs (nI i + 3).toNatClampNeg), .int (xs (nI i + 4).toNatClampNeg)]) (rest := []) (n := 4) hF hC hO hS (k_X6_addOrder l G _ sa ad1 _ th g nf F f no O it ch (xs (nI i + 1).toNatClampNeg) (xs (nI i + 2).toNatClampNeg) (xs (nI i + 3).toNatClampNeg) (xs (nI i + 4).toNatClampNeg) hnf hno (WC_at (by decide) ((mU_ne (by decide)).trans h200))) ok_X6_addOrder q_833 rfl rfl ⟨Nat.le_of_ble_eq_true rfl, Nat.le_of_ble_eq_true rfl⟩ rfl hl.1 rfl (Nat.le_of_ble_eq_true rfl) ⟨(by show _ ≤ 616075; omega), (by show _ ≤ 7247878; omega)⟩ dL_law_864 (fun v2 ad2 R2 H locs hp2 hO hS => ?_)
    dsimp only at hp2
    obtain ⟨-, rfl, ha2, hR2⟩ := hp2.resolve_right (fun z => z.1 hK)
    rw [ha2, hR2] at hO
    refine lv_istore (lv' := [(6, .int (nI no)), (5, .int 0), (0, .ref b), (1, .ref (ad1 0)), (2, .ref (ad1 50)), (3, .ref (ad1 60)), (4, .int (nI i))]) hx hb dL_law_867 hl (by decide) rfl (fun ls hl => ?_)
    refine lv_aload_n hx hb dL_law_869 rfl (lv_at hl 4 rfl) ?_
    refine m_vI (As := []) (rest := []) (n := 0) hF hC hO hS (k_X6_thrown l G _ sa ad1 _ 0 g nf F f (no + 1) (va_up O no (N_O (xs (nI i + 1).toNatClampNeg) (xs (nI i + 2).toNatClampNeg) (xs (nI i + 3).toNatClampNeg) (xs (nI i + 4).toNatClampNeg))) it ch hI2.1 hI2.2.1) ok_X6_thrown q_706 rfl rfl ⟨Nat.le_of_ble_eq_true rfl, Nat.le_of_ble_eq_true rfl⟩ rfl hl.1 rfl (Nat.le_of_ble_eq_true rfl) ⟨(by show _ ≤ 616075; omega), (by show _ ≤ 7247878; omega)⟩ dL_law_870 (fun v3 R3 H locs hp3 hO hS => ?_)
    obtain ⟨rfl, hR3⟩ := hp3
    rw [hR3] at hO
    refine lv_iload hx hb dL_law_873 (lv_at hl 1 rfl) ?_
    refine lv_icmp_eq (tgt := 880) hx hb dL_law_875 (by decide) (fun c875 => ?_) (fun c875 => absurd (by decide) c875)
    refine lv_iload hx hb dL_law_880 (lv_at hl 1 rfl) ?_
    refine lv_if_ne (tgt := 897) hx hb dL_law_882 (by decide) (fun c882 => absurd (by decide) c882) (fun c882 => ?_)
    refine lv_aload_n hx hb dL_law_885 rfl (lv_at hl 5 rfl) ?_
    refine lv_iconst (v := 0) hx hb dL_law_886 (by decide) ?_
    refine m_lald hF hC hO (WM_at (by decide) (WC_at (by decide) mU_self)) (j := 0) (by decide) (vp_in_nI (n := 0) (by decide) (by decide)) dL_law_887 ?_
    rw [vpL]
    refine lv_iload hx hb dL_law_888 (lv_at hl 0 rfl) ?_
    refine lv_i2l (v := ((nI no).toInt64)) hx hb dL_law_890 rfl ?_
    refine W.lcmp hx hb dL_law_891 ?_
    refine lv_if_eq (tgt := 897) hx hb dL_law_892 (by decide) (fun c892 => ?_) (fun c892 => absurd (lg_self _) c892)
    refine lv_goto (tgt := 1433) hx hb dL_law_897 (by decide) ?_
    exact hN d ad1 0 g nf F f (no + 1) (va_up O no (N_O (xs (nI i + 1).toNatClampNeg) (xs (nI i + 2).toNatClampNeg) (xs (nI i + 3).toNatClampNeg) (xs (nI i + 4).toNatClampNeg))) tf9 tv9 fw it ch _ _ _ _ _ _ _ hd hI2 hfw mU_self ((mU_ne (by decide)).trans h200) hO hS (lv_sub hl [2, 3, 4, 5, 6] rfl) (by omega) (by omega)
  · obtain ⟨ha1, hR1⟩ := Prod.mk.inj hR
    rw [ha1, hR1, WC_WM] at hO
    have hI2 := hI.up
    refine lv_istore (lv' := [(5, .int (K_addOrder g no (xs (nI i + 1).toNatClampNeg) (xs (nI i + 2).toNatClampNeg) (xs (nI i + 3).toNatClampNeg) (xs (nI i + 4).toNatClampNeg))), (0, .ref b), (1, .ref (ad 0)), (2, .ref (ad 50)), (3, .ref (ad 60)), (4, .int (nI i))]) hx hb dL_law_837 hl (by decide) rfl (fun ls hl => ?_)
    refine lv_aload_n hx hb dL_law_839 rfl (lv_at hl 3 rfl) ?_
    refine lv_aload_n hx hb dL_law_840 rfl (lv_at hl 1 rfl) ?_
    refine lv_iload hx hb dL_law_841 (lv_at hl 5 rfl) ?_
    refine lv_iconst (v := 1) hx hb dL_law_843 (by decide) ?_
    refine lv_iadd hx hb dL_law_844 ?_
    refine va_sld (s := s.setDrawn d) (A := mA s.heap.size) (i := nI i + 1) hx hb X.hX X.hbl hbA hS (by rw [show (1 : Int32) = nI 1 from rfl, nI_add]; exact vp_in_nI (by omega) (by omega)) dL_law_845 ?_
    refine lv_aload_n hx hb dL_law_846 rfl (lv_at hl 1 rfl) ?_
    refine lv_iload hx hb dL_law_847 (lv_at hl 5 rfl) ?_
    refine lv_iconst (v := 2) hx hb dL_law_849 (by decide) ?_
    refine lv_iadd hx hb dL_law_850 ?_
    refine va_sld (s := s.setDrawn d) (A := mA s.heap.size) (i := nI i + 2) hx hb X.hX X.hbl hbA hS (by rw [show (2 : Int32) = nI 2 from rfl, nI_add]; exact vp_in_nI (by omega) (by omega)) dL_law_851 ?_
    refine lv_aload_n hx hb dL_law_852 rfl (lv_at hl 1 rfl) ?_
    refine lv_iload hx hb dL_law_853 (lv_at hl 5 rfl) ?_
    refine lv_iconst (v := 3) hx hb dL_law_855 (by decide) ?_
    refine lv_iadd hx hb dL_law_856 ?_
    refine va_sld (s := s.setDrawn d) (A := mA s.heap.size) (i := nI i + 3) hx hb X.hX X.hbl hbA hS (by rw [show (3 : Int32) = nI 3 from rfl, nI_add]; exact vp_in_nI (by omega) (by omega)) dL_law_857 ?_
    refine lv_aload_n hx hb dL_law_858 rfl (lv_at hl 1 rfl) ?_
    refine lv_iload hx hb dL_law_859 (lv_at hl 5 rfl) ?_
    refine lv_iconst (v := 4) hx hb dL_law_861 (by decide) ?_
    refine lv_iadd hx hb dL_law_862 ?_
    refine va_sld (s := s.setDrawn d) (A := mA s.heap.size) (i := nI i + 4) hx hb X.hX X.hbl hbA hS (by rw [show (4 : Int32) = nI 4 from rfl, nI_add]; exact vp_in_nI (by omega) (by omega)) dL_law_863 ?_
    refine m_vNi (As := [.int (xs (nI i + 1).toNatClampNeg), .int (xs (nI i + 2).toNatClampNeg), .int (xs (nI i + 3).toNatClampNeg), .int (xs (nI i + 4).toNatClampNeg)]) (rest := []) (n := 4) hF hC hO hS (k_X6_addOrder l G _ sa ad _ th g nf F f no O it ch (xs (nI i + 1).toNatClampNeg) (xs (nI i + 2).toNatClampNeg) (xs (nI i + 3).toNatClampNeg) (xs (nI i + 4).toNatClampNeg) hnf hno (WC_at (by decide) h200)) ok_X6_addOrder q_833 rfl rfl ⟨Nat.le_of_ble_eq_true rfl, Nat.le_of_ble_eq_true rfl⟩ rfl hl.1 rfl (Nat.le_of_ble_eq_true rfl) ⟨(by show _ ≤ 616075; omega), (by show _ ≤ 7247878; omega)⟩ dL_law_864 (fun v2 ad2 R2 H locs hp2 hO hS => ?_)
    dsimp only at hp2
    obtain ⟨-, ha2, hR2⟩ := hp2.resolve_left (fun z => hK z.1)
    rw [ha2, hR2] at hO
    refine lv_istore (lv' := [(6, .int v2), (5, .int (K_addOrder g no (xs (nI i + 1).toNatClampNeg) (xs (nI i + 2).toNatClampNeg) (xs (nI i + 3).toNatClampNeg) (xs (nI i + 4).toNatClampNeg))), (0, .ref b), (1, .ref (ad 0)), (2, .ref (ad 50)), (3, .ref (ad 60)), (4, .int (nI i))]) hx hb dL_law_867 hl (by decide) rfl (fun ls hl => ?_)
    refine lv_aload_n hx hb dL_law_869 rfl (lv_at hl 4 rfl) ?_
    refine m_vI (As := []) (rest := []) (n := 0) hF hC hO hS (k_X6_thrown l G _ sa ad _ (K_addOrder g no (xs (nI i + 1).toNatClampNeg) (xs (nI i + 2).toNatClampNeg) (xs (nI i + 3).toNatClampNeg) (xs (nI i + 4).toNatClampNeg)) g nf F f no O it ch hI2.1 hI2.2.1) ok_X6_thrown q_706 rfl rfl ⟨Nat.le_of_ble_eq_true rfl, Nat.le_of_ble_eq_true rfl⟩ rfl hl.1 rfl (Nat.le_of_ble_eq_true rfl) ⟨(by show _ ≤ 616075; omega), (by show _ ≤ 7247878; omega)⟩ dL_law_870 (fun v3 R3 H locs hp3 hO hS => ?_)
    obtain ⟨rfl, hR3⟩ := hp3
    rw [hR3] at hO
    refine lv_iload hx hb dL_law_873 (lv_at hl 1 rfl) ?_
    refine lv_icmp_eq (tgt := 880) hx hb dL_law_875 (by decide) (fun c875 => ?_) (fun c875 => absurd (rfl) c875)
    refine lv_iload hx hb dL_law_880 (lv_at hl 1 rfl) ?_
    refine lv_if_ne (tgt := 897) hx hb dL_law_882 (by decide) (fun c882 => ?_) (fun c882 => absurd c882 (hK))
    refine lv_goto (tgt := 1433) hx hb dL_law_897 (by decide) ?_
    exact hN d ad (K_addOrder g no (xs (nI i + 1).toNatClampNeg) (xs (nI i + 2).toNatClampNeg) (xs (nI i + 3).toNatClampNeg) (xs (nI i + 4).toNatClampNeg)) g nf F f no O tf tv fw it ch o _ _ _ _ _ _ hd hI2 hfw h60 h200 hO hS (lv_sub hl [2, 3, 4, 5, 6] rfl) (by omega) (by omega)
set_option maxHeartbeats 1000000 in
set_option maxRecDepth 100000 in
theorem case_fill {p : Program} {l : Launch} {e : Env} {s : State} {m : MethodId} {below : List Frame} {meth : Method} {c : Code} {b L : Nat} {xs : Nat → Int32} {G : mG} {sa : Nat → Nat} (X : LwX p l s m meth c b L xs G sa) {i q : Nat} (hq : q < 512) (hi5 : i + 5 ≤ L) (hN : LAt p l e s m below meth c b G 1433 i (q + 1)) : LAt p l e s m below meth c b G 900 i q := by
  intro d ad th g nf F f no O tf tv fw it ch o Ro H locs ls cells slots hd hI hfw h60 h200 hO hS hl hc9 hs9
  have hF := X.hF d
  have hC := X.hC d
  have hx := hF.1
  have hb := hF.2.1
  have hbA : ¬ mA s.heap.size b := Nat.not_le.mpr X.hbl
  have hnf := hI.1
  have hno := hI.2.1
  have hL9 := X.hL
  rw [← WC_WM] at hO
  have hl : lv_has ls 9 [(0, .ref b), (1, .ref (ad 0)), (2, .ref (ad 50)), (3, .ref (ad 60)), (4, .int (nI i))] := hl
  refine lv_aload_n hx hb dL_law_900 rfl (lv_at hl 1 rfl) ?_
  refine lv_aload_n hx hb dL_law_901 rfl (lv_at hl 0 rfl) ?_
  refine lv_iload hx hb dL_law_902 (lv_at hl 4 rfl) ?_
  refine lv_iconst (v := 1) hx hb dL_law_904 (by decide) ?_
  refine lv_iadd hx hb dL_law_905 ?_
  refine va_sld (s := s.setDrawn d) (A := mA s.heap.size) (i := nI i + 1) hx hb X.hX X.hbl hbA hS (by rw [show (1 : Int32) = nI 1 from rfl, nI_add]; exact vp_in_nI (by omega) (by omega)) dL_law_906 ?_
  refine lv_aload_n hx hb dL_law_907 rfl (lv_at hl 3 rfl) ?_
  refine m_sW (As := [.ref (ad 0), .int (xs (nI i + 1).toNatClampNeg), .ref (ad 60)]) (rest := []) (n := 3) hF hC hO hS (k_L_fill l G _ sa ad _ g nf F f no O tf tv fw o (xs (nI i + 1).toNatClampNeg) hnf hno X.hfl (WM_at (by decide) h60) (fun j hj => by obtain ⟨kk, zz, mm, h1, h2, h3, _, _, e0, e1, _⟩ := hI.2.2.2.2.1 j hj; exact ⟨kk, zz, h1, h2, h3, e0, e1⟩)) ok_L_fill (by decide +kernel) q_563 ⟨Nat.le_of_ble_eq_true rfl, Nat.le_of_ble_eq_true rfl⟩ rfl hl.1 rfl (Nat.le_of_ble_eq_true rfl) ⟨(by show _ ≤ 616075; omega), (by show _ ≤ 7247878; omega)⟩ dL_law_908 (fun v1 ad1 R1 H locs hp hO hS => ?_)
  dsimp only at hp
  obtain ⟨hK, rfl, had, tf9, tv9, hR⟩ | ⟨hK, rfl, hR⟩ := hp
  · rw [hR, WM_ad (ad := ad) (ad1 := ad1) (fun x h1 h2 => had x (by omega)), WM_b, WC_WM] at hO
    rw [had 0 (by decide), had 50 (by decide), had 60 (by decide)] at hl
    obtain ⟨eF, hI2⟩ := s_fill hI (by omega) hK
    rw [eF, sum_st] at hO
    refine lv_istore (lv' := [(5, .int 0), (0, .ref b), (1, .ref (ad1 0)), (2, .ref (ad1 50)), (3, .ref (ad1 60)), (4, .int (nI i))]) hx hb dL_law_911 hl (by decide) rfl (fun ls hl => ?_)
    refine lv_aload_n hx hb dL_law_913 rfl (lv_at hl 3 rfl) ?_
    refine lv_aload_n hx hb dL_law_914 rfl (lv_at hl 1 rfl) ?_
    refine lv_iload hx hb dL_law_915 (lv_at hl 5 rfl) ?_
    refine lv_iconst (v := 1) hx hb dL_law_917 (by decide) ?_
    refine lv_iadd hx hb dL_law_918 ?_
    refine va_sld (s := s.setDrawn d) (A := mA s.heap.size) (i := nI i + 1) hx hb X.hX X.hbl hbA hS (by rw [show (1 : Int32) = nI 1 from rfl, nI_add]; exact vp_in_nI (by omega) (by omega)) dL_law_919 ?_
    refine m_vI (As := [.int (xs (nI i + 1).toNatClampNeg)]) (rest := []) (n := 1) hF hC hO hS (k_X6_fill l G _ sa ad1 _ th g nf F f no O it ch (xs (nI i + 1).toNatClampNeg) hnf hno (fun j hj => by obtain ⟨kk, zz, mm, h1, h2, h3, _, _, e0, e1, _⟩ := hI.2.2.2.2.1 j hj; exact ⟨kk, zz, h1, h2, h3, e0, e1⟩) (fun j hj => by obtain ⟨kk, zz, mm, h1, h2, h3, h4, h5, e0, e1, e2⟩ := hI.2.2.2.2.1 j hj; exact ⟨mm, h4, h5, e2⟩) (hI.2.2.2.2.2.ok (by omega))) ok_X6_fill q_837 rfl rfl ⟨Nat.le_of_ble_eq_true rfl, Nat.le_of_ble_eq_true rfl⟩ rfl hl.1 rfl (Nat.le_of_ble_eq_true rfl) ⟨(by show _ ≤ 616075; omega), (by show _ ≤ 7247878; omega)⟩ dL_law_920 (fun v2 R2 H locs hp2 hO hS => ?_)
    obtain ⟨-, rfl, it9, ch9, hR2⟩ := hp2.resolve_right (fun z => z.1 hK)
    rw [hR2] at hO
    refine lv_istore (lv' := [(6, .int (p_sum 40 (stF (f_fill f (O (nn (xs (nI i + 1).toNatClampNeg))))) 0 0)), (5, .int 0), (0, .ref b), (1, .ref (ad1 0)), (2, .ref (ad1 50)), (3, .ref (ad1 60)), (4, .int (nI i))]) hx hb dL_law_923 hl (by decide) rfl (fun ls hl => ?_)
    refine lv_aload_n hx hb dL_law_925 rfl (lv_at hl 4 rfl) ?_
    refine m_vI (As := []) (rest := []) (n := 0) hF hC hO hS (k_X6_thrown l G _ sa ad1 _ 0 g nf F (f_fill f (O (nn (xs (nI i + 1).toNatClampNeg)))) no (va_up O (nn (xs (nI i + 1).toNatClampNeg)) (upd (O (nn (xs (nI i + 1).toNatClampNeg))) 4 1)) it9 ch9 hI2.1 hI2.2.1) ok_X6_thrown q_706 rfl rfl ⟨Nat.le_of_ble_eq_true rfl, Nat.le_of_ble_eq_true rfl⟩ rfl hl.1 rfl (Nat.le_of_ble_eq_true rfl) ⟨(by show _ ≤ 616075; omega), (by show _ ≤ 7247878; omega)⟩ dL_law_926 (fun v3 R3 H locs hp3 hO hS => ?_)
    obtain ⟨rfl, hR3⟩ := hp3
    rw [hR3] at hO
    refine lv_iload hx hb dL_law_929 (lv_at hl 1 rfl) ?_
    refine lv_icmp_eq (tgt := 936) hx hb dL_law_931 (by decide) (fun c931 => ?_) (fun c931 => absurd (by decide) c931)
    refine lv_iload hx hb dL_law_936 (lv_at hl 1 rfl) ?_
    refine lv_if_ne (tgt := 953) hx hb dL_law_938 (by decide) (fun c938 => absurd (by decide) c938) (fun c938 => ?_)
    refine lv_aload_n hx hb dL_law_941 rfl (lv_at hl 5 rfl) ?_
    refine lv_iconst (v := 0) hx hb dL_law_942 (by decide) ?_
    refine m_lald hF hC hO (WM_at (by decide) (WC_at (by decide) mU_self)) (j := 0) (by decide) (vp_in_nI (n := 0) (by decide) (by decide)) dL_law_943 ?_
    rw [vpL]
    refine lv_iload hx hb dL_law_944 (lv_at hl 0 rfl) ?_
    refine lv_i2l (v := ((p_sum 40 (stF (f_fill f (O (nn (xs (nI i + 1).toNatClampNeg))))) 0 0).toInt64)) hx hb dL_law_946 rfl ?_
    refine W.lcmp hx hb dL_law_947 ?_
    refine lv_if_eq (tgt := 953) hx hb dL_law_948 (by decide) (fun c948 => ?_) (fun c948 => absurd (lg_self _) c948)
    refine lv_goto (tgt := 1433) hx hb dL_law_953 (by decide) ?_
    exact hN d ad1 0 g nf F (f_fill f (O (nn (xs (nI i + 1).toNatClampNeg)))) no (va_up O (nn (xs (nI i + 1).toNatClampNeg)) (upd (O (nn (xs (nI i + 1).toNatClampNeg))) 4 1)) tf9 tv9 fw it9 ch9 _ _ _ _ _ _ _ hd hI2 hfw mU_self ((mU_ne (by decide)).trans h200) hO hS (lv_sub hl [2, 3, 4, 5, 6] rfl) (by omega) (by omega)
  · obtain ⟨ha1, hR1⟩ := Prod.mk.inj hR
    rw [ha1, hR1, WC_WM] at hO
    have hI2 := hI.up
    refine lv_istore (lv' := [(5, .int (K_fill f no O (xs (nI i + 1).toNatClampNeg))), (0, .ref b), (1, .ref (ad 0)), (2, .ref (ad 50)), (3, .ref (ad 60)), (4, .int (nI i))]) hx hb dL_law_911 hl (by decide) rfl (fun ls hl => ?_)
    refine lv_aload_n hx hb dL_law_913 rfl (lv_at hl 3 rfl) ?_
    refine lv_aload_n hx hb dL_law_914 rfl (lv_at hl 1 rfl) ?_
    refine lv_iload hx hb dL_law_915 (lv_at hl 5 rfl) ?_
    refine lv_iconst (v := 1) hx hb dL_law_917 (by decide) ?_
    refine lv_iadd hx hb dL_law_918 ?_
    refine va_sld (s := s.setDrawn d) (A := mA s.heap.size) (i := nI i + 1) hx hb X.hX X.hbl hbA hS (by rw [show (1 : Int32) = nI 1 from rfl, nI_add]; exact vp_in_nI (by omega) (by omega)) dL_law_919 ?_
    refine m_vI (As := [.int (xs (nI i + 1).toNatClampNeg)]) (rest := []) (n := 1) hF hC hO hS (k_X6_fill l G _ sa ad _ th g nf F f no O it ch (xs (nI i + 1).toNatClampNeg) hnf hno (fun j hj => by obtain ⟨kk, zz, mm, h1, h2, h3, _, _, e0, e1, _⟩ := hI.2.2.2.2.1 j hj; exact ⟨kk, zz, h1, h2, h3, e0, e1⟩) (fun j hj => by obtain ⟨kk, zz, mm, h1, h2, h3, h4, h5, e0, e1, e2⟩ := hI.2.2.2.2.1 j hj; exact ⟨mm, h4, h5, e2⟩) (hI.2.2.2.2.2.ok (by omega))) ok_X6_fill q_837 rfl rfl ⟨Nat.le_of_ble_eq_true rfl, Nat.le_of_ble_eq_true rfl⟩ rfl hl.1 rfl (Nat.le_of_ble_eq_true rfl) ⟨(by show _ ≤ 616075; omega), (by show _ ≤ 7247878; omega)⟩ dL_law_920 (fun v2 R2 H locs hp2 hO hS => ?_)
    obtain ⟨-, it9, ch9, hR2⟩ := hp2.resolve_left (fun z => hK z.1)
    rw [hR2] at hO
    refine lv_istore (lv' := [(6, .int v2), (5, .int (K_fill f no O (xs (nI i + 1).toNatClampNeg))), (0, .ref b), (1, .ref (ad 0)), (2, .ref (ad 50)), (3, .ref (ad 60)), (4, .int (nI i))]) hx hb dL_law_923 hl (by decide) rfl (fun ls hl => ?_)
    refine lv_aload_n hx hb dL_law_925 rfl (lv_at hl 4 rfl) ?_
    refine m_vI (As := []) (rest := []) (n := 0) hF hC hO hS (k_X6_thrown l G _ sa ad _ (K_fill f no O (xs (nI i + 1).toNatClampNeg)) g nf F f no O it9 ch9 hI2.1 hI2.2.1) ok_X6_thrown q_706 rfl rfl ⟨Nat.le_of_ble_eq_true rfl, Nat.le_of_ble_eq_true rfl⟩ rfl hl.1 rfl (Nat.le_of_ble_eq_true rfl) ⟨(by show _ ≤ 616075; omega), (by show _ ≤ 7247878; omega)⟩ dL_law_926 (fun v3 R3 H locs hp3 hO hS => ?_)
    obtain ⟨rfl, hR3⟩ := hp3
    rw [hR3] at hO
    refine lv_iload hx hb dL_law_929 (lv_at hl 1 rfl) ?_
    refine lv_icmp_eq (tgt := 936) hx hb dL_law_931 (by decide) (fun c931 => ?_) (fun c931 => absurd (rfl) c931)
    refine lv_iload hx hb dL_law_936 (lv_at hl 1 rfl) ?_
    refine lv_if_ne (tgt := 953) hx hb dL_law_938 (by decide) (fun c938 => ?_) (fun c938 => absurd c938 (hK))
    refine lv_goto (tgt := 1433) hx hb dL_law_953 (by decide) ?_
    exact hN d ad (K_fill f no O (xs (nI i + 1).toNatClampNeg)) g nf F f no O tf tv fw it9 ch9 o _ _ _ _ _ _ hd hI2 hfw h60 h200 hO hS (lv_sub hl [2, 3, 4, 5, 6] rfl) (by omega) (by omega)
set_option maxHeartbeats 1000000 in
set_option maxRecDepth 100000 in
theorem case_order {p : Program} {l : Launch} {e : Env} {s : State} {m : MethodId} {below : List Frame} {meth : Method} {c : Code} {b L : Nat} {xs : Nat → Int32} {G : mG} {sa : Nat → Nat} (X : LwX p l s m meth c b L xs G sa) {i q : Nat} (hq : q < 512) (hi5 : i + 5 ≤ L) (hN : LAt p l e s m below meth c b G 1433 i (q + 1)) : LAt p l e s m below meth c b G 956 i q := by
  intro d ad th g nf F f no O tf tv fw it ch o Ro H locs ls cells slots hd hI hfw h60 h200 hO hS hl hc9 hs9
  have hF := X.hF d
  have hC := X.hC d
  have hx := hF.1
  have hb := hF.2.1
  have hbA : ¬ mA s.heap.size b := Nat.not_le.mpr X.hbl
  have hnf := hI.1
  have hno := hI.2.1
  have hL9 := X.hL
  rw [← WC_WM] at hO
  have hl : lv_has ls 9 [(0, .ref b), (1, .ref (ad 0)), (2, .ref (ad 50)), (3, .ref (ad 60)), (4, .int (nI i))] := hl
  refine lv_aload_n hx hb dL_law_956 rfl (lv_at hl 1 rfl) ?_
  refine lv_aload_n hx hb dL_law_957 rfl (lv_at hl 0 rfl) ?_
  refine lv_iload hx hb dL_law_958 (lv_at hl 4 rfl) ?_
  refine lv_iconst (v := 1) hx hb dL_law_960 (by decide) ?_
  refine lv_iadd hx hb dL_law_961 ?_
  refine va_sld (s := s.setDrawn d) (A := mA s.heap.size) (i := nI i + 1) hx hb X.hX X.hbl hbA hS (by rw [show (1 : Int32) = nI 1 from rfl, nI_add]; exact vp_in_nI (by omega) (by omega)) dL_law_962 ?_
  refine lv_aload_n hx hb dL_law_963 rfl (lv_at hl 0 rfl) ?_
  refine lv_iload hx hb dL_law_964 (lv_at hl 4 rfl) ?_
  refine lv_iconst (v := 2) hx hb dL_law_966 (by decide) ?_
  refine lv_iadd hx hb dL_law_967 ?_
  refine va_sld (s := s.setDrawn d) (A := mA s.heap.size) (i := nI i + 2) hx hb X.hX X.hbl hbA hS (by rw [show (2 : Int32) = nI 2 from rfl, nI_add]; exact vp_in_nI (by omega) (by omega)) dL_law_968 ?_
  refine lv_aload_n hx hb dL_law_969 rfl (lv_at hl 3 rfl) ?_
  refine m_sW (As := [.ref (ad 0), .int (xs (nI i + 1).toNatClampNeg), .int (xs (nI i + 2).toNatClampNeg), .ref (ad 60)]) (rest := []) (n := 4) hF hC hO hS (k_L_order l G _ sa ad _ g nf F f no O tf tv fw o (xs (nI i + 1).toNatClampNeg) (xs (nI i + 2).toNatClampNeg) hnf hno X.hfl (WM_at (by decide) h60) (fun j hj => by obtain ⟨kk, zz, mm, h1, h2, h3, _, _, e0, e1, _⟩ := hI.2.2.2.2.1 j hj; exact ⟨kk, zz, h1, h2, h3, e0, e1⟩)) ok_L_order (by decide +kernel) q_577 ⟨Nat.le_of_ble_eq_true rfl, Nat.le_of_ble_eq_true rfl⟩ rfl hl.1 rfl (Nat.le_of_ble_eq_true rfl) ⟨(by show _ ≤ 616075; omega), (by show _ ≤ 7247878; omega)⟩ dL_law_970 (fun v1 ad1 R1 H locs hp hO hS => ?_)
  dsimp only at hp
  obtain ⟨hK, rfl, had, tf9, tv9, hR⟩ | ⟨hK, rfl, hR⟩ := hp
  · rw [hR, WM_ad (ad := ad) (ad1 := ad1) (fun x h1 h2 => had x (by omega)), WM_b, WC_WM] at hO
    rw [had 0 (by decide), had 50 (by decide), had 60 (by decide)] at hl
    have hI2 := hI.up
    refine lv_istore (lv' := [(5, .int 0), (0, .ref b), (1, .ref (ad1 0)), (2, .ref (ad1 50)), (3, .ref (ad1 60)), (4, .int (nI i))]) hx hb dL_law_973 hl (by decide) rfl (fun ls hl => ?_)
    refine lv_aload_n hx hb dL_law_975 rfl (lv_at hl 3 rfl) ?_
    refine lv_aload_n hx hb dL_law_976 rfl (lv_at hl 1 rfl) ?_
    refine lv_iload hx hb dL_law_977 (lv_at hl 5 rfl) ?_
    refine lv_iconst (v := 1) hx hb dL_law_979 (by decide) ?_
    refine lv_iadd hx hb dL_law_980 ?_
    refine va_sld (s := s.setDrawn d) (A := mA s.heap.size) (i := nI i + 1) hx hb X.hX X.hbl hbA hS (by rw [show (1 : Int32) = nI 1 from rfl, nI_add]; exact vp_in_nI (by omega) (by omega)) dL_law_981 ?_
    refine lv_aload_n hx hb dL_law_982 rfl (lv_at hl 1 rfl) ?_
    refine lv_iload hx hb dL_law_983 (lv_at hl 5 rfl) ?_
    refine lv_iconst (v := 2) hx hb dL_law_985 (by decide) ?_
    refine lv_iadd hx hb dL_law_986 ?_
    refine va_sld (s := s.setDrawn d) (A := mA s.heap.size) (i := nI i + 2) hx hb X.hX X.hbl hbA hS (by rw [show (2 : Int32) = nI 2 from rfl, nI_add]; exact vp_in_nI (by omega) (by omega)) dL_law_987 ?_
    refine m_vI (As := [.int (xs (nI i + 1).toNatClampNeg), .int (xs (nI i + 2).toNatClampNeg)]) (rest := []) (n := 2) hF hC hO hS (k_X6_order l G _ sa ad1 _ th g nf F f no O it ch (xs (nI i + 1).toNatClampNeg) (xs (nI i + 2).toNatClampNeg) hnf hno (fun j hj => by obtain ⟨kk, zz, mm, h1, h2, h3, _, _, e0, e1, _⟩ := hI.2.2.2.2.1 j hj; exact ⟨kk, zz, h1, h2, h3, e0, e1⟩)) ok_X6_order q_853 rfl rfl ⟨Nat.le_of_ble_eq_true rfl, Nat.le_of_ble_eq_true rfl⟩ rfl hl.1 rfl (Nat.le_of_ble_eq_true rfl) ⟨(by show _ ≤ 616075; omega), (by show _ ≤ 7247878; omega)⟩ dL_law_988 (fun v2 R2 H locs hp2 hO hS => ?_)
    obtain ⟨-, rfl, it9, ch9, hR2⟩ := hp2.resolve_right (fun z => z.1 hK)
    rw [hR2] at hO
    refine lv_istore (lv' := [(6, .int (V_order f (O (nn (xs (nI i + 1).toNatClampNeg))) (nn (xs (nI i + 2).toNatClampNeg)))), (5, .int 0), (0, .ref b), (1, .ref (ad1 0)), (2, .ref (ad1 50)), (3, .ref (ad1 60)), (4, .int (nI i))]) hx hb dL_law_991 hl (by decide) rfl (fun ls hl => ?_)
    refine lv_aload_n hx hb dL_law_993 rfl (lv_at hl 4 rfl) ?_
    refine m_vI (As := []) (rest := []) (n := 0) hF hC hO hS (k_X6_thrown l G _ sa ad1 _ 0 g nf F f no O it9 ch9 hI2.1 hI2.2.1) ok_X6_thrown q_706 rfl rfl ⟨Nat.le_of_ble_eq_true rfl, Nat.le_of_ble_eq_true rfl⟩ rfl hl.1 rfl (Nat.le_of_ble_eq_true rfl) ⟨(by show _ ≤ 616075; omega), (by show _ ≤ 7247878; omega)⟩ dL_law_994 (fun v3 R3 H locs hp3 hO hS => ?_)
    obtain ⟨rfl, hR3⟩ := hp3
    rw [hR3] at hO
    refine lv_iload hx hb dL_law_997 (lv_at hl 1 rfl) ?_
    refine lv_icmp_eq (tgt := 1004) hx hb dL_law_999 (by decide) (fun c999 => ?_) (fun c999 => absurd (by decide) c999)
    refine lv_iload hx hb dL_law_1004 (lv_at hl 1 rfl) ?_
    refine lv_if_ne (tgt := 1021) hx hb dL_law_1006 (by decide) (fun c1006 => absurd (by decide) c1006) (fun c1006 => ?_)
    refine lv_aload_n hx hb dL_law_1009 rfl (lv_at hl 5 rfl) ?_
    refine lv_iconst (v := 0) hx hb dL_law_1010 (by decide) ?_
    refine m_lald hF hC hO (WM_at (by decide) (WC_at (by decide) mU_self)) (j := 0) (by decide) (vp_in_nI (n := 0) (by decide) (by decide)) dL_law_1011 ?_
    rw [vpL]
    refine lv_iload hx hb dL_law_1012 (lv_at hl 0 rfl) ?_
    refine lv_i2l (v := ((V_order f (O (nn (xs (nI i + 1).toNatClampNeg))) (nn (xs (nI i + 2).toNatClampNeg))).toInt64)) hx hb dL_law_1014 rfl ?_
    refine W.lcmp hx hb dL_law_1015 ?_
    refine lv_if_eq (tgt := 1021) hx hb dL_law_1016 (by decide) (fun c1016 => ?_) (fun c1016 => absurd (lg_self _) c1016)
    refine lv_goto (tgt := 1433) hx hb dL_law_1021 (by decide) ?_
    exact hN d ad1 0 g nf F f no O tf9 tv9 fw it9 ch9 _ _ _ _ _ _ _ hd hI2 hfw mU_self ((mU_ne (by decide)).trans h200) hO hS (lv_sub hl [2, 3, 4, 5, 6] rfl) (by omega) (by omega)
  · obtain ⟨ha1, hR1⟩ := Prod.mk.inj hR
    rw [ha1, hR1, WC_WM] at hO
    have hI2 := hI.up
    refine lv_istore (lv' := [(5, .int (K_order no (xs (nI i + 1).toNatClampNeg) (xs (nI i + 2).toNatClampNeg))), (0, .ref b), (1, .ref (ad 0)), (2, .ref (ad 50)), (3, .ref (ad 60)), (4, .int (nI i))]) hx hb dL_law_973 hl (by decide) rfl (fun ls hl => ?_)
    refine lv_aload_n hx hb dL_law_975 rfl (lv_at hl 3 rfl) ?_
    refine lv_aload_n hx hb dL_law_976 rfl (lv_at hl 1 rfl) ?_
    refine lv_iload hx hb dL_law_977 (lv_at hl 5 rfl) ?_
    refine lv_iconst (v := 1) hx hb dL_law_979 (by decide) ?_
    refine lv_iadd hx hb dL_law_980 ?_
    refine va_sld (s := s.setDrawn d) (A := mA s.heap.size) (i := nI i + 1) hx hb X.hX X.hbl hbA hS (by rw [show (1 : Int32) = nI 1 from rfl, nI_add]; exact vp_in_nI (by omega) (by omega)) dL_law_981 ?_
    refine lv_aload_n hx hb dL_law_982 rfl (lv_at hl 1 rfl) ?_
    refine lv_iload hx hb dL_law_983 (lv_at hl 5 rfl) ?_
    refine lv_iconst (v := 2) hx hb dL_law_985 (by decide) ?_
    refine lv_iadd hx hb dL_law_986 ?_
    refine va_sld (s := s.setDrawn d) (A := mA s.heap.size) (i := nI i + 2) hx hb X.hX X.hbl hbA hS (by rw [show (2 : Int32) = nI 2 from rfl, nI_add]; exact vp_in_nI (by omega) (by omega)) dL_law_987 ?_
    refine m_vI (As := [.int (xs (nI i + 1).toNatClampNeg), .int (xs (nI i + 2).toNatClampNeg)]) (rest := []) (n := 2) hF hC hO hS (k_X6_order l G _ sa ad _ th g nf F f no O it ch (xs (nI i + 1).toNatClampNeg) (xs (nI i + 2).toNatClampNeg) hnf hno (fun j hj => by obtain ⟨kk, zz, mm, h1, h2, h3, _, _, e0, e1, _⟩ := hI.2.2.2.2.1 j hj; exact ⟨kk, zz, h1, h2, h3, e0, e1⟩)) ok_X6_order q_853 rfl rfl ⟨Nat.le_of_ble_eq_true rfl, Nat.le_of_ble_eq_true rfl⟩ rfl hl.1 rfl (Nat.le_of_ble_eq_true rfl) ⟨(by show _ ≤ 616075; omega), (by show _ ≤ 7247878; omega)⟩ dL_law_988 (fun v2 R2 H locs hp2 hO hS => ?_)
    obtain ⟨-, it9, ch9, hR2⟩ := hp2.resolve_left (fun z => hK z.1)
    rw [hR2] at hO
    refine lv_istore (lv' := [(6, .int v2), (5, .int (K_order no (xs (nI i + 1).toNatClampNeg) (xs (nI i + 2).toNatClampNeg))), (0, .ref b), (1, .ref (ad 0)), (2, .ref (ad 50)), (3, .ref (ad 60)), (4, .int (nI i))]) hx hb dL_law_991 hl (by decide) rfl (fun ls hl => ?_)
    refine lv_aload_n hx hb dL_law_993 rfl (lv_at hl 4 rfl) ?_
    refine m_vI (As := []) (rest := []) (n := 0) hF hC hO hS (k_X6_thrown l G _ sa ad _ (K_order no (xs (nI i + 1).toNatClampNeg) (xs (nI i + 2).toNatClampNeg)) g nf F f no O it9 ch9 hI2.1 hI2.2.1) ok_X6_thrown q_706 rfl rfl ⟨Nat.le_of_ble_eq_true rfl, Nat.le_of_ble_eq_true rfl⟩ rfl hl.1 rfl (Nat.le_of_ble_eq_true rfl) ⟨(by show _ ≤ 616075; omega), (by show _ ≤ 7247878; omega)⟩ dL_law_994 (fun v3 R3 H locs hp3 hO hS => ?_)
    obtain ⟨rfl, hR3⟩ := hp3
    rw [hR3] at hO
    refine lv_iload hx hb dL_law_997 (lv_at hl 1 rfl) ?_
    refine lv_icmp_eq (tgt := 1004) hx hb dL_law_999 (by decide) (fun c999 => ?_) (fun c999 => absurd (rfl) c999)
    refine lv_iload hx hb dL_law_1004 (lv_at hl 1 rfl) ?_
    refine lv_if_ne (tgt := 1021) hx hb dL_law_1006 (by decide) (fun c1006 => ?_) (fun c1006 => absurd c1006 (hK))
    refine lv_goto (tgt := 1433) hx hb dL_law_1021 (by decide) ?_
    exact hN d ad (K_order no (xs (nI i + 1).toNatClampNeg) (xs (nI i + 2).toNatClampNeg)) g nf F f no O tf tv fw it9 ch9 o _ _ _ _ _ _ hd hI2 hfw h60 h200 hO hS (lv_sub hl [2, 3, 4, 5, 6] rfl) (by omega) (by omega)
set_option maxHeartbeats 1000000 in
set_option maxRecDepth 100000 in
theorem case_pass {p : Program} {l : Launch} {e : Env} {s : State} {m : MethodId} {below : List Frame} {meth : Method} {c : Code} {b L : Nat} {xs : Nat → Int32} {G : mG} {sa : Nat → Nat} (X : LwX p l s m meth c b L xs G sa) {i q : Nat} (hq : q < 512) (hi5 : i + 5 ≤ L) (hN : LAt p l e s m below meth c b G 1433 i (q + 1)) : LAt p l e s m below meth c b G 1024 i q := by
  intro d ad th g nf F f no O tf tv fw it ch o Ro H locs ls cells slots hd hI hfw h60 h200 hO hS hl hc9 hs9
  have hF := X.hF d
  have hC := X.hC d
  have hx := hF.1
  have hb := hF.2.1
  have hbA : ¬ mA s.heap.size b := Nat.not_le.mpr X.hbl
  have hnf := hI.1
  have hno := hI.2.1
  have hL9 := X.hL
  rw [← WC_WM] at hO
  have hl : lv_has ls 9 [(0, .ref b), (1, .ref (ad 0)), (2, .ref (ad 50)), (3, .ref (ad 60)), (4, .int (nI i))] := hl
  refine lv_aload_n hx hb dL_law_1024 rfl (lv_at hl 1 rfl) ?_
  refine lv_aload_n hx hb dL_law_1025 rfl (lv_at hl 0 rfl) ?_
  refine lv_iload hx hb dL_law_1026 (lv_at hl 4 rfl) ?_
  refine lv_iconst (v := 1) hx hb dL_law_1028 (by decide) ?_
  refine lv_iadd hx hb dL_law_1029 ?_
  refine va_sld (s := s.setDrawn d) (A := mA s.heap.size) (i := nI i + 1) hx hb X.hX X.hbl hbA hS (by rw [show (1 : Int32) = nI 1 from rfl, nI_add]; exact vp_in_nI (by omega) (by omega)) dL_law_1030 ?_
  refine lv_aload_n hx hb dL_law_1031 rfl (lv_at hl 3 rfl) ?_
  refine m_sW (As := [.ref (ad 0), .int (xs (nI i + 1).toNatClampNeg), .ref (ad 60)]) (rest := []) (n := 3) hF hC hO hS (k_L_pass l G _ sa ad _ g nf F f no O tf tv fw o (xs (nI i + 1).toNatClampNeg) hnf hno X.hfl (WM_at (by decide) h60) (by obtain ⟨_, _, n9, hn9, e9⟩ := hI.2.2.1; exact ⟨n9, by omega, e9⟩)) ok_L_pass (by decide +kernel) q_581 ⟨Nat.le_of_ble_eq_true rfl, Nat.le_of_ble_eq_true rfl⟩ rfl hl.1 rfl (Nat.le_of_ble_eq_true rfl) ⟨(by show _ ≤ 616075; omega), (by show _ ≤ 7247878; omega)⟩ dL_law_1032 (fun v1 ad1 R1 H locs hp hO hS => ?_)
  dsimp only at hp
  obtain ⟨hK, rfl, had, tf9, tv9, hR⟩ | ⟨hK, rfl, hR⟩ := hp
  · rw [hR, WM_ad (ad := ad) (ad1 := ad1) (fun x h1 h2 => had x (by omega)), WM_b, WC_WM] at hO
    rw [had 0 (by decide), had 50 (by decide), had 60 (by decide)] at hl
    have hI2 := s_pass hI hK
    refine lv_istore (lv' := [(5, .int 0), (0, .ref b), (1, .ref (ad1 0)), (2, .ref (ad1 50)), (3, .ref (ad1 60)), (4, .int (nI i))]) hx hb dL_law_1035 hl (by decide) rfl (fun ls hl => ?_)
    refine lv_aload_n hx hb dL_law_1037 rfl (lv_at hl 3 rfl) ?_
    refine lv_aload_n hx hb dL_law_1038 rfl (lv_at hl 1 rfl) ?_
    refine lv_iload hx hb dL_law_1039 (lv_at hl 5 rfl) ?_
    refine lv_iconst (v := 1) hx hb dL_law_1041 (by decide) ?_
    refine lv_iadd hx hb dL_law_1042 ?_
    refine va_sld (s := s.setDrawn d) (A := mA s.heap.size) (i := nI i + 1) hx hb X.hX X.hbl hbA hS (by rw [show (1 : Int32) = nI 1 from rfl, nI_add]; exact vp_in_nI (by omega) (by omega)) dL_law_1043 ?_
    refine m_vI (As := [.int (xs (nI i + 1).toNatClampNeg)]) (rest := []) (n := 1) hF hC hO hS (k_X6_pass l G _ sa ad1 _ th g nf F f no O it ch (xs (nI i + 1).toNatClampNeg) hnf hno ) ok_X6_pass q_861 rfl rfl ⟨Nat.le_of_ble_eq_true rfl, Nat.le_of_ble_eq_true rfl⟩ rfl hl.1 rfl (Nat.le_of_ble_eq_true rfl) ⟨(by show _ ≤ 616075; omega), (by show _ ≤ 7247878; omega)⟩ dL_law_1044 (fun v2 R2 H locs hp2 hO hS => ?_)
    obtain ⟨-, rfl, it9, ch9, hR2⟩ := hp2.resolve_right (fun z => z.1 hK)
    rw [hR2] at hO
    refine lv_istore (lv' := [(6, .int (m_pG (nn (xs (nI i + 1).toNatClampNeg)) g 1)), (5, .int 0), (0, .ref b), (1, .ref (ad1 0)), (2, .ref (ad1 50)), (3, .ref (ad1 60)), (4, .int (nI i))]) hx hb dL_law_1047 hl (by decide) rfl (fun ls hl => ?_)
    refine lv_aload_n hx hb dL_law_1049 rfl (lv_at hl 4 rfl) ?_
    refine m_vI (As := []) (rest := []) (n := 0) hF hC hO hS (k_X6_thrown l G _ sa ad1 _ 0 (m_pG (nn (xs (nI i + 1).toNatClampNeg)) g) nf (m_pF (nn (xs (nI i + 1).toNatClampNeg)) nf 12 F) f no (m_pO (nn (xs (nI i + 1).toNatClampNeg)) no g O) it9 ch9 hI2.1 hI2.2.1) ok_X6_thrown q_706 rfl rfl ⟨Nat.le_of_ble_eq_true rfl, Nat.le_of_ble_eq_true rfl⟩ rfl hl.1 rfl (Nat.le_of_ble_eq_true rfl) ⟨(by show _ ≤ 616075; omega), (by show _ ≤ 7247878; omega)⟩ dL_law_1050 (fun v3 R3 H locs hp3 hO hS => ?_)
    obtain ⟨rfl, hR3⟩ := hp3
    rw [hR3] at hO
    refine lv_iload hx hb dL_law_1053 (lv_at hl 1 rfl) ?_
    refine lv_icmp_eq (tgt := 1060) hx hb dL_law_1055 (by decide) (fun c1055 => ?_) (fun c1055 => absurd (by decide) c1055)
    refine lv_iload hx hb dL_law_1060 (lv_at hl 1 rfl) ?_
    refine lv_if_ne (tgt := 1077) hx hb dL_law_1062 (by decide) (fun c1062 => absurd (by decide) c1062) (fun c1062 => ?_)
    refine lv_aload_n hx hb dL_law_1065 rfl (lv_at hl 5 rfl) ?_
    refine lv_iconst (v := 0) hx hb dL_law_1066 (by decide) ?_
    refine m_lald hF hC hO (WM_at (by decide) (WC_at (by decide) mU_self)) (j := 0) (by decide) (vp_in_nI (n := 0) (by decide) (by decide)) dL_law_1067 ?_
    rw [vpL]
    refine lv_iload hx hb dL_law_1068 (lv_at hl 0 rfl) ?_
    refine lv_i2l (v := ((m_pG (nn (xs (nI i + 1).toNatClampNeg)) g 1).toInt64)) hx hb dL_law_1070 rfl ?_
    refine W.lcmp hx hb dL_law_1071 ?_
    refine lv_if_eq (tgt := 1077) hx hb dL_law_1072 (by decide) (fun c1072 => ?_) (fun c1072 => absurd (lg_self _) c1072)
    refine lv_goto (tgt := 1433) hx hb dL_law_1077 (by decide) ?_
    exact hN d ad1 0 (m_pG (nn (xs (nI i + 1).toNatClampNeg)) g) nf (m_pF (nn (xs (nI i + 1).toNatClampNeg)) nf 12 F) f no (m_pO (nn (xs (nI i + 1).toNatClampNeg)) no g O) tf9 tv9 fw it9 ch9 _ _ _ _ _ _ _ hd hI2 hfw mU_self ((mU_ne (by decide)).trans h200) hO hS (lv_sub hl [2, 3, 4, 5, 6] rfl) (by omega) (by omega)
  · obtain ⟨ha1, hR1⟩ := Prod.mk.inj hR
    rw [ha1, hR1, WC_WM] at hO
    have hI2 := hI.up
    refine lv_istore (lv' := [(5, .int (K_pass (xs (nI i + 1).toNatClampNeg))), (0, .ref b), (1, .ref (ad 0)), (2, .ref (ad 50)), (3, .ref (ad 60)), (4, .int (nI i))]) hx hb dL_law_1035 hl (by decide) rfl (fun ls hl => ?_)
    refine lv_aload_n hx hb dL_law_1037 rfl (lv_at hl 3 rfl) ?_
    refine lv_aload_n hx hb dL_law_1038 rfl (lv_at hl 1 rfl) ?_
    refine lv_iload hx hb dL_law_1039 (lv_at hl 5 rfl) ?_
    refine lv_iconst (v := 1) hx hb dL_law_1041 (by decide) ?_
    refine lv_iadd hx hb dL_law_1042 ?_
    refine va_sld (s := s.setDrawn d) (A := mA s.heap.size) (i := nI i + 1) hx hb X.hX X.hbl hbA hS (by rw [show (1 : Int32) = nI 1 from rfl, nI_add]; exact vp_in_nI (by omega) (by omega)) dL_law_1043 ?_
    refine m_vI (As := [.int (xs (nI i + 1).toNatClampNeg)]) (rest := []) (n := 1) hF hC hO hS (k_X6_pass l G _ sa ad _ th g nf F f no O it ch (xs (nI i + 1).toNatClampNeg) hnf hno ) ok_X6_pass q_861 rfl rfl ⟨Nat.le_of_ble_eq_true rfl, Nat.le_of_ble_eq_true rfl⟩ rfl hl.1 rfl (Nat.le_of_ble_eq_true rfl) ⟨(by show _ ≤ 616075; omega), (by show _ ≤ 7247878; omega)⟩ dL_law_1044 (fun v2 R2 H locs hp2 hO hS => ?_)
    obtain ⟨-, it9, ch9, hR2⟩ := hp2.resolve_left (fun z => hK z.1)
    rw [hR2] at hO
    refine lv_istore (lv' := [(6, .int v2), (5, .int (K_pass (xs (nI i + 1).toNatClampNeg))), (0, .ref b), (1, .ref (ad 0)), (2, .ref (ad 50)), (3, .ref (ad 60)), (4, .int (nI i))]) hx hb dL_law_1047 hl (by decide) rfl (fun ls hl => ?_)
    refine lv_aload_n hx hb dL_law_1049 rfl (lv_at hl 4 rfl) ?_
    refine m_vI (As := []) (rest := []) (n := 0) hF hC hO hS (k_X6_thrown l G _ sa ad _ (K_pass (xs (nI i + 1).toNatClampNeg)) g nf F f no O it9 ch9 hI2.1 hI2.2.1) ok_X6_thrown q_706 rfl rfl ⟨Nat.le_of_ble_eq_true rfl, Nat.le_of_ble_eq_true rfl⟩ rfl hl.1 rfl (Nat.le_of_ble_eq_true rfl) ⟨(by show _ ≤ 616075; omega), (by show _ ≤ 7247878; omega)⟩ dL_law_1050 (fun v3 R3 H locs hp3 hO hS => ?_)
    obtain ⟨rfl, hR3⟩ := hp3
    rw [hR3] at hO
    refine lv_iload hx hb dL_law_1053 (lv_at hl 1 rfl) ?_
    refine lv_icmp_eq (tgt := 1060) hx hb dL_law_1055 (by decide) (fun c1055 => ?_) (fun c1055 => absurd (rfl) c1055)
    refine lv_iload hx hb dL_law_1060 (lv_at hl 1 rfl) ?_
    refine lv_if_ne (tgt := 1077) hx hb dL_law_1062 (by decide) (fun c1062 => ?_) (fun c1062 => absurd c1062 (hK))
    refine lv_goto (tgt := 1433) hx hb dL_law_1077 (by decide) ?_
    exact hN d ad (K_pass (xs (nI i + 1).toNatClampNeg)) g nf F f no O tf tv fw it9 ch9 o _ _ _ _ _ _ hd hI2 hfw h60 h200 hO hS (lv_sub hl [2, 3, 4, 5, 6] rfl) (by omega) (by omega)
set_option maxHeartbeats 1000000 in
set_option maxRecDepth 100000 in
theorem case_count {p : Program} {l : Launch} {e : Env} {s : State} {m : MethodId} {below : List Frame} {meth : Method} {c : Code} {b L : Nat} {xs : Nat → Int32} {G : mG} {sa : Nat → Nat} (X : LwX p l s m meth c b L xs G sa) {i q : Nat} (hq : q < 512) (hi5 : i + 5 ≤ L) (hN : LAt p l e s m below meth c b G 1433 i (q + 1)) : LAt p l e s m below meth c b G 1080 i q := by
  intro d ad th g nf F f no O tf tv fw it ch o Ro H locs ls cells slots hd hI hfw h60 h200 hO hS hl hc9 hs9
  have hF := X.hF d
  have hC := X.hC d
  have hx := hF.1
  have hb := hF.2.1
  have hbA : ¬ mA s.heap.size b := Nat.not_le.mpr X.hbl
  have hnf := hI.1
  have hno := hI.2.1
  have hL9 := X.hL
  rw [← WC_WM] at hO
  have hl : lv_has ls 9 [(0, .ref b), (1, .ref (ad 0)), (2, .ref (ad 50)), (3, .ref (ad 60)), (4, .int (nI i))] := hl
  refine lv_aload_n hx hb dL_law_1080 rfl (lv_at hl 1 rfl) ?_
  refine lv_aload_n hx hb dL_law_1081 rfl (lv_at hl 0 rfl) ?_
  refine lv_iload hx hb dL_law_1082 (lv_at hl 4 rfl) ?_
  refine lv_iconst (v := 1) hx hb dL_law_1084 (by decide) ?_
  refine lv_iadd hx hb dL_law_1085 ?_
  refine va_sld (s := s.setDrawn d) (A := mA s.heap.size) (i := nI i + 1) hx hb X.hX X.hbl hbA hS (by rw [show (1 : Int32) = nI 1 from rfl, nI_add]; exact vp_in_nI (by omega) (by omega)) dL_law_1086 ?_
  refine lv_aload_n hx hb dL_law_1087 rfl (lv_at hl 3 rfl) ?_
  refine m_sW (As := [.ref (ad 0), .int (xs (nI i + 1).toNatClampNeg), .ref (ad 60)]) (rest := []) (n := 3) hF hC hO hS (k_L_count l G _ sa ad _ g nf F f no O tf tv fw o (xs (nI i + 1).toNatClampNeg) hnf hno X.hfl (WM_at (by decide) h60) ) ok_L_count (by decide +kernel) q_589 ⟨Nat.le_of_ble_eq_true rfl, Nat.le_of_ble_eq_true rfl⟩ rfl hl.1 rfl (Nat.le_of_ble_eq_true rfl) ⟨(by show _ ≤ 616075; omega), (by show _ ≤ 7247878; omega)⟩ dL_law_1088 (fun v1 ad1 R1 H locs hp hO hS => ?_)
  dsimp only at hp
  obtain ⟨hK, rfl, had, tf9, tv9, hR⟩ | ⟨hK, rfl, hR⟩ := hp
  · rw [hR, WM_ad (ad := ad) (ad1 := ad1) (fun x h1 h2 => had x (by omega)), WM_b, WC_WM] at hO
    rw [had 0 (by decide), had 50 (by decide), had 60 (by decide)] at hl
    rw [count_eq] at hO
    have hI2 := hI.up
    refine lv_istore (lv' := [(5, .int 0), (0, .ref b), (1, .ref (ad1 0)), (2, .ref (ad1 50)), (3, .ref (ad1 60)), (4, .int (nI i))]) hx hb dL_law_1091 hl (by decide) rfl (fun ls hl => ?_)
    refine lv_aload_n hx hb dL_law_1093 rfl (lv_at hl 3 rfl) ?_
    refine lv_aload_n hx hb dL_law_1094 rfl (lv_at hl 1 rfl) ?_
    refine lv_iload hx hb dL_law_1095 (lv_at hl 5 rfl) ?_
    refine lv_iconst (v := 1) hx hb dL_law_1097 (by decide) ?_
    refine lv_iadd hx hb dL_law_1098 ?_
    refine va_sld (s := s.setDrawn d) (A := mA s.heap.size) (i := nI i + 1) hx hb X.hX X.hbl hbA hS (by rw [show (1 : Int32) = nI 1 from rfl, nI_add]; exact vp_in_nI (by omega) (by omega)) dL_law_1099 ?_
    refine m_vI (As := [.int (xs (nI i + 1).toNatClampNeg)]) (rest := []) (n := 1) hF hC hO hS (k_X6_count l G _ sa ad1 _ th g nf F f no O it ch (xs (nI i + 1).toNatClampNeg) hnf hno ) ok_X6_count q_865 rfl rfl ⟨Nat.le_of_ble_eq_true rfl, Nat.le_of_ble_eq_true rfl⟩ rfl hl.1 rfl (Nat.le_of_ble_eq_true rfl) ⟨(by show _ ≤ 616075; omega), (by show _ ≤ 7247878; omega)⟩ dL_law_1100 (fun v2 R2 H locs hp2 hO hS => ?_)
    obtain ⟨-, rfl, it9, ch9, hR2⟩ := hp2.resolve_right (fun z => z.1 hK)
    rw [hR2] at hO
    refine lv_istore (lv' := [(6, .int (m_count g nf F f no O (nn (xs (nI i + 1).toNatClampNeg)))), (5, .int 0), (0, .ref b), (1, .ref (ad1 0)), (2, .ref (ad1 50)), (3, .ref (ad1 60)), (4, .int (nI i))]) hx hb dL_law_1103 hl (by decide) rfl (fun ls hl => ?_)
    refine lv_aload_n hx hb dL_law_1105 rfl (lv_at hl 4 rfl) ?_
    refine m_vI (As := []) (rest := []) (n := 0) hF hC hO hS (k_X6_thrown l G _ sa ad1 _ 0 g nf F f no O it9 ch9 hI2.1 hI2.2.1) ok_X6_thrown q_706 rfl rfl ⟨Nat.le_of_ble_eq_true rfl, Nat.le_of_ble_eq_true rfl⟩ rfl hl.1 rfl (Nat.le_of_ble_eq_true rfl) ⟨(by show _ ≤ 616075; omega), (by show _ ≤ 7247878; omega)⟩ dL_law_1106 (fun v3 R3 H locs hp3 hO hS => ?_)
    obtain ⟨rfl, hR3⟩ := hp3
    rw [hR3] at hO
    refine lv_iload hx hb dL_law_1109 (lv_at hl 1 rfl) ?_
    refine lv_icmp_eq (tgt := 1116) hx hb dL_law_1111 (by decide) (fun c1111 => ?_) (fun c1111 => absurd (by decide) c1111)
    refine lv_iload hx hb dL_law_1116 (lv_at hl 1 rfl) ?_
    refine lv_if_ne (tgt := 1133) hx hb dL_law_1118 (by decide) (fun c1118 => absurd (by decide) c1118) (fun c1118 => ?_)
    refine lv_aload_n hx hb dL_law_1121 rfl (lv_at hl 5 rfl) ?_
    refine lv_iconst (v := 0) hx hb dL_law_1122 (by decide) ?_
    refine m_lald hF hC hO (WM_at (by decide) (WC_at (by decide) mU_self)) (j := 0) (by decide) (vp_in_nI (n := 0) (by decide) (by decide)) dL_law_1123 ?_
    rw [vpL]
    refine lv_iload hx hb dL_law_1124 (lv_at hl 0 rfl) ?_
    refine lv_i2l (v := ((m_count g nf F f no O (nn (xs (nI i + 1).toNatClampNeg))).toInt64)) hx hb dL_law_1126 rfl ?_
    refine W.lcmp hx hb dL_law_1127 ?_
    refine lv_if_eq (tgt := 1133) hx hb dL_law_1128 (by decide) (fun c1128 => ?_) (fun c1128 => absurd (lg_self _) c1128)
    refine lv_goto (tgt := 1433) hx hb dL_law_1133 (by decide) ?_
    exact hN d ad1 0 g nf F f no O tf9 tv9 fw it9 ch9 _ _ _ _ _ _ _ hd hI2 hfw mU_self ((mU_ne (by decide)).trans h200) hO hS (lv_sub hl [2, 3, 4, 5, 6] rfl) (by omega) (by omega)
  · obtain ⟨ha1, hR1⟩ := Prod.mk.inj hR
    rw [ha1, hR1, WC_WM] at hO
    have hI2 := hI.up
    refine lv_istore (lv' := [(5, .int (K_count (xs (nI i + 1).toNatClampNeg))), (0, .ref b), (1, .ref (ad 0)), (2, .ref (ad 50)), (3, .ref (ad 60)), (4, .int (nI i))]) hx hb dL_law_1091 hl (by decide) rfl (fun ls hl => ?_)
    refine lv_aload_n hx hb dL_law_1093 rfl (lv_at hl 3 rfl) ?_
    refine lv_aload_n hx hb dL_law_1094 rfl (lv_at hl 1 rfl) ?_
    refine lv_iload hx hb dL_law_1095 (lv_at hl 5 rfl) ?_
    refine lv_iconst (v := 1) hx hb dL_law_1097 (by decide) ?_
    refine lv_iadd hx hb dL_law_1098 ?_
    refine va_sld (s := s.setDrawn d) (A := mA s.heap.size) (i := nI i + 1) hx hb X.hX X.hbl hbA hS (by rw [show (1 : Int32) = nI 1 from rfl, nI_add]; exact vp_in_nI (by omega) (by omega)) dL_law_1099 ?_
    refine m_vI (As := [.int (xs (nI i + 1).toNatClampNeg)]) (rest := []) (n := 1) hF hC hO hS (k_X6_count l G _ sa ad _ th g nf F f no O it ch (xs (nI i + 1).toNatClampNeg) hnf hno ) ok_X6_count q_865 rfl rfl ⟨Nat.le_of_ble_eq_true rfl, Nat.le_of_ble_eq_true rfl⟩ rfl hl.1 rfl (Nat.le_of_ble_eq_true rfl) ⟨(by show _ ≤ 616075; omega), (by show _ ≤ 7247878; omega)⟩ dL_law_1100 (fun v2 R2 H locs hp2 hO hS => ?_)
    obtain ⟨-, it9, ch9, hR2⟩ := hp2.resolve_left (fun z => hK z.1)
    rw [hR2] at hO
    refine lv_istore (lv' := [(6, .int v2), (5, .int (K_count (xs (nI i + 1).toNatClampNeg))), (0, .ref b), (1, .ref (ad 0)), (2, .ref (ad 50)), (3, .ref (ad 60)), (4, .int (nI i))]) hx hb dL_law_1103 hl (by decide) rfl (fun ls hl => ?_)
    refine lv_aload_n hx hb dL_law_1105 rfl (lv_at hl 4 rfl) ?_
    refine m_vI (As := []) (rest := []) (n := 0) hF hC hO hS (k_X6_thrown l G _ sa ad _ (K_count (xs (nI i + 1).toNatClampNeg)) g nf F f no O it9 ch9 hI2.1 hI2.2.1) ok_X6_thrown q_706 rfl rfl ⟨Nat.le_of_ble_eq_true rfl, Nat.le_of_ble_eq_true rfl⟩ rfl hl.1 rfl (Nat.le_of_ble_eq_true rfl) ⟨(by show _ ≤ 616075; omega), (by show _ ≤ 7247878; omega)⟩ dL_law_1106 (fun v3 R3 H locs hp3 hO hS => ?_)
    obtain ⟨rfl, hR3⟩ := hp3
    rw [hR3] at hO
    refine lv_iload hx hb dL_law_1109 (lv_at hl 1 rfl) ?_
    refine lv_icmp_eq (tgt := 1116) hx hb dL_law_1111 (by decide) (fun c1111 => ?_) (fun c1111 => absurd (rfl) c1111)
    refine lv_iload hx hb dL_law_1116 (lv_at hl 1 rfl) ?_
    refine lv_if_ne (tgt := 1133) hx hb dL_law_1118 (by decide) (fun c1118 => ?_) (fun c1118 => absurd c1118 (hK))
    refine lv_goto (tgt := 1433) hx hb dL_law_1133 (by decide) ?_
    exact hN d ad (K_count (xs (nI i + 1).toNatClampNeg)) g nf F f no O tf tv fw it9 ch9 o _ _ _ _ _ _ hd hI2 hfw h60 h200 hO hS (lv_sub hl [2, 3, 4, 5, 6] rfl) (by omega) (by omega)
set_option maxHeartbeats 1000000 in
set_option maxRecDepth 100000 in
theorem case_would {p : Program} {l : Launch} {e : Env} {s : State} {m : MethodId} {below : List Frame} {meth : Method} {c : Code} {b L : Nat} {xs : Nat → Int32} {G : mG} {sa : Nat → Nat} (X : LwX p l s m meth c b L xs G sa) {i q : Nat} (hq : q < 512) (hi5 : i + 5 ≤ L) (hN : LAt p l e s m below meth c b G 1433 i (q + 1)) : LAt p l e s m below meth c b G 1136 i q := by
  intro d ad th g nf F f no O tf tv fw it ch o Ro H locs ls cells slots hd hI hfw h60 h200 hO hS hl hc9 hs9
  have hF := X.hF d
  have hC := X.hC d
  have hx := hF.1
  have hb := hF.2.1
  have hbA : ¬ mA s.heap.size b := Nat.not_le.mpr X.hbl
  have hnf := hI.1
  have hno := hI.2.1
  have hL9 := X.hL
  rw [← WC_WM] at hO
  have hl : lv_has ls 9 [(0, .ref b), (1, .ref (ad 0)), (2, .ref (ad 50)), (3, .ref (ad 60)), (4, .int (nI i))] := hl
  refine lv_aload_n hx hb dL_law_1136 rfl (lv_at hl 1 rfl) ?_
  refine lv_aload_n hx hb dL_law_1137 rfl (lv_at hl 0 rfl) ?_
  refine lv_iload hx hb dL_law_1138 (lv_at hl 4 rfl) ?_
  refine lv_iconst (v := 1) hx hb dL_law_1140 (by decide) ?_
  refine lv_iadd hx hb dL_law_1141 ?_
  refine va_sld (s := s.setDrawn d) (A := mA s.heap.size) (i := nI i + 1) hx hb X.hX X.hbl hbA hS (by rw [show (1 : Int32) = nI 1 from rfl, nI_add]; exact vp_in_nI (by omega) (by omega)) dL_law_1142 ?_
  refine lv_aload_n hx hb dL_law_1143 rfl (lv_at hl 0 rfl) ?_
  refine lv_iload hx hb dL_law_1144 (lv_at hl 4 rfl) ?_
  refine lv_iconst (v := 2) hx hb dL_law_1146 (by decide) ?_
  refine lv_iadd hx hb dL_law_1147 ?_
  refine va_sld (s := s.setDrawn d) (A := mA s.heap.size) (i := nI i + 2) hx hb X.hX X.hbl hbA hS (by rw [show (2 : Int32) = nI 2 from rfl, nI_add]; exact vp_in_nI (by omega) (by omega)) dL_law_1148 ?_
  refine lv_aload_n hx hb dL_law_1149 rfl (lv_at hl 3 rfl) ?_
  refine m_sW (As := [.ref (ad 0), .int (xs (nI i + 1).toNatClampNeg), .int (xs (nI i + 2).toNatClampNeg), .ref (ad 60)]) (rest := []) (n := 4) hF hC hO hS (k_L_would l G _ sa ad _ g nf F f no O tf tv fw o (xs (nI i + 1).toNatClampNeg) (xs (nI i + 2).toNatClampNeg) hnf hno X.hfl (WM_at (by decide) h60) (fun i hi => by obtain ⟨_, t, m, c, _, _, hc, _, _, e4⟩ := hI.2.2.2.1 i hi; rw [e4]; rcases (show c = 0 ∨ c = 1 by omega) with rfl | rfl; exact Or.inl rfl; exact Or.inr rfl)) ok_L_would (by decide +kernel) q_593 ⟨Nat.le_of_ble_eq_true rfl, Nat.le_of_ble_eq_true rfl⟩ rfl hl.1 rfl (Nat.le_of_ble_eq_true rfl) ⟨(by show _ ≤ 616075; omega), (by show _ ≤ 7247878; omega)⟩ dL_law_1150 (fun v1 ad1 R1 H locs hp hO hS => ?_)
  dsimp only at hp
  obtain ⟨hK, rfl, had, tf9, tv9, hR⟩ | ⟨hK, rfl, hR⟩ := hp
  · rw [hR, WM_ad (ad := ad) (ad1 := ad1) (fun x h1 h2 => had x (by omega)), WM_b, WC_WM] at hO
    rw [had 0 (by decide), had 50 (by decide), had 60 (by decide)] at hl
    rw [s_would hI hK] at hO
    have hI2 := hI.up
    refine lv_istore (lv' := [(5, .int 0), (0, .ref b), (1, .ref (ad1 0)), (2, .ref (ad1 50)), (3, .ref (ad1 60)), (4, .int (nI i))]) hx hb dL_law_1153 hl (by decide) rfl (fun ls hl => ?_)
    refine lv_aload_n hx hb dL_law_1155 rfl (lv_at hl 3 rfl) ?_
    refine lv_aload_n hx hb dL_law_1156 rfl (lv_at hl 1 rfl) ?_
    refine lv_iload hx hb dL_law_1157 (lv_at hl 5 rfl) ?_
    refine lv_iconst (v := 1) hx hb dL_law_1159 (by decide) ?_
    refine lv_iadd hx hb dL_law_1160 ?_
    refine va_sld (s := s.setDrawn d) (A := mA s.heap.size) (i := nI i + 1) hx hb X.hX X.hbl hbA hS (by rw [show (1 : Int32) = nI 1 from rfl, nI_add]; exact vp_in_nI (by omega) (by omega)) dL_law_1161 ?_
    refine lv_aload_n hx hb dL_law_1162 rfl (lv_at hl 1 rfl) ?_
    refine lv_iload hx hb dL_law_1163 (lv_at hl 5 rfl) ?_
    refine lv_iconst (v := 2) hx hb dL_law_1165 (by decide) ?_
    refine lv_iadd hx hb dL_law_1166 ?_
    refine va_sld (s := s.setDrawn d) (A := mA s.heap.size) (i := nI i + 2) hx hb X.hX X.hbl hbA hS (by rw [show (2 : Int32) = nI 2 from rfl, nI_add]; exact vp_in_nI (by omega) (by omega)) dL_law_1167 ?_
    refine m_vI (As := [.int (xs (nI i + 1).toNatClampNeg), .int (xs (nI i + 2).toNatClampNeg)]) (rest := []) (n := 2) hF hC hO hS (k_X6_would l G _ sa ad1 _ th g nf F f no O it ch (xs (nI i + 1).toNatClampNeg) (xs (nI i + 2).toNatClampNeg) hnf hno ) ok_X6_would q_877 rfl rfl ⟨Nat.le_of_ble_eq_true rfl, Nat.le_of_ble_eq_true rfl⟩ rfl hl.1 rfl (Nat.le_of_ble_eq_true rfl) ⟨(by show _ ≤ 616075; omega), (by show _ ≤ 7247878; omega)⟩ dL_law_1168 (fun v2 R2 H locs hp2 hO hS => ?_)
    obtain ⟨-, rfl, it9, ch9, hR2⟩ := hp2.resolve_right (fun z => z.1 hK)
    rw [hR2] at hO
    refine lv_istore (lv' := [(6, .int (m_tryL (nn (xs (nI i + 2).toNatClampNeg)) (g 2) (F (nn (xs (nI i + 1).toNatClampNeg))) (m_t g (F (nn (xs (nI i + 1).toNatClampNeg)))))), (5, .int 0), (0, .ref b), (1, .ref (ad1 0)), (2, .ref (ad1 50)), (3, .ref (ad1 60)), (4, .int (nI i))]) hx hb dL_law_1171 hl (by decide) rfl (fun ls hl => ?_)
    refine lv_aload_n hx hb dL_law_1173 rfl (lv_at hl 4 rfl) ?_
    refine m_vI (As := []) (rest := []) (n := 0) hF hC hO hS (k_X6_thrown l G _ sa ad1 _ 0 g nf F f no O it9 ch9 hI2.1 hI2.2.1) ok_X6_thrown q_706 rfl rfl ⟨Nat.le_of_ble_eq_true rfl, Nat.le_of_ble_eq_true rfl⟩ rfl hl.1 rfl (Nat.le_of_ble_eq_true rfl) ⟨(by show _ ≤ 616075; omega), (by show _ ≤ 7247878; omega)⟩ dL_law_1174 (fun v3 R3 H locs hp3 hO hS => ?_)
    obtain ⟨rfl, hR3⟩ := hp3
    rw [hR3] at hO
    refine lv_iload hx hb dL_law_1177 (lv_at hl 1 rfl) ?_
    refine lv_icmp_eq (tgt := 1184) hx hb dL_law_1179 (by decide) (fun c1179 => ?_) (fun c1179 => absurd (by decide) c1179)
    refine lv_iload hx hb dL_law_1184 (lv_at hl 1 rfl) ?_
    refine lv_if_ne (tgt := 1201) hx hb dL_law_1186 (by decide) (fun c1186 => absurd (by decide) c1186) (fun c1186 => ?_)
    refine lv_aload_n hx hb dL_law_1189 rfl (lv_at hl 5 rfl) ?_
    refine lv_iconst (v := 0) hx hb dL_law_1190 (by decide) ?_
    refine m_lald hF hC hO (WM_at (by decide) (WC_at (by decide) mU_self)) (j := 0) (by decide) (vp_in_nI (n := 0) (by decide) (by decide)) dL_law_1191 ?_
    rw [vpL]
    refine lv_iload hx hb dL_law_1192 (lv_at hl 0 rfl) ?_
    refine lv_i2l (v := ((m_tryL (nn (xs (nI i + 2).toNatClampNeg)) (g 2) (F (nn (xs (nI i + 1).toNatClampNeg))) (m_t g (F (nn (xs (nI i + 1).toNatClampNeg))))).toInt64)) hx hb dL_law_1194 rfl ?_
    refine W.lcmp hx hb dL_law_1195 ?_
    refine lv_if_eq (tgt := 1201) hx hb dL_law_1196 (by decide) (fun c1196 => ?_) (fun c1196 => absurd (lg_self _) c1196)
    refine lv_goto (tgt := 1433) hx hb dL_law_1201 (by decide) ?_
    exact hN d ad1 0 g nf F f no O tf9 tv9 fw it9 ch9 _ _ _ _ _ _ _ hd hI2 hfw mU_self ((mU_ne (by decide)).trans h200) hO hS (lv_sub hl [2, 3, 4, 5, 6] rfl) (by omega) (by omega)
  · obtain ⟨ha1, hR1⟩ := Prod.mk.inj hR
    rw [ha1, hR1, WC_WM] at hO
    have hI2 := hI.up
    refine lv_istore (lv' := [(5, .int (K_would nf F (xs (nI i + 1).toNatClampNeg) (xs (nI i + 2).toNatClampNeg))), (0, .ref b), (1, .ref (ad 0)), (2, .ref (ad 50)), (3, .ref (ad 60)), (4, .int (nI i))]) hx hb dL_law_1153 hl (by decide) rfl (fun ls hl => ?_)
    refine lv_aload_n hx hb dL_law_1155 rfl (lv_at hl 3 rfl) ?_
    refine lv_aload_n hx hb dL_law_1156 rfl (lv_at hl 1 rfl) ?_
    refine lv_iload hx hb dL_law_1157 (lv_at hl 5 rfl) ?_
    refine lv_iconst (v := 1) hx hb dL_law_1159 (by decide) ?_
    refine lv_iadd hx hb dL_law_1160 ?_
    refine va_sld (s := s.setDrawn d) (A := mA s.heap.size) (i := nI i + 1) hx hb X.hX X.hbl hbA hS (by rw [show (1 : Int32) = nI 1 from rfl, nI_add]; exact vp_in_nI (by omega) (by omega)) dL_law_1161 ?_
    refine lv_aload_n hx hb dL_law_1162 rfl (lv_at hl 1 rfl) ?_
    refine lv_iload hx hb dL_law_1163 (lv_at hl 5 rfl) ?_
    refine lv_iconst (v := 2) hx hb dL_law_1165 (by decide) ?_
    refine lv_iadd hx hb dL_law_1166 ?_
    refine va_sld (s := s.setDrawn d) (A := mA s.heap.size) (i := nI i + 2) hx hb X.hX X.hbl hbA hS (by rw [show (2 : Int32) = nI 2 from rfl, nI_add]; exact vp_in_nI (by omega) (by omega)) dL_law_1167 ?_
    refine m_vI (As := [.int (xs (nI i + 1).toNatClampNeg), .int (xs (nI i + 2).toNatClampNeg)]) (rest := []) (n := 2) hF hC hO hS (k_X6_would l G _ sa ad _ th g nf F f no O it ch (xs (nI i + 1).toNatClampNeg) (xs (nI i + 2).toNatClampNeg) hnf hno ) ok_X6_would q_877 rfl rfl ⟨Nat.le_of_ble_eq_true rfl, Nat.le_of_ble_eq_true rfl⟩ rfl hl.1 rfl (Nat.le_of_ble_eq_true rfl) ⟨(by show _ ≤ 616075; omega), (by show _ ≤ 7247878; omega)⟩ dL_law_1168 (fun v2 R2 H locs hp2 hO hS => ?_)
    obtain ⟨-, it9, ch9, hR2⟩ := hp2.resolve_left (fun z => hK z.1)
    rw [hR2] at hO
    refine lv_istore (lv' := [(6, .int v2), (5, .int (K_would nf F (xs (nI i + 1).toNatClampNeg) (xs (nI i + 2).toNatClampNeg))), (0, .ref b), (1, .ref (ad 0)), (2, .ref (ad 50)), (3, .ref (ad 60)), (4, .int (nI i))]) hx hb dL_law_1171 hl (by decide) rfl (fun ls hl => ?_)
    refine lv_aload_n hx hb dL_law_1173 rfl (lv_at hl 4 rfl) ?_
    refine m_vI (As := []) (rest := []) (n := 0) hF hC hO hS (k_X6_thrown l G _ sa ad _ (K_would nf F (xs (nI i + 1).toNatClampNeg) (xs (nI i + 2).toNatClampNeg)) g nf F f no O it9 ch9 hI2.1 hI2.2.1) ok_X6_thrown q_706 rfl rfl ⟨Nat.le_of_ble_eq_true rfl, Nat.le_of_ble_eq_true rfl⟩ rfl hl.1 rfl (Nat.le_of_ble_eq_true rfl) ⟨(by show _ ≤ 616075; omega), (by show _ ≤ 7247878; omega)⟩ dL_law_1174 (fun v3 R3 H locs hp3 hO hS => ?_)
    obtain ⟨rfl, hR3⟩ := hp3
    rw [hR3] at hO
    refine lv_iload hx hb dL_law_1177 (lv_at hl 1 rfl) ?_
    refine lv_icmp_eq (tgt := 1184) hx hb dL_law_1179 (by decide) (fun c1179 => ?_) (fun c1179 => absurd (rfl) c1179)
    refine lv_iload hx hb dL_law_1184 (lv_at hl 1 rfl) ?_
    refine lv_if_ne (tgt := 1201) hx hb dL_law_1186 (by decide) (fun c1186 => ?_) (fun c1186 => absurd c1186 (hK))
    refine lv_goto (tgt := 1433) hx hb dL_law_1201 (by decide) ?_
    exact hN d ad (K_would nf F (xs (nI i + 1).toNatClampNeg) (xs (nI i + 2).toNatClampNeg)) g nf F f no O tf tv fw it9 ch9 o _ _ _ _ _ _ hd hI2 hfw h60 h200 hO hS (lv_sub hl [2, 3, 4, 5, 6] rfl) (by omega) (by omega)
set_option maxHeartbeats 1000000 in
set_option maxRecDepth 100000 in
theorem case_dipsTo {p : Program} {l : Launch} {e : Env} {s : State} {m : MethodId} {below : List Frame} {meth : Method} {c : Code} {b L : Nat} {xs : Nat → Int32} {G : mG} {sa : Nat → Nat} (X : LwX p l s m meth c b L xs G sa) {i q : Nat} (hq : q < 512) (hi5 : i + 5 ≤ L) (hN : LAt p l e s m below meth c b G 1433 i (q + 1)) : LAt p l e s m below meth c b G 1204 i q := by
  intro d ad th g nf F f no O tf tv fw it ch o Ro H locs ls cells slots hd hI hfw h60 h200 hO hS hl hc9 hs9
  have hF := X.hF d
  have hC := X.hC d
  have hx := hF.1
  have hb := hF.2.1
  have hbA : ¬ mA s.heap.size b := Nat.not_le.mpr X.hbl
  have hnf := hI.1
  have hno := hI.2.1
  have hL9 := X.hL
  rw [← WC_WM] at hO
  have hl : lv_has ls 9 [(0, .ref b), (1, .ref (ad 0)), (2, .ref (ad 50)), (3, .ref (ad 60)), (4, .int (nI i))] := hl
  refine lv_aload_n hx hb dL_law_1204 rfl (lv_at hl 1 rfl) ?_
  refine lv_aload_n hx hb dL_law_1205 rfl (lv_at hl 0 rfl) ?_
  refine lv_iload hx hb dL_law_1206 (lv_at hl 4 rfl) ?_
  refine lv_iconst (v := 1) hx hb dL_law_1208 (by decide) ?_
  refine lv_iadd hx hb dL_law_1209 ?_
  refine va_sld (s := s.setDrawn d) (A := mA s.heap.size) (i := nI i + 1) hx hb X.hX X.hbl hbA hS (by rw [show (1 : Int32) = nI 1 from rfl, nI_add]; exact vp_in_nI (by omega) (by omega)) dL_law_1210 ?_
  refine lv_aload_n hx hb dL_law_1211 rfl (lv_at hl 0 rfl) ?_
  refine lv_iload hx hb dL_law_1212 (lv_at hl 4 rfl) ?_
  refine lv_iconst (v := 2) hx hb dL_law_1214 (by decide) ?_
  refine lv_iadd hx hb dL_law_1215 ?_
  refine va_sld (s := s.setDrawn d) (A := mA s.heap.size) (i := nI i + 2) hx hb X.hX X.hbl hbA hS (by rw [show (2 : Int32) = nI 2 from rfl, nI_add]; exact vp_in_nI (by omega) (by omega)) dL_law_1216 ?_
  refine lv_aload_n hx hb dL_law_1217 rfl (lv_at hl 0 rfl) ?_
  refine lv_iload hx hb dL_law_1218 (lv_at hl 4 rfl) ?_
  refine lv_iconst (v := 3) hx hb dL_law_1220 (by decide) ?_
  refine lv_iadd hx hb dL_law_1221 ?_
  refine va_sld (s := s.setDrawn d) (A := mA s.heap.size) (i := nI i + 3) hx hb X.hX X.hbl hbA hS (by rw [show (3 : Int32) = nI 3 from rfl, nI_add]; exact vp_in_nI (by omega) (by omega)) dL_law_1222 ?_
  refine lv_aload_n hx hb dL_law_1223 rfl (lv_at hl 3 rfl) ?_
  refine m_sW (As := [.ref (ad 0), .int (xs (nI i + 1).toNatClampNeg), .int (xs (nI i + 2).toNatClampNeg), .int (xs (nI i + 3).toNatClampNeg), .ref (ad 60)]) (rest := []) (n := 5) hF hC hO hS (k_L_dipsTo l G _ sa ad _ g nf F f no O tf tv fw o (xs (nI i + 1).toNatClampNeg) (xs (nI i + 2).toNatClampNeg) (xs (nI i + 3).toNatClampNeg) hnf hno X.hfl (WM_at (by decide) h60) (fun i hi => by obtain ⟨_, t, m, c, _, _, hc, _, _, e4⟩ := hI.2.2.2.1 i hi; rw [e4]; rcases (show c = 0 ∨ c = 1 by omega) with rfl | rfl; exact Or.inl rfl; exact Or.inr rfl)) ok_L_dipsTo (by decide +kernel) q_625 ⟨Nat.le_of_ble_eq_true rfl, Nat.le_of_ble_eq_true rfl⟩ rfl hl.1 rfl (Nat.le_of_ble_eq_true rfl) ⟨(by show _ ≤ 616075; omega), (by show _ ≤ 7247878; omega)⟩ dL_law_1224 (fun v1 ad1 R1 H locs hp hO hS => ?_)
  dsimp only at hp
  obtain ⟨hK, rfl, had, tf9, tv9, hR⟩ | ⟨hK, rfl, hR⟩ := hp
  · rw [hR, WM_ad (ad := ad) (ad1 := ad1) (fun x h1 h2 => had x (by omega)), WM_b, WC_WM] at hO
    rw [had 0 (by decide), had 50 (by decide), had 60 (by decide)] at hl
    rw [s_dipsTo hI hK] at hO
    have hI2 := hI.up
    refine lv_istore (lv' := [(5, .int 0), (0, .ref b), (1, .ref (ad1 0)), (2, .ref (ad1 50)), (3, .ref (ad1 60)), (4, .int (nI i))]) hx hb dL_law_1227 hl (by decide) rfl (fun ls hl => ?_)
    refine lv_aload_n hx hb dL_law_1229 rfl (lv_at hl 3 rfl) ?_
    refine lv_aload_n hx hb dL_law_1230 rfl (lv_at hl 1 rfl) ?_
    refine lv_iload hx hb dL_law_1231 (lv_at hl 5 rfl) ?_
    refine lv_iconst (v := 1) hx hb dL_law_1233 (by decide) ?_
    refine lv_iadd hx hb dL_law_1234 ?_
    refine va_sld (s := s.setDrawn d) (A := mA s.heap.size) (i := nI i + 1) hx hb X.hX X.hbl hbA hS (by rw [show (1 : Int32) = nI 1 from rfl, nI_add]; exact vp_in_nI (by omega) (by omega)) dL_law_1235 ?_
    refine lv_aload_n hx hb dL_law_1236 rfl (lv_at hl 1 rfl) ?_
    refine lv_iload hx hb dL_law_1237 (lv_at hl 5 rfl) ?_
    refine lv_iconst (v := 2) hx hb dL_law_1239 (by decide) ?_
    refine lv_iadd hx hb dL_law_1240 ?_
    refine va_sld (s := s.setDrawn d) (A := mA s.heap.size) (i := nI i + 2) hx hb X.hX X.hbl hbA hS (by rw [show (2 : Int32) = nI 2 from rfl, nI_add]; exact vp_in_nI (by omega) (by omega)) dL_law_1241 ?_
    refine lv_aload_n hx hb dL_law_1242 rfl (lv_at hl 1 rfl) ?_
    refine lv_iload hx hb dL_law_1243 (lv_at hl 5 rfl) ?_
    refine lv_iconst (v := 3) hx hb dL_law_1245 (by decide) ?_
    refine lv_iadd hx hb dL_law_1246 ?_
    refine va_sld (s := s.setDrawn d) (A := mA s.heap.size) (i := nI i + 3) hx hb X.hX X.hbl hbA hS (by rw [show (3 : Int32) = nI 3 from rfl, nI_add]; exact vp_in_nI (by omega) (by omega)) dL_law_1247 ?_
    refine m_vI (As := [.int (xs (nI i + 1).toNatClampNeg), .int (xs (nI i + 2).toNatClampNeg), .int (xs (nI i + 3).toNatClampNeg)]) (rest := []) (n := 3) hF hC hO hS (k_X6_dipsTo l G _ sa ad1 _ th g nf F f no O it ch (xs (nI i + 1).toNatClampNeg) (xs (nI i + 2).toNatClampNeg) (xs (nI i + 3).toNatClampNeg) hnf hno ) ok_X6_dipsTo q_881 rfl rfl ⟨Nat.le_of_ble_eq_true rfl, Nat.le_of_ble_eq_true rfl⟩ rfl hl.1 rfl (Nat.le_of_ble_eq_true rfl) ⟨(by show _ ≤ 616075; omega), (by show _ ≤ 7247878; omega)⟩ dL_law_1248 (fun v2 R2 H locs hp2 hO hS => ?_)
    obtain ⟨-, rfl, it9, ch9, hR2⟩ := hp2.resolve_right (fun z => z.1 hK)
    rw [hR2] at hO
    refine lv_istore (lv' := [(6, .int (m_need (nn (xs (nI i + 2).toNatClampNeg)) (xs (nI i + 3).toNatClampNeg) (g 2) (F (nn (xs (nI i + 1).toNatClampNeg))) (m_t g (F (nn (xs (nI i + 1).toNatClampNeg)))))), (5, .int 0), (0, .ref b), (1, .ref (ad1 0)), (2, .ref (ad1 50)), (3, .ref (ad1 60)), (4, .int (nI i))]) hx hb dL_law_1251 hl (by decide) rfl (fun ls hl => ?_)
    refine lv_aload_n hx hb dL_law_1253 rfl (lv_at hl 4 rfl) ?_
    refine m_vI (As := []) (rest := []) (n := 0) hF hC hO hS (k_X6_thrown l G _ sa ad1 _ 0 g nf F f no O it9 ch9 hI2.1 hI2.2.1) ok_X6_thrown q_706 rfl rfl ⟨Nat.le_of_ble_eq_true rfl, Nat.le_of_ble_eq_true rfl⟩ rfl hl.1 rfl (Nat.le_of_ble_eq_true rfl) ⟨(by show _ ≤ 616075; omega), (by show _ ≤ 7247878; omega)⟩ dL_law_1254 (fun v3 R3 H locs hp3 hO hS => ?_)
    obtain ⟨rfl, hR3⟩ := hp3
    rw [hR3] at hO
    refine lv_iload hx hb dL_law_1257 (lv_at hl 1 rfl) ?_
    refine lv_icmp_eq (tgt := 1264) hx hb dL_law_1259 (by decide) (fun c1259 => ?_) (fun c1259 => absurd (by decide) c1259)
    refine lv_iload hx hb dL_law_1264 (lv_at hl 1 rfl) ?_
    refine lv_if_ne (tgt := 1281) hx hb dL_law_1266 (by decide) (fun c1266 => absurd (by decide) c1266) (fun c1266 => ?_)
    refine lv_aload_n hx hb dL_law_1269 rfl (lv_at hl 5 rfl) ?_
    refine lv_iconst (v := 0) hx hb dL_law_1270 (by decide) ?_
    refine m_lald hF hC hO (WM_at (by decide) (WC_at (by decide) mU_self)) (j := 0) (by decide) (vp_in_nI (n := 0) (by decide) (by decide)) dL_law_1271 ?_
    rw [vpL]
    refine lv_iload hx hb dL_law_1272 (lv_at hl 0 rfl) ?_
    refine lv_i2l (v := ((m_need (nn (xs (nI i + 2).toNatClampNeg)) (xs (nI i + 3).toNatClampNeg) (g 2) (F (nn (xs (nI i + 1).toNatClampNeg))) (m_t g (F (nn (xs (nI i + 1).toNatClampNeg))))).toInt64)) hx hb dL_law_1274 rfl ?_
    refine W.lcmp hx hb dL_law_1275 ?_
    refine lv_if_eq (tgt := 1281) hx hb dL_law_1276 (by decide) (fun c1276 => ?_) (fun c1276 => absurd (lg_self _) c1276)
    refine lv_goto (tgt := 1433) hx hb dL_law_1281 (by decide) ?_
    exact hN d ad1 0 g nf F f no O tf9 tv9 fw it9 ch9 _ _ _ _ _ _ _ hd hI2 hfw mU_self ((mU_ne (by decide)).trans h200) hO hS (lv_sub hl [2, 3, 4, 5, 6] rfl) (by omega) (by omega)
  · obtain ⟨ha1, hR1⟩ := Prod.mk.inj hR
    rw [ha1, hR1, WC_WM] at hO
    have hI2 := hI.up
    refine lv_istore (lv' := [(5, .int (K_dipsTo nf F (xs (nI i + 1).toNatClampNeg) (xs (nI i + 2).toNatClampNeg) (xs (nI i + 3).toNatClampNeg))), (0, .ref b), (1, .ref (ad 0)), (2, .ref (ad 50)), (3, .ref (ad 60)), (4, .int (nI i))]) hx hb dL_law_1227 hl (by decide) rfl (fun ls hl => ?_)
    refine lv_aload_n hx hb dL_law_1229 rfl (lv_at hl 3 rfl) ?_
    refine lv_aload_n hx hb dL_law_1230 rfl (lv_at hl 1 rfl) ?_
    refine lv_iload hx hb dL_law_1231 (lv_at hl 5 rfl) ?_
    refine lv_iconst (v := 1) hx hb dL_law_1233 (by decide) ?_
    refine lv_iadd hx hb dL_law_1234 ?_
    refine va_sld (s := s.setDrawn d) (A := mA s.heap.size) (i := nI i + 1) hx hb X.hX X.hbl hbA hS (by rw [show (1 : Int32) = nI 1 from rfl, nI_add]; exact vp_in_nI (by omega) (by omega)) dL_law_1235 ?_
    refine lv_aload_n hx hb dL_law_1236 rfl (lv_at hl 1 rfl) ?_
    refine lv_iload hx hb dL_law_1237 (lv_at hl 5 rfl) ?_
    refine lv_iconst (v := 2) hx hb dL_law_1239 (by decide) ?_
    refine lv_iadd hx hb dL_law_1240 ?_
    refine va_sld (s := s.setDrawn d) (A := mA s.heap.size) (i := nI i + 2) hx hb X.hX X.hbl hbA hS (by rw [show (2 : Int32) = nI 2 from rfl, nI_add]; exact vp_in_nI (by omega) (by omega)) dL_law_1241 ?_
    refine lv_aload_n hx hb dL_law_1242 rfl (lv_at hl 1 rfl) ?_
    refine lv_iload hx hb dL_law_1243 (lv_at hl 5 rfl) ?_
    refine lv_iconst (v := 3) hx hb dL_law_1245 (by decide) ?_
    refine lv_iadd hx hb dL_law_1246 ?_
    refine va_sld (s := s.setDrawn d) (A := mA s.heap.size) (i := nI i + 3) hx hb X.hX X.hbl hbA hS (by rw [show (3 : Int32) = nI 3 from rfl, nI_add]; exact vp_in_nI (by omega) (by omega)) dL_law_1247 ?_
    refine m_vI (As := [.int (xs (nI i + 1).toNatClampNeg), .int (xs (nI i + 2).toNatClampNeg), .int (xs (nI i + 3).toNatClampNeg)]) (rest := []) (n := 3) hF hC hO hS (k_X6_dipsTo l G _ sa ad _ th g nf F f no O it ch (xs (nI i + 1).toNatClampNeg) (xs (nI i + 2).toNatClampNeg) (xs (nI i + 3).toNatClampNeg) hnf hno ) ok_X6_dipsTo q_881 rfl rfl ⟨Nat.le_of_ble_eq_true rfl, Nat.le_of_ble_eq_true rfl⟩ rfl hl.1 rfl (Nat.le_of_ble_eq_true rfl) ⟨(by show _ ≤ 616075; omega), (by show _ ≤ 7247878; omega)⟩ dL_law_1248 (fun v2 R2 H locs hp2 hO hS => ?_)
    obtain ⟨-, it9, ch9, hR2⟩ := hp2.resolve_left (fun z => hK z.1)
    rw [hR2] at hO
    refine lv_istore (lv' := [(6, .int v2), (5, .int (K_dipsTo nf F (xs (nI i + 1).toNatClampNeg) (xs (nI i + 2).toNatClampNeg) (xs (nI i + 3).toNatClampNeg))), (0, .ref b), (1, .ref (ad 0)), (2, .ref (ad 50)), (3, .ref (ad 60)), (4, .int (nI i))]) hx hb dL_law_1251 hl (by decide) rfl (fun ls hl => ?_)
    refine lv_aload_n hx hb dL_law_1253 rfl (lv_at hl 4 rfl) ?_
    refine m_vI (As := []) (rest := []) (n := 0) hF hC hO hS (k_X6_thrown l G _ sa ad _ (K_dipsTo nf F (xs (nI i + 1).toNatClampNeg) (xs (nI i + 2).toNatClampNeg) (xs (nI i + 3).toNatClampNeg)) g nf F f no O it9 ch9 hI2.1 hI2.2.1) ok_X6_thrown q_706 rfl rfl ⟨Nat.le_of_ble_eq_true rfl, Nat.le_of_ble_eq_true rfl⟩ rfl hl.1 rfl (Nat.le_of_ble_eq_true rfl) ⟨(by show _ ≤ 616075; omega), (by show _ ≤ 7247878; omega)⟩ dL_law_1254 (fun v3 R3 H locs hp3 hO hS => ?_)
    obtain ⟨rfl, hR3⟩ := hp3
    rw [hR3] at hO
    refine lv_iload hx hb dL_law_1257 (lv_at hl 1 rfl) ?_
    refine lv_icmp_eq (tgt := 1264) hx hb dL_law_1259 (by decide) (fun c1259 => ?_) (fun c1259 => absurd (rfl) c1259)
    refine lv_iload hx hb dL_law_1264 (lv_at hl 1 rfl) ?_
    refine lv_if_ne (tgt := 1281) hx hb dL_law_1266 (by decide) (fun c1266 => ?_) (fun c1266 => absurd c1266 (hK))
    refine lv_goto (tgt := 1433) hx hb dL_law_1281 (by decide) ?_
    exact hN d ad (K_dipsTo nf F (xs (nI i + 1).toNatClampNeg) (xs (nI i + 2).toNatClampNeg) (xs (nI i + 3).toNatClampNeg)) g nf F f no O tf tv fw it9 ch9 o _ _ _ _ _ _ hd hI2 hfw h60 h200 hO hS (lv_sub hl [2, 3, 4, 5, 6] rfl) (by omega) (by omega)
set_option maxHeartbeats 1000000 in
set_option maxRecDepth 100000 in
theorem case_bestRest {p : Program} {l : Launch} {e : Env} {s : State} {m : MethodId} {below : List Frame} {meth : Method} {c : Code} {b L : Nat} {xs : Nat → Int32} {G : mG} {sa : Nat → Nat} (X : LwX p l s m meth c b L xs G sa) {i q : Nat} (hq : q < 512) (hi5 : i + 5 ≤ L) (hN : LAt p l e s m below meth c b G 1433 i (q + 1)) : LAt p l e s m below meth c b G 1284 i q := by
  intro d ad th g nf F f no O tf tv fw it ch o Ro H locs ls cells slots hd hI hfw h60 h200 hO hS hl hc9 hs9
  have hF := X.hF d
  have hC := X.hC d
  have hx := hF.1
  have hb := hF.2.1
  have hbA : ¬ mA s.heap.size b := Nat.not_le.mpr X.hbl
  have hnf := hI.1
  have hno := hI.2.1
  have hL9 := X.hL
  rw [← WC_WM] at hO
  have hl : lv_has ls 9 [(0, .ref b), (1, .ref (ad 0)), (2, .ref (ad 50)), (3, .ref (ad 60)), (4, .int (nI i))] := hl
  refine lv_aload_n hx hb dL_law_1284 rfl (lv_at hl 1 rfl) ?_
  refine lv_aload_n hx hb dL_law_1285 rfl (lv_at hl 0 rfl) ?_
  refine lv_iload hx hb dL_law_1286 (lv_at hl 4 rfl) ?_
  refine lv_iconst (v := 1) hx hb dL_law_1288 (by decide) ?_
  refine lv_iadd hx hb dL_law_1289 ?_
  refine va_sld (s := s.setDrawn d) (A := mA s.heap.size) (i := nI i + 1) hx hb X.hX X.hbl hbA hS (by rw [show (1 : Int32) = nI 1 from rfl, nI_add]; exact vp_in_nI (by omega) (by omega)) dL_law_1290 ?_
  refine lv_aload_n hx hb dL_law_1291 rfl (lv_at hl 0 rfl) ?_
  refine lv_iload hx hb dL_law_1292 (lv_at hl 4 rfl) ?_
  refine lv_iconst (v := 2) hx hb dL_law_1294 (by decide) ?_
  refine lv_iadd hx hb dL_law_1295 ?_
  refine va_sld (s := s.setDrawn d) (A := mA s.heap.size) (i := nI i + 2) hx hb X.hX X.hbl hbA hS (by rw [show (2 : Int32) = nI 2 from rfl, nI_add]; exact vp_in_nI (by omega) (by omega)) dL_law_1296 ?_
  refine lv_aload_n hx hb dL_law_1297 rfl (lv_at hl 3 rfl) ?_
  refine m_sW (As := [.ref (ad 0), .int (xs (nI i + 1).toNatClampNeg), .int (xs (nI i + 2).toNatClampNeg), .ref (ad 60)]) (rest := []) (n := 4) hF hC hO hS (k_L_bestRest l G _ sa ad _ g nf F f no O tf tv fw o (xs (nI i + 1).toNatClampNeg) (xs (nI i + 2).toNatClampNeg) hnf hno X.hfl (WM_at (by decide) h60) (fun i hi => by obtain ⟨_, t, m, c, _, _, hc, _, _, e4⟩ := hI.2.2.2.1 i hi; rw [e4]; rcases (show c = 0 ∨ c = 1 by omega) with rfl | rfl; exact Or.inl rfl; exact Or.inr rfl)) ok_L_bestRest (by decide +kernel) q_643 ⟨Nat.le_of_ble_eq_true rfl, Nat.le_of_ble_eq_true rfl⟩ rfl hl.1 rfl (Nat.le_of_ble_eq_true rfl) ⟨(by show _ ≤ 616075; omega), (by show _ ≤ 7247878; omega)⟩ dL_law_1298 (fun v1 ad1 R1 H locs hp hO hS => ?_)
  dsimp only at hp
  obtain ⟨hK, rfl, had, tf9, tv9, hR⟩ | ⟨hK, rfl, hR⟩ := hp
  · rw [hR, WM_ad (ad := ad) (ad1 := ad1) (fun x h1 h2 => had x (by omega)), WM_b, WC_WM] at hO
    rw [had 0 (by decide), had 50 (by decide), had 60 (by decide)] at hl
    rw [s_bestRest hI hK] at hO
    have hI2 := hI.up
    refine lv_istore (lv' := [(5, .int 0), (0, .ref b), (1, .ref (ad1 0)), (2, .ref (ad1 50)), (3, .ref (ad1 60)), (4, .int (nI i))]) hx hb dL_law_1301 hl (by decide) rfl (fun ls hl => ?_)
    refine lv_aload_n hx hb dL_law_1303 rfl (lv_at hl 3 rfl) ?_
    refine lv_aload_n hx hb dL_law_1304 rfl (lv_at hl 1 rfl) ?_
    refine lv_iload hx hb dL_law_1305 (lv_at hl 5 rfl) ?_
    refine lv_iconst (v := 1) hx hb dL_law_1307 (by decide) ?_
    refine lv_iadd hx hb dL_law_1308 ?_
    refine va_sld (s := s.setDrawn d) (A := mA s.heap.size) (i := nI i + 1) hx hb X.hX X.hbl hbA hS (by rw [show (1 : Int32) = nI 1 from rfl, nI_add]; exact vp_in_nI (by omega) (by omega)) dL_law_1309 ?_
    refine lv_aload_n hx hb dL_law_1310 rfl (lv_at hl 1 rfl) ?_
    refine lv_iload hx hb dL_law_1311 (lv_at hl 5 rfl) ?_
    refine lv_iconst (v := 2) hx hb dL_law_1313 (by decide) ?_
    refine lv_iadd hx hb dL_law_1314 ?_
    refine va_sld (s := s.setDrawn d) (A := mA s.heap.size) (i := nI i + 2) hx hb X.hX X.hbl hbA hS (by rw [show (2 : Int32) = nI 2 from rfl, nI_add]; exact vp_in_nI (by omega) (by omega)) dL_law_1315 ?_
    refine m_vI (As := [.int (xs (nI i + 1).toNatClampNeg), .int (xs (nI i + 2).toNatClampNeg)]) (rest := []) (n := 2) hF hC hO hS (k_X6_bestRest l G _ sa ad1 _ th g nf F f no O it ch (xs (nI i + 1).toNatClampNeg) (xs (nI i + 2).toNatClampNeg) hnf hno ) ok_X6_bestRest q_889 rfl rfl ⟨Nat.le_of_ble_eq_true rfl, Nat.le_of_ble_eq_true rfl⟩ rfl hl.1 rfl (Nat.le_of_ble_eq_true rfl) ⟨(by show _ ≤ 616075; omega), (by show _ ≤ 7247878; omega)⟩ dL_law_1316 (fun v2 R2 H locs hp2 hO hS => ?_)
    obtain ⟨-, rfl, it9, ch9, hR2⟩ := hp2.resolve_right (fun z => z.1 hK)
    rw [hR2] at hO
    refine lv_istore (lv' := [(6, .int (m_bestL 21 (-1) 0 (xs (nI i + 2).toNatClampNeg) g (F (nn (xs (nI i + 1).toNatClampNeg))))), (5, .int 0), (0, .ref b), (1, .ref (ad1 0)), (2, .ref (ad1 50)), (3, .ref (ad1 60)), (4, .int (nI i))]) hx hb dL_law_1319 hl (by decide) rfl (fun ls hl => ?_)
    refine lv_aload_n hx hb dL_law_1321 rfl (lv_at hl 4 rfl) ?_
    refine m_vI (As := []) (rest := []) (n := 0) hF hC hO hS (k_X6_thrown l G _ sa ad1 _ 0 g nf F f no O it9 ch9 hI2.1 hI2.2.1) ok_X6_thrown q_706 rfl rfl ⟨Nat.le_of_ble_eq_true rfl, Nat.le_of_ble_eq_true rfl⟩ rfl hl.1 rfl (Nat.le_of_ble_eq_true rfl) ⟨(by show _ ≤ 616075; omega), (by show _ ≤ 7247878; omega)⟩ dL_law_1322 (fun v3 R3 H locs hp3 hO hS => ?_)
    obtain ⟨rfl, hR3⟩ := hp3
    rw [hR3] at hO
    refine lv_iload hx hb dL_law_1325 (lv_at hl 1 rfl) ?_
    refine lv_icmp_eq (tgt := 1332) hx hb dL_law_1327 (by decide) (fun c1327 => ?_) (fun c1327 => absurd (by decide) c1327)
    refine lv_iload hx hb dL_law_1332 (lv_at hl 1 rfl) ?_
    refine lv_if_ne (tgt := 1349) hx hb dL_law_1334 (by decide) (fun c1334 => absurd (by decide) c1334) (fun c1334 => ?_)
    refine lv_aload_n hx hb dL_law_1337 rfl (lv_at hl 5 rfl) ?_
    refine lv_iconst (v := 0) hx hb dL_law_1338 (by decide) ?_
    refine m_lald hF hC hO (WM_at (by decide) (WC_at (by decide) mU_self)) (j := 0) (by decide) (vp_in_nI (n := 0) (by decide) (by decide)) dL_law_1339 ?_
    rw [vpL]
    refine lv_iload hx hb dL_law_1340 (lv_at hl 0 rfl) ?_
    refine lv_i2l (v := ((m_bestL 21 (-1) 0 (xs (nI i + 2).toNatClampNeg) g (F (nn (xs (nI i + 1).toNatClampNeg)))).toInt64)) hx hb dL_law_1342 rfl ?_
    refine W.lcmp hx hb dL_law_1343 ?_
    refine lv_if_eq (tgt := 1349) hx hb dL_law_1344 (by decide) (fun c1344 => ?_) (fun c1344 => absurd (lg_self _) c1344)
    refine lv_goto (tgt := 1433) hx hb dL_law_1349 (by decide) ?_
    exact hN d ad1 0 g nf F f no O tf9 tv9 fw it9 ch9 _ _ _ _ _ _ _ hd hI2 hfw mU_self ((mU_ne (by decide)).trans h200) hO hS (lv_sub hl [2, 3, 4, 5, 6] rfl) (by omega) (by omega)
  · obtain ⟨ha1, hR1⟩ := Prod.mk.inj hR
    rw [ha1, hR1, WC_WM] at hO
    have hI2 := hI.up
    refine lv_istore (lv' := [(5, .int (K_bestRest nf F (xs (nI i + 1).toNatClampNeg) (xs (nI i + 2).toNatClampNeg))), (0, .ref b), (1, .ref (ad 0)), (2, .ref (ad 50)), (3, .ref (ad 60)), (4, .int (nI i))]) hx hb dL_law_1301 hl (by decide) rfl (fun ls hl => ?_)
    refine lv_aload_n hx hb dL_law_1303 rfl (lv_at hl 3 rfl) ?_
    refine lv_aload_n hx hb dL_law_1304 rfl (lv_at hl 1 rfl) ?_
    refine lv_iload hx hb dL_law_1305 (lv_at hl 5 rfl) ?_
    refine lv_iconst (v := 1) hx hb dL_law_1307 (by decide) ?_
    refine lv_iadd hx hb dL_law_1308 ?_
    refine va_sld (s := s.setDrawn d) (A := mA s.heap.size) (i := nI i + 1) hx hb X.hX X.hbl hbA hS (by rw [show (1 : Int32) = nI 1 from rfl, nI_add]; exact vp_in_nI (by omega) (by omega)) dL_law_1309 ?_
    refine lv_aload_n hx hb dL_law_1310 rfl (lv_at hl 1 rfl) ?_
    refine lv_iload hx hb dL_law_1311 (lv_at hl 5 rfl) ?_
    refine lv_iconst (v := 2) hx hb dL_law_1313 (by decide) ?_
    refine lv_iadd hx hb dL_law_1314 ?_
    refine va_sld (s := s.setDrawn d) (A := mA s.heap.size) (i := nI i + 2) hx hb X.hX X.hbl hbA hS (by rw [show (2 : Int32) = nI 2 from rfl, nI_add]; exact vp_in_nI (by omega) (by omega)) dL_law_1315 ?_
    refine m_vI (As := [.int (xs (nI i + 1).toNatClampNeg), .int (xs (nI i + 2).toNatClampNeg)]) (rest := []) (n := 2) hF hC hO hS (k_X6_bestRest l G _ sa ad _ th g nf F f no O it ch (xs (nI i + 1).toNatClampNeg) (xs (nI i + 2).toNatClampNeg) hnf hno ) ok_X6_bestRest q_889 rfl rfl ⟨Nat.le_of_ble_eq_true rfl, Nat.le_of_ble_eq_true rfl⟩ rfl hl.1 rfl (Nat.le_of_ble_eq_true rfl) ⟨(by show _ ≤ 616075; omega), (by show _ ≤ 7247878; omega)⟩ dL_law_1316 (fun v2 R2 H locs hp2 hO hS => ?_)
    obtain ⟨-, it9, ch9, hR2⟩ := hp2.resolve_left (fun z => hK z.1)
    rw [hR2] at hO
    refine lv_istore (lv' := [(6, .int v2), (5, .int (K_bestRest nf F (xs (nI i + 1).toNatClampNeg) (xs (nI i + 2).toNatClampNeg))), (0, .ref b), (1, .ref (ad 0)), (2, .ref (ad 50)), (3, .ref (ad 60)), (4, .int (nI i))]) hx hb dL_law_1319 hl (by decide) rfl (fun ls hl => ?_)
    refine lv_aload_n hx hb dL_law_1321 rfl (lv_at hl 4 rfl) ?_
    refine m_vI (As := []) (rest := []) (n := 0) hF hC hO hS (k_X6_thrown l G _ sa ad _ (K_bestRest nf F (xs (nI i + 1).toNatClampNeg) (xs (nI i + 2).toNatClampNeg)) g nf F f no O it9 ch9 hI2.1 hI2.2.1) ok_X6_thrown q_706 rfl rfl ⟨Nat.le_of_ble_eq_true rfl, Nat.le_of_ble_eq_true rfl⟩ rfl hl.1 rfl (Nat.le_of_ble_eq_true rfl) ⟨(by show _ ≤ 616075; omega), (by show _ ≤ 7247878; omega)⟩ dL_law_1322 (fun v3 R3 H locs hp3 hO hS => ?_)
    obtain ⟨rfl, hR3⟩ := hp3
    rw [hR3] at hO
    refine lv_iload hx hb dL_law_1325 (lv_at hl 1 rfl) ?_
    refine lv_icmp_eq (tgt := 1332) hx hb dL_law_1327 (by decide) (fun c1327 => ?_) (fun c1327 => absurd (rfl) c1327)
    refine lv_iload hx hb dL_law_1332 (lv_at hl 1 rfl) ?_
    refine lv_if_ne (tgt := 1349) hx hb dL_law_1334 (by decide) (fun c1334 => ?_) (fun c1334 => absurd c1334 (hK))
    refine lv_goto (tgt := 1433) hx hb dL_law_1349 (by decide) ?_
    exact hN d ad (K_bestRest nf F (xs (nI i + 1).toNatClampNeg) (xs (nI i + 2).toNatClampNeg)) g nf F f no O tf tv fw it9 ch9 o _ _ _ _ _ _ hd hI2 hfw h60 h200 hO hS (lv_sub hl [2, 3, 4, 5, 6] rfl) (by omega) (by omega)
set_option maxHeartbeats 1000000 in
set_option maxRecDepth 100000 in
theorem case_advise {p : Program} {l : Launch} {e : Env} {s : State} {m : MethodId} {below : List Frame} {meth : Method} {c : Code} {b L : Nat} {xs : Nat → Int32} {G : mG} {sa : Nat → Nat} (X : LwX p l s m meth c b L xs G sa) {i q : Nat} (hq : q < 512) (hN : LAt p l e s m below meth c b G 1433 i (q + 1)) : LAt p l e s m below meth c b G 1352 i q := by
  intro d ad th g nf F f no O tf tv fw it ch o Ro H locs ls cells slots hd hI hfw h60 h200 hO hS hl hc9 hs9
  have hF := X.hF d
  have hC := X.hC d
  have hx := hF.1
  have hb := hF.2.1
  have hnf := hI.1
  have hno := hI.2.1
  rw [← WC_WM] at hO
  have hl : lv_has ls 9 [(0, .ref b), (1, .ref (ad 0)), (2, .ref (ad 50)), (3, .ref (ad 60)), (4, .int (nI i))] := hl
  refine lv_aload_n hx hb dL_law_1352 rfl (lv_at hl 1 rfl) ?_
  refine m_vI (As := []) (rest := []) (n := 0) hF hC hO hS (k_X5_advise l G _ sa ad _ g nf F f no O tf tv fw hnf hno) ok_X5_advise q_139 rfl rfl ⟨Nat.le_of_ble_eq_true rfl, Nat.le_of_ble_eq_true rfl⟩ rfl hl.1 rfl (Nat.le_of_ble_eq_true rfl) ⟨(by show _ ≤ 616075; omega), (by show _ ≤ 7247878; omega)⟩ dL_law_1353 (fun v1353 R1353 H locs hp1353 hO hS => ?_)
  obtain ⟨rfl, hR⟩ := hp1353
  rw [hR, WC_WM] at hO
  refine lv_aload_n hx hb dL_law_1356 rfl (lv_at hl 2 rfl) ?_
  refine m_vI (As := []) (rest := [.int (c_advL nf 0 (-1) 0 g F)]) (n := 0) hF hC hO hS (k_X6_advise l G _ sa ad _ th g nf F f no O it ch hnf hno) ok_X6_advise q_893 rfl rfl ⟨Nat.le_of_ble_eq_true rfl, Nat.le_of_ble_eq_true rfl⟩ rfl hl.1 rfl (Nat.le_of_ble_eq_true rfl) ⟨(by show _ ≤ 616075; omega), (by show _ ≤ 7247878; omega)⟩ dL_law_1357 (fun v1357 R1357 H locs hp1357 hO hS => ?_)
  obtain ⟨rfl, it9, hR⟩ := hp1357
  rw [hR] at hO
  refine lv_icmp_eq (tgt := 1433) hx hb dL_law_1360 (by decide) (fun c1360 => ?_) (fun c1360 => absurd ((s_advise hI)) c1360)
  exact hN d ad 0 g nf F f no O tf tv fw it9 ch o _ _ _ _ _ _ hd hI.up hfw h60 h200 hO hS (lv_sub hl [0, 1, 2, 3, 4] rfl) (by omega) (by omega)
set_option maxHeartbeats 1000000 in
set_option maxRecDepth 100000 in
theorem case_possible {p : Program} {l : Launch} {e : Env} {s : State} {m : MethodId} {below : List Frame} {meth : Method} {c : Code} {b L : Nat} {xs : Nat → Int32} {G : mG} {sa : Nat → Nat} (X : LwX p l s m meth c b L xs G sa) {i q : Nat} (hq : q < 512) (hN : LAt p l e s m below meth c b G 1433 i (q + 1)) : LAt p l e s m below meth c b G 1365 i q := by
  intro d ad th g nf F f no O tf tv fw it ch o Ro H locs ls cells slots hd hI hfw h60 h200 hO hS hl hc9 hs9
  have hF := X.hF d
  have hC := X.hC d
  have hx := hF.1
  have hb := hF.2.1
  have hnf := hI.1
  have hno := hI.2.1
  rw [← WC_WM] at hO
  have hl : lv_has ls 9 [(0, .ref b), (1, .ref (ad 0)), (2, .ref (ad 50)), (3, .ref (ad 60)), (4, .int (nI i))] := hl
  refine lv_aload_n hx hb dL_law_1365 rfl (lv_at hl 1 rfl) ?_
  refine m_vI (As := []) (rest := []) (n := 0) hF hC hO hS (k_X5_possible l G _ sa ad _ g nf F f no O tf tv fw hnf hno hfw hI.2.2.2.2.1 (hI.2.2.2.2.2.ok (by omega))) ok_X5_possible q_175 rfl rfl ⟨Nat.le_of_ble_eq_true rfl, Nat.le_of_ble_eq_true rfl⟩ rfl hl.1 rfl (Nat.le_of_ble_eq_true rfl) ⟨(by show _ ≤ 616075; omega), (by show _ ≤ 7247878; omega)⟩ dL_law_1366 (fun v1366 R1366 H locs hp1366 hO hS => ?_)
  obtain ⟨rfl, fw9, hfw9, hR⟩ := hp1366
  rw [hR, WC_WM] at hO
  refine lv_aload_n hx hb dL_law_1369 rfl (lv_at hl 2 rfl) ?_
  refine m_vI (As := []) (rest := [.int (dSum (fun k => (dCz O f no k 9 []).length) 4 0 0)]) (n := 0) hF hC hO hS (k_X6_possible l G _ sa ad _ th g nf F f no O it ch hnf hno hI.2.2.2.2.1 (hI.2.2.2.2.2.ok (by omega))) ok_X6_possible q_897 rfl rfl ⟨Nat.le_of_ble_eq_true rfl, Nat.le_of_ble_eq_true rfl⟩ rfl hl.1 rfl (Nat.le_of_ble_eq_true rfl) ⟨(by show _ ≤ 616075; omega), (by show _ ≤ 7247878; omega)⟩ dL_law_1370 (fun v1370 R1370 H locs hp1370 hO hS => ?_)
  obtain ⟨rfl, ch9, hR⟩ := hp1370
  rw [hR] at hO
  refine lv_icmp_eq (tgt := 1433) hx hb dL_law_1373 (by decide) (fun c1373 => ?_) (fun c1373 => absurd ((s_possible hI)) c1373)
  exact hN d ad 0 g nf F f no O tf tv fw9 it ch9 o _ _ _ _ _ _ hd hI.up hfw9 h60 h200 hO hS (lv_sub hl [0, 1, 2, 3, 4] rfl) (by omega) (by omega)
set_option maxHeartbeats 1000000 in
set_option maxRecDepth 100000 in
theorem case_digest {p : Program} {l : Launch} {e : Env} {s : State} {m : MethodId} {below : List Frame} {meth : Method} {c : Code} {b L : Nat} {xs : Nat → Int32} {G : mG} {sa : Nat → Nat} (X : LwX p l s m meth c b L xs G sa) {i q : Nat} (hq : q < 512) (hN : LAt p l e s m below meth c b G 1433 i (q + 1)) : LAt p l e s m below meth c b G 1419 i q := by
  intro d ad th g nf F f no O tf tv fw it ch o Ro H locs ls cells slots hd hI hfw h60 h200 hO hS hl hc9 hs9
  have hF := X.hF d
  have hC := X.hC d
  have hx := hF.1
  have hb := hF.2.1
  have hnf := hI.1
  have hno := hI.2.1
  rw [← WC_WM] at hO
  have hl : lv_has ls 9 [(0, .ref b), (1, .ref (ad 0)), (2, .ref (ad 50)), (3, .ref (ad 60)), (4, .int (nI i))] := hl
  refine lv_aload_n hx hb dL_law_1419 rfl (lv_at hl 1 rfl) ?_
  refine m_vL (As := []) (rest := []) (n := 0) hF hC hO hS (k_X5_digest l G _ sa ad _ g nf F f no O tf tv fw hnf hno (fun j hj => by obtain ⟨kk, zz, mm, h1, h2, h3, _, _, e0, e1, _⟩ := hI.2.2.2.2.1 j hj; exact ⟨kk, zz, h1, h2, h3, e0, e1⟩) (fun i hi => by obtain ⟨_, t, m, c, _, _, hc, _, _, e4⟩ := hI.2.2.2.1 i hi; rw [e4]; rcases (show c = 0 ∨ c = 1 by omega) with rfl | rfl; exact Or.inl rfl; exact Or.inr rfl)) ok_X5_digest q_210 rfl rfl ⟨Nat.le_of_ble_eq_true rfl, Nat.le_of_ble_eq_true rfl⟩ rfl hl.1 rfl (Nat.le_of_ble_eq_true rfl) ⟨(by show _ ≤ 616075; omega), (by show _ ≤ 7247878; omega)⟩ dL_law_1420 (fun v1420 R1420 H locs hp1420 hO hS => ?_)
  obtain ⟨rfl, hR⟩ := hp1420
  rw [hR, WC_WM] at hO
  refine lv_aload_n hx hb dL_law_1423 rfl (lv_at hl 2 rfl) ?_
  refine m_vL (As := []) (rest := [.long (cg_5 g nf F f no O)]) (n := 0) hF hC hO hS (k_X6_digest l G _ sa ad _ th g nf F f no O it ch hnf hno (fun j hj => by obtain ⟨kk, zz, mm, h1, h2, h3, _, _, e0, e1, _⟩ := hI.2.2.2.2.1 j hj; exact ⟨kk, zz, h1, h2, h3, e0, e1⟩)) ok_X6_digest q_909 rfl rfl ⟨Nat.le_of_ble_eq_true rfl, Nat.le_of_ble_eq_true rfl⟩ rfl hl.1 rfl (Nat.le_of_ble_eq_true rfl) ⟨(by show _ ≤ 616075; omega), (by show _ ≤ 7247878; omega)⟩ dL_law_1424 (fun v1424 R1424 H locs hp1424 hO hS => ?_)
  obtain ⟨rfl, hR⟩ := hp1424
  rw [hR] at hO
  refine W.lcmp hx hb dL_law_1427 ?_
  refine lv_if_eq (tgt := 1433) hx hb dL_law_1428 (by decide) (fun c1428 => ?_) (fun c1428 => absurd ((by rw [digest_eq hI.2.2.2.1]; exact lg_self _)) c1428)
  exact hN d ad 0 g nf F f no O tf tv fw it ch o _ _ _ _ _ _ hd hI.up hfw h60 h200 hO hS (lv_sub hl [0, 1, 2, 3, 4] rfl) (by omega) (by omega)
