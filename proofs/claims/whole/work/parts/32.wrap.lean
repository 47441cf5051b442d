def nW (l : Launch) (y : MethodName) (cc : ByteArray) (n : Nat) (hh : List (Nat × Nat × Nat × Nat)) (fr lc mc ms : Nat) (G : mG) (lo : Nat) (sa ad : Nat → Nat) (R : mM) (av : List Value) (post : Int32 → mAd → Prop) : Prop :=
  Met l y (Cond.codeWith y cc n (some .int) hh :: lw_all) (nRm fr lc mc ms) (mPc G lo sa ad R av) (va_Qi post (mBa G lo) (mA lo)) mc ms (mA lo)
theorem nW_of {l : Launch} {y : MethodName} {cc : ByteArray} {nL : Nat} {hh : List (Nat × Nat × Nat × Nat)} {fr lc mc ms : Nat} {G : mG} {lo : Nat} {sa ad : Nat → Nat} {R : mM} {av : List Value} {post : Int32 → mAd → Prop} (hy : plainName y.cls = true) (hlen : (lg_sl av).length ≤ nL)
    (body : ∀ (p : Program) (e : Env) (s : State) (m : MethodId) (args : Array Value) (below : List Frame) (meth : Method) (c : Code), mF p m c cc nL s args y.cls → c.exceptionTable.toList = tableOf hh → meth.sig.returnType = some .int → meth.locks = false → mC G lo sa s s.heap →
      ∀ ls : Array Slot, lv_has ls nL (lv_args 0 av) → mO G lo ad R s.heap → va_S (mA lo) s.heap s.heap [] →
      ∀ Q : State → Prop, Q = MQ below (va_Qi post (mBa G lo) (mA lo)) args s mc ms (mA lo) → W p l e (nRm fr lc mc ms) s m args below meth c s.heap [] 0 0 Q (F0 m 0 ls [])) : nW l y cc nL hh fr lc mc ms G lo sa ad R av post := by
  unfold nW Met
  refine MetFree.of_bodyS (code := cc) (maxLocals := nL) (ret := some .int) hy ?_ ?_
  · intro args s m h hn
    obtain ⟨m9, meth, c, hn9, h1, h2, h3, h4, -, h5, h6, -⟩ := Cond.codeWith_spec (atoms_spec (ws := Cond.codeWith y cc nL (some .int) hh :: lw_all) h _ List.mem_cons_self)
    cases hn.symm.trans hn9
    exact ⟨meth, c, h1, h2, h3, h4, h5, h6⟩
  · intro p e s m args below meth c s₁ B hml hv _
    have hh0 : s₁.heap = s.heap := by rw [B.state]; rfl
    obtain ⟨rfl, hC, hO⟩ := hv
    have hts := atoms_spec (ws := Cond.codeWith y cc nL (some .int) hh :: lw_all) B.pre
    have htab := vx_table (x := y) B (hts _ List.mem_cons_self)
    have K := body p e s m av.toArray below meth c ⟨B.exec, B.bytes, hml, findClass_of_methodNamed B.named, fun w h => hts w (List.mem_cons_of_mem _ h)⟩ htab B.returns B.notSynchronized hC _ (lv_entry av hlen) hO va_S.rf _ rfl
    rw [← lg_entry_eq] at K
    obtain ⟨t, a1, o, b1, b2, b3⟩ := K s₁ hh0 (Stand.of_body B)
    exact ⟨t, o, a1, b1, b2, ⟨b3.1, b3.2⟩⟩
theorem WC_b {G : mG} {ad : Nat → Nat} {g : Nat → Int32} {nf no : Nat} {F O : Nat → Nat → Int32} {f tf tv fw : Nat → Int32} {R : mM} {k : Nat} {e : va_E} (hk : 10 ≤ k ∧ k < 100) :
    mU (WC G ad g nf F f no O tf tv fw R) k e = WC G ad g nf F f no O tf tv fw (mU R k e) := by
  funext r
  by_cases hr : r = k
  · subst hr
    rw [mU_self]
    unfold WC
    rw [if_neg (by omega), if_neg (by omega), if_neg (by omega), mU_self]
  · rw [mU_ne hr]
    unfold WC
    rw [mU_ne hr]
theorem WC_60 {G : mG} {ad : Nat → Nat} {g : Nat → Int32} {nf no : Nat} {F O : Nat → Nat → Int32} {f tf tv fw : Nat → Int32} {R : mM} {e : va_E} (h : R 60 = some e) : WC G ad g nf F f no O tf tv fw R 60 = some e := h
def c_fill (f ω : Nat → Int32) : Nat → Int32 := p_take f (nn (ω 0)) (nn (ω 1)) (ω 2)
theorem if_0 {P : Prop} [Decidable P] {x k : Int32} (hk : k ≠ 0) (h : (if P then x else k) = 0) : P ∧ x = 0 := by
  by_cases hp : P
  · rw [if_pos hp] at h; exact ⟨hp, h⟩
  · rw [if_neg hp] at h; exact absurd h hk
theorem if_1 {P : Prop} [Decidable P] {x k : Int32} (hk : k ≠ 0) (h : (if P then k else x) = 0) : ¬ P ∧ x = 0 := by
  by_cases hp : P
  · rw [if_pos hp] at h; exact absurd h hk
  · rw [if_neg hp] at h; exact ⟨hp, h⟩
theorem K0_melt {g : Nat → Int32} {a : Int32} (h : K_melt g a = 0) : p_in a 1 5000 ∧ g 0 + a ≤ 20000 := by
  obtain ⟨h1, h⟩ := if_0 (by decide) h
  exact ⟨h1, (if_0 (by decide) h).1⟩
theorem K0_setFire {a : Int32} (h : K_setFire a = 0) : p_in a 0 5 := (if_0 (by decide) h).1
theorem K0_vat {a : Int32} (h : K_vat a = 0) : p_in a 0 3 := (if_0 (by decide) h).1
theorem K0_hook {a : Int32} (h : K_hook a = 0) : p_in a 0 11 := (if_0 (by decide) h).1
theorem K0_pass {a : Int32} (h : K_pass a = 0) : p_in a 1 400 := (if_0 (by decide) h).1
theorem K0_count {a : Int32} (h : K_count a = 0) : p_in a 0 8 := (if_0 (by decide) h).1
theorem K0_addFrame {nf : Nat} (hnf : nf ≤ 12) {a b : Int32} (h : K_addFrame nf a b = 0) : p_in a 0 3 ∧ p_in b 1 20 ∧ nf < 12 := by
  obtain ⟨h1, h⟩ := if_0 (by decide) h
  obtain ⟨h2, h⟩ := if_0 (by decide) h
  have h3 := (if_1 (by decide) h).1
  exact ⟨h1, h2, Nat.lt_of_le_of_ne hnf (fun q => h3 (by rw [q]; rfl))⟩
theorem K0_hang {nf : Nat} {F : Nat → Nat → Int32} {a b : Int32} (h : K_hang nf F a b = 0) : kFr nf a ∧ p_in b 0 11 ∧ (m_at nf F b = -1 ∨ m_at nf F b = a) := by
  obtain ⟨h1, h⟩ := if_0 (by decide) h
  obtain ⟨h2, h⟩ := if_0 (by decide) h
  refine ⟨h1, h2, ?_⟩
  by_cases h3 : m_at nf F b = -1
  · exact Or.inl h3
  · rw [if_neg h3] at h
    exact Or.inr (if_0 (by decide) h).1
theorem K0_layAside {nf : Nat} {F : Nat → Nat → Int32} {a : Int32} (h : K_layAside nf F a = 0) : kFr nf a ∧ F (nn a) 5 ≠ -1 := by
  obtain ⟨h1, h⟩ := if_0 (by decide) h
  exact ⟨h1, (if_1 (by decide) h).1⟩
theorem K0_dip {g : Nat → Int32} {nf : Nat} {F : Nat → Nat → Int32} {a : Int32} (h : KC_dip g nf F a = 0) : kFr nf a ∧ p_can (F (nn a)) g := by
  obtain ⟨h1, h⟩ := if_0 (by decide) h
  exact ⟨h1, (if_0 (by decide) h).1⟩
theorem K0_cutOff {nf : Nat} {F : Nat → Nat → Int32} {a : Int32} (h : K_cutOff nf F a = 0) : kFr nf a ∧ F (nn a) 2 ≠ 0 ∧ ¬ 20 < F (nn a) 3 := by
  obtain ⟨h1, h⟩ := if_0 (by decide) h
  obtain ⟨h2, h⟩ := if_1 (by decide) h
  exact ⟨h1, h2, Int32.not_lt.mpr (if_0 (by decide) h).1⟩
theorem K0_frame {nf : Nat} {a b : Int32} (h : K_frame nf a b = 0) : kFr nf a ∧ p_in b 0 7 := by
  obtain ⟨h1, h⟩ := if_0 (by decide) h
  exact ⟨h1, (if_0 (by decide) h).1⟩
theorem K0_order {no : Nat} {a b : Int32} (h : K_order no a b = 0) : kFr no a ∧ p_in b 0 5 := by
  obtain ⟨h1, h⟩ := if_0 (by decide) h
  exact ⟨h1, (if_0 (by decide) h).1⟩
theorem K0_store {a b : Int32} (h : K_store a b = 0) : p_in a 0 3 ∧ p_in b 1 9 := by
  obtain ⟨h1, h⟩ := if_0 (by decide) h
  exact ⟨h1, (if_0 (by decide) h).1⟩
theorem K0_addOrder {g : Nat → Int32} {no : Nat} (hno : no ≤ 20) {a b y w : Int32} (h : K_addOrder g no a b y w = 0) : p_in a 0 3 ∧ p_in b 1 9 ∧ p_in y 1 60 ∧ p_in w (g 3 / 40) 1000 ∧ no < 20 := by
  obtain ⟨h1, h⟩ := if_0 (by decide) h
  obtain ⟨h2, h⟩ := if_0 (by decide) h
  obtain ⟨h3, h⟩ := if_0 (by decide) h
  obtain ⟨h4, h⟩ := if_0 (by decide) h
  have h5 := (if_1 (by decide) h).1
  exact ⟨h1, h2, h3, h4, Nat.lt_of_le_of_ne hno (fun q => h5 (by rw [q]; rfl))⟩
theorem K0_fill {f : Nat → Int32} {no : Nat} {O : Nat → Nat → Int32} {a : Int32} (h : K_fill f no O a = 0) : kFr no a ∧ p_canFill f (O (nn a)) := by
  obtain ⟨h1, h⟩ := if_0 (by decide) h
  exact ⟨h1, (if_0 (by decide) h).1⟩
theorem K0_would {nf : Nat} {F : Nat → Nat → Int32} {a b : Int32} (h : K_would nf F a b = 0) : kFr nf a ∧ p_in b 1 40 ∧ F (nn a) 5 ≠ -1 := by
  obtain ⟨h1, h⟩ := if_0 (by decide) h
  obtain ⟨h2, h⟩ := if_0 (by decide) h
  exact ⟨h1, h2, (if_0 (by decide) h).1⟩
theorem K0_dipsTo {nf : Nat} {F : Nat → Nat → Int32} {a b z : Int32} (h : K_dipsTo nf F a b z = 0) : kFr nf a ∧ p_in b 0 20 ∧ p_in z 1 9 ∧ F (nn a) 5 ≠ -1 := by
  obtain ⟨h1, h⟩ := if_0 (by decide) h
  obtain ⟨h2, h⟩ := if_0 (by decide) h
  obtain ⟨h3, h⟩ := if_0 (by decide) h
  exact ⟨h1, h2, h3, (if_0 (by decide) h).1⟩
theorem K0_bestRest {nf : Nat} {F : Nat → Nat → Int32} {a z : Int32} (h : K_bestRest nf F a z = 0) : kFr nf a ∧ p_in z 1 9 ∧ F (nn a) 5 ≠ -1 := by
  obtain ⟨h1, h⟩ := if_0 (by decide) h
  obtain ⟨h2, h⟩ := if_0 (by decide) h
  exact ⟨h1, h2, (if_0 (by decide) h).1⟩
theorem ok_L_melt : (.static yL_melt : Cond) ∈ lw_all ∧ (.initialized RL : Cond) ∈ lw_all ∧ (.codeWith yL_melt cL_melt 4 (some .int) [(0, 9, 12, 13), (0, 9, 15, 15)] : Cond) ∈ lw_all := ⟨q_352, q_0, q_353⟩
set_option maxHeartbeats 400000 in
set_option maxRecDepth 100000 in
theorem k_L_melt (l : Launch) (G : mG) (lo : Nat) (sa ad : Nat → Nat) (R : mM) (g : Nat → Int32) (nf : Nat) (F : Nat → Nat → Int32) (f : Nat → Int32) (no : Nat) (O : Nat → Nat → Int32) (tf tv fw : Nat → Int32) (o : Nat → Int64) (a : Int32) (hnf : nf ≤ 12) (hno : no ≤ 20) (hfl : l.stackTraces = false) (ho : R 60 = some (.inl (G.2 1, 1, .inr (.inl o)))) : nW l yL_melt cL_melt 4 [(0, 9, 12, 13), (0, 9, 15, 15)] 7 111 1 7 G lo sa ad (WC G ad g nf F f no O tf tv fw R) [.ref (ad 0), .int a, .ref (ad 60)] (fun v u' => (K_melt g a = 0 ∧ v = 0 ∧ (∀ x, x < 100 → ad x = u'.1 x) ∧ ∃ (tf' tv' : Nat → Int32), u'.2 = (WC G u'.1 (p_throwV g a) nf F f no O tf' tv' fw (mU R 60 (.inl (G.2 1, 1, .inr (.inl (vp_updL o 0 (p_throwV g a 1).toInt64))))))) ∨ (¬ K_melt g a = 0 ∧ v = K_melt g a ∧ u' = (ad, (WC G ad g nf F f no O tf tv fw R)))) := by
  refine nW_of (by decide) (Nat.le_of_ble_eq_true rfl) ?_
  intro p e s m args below meth c hF ht hr hlk hC ls hl hO hS Q hQ
  have hx := hF.1
  have hb := hF.2.1
  have hl : lv_has ls 4 [(0, .ref (ad 0)), (1, .int a), (2, .ref (ad 60))] := hl
  refine lv_aload_n hx hb dL_melt_0 rfl (lv_at hl 2 rfl) ?_
  refine lv_iconst (v := 0) hx hb dL_melt_1 (by decide) ?_
  refine lv_aload_n hx hb dL_melt_2 rfl (lv_at hl 0 rfl) ?_
  refine lv_iload_n hx hb dL_melt_3 rfl (lv_at hl 1 rfl) ?_
  by_cases hK : K_melt g a = 0
  · obtain ⟨hin, hle⟩ := K0_melt hK
    refine m_vI (As := [.int a]) (rest := [.int 0, .ref (ad 60)]) (n := 1) hF hC hO hS (k_X5_melt l G lo sa ad R g nf F f no O tf tv fw a hnf hno hin hle) ok_X5_melt q_356 rfl rfl ⟨Nat.le_of_ble_eq_true rfl, Nat.le_of_ble_eq_true rfl⟩ rfl hl.1 rfl (Nat.le_of_ble_eq_true rfl) ⟨Nat.le_of_ble_eq_true rfl, Nat.le_of_ble_eq_true rfl⟩ dL_melt_4 (fun v4 R' H locs hp hO hS => ?_)
    obtain ⟨rfl, hR⟩ := hp
    rw [hR] at hO
    refine lv_i2l (v := ((p_throwV g a 1).toInt64)) hx hb dL_melt_7 rfl ?_
    refine m_last hF hC hO hS (WC_60 ho) (j := 0) (by decide) (vp_in_nI (n := 0) (by decide) (by decide)) dL_melt_8 (fun H locs hO hS => ?_)
    have hO : mO G lo ad (mU (WC G ad (p_throwV g a) nf F f no O tf tv fw R) 60 (.inl (G.2 1, 1, .inr (.inl (vp_updL o 0 ((p_throwV g a 1).toInt64)))))) H := hO
    rw [WC_b (by decide)] at hO
    refine lv_goto (tgt := 18) hx hb dL_melt_9 (by decide) ?_
    refine lv_iconst (v := 0) hx hb dL_melt_18 (by decide) ?_
    refine m_niret hF hr hlk hQ (by decide) rfl hO hS dL_melt_19 ?_
    exact Or.inl ⟨hK, rfl, (fun _ _ => rfl), tf, tv, by first | (simp only [hcl]; done) | rfl⟩
  · refine m_vX (As := [.int a]) (rest := [.int 0, .ref (ad 60)]) (n := 1) hF hC hO hS (k_X5_meltX l G lo sa ad R g nf F f no O tf tv fw a hnf hno hfl hK) ok_X5_melt q_356 rfl rfl ⟨Nat.le_of_ble_eq_true rfl, Nat.le_of_ble_eq_true rfl⟩ rfl hl.1 rfl (Nat.le_of_ble_eq_true rfl) ⟨Nat.le_of_ble_eq_true rfl, Nat.le_of_ble_eq_true rfl⟩ dL_melt_4 (fun E ce q9 H locs hE hO hS hce hcv hcl => ?_)
    rcases hE with ⟨rfl, hk9⟩ | ⟨rfl, hk9⟩
    · refine vx_catch (own := RL) (name := mXA) hF.2.2.2.1 [] ⟨0, 9, 12, 13⟩ [⟨0, 9, 15, 15⟩] (ht.trans rfl) (fun z hz => nomatch hz) rfl (by decide) (hF.2.2.2.2 _ q_354) (va_Nw.use rfl hC.2.2.1.1) hce hcv hcl ?_
      refine lv_astore_n (lv' := [(3, .ref q9), (0, .ref (ad 0)), (1, .int a), (2, .ref (ad 60))]) hx hb dL_melt_12 rfl hl (by decide) rfl (fun ls hl => ?_)
      refine lv_iconst (v := 1) hx hb dL_melt_13 (by decide) ?_
      refine m_niret hF hr hlk hQ (by decide) rfl hO hS dL_melt_14 ?_
      exact Or.inr ⟨hK, hk9.symm, rfl⟩
    · refine vx_catch (own := RL) (name := mXS) hF.2.2.2.1 [⟨0, 9, 12, 13⟩] ⟨0, 9, 15, 15⟩ [] (ht.trans rfl) (List.forall_mem_cons.mpr ⟨Or.inr ⟨by decide, mXA, hF.2.2.2.2 _ q_354, hC.2.2.2.2.1.2.2.1⟩, fun z hz => nomatch hz⟩) rfl (by decide) (hF.2.2.2.2 _ q_355) (va_Nw.use rfl hC.2.2.1.2.1) hce hcv hcl ?_
      refine lv_astore_n (lv' := [(3, .ref q9), (0, .ref (ad 0)), (1, .int a), (2, .ref (ad 60))]) hx hb dL_melt_15 rfl hl (by decide) rfl (fun ls hl => ?_)
      refine lv_iconst (v := 2) hx hb dL_melt_16 (by decide) ?_
      refine m_niret hF hr hlk hQ (by decide) rfl hO hS dL_melt_17 ?_
      exact Or.inr ⟨hK, hk9.symm, rfl⟩
theorem ok_L_setFire : (.static yL_setFire : Cond) ∈ lw_all ∧ (.initialized RL : Cond) ∈ lw_all ∧ (.codeWith yL_setFire cL_setFire 4 (some .int) [(0, 9, 12, 13)] : Cond) ∈ lw_all := ⟨q_398, q_0, q_399⟩
set_option maxHeartbeats 400000 in
set_option maxRecDepth 100000 in
theorem k_L_setFire (l : Launch) (G : mG) (lo : Nat) (sa ad : Nat → Nat) (R : mM) (g : Nat → Int32) (nf : Nat) (F : Nat → Nat → Int32) (f : Nat → Int32) (no : Nat) (O : Nat → Nat → Int32) (tf tv fw : Nat → Int32) (o : Nat → Int64) (a : Int32) (hnf : nf ≤ 12) (hno : no ≤ 20) (hfl : l.stackTraces = false) (ho : R 60 = some (.inl (G.2 1, 1, .inr (.inl o)))) : nW l yL_setFire cL_setFire 4 [(0, 9, 12, 13)] 7 112 1 7 G lo sa ad (WC G ad g nf F f no O tf tv fw R) [.ref (ad 0), .int a, .ref (ad 60)] (fun v u' => (K_setFire a = 0 ∧ v = 0 ∧ (∀ x, x < 100 → ad x = u'.1 x) ∧ ∃ (tf' tv' : Nat → Int32), u'.2 = (WC G u'.1 (upd g 2 a) nf F f no O tf' tv' fw (mU R 60 (.inl (G.2 1, 1, .inr (.inl (vp_updL o 0 (g 2).toInt64))))))) ∨ (¬ K_setFire a = 0 ∧ v = K_setFire a ∧ u' = (ad, (WC G ad g nf F f no O tf tv fw R)))) := by
  refine nW_of (by decide) (Nat.le_of_ble_eq_true rfl) ?_
  intro p e s m args below meth c hF ht hr hlk hC ls hl hO hS Q hQ
  have hx := hF.1
  have hb := hF.2.1
  have hl : lv_has ls 4 [(0, .ref (ad 0)), (1, .int a), (2, .ref (ad 60))] := hl
  refine lv_aload_n hx hb dL_setFire_0 rfl (lv_at hl 2 rfl) ?_
  refine lv_iconst (v := 0) hx hb dL_setFire_1 (by decide) ?_
  refine lv_aload_n hx hb dL_setFire_2 rfl (lv_at hl 0 rfl) ?_
  refine lv_iload_n hx hb dL_setFire_3 rfl (lv_at hl 1 rfl) ?_
  by_cases hK : K_setFire a = 0
  · have hin := K0_setFire hK
    refine m_vI (As := [.int a]) (rest := [.int 0, .ref (ad 60)]) (n := 1) hF hC hO hS (k_X5_setFire l G lo sa ad R g nf F f no O tf tv fw a hnf hno hin) ok_X5_setFire q_400 rfl rfl ⟨Nat.le_of_ble_eq_true rfl, Nat.le_of_ble_eq_true rfl⟩ rfl hl.1 rfl (Nat.le_of_ble_eq_true rfl) ⟨Nat.le_of_ble_eq_true rfl, Nat.le_of_ble_eq_true rfl⟩ dL_setFire_4 (fun v4 R' H locs hp hO hS => ?_)
    obtain ⟨rfl, hR⟩ := hp
    rw [hR] at hO
    refine lv_i2l (v := ((g 2).toInt64)) hx hb dL_setFire_7 rfl ?_
    refine m_last hF hC hO hS (WC_60 ho) (j := 0) (by decide) (vp_in_nI (n := 0) (by decide) (by decide)) dL_setFire_8 (fun H locs hO hS => ?_)
    have hO : mO G lo ad (mU (WC G ad (upd g 2 a) nf F f no O tf tv fw R) 60 (.inl (G.2 1, 1, .inr (.inl (vp_updL o 0 ((g 2).toInt64)))))) H := hO
    rw [WC_b (by decide)] at hO
    refine lv_goto (tgt := 15) hx hb dL_setFire_9 (by decide) ?_
    refine lv_iconst (v := 0) hx hb dL_setFire_15 (by decide) ?_
    refine m_niret hF hr hlk hQ (by decide) rfl hO hS dL_setFire_16 ?_
    exact Or.inl ⟨hK, rfl, (fun _ _ => rfl), tf, tv, by first | (simp only [hcl]; done) | rfl⟩
  · refine m_vX (As := [.int a]) (rest := [.int 0, .ref (ad 60)]) (n := 1) hF hC hO hS (k_X5_setFireX l G lo sa ad R g nf F f no O tf tv fw a hnf hno hfl hK) ok_X5_setFire q_400 rfl rfl ⟨Nat.le_of_ble_eq_true rfl, Nat.le_of_ble_eq_true rfl⟩ rfl hl.1 rfl (Nat.le_of_ble_eq_true rfl) ⟨Nat.le_of_ble_eq_true rfl, Nat.le_of_ble_eq_true rfl⟩ dL_setFire_4 (fun E ce q9 H locs hE hO hS hce hcv hcl => ?_)
    obtain ⟨rfl, hk9⟩ := hE
    refine vx_catch (own := RL) (name := mXA) hF.2.2.2.1 [] ⟨0, 9, 12, 13⟩ [] (ht.trans rfl) (fun z hz => nomatch hz) rfl (by decide) (hF.2.2.2.2 _ q_354) (va_Nw.use rfl hC.2.2.1.1) hce hcv hcl ?_
    refine lv_astore_n (lv' := [(3, .ref q9), (0, .ref (ad 0)), (1, .int a), (2, .ref (ad 60))]) hx hb dL_setFire_12 rfl hl (by decide) rfl (fun ls hl => ?_)
    refine lv_iconst (v := 1) hx hb dL_setFire_13 (by decide) ?_
    refine m_niret hF hr hlk hQ (by decide) rfl hO hS dL_setFire_14 ?_
    exact Or.inr ⟨hK, hk9.symm, rfl⟩
theorem ok_L_vat : (.static yL_vat : Cond) ∈ lw_all ∧ (.initialized RL : Cond) ∈ lw_all ∧ (.codeWith yL_vat cL_vat 4 (some .int) [(0, 9, 12, 23)] : Cond) ∈ lw_all := ⟨q_406, q_0, q_407⟩
set_option maxHeartbeats 400000 in
set_option maxRecDepth 100000 in
theorem k_L_vat (l : Launch) (G : mG) (lo : Nat) (sa ad : Nat → Nat) (R : mM) (g : Nat → Int32) (nf : Nat) (F : Nat → Nat → Int32) (f : Nat → Int32) (no : Nat) (O : Nat → Nat → Int32) (tf tv fw : Nat → Int32) (o : Nat → Int64) (a : Int32) (hnf : nf ≤ 12) (hno : no ≤ 20) (hfl : l.stackTraces = false) (ho : R 60 = some (.inl (G.2 1, 1, .inr (.inl o)))) : nW l yL_vat cL_vat 4 [(0, 9, 12, 23)] 7 111 1 7 G lo sa ad (WC G ad g nf F f no O tf tv fw R) [.ref (ad 0), .int a, .ref (ad 60)] (fun v u' => (K_vat a = 0 ∧ v = 0 ∧ (∀ x, x < 100 → ad x = u'.1 x) ∧ ∃ (tf' tv' : Nat → Int32), u'.2 = (WC G u'.1 g nf F f no O tf' tv' fw (mU R 60 (.inl (G.2 1, 1, .inr (.inl (vp_updL o 0 (m_vat g a).toInt64))))))) ∨ (¬ K_vat a = 0 ∧ v = K_vat a ∧ u' = (ad, (WC G ad g nf F f no O tf tv fw R)))) := by
  refine nW_of (by decide) (Nat.le_of_ble_eq_true rfl) ?_
  intro p e s m args below meth c hF ht hr hlk hC ls hl hO hS Q hQ
  have hx := hF.1
  have hb := hF.2.1
  have hl : lv_has ls 4 [(0, .ref (ad 0)), (1, .int a), (2, .ref (ad 60))] := hl
  refine lv_aload_n hx hb dL_vat_0 rfl (lv_at hl 2 rfl) ?_
  refine lv_iconst (v := 0) hx hb dL_vat_1 (by decide) ?_
  refine lv_aload_n hx hb dL_vat_2 rfl (lv_at hl 0 rfl) ?_
  refine lv_iload_n hx hb dL_vat_3 rfl (lv_at hl 1 rfl) ?_
  by_cases hK : K_vat a = 0
  · have hin := K0_vat hK
    obtain ⟨k, hk1, hk2, rfl⟩ := in_of (a := 0) (b := 3) (by decide) (by decide) hin
    have hck : nn (nI k) = k := nn_nI (by omega)
    refine m_vI (As := [.int (nI k)]) (rest := [.int 0, .ref (ad 60)]) (n := 1) hF hC hO hS (k_X5_vat l G lo sa ad R g nf F f no O tf tv fw k hnf hno hk2) ok_X5_vat q_409 rfl rfl ⟨Nat.le_of_ble_eq_true rfl, Nat.le_of_ble_eq_true rfl⟩ rfl hl.1 rfl (Nat.le_of_ble_eq_true rfl) ⟨Nat.le_of_ble_eq_true rfl, Nat.le_of_ble_eq_true rfl⟩ dL_vat_4 (fun v4 R' H locs hp hO hS => ?_)
    obtain ⟨rfl, hR⟩ := hp
    rw [hR] at hO
    refine lv_i2l (v := ((m_vat g (nI k)).toInt64)) hx hb dL_vat_7 rfl ?_
    refine m_last hF hC hO hS (WC_60 ho) (j := 0) (by decide) (vp_in_nI (n := 0) (by decide) (by decide)) dL_vat_8 (fun H locs hO hS => ?_)
    have hO : mO G lo ad (mU (WC G ad g nf F f no O tf tv fw R) 60 (.inl (G.2 1, 1, .inr (.inl (vp_updL o 0 ((m_vat g (nI k)).toInt64)))))) H := hO
    rw [WC_b (by decide)] at hO
    refine lv_goto (tgt := 15) hx hb dL_vat_9 (by decide) ?_
    refine lv_iconst (v := 0) hx hb dL_vat_15 (by decide) ?_
    refine m_niret hF hr hlk hQ (by decide) rfl hO hS dL_vat_16 ?_
    exact Or.inl ⟨hK, rfl, (fun _ _ => rfl), tf, tv, by first | (simp only [hcl]; done) | rfl⟩
  · refine m_vX (As := [.int a]) (rest := [.int 0, .ref (ad 60)]) (n := 1) hF hC hO hS (k_X5_vatX l G lo sa ad R g nf F f no O tf tv fw a hnf hno hfl hK) ok_X5_vat q_409 rfl rfl ⟨Nat.le_of_ble_eq_true rfl, Nat.le_of_ble_eq_true rfl⟩ rfl hl.1 rfl (Nat.le_of_ble_eq_true rfl) ⟨Nat.le_of_ble_eq_true rfl, Nat.le_of_ble_eq_true rfl⟩ dL_vat_4 (fun E ce q9 H locs hE hO hS hce hcv hcl => ?_)
    obtain ⟨rfl, hk9⟩ := hE
    refine vx_catch (own := RL) (name := mXO) hF.2.2.2.1 [] ⟨0, 9, 12, 23⟩ [] (ht.trans rfl) (fun z hz => nomatch hz) rfl (by decide) (hF.2.2.2.2 _ q_408) (va_Nw.use rfl hC.2.2.1.2.2.1) hce hcv hcl ?_
    refine lv_astore_n (lv' := [(3, .ref q9), (0, .ref (ad 0)), (1, .int a), (2, .ref (ad 60))]) hx hb dL_vat_12 rfl hl (by decide) rfl (fun ls hl => ?_)
    refine lv_iconst (v := 1) hx hb dL_vat_13 (by decide) ?_
    refine m_niret hF hr hlk hQ (by decide) rfl hO hS dL_vat_14 ?_
    exact Or.inr ⟨hK, hk9.symm, rfl⟩
theorem ok_L_addFrame : (.static yL_addFrame : Cond) ∈ lw_all ∧ (.initialized RL : Cond) ∈ lw_all ∧ (.codeWith yL_addFrame cL_addFrame 5 (some .int) [(0, 10, 13, 13), (0, 10, 17, 15)] : Cond) ∈ lw_all := ⟨q_411, q_0, q_412⟩
set_option maxHeartbeats 400000 in
set_option maxRecDepth 100000 in
theorem k_L_addFrame (l : Launch) (G : mG) (lo : Nat) (sa ad : Nat → Nat) (R : mM) (g : Nat → Int32) (nf : Nat) (F : Nat → Nat → Int32) (f : Nat → Int32) (no : Nat) (O : Nat → Nat → Int32) (tf tv fw : Nat → Int32) (o : Nat → Int64) (a b : Int32) (hnf : nf ≤ 12) (hno : no ≤ 20) (hfl : l.stackTraces = false) (ho : R 60 = some (.inl (G.2 1, 1, .inr (.inl o)))) : nW l yL_addFrame cL_addFrame 5 [(0, 10, 13, 13), (0, 10, 17, 15)] 7 113 1 7 G lo sa ad (WC G ad g nf F f no O tf tv fw R) [.ref (ad 0), .int a, .int b, .ref (ad 60)] (fun v u' => (K_addFrame nf a b = 0 ∧ v = 0 ∧ (∀ x, x < 100 → ad x = u'.1 x) ∧ ∃ (tf' tv' : Nat → Int32), u'.2 = (WC G u'.1 g (nf + 1) (va_up F nf (N_F a b)) f no O tf' tv' fw (mU R 60 (.inl (G.2 1, 1, .inr (.inl (vp_updL o 0 (nI nf).toInt64))))))) ∨ (¬ K_addFrame nf a b = 0 ∧ v = K_addFrame nf a b ∧ u' = (ad, (WC G ad g nf F f no O tf tv fw R)))) := by
  refine nW_of (by decide) (Nat.le_of_ble_eq_true rfl) ?_
  intro p e s m args below meth c hF ht hr hlk hC ls hl hO hS Q hQ
  have hx := hF.1
  have hb := hF.2.1
  have hl : lv_has ls 5 [(0, .ref (ad 0)), (1, .int a), (2, .int b), (3, .ref (ad 60))] := hl
  refine lv_aload_n hx hb dL_addFrame_0 rfl (lv_at hl 3 rfl) ?_
  refine lv_iconst (v := 0) hx hb dL_addFrame_1 (by decide) ?_
  refine lv_aload_n hx hb dL_addFrame_2 rfl (lv_at hl 0 rfl) ?_
  refine lv_iload_n hx hb dL_addFrame_3 rfl (lv_at hl 1 rfl) ?_
  refine lv_iload_n hx hb dL_addFrame_4 rfl (lv_at hl 2 rfl) ?_
  by_cases hK : K_addFrame nf a b = 0
  · obtain ⟨h1, h2, h3⟩ := K0_addFrame hnf hK
    refine m_vNi (As := [.int a, .int b]) (rest := [.int 0, .ref (ad 60)]) (n := 2) hF hC hO hS (k_X5_addFrame l G lo sa ad R g nf F f no O tf tv fw a b hnf hno h3 h1 h2) ok_X5_addFrame q_413 rfl rfl ⟨Nat.le_of_ble_eq_true rfl, Nat.le_of_ble_eq_true rfl⟩ rfl hl.1 rfl (Nat.le_of_ble_eq_true rfl) ⟨Nat.le_of_ble_eq_true rfl, Nat.le_of_ble_eq_true rfl⟩ dL_addFrame_5 (fun v5 ad1 R' H locs hp hO hS => ?_)
    dsimp only at hp
    obtain ⟨rfl, had1, hR⟩ := hp
    rw [hR] at hO
    try simp only [had1 0 (by omega), had1 60 (by omega)] at hO
    try simp only [had1 0 (by omega), had1 60 (by omega)] at hl
    try simp only [had1 0 (by omega), had1 60 (by omega)]
    refine lv_i2l (v := ((nI nf).toInt64)) hx hb dL_addFrame_8 rfl ?_
    refine m_last hF hC hO hS (WC_60 ho) (j := 0) (by decide) (vp_in_nI (n := 0) (by decide) (by decide)) dL_addFrame_9 (fun H locs hO hS => ?_)
    have hO : mO G lo ad1 (mU (WC G ad1 g (nf + 1) (va_up F nf (N_F a b)) f no O tf tv fw R) 60 (.inl (G.2 1, 1, .inr (.inl (vp_updL o 0 ((nI nf).toInt64)))))) H := hO
    rw [WC_b (by decide)] at hO
    refine lv_goto (tgt := 21) hx hb dL_addFrame_10 (by decide) ?_
    refine lv_iconst (v := 0) hx hb dL_addFrame_21 (by decide) ?_
    refine m_niret hF hr hlk hQ (by decide) rfl hO hS dL_addFrame_22 ?_
    exact Or.inl ⟨hK, rfl, (fun x hx => had1 x (by omega)), tf, tv, by first | (simp only [hcl]; done) | rfl⟩
  · refine m_vX (As := [.int a, .int b]) (rest := [.int 0, .ref (ad 60)]) (n := 2) hF hC hO hS (k_X5_addFrameX l G lo sa ad R g nf F f no O tf tv fw a b hnf hno hfl hK) ok_X5_addFrame q_413 rfl rfl ⟨Nat.le_of_ble_eq_true rfl, Nat.le_of_ble_eq_true rfl⟩ rfl hl.1 rfl (Nat.le_of_ble_eq_true rfl) ⟨Nat.le_of_ble_eq_true rfl, Nat.le_of_ble_eq_true rfl⟩ dL_addFrame_5 (fun E ce q9 H locs hE hO hS hce hcv hcl => ?_)
    rcases hE with ⟨rfl, hk9⟩ | ⟨rfl, hk9⟩
    · refine vx_catch (own := RL) (name := mXA) hF.2.2.2.1 [] ⟨0, 10, 13, 13⟩ [⟨0, 10, 17, 15⟩] (ht.trans rfl) (fun z hz => nomatch hz) rfl (by decide) (hF.2.2.2.2 _ q_354) (va_Nw.use rfl hC.2.2.1.1) hce hcv hcl ?_
      refine lv_astore (lv' := [(4, .ref q9), (0, .ref (ad 0)), (1, .int a), (2, .int b), (3, .ref (ad 60))]) hx hb dL_addFrame_13 hl (by decide) rfl (fun ls hl => ?_)
      refine lv_iconst (v := 1) hx hb dL_addFrame_15 (by decide) ?_
      refine m_niret hF hr hlk hQ (by decide) rfl hO hS dL_addFrame_16 ?_
      exact Or.inr ⟨hK, hk9.symm, rfl⟩
    · refine vx_catch (own := RL) (name := mXS) hF.2.2.2.1 [⟨0, 10, 13, 13⟩] ⟨0, 10, 17, 15⟩ [] (ht.trans rfl) (List.forall_mem_cons.mpr ⟨Or.inr ⟨by decide, mXA, hF.2.2.2.2 _ q_354, hC.2.2.2.2.1.2.2.1⟩, fun z hz => nomatch hz⟩) rfl (by decide) (hF.2.2.2.2 _ q_355) (va_Nw.use rfl hC.2.2.1.2.1) hce hcv hcl ?_
      refine lv_astore (lv' := [(4, .ref q9), (0, .ref (ad 0)), (1, .int a), (2, .int b), (3, .ref (ad 60))]) hx hb dL_addFrame_17 hl (by decide) rfl (fun ls hl => ?_)
      refine lv_iconst (v := 2) hx hb dL_addFrame_19 (by decide) ?_
      refine m_niret hF hr hlk hQ (by decide) rfl hO hS dL_addFrame_20 ?_
      exact Or.inr ⟨hK, hk9.symm, rfl⟩
theorem ok_L_hang : (.static yL_hang : Cond) ∈ lw_all ∧ (.initialized RL : Cond) ∈ lw_all ∧ (.codeWith yL_hang cL_hang 5 (some .int) [(0, 10, 13, 23), (0, 10, 17, 13), (0, 10, 21, 15)] : Cond) ∈ lw_all := ⟨q_421, q_0, q_422⟩
set_option maxHeartbeats 400000 in
set_option maxRecDepth 100000 in
theorem k_L_hang (l : Launch) (G : mG) (lo : Nat) (sa ad : Nat → Nat) (R : mM) (g : Nat → Int32) (nf : Nat) (F : Nat → Nat → Int32) (f : Nat → Int32) (no : Nat) (O : Nat → Nat → Int32) (tf tv fw : Nat → Int32) (o : Nat → Int64) (a b : Int32) (hnf : nf ≤ 12) (hno : no ≤ 20) (hfl : l.stackTraces = false) (ho : R 60 = some (.inl (G.2 1, 1, .inr (.inl o)))) : nW l yL_hang cL_hang 5 [(0, 10, 13, 23), (0, 10, 17, 13), (0, 10, 21, 15)] 8 136 1 7 G lo sa ad (WC G ad g nf F f no O tf tv fw R) [.ref (ad 0), .int a, .int b, .ref (ad 60)] (fun v u' => (K_hang nf F a b = 0 ∧ v = 0 ∧ (∀ x, x < 100 → ad x = u'.1 x) ∧ ∃ (tf' tv' : Nat → Int32), u'.2 = (WC G u'.1 g nf (va_up F (nn a) (upd (F (nn a)) 5 b)) f no O tf' tv' fw (mU R 60 (.inl (G.2 1, 1, .inr (.inl (vp_updL o 0 (F (nn a) 5).toInt64))))))) ∨ (¬ K_hang nf F a b = 0 ∧ v = K_hang nf F a b ∧ u' = (ad, (WC G ad g nf F f no O tf tv fw R)))) := by
  refine nW_of (by decide) (Nat.le_of_ble_eq_true rfl) ?_
  intro p e s m args below meth c hF ht hr hlk hC ls hl hO hS Q hQ
  have hx := hF.1
  have hb := hF.2.1
  have hl : lv_has ls 5 [(0, .ref (ad 0)), (1, .int a), (2, .int b), (3, .ref (ad 60))] := hl
  refine lv_aload_n hx hb dL_hang_0 rfl (lv_at hl 3 rfl) ?_
  refine lv_iconst (v := 0) hx hb dL_hang_1 (by decide) ?_
  refine lv_aload_n hx hb dL_hang_2 rfl (lv_at hl 0 rfl) ?_
  refine lv_iload_n hx hb dL_hang_3 rfl (lv_at hl 1 rfl) ?_
  refine lv_iload_n hx hb dL_hang_4 rfl (lv_at hl 2 rfl) ?_
  by_cases hK : K_hang nf F a b = 0
  · obtain ⟨h1, h2, h3⟩ := K0_hang hK
    obtain ⟨i, hi, rfl⟩ := fr_of (by omega) h1
    have hcl : nn (nI i) = i := nn_nI (by omega)
    refine m_vI (As := [.int (nI i), .int b]) (rest := [.int 0, .ref (ad 60)]) (n := 2) hF hC hO hS (k_X5_hang l G lo sa ad R g nf F f no O tf tv fw i b hnf hno hi h2 h3) ok_X5_hang q_423 rfl rfl ⟨Nat.le_of_ble_eq_true rfl, Nat.le_of_ble_eq_true rfl⟩ rfl hl.1 rfl (Nat.le_of_ble_eq_true rfl) ⟨Nat.le_of_ble_eq_true rfl, Nat.le_of_ble_eq_true rfl⟩ dL_hang_5 (fun v5 R' H locs hp hO hS => ?_)
    obtain ⟨rfl, hR⟩ := hp
    rw [hR] at hO
    refine lv_i2l (v := ((F i 5).toInt64)) hx hb dL_hang_8 rfl ?_
    refine m_last hF hC hO hS (WC_60 ho) (j := 0) (by decide) (vp_in_nI (n := 0) (by decide) (by decide)) dL_hang_9 (fun H locs hO hS => ?_)
    have hO : mO G lo ad (mU (WC G ad g nf (va_up F i (upd (F i) 5 b)) f no O tf tv fw R) 60 (.inl (G.2 1, 1, .inr (.inl (vp_updL o 0 ((F i 5).toInt64)))))) H := hO
    rw [WC_b (by decide)] at hO
    refine lv_goto (tgt := 25) hx hb dL_hang_10 (by decide) ?_
    refine lv_iconst (v := 0) hx hb dL_hang_25 (by decide) ?_
    refine m_niret hF hr hlk hQ (by decide) rfl hO hS dL_hang_26 ?_
    exact Or.inl ⟨hK, rfl, (fun _ _ => rfl), tf, tv, by first | (simp only [hcl]; done) | rfl⟩
  · refine m_vX (As := [.int a, .int b]) (rest := [.int 0, .ref (ad 60)]) (n := 2) hF hC hO hS (k_X5_hangX l G lo sa ad R g nf F f no O tf tv fw a b hnf hno hfl hK) ok_X5_hang q_423 rfl rfl ⟨Nat.le_of_ble_eq_true rfl, Nat.le_of_ble_eq_true rfl⟩ rfl hl.1 rfl (Nat.le_of_ble_eq_true rfl) ⟨Nat.le_of_ble_eq_true rfl, Nat.le_of_ble_eq_true rfl⟩ dL_hang_5 (fun E ce q9 H locs hE hO hS hce hcv hcl => ?_)
    rcases hE with ⟨rfl, hk9⟩ | ⟨rfl, hk9⟩ | ⟨rfl, hk9⟩
    · refine vx_catch (own := RL) (name := mXO) hF.2.2.2.1 [] ⟨0, 10, 13, 23⟩ [⟨0, 10, 17, 13⟩, ⟨0, 10, 21, 15⟩] (ht.trans rfl) (fun z hz => nomatch hz) rfl (by decide) (hF.2.2.2.2 _ q_408) (va_Nw.use rfl hC.2.2.1.2.2.1) hce hcv hcl ?_
      refine lv_astore (lv' := [(4, .ref q9), (0, .ref (ad 0)), (1, .int a), (2, .int b), (3, .ref (ad 60))]) hx hb dL_hang_13 hl (by decide) rfl (fun ls hl => ?_)
      refine lv_iconst (v := 1) hx hb dL_hang_15 (by decide) ?_
      refine m_niret hF hr hlk hQ (by decide) rfl hO hS dL_hang_16 ?_
      exact Or.inr ⟨hK, hk9.symm, rfl⟩
    · refine vx_catch (own := RL) (name := mXA) hF.2.2.2.1 [⟨0, 10, 13, 23⟩] ⟨0, 10, 17, 13⟩ [⟨0, 10, 21, 15⟩] (ht.trans rfl) (List.forall_mem_cons.mpr ⟨Or.inr ⟨by decide, mXO, hF.2.2.2.2 _ q_408, hC.2.2.2.2.1.2.1⟩, fun z hz => nomatch hz⟩) rfl (by decide) (hF.2.2.2.2 _ q_354) (va_Nw.use rfl hC.2.2.1.1) hce hcv hcl ?_
      refine lv_astore (lv' := [(4, .ref q9), (0, .ref (ad 0)), (1, .int a), (2, .int b), (3, .ref (ad 60))]) hx hb dL_hang_17 hl (by decide) rfl (fun ls hl => ?_)
      refine lv_iconst (v := 2) hx hb dL_hang_19 (by decide) ?_
      refine m_niret hF hr hlk hQ (by decide) rfl hO hS dL_hang_20 ?_
      exact Or.inr ⟨hK, hk9.symm, rfl⟩
    · refine vx_catch (own := RL) (name := mXS) hF.2.2.2.1 [⟨0, 10, 13, 23⟩, ⟨0, 10, 17, 13⟩] ⟨0, 10, 21, 15⟩ [] (ht.trans rfl) (List.forall_mem_cons.mpr ⟨Or.inr ⟨by decide, mXO, hF.2.2.2.2 _ q_408, hC.2.2.2.2.1.2.2.2.1⟩, List.forall_mem_cons.mpr ⟨Or.inr ⟨by decide, mXA, hF.2.2.2.2 _ q_354, hC.2.2.2.2.1.2.2.1⟩, fun z hz => nomatch hz⟩⟩) rfl (by decide) (hF.2.2.2.2 _ q_355) (va_Nw.use rfl hC.2.2.1.2.1) hce hcv hcl ?_
      refine lv_astore (lv' := [(4, .ref q9), (0, .ref (ad 0)), (1, .int a), (2, .int b), (3, .ref (ad 60))]) hx hb dL_hang_21 hl (by decide) rfl (fun ls hl => ?_)
      refine lv_iconst (v := 3) hx hb dL_hang_23 (by decide) ?_
      refine m_niret hF hr hlk hQ (by decide) rfl hO hS dL_hang_24 ?_
      exact Or.inr ⟨hK, hk9.symm, rfl⟩
theorem ok_L_layAside : (.static yL_layAside : Cond) ∈ lw_all ∧ (.initialized RL : Cond) ∈ lw_all ∧ (.codeWith yL_layAside cL_layAside 4 (some .int) [(0, 9, 12, 23), (0, 9, 15, 15)] : Cond) ∈ lw_all := ⟨q_434, q_0, q_435⟩
set_option maxHeartbeats 400000 in
set_option maxRecDepth 100000 in
theorem k_L_layAside (l : Launch) (G : mG) (lo : Nat) (sa ad : Nat → Nat) (R : mM) (g : Nat → Int32) (nf : Nat) (F : Nat → Nat → Int32) (f : Nat → Int32) (no : Nat) (O : Nat → Nat → Int32) (tf tv fw : Nat → Int32) (o : Nat → Int64) (a : Int32) (hnf : nf ≤ 12) (hno : no ≤ 20) (hfl : l.stackTraces = false) (ho : R 60 = some (.inl (G.2 1, 1, .inr (.inl o)))) : nW l yL_layAside cL_layAside 4 [(0, 9, 12, 23), (0, 9, 15, 15)] 8 134 1 7 G lo sa ad (WC G ad g nf F f no O tf tv fw R) [.ref (ad 0), .int a, .ref (ad 60)] (fun v u' => (K_layAside nf F a = 0 ∧ v = 0 ∧ (∀ x, x < 100 → ad x = u'.1 x) ∧ ∃ (tf' tv' : Nat → Int32), u'.2 = (WC G u'.1 g nf (va_up F (nn a) (upd (F (nn a)) 5 (-1))) f no O tf' tv' fw (mU R 60 (.inl (G.2 1, 1, .inr (.inl (vp_updL o 0 (F (nn a) 5).toInt64))))))) ∨ (¬ K_layAside nf F a = 0 ∧ v = K_layAside nf F a ∧ u' = (ad, (WC G ad g nf F f no O tf tv fw R)))) := by
  refine nW_of (by decide) (Nat.le_of_ble_eq_true rfl) ?_
  intro p e s m args below meth c hF ht hr hlk hC ls hl hO hS Q hQ
  have hx := hF.1
  have hb := hF.2.1
  have hl : lv_has ls 4 [(0, .ref (ad 0)), (1, .int a), (2, .ref (ad 60))] := hl
  refine lv_aload_n hx hb dL_layAside_0 rfl (lv_at hl 2 rfl) ?_
  refine lv_iconst (v := 0) hx hb dL_layAside_1 (by decide) ?_
  refine lv_aload_n hx hb dL_layAside_2 rfl (lv_at hl 0 rfl) ?_
  refine lv_iload_n hx hb dL_layAside_3 rfl (lv_at hl 1 rfl) ?_
  by_cases hK : K_layAside nf F a = 0
  · obtain ⟨h1, h2⟩ := K0_layAside hK
    obtain ⟨i, hi, rfl⟩ := fr_of (by omega) h1
    have hcl : nn (nI i) = i := nn_nI (by omega)
    rw [hcl] at h2
    refine m_vI (As := [.int (nI i)]) (rest := [.int 0, .ref (ad 60)]) (n := 1) hF hC hO hS (k_X5_layAside l G lo sa ad R g nf F f no O tf tv fw i hnf hno hi h2) ok_X5_layAside q_436 rfl rfl ⟨Nat.le_of_ble_eq_true rfl, Nat.le_of_ble_eq_true rfl⟩ rfl hl.1 rfl (Nat.le_of_ble_eq_true rfl) ⟨Nat.le_of_ble_eq_true rfl, Nat.le_of_ble_eq_true rfl⟩ dL_layAside_4 (fun v4 R' H locs hp hO hS => ?_)
    obtain ⟨rfl, hR⟩ := hp
    rw [hR] at hO
    refine lv_i2l (v := ((F i 5).toInt64)) hx hb dL_layAside_7 rfl ?_
    refine m_last hF hC hO hS (WC_60 ho) (j := 0) (by decide) (vp_in_nI (n := 0) (by decide) (by decide)) dL_layAside_8 (fun H locs hO hS => ?_)
    have hO : mO G lo ad (mU (WC G ad g nf (va_up F i (upd (F i) 5 (-1))) f no O tf tv fw R) 60 (.inl (G.2 1, 1, .inr (.inl (vp_updL o 0 ((F i 5).toInt64)))))) H := hO
    rw [WC_b (by decide)] at hO
    refine lv_goto (tgt := 18) hx hb dL_layAside_9 (by decide) ?_
    refine lv_iconst (v := 0) hx hb dL_layAside_18 (by decide) ?_
    refine m_niret hF hr hlk hQ (by decide) rfl hO hS dL_layAside_19 ?_
    exact Or.inl ⟨hK, rfl, (fun _ _ => rfl), tf, tv, by first | (simp only [hcl]; done) | rfl⟩
  · refine m_vX (As := [.int a]) (rest := [.int 0, .ref (ad 60)]) (n := 1) hF hC hO hS (k_X5_layAsideX l G lo sa ad R g nf F f no O tf tv fw a hnf hno hfl hK) ok_X5_layAside q_436 rfl rfl ⟨Nat.le_of_ble_eq_true rfl, Nat.le_of_ble_eq_true rfl⟩ rfl hl.1 rfl (Nat.le_of_ble_eq_true rfl) ⟨Nat.le_of_ble_eq_true rfl, Nat.le_of_ble_eq_true rfl⟩ dL_layAside_4 (fun E ce q9 H locs hE hO hS hce hcv hcl => ?_)
    rcases hE with ⟨rfl, hk9⟩ | ⟨rfl, hk9⟩
    · refine vx_catch (own := RL) (name := mXO) hF.2.2.2.1 [] ⟨0, 9, 12, 23⟩ [⟨0, 9, 15, 15⟩] (ht.trans rfl) (fun z hz => nomatch hz) rfl (by decide) (hF.2.2.2.2 _ q_408) (va_Nw.use rfl hC.2.2.1.2.2.1) hce hcv hcl ?_
      refine lv_astore_n (lv' := [(3, .ref q9), (0, .ref (ad 0)), (1, .int a), (2, .ref (ad 60))]) hx hb dL_layAside_12 rfl hl (by decide) rfl (fun ls hl => ?_)
      refine lv_iconst (v := 1) hx hb dL_layAside_13 (by decide) ?_
      refine m_niret hF hr hlk hQ (by decide) rfl hO hS dL_layAside_14 ?_
      exact Or.inr ⟨hK, hk9.symm, rfl⟩
    · refine vx_catch (own := RL) (name := mXS) hF.2.2.2.1 [⟨0, 9, 12, 23⟩] ⟨0, 9, 15, 15⟩ [] (ht.trans rfl) (List.forall_mem_cons.mpr ⟨Or.inr ⟨by decide, mXO, hF.2.2.2.2 _ q_408, hC.2.2.2.2.1.2.2.2.1⟩, fun z hz => nomatch hz⟩) rfl (by decide) (hF.2.2.2.2 _ q_355) (va_Nw.use rfl hC.2.2.1.2.1) hce hcv hcl ?_
      refine lv_astore_n (lv' := [(3, .ref q9), (0, .ref (ad 0)), (1, .int a), (2, .ref (ad 60))]) hx hb dL_layAside_15 rfl hl (by decide) rfl (fun ls hl => ?_)
      refine lv_iconst (v := 2) hx hb dL_layAside_16 (by decide) ?_
      refine m_niret hF hr hlk hQ (by decide) rfl hO hS dL_layAside_17 ?_
      exact Or.inr ⟨hK, hk9.symm, rfl⟩
theorem ok_L_dip : (.static yL_dip : Cond) ∈ lw_all ∧ (.initialized RL : Cond) ∈ lw_all ∧ (.codeWith yL_dip cL_dip 4 (some .int) [(0, 9, 12, 23), (0, 9, 15, 15)] : Cond) ∈ lw_all := ⟨q_442, q_0, q_443⟩
set_option maxHeartbeats 400000 in
set_option maxRecDepth 100000 in
theorem k_L_dip (l : Launch) (G : mG) (lo : Nat) (sa ad : Nat → Nat) (R : mM) (g : Nat → Int32) (nf : Nat) (F : Nat → Nat → Int32) (f : Nat → Int32) (no : Nat) (O : Nat → Nat → Int32) (tf tv fw : Nat → Int32) (o : Nat → Int64) (a : Int32) (hnf : nf ≤ 12) (hno : no ≤ 20) (hfl : l.stackTraces = false) (ho : R 60 = some (.inl (G.2 1, 1, .inr (.inl o)))) (hq : ∃ qn : Nat, qn < 900000 ∧ g 3 = nI qn) : nW l yL_dip cL_dip 4 [(0, 9, 12, 23), (0, 9, 15, 15)] 8 133 1 7 G lo sa ad (WC G ad g nf F f no O tf tv fw R) [.ref (ad 0), .int a, .ref (ad 60)] (fun v u' => (KC_dip g nf F a = 0 ∧ v = 0 ∧ (∀ x, x < 100 → ad x = u'.1 x) ∧ ∃ (tf' tv' : Nat → Int32), u'.2 = (WC G u'.1 (m_qG (upd (p_dipV (F (nn a)) g) 4 (p_dipV (F (nn a)) g 4 + 1))) nf (m_coolTo nf (nn a) (va_up F (nn a) (p_dipF (F (nn a)) (g 1)))) f no (m_qO no (upd (p_dipV (F (nn a)) g) 4 (p_dipV (F (nn a)) g 4 + 1)) O) tf' tv' fw (mU R 60 (.inl (G.2 1, 1, .inr (.inl (vp_updL o 0 (p_dipF (F (nn a)) (g 1) 2).toInt64))))))) ∨ (¬ KC_dip g nf F a = 0 ∧ v = KC_dip g nf F a ∧ u' = (ad, (WC G ad g nf F f no O tf tv fw R)))) := by
  refine nW_of (by decide) (Nat.le_of_ble_eq_true rfl) ?_
  intro p e s m args below meth c hF ht hr hlk hC ls hl hO hS Q hQ
  have hx := hF.1
  have hb := hF.2.1
  have hl : lv_has ls 4 [(0, .ref (ad 0)), (1, .int a), (2, .ref (ad 60))] := hl
  refine lv_aload_n hx hb dL_dip_0 rfl (lv_at hl 2 rfl) ?_
  refine lv_iconst (v := 0) hx hb dL_dip_1 (by decide) ?_
  refine lv_aload_n hx hb dL_dip_2 rfl (lv_at hl 0 rfl) ?_
  refine lv_iload_n hx hb dL_dip_3 rfl (lv_at hl 1 rfl) ?_
  by_cases hK : KC_dip g nf F a = 0
  · obtain ⟨h1, h2⟩ := K0_dip hK
    obtain ⟨qn, hqn, hq⟩ := hq
    obtain ⟨i, hi, rfl⟩ := fr_of (by omega) h1
    have hcl : nn (nI i) = i := nn_nI (by omega)
    rw [hcl] at h2
    refine m_vI (As := [.int (nI i)]) (rest := [.int 0, .ref (ad 60)]) (n := 1) hF hC hO hS (k_X5_dip l G lo sa ad R g nf F f no O tf tv fw i qn hnf hno hi h2 hq (by omega)) ok_X5_dip q_444 rfl rfl ⟨Nat.le_of_ble_eq_true rfl, Nat.le_of_ble_eq_true rfl⟩ rfl hl.1 rfl (Nat.le_of_ble_eq_true rfl) ⟨Nat.le_of_ble_eq_true rfl, Nat.le_of_ble_eq_true rfl⟩ dL_dip_4 (fun v4 R' H locs hp hO hS => ?_)
    obtain ⟨rfl, hR⟩ := hp
    rw [hR] at hO
    refine lv_i2l (v := ((p_dipF (F i) (g 1) 2).toInt64)) hx hb dL_dip_7 rfl ?_
    refine m_last hF hC hO hS (WC_60 ho) (j := 0) (by decide) (vp_in_nI (n := 0) (by decide) (by decide)) dL_dip_8 (fun H locs hO hS => ?_)
    have hO : mO G lo ad (mU (WC G ad (m_qG (upd (p_dipV (F i) g) 4 (p_dipV (F i) g 4 + 1))) nf (m_coolTo nf i (va_up F i (p_dipF (F i) (g 1)))) f no (m_qO no (upd (p_dipV (F i) g) 4 (p_dipV (F i) g 4 + 1)) O) tf tv fw R) 60 (.inl (G.2 1, 1, .inr (.inl (vp_updL o 0 ((p_dipF (F i) (g 1) 2).toInt64)))))) H := hO
    rw [WC_b (by decide)] at hO
    refine lv_goto (tgt := 18) hx hb dL_dip_9 (by decide) ?_
    refine lv_iconst (v := 0) hx hb dL_dip_18 (by decide) ?_
    refine m_niret hF hr hlk hQ (by decide) rfl hO hS dL_dip_19 ?_
    exact Or.inl ⟨hK, rfl, (fun _ _ => rfl), tf, tv, by first | (simp only [hcl]; done) | rfl⟩
  · refine m_vX (As := [.int a]) (rest := [.int 0, .ref (ad 60)]) (n := 1) hF hC hO hS (k_X5_dipX l G lo sa ad R g nf F f no O tf tv fw a hnf hno hfl hK) ok_X5_dip q_444 rfl rfl ⟨Nat.le_of_ble_eq_true rfl, Nat.le_of_ble_eq_true rfl⟩ rfl hl.1 rfl (Nat.le_of_ble_eq_true rfl) ⟨Nat.le_of_ble_eq_true rfl, Nat.le_of_ble_eq_true rfl⟩ dL_dip_4 (fun E ce q9 H locs hE hO hS hce hcv hcl => ?_)
    rcases hE with ⟨rfl, hk9⟩ | ⟨rfl, hk9⟩
    · refine vx_catch (own := RL) (name := mXO) hF.2.2.2.1 [] ⟨0, 9, 12, 23⟩ [⟨0, 9, 15, 15⟩] (ht.trans rfl) (fun z hz => nomatch hz) rfl (by decide) (hF.2.2.2.2 _ q_408) (va_Nw.use rfl hC.2.2.1.2.2.1) hce hcv hcl ?_
      refine lv_astore_n (lv' := [(3, .ref q9), (0, .ref (ad 0)), (1, .int a), (2, .ref (ad 60))]) hx hb dL_dip_12 rfl hl (by decide) rfl (fun ls hl => ?_)
      refine lv_iconst (v := 1) hx hb dL_dip_13 (by decide) ?_
      refine m_niret hF hr hlk hQ (by decide) rfl hO hS dL_dip_14 ?_
      exact Or.inr ⟨hK, hk9.symm, rfl⟩
    · refine vx_catch (own := RL) (name := mXS) hF.2.2.2.1 [⟨0, 9, 12, 23⟩] ⟨0, 9, 15, 15⟩ [] (ht.trans rfl) (List.forall_mem_cons.mpr ⟨Or.inr ⟨by decide, mXO, hF.2.2.2.2 _ q_408, hC.2.2.2.2.1.2.2.2.1⟩, fun z hz => nomatch hz⟩) rfl (by decide) (hF.2.2.2.2 _ q_355) (va_Nw.use rfl hC.2.2.1.2.1) hce hcv hcl ?_
      refine lv_astore_n (lv' := [(3, .ref q9), (0, .ref (ad 0)), (1, .int a), (2, .ref (ad 60))]) hx hb dL_dip_15 rfl hl (by decide) rfl (fun ls hl => ?_)
      refine lv_iconst (v := 2) hx hb dL_dip_16 (by decide) ?_
      refine m_niret hF hr hlk hQ (by decide) rfl hO hS dL_dip_17 ?_
      exact Or.inr ⟨hK, hk9.symm, rfl⟩
theorem ok_L_cutOff : (.static yL_cutOff : Cond) ∈ lw_all ∧ (.initialized RL : Cond) ∈ lw_all ∧ (.codeWith yL_cutOff cL_cutOff 4 (some .int) [(0, 9, 12, 23), (0, 9, 15, 15)] : Cond) ∈ lw_all := ⟨q_487, q_0, q_488⟩
set_option maxHeartbeats 400000 in
set_option maxRecDepth 100000 in
theorem k_L_cutOff (l : Launch) (G : mG) (lo : Nat) (sa ad : Nat → Nat) (R : mM) (g : Nat → Int32) (nf : Nat) (F : Nat → Nat → Int32) (f : Nat → Int32) (no : Nat) (O : Nat → Nat → Int32) (tf tv fw : Nat → Int32) (o : Nat → Int64) (a : Int32) (hnf : nf ≤ 12) (hno : no ≤ 20) (hfl : l.stackTraces = false) (ho : R 60 = some (.inl (G.2 1, 1, .inr (.inl o)))) (hFk : ∀ i, i < nf → (∃ kk : Nat, kk < 4 ∧ F i 0 = nI kk) ∧ 0 ≤ p_size (F i)) : nW l yL_cutOff cL_cutOff 4 [(0, 9, 12, 23), (0, 9, 15, 15)] 8 134 1 7 G lo sa ad (WC G ad g nf F f no O tf tv fw R) [.ref (ad 0), .int a, .ref (ad 60)] (fun v u' => (K_cutOff nf F a = 0 ∧ v = 0 ∧ (∀ x, x < 100 → ad x = u'.1 x) ∧ ∃ (tf' tv' : Nat → Int32), u'.2 = (WC G u'.1 (CG_cut g (F (nn a))) nf (va_up F (nn a) (p_renewF (F (nn a)))) (Cf_cut f (F (nn a))) no O tf' tv' fw (mU R 60 (.inl (G.2 1, 1, .inr (.inl (vp_updL o 0 (p_size (F (nn a))).toInt64))))))) ∨ (¬ K_cutOff nf F a = 0 ∧ v = K_cutOff nf F a ∧ u' = (ad, (WC G ad g nf F f no O tf tv fw R)))) := by
  refine nW_of (by decide) (Nat.le_of_ble_eq_true rfl) ?_
  intro p e s m args below meth c hF ht hr hlk hC ls hl hO hS Q hQ
  have hx := hF.1
  have hb := hF.2.1
  have hl : lv_has ls 4 [(0, .ref (ad 0)), (1, .int a), (2, .ref (ad 60))] := hl
  refine lv_aload_n hx hb dL_cutOff_0 rfl (lv_at hl 2 rfl) ?_
  refine lv_iconst (v := 0) hx hb dL_cutOff_1 (by decide) ?_
  refine lv_aload_n hx hb dL_cutOff_2 rfl (lv_at hl 0 rfl) ?_
  refine lv_iload_n hx hb dL_cutOff_3 rfl (lv_at hl 1 rfl) ?_
  by_cases hK : K_cutOff nf F a = 0
  · obtain ⟨h1, h2, h3⟩ := K0_cutOff hK
    obtain ⟨i, hi, rfl⟩ := fr_of (by omega) h1
    have hcl : nn (nI i) = i := nn_nI (by omega)
    rw [hcl] at h2 h3
    obtain ⟨⟨kk, hkk, hk0⟩, hs0⟩ := hFk i hi
    refine m_vI (As := [.int (nI i)]) (rest := [.int 0, .ref (ad 60)]) (n := 1) hF hC hO hS (k_X5_cutOff l G lo sa ad R g nf F f no O tf tv fw i kk hnf hno hi hkk hk0 h2 h3 hs0) ok_X5_cutOff q_489 rfl rfl ⟨Nat.le_of_ble_eq_true rfl, Nat.le_of_ble_eq_true rfl⟩ rfl hl.1 rfl (Nat.le_of_ble_eq_true rfl) ⟨Nat.le_of_ble_eq_true rfl, Nat.le_of_ble_eq_true rfl⟩ dL_cutOff_4 (fun v4 R' H locs hp hO hS => ?_)
    obtain ⟨rfl, hR⟩ := hp
    rw [hR] at hO
    refine lv_i2l (v := ((p_size (F i)).toInt64)) hx hb dL_cutOff_7 rfl ?_
    refine m_last hF hC hO hS (WC_60 ho) (j := 0) (by decide) (vp_in_nI (n := 0) (by decide) (by decide)) dL_cutOff_8 (fun H locs hO hS => ?_)
    have hO : mO G lo ad (mU (WC G ad (CG_cut g (F i)) nf (va_up F i (p_renewF (F i))) (Cf_cut f (F i)) no O tf tv fw R) 60 (.inl (G.2 1, 1, .inr (.inl (vp_updL o 0 ((p_size (F i)).toInt64)))))) H := hO
    rw [WC_b (by decide)] at hO
    refine lv_goto (tgt := 18) hx hb dL_cutOff_9 (by decide) ?_
    refine lv_iconst (v := 0) hx hb dL_cutOff_18 (by decide) ?_
    refine m_niret hF hr hlk hQ (by decide) rfl hO hS dL_cutOff_19 ?_
    exact Or.inl ⟨hK, rfl, (fun _ _ => rfl), tf, tv, by first | (simp only [hcl]; done) | rfl⟩
  · refine m_vX (As := [.int a]) (rest := [.int 0, .ref (ad 60)]) (n := 1) hF hC hO hS (k_X5_cutOffX l G lo sa ad R g nf F f no O tf tv fw a hnf hno hfl hK) ok_X5_cutOff q_489 rfl rfl ⟨Nat.le_of_ble_eq_true rfl, Nat.le_of_ble_eq_true rfl⟩ rfl hl.1 rfl (Nat.le_of_ble_eq_true rfl) ⟨Nat.le_of_ble_eq_true rfl, Nat.le_of_ble_eq_true rfl⟩ dL_cutOff_4 (fun E ce q9 H locs hE hO hS hce hcv hcl => ?_)
    rcases hE with ⟨rfl, hk9⟩ | ⟨rfl, hk9⟩
    · refine vx_catch (own := RL) (name := mXO) hF.2.2.2.1 [] ⟨0, 9, 12, 23⟩ [⟨0, 9, 15, 15⟩] (ht.trans rfl) (fun z hz => nomatch hz) rfl (by decide) (hF.2.2.2.2 _ q_408) (va_Nw.use rfl hC.2.2.1.2.2.1) hce hcv hcl ?_
      refine lv_astore_n (lv' := [(3, .ref q9), (0, .ref (ad 0)), (1, .int a), (2, .ref (ad 60))]) hx hb dL_cutOff_12 rfl hl (by decide) rfl (fun ls hl => ?_)
      refine lv_iconst (v := 1) hx hb dL_cutOff_13 (by decide) ?_
      refine m_niret hF hr hlk hQ (by decide) rfl hO hS dL_cutOff_14 ?_
      exact Or.inr ⟨hK, hk9.symm, rfl⟩
    · refine vx_catch (own := RL) (name := mXS) hF.2.2.2.1 [⟨0, 9, 12, 23⟩] ⟨0, 9, 15, 15⟩ [] (ht.trans rfl) (List.forall_mem_cons.mpr ⟨Or.inr ⟨by decide, mXO, hF.2.2.2.2 _ q_408, hC.2.2.2.2.1.2.2.2.1⟩, fun z hz => nomatch hz⟩) rfl (by decide) (hF.2.2.2.2 _ q_355) (va_Nw.use rfl hC.2.2.1.2.1) hce hcv hcl ?_
      refine lv_astore_n (lv' := [(3, .ref q9), (0, .ref (ad 0)), (1, .int a), (2, .ref (ad 60))]) hx hb dL_cutOff_15 rfl hl (by decide) rfl (fun ls hl => ?_)
      refine lv_iconst (v := 2) hx hb dL_cutOff_16 (by decide) ?_
      refine m_niret hF hr hlk hQ (by decide) rfl hO hS dL_cutOff_17 ?_
      exact Or.inr ⟨hK, hk9.symm, rfl⟩
theorem ok_L_frame : (.static yL_frame : Cond) ∈ lw_all ∧ (.initialized RL : Cond) ∈ lw_all ∧ (.codeWith yL_frame cL_frame 5 (some .int) [(0, 10, 13, 23)] : Cond) ∈ lw_all := ⟨q_513, q_0, q_514⟩
set_option maxHeartbeats 400000 in
set_option maxRecDepth 100000 in
theorem k_L_frame (l : Launch) (G : mG) (lo : Nat) (sa ad : Nat → Nat) (R : mM) (g : Nat → Int32) (nf : Nat) (F : Nat → Nat → Int32) (f : Nat → Int32) (no : Nat) (O : Nat → Nat → Int32) (tf tv fw : Nat → Int32) (o : Nat → Int64) (a b : Int32) (hnf : nf ≤ 12) (hno : no ≤ 20) (hfl : l.stackTraces = false) (ho : R 60 = some (.inl (G.2 1, 1, .inr (.inl o)))) (hcr : ∀ i, i < nf → F i 4 = 0 ∨ F i 4 = 1) : nW l yL_frame cL_frame 5 [(0, 10, 13, 23)] 8 134 1 7 G lo sa ad (WC G ad g nf F f no O tf tv fw R) [.ref (ad 0), .int a, .int b, .ref (ad 60)] (fun v u' => (K_frame nf a b = 0 ∧ v = 0 ∧ (∀ x, x < 100 → ad x = u'.1 x) ∧ ∃ (tf' tv' : Nat → Int32), u'.2 = (WC G u'.1 g nf F f no O tf' tv' fw (mU R 60 (.inl (G.2 1, 1, .inr (.inl (vp_updL o 0 (c_frame (F (nn a)) (nn b)).toInt64))))))) ∨ (¬ K_frame nf a b = 0 ∧ v = K_frame nf a b ∧ u' = (ad, (WC G ad g nf F f no O tf tv fw R)))) := by
  refine nW_of (by decide) (Nat.le_of_ble_eq_true rfl) ?_
  intro p e s m args below meth c hF ht hr hlk hC ls hl hO hS Q hQ
  have hx := hF.1
  have hb := hF.2.1
  have hl : lv_has ls 5 [(0, .ref (ad 0)), (1, .int a), (2, .int b), (3, .ref (ad 60))] := hl
  refine lv_aload_n hx hb dL_frame_0 rfl (lv_at hl 3 rfl) ?_
  refine lv_iconst (v := 0) hx hb dL_frame_1 (by decide) ?_
  refine lv_aload_n hx hb dL_frame_2 rfl (lv_at hl 0 rfl) ?_
  refine lv_iload_n hx hb dL_frame_3 rfl (lv_at hl 1 rfl) ?_
  refine lv_iload_n hx hb dL_frame_4 rfl (lv_at hl 2 rfl) ?_
  by_cases hK : K_frame nf a b = 0
  · obtain ⟨h1, h2⟩ := K0_frame hK
    obtain ⟨i, hi, rfl⟩ := fr_of (by omega) h1
    have hcl : nn (nI i) = i := nn_nI (by omega)
    obtain ⟨k, hk1, hk2, rfl⟩ := in_of (a := 0) (b := 7) (by decide) (by decide) h2
    have hck : nn (nI k) = k := nn_nI (by omega)
    refine m_vI (As := [.int (nI i), .int (nI k)]) (rest := [.int 0, .ref (ad 60)]) (n := 2) hF hC hO hS (k_X5_frame l G lo sa ad R g nf F f no O tf tv fw i k hnf hno hi hk2 (hcr i hi)) ok_X5_frame q_515 rfl rfl ⟨Nat.le_of_ble_eq_true rfl, Nat.le_of_ble_eq_true rfl⟩ rfl hl.1 rfl (Nat.le_of_ble_eq_true rfl) ⟨Nat.le_of_ble_eq_true rfl, Nat.le_of_ble_eq_true rfl⟩ dL_frame_5 (fun v5 R' H locs hp hO hS => ?_)
    obtain ⟨rfl, hR⟩ := hp
    rw [hR] at hO
    refine lv_i2l (v := ((c_frame (F i) k).toInt64)) hx hb dL_frame_8 rfl ?_
    refine m_last hF hC hO hS (WC_60 ho) (j := 0) (by decide) (vp_in_nI (n := 0) (by decide) (by decide)) dL_frame_9 (fun H locs hO hS => ?_)
    have hO : mO G lo ad (mU (WC G ad g nf F f no O tf tv fw R) 60 (.inl (G.2 1, 1, .inr (.inl (vp_updL o 0 ((c_frame (F i) k).toInt64)))))) H := hO
    rw [WC_b (by decide)] at hO
    refine lv_goto (tgt := 17) hx hb dL_frame_10 (by decide) ?_
    refine lv_iconst (v := 0) hx hb dL_frame_17 (by decide) ?_
    refine m_niret hF hr hlk hQ (by decide) rfl hO hS dL_frame_18 ?_
    exact Or.inl ⟨hK, rfl, (fun _ _ => rfl), tf, tv, by first | (simp only [hcl, hck]; done) | rfl⟩
  · refine m_vX (As := [.int a, .int b]) (rest := [.int 0, .ref (ad 60)]) (n := 2) hF hC hO hS (k_X5_frameX l G lo sa ad R g nf F f no O tf tv fw a b hnf hno hfl hK) ok_X5_frame q_515 rfl rfl ⟨Nat.le_of_ble_eq_true rfl, Nat.le_of_ble_eq_true rfl⟩ rfl hl.1 rfl (Nat.le_of_ble_eq_true rfl) ⟨Nat.le_of_ble_eq_true rfl, Nat.le_of_ble_eq_true rfl⟩ dL_frame_5 (fun E ce q9 H locs hE hO hS hce hcv hcl => ?_)
    obtain ⟨rfl, hk9⟩ := hE
    refine vx_catch (own := RL) (name := mXO) hF.2.2.2.1 [] ⟨0, 10, 13, 23⟩ [] (ht.trans rfl) (fun z hz => nomatch hz) rfl (by decide) (hF.2.2.2.2 _ q_408) (va_Nw.use rfl hC.2.2.1.2.2.1) hce hcv hcl ?_
    refine lv_astore (lv' := [(4, .ref q9), (0, .ref (ad 0)), (1, .int a), (2, .int b), (3, .ref (ad 60))]) hx hb dL_frame_13 hl (by decide) rfl (fun ls hl => ?_)
    refine lv_iconst (v := 1) hx hb dL_frame_15 (by decide) ?_
    refine m_niret hF hr hlk hQ (by decide) rfl hO hS dL_frame_16 ?_
    exact Or.inr ⟨hK, hk9.symm, rfl⟩
theorem ok_L_hook : (.static yL_hook : Cond) ∈ lw_all ∧ (.initialized RL : Cond) ∈ lw_all ∧ (.codeWith yL_hook cL_hook 4 (some .int) [(0, 9, 12, 23)] : Cond) ∈ lw_all := ⟨q_517, q_0, q_518⟩
set_option maxHeartbeats 400000 in
set_option maxRecDepth 100000 in
theorem k_L_hook (l : Launch) (G : mG) (lo : Nat) (sa ad : Nat → Nat) (R : mM) (g : Nat → Int32) (nf : Nat) (F : Nat → Nat → Int32) (f : Nat → Int32) (no : Nat) (O : Nat → Nat → Int32) (tf tv fw : Nat → Int32) (o : Nat → Int64) (a : Int32) (hnf : nf ≤ 12) (hno : no ≤ 20) (hfl : l.stackTraces = false) (ho : R 60 = some (.inl (G.2 1, 1, .inr (.inl o)))) : nW l yL_hook cL_hook 4 [(0, 9, 12, 23)] 7 111 1 7 G lo sa ad (WC G ad g nf F f no O tf tv fw R) [.ref (ad 0), .int a, .ref (ad 60)] (fun v u' => (K_hook a = 0 ∧ v = 0 ∧ (∀ x, x < 100 → ad x = u'.1 x) ∧ ∃ (tf' tv' : Nat → Int32), u'.2 = (WC G u'.1 g nf F f no O tf' tv' fw (mU R 60 (.inl (G.2 1, 1, .inr (.inl (vp_updL o 0 (m_at nf F a).toInt64))))))) ∨ (¬ K_hook a = 0 ∧ v = K_hook a ∧ u' = (ad, (WC G ad g nf F f no O tf tv fw R)))) := by
  refine nW_of (by decide) (Nat.le_of_ble_eq_true rfl) ?_
  intro p e s m args below meth c hF ht hr hlk hC ls hl hO hS Q hQ
  have hx := hF.1
  have hb := hF.2.1
  have hl : lv_has ls 4 [(0, .ref (ad 0)), (1, .int a), (2, .ref (ad 60))] := hl
  refine lv_aload_n hx hb dL_hook_0 rfl (lv_at hl 2 rfl) ?_
  refine lv_iconst (v := 0) hx hb dL_hook_1 (by decide) ?_
  refine lv_aload_n hx hb dL_hook_2 rfl (lv_at hl 0 rfl) ?_
  refine lv_iload_n hx hb dL_hook_3 rfl (lv_at hl 1 rfl) ?_
  by_cases hK : K_hook a = 0
  · have hin := K0_hook hK
    refine m_vI (As := [.int a]) (rest := [.int 0, .ref (ad 60)]) (n := 1) hF hC hO hS (k_X5_hook l G lo sa ad R g nf F f no O tf tv fw a hnf hno hin) ok_X5_hook q_519 rfl rfl ⟨Nat.le_of_ble_eq_true rfl, Nat.le_of_ble_eq_true rfl⟩ rfl hl.1 rfl (Nat.le_of_ble_eq_true rfl) ⟨Nat.le_of_ble_eq_true rfl, Nat.le_of_ble_eq_true rfl⟩ dL_hook_4 (fun v4 R' H locs hp hO hS => ?_)
    obtain ⟨rfl, hR⟩ := hp
    rw [hR] at hO
    refine lv_i2l (v := ((m_at nf F a).toInt64)) hx hb dL_hook_7 rfl ?_
    refine m_last hF hC hO hS (WC_60 ho) (j := 0) (by decide) (vp_in_nI (n := 0) (by decide) (by decide)) dL_hook_8 (fun H locs hO hS => ?_)
    have hO : mO G lo ad (mU (WC G ad g nf F f no O tf tv fw R) 60 (.inl (G.2 1, 1, .inr (.inl (vp_updL o 0 ((m_at nf F a).toInt64)))))) H := hO
    rw [WC_b (by decide)] at hO
    refine lv_goto (tgt := 15) hx hb dL_hook_9 (by decide) ?_
    refine lv_iconst (v := 0) hx hb dL_hook_15 (by decide) ?_
    refine m_niret hF hr hlk hQ (by decide) rfl hO hS dL_hook_16 ?_
    exact Or.inl ⟨hK, rfl, (fun _ _ => rfl), tf, tv, by first | (simp only [hcl]; done) | rfl⟩
  · refine m_vX (As := [.int a]) (rest := [.int 0, .ref (ad 60)]) (n := 1) hF hC hO hS (k_X5_hookX l G lo sa ad R g nf F f no O tf tv fw a hnf hno hfl hK) ok_X5_hook q_519 rfl rfl ⟨Nat.le_of_ble_eq_true rfl, Nat.le_of_ble_eq_true rfl⟩ rfl hl.1 rfl (Nat.le_of_ble_eq_true rfl) ⟨Nat.le_of_ble_eq_true rfl, Nat.le_of_ble_eq_true rfl⟩ dL_hook_4 (fun E ce q9 H locs hE hO hS hce hcv hcl => ?_)
    obtain ⟨rfl, hk9⟩ := hE
    refine vx_catch (own := RL) (name := mXO) hF.2.2.2.1 [] ⟨0, 9, 12, 23⟩ [] (ht.trans rfl) (fun z hz => nomatch hz) rfl (by decide) (hF.2.2.2.2 _ q_408) (va_Nw.use rfl hC.2.2.1.2.2.1) hce hcv hcl ?_
    refine lv_astore_n (lv' := [(3, .ref q9), (0, .ref (ad 0)), (1, .int a), (2, .ref (ad 60))]) hx hb dL_hook_12 rfl hl (by decide) rfl (fun ls hl => ?_)
    refine lv_iconst (v := 1) hx hb dL_hook_13 (by decide) ?_
    refine m_niret hF hr hlk hQ (by decide) rfl hO hS dL_hook_14 ?_
    exact Or.inr ⟨hK, hk9.symm, rfl⟩
theorem ok_L_store : (.static yL_store : Cond) ∈ lw_all ∧ (.initialized RL : Cond) ∈ lw_all ∧ (.codeWith yL_store cL_store 5 (some .int) [(0, 10, 13, 23)] : Cond) ∈ lw_all := ⟨q_524, q_0, q_525⟩
set_option maxHeartbeats 400000 in
set_option maxRecDepth 100000 in
theorem k_L_store (l : Launch) (G : mG) (lo : Nat) (sa ad : Nat → Nat) (R : mM) (g : Nat → Int32) (nf : Nat) (F : Nat → Nat → Int32) (f : Nat → Int32) (no : Nat) (O : Nat → Nat → Int32) (tf tv fw : Nat → Int32) (o : Nat → Int64) (a b : Int32) (hnf : nf ≤ 12) (hno : no ≤ 20) (hfl : l.stackTraces = false) (ho : R 60 = some (.inl (G.2 1, 1, .inr (.inl o)))) : nW l yL_store cL_store 5 [(0, 10, 13, 23)] 7 112 1 7 G lo sa ad (WC G ad g nf F f no O tf tv fw R) [.ref (ad 0), .int a, .int b, .ref (ad 60)] (fun v u' => (K_store a b = 0 ∧ v = 0 ∧ (∀ x, x < 100 → ad x = u'.1 x) ∧ ∃ (tf' tv' : Nat → Int32), u'.2 = (WC G u'.1 g nf F f no O tf' tv' fw (mU R 60 (.inl (G.2 1, 1, .inr (.inl (vp_updL o 0 (f (9 * nn a + nn b - 1)).toInt64))))))) ∨ (¬ K_store a b = 0 ∧ v = K_store a b ∧ u' = (ad, (WC G ad g nf F f no O tf tv fw R)))) := by
  refine nW_of (by decide) (Nat.le_of_ble_eq_true rfl) ?_
  intro p e s m args below meth c hF ht hr hlk hC ls hl hO hS Q hQ
  have hx := hF.1
  have hb := hF.2.1
  have hl : lv_has ls 5 [(0, .ref (ad 0)), (1, .int a), (2, .int b), (3, .ref (ad 60))] := hl
  refine lv_aload_n hx hb dL_store_0 rfl (lv_at hl 3 rfl) ?_
  refine lv_iconst (v := 0) hx hb dL_store_1 (by decide) ?_
  refine lv_aload_n hx hb dL_store_2 rfl (lv_at hl 0 rfl) ?_
  refine lv_iload_n hx hb dL_store_3 rfl (lv_at hl 1 rfl) ?_
  refine lv_iload_n hx hb dL_store_4 rfl (lv_at hl 2 rfl) ?_
  by_cases hK : K_store a b = 0
  · obtain ⟨h1, h2⟩ := K0_store hK
    obtain ⟨i, hi1, hi2, rfl⟩ := in_of (a := 0) (b := 3) (by decide) (by decide) h1
    have hci : nn (nI i) = i := nn_nI (by omega)
    obtain ⟨k, hk1, hk2, rfl⟩ := in_of (a := 1) (b := 9) (by decide) (by decide) h2
    have hck : nn (nI k) = k := nn_nI (by omega)
    refine m_vI (As := [.int (nI i), .int (nI k)]) (rest := [.int 0, .ref (ad 60)]) (n := 2) hF hC hO hS (k_X5_store l G lo sa ad R g nf F f no O tf tv fw i k hnf hno (by omega) hk1 hk2) ok_X5_store q_526 rfl rfl ⟨Nat.le_of_ble_eq_true rfl, Nat.le_of_ble_eq_true rfl⟩ rfl hl.1 rfl (Nat.le_of_ble_eq_true rfl) ⟨Nat.le_of_ble_eq_true rfl, Nat.le_of_ble_eq_true rfl⟩ dL_store_5 (fun v5 R' H locs hp hO hS => ?_)
    obtain ⟨rfl, hR⟩ := hp
    rw [hR] at hO
    refine lv_i2l (v := ((f (9 * i + k - 1)).toInt64)) hx hb dL_store_8 rfl ?_
    refine m_last hF hC hO hS (WC_60 ho) (j := 0) (by decide) (vp_in_nI (n := 0) (by decide) (by decide)) dL_store_9 (fun H locs hO hS => ?_)
    have hO : mO G lo ad (mU (WC G ad g nf F f no O tf tv fw R) 60 (.inl (G.2 1, 1, .inr (.inl (vp_updL o 0 ((f (9 * i + k - 1)).toInt64)))))) H := hO
    rw [WC_b (by decide)] at hO
    refine lv_goto (tgt := 17) hx hb dL_store_10 (by decide) ?_
    refine lv_iconst (v := 0) hx hb dL_store_17 (by decide) ?_
    refine m_niret hF hr hlk hQ (by decide) rfl hO hS dL_store_18 ?_
    exact Or.inl ⟨hK, rfl, (fun _ _ => rfl), tf, tv, by first | (simp only [hci, hck]; done) | rfl⟩
  · refine m_vX (As := [.int a, .int b]) (rest := [.int 0, .ref (ad 60)]) (n := 2) hF hC hO hS (k_X5_storeX l G lo sa ad R g nf F f no O tf tv fw a b hnf hno hfl hK) ok_X5_store q_526 rfl rfl ⟨Nat.le_of_ble_eq_true rfl, Nat.le_of_ble_eq_true rfl⟩ rfl hl.1 rfl (Nat.le_of_ble_eq_true rfl) ⟨Nat.le_of_ble_eq_true rfl, Nat.le_of_ble_eq_true rfl⟩ dL_store_5 (fun E ce q9 H locs hE hO hS hce hcv hcl => ?_)
    obtain ⟨rfl, hk9⟩ := hE
    refine vx_catch (own := RL) (name := mXO) hF.2.2.2.1 [] ⟨0, 10, 13, 23⟩ [] (ht.trans rfl) (fun z hz => nomatch hz) rfl (by decide) (hF.2.2.2.2 _ q_408) (va_Nw.use rfl hC.2.2.1.2.2.1) hce hcv hcl ?_
    refine lv_astore (lv' := [(4, .ref q9), (0, .ref (ad 0)), (1, .int a), (2, .int b), (3, .ref (ad 60))]) hx hb dL_store_13 hl (by decide) rfl (fun ls hl => ?_)
    refine lv_iconst (v := 1) hx hb dL_store_15 (by decide) ?_
    refine m_niret hF hr hlk hQ (by decide) rfl hO hS dL_store_16 ?_
    exact Or.inr ⟨hK, hk9.symm, rfl⟩
theorem ok_L_addOrder : (.static yL_addOrder : Cond) ∈ lw_all ∧ (.initialized RL : Cond) ∈ lw_all ∧ (.codeWith yL_addOrder cL_addOrder 7 (some .int) [(0, 14, 17, 13), (0, 14, 21, 15)] : Cond) ∈ lw_all := ⟨q_528, q_0, q_529⟩
set_option maxHeartbeats 400000 in
set_option maxRecDepth 100000 in
theorem k_L_addOrder (l : Launch) (G : mG) (lo : Nat) (sa ad : Nat → Nat) (R : mM) (g : Nat → Int32) (nf : Nat) (F : Nat → Nat → Int32) (f : Nat → Int32) (no : Nat) (O : Nat → Nat → Int32) (tf tv fw : Nat → Int32) (o : Nat → Int64) (a b y w : Int32) (hnf : nf ≤ 12) (hno : no ≤ 20) (hfl : l.stackTraces = false) (ho : R 60 = some (.inl (G.2 1, 1, .inr (.inl o)))) : nW l yL_addOrder cL_addOrder 7 [(0, 14, 17, 13), (0, 14, 21, 15)] 7 115 1 7 G lo sa ad (WC G ad g nf F f no O tf tv fw R) [.ref (ad 0), .int a, .int b, .int y, .int w, .ref (ad 60)] (fun v u' => (K_addOrder g no a b y w = 0 ∧ v = 0 ∧ (∀ x, x < 100 → ad x = u'.1 x) ∧ ∃ (tf' tv' : Nat → Int32), u'.2 = (WC G u'.1 g nf F f (no + 1) (va_up O no (N_O a b y w)) tf' tv' fw (mU R 60 (.inl (G.2 1, 1, .inr (.inl (vp_updL o 0 (nI no).toInt64))))))) ∨ (¬ K_addOrder g no a b y w = 0 ∧ v = K_addOrder g no a b y w ∧ u' = (ad, (WC G ad g nf F f no O tf tv fw R)))) := by
  refine nW_of (by decide) (Nat.le_of_ble_eq_true rfl) ?_
  intro p e s m args below meth c hF ht hr hlk hC ls hl hO hS Q hQ
  have hx := hF.1
  have hb := hF.2.1
  have hl : lv_has ls 7 [(0, .ref (ad 0)), (1, .int a), (2, .int b), (3, .int y), (4, .int w), (5, .ref (ad 60))] := hl
  refine lv_aload hx hb dL_addOrder_0 (lv_at hl 5 rfl) ?_
  refine lv_iconst (v := 0) hx hb dL_addOrder_2 (by decide) ?_
  refine lv_aload_n hx hb dL_addOrder_3 rfl (lv_at hl 0 rfl) ?_
  refine lv_iload_n hx hb dL_addOrder_4 rfl (lv_at hl 1 rfl) ?_
  refine lv_iload_n hx hb dL_addOrder_5 rfl (lv_at hl 2 rfl) ?_
  refine lv_iload_n hx hb dL_addOrder_6 rfl (lv_at hl 3 rfl) ?_
  refine lv_iload hx hb dL_addOrder_7 (lv_at hl 4 rfl) ?_
  by_cases hK : K_addOrder g no a b y w = 0
  · obtain ⟨h1, h2, h3, h4, h5⟩ := K0_addOrder hno hK
    refine m_vNi (As := [.int a, .int b, .int y, .int w]) (rest := [.int 0, .ref (ad 60)]) (n := 4) hF hC hO hS (k_X5_addOrder l G lo sa ad R g nf F f no O tf tv fw a b y w hnf hno h5 h1 h2 h3 h4) ok_X5_addOrder q_530 rfl rfl ⟨Nat.le_of_ble_eq_true rfl, Nat.le_of_ble_eq_true rfl⟩ rfl hl.1 rfl (Nat.le_of_ble_eq_true rfl) ⟨Nat.le_of_ble_eq_true rfl, Nat.le_of_ble_eq_true rfl⟩ dL_addOrder_9 (fun v9 ad1 R' H locs hp hO hS => ?_)
    dsimp only at hp
    obtain ⟨rfl, had1, hR⟩ := hp
    rw [hR] at hO
    try simp only [had1 0 (by omega), had1 60 (by omega)] at hO
    try simp only [had1 0 (by omega), had1 60 (by omega)] at hl
    try simp only [had1 0 (by omega), had1 60 (by omega)]
    refine lv_i2l (v := ((nI no).toInt64)) hx hb dL_addOrder_12 rfl ?_
    refine m_last hF hC hO hS (WC_60 ho) (j := 0) (by decide) (vp_in_nI (n := 0) (by decide) (by decide)) dL_addOrder_13 (fun H locs hO hS => ?_)
    have hO : mO G lo ad1 (mU (WC G ad1 g nf F f (no + 1) (va_up O no (N_O a b y w)) tf tv fw R) 60 (.inl (G.2 1, 1, .inr (.inl (vp_updL o 0 ((nI no).toInt64)))))) H := hO
    rw [WC_b (by decide)] at hO
    refine lv_goto (tgt := 25) hx hb dL_addOrder_14 (by decide) ?_
    refine lv_iconst (v := 0) hx hb dL_addOrder_25 (by decide) ?_
    refine m_niret hF hr hlk hQ (by decide) rfl hO hS dL_addOrder_26 ?_
    exact Or.inl ⟨hK, rfl, (fun x hx => had1 x (by omega)), tf, tv, by first | (simp only [hcl]; done) | rfl⟩
  · refine m_vX (As := [.int a, .int b, .int y, .int w]) (rest := [.int 0, .ref (ad 60)]) (n := 4) hF hC hO hS (k_X5_addOrderX l G lo sa ad R g nf F f no O tf tv fw a b y w hnf hno hfl hK) ok_X5_addOrder q_530 rfl rfl ⟨Nat.le_of_ble_eq_true rfl, Nat.le_of_ble_eq_true rfl⟩ rfl hl.1 rfl (Nat.le_of_ble_eq_true rfl) ⟨Nat.le_of_ble_eq_true rfl, Nat.le_of_ble_eq_true rfl⟩ dL_addOrder_9 (fun E ce q9 H locs hE hO hS hce hcv hcl => ?_)
    rcases hE with ⟨rfl, hk9⟩ | ⟨rfl, hk9⟩
    · refine vx_catch (own := RL) (name := mXA) hF.2.2.2.1 [] ⟨0, 14, 17, 13⟩ [⟨0, 14, 21, 15⟩] (ht.trans rfl) (fun z hz => nomatch hz) rfl (by decide) (hF.2.2.2.2 _ q_354) (va_Nw.use rfl hC.2.2.1.1) hce hcv hcl ?_
      refine lv_astore (lv' := [(6, .ref q9), (0, .ref (ad 0)), (1, .int a), (2, .int b), (3, .int y), (4, .int w), (5, .ref (ad 60))]) hx hb dL_addOrder_17 hl (by decide) rfl (fun ls hl => ?_)
      refine lv_iconst (v := 1) hx hb dL_addOrder_19 (by decide) ?_
      refine m_niret hF hr hlk hQ (by decide) rfl hO hS dL_addOrder_20 ?_
      exact Or.inr ⟨hK, hk9.symm, rfl⟩
    · refine vx_catch (own := RL) (name := mXS) hF.2.2.2.1 [⟨0, 14, 17, 13⟩] ⟨0, 14, 21, 15⟩ [] (ht.trans rfl) (List.forall_mem_cons.mpr ⟨Or.inr ⟨by decide, mXA, hF.2.2.2.2 _ q_354, hC.2.2.2.2.1.2.2.1⟩, fun z hz => nomatch hz⟩) rfl (by decide) (hF.2.2.2.2 _ q_355) (va_Nw.use rfl hC.2.2.1.2.1) hce hcv hcl ?_
      refine lv_astore (lv' := [(6, .ref q9), (0, .ref (ad 0)), (1, .int a), (2, .int b), (3, .int y), (4, .int w), (5, .ref (ad 60))]) hx hb dL_addOrder_21 hl (by decide) rfl (fun ls hl => ?_)
      refine lv_iconst (v := 2) hx hb dL_addOrder_23 (by decide) ?_
      refine m_niret hF hr hlk hQ (by decide) rfl hO hS dL_addOrder_24 ?_
      exact Or.inr ⟨hK, hk9.symm, rfl⟩
theorem ok_L_fill : (.static yL_fill : Cond) ∈ lw_all ∧ (.initialized RL : Cond) ∈ lw_all ∧ (.codeWith yL_fill cL_fill 4 (some .int) [(0, 9, 12, 23), (0, 9, 15, 15)] : Cond) ∈ lw_all := ⟨q_564, q_0, q_565⟩
set_option maxHeartbeats 400000 in
set_option maxRecDepth 100000 in
theorem k_L_fill (l : Launch) (G : mG) (lo : Nat) (sa ad : Nat → Nat) (R : mM) (g : Nat → Int32) (nf : Nat) (F : Nat → Nat → Int32) (f : Nat → Int32) (no : Nat) (O : Nat → Nat → Int32) (tf tv fw : Nat → Int32) (o : Nat → Int64) (a : Int32) (hnf : nf ≤ 12) (hno : no ≤ 20) (hfl : l.stackTraces = false) (ho : R 60 = some (.inl (G.2 1, 1, .inr (.inl o)))) (hOk : ∀ i, i < no → ∃ kk zz : Nat, kk < 4 ∧ 1 ≤ zz ∧ zz ≤ 9 ∧ O i 0 = nI kk ∧ O i 1 = nI zz) : nW l yL_fill cL_fill 4 [(0, 9, 12, 23), (0, 9, 15, 15)] 8 133 1 7 G lo sa ad (WC G ad g nf F f no O tf tv fw R) [.ref (ad 0), .int a, .ref (ad 60)] (fun v u' => (K_fill f no O a = 0 ∧ v = 0 ∧ (∀ x, x < 100 → ad x = u'.1 x) ∧ ∃ (tf' tv' : Nat → Int32), u'.2 = (WC G u'.1 g nf F (c_fill f (O (nn a))) no (va_up O (nn a) (upd (O (nn a)) 4 1)) tf' tv' fw (mU R 60 (.inl (G.2 1, 1, .inr (.inl (vp_updL o 0 (p_sum 36 (c_fill f (O (nn a))) 0 0).toInt64))))))) ∨ (¬ K_fill f no O a = 0 ∧ v = K_fill f no O a ∧ u' = (ad, (WC G ad g nf F f no O tf tv fw R)))) := by
  refine nW_of (by decide) (Nat.le_of_ble_eq_true rfl) ?_
  intro p e s m args below meth c hF ht hr hlk hC ls hl hO hS Q hQ
  have hx := hF.1
  have hb := hF.2.1
  have hl : lv_has ls 4 [(0, .ref (ad 0)), (1, .int a), (2, .ref (ad 60))] := hl
  refine lv_aload_n hx hb dL_fill_0 rfl (lv_at hl 2 rfl) ?_
  refine lv_iconst (v := 0) hx hb dL_fill_1 (by decide) ?_
  refine lv_aload_n hx hb dL_fill_2 rfl (lv_at hl 0 rfl) ?_
  refine lv_iload_n hx hb dL_fill_3 rfl (lv_at hl 1 rfl) ?_
  by_cases hK : K_fill f no O a = 0
  · obtain ⟨h1, h2⟩ := K0_fill hK
    obtain ⟨i, hi, rfl⟩ := fr_of (by omega) h1
    have hcl : nn (nI i) = i := nn_nI (by omega)
    obtain ⟨kk, zz, hkk, hz1, hz9, hw0, hw1⟩ := hOk i hi
    have hn0 : nn (O i 0) = kk := by rw [hw0]; exact nn_nI (by omega)
    have hn1 : nn (O i 1) = zz := by rw [hw1]; exact nn_nI (by omega)
    rw [hcl] at h2
    refine m_vI (As := [.int (nI i)]) (rest := [.int 0, .ref (ad 60)]) (n := 1) hF hC hO hS (k_X5_fill l G lo sa ad R g nf F f no O tf tv fw i kk zz hnf hno hi hkk hz1 hz9 hw0 hw1 ((p_canFill_k hn0 hn1).mp h2)) ok_X5_fill q_566 rfl rfl ⟨Nat.le_of_ble_eq_true rfl, Nat.le_of_ble_eq_true rfl⟩ rfl hl.1 rfl (Nat.le_of_ble_eq_true rfl) ⟨Nat.le_of_ble_eq_true rfl, Nat.le_of_ble_eq_true rfl⟩ dL_fill_4 (fun v4 R' H locs hp hO hS => ?_)
    obtain ⟨rfl, hR⟩ := hp
    rw [hR] at hO
    refine lv_i2l (v := ((p_sum 36 (p_take f kk zz (O i 2)) 0 0).toInt64)) hx hb dL_fill_7 rfl ?_
    refine m_last hF hC hO hS (WC_60 ho) (j := 0) (by decide) (vp_in_nI (n := 0) (by decide) (by decide)) dL_fill_8 (fun H locs hO hS => ?_)
    have hO : mO G lo ad (mU (WC G ad g nf F (p_take f kk zz (O i 2)) no (va_up O i (upd (O i) 4 1)) tf tv fw R) 60 (.inl (G.2 1, 1, .inr (.inl (vp_updL o 0 ((p_sum 36 (p_take f kk zz (O i 2)) 0 0).toInt64)))))) H := hO
    rw [WC_b (by decide)] at hO
    refine lv_goto (tgt := 18) hx hb dL_fill_9 (by decide) ?_
    refine lv_iconst (v := 0) hx hb dL_fill_18 (by decide) ?_
    refine m_niret hF hr hlk hQ (by decide) rfl hO hS dL_fill_19 ?_
    exact Or.inl ⟨hK, rfl, (fun _ _ => rfl), tf, tv, by first | (simp only [hcl, c_fill, hn0, hn1]; done) | rfl⟩
  · refine m_vX (As := [.int a]) (rest := [.int 0, .ref (ad 60)]) (n := 1) hF hC hO hS (k_X5_fillX l G lo sa ad R g nf F f no O tf tv fw a hnf hno hfl hK hOk) ok_X5_fill q_566 rfl rfl ⟨Nat.le_of_ble_eq_true rfl, Nat.le_of_ble_eq_true rfl⟩ rfl hl.1 rfl (Nat.le_of_ble_eq_true rfl) ⟨Nat.le_of_ble_eq_true rfl, Nat.le_of_ble_eq_true rfl⟩ dL_fill_4 (fun E ce q9 H locs hE hO hS hce hcv hcl => ?_)
    rcases hE with ⟨rfl, hk9⟩ | ⟨rfl, hk9⟩
    · refine vx_catch (own := RL) (name := mXO) hF.2.2.2.1 [] ⟨0, 9, 12, 23⟩ [⟨0, 9, 15, 15⟩] (ht.trans rfl) (fun z hz => nomatch hz) rfl (by decide) (hF.2.2.2.2 _ q_408) (va_Nw.use rfl hC.2.2.1.2.2.1) hce hcv hcl ?_
      refine lv_astore_n (lv' := [(3, .ref q9), (0, .ref (ad 0)), (1, .int a), (2, .ref (ad 60))]) hx hb dL_fill_12 rfl hl (by decide) rfl (fun ls hl => ?_)
      refine lv_iconst (v := 1) hx hb dL_fill_13 (by decide) ?_
      refine m_niret hF hr hlk hQ (by decide) rfl hO hS dL_fill_14 ?_
      exact Or.inr ⟨hK, hk9.symm, rfl⟩
    · refine vx_catch (own := RL) (name := mXS) hF.2.2.2.1 [⟨0, 9, 12, 23⟩] ⟨0, 9, 15, 15⟩ [] (ht.trans rfl) (List.forall_mem_cons.mpr ⟨Or.inr ⟨by decide, mXO, hF.2.2.2.2 _ q_408, hC.2.2.2.2.1.2.2.2.1⟩, fun z hz => nomatch hz⟩) rfl (by decide) (hF.2.2.2.2 _ q_355) (va_Nw.use rfl hC.2.2.1.2.1) hce hcv hcl ?_
      refine lv_astore_n (lv' := [(3, .ref q9), (0, .ref (ad 0)), (1, .int a), (2, .ref (ad 60))]) hx hb dL_fill_15 rfl hl (by decide) rfl (fun ls hl => ?_)
      refine lv_iconst (v := 2) hx hb dL_fill_16 (by decide) ?_
      refine m_niret hF hr hlk hQ (by decide) rfl hO hS dL_fill_17 ?_
      exact Or.inr ⟨hK, hk9.symm, rfl⟩
theorem ok_L_order : (.static yL_order : Cond) ∈ lw_all ∧ (.initialized RL : Cond) ∈ lw_all ∧ (.codeWith yL_order cL_order 5 (some .int) [(0, 10, 13, 23)] : Cond) ∈ lw_all := ⟨q_578, q_0, q_579⟩
set_option maxHeartbeats 400000 in
set_option maxRecDepth 100000 in
theorem k_L_order (l : Launch) (G : mG) (lo : Nat) (sa ad : Nat → Nat) (R : mM) (g : Nat → Int32) (nf : Nat) (F : Nat → Nat → Int32) (f : Nat → Int32) (no : Nat) (O : Nat → Nat → Int32) (tf tv fw : Nat → Int32) (o : Nat → Int64) (a b : Int32) (hnf : nf ≤ 12) (hno : no ≤ 20) (hfl : l.stackTraces = false) (ho : R 60 = some (.inl (G.2 1, 1, .inr (.inl o)))) (hOk : ∀ i, i < no → ∃ kk zz : Nat, kk < 4 ∧ 1 ≤ zz ∧ zz ≤ 9 ∧ O i 0 = nI kk ∧ O i 1 = nI zz) : nW l yL_order cL_order 5 [(0, 10, 13, 23)] 8 134 1 7 G lo sa ad (WC G ad g nf F f no O tf tv fw R) [.ref (ad 0), .int a, .int b, .ref (ad 60)] (fun v u' => (K_order no a b = 0 ∧ v = 0 ∧ (∀ x, x < 100 → ad x = u'.1 x) ∧ ∃ (tf' tv' : Nat → Int32), u'.2 = (WC G u'.1 g nf F f no O tf' tv' fw (mU R 60 (.inl (G.2 1, 1, .inr (.inl (vp_updL o 0 (V_order f (O (nn a)) (nn b)).toInt64))))))) ∨ (¬ K_order no a b = 0 ∧ v = K_order no a b ∧ u' = (ad, (WC G ad g nf F f no O tf tv fw R)))) := by
  refine nW_of (by decide) (Nat.le_of_ble_eq_true rfl) ?_
  intro p e s m args below meth c hF ht hr hlk hC ls hl hO hS Q hQ
  have hx := hF.1
  have hb := hF.2.1
  have hl : lv_has ls 5 [(0, .ref (ad 0)), (1, .int a), (2, .int b), (3, .ref (ad 60))] := hl
  refine lv_aload_n hx hb dL_order_0 rfl (lv_at hl 3 rfl) ?_
  refine lv_iconst (v := 0) hx hb dL_order_1 (by decide) ?_
  refine lv_aload_n hx hb dL_order_2 rfl (lv_at hl 0 rfl) ?_
  refine lv_iload_n hx hb dL_order_3 rfl (lv_at hl 1 rfl) ?_
  refine lv_iload_n hx hb dL_order_4 rfl (lv_at hl 2 rfl) ?_
  by_cases hK : K_order no a b = 0
  · obtain ⟨h1, h2⟩ := K0_order hK
    obtain ⟨i, hi, rfl⟩ := fr_of (by omega) h1
    have hcl : nn (nI i) = i := nn_nI (by omega)
    obtain ⟨k, hk1, hk2, rfl⟩ := in_of (a := 0) (b := 5) (by decide) (by decide) h2
    have hck : nn (nI k) = k := nn_nI (by omega)
    obtain ⟨kk, zz, hkk, hz1, hz9, hw0, hw1⟩ := hOk i hi
    have hn0 : nn (O i 0) = kk := by rw [hw0]; exact nn_nI (by omega)
    have hn1 : nn (O i 1) = zz := by rw [hw1]; exact nn_nI (by omega)
    refine m_vI (As := [.int (nI i), .int (nI k)]) (rest := [.int 0, .ref (ad 60)]) (n := 2) hF hC hO hS (k_X5_order l G lo sa ad R g nf F f no O tf tv fw i k kk zz hnf hno hi hk2 hkk hz1 hz9 hw0 hw1) ok_X5_order q_580 rfl rfl ⟨Nat.le_of_ble_eq_true rfl, Nat.le_of_ble_eq_true rfl⟩ rfl hl.1 rfl (Nat.le_of_ble_eq_true rfl) ⟨Nat.le_of_ble_eq_true rfl, Nat.le_of_ble_eq_true rfl⟩ dL_order_5 (fun v5 R' H locs hp hO hS => ?_)
    obtain ⟨rfl, hR⟩ := hp
    rw [hR] at hO
    refine lv_i2l (v := ((if k < 5 then O i k else if O i 4 ≠ 1 ∧ O i 2 ≤ p_amountFrom f kk zz then 1 else 0).toInt64)) hx hb dL_order_8 rfl ?_
    refine m_last hF hC hO hS (WC_60 ho) (j := 0) (by decide) (vp_in_nI (n := 0) (by decide) (by decide)) dL_order_9 (fun H locs hO hS => ?_)
    have hO : mO G lo ad (mU (WC G ad g nf F f no O tf tv fw R) 60 (.inl (G.2 1, 1, .inr (.inl (vp_updL o 0 ((if k < 5 then O i k else if O i 4 ≠ 1 ∧ O i 2 ≤ p_amountFrom f kk zz then 1 else 0).toInt64)))))) H := hO
    rw [WC_b (by decide)] at hO
    refine lv_goto (tgt := 17) hx hb dL_order_10 (by decide) ?_
    refine lv_iconst (v := 0) hx hb dL_order_17 (by decide) ?_
    refine m_niret hF hr hlk hQ (by decide) rfl hO hS dL_order_18 ?_
    exact Or.inl ⟨hK, rfl, (fun _ _ => rfl), tf, tv, by first | (simp only [hcl, hck, V_order_k hn0 hn1]; done) | rfl⟩
  · refine m_vX (As := [.int a, .int b]) (rest := [.int 0, .ref (ad 60)]) (n := 2) hF hC hO hS (k_X5_orderX l G lo sa ad R g nf F f no O tf tv fw a b hnf hno hfl hK) ok_X5_order q_580 rfl rfl ⟨Nat.le_of_ble_eq_true rfl, Nat.le_of_ble_eq_true rfl⟩ rfl hl.1 rfl (Nat.le_of_ble_eq_true rfl) ⟨Nat.le_of_ble_eq_true rfl, Nat.le_of_ble_eq_true rfl⟩ dL_order_5 (fun E ce q9 H locs hE hO hS hce hcv hcl => ?_)
    obtain ⟨rfl, hk9⟩ := hE
    refine vx_catch (own := RL) (name := mXO) hF.2.2.2.1 [] ⟨0, 10, 13, 23⟩ [] (ht.trans rfl) (fun z hz => nomatch hz) rfl (by decide) (hF.2.2.2.2 _ q_408) (va_Nw.use rfl hC.2.2.1.2.2.1) hce hcv hcl ?_
    refine lv_astore (lv' := [(4, .ref q9), (0, .ref (ad 0)), (1, .int a), (2, .int b), (3, .ref (ad 60))]) hx hb dL_order_13 hl (by decide) rfl (fun ls hl => ?_)
    refine lv_iconst (v := 1) hx hb dL_order_15 (by decide) ?_
    refine m_niret hF hr hlk hQ (by decide) rfl hO hS dL_order_16 ?_
    exact Or.inr ⟨hK, hk9.symm, rfl⟩
theorem ok_L_pass : (.static yL_pass : Cond) ∈ lw_all ∧ (.initialized RL : Cond) ∈ lw_all ∧ (.codeWith yL_pass cL_pass 4 (some .int) [(0, 9, 12, 13)] : Cond) ∈ lw_all := ⟨q_582, q_0, q_583⟩
set_option maxHeartbeats 400000 in
set_option maxRecDepth 100000 in
theorem k_L_pass (l : Launch) (G : mG) (lo : Nat) (sa ad : Nat → Nat) (R : mM) (g : Nat → Int32) (nf : Nat) (F : Nat → Nat → Int32) (f : Nat → Int32) (no : Nat) (O : Nat → Nat → Int32) (tf tv fw : Nat → Int32) (o : Nat → Int64) (a : Int32) (hnf : nf ≤ 12) (hno : no ≤ 20) (hfl : l.stackTraces = false) (ho : R 60 = some (.inl (G.2 1, 1, .inr (.inl o)))) (hq : ∃ qn : Nat, qn < 900000 ∧ g 3 = nI qn) : nW l yL_pass cL_pass 4 [(0, 9, 12, 13)] 7 112 1 7 G lo sa ad (WC G ad g nf F f no O tf tv fw R) [.ref (ad 0), .int a, .ref (ad 60)] (fun v u' => (K_pass a = 0 ∧ v = 0 ∧ (∀ x, x < 100 → ad x = u'.1 x) ∧ ∃ (tf' tv' : Nat → Int32), u'.2 = (WC G u'.1 (m_pG (nn a) g) nf (m_pF (nn a) nf 12 F) f no (m_pO (nn a) no g O) tf' tv' fw (mU R 60 (.inl (G.2 1, 1, .inr (.inl (vp_updL o 0 (m_pG (nn a) g 1).toInt64))))))) ∨ (¬ K_pass a = 0 ∧ v = K_pass a ∧ u' = (ad, (WC G ad g nf F f no O tf tv fw R)))) := by
  refine nW_of (by decide) (Nat.le_of_ble_eq_true rfl) ?_
  intro p e s m args below meth c hF ht hr hlk hC ls hl hO hS Q hQ
  have hx := hF.1
  have hb := hF.2.1
  have hl : lv_has ls 4 [(0, .ref (ad 0)), (1, .int a), (2, .ref (ad 60))] := hl
  refine lv_aload_n hx hb dL_pass_0 rfl (lv_at hl 2 rfl) ?_
  refine lv_iconst (v := 0) hx hb dL_pass_1 (by decide) ?_
  refine lv_aload_n hx hb dL_pass_2 rfl (lv_at hl 0 rfl) ?_
  refine lv_iload_n hx hb dL_pass_3 rfl (lv_at hl 1 rfl) ?_
  by_cases hK : K_pass a = 0
  · have hin := K0_pass hK
    obtain ⟨qn, hqn, hq⟩ := hq
    obtain ⟨k, hk1, hk2, rfl⟩ := in_of (a := 1) (b := 400) (by decide) (by decide) hin
    have hck : nn (nI k) = k := nn_nI (by omega)
    refine m_vI (As := [.int (nI k)]) (rest := [.int 0, .ref (ad 60)]) (n := 1) hF hC hO hS (k_X5_pass l G lo sa ad R g nf F f no O tf tv fw k qn hnf hno hk1 hk2 hq hqn) ok_X5_pass q_584 rfl rfl ⟨Nat.le_of_ble_eq_true rfl, Nat.le_of_ble_eq_true rfl⟩ rfl hl.1 rfl (Nat.le_of_ble_eq_true rfl) ⟨Nat.le_of_ble_eq_true rfl, Nat.le_of_ble_eq_true rfl⟩ dL_pass_4 (fun v4 R' H locs hp hO hS => ?_)
    obtain ⟨rfl, hR⟩ := hp
    rw [hR] at hO
    refine lv_i2l (v := ((m_pG k g 1).toInt64)) hx hb dL_pass_7 rfl ?_
    refine m_last hF hC hO hS (WC_60 ho) (j := 0) (by decide) (vp_in_nI (n := 0) (by decide) (by decide)) dL_pass_8 (fun H locs hO hS => ?_)
    have hO : mO G lo ad (mU (WC G ad (m_pG k g) nf (m_pF k nf 12 F) f no (m_pO k no g O) tf tv fw R) 60 (.inl (G.2 1, 1, .inr (.inl (vp_updL o 0 ((m_pG k g 1).toInt64)))))) H := hO
    rw [WC_b (by decide)] at hO
    refine lv_goto (tgt := 15) hx hb dL_pass_9 (by decide) ?_
    refine lv_iconst (v := 0) hx hb dL_pass_15 (by decide) ?_
    refine m_niret hF hr hlk hQ (by decide) rfl hO hS dL_pass_16 ?_
    exact Or.inl ⟨hK, rfl, (fun _ _ => rfl), tf, tv, by first | (simp only [hck]; done) | rfl⟩
  · refine m_vX (As := [.int a]) (rest := [.int 0, .ref (ad 60)]) (n := 1) hF hC hO hS (k_X5_passX l G lo sa ad R g nf F f no O tf tv fw a hnf hno hfl hK) ok_X5_pass q_584 rfl rfl ⟨Nat.le_of_ble_eq_true rfl, Nat.le_of_ble_eq_true rfl⟩ rfl hl.1 rfl (Nat.le_of_ble_eq_true rfl) ⟨Nat.le_of_ble_eq_true rfl, Nat.le_of_ble_eq_true rfl⟩ dL_pass_4 (fun E ce q9 H locs hE hO hS hce hcv hcl => ?_)
    obtain ⟨rfl, hk9⟩ := hE
    refine vx_catch (own := RL) (name := mXA) hF.2.2.2.1 [] ⟨0, 9, 12, 13⟩ [] (ht.trans rfl) (fun z hz => nomatch hz) rfl (by decide) (hF.2.2.2.2 _ q_354) (va_Nw.use rfl hC.2.2.1.1) hce hcv hcl ?_
    refine lv_astore_n (lv' := [(3, .ref q9), (0, .ref (ad 0)), (1, .int a), (2, .ref (ad 60))]) hx hb dL_pass_12 rfl hl (by decide) rfl (fun ls hl => ?_)
    refine lv_iconst (v := 1) hx hb dL_pass_13 (by decide) ?_
    refine m_niret hF hr hlk hQ (by decide) rfl hO hS dL_pass_14 ?_
    exact Or.inr ⟨hK, hk9.symm, rfl⟩
theorem ok_L_count : (.static yL_count : Cond) ∈ lw_all ∧ (.initialized RL : Cond) ∈ lw_all ∧ (.codeWith yL_count cL_count 4 (some .int) [(0, 9, 12, 23)] : Cond) ∈ lw_all := ⟨q_590, q_0, q_591⟩
set_option maxHeartbeats 400000 in
set_option maxRecDepth 100000 in
theorem k_L_count (l : Launch) (G : mG) (lo : Nat) (sa ad : Nat → Nat) (R : mM) (g : Nat → Int32) (nf : Nat) (F : Nat → Nat → Int32) (f : Nat → Int32) (no : Nat) (O : Nat → Nat → Int32) (tf tv fw : Nat → Int32) (o : Nat → Int64) (a : Int32) (hnf : nf ≤ 12) (hno : no ≤ 20) (hfl : l.stackTraces = false) (ho : R 60 = some (.inl (G.2 1, 1, .inr (.inl o)))) : nW l yL_count cL_count 4 [(0, 9, 12, 23)] 7 111 1 7 G lo sa ad (WC G ad g nf F f no O tf tv fw R) [.ref (ad 0), .int a, .ref (ad 60)] (fun v u' => (K_count a = 0 ∧ v = 0 ∧ (∀ x, x < 100 → ad x = u'.1 x) ∧ ∃ (tf' tv' : Nat → Int32), u'.2 = (WC G u'.1 g nf F f no O tf' tv' fw (mU R 60 (.inl (G.2 1, 1, .inr (.inl (vp_updL o 0 (c_count g nf F f no O (nn a)).toInt64))))))) ∨ (¬ K_count a = 0 ∧ v = K_count a ∧ u' = (ad, (WC G ad g nf F f no O tf tv fw R)))) := by
  refine nW_of (by decide) (Nat.le_of_ble_eq_true rfl) ?_
  intro p e s m args below meth c hF ht hr hlk hC ls hl hO hS Q hQ
  have hx := hF.1
  have hb := hF.2.1
  have hl : lv_has ls 4 [(0, .ref (ad 0)), (1, .int a), (2, .ref (ad 60))] := hl
  refine lv_aload_n hx hb dL_count_0 rfl (lv_at hl 2 rfl) ?_
  refine lv_iconst (v := 0) hx hb dL_count_1 (by decide) ?_
  refine lv_aload_n hx hb dL_count_2 rfl (lv_at hl 0 rfl) ?_
  refine lv_iload_n hx hb dL_count_3 rfl (lv_at hl 1 rfl) ?_
  by_cases hK : K_count a = 0
  · have hin := K0_count hK
    obtain ⟨k, hk1, hk2, rfl⟩ := in_of (a := 0) (b := 8) (by decide) (by decide) hin
    have hck : nn (nI k) = k := nn_nI (by omega)
    refine m_vI (As := [.int (nI k)]) (rest := [.int 0, .ref (ad 60)]) (n := 1) hF hC hO hS (k_X5_count l G lo sa ad R g nf F f no O tf tv fw k hnf hno hk2) ok_X5_count q_592 rfl rfl ⟨Nat.le_of_ble_eq_true rfl, Nat.le_of_ble_eq_true rfl⟩ rfl hl.1 rfl (Nat.le_of_ble_eq_true rfl) ⟨Nat.le_of_ble_eq_true rfl, Nat.le_of_ble_eq_true rfl⟩ dL_count_4 (fun v4 R' H locs hp hO hS => ?_)
    obtain ⟨rfl, hR⟩ := hp
    rw [hR] at hO
    refine lv_i2l (v := ((c_count g nf F f no O k).toInt64)) hx hb dL_count_7 rfl ?_
    refine m_last hF hC hO hS (WC_60 ho) (j := 0) (by decide) (vp_in_nI (n := 0) (by decide) (by decide)) dL_count_8 (fun H locs hO hS => ?_)
    have hO : mO G lo ad (mU (WC G ad g nf F f no O tf tv fw R) 60 (.inl (G.2 1, 1, .inr (.inl (vp_updL o 0 ((c_count g nf F f no O k).toInt64)))))) H := hO
    rw [WC_b (by decide)] at hO
    refine lv_goto (tgt := 15) hx hb dL_count_9 (by decide) ?_
    refine lv_iconst (v := 0) hx hb dL_count_15 (by decide) ?_
    refine m_niret hF hr hlk hQ (by decide) rfl hO hS dL_count_16 ?_
    exact Or.inl ⟨hK, rfl, (fun _ _ => rfl), tf, tv, by first | (simp only [hck]; done) | rfl⟩
  · refine m_vX (As := [.int a]) (rest := [.int 0, .ref (ad 60)]) (n := 1) hF hC hO hS (k_X5_countX l G lo sa ad R g nf F f no O tf tv fw a hnf hno hfl hK) ok_X5_count q_592 rfl rfl ⟨Nat.le_of_ble_eq_true rfl, Nat.le_of_ble_eq_true rfl⟩ rfl hl.1 rfl (Nat.le_of_ble_eq_true rfl) ⟨Nat.le_of_ble_eq_true rfl, Nat.le_of_ble_eq_true rfl⟩ dL_count_4 (fun E ce q9 H locs hE hO hS hce hcv hcl => ?_)
    obtain ⟨rfl, hk9⟩ := hE
    refine vx_catch (own := RL) (name := mXO) hF.2.2.2.1 [] ⟨0, 9, 12, 23⟩ [] (ht.trans rfl) (fun z hz => nomatch hz) rfl (by decide) (hF.2.2.2.2 _ q_408) (va_Nw.use rfl hC.2.2.1.2.2.1) hce hcv hcl ?_
    refine lv_astore_n (lv' := [(3, .ref q9), (0, .ref (ad 0)), (1, .int a), (2, .ref (ad 60))]) hx hb dL_count_12 rfl hl (by decide) rfl (fun ls hl => ?_)
    refine lv_iconst (v := 1) hx hb dL_count_13 (by decide) ?_
    refine m_niret hF hr hlk hQ (by decide) rfl hO hS dL_count_14 ?_
    exact Or.inr ⟨hK, hk9.symm, rfl⟩
theorem ok_L_would : (.static yL_would : Cond) ∈ lw_all ∧ (.initialized RL : Cond) ∈ lw_all ∧ (.codeWith yL_would cL_would 5 (some .int) [(0, 10, 13, 23), (0, 10, 17, 13), (0, 10, 21, 15)] : Cond) ∈ lw_all := ⟨q_594, q_0, q_595⟩
set_option maxHeartbeats 400000 in
set_option maxRecDepth 100000 in
theorem k_L_would (l : Launch) (G : mG) (lo : Nat) (sa ad : Nat → Nat) (R : mM) (g : Nat → Int32) (nf : Nat) (F : Nat → Nat → Int32) (f : Nat → Int32) (no : Nat) (O : Nat → Nat → Int32) (tf tv fw : Nat → Int32) (o : Nat → Int64) (a b : Int32) (hnf : nf ≤ 12) (hno : no ≤ 20) (hfl : l.stackTraces = false) (ho : R 60 = some (.inl (G.2 1, 1, .inr (.inl o)))) (hcr : ∀ i, i < nf → F i 4 = 0 ∨ F i 4 = 1) : nW l yL_would cL_would 5 [(0, 10, 13, 23), (0, 10, 17, 13), (0, 10, 21, 15)] 8 153 1 7 G lo sa ad (WC G ad g nf F f no O tf tv fw R) [.ref (ad 0), .int a, .int b, .ref (ad 60)] (fun v u' => (K_would nf F a b = 0 ∧ v = 0 ∧ (∀ x, x < 100 → ad x = u'.1 x) ∧ ∃ (tf' tv' : Nat → Int32), u'.2 = (WC G u'.1 g nf F f no O tf' tv' fw (mU R 60 (.inl (G.2 1, 1, .inr (.inl (vp_updL o 0 (p_try (nn b) (F (nn a)) g).toInt64))))))) ∨ (¬ K_would nf F a b = 0 ∧ v = K_would nf F a b ∧ u' = (ad, (WC G ad g nf F f no O tf tv fw R)))) := by
  refine nW_of (by decide) (Nat.le_of_ble_eq_true rfl) ?_
  intro p e s m args below meth c hF ht hr hlk hC ls hl hO hS Q hQ
  have hx := hF.1
  have hb := hF.2.1
  have hl : lv_has ls 5 [(0, .ref (ad 0)), (1, .int a), (2, .int b), (3, .ref (ad 60))] := hl
  refine lv_aload_n hx hb dL_would_0 rfl (lv_at hl 3 rfl) ?_
  refine lv_iconst (v := 0) hx hb dL_would_1 (by decide) ?_
  refine lv_aload_n hx hb dL_would_2 rfl (lv_at hl 0 rfl) ?_
  refine lv_iload_n hx hb dL_would_3 rfl (lv_at hl 1 rfl) ?_
  refine lv_iload_n hx hb dL_would_4 rfl (lv_at hl 2 rfl) ?_
  by_cases hK : K_would nf F a b = 0
  · obtain ⟨h1, h2, h3⟩ := K0_would hK
    obtain ⟨i, hi, rfl⟩ := fr_of (by omega) h1
    have hcl : nn (nI i) = i := nn_nI (by omega)
    rw [hcl] at h3
    obtain ⟨k, hk1, hk2, rfl⟩ := in_of (a := 1) (b := 40) (by decide) (by decide) h2
    have hck : nn (nI k) = k := nn_nI (by omega)
    refine m_vI (As := [.int (nI i), .int (nI k)]) (rest := [.int 0, .ref (ad 60)]) (n := 2) hF hC hO hS (k_X5_would l G lo sa ad R g nf F f no O tf tv fw i k hnf hno hi h3 (hcr i hi) hk1 hk2) ok_X5_would q_596 rfl rfl ⟨Nat.le_of_ble_eq_true rfl, Nat.le_of_ble_eq_true rfl⟩ rfl hl.1 rfl (Nat.le_of_ble_eq_true rfl) ⟨Nat.le_of_ble_eq_true rfl, Nat.le_of_ble_eq_true rfl⟩ dL_would_5 (fun v5 R' H locs hp hO hS => ?_)
    obtain ⟨rfl, φ_5, ν_5, hR⟩ := hp
    rw [hR] at hO
    refine lv_i2l (v := ((p_try k (F i) g).toInt64)) hx hb dL_would_8 rfl ?_
    refine m_last hF hC hO hS (WC_60 ho) (j := 0) (by decide) (vp_in_nI (n := 0) (by decide) (by decide)) dL_would_9 (fun H locs hO hS => ?_)
    have hO : mO G lo ad (mU (WC G ad g nf F f no O φ_5 ν_5 fw R) 60 (.inl (G.2 1, 1, .inr (.inl (vp_updL o 0 ((p_try k (F i) g).toInt64)))))) H := hO
    rw [WC_b (by decide)] at hO
    refine lv_goto (tgt := 25) hx hb dL_would_10 (by decide) ?_
    refine lv_iconst (v := 0) hx hb dL_would_25 (by decide) ?_
    refine m_niret hF hr hlk hQ (by decide) rfl hO hS dL_would_26 ?_
    exact Or.inl ⟨hK, rfl, (fun _ _ => rfl), φ_5, ν_5, by first | (simp only [hcl, hck]; done) | rfl⟩
  · refine m_vX (As := [.int a, .int b]) (rest := [.int 0, .ref (ad 60)]) (n := 2) hF hC hO hS (k_X5_wouldX l G lo sa ad R g nf F f no O tf tv fw a b hnf hno hfl hK) ok_X5_would q_596 rfl rfl ⟨Nat.le_of_ble_eq_true rfl, Nat.le_of_ble_eq_true rfl⟩ rfl hl.1 rfl (Nat.le_of_ble_eq_true rfl) ⟨Nat.le_of_ble_eq_true rfl, Nat.le_of_ble_eq_true rfl⟩ dL_would_5 (fun E ce q9 H locs hE hO hS hce hcv hcl => ?_)
    rcases hE with ⟨rfl, hk9⟩ | ⟨rfl, hk9⟩ | ⟨rfl, hk9⟩
    · refine vx_catch (own := RL) (name := mXO) hF.2.2.2.1 [] ⟨0, 10, 13, 23⟩ [⟨0, 10, 17, 13⟩, ⟨0, 10, 21, 15⟩] (ht.trans rfl) (fun z hz => nomatch hz) rfl (by decide) (hF.2.2.2.2 _ q_408) (va_Nw.use rfl hC.2.2.1.2.2.1) hce hcv hcl ?_
      refine lv_astore (lv' := [(4, .ref q9), (0, .ref (ad 0)), (1, .int a), (2, .int b), (3, .ref (ad 60))]) hx hb dL_would_13 hl (by decide) rfl (fun ls hl => ?_)
      refine lv_iconst (v := 1) hx hb dL_would_15 (by decide) ?_
      refine m_niret hF hr hlk hQ (by decide) rfl hO hS dL_would_16 ?_
      exact Or.inr ⟨hK, hk9.symm, rfl⟩
    · refine vx_catch (own := RL) (name := mXA) hF.2.2.2.1 [⟨0, 10, 13, 23⟩] ⟨0, 10, 17, 13⟩ [⟨0, 10, 21, 15⟩] (ht.trans rfl) (List.forall_mem_cons.mpr ⟨Or.inr ⟨by decide, mXO, hF.2.2.2.2 _ q_408, hC.2.2.2.2.1.2.1⟩, fun z hz => nomatch hz⟩) rfl (by decide) (hF.2.2.2.2 _ q_354) (va_Nw.use rfl hC.2.2.1.1) hce hcv hcl ?_
      refine lv_astore (lv' := [(4, .ref q9), (0, .ref (ad 0)), (1, .int a), (2, .int b), (3, .ref (ad 60))]) hx hb dL_would_17 hl (by decide) rfl (fun ls hl => ?_)
      refine lv_iconst (v := 2) hx hb dL_would_19 (by decide) ?_
      refine m_niret hF hr hlk hQ (by decide) rfl hO hS dL_would_20 ?_
      exact Or.inr ⟨hK, hk9.symm, rfl⟩
    · refine vx_catch (own := RL) (name := mXS) hF.2.2.2.1 [⟨0, 10, 13, 23⟩, ⟨0, 10, 17, 13⟩] ⟨0, 10, 21, 15⟩ [] (ht.trans rfl) (List.forall_mem_cons.mpr ⟨Or.inr ⟨by decide, mXO, hF.2.2.2.2 _ q_408, hC.2.2.2.2.1.2.2.2.1⟩, List.forall_mem_cons.mpr ⟨Or.inr ⟨by decide, mXA, hF.2.2.2.2 _ q_354, hC.2.2.2.2.1.2.2.1⟩, fun z hz => nomatch hz⟩⟩) rfl (by decide) (hF.2.2.2.2 _ q_355) (va_Nw.use rfl hC.2.2.1.2.1) hce hcv hcl ?_
      refine lv_astore (lv' := [(4, .ref q9), (0, .ref (ad 0)), (1, .int a), (2, .int b), (3, .ref (ad 60))]) hx hb dL_would_21 hl (by decide) rfl (fun ls hl => ?_)
      refine lv_iconst (v := 3) hx hb dL_would_23 (by decide) ?_
      refine m_niret hF hr hlk hQ (by decide) rfl hO hS dL_would_24 ?_
      exact Or.inr ⟨hK, hk9.symm, rfl⟩
theorem ok_L_dipsTo : (.static yL_dipsTo : Cond) ∈ lw_all ∧ (.initialized RL : Cond) ∈ lw_all ∧ (.codeWith yL_dipsTo cL_dipsTo 6 (some .int) [(0, 12, 15, 23), (0, 12, 19, 13), (0, 12, 23, 15)] : Cond) ∈ lw_all := ⟨q_626, q_0, q_627⟩
set_option maxHeartbeats 400000 in
set_option maxRecDepth 100000 in
theorem k_L_dipsTo (l : Launch) (G : mG) (lo : Nat) (sa ad : Nat → Nat) (R : mM) (g : Nat → Int32) (nf : Nat) (F : Nat → Nat → Int32) (f : Nat → Int32) (no : Nat) (O : Nat → Nat → Int32) (tf tv fw : Nat → Int32) (o : Nat → Int64) (a b z : Int32) (hnf : nf ≤ 12) (hno : no ≤ 20) (hfl : l.stackTraces = false) (ho : R 60 = some (.inl (G.2 1, 1, .inr (.inl o)))) (hcr : ∀ i, i < nf → F i 4 = 0 ∨ F i 4 = 1) : nW l yL_dipsTo cL_dipsTo 6 [(0, 12, 15, 23), (0, 12, 19, 13), (0, 12, 23, 15)] 8 155 1 7 G lo sa ad (WC G ad g nf F f no O tf tv fw R) [.ref (ad 0), .int a, .int b, .int z, .ref (ad 60)] (fun v u' => (K_dipsTo nf F a b z = 0 ∧ v = 0 ∧ (∀ x, x < 100 → ad x = u'.1 x) ∧ ∃ (tf' tv' : Nat → Int32), u'.2 = (WC G u'.1 g nf F f no O tf' tv' fw (mU R 60 (.inl (G.2 1, 1, .inr (.inl (vp_updL o 0 (p_need (nn b) z (F (nn a)) g).toInt64))))))) ∨ (¬ K_dipsTo nf F a b z = 0 ∧ v = K_dipsTo nf F a b z ∧ u' = (ad, (WC G ad g nf F f no O tf tv fw R)))) := by
  refine nW_of (by decide) (Nat.le_of_ble_eq_true rfl) ?_
  intro p e s m args below meth c hF ht hr hlk hC ls hl hO hS Q hQ
  have hx := hF.1
  have hb := hF.2.1
  have hl : lv_has ls 6 [(0, .ref (ad 0)), (1, .int a), (2, .int b), (3, .int z), (4, .ref (ad 60))] := hl
  refine lv_aload hx hb dL_dipsTo_0 (lv_at hl 4 rfl) ?_
  refine lv_iconst (v := 0) hx hb dL_dipsTo_2 (by decide) ?_
  refine lv_aload_n hx hb dL_dipsTo_3 rfl (lv_at hl 0 rfl) ?_
  refine lv_iload_n hx hb dL_dipsTo_4 rfl (lv_at hl 1 rfl) ?_
  refine lv_iload_n hx hb dL_dipsTo_5 rfl (lv_at hl 2 rfl) ?_
  refine lv_iload_n hx hb dL_dipsTo_6 rfl (lv_at hl 3 rfl) ?_
  by_cases hK : K_dipsTo nf F a b z = 0
  · obtain ⟨h1, h2, h3, h4⟩ := K0_dipsTo hK
    obtain ⟨i, hi, rfl⟩ := fr_of (by omega) h1
    have hcl : nn (nI i) = i := nn_nI (by omega)
    rw [hcl] at h4
    obtain ⟨k, hk1, hk2, rfl⟩ := in_of (a := 0) (b := 20) (by decide) (by decide) h2
    have hck : nn (nI k) = k := nn_nI (by omega)
    refine m_vI (As := [.int (nI i), .int (nI k), .int z]) (rest := [.int 0, .ref (ad 60)]) (n := 3) hF hC hO hS (k_X5_dipsTo l G lo sa ad R g nf F f no O tf tv fw i k z hnf hno hi h4 (hcr i hi) hk2 h3) ok_X5_dipsTo q_628 rfl rfl ⟨Nat.le_of_ble_eq_true rfl, Nat.le_of_ble_eq_true rfl⟩ rfl hl.1 rfl (Nat.le_of_ble_eq_true rfl) ⟨Nat.le_of_ble_eq_true rfl, Nat.le_of_ble_eq_true rfl⟩ dL_dipsTo_7 (fun v7 R' H locs hp hO hS => ?_)
    obtain ⟨rfl, φ_7, ν_7, hR⟩ := hp
    rw [hR] at hO
    refine lv_i2l (v := ((p_need k z (F i) g).toInt64)) hx hb dL_dipsTo_10 rfl ?_
    refine m_last hF hC hO hS (WC_60 ho) (j := 0) (by decide) (vp_in_nI (n := 0) (by decide) (by decide)) dL_dipsTo_11 (fun H locs hO hS => ?_)
    have hO : mO G lo ad (mU (WC G ad g nf F f no O φ_7 ν_7 fw R) 60 (.inl (G.2 1, 1, .inr (.inl (vp_updL o 0 ((p_need k z (F i) g).toInt64)))))) H := hO
    rw [WC_b (by decide)] at hO
    refine lv_goto (tgt := 27) hx hb dL_dipsTo_12 (by decide) ?_
    refine lv_iconst (v := 0) hx hb dL_dipsTo_27 (by decide) ?_
    refine m_niret hF hr hlk hQ (by decide) rfl hO hS dL_dipsTo_28 ?_
    exact Or.inl ⟨hK, rfl, (fun _ _ => rfl), φ_7, ν_7, by first | (simp only [hcl, hck]; done) | rfl⟩
  · refine m_vX (As := [.int a, .int b, .int z]) (rest := [.int 0, .ref (ad 60)]) (n := 3) hF hC hO hS (k_X5_dipsToX l G lo sa ad R g nf F f no O tf tv fw a b z hnf hno hfl hK) ok_X5_dipsTo q_628 rfl rfl ⟨Nat.le_of_ble_eq_true rfl, Nat.le_of_ble_eq_true rfl⟩ rfl hl.1 rfl (Nat.le_of_ble_eq_true rfl) ⟨Nat.le_of_ble_eq_true rfl, Nat.le_of_ble_eq_true rfl⟩ dL_dipsTo_7 (fun E ce q9 H locs hE hO hS hce hcv hcl => ?_)
    rcases hE with ⟨rfl, hk9⟩ | ⟨rfl, hk9⟩ | ⟨rfl, hk9⟩
    · refine vx_catch (own := RL) (name := mXO) hF.2.2.2.1 [] ⟨0, 12, 15, 23⟩ [⟨0, 12, 19, 13⟩, ⟨0, 12, 23, 15⟩] (ht.trans rfl) (fun z hz => nomatch hz) rfl (by decide) (hF.2.2.2.2 _ q_408) (va_Nw.use rfl hC.2.2.1.2.2.1) hce hcv hcl ?_
      refine lv_astore (lv' := [(5, .ref q9), (0, .ref (ad 0)), (1, .int a), (2, .int b), (3, .int z), (4, .ref (ad 60))]) hx hb dL_dipsTo_15 hl (by decide) rfl (fun ls hl => ?_)
      refine lv_iconst (v := 1) hx hb dL_dipsTo_17 (by decide) ?_
      refine m_niret hF hr hlk hQ (by decide) rfl hO hS dL_dipsTo_18 ?_
      exact Or.inr ⟨hK, hk9.symm, rfl⟩
    · refine vx_catch (own := RL) (name := mXA) hF.2.2.2.1 [⟨0, 12, 15, 23⟩] ⟨0, 12, 19, 13⟩ [⟨0, 12, 23, 15⟩] (ht.trans rfl) (List.forall_mem_cons.mpr ⟨Or.inr ⟨by decide, mXO, hF.2.2.2.2 _ q_408, hC.2.2.2.2.1.2.1⟩, fun z hz => nomatch hz⟩) rfl (by decide) (hF.2.2.2.2 _ q_354) (va_Nw.use rfl hC.2.2.1.1) hce hcv hcl ?_
      refine lv_astore (lv' := [(5, .ref q9), (0, .ref (ad 0)), (1, .int a), (2, .int b), (3, .int z), (4, .ref (ad 60))]) hx hb dL_dipsTo_19 hl (by decide) rfl (fun ls hl => ?_)
      refine lv_iconst (v := 2) hx hb dL_dipsTo_21 (by decide) ?_
      refine m_niret hF hr hlk hQ (by decide) rfl hO hS dL_dipsTo_22 ?_
      exact Or.inr ⟨hK, hk9.symm, rfl⟩
    · refine vx_catch (own := RL) (name := mXS) hF.2.2.2.1 [⟨0, 12, 15, 23⟩, ⟨0, 12, 19, 13⟩] ⟨0, 12, 23, 15⟩ [] (ht.trans rfl) (List.forall_mem_cons.mpr ⟨Or.inr ⟨by decide, mXO, hF.2.2.2.2 _ q_408, hC.2.2.2.2.1.2.2.2.1⟩, List.forall_mem_cons.mpr ⟨Or.inr ⟨by decide, mXA, hF.2.2.2.2 _ q_354, hC.2.2.2.2.1.2.2.1⟩, fun z hz => nomatch hz⟩⟩) rfl (by decide) (hF.2.2.2.2 _ q_355) (va_Nw.use rfl hC.2.2.1.2.1) hce hcv hcl ?_
      refine lv_astore (lv' := [(5, .ref q9), (0, .ref (ad 0)), (1, .int a), (2, .int b), (3, .int z), (4, .ref (ad 60))]) hx hb dL_dipsTo_23 hl (by decide) rfl (fun ls hl => ?_)
      refine lv_iconst (v := 3) hx hb dL_dipsTo_25 (by decide) ?_
      refine m_niret hF hr hlk hQ (by decide) rfl hO hS dL_dipsTo_26 ?_
      exact Or.inr ⟨hK, hk9.symm, rfl⟩
theorem ok_L_bestRest : (.static yL_bestRest : Cond) ∈ lw_all ∧ (.initialized RL : Cond) ∈ lw_all ∧ (.codeWith yL_bestRest cL_bestRest 5 (some .int) [(0, 10, 13, 23), (0, 10, 17, 13), (0, 10, 21, 15)] : Cond) ∈ lw_all := ⟨q_644, q_0, q_645⟩
set_option maxHeartbeats 400000 in
set_option maxRecDepth 100000 in
theorem k_L_bestRest (l : Launch) (G : mG) (lo : Nat) (sa ad : Nat → Nat) (R : mM) (g : Nat → Int32) (nf : Nat) (F : Nat → Nat → Int32) (f : Nat → Int32) (no : Nat) (O : Nat → Nat → Int32) (tf tv fw : Nat → Int32) (o : Nat → Int64) (a z : Int32) (hnf : nf ≤ 12) (hno : no ≤ 20) (hfl : l.stackTraces = false) (ho : R 60 = some (.inl (G.2 1, 1, .inr (.inl o)))) (hcr : ∀ i, i < nf → F i 4 = 0 ∨ F i 4 = 1) : nW l yL_bestRest cL_bestRest 5 [(0, 10, 13, 23), (0, 10, 17, 13), (0, 10, 21, 15)] 8 182 1 7 G lo sa ad (WC G ad g nf F f no O tf tv fw R) [.ref (ad 0), .int a, .int z, .ref (ad 60)] (fun v u' => (K_bestRest nf F a z = 0 ∧ v = 0 ∧ (∀ x, x < 100 → ad x = u'.1 x) ∧ ∃ (tf' tv' : Nat → Int32), u'.2 = (WC G u'.1 g nf F f no O tf' tv' fw (mU R 60 (.inl (G.2 1, 1, .inr (.inl (vp_updL o 0 (p_quickL 21 0 (-1) 0 z (F (nn a)) g).toInt64))))))) ∨ (¬ K_bestRest nf F a z = 0 ∧ v = K_bestRest nf F a z ∧ u' = (ad, (WC G ad g nf F f no O tf tv fw R)))) := by
  refine nW_of (by decide) (Nat.le_of_ble_eq_true rfl) ?_
  intro p e s m args below meth c hF ht hr hlk hC ls hl hO hS Q hQ
  have hx := hF.1
  have hb := hF.2.1
  have hl : lv_has ls 5 [(0, .ref (ad 0)), (1, .int a), (2, .int z), (3, .ref (ad 60))] := hl
  refine lv_aload_n hx hb dL_bestRest_0 rfl (lv_at hl 3 rfl) ?_
  refine lv_iconst (v := 0) hx hb dL_bestRest_1 (by decide) ?_
  refine lv_aload_n hx hb dL_bestRest_2 rfl (lv_at hl 0 rfl) ?_
  refine lv_iload_n hx hb dL_bestRest_3 rfl (lv_at hl 1 rfl) ?_
  refine lv_iload_n hx hb dL_bestRest_4 rfl (lv_at hl 2 rfl) ?_
  by_cases hK : K_bestRest nf F a z = 0
  · obtain ⟨h1, h2, h3⟩ := K0_bestRest hK
    obtain ⟨i, hi, rfl⟩ := fr_of (by omega) h1
    have hcl : nn (nI i) = i := nn_nI (by omega)
    rw [hcl] at h3
    refine m_vI (As := [.int (nI i), .int z]) (rest := [.int 0, .ref (ad 60)]) (n := 2) hF hC hO hS (k_X5_bestRest l G lo sa ad R g nf F f no O tf tv fw i z hnf hno hi h3 (hcr i hi) h2) ok_X5_bestRest q_646 rfl rfl ⟨Nat.le_of_ble_eq_true rfl, Nat.le_of_ble_eq_true rfl⟩ rfl hl.1 rfl (Nat.le_of_ble_eq_true rfl) ⟨Nat.le_of_ble_eq_true rfl, Nat.le_of_ble_eq_true rfl⟩ dL_bestRest_5 (fun v5 R' H locs hp hO hS => ?_)
    obtain ⟨rfl, φ_5, ν_5, hR⟩ := hp
    rw [hR] at hO
    refine lv_i2l (v := ((p_quickL 21 0 (-1) 0 z (F i) g).toInt64)) hx hb dL_bestRest_8 rfl ?_
    refine m_last hF hC hO hS (WC_60 ho) (j := 0) (by decide) (vp_in_nI (n := 0) (by decide) (by decide)) dL_bestRest_9 (fun H locs hO hS => ?_)
    have hO : mO G lo ad (mU (WC G ad g nf F f no O φ_5 ν_5 fw R) 60 (.inl (G.2 1, 1, .inr (.inl (vp_updL o 0 ((p_quickL 21 0 (-1) 0 z (F i) g).toInt64)))))) H := hO
    rw [WC_b (by decide)] at hO
    refine lv_goto (tgt := 25) hx hb dL_bestRest_10 (by decide) ?_
    refine lv_iconst (v := 0) hx hb dL_bestRest_25 (by decide) ?_
    refine m_niret hF hr hlk hQ (by decide) rfl hO hS dL_bestRest_26 ?_
    exact Or.inl ⟨hK, rfl, (fun _ _ => rfl), φ_5, ν_5, by first | (simp only [hcl]; done) | rfl⟩
  · refine m_vX (As := [.int a, .int z]) (rest := [.int 0, .ref (ad 60)]) (n := 2) hF hC hO hS (k_X5_bestRestX l G lo sa ad R g nf F f no O tf tv fw a z hnf hno hfl hK) ok_X5_bestRest q_646 rfl rfl ⟨Nat.le_of_ble_eq_true rfl, Nat.le_of_ble_eq_true rfl⟩ rfl hl.1 rfl (Nat.le_of_ble_eq_true rfl) ⟨Nat.le_of_ble_eq_true rfl, Nat.le_of_ble_eq_true rfl⟩ dL_bestRest_5 (fun E ce q9 H locs hE hO hS hce hcv hcl => ?_)
    rcases hE with ⟨rfl, hk9⟩ | ⟨rfl, hk9⟩ | ⟨rfl, hk9⟩
    · refine vx_catch (own := RL) (name := mXO) hF.2.2.2.1 [] ⟨0, 10, 13, 23⟩ [⟨0, 10, 17, 13⟩, ⟨0, 10, 21, 15⟩] (ht.trans rfl) (fun z hz => nomatch hz) rfl (by decide) (hF.2.2.2.2 _ q_408) (va_Nw.use rfl hC.2.2.1.2.2.1) hce hcv hcl ?_
      refine lv_astore (lv' := [(4, .ref q9), (0, .ref (ad 0)), (1, .int a), (2, .int z), (3, .ref (ad 60))]) hx hb dL_bestRest_13 hl (by decide) rfl (fun ls hl => ?_)
      refine lv_iconst (v := 1) hx hb dL_bestRest_15 (by decide) ?_
      refine m_niret hF hr hlk hQ (by decide) rfl hO hS dL_bestRest_16 ?_
      exact Or.inr ⟨hK, hk9.symm, rfl⟩
    · refine vx_catch (own := RL) (name := mXA) hF.2.2.2.1 [⟨0, 10, 13, 23⟩] ⟨0, 10, 17, 13⟩ [⟨0, 10, 21, 15⟩] (ht.trans rfl) (List.forall_mem_cons.mpr ⟨Or.inr ⟨by decide, mXO, hF.2.2.2.2 _ q_408, hC.2.2.2.2.1.2.1⟩, fun z hz => nomatch hz⟩) rfl (by decide) (hF.2.2.2.2 _ q_354) (va_Nw.use rfl hC.2.2.1.1) hce hcv hcl ?_
      refine lv_astore (lv' := [(4, .ref q9), (0, .ref (ad 0)), (1, .int a), (2, .int z), (3, .ref (ad 60))]) hx hb dL_bestRest_17 hl (by decide) rfl (fun ls hl => ?_)
      refine lv_iconst (v := 2) hx hb dL_bestRest_19 (by decide) ?_
      refine m_niret hF hr hlk hQ (by decide) rfl hO hS dL_bestRest_20 ?_
      exact Or.inr ⟨hK, hk9.symm, rfl⟩
    · refine vx_catch (own := RL) (name := mXS) hF.2.2.2.1 [⟨0, 10, 13, 23⟩, ⟨0, 10, 17, 13⟩] ⟨0, 10, 21, 15⟩ [] (ht.trans rfl) (List.forall_mem_cons.mpr ⟨Or.inr ⟨by decide, mXO, hF.2.2.2.2 _ q_408, hC.2.2.2.2.1.2.2.2.1⟩, List.forall_mem_cons.mpr ⟨Or.inr ⟨by decide, mXA, hF.2.2.2.2 _ q_354, hC.2.2.2.2.1.2.2.1⟩, fun z hz => nomatch hz⟩⟩) rfl (by decide) (hF.2.2.2.2 _ q_355) (va_Nw.use rfl hC.2.2.1.2.1) hce hcv hcl ?_
      refine lv_astore (lv' := [(4, .ref q9), (0, .ref (ad 0)), (1, .int a), (2, .int z), (3, .ref (ad 60))]) hx hb dL_bestRest_21 hl (by decide) rfl (fun ls hl => ?_)
      refine lv_iconst (v := 3) hx hb dL_bestRest_23 (by decide) ?_
      refine m_niret hF hr hlk hQ (by decide) rfl hO hS dL_bestRest_24 ?_
      exact Or.inr ⟨hK, hk9.symm, rfl⟩
