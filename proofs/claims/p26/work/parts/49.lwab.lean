/-! ===== the law: what holds at its cuts ===== -/
def LwX (p : Program) (s : State) (m : MethodId) (meth : Method) (c : Code) (lo : Nat) (G : mG) (sa : mSc) : Prop := mF p m c cL_law 21 s #[Value.ref sa.1] RL ∧ mC G lo sa s s.heap ∧ meth.sig.returnType = ret ∧ meth.locks = false ∧ lo = s.heap.size
def LHead (p : Program) (l : Launch) (e : Env) (s : State) (m : MethodId) (below : List Frame) (meth : Method) (c : Code) (lo : Nat) (G : mG) (sa : mSc) (R : mM) (t : Nat) : Prop := ∀ (ad : Nat → Nat) (g : Nat → Int32) (nf : Nat) (F : Nat → Nat → Int32) (f : Nat → Int32) (no : Nat) (O : Nat → Nat → Int32) (w : Int32) (tf tv fw : Nat → Int32) (H : Heap) (locs : List Loc) (ls : Array Slot) (cells slots : Nat), IV (34 + 3 * t) (3 * t) g nf F f no O → 1 ≤ nf → fw 0 = 0 → mO G lo ad (WS G ad g nf F f no O w (WC G ad g nf F f no O tf tv fw R)) H → va_S (mA lo) s.heap H locs → lv_has ls 21 [(0, .ref sa.1), (1, .ref (ad 0)), (2, .ref (ad 50)), (3, .int (nI nf)), (4, .int (nI t))] → cells ≤ 100 + 20 * t → slots ≤ 1000 + 200 * t → W p l e room_1 s m #[Value.ref sa.1] below meth c H locs cells slots (lw_Z below #[Value.ref sa.1] s) (F0 m 29 ls [])
def L108 (p : Program) (l : Launch) (e : Env) (s : State) (m : MethodId) (below : List Frame) (meth : Method) (c : Code) (lo : Nat) (G : mG) (sa : mSc) (R : mM) (t : Nat) : Prop := ∀ (ad : Nat → Nat) (g : Nat → Int32) (nf : Nat) (F : Nat → Nat → Int32) (f : Nat → Int32) (no : Nat) (O : Nat → Nat → Int32) (w : Int32) (tf tv fw : Nat → Int32) (x : Int32) (H : Heap) (locs : List Loc) (ls : Array Slot) (cells slots : Nat), IV (36 + 3 * t) (3 * t + 2) g nf F f no O → 1 ≤ nf → fw 0 = 0 → mO G lo ad (WS G ad g nf F f no O w (WC G ad g nf F f no O tf tv fw (WW G ad nf (fun _ _ => 0) R))) H → va_S (mA lo) s.heap H locs → lv_has ls 21 [(0, .ref sa.1), (1, .ref (ad 0)), (2, .ref (ad 50)), (3, .int (nI nf)), (4, .int (nI t)), (5, .int x), (6, .ref (ad 60))] → cells ≤ 120 + 20 * t → slots ≤ 1200 + 200 * t → W p l e room_1 s m #[Value.ref sa.1] below meth c H locs cells slots (lw_Z below #[Value.ref sa.1] s) (F0 m 108 ls [])
def L155 (p : Program) (l : Launch) (e : Env) (s : State) (m : MethodId) (below : List Frame) (meth : Method) (c : Code) (lo : Nat) (G : mG) (sa : mSc) (R : mM) (t : Nat) : Prop := ∀ (ad : Nat → Nat) (g : Nat → Int32) (nf : Nat) (F : Nat → Nat → Int32) (f : Nat → Int32) (no : Nat) (O : Nat → Nat → Int32) (w : Int32) (tf tv fw : Nat → Int32) (A : Nat → Nat → Int32) (x : Int32) (H : Heap) (locs : List Loc) (ls : Array Slot) (cells slots : Nat), IV (36 + 3 * t) (3 * t + 2) g nf F f no O → 1 ≤ nf → fw 0 = 0 → (∀ k, k < nf → A k = wR 8 (F k)) → mO G lo ad (WS G ad g nf F f no O w (WC G ad g nf F f no O tf tv fw (WW G ad nf A R))) H → va_S (mA lo) s.heap H locs → lv_has ls 21 [(0, .ref sa.1), (1, .ref (ad 0)), (2, .ref (ad 50)), (3, .int (nI nf)), (4, .int (nI t)), (5, .int x), (6, .ref (ad 60))] → cells ≤ 120 + 20 * t → slots ≤ 1200 + 200 * t → W p l e room_1 s m #[Value.ref sa.1] below meth c H locs cells slots (lw_Z below #[Value.ref sa.1] s) (F0 m 155 ls [])
def RelD (nf b no : Nat) (go : Nat → Int32) (Fo Oo : Nat → Nat → Int32) (g1 : Nat → Int32) (F1 O1 : Nat → Nat → Int32) : Prop := ∃ (gd : Nat → Int32) (Fd : Nat → Nat → Int32), g1 = m_qG gd ∧ gd 1 = go 1 ∧ gd 2 = go 2 ∧ gd 3 = go 3 ∧ F1 = m_coolTo nf b Fd ∧ (∀ i, i ≠ b → Fd i = Fo i) ∧ (Fd b 0 = Fo b 0 ∧ Fd b 1 = Fo b 1 ∧ Fd b 5 = Fo b 5) ∧ O1 = m_qO no gd Oo
def L594 (p : Program) (l : Launch) (e : Env) (s : State) (m : MethodId) (below : List Frame) (meth : Method) (c : Code) (lo : Nat) (G : mG) (sa : mSc) (R : mM) (t : Nat) : Prop := ∀ (ad : Nat → Nat) (g : Nat → Int32) (nf : Nat) (F : Nat → Nat → Int32) (f : Nat → Int32) (no : Nat) (O : Nat → Nat → Int32) (w : Int32) (tf tv fw : Nat → Int32) (A : Nat → Nat → Int32) (x : Int32) (go : Nat → Int32) (Fo Oo : Nat → Nat → Int32) (b : Nat) (bv : Int32) (H : Heap) (locs : List Loc) (ls : Array Slot) (cells slots : Nat), IV (37 + 3 * t) (3 * t + 2) g nf F f no O → (∀ k, k < nf → FrV (Fo k)) → 1 ≤ nf → fw 0 = 0 → (∀ k, k < nf → A k = wR 8 (Fo k)) → ((bv = nI b ∧ b < nf) ∨ (bv = -1 ∧ b = 12)) → RelD nf b no go Fo Oo g F O → mO G lo ad (WS G ad g nf F f no O w (WC G ad g nf F f no O tf tv fw (WW G ad nf A R))) H → va_S (mA lo) s.heap H locs → lv_has ls 21 [(0, .ref sa.1), (1, .ref (ad 0)), (2, .ref (ad 50)), (3, .int (nI nf)), (4, .int (nI t)), (5, .int x), (6, .ref (ad 60)), (8, .int (go 1)), (10, .int (go 3)), (11, .int (m_with no Oo 2)), (12, .int bv)] → cells ≤ 120 + 20 * t → slots ≤ 1200 + 200 * t → W p l e room_1 s m #[Value.ref sa.1] below meth c H locs cells slots (lw_Z below #[Value.ref sa.1] s) (F0 m 594 ls [])
def L964 (p : Program) (l : Launch) (e : Env) (s : State) (m : MethodId) (below : List Frame) (meth : Method) (c : Code) (lo : Nat) (G : mG) (sa : mSc) (R : mM) (t : Nat) : Prop := ∀ (ad : Nat → Nat) (g : Nat → Int32) (nf : Nat) (F : Nat → Nat → Int32) (f : Nat → Int32) (no : Nat) (O : Nat → Nat → Int32) (w : Int32) (tf tv fw : Nat → Int32) (A : Nat → Nat → Int32) (x : Int32) (H : Heap) (locs : List Loc) (ls : Array Slot) (cells slots : Nat), IV (37 + 3 * t) (3 * t + 2) g nf F f no O → 1 ≤ nf → fw 0 = 0 → mO G lo ad (WS G ad g nf F f no O w (WC G ad g nf F f no O tf tv fw (WW G ad nf A R))) H → va_S (mA lo) s.heap H locs → lv_has ls 21 [(0, .ref sa.1), (1, .ref (ad 0)), (2, .ref (ad 50)), (3, .int (nI nf)), (4, .int (nI t)), (5, .int x), (6, .ref (ad 60))] → cells ≤ 120 + 20 * t → slots ≤ 1200 + 200 * t → W p l e room_1 s m #[Value.ref sa.1] below meth c H locs cells slots (lw_Z below #[Value.ref sa.1] s) (F0 m 964 ls [])
def L1297 (p : Program) (l : Launch) (e : Env) (s : State) (m : MethodId) (below : List Frame) (meth : Method) (c : Code) (lo : Nat) (G : mG) (sa : mSc) (R : mM) (t : Nat) : Prop := ∀ (ad : Nat → Nat) (g : Nat → Int32) (nf : Nat) (F : Nat → Nat → Int32) (f : Nat → Int32) (no : Nat) (O : Nat → Nat → Int32) (w : Int32) (tf tv fw : Nat → Int32) (H : Heap) (locs : List Loc) (ls : Array Slot) (cells slots : Nat), IV (37 + 3 * t) (3 * t + 3) g nf F f no O → 1 ≤ nf → fw 0 = 0 → mO G lo ad (WS G ad g nf F f no O w (WC G ad g nf F f no O tf tv fw R)) H → va_S (mA lo) s.heap H locs → lv_has ls 21 [(0, .ref sa.1), (1, .ref (ad 0)), (2, .ref (ad 50)), (3, .int (nI nf)), (4, .int (nI t))] → cells ≤ 120 + 20 * t → slots ≤ 1200 + 200 * t → W p l e room_1 s m #[Value.ref sa.1] below meth c H locs cells slots (lw_Z below #[Value.ref sa.1] s) (F0 m 1297 ls [])
set_option maxHeartbeats 400000 in
set_option maxRecDepth 100000 in
theorem seg_a {p : Program} {l : Launch} {e : Env} {s : State} {m : MethodId} {below : List Frame} {meth : Method} {c : Code} {lo : Nat} {G : mG} {sa : mSc} {R : mM} (X : LwX p s m meth c lo G sa) {t : Nat} (ht : t < 40) (hz : ∀ x, 50 ≤ x → R x = none) (h108 : L108 p l e s m below meth c lo G sa R t) : LHead p l e s m below meth c lo G sa R t := by
  intro ad g nf F f no O w tf tv fw H locs ls cells slots hI h1 hfw hO hS hl hc9 hs9
  have hF := X.1
  have hC := X.2.1
  have hx := hF.1
  have hb := hF.2.1
  have hnf : nf ≤ 12 := by have := hI.1; omega
  have hno : no ≤ 20 := hI.2.1
  have hFv := hI.fr
  have hOv := hI.or
  refine lv_iload hx hb dL_law_29 (lv_at hl 4 rfl) ?_
  refine lv_bipush (v := 40) hx hb dL_law_31 (by decide) ?_
  refine lv_icmp_ge (tgt := 1303) hx hb dL_law_33 (by decide) (fun c33 => absurd c33 (nI_ge (a := t) (b := 40) ht (by decide))) (fun c33 => ?_)
  refine lv_aload_n hx hb dL_law_36 rfl (lv_at hl 0 rfl) ?_
  refine lv_iload hx hb dL_law_37 (lv_at hl 4 rfl) ?_
  refine lv_bipush (v := 16) hx hb dL_law_39 (by decide) ?_
  refine lv_irem hx hb dL_law_41 (by decide) ?_
  rw [show nI t - nI t / 16 * 16 = nI (t % 16) from by rw [show (16 : Int32) = nI 16 from rfl, pk_rem (by omega) (by decide) (by decide)]]
  refine m_sI (As := [.ref sa.1, .int (nI (t % 16))]) (rest := []) (n := 2) hF hC hO hS (k_L_cell l G lo sa ad _ (t % 16) (by omega)) ok_L_cell q_483 ⟨Nat.le_of_ble_eq_true rfl, Nat.le_of_ble_eq_true rfl⟩ rfl hl.1 rfl (Nat.le_of_ble_eq_true rfl) ⟨(by show _ ≤ 600104; omega), (by show _ ≤ 7301314; omega)⟩ dL_law_42 (fun v42 R' H locs hp hO hS => ?_)
  obtain ⟨hv42, hR⟩ := hp
  rw [hR] at hO
  refine lv_iload hx hb dL_law_45 (lv_at hl 4 rfl) ?_
  refine lv_bipush (v := 16) hx hb dL_law_47 (by decide) ?_
  refine lv_idiv hx hb dL_law_49 (by decide) ?_
  refine lv_iconst (v := 3) hx hb dL_law_50 (by decide) ?_
  refine lv_imul hx hb dL_law_51 ?_
  refine lv_ishr hx hb dL_law_52 ?_
  generalize (v42 >>> ((((nI t) / 16) * 3) &&& 31)) = sh52
  refine lv_bipush (v := 37) hx hb dL_law_53 (by decide) ?_
  refine lv_iload hx hb dL_law_55 (lv_at hl 4 rfl) ?_
  refine lv_imul hx hb dL_law_57 ?_
  refine lv_iadd hx hb dL_law_58 ?_
  generalize (sh52 + (37 * (nI t))) = x5
  refine lv_istore (lv' := [(5, .int x5), (0, .ref sa.1), (1, .ref (ad 0)), (2, .ref (ad 50)), (3, .int (nI nf)), (4, .int (nI t))]) hx hb dL_law_59 hl (by decide) rfl (fun ls hl => ?_)
  refine lv_iconst (v := 0) hx hb dL_law_61 (by decide) ?_
  refine lv_istore (lv' := [(6, .int 0), (5, .int x5), (0, .ref sa.1), (1, .ref (ad 0)), (2, .ref (ad 50)), (3, .int (nI nf)), (4, .int (nI t))]) hx hb dL_law_62 hl (by decide) rfl (fun ls hl => ?_)
  refine lv_iload hx hb dL_law_64 (lv_at hl 0 rfl) ?_
  refine lv_iconst (v := 2) hx hb dL_law_66 (by decide) ?_
  refine lv_icmp_ge (tgt := 99) hx hb dL_law_67 (by decide) (fun c67 => absurd c67 (by decide)) (fun c67 => ?_)
  refine lv_aload_n hx hb dL_law_70 rfl (lv_at hl 3 rfl) ?_
  refine lv_aload_n hx hb dL_law_71 rfl (lv_at hl 4 rfl) ?_
  refine lv_iload hx hb dL_law_72 (lv_at hl 1 rfl) ?_
  refine lv_iconst (v := 2) hx hb dL_law_74 (by decide) ?_
  refine lv_iload hx hb dL_law_75 (lv_at hl 0 rfl) ?_
  refine lv_imul hx hb dL_law_77 ?_
  refine lv_ishr hx hb dL_law_78 ?_
  generalize (x5 >>> ((2 * 0) &&& 31)) = sh78
  refine lv_bipush (v := 7) hx hb dL_law_79 (by decide) ?_
  refine lv_iload hx hb dL_law_81 (lv_at hl 0 rfl) ?_
  refine lv_imul hx hb dL_law_83 ?_
  refine lv_iadd hx hb dL_law_84 ?_
  refine m_sNi (As := [.ref (ad 0), .ref (ad 50), .int (sh78 + (7 * 0))]) (rest := []) (n := 3) hF hC hO hS (k_L_act l G lo sa ad R g nf F f no O w tf tv fw (34 + 3 * t) (3 * t) (sh78 + (7 * 0)) hI h1 (by omega) (by omega) (hz 58 (by omega))) ok_L_act q_608 ⟨Nat.le_of_ble_eq_true rfl, Nat.le_of_ble_eq_true rfl⟩ rfl hl.1 rfl (Nat.le_of_ble_eq_true rfl) ⟨(by show _ ≤ 600104; omega), (by show _ ≤ 7301314; omega)⟩ dL_law_85 (fun v0 ad1 R1 H locs hp0 hO hS => ?_)
  unfold actPost at hp0
  obtain ⟨rfl, had1, g1, F1, f1, no1, O1, w1, hI1, hR1⟩ := hp0
  dsimp only at had1 hR1
  rw [hR1] at hO
  rw [had1 0 (by omega), had1 50 (by omega)] at hl
  refine lv_if_ne (tgt := 93) hx hb dL_law_88 (by decide) (fun c88 => ?_) (fun c88 => absurd c88 (by decide))
  refine lv_iinc (v := 1) (lv' := [(6, .int 1), (5, .int x5), (0, .ref sa.1), (1, .ref (ad1 0)), (2, .ref (ad1 50)), (3, .int (nI nf)), (4, .int (nI t))]) hx hb dL_law_93 hl (k := 0) rfl rfl (by decide) rfl (fun ls hl => ?_)
  refine lv_goto (tgt := 64) hx hb dL_law_96 (by decide) ?_
  refine lv_iload hx hb dL_law_64 (lv_at hl 0 rfl) ?_
  refine lv_iconst (v := 2) hx hb dL_law_66 (by decide) ?_
  refine lv_icmp_ge (tgt := 99) hx hb dL_law_67 (by decide) (fun c67 => absurd c67 (by decide)) (fun c67 => ?_)
  refine lv_aload_n hx hb dL_law_70 rfl (lv_at hl 3 rfl) ?_
  refine lv_aload_n hx hb dL_law_71 rfl (lv_at hl 4 rfl) ?_
  refine lv_iload hx hb dL_law_72 (lv_at hl 1 rfl) ?_
  refine lv_iconst (v := 2) hx hb dL_law_74 (by decide) ?_
  refine lv_iload hx hb dL_law_75 (lv_at hl 0 rfl) ?_
  refine lv_imul hx hb dL_law_77 ?_
  refine lv_ishr hx hb dL_law_78 ?_
  generalize (x5 >>> ((2 * 1) &&& 31)) = sh78
  refine lv_bipush (v := 7) hx hb dL_law_79 (by decide) ?_
  refine lv_iload hx hb dL_law_81 (lv_at hl 0 rfl) ?_
  refine lv_imul hx hb dL_law_83 ?_
  refine lv_iadd hx hb dL_law_84 ?_
  refine m_sNi (As := [.ref (ad1 0), .ref (ad1 50), .int (sh78 + (7 * 1))]) (rest := []) (n := 3) hF hC hO hS (k_L_act l G lo sa ad1 R g1 nf F1 f1 no1 O1 w1 tf tv fw (34 + 3 * t + 1) (3 * t + 1) (sh78 + (7 * 1)) hI1 h1 (by omega) (by omega) (hz 58 (by omega))) ok_L_act q_608 ⟨Nat.le_of_ble_eq_true rfl, Nat.le_of_ble_eq_true rfl⟩ rfl hl.1 rfl (Nat.le_of_ble_eq_true rfl) ⟨(by show _ ≤ 600104; omega), (by show _ ≤ 7301314; omega)⟩ dL_law_85 (fun v1 ad2 R2 H locs hp1 hO hS => ?_)
  unfold actPost at hp1
  obtain ⟨rfl, had2, g2, F2, f2, no2, O2, w2, hI2, hR2⟩ := hp1
  dsimp only at had2 hR2
  rw [hR2] at hO
  rw [had2 0 (by omega), had2 50 (by omega)] at hl
  refine lv_if_ne (tgt := 93) hx hb dL_law_88 (by decide) (fun c88 => ?_) (fun c88 => absurd c88 (by decide))
  refine lv_iinc (v := 2) (lv' := [(6, .int 2), (5, .int x5), (0, .ref sa.1), (1, .ref (ad2 0)), (2, .ref (ad2 50)), (3, .int (nI nf)), (4, .int (nI t))]) hx hb dL_law_93 hl (k := 0) rfl rfl (by decide) rfl (fun ls hl => ?_)
  refine lv_goto (tgt := 64) hx hb dL_law_96 (by decide) ?_
  refine lv_iload hx hb dL_law_64 (lv_at hl 0 rfl) ?_
  refine lv_iconst (v := 2) hx hb dL_law_66 (by decide) ?_
  refine lv_icmp_ge (tgt := 99) hx hb dL_law_67 (by decide) (fun c67 => ?_) (fun c67 => absurd (by decide) c67)
  refine lv_iload_n hx hb dL_law_99 rfl (lv_at hl 5 rfl) ?_
  refine lv_bipush (v := 8) hx hb dL_law_100 (by decide) ?_
  have hnf7 := hI2.1
  have hno7 := hI2.2.1
  refine m_mna (r := 60) (B := 240) (N := nf) (K := 8) hF hC hO hS (by omega) q_690 (nI_nneg (by omega)) (by decide) (nI_clamp (by omega)) (by decide) (by omega) (by decide) ⟨(by show _ ≤ 600104; omega), (by show _ ≤ 7301314; omega)⟩ dL_law_102 (fun ad3 H had3 hO hS => ?_)
  rw [WS_ad (ad1 := ad3) (fun x hx => had3 x (by omega) (by omega)), WC_ad (ad1 := ad3) (fun x hx => had3 x (by omega) (by omega)), was_new hnf] at hO
  rw [had3 0 (by omega) (by omega), had3 50 (by omega) (by omega)] at hl
  refine lv_astore (lv' := [(6, .ref (ad3 60)), (5, .int x5), (0, .ref sa.1), (1, .ref (ad3 0)), (2, .ref (ad3 50)), (3, .int (nI nf)), (4, .int (nI t))]) hx hb dL_law_106 hl (by decide) rfl (fun ls hl => ?_)
  exact h108 ad3 g2 nf F2 f2 no2 O2 w2 tf tv fw x5 H _ _ _ _ (hI2.mono (by omega) (by omega)) h1 hfw hO hS (lv_sub hl [2, 3, 4, 5, 6, 1, 0] rfl) (by omega) (by omega)
theorem va_no {F : Nat → Nat → Int32} {i k : Nat} {X : Nat → Int32} (h : k ≠ i) : va_up F i X k = F k := by simp [va_up, h]
set_option maxHeartbeats 400000 in
set_option maxRecDepth 100000 in
theorem seg_b {p : Program} {l : Launch} {e : Env} {s : State} {m : MethodId} {below : List Frame} {meth : Method} {c : Code} {lo : Nat} {G : mG} {sa : mSc} {R : mM} (X : LwX p s m meth c lo G sa) {t : Nat} (ht : t < 40) (hz : ∀ x, 50 ≤ x → R x = none) (h155 : L155 p l e s m below meth c lo G sa R t) : L108 p l e s m below meth c lo G sa R t := by
  intro ad g nf F f no O w tf tv fw x H locs ls cells slots hI h1 hfw hO hS hl hc9 hs9
  have hF := X.1
  have hC := X.2.1
  have hx := hF.1
  have hb := hF.2.1
  have hnf : nf ≤ 12 := by have := hI.1; omega
  have hno : no ≤ 20 := hI.2.1
  have hFv := hI.fr
  have hOv := hI.or
  refine lv_iconst (v := 0) hx hb dL_law_108 (by decide) ?_
  refine lv_istore (lv' := [(7, .int 0), (0, .ref sa.1), (1, .ref (ad 0)), (2, .ref (ad 50)), (3, .int (nI nf)), (4, .int (nI t)), (5, .int x), (6, .ref (ad 60))]) hx hb dL_law_109 hl (by decide) rfl (fun ls hl => ?_)
  have L111 : ∀ (nM : Nat) (a : Nat) (A : Nat → Nat → Int32) (H : Heap) (locs : List Loc) (ls : Array Slot), nf - a < nM → a ≤ nf → (∀ k, k < a → A k = wR 8 (F k)) → (∀ k, a ≤ k → A k = fun _ => 0) → lv_has ls 21 [(0, .ref sa.1), (1, .ref (ad 0)), (2, .ref (ad 50)), (3, .int (nI nf)), (4, .int (nI t)), (5, .int x), (6, .ref (ad 60)), (7, .int (nI a))] → mO G lo ad (WS G ad g nf F f no O w (WC G ad g nf F f no O tf tv fw (WW G ad nf A R))) H → va_S (mA lo) s.heap H locs → W p l e room_1 s m #[Value.ref sa.1] below meth c H locs cells slots (lw_Z below #[Value.ref sa.1] s) (F0 m 111 ls []) := by
    intro nM
    induction nM with
    | zero => intro a A H locs ls hn; exact absurd hn (Nat.not_lt_zero _)
    | succ nM ih111 =>
      intro a A H locs ls hn111 ha hA1 hA3 hl hO hS
      refine lv_iload hx hb dL_law_111 (lv_at hl 7 rfl) ?_
      refine lv_iload_n hx hb dL_law_113 rfl (lv_at hl 3 rfl) ?_
      refine lv_icmp_ge (tgt := 155) hx hb dL_law_114 (by decide) (fun c114 => ?_) (fun c114 => ?_)
      · have e7 : a = nf := Nat.le_antisymm ha (nI_E (a := nf) (b := a) (by omega) (by omega) c114)
        exact h155 ad g nf F f no O w tf tv fw A x H _ _ _ _ hI h1 hfw (fun k hk => hA1 k (by omega)) hO hS (lv_sub hl [0, 1, 2, 3, 4, 5, 6] rfl) hc9 hs9
      · have han : a < nf := (nI_nE (a := nf) (b := a) (by omega) (by omega) c114)
        refine lv_iconst (v := 0) hx hb dL_law_117 (by decide) ?_
        refine lv_istore (lv' := [(8, .int 0), (0, .ref sa.1), (1, .ref (ad 0)), (2, .ref (ad 50)), (3, .int (nI nf)), (4, .int (nI t)), (5, .int x), (6, .ref (ad 60)), (7, .int (nI a))]) hx hb dL_law_118 hl (by decide) rfl (fun ls hl => ?_)
        have L120 : ∀ (nM : Nat) (b : Nat) (A : Nat → Nat → Int32) (H : Heap) (locs : List Loc) (ls : Array Slot), 8 - b < nM → b ≤ 8 → (∀ k, k < a → A k = wR 8 (F k)) → A a = wR b (F a) → (∀ k, a + 1 ≤ k → A k = fun _ => 0) → lv_has ls 21 [(0, .ref sa.1), (1, .ref (ad 0)), (2, .ref (ad 50)), (3, .int (nI nf)), (4, .int (nI t)), (5, .int x), (6, .ref (ad 60)), (7, .int (nI a)), (8, .int (nI b))] → mO G lo ad (WS G ad g nf F f no O w (WC G ad g nf F f no O tf tv fw (WW G ad nf A R))) H → va_S (mA lo) s.heap H locs → W p l e room_1 s m #[Value.ref sa.1] below meth c H locs cells slots (lw_Z below #[Value.ref sa.1] s) (F0 m 120 ls []) := by
          intro nM
          induction nM with
          | zero => intro b A H locs ls hn; exact absurd hn (Nat.not_lt_zero _)
          | succ nM ih120 =>
            intro b A H locs ls hn120 hb8 hA1 hA2 hA3 hl hO hS
            refine lv_iload hx hb dL_law_120 (lv_at hl 8 rfl) ?_
            refine lv_bipush (v := 8) hx hb dL_law_122 (by decide) ?_
            refine lv_icmp_ge (tgt := 149) hx hb dL_law_124 (by decide) (fun c124 => ?_) (fun c124 => ?_)
            · refine lv_iinc (v := (nI (a + 1))) (lv' := [(7, .int (nI (a + 1))), (0, .ref sa.1), (1, .ref (ad 0)), (2, .ref (ad 50)), (3, .int (nI nf)), (4, .int (nI t)), (5, .int x), (6, .ref (ad 60)), (8, .int (nI b))]) hx hb dL_law_149 hl (k := 7) rfl (nI_inc a) (by decide) rfl (fun ls hl => ?_)
              refine lv_goto (tgt := 111) hx hb dL_law_152 (by decide) ?_
              have e8 : b = 8 := Nat.le_antisymm hb8 (nI_E (a := 8) (b := b) (by decide) (by omega) c124)
              rw [e8] at hA2
              exact ih111 (a + 1) A _ _ _ (by omega) (by omega) (fun k hk => (Nat.lt_or_ge k a).elim (hA1 k) (fun h9 => by rw [show k = a by omega]; exact hA2)) (fun k hk => hA3 k (by omega)) (lv_sub hl [1, 2, 3, 4, 5, 6, 7, 0] rfl) hO hS
            · have hbn : b < 8 := (nI_nE (a := 8) (b := b) (by decide) (by omega) c124)
              refine lv_aload hx hb dL_law_127 (lv_at hl 6 rfl) ?_
              refine lv_iload hx hb dL_law_129 (lv_at hl 7 rfl) ?_
              refine m_aldA hF hC hO (WS_at (by omega) (WC_at2 (by omega) WW_60)) (j := a) (nI_clamp (by omega)) (vp_in_nI han (by omega)) dL_law_131 (v := .ref (ad (240 + a))) (adF_in (by first | assumption | omega)) ?_
              refine lv_iload hx hb dL_law_132 (lv_at hl 8 rfl) ?_
              refine lv_aload_n hx hb dL_law_134 rfl (lv_at hl 1 rfl) ?_
              refine lv_iload hx hb dL_law_135 (lv_at hl 7 rfl) ?_
              refine lv_iload hx hb dL_law_137 (lv_at hl 8 rfl) ?_
              rw [← WC_WS] at hO
              refine m_vI (As := [.int (nI a), .int (nI b)]) (rest := [.int (nI b), .ref (ad (240 + a))]) (n := 2) hF hC hO hS (k_X5_frame l G lo sa ad (WS G ad g nf F f no O w (WW G ad nf A R)) g nf F f no O tf tv fw a b hnf hno han (by omega) ((hFv a han).c01)) ok_X5_frame q_338 rfl rfl ⟨Nat.le_of_ble_eq_true rfl, Nat.le_of_ble_eq_true rfl⟩ rfl hl.1 rfl (Nat.le_of_ble_eq_true rfl) ⟨(by show _ ≤ 600104; omega), (by show _ ≤ 7301314; omega)⟩ dL_law_139 (fun v139 R' H locs hp hO hS => ?_)
              obtain ⟨rfl, hR⟩ := hp
              rw [hR] at hO
              rw [WC_WS] at hO
              refine m_iast hF hC hO hS (WS_at (by omega) (WC_at2 (by omega) (WW_r (i := a) (by assumption)))) (j := b) (nI_clamp (by omega)) (vp_in_nI hbn (by decide)) dL_law_142 (fun H locs hO hS => ?_)
              have hO : mO G lo ad (mU (WS G ad g nf F f no O w (WC G ad g nf F f no O tf tv fw (WW G ad nf A R))) (240 + a) (.inl (G.2 0, 8, .inl (upd (A a) b (c_frame (F a) b))))) H := hO
              rw [WS_b (by omega), WC_b2 (by omega), WW_w (by assumption)] at hO
              refine lv_iinc (v := (nI (b + 1))) (lv' := [(8, .int (nI (b + 1))), (0, .ref sa.1), (1, .ref (ad 0)), (2, .ref (ad 50)), (3, .int (nI nf)), (4, .int (nI t)), (5, .int x), (6, .ref (ad 60)), (7, .int (nI a))]) hx hb dL_law_143 hl (k := 8) rfl (nI_inc b) (by decide) rfl (fun ls hl => ?_)
              refine lv_goto (tgt := 120) hx hb dL_law_146 (by decide) ?_
              exact ih120 (b + 1) (va_up A a (upd (A a) b (c_frame (F a) b))) _ _ _ (by omega) (by omega) (fun k hk => by rw [va_no (by omega)]; exact hA1 k hk) (by rw [va_upat, hA2, wR_s]) (fun k hk => by rw [va_no (by omega)]; exact hA3 k hk) (lv_sub hl [1, 2, 3, 4, 5, 6, 7, 8, 0] rfl) hO hS
        exact L120 _ 0 A _ _ _ (Nat.lt_succ_self _) (by omega) hA1 (by rw [wR_0]; exact hA3 a (Nat.le_refl _)) (fun k hk => hA3 k (by omega)) (lv_sub hl [1, 2, 3, 4, 5, 6, 7, 8, 0] rfl) hO hS
  exact L111 _ 0 (fun _ _ => 0) _ _ _ (Nat.lt_succ_self _) (by omega) (fun k hk => absurd hk (Nat.not_lt_zero _)) (fun k hk => rfl) (lv_sub hl [1, 2, 3, 4, 5, 6, 7, 0] rfl) hO hS
theorem seg_t {p : Program} {l : Launch} {e : Env} {s : State} {m : MethodId} {below : List Frame} {meth : Method} {c : Code} {lo : Nat} {G : mG} {sa : mSc} {R : mM} (X : LwX p s m meth c lo G sa) {t : Nat} (ht : t < 40) (hz : ∀ x, 50 ≤ x → R x = none) (hN : LHead p l e s m below meth c lo G sa R (t + 1)) : L1297 p l e s m below meth c lo G sa R t := by
  intro ad g nf F f no O w tf tv fw H locs ls cells slots hI h1 hfw hO hS hl hc9 hs9
  have hF := X.1
  have hC := X.2.1
  have hx := hF.1
  have hb := hF.2.1
  have hnf : nf ≤ 12 := by have := hI.1; omega
  have hno : no ≤ 20 := hI.2.1
  have hFv := hI.fr
  have hOv := hI.or
  refine lv_iinc (v := (nI (t + 1))) (lv' := [(4, .int (nI (t + 1))), (0, .ref sa.1), (1, .ref (ad 0)), (2, .ref (ad 50)), (3, .int (nI nf))]) hx hb dL_law_1297 hl (k := 4) rfl (nI_inc t) (by decide) rfl (fun ls hl => ?_)
  refine lv_goto (tgt := 29) hx hb dL_law_1300 (by decide) ?_
  exact hN ad g nf F f no O w tf tv fw H _ _ _ _ (hI.mono (by omega) (by omega)) h1 hfw hO hS (lv_sub hl [1, 2, 3, 4, 0] rfl) (by omega) (by omega)
