theorem WM_eat {G : mG} {ad : Nat → Nat} {th : Int32} {g : Nat → Int32} {nf no : Nat} {F O : Nat → Nat → Int32} {f it ch : Nat → Int32} {R : mM} {e : va_E} : WM G ad th g nf F f no O it ch (mU R 50 e) = WM G ad th g nf F f no O it ch R := by
  funext r
  unfold WM
  by_cases h : 50 ≤ r ∧ r < 56
  · rw [if_pos h, if_pos h]
  · rw [if_neg h, if_neg h, mU_ne (by omega)]
theorem inv_0 : Inv 0 g_0 0 F_0 (fun _ => 0) 0 F_0 :=
  ⟨by omega, by omega, ⟨⟨0, 20, by omega, by omega, rfl, rfl⟩, ⟨0, by omega, rfl⟩, 0, by omega, rfl⟩, fun i hi => absurd hi (Nat.not_lt_zero _), fun j hj => absurd hj (Nat.not_lt_zero _), fun j _ => ⟨0, by omega, rfl⟩⟩
set_option maxHeartbeats 1000000 in
set_option maxRecDepth 100000 in
theorem whole_start {p : Program} {e : Env} {s : State} {m : MethodId} {below : List Frame} {meth : Method} {c : Code} (l : Launch) (hflags : l.flags = flags0) {b L : Nat} {xs : Nat → Int32} (hL : L ≤ 2560) (C0 : lw_At p s m meth c b L xs) : W p l e room_1 s m #[Value.ref b] below meth c s.heap [] 0 0 (lw_Z below #[Value.ref b] s) (entryFrame m ([Value.ref b] : List Value).toArray 9) := by
  obtain ⟨hx, hb, hr, hml, hown, hts, hX, hbl, hlk, hgv⟩ := C0
  have hta : ∀ w ∈ lw_all, w.before #[Value.ref b] s = true := fun w hw => hts w (List.mem_filter.mp hw).1
  obtain ⟨G, sa, hC0⟩ := st_C hts hgv
  have hfl : l.stackTraces = false := by unfold Launch.stackTraces; rw [hflags]; decide +kernel
  have X : LwX p l s m meth c b L xs G sa := ⟨fun d => ⟨hx, hb, hml, hown, dr_words hta d⟩, fun d => mC.vm (u := s) (U := s.setDrawn d) rfl hC0, hr, hlk, hfl, hX, hbl, hL⟩
  have hF := X.hF s.drawn
  have hC := X.hC s.drawn
  refine W.base ?_
  have hl := lv_entry ([.ref b]) (n := 9) (Nat.le_of_ble_eq_true rfl)
  rw [lg_entry_eq]
  generalize (lg_sl ([.ref b]) ++ List.replicate (9 - (lg_sl ([.ref b])).length) Slot.unset).toArray = ls at hl ⊢
  have hl : lv_has ls 9 [(0, .ref b)] := hl
  have hS : va_S (mA s.heap.size) s.heap s.heap [] := va_S.rf
  have hO : mO G s.heap.size (fun _ => 0) (fun _ => none) s.heap := ⟨(fun r e h => by cases h), (fun r e h => by cases h), (fun r r9 e e9 h => by cases h)⟩
  refine m_new (ci := 5) (r := 0) (fs := [.null, .null, .null, .null, .null, .null, .int 0, .int 0, .int 0]) tyX5 tyX5_ok inX5 hF hC hO hS rfl q_16 q_17 q_1 rfl (by decide) ⟨Nat.le_of_ble_eq_true rfl, Nat.le_of_ble_eq_true rfl⟩ dL_law_0 (fun ad1 H had1 hO hS => ?_)
  refine lv_dup hx hb dL_law_3 rfl ?_
  refine m_iN (As := []) (rest := [.ref (ad1 0)]) (n := 0) hF hC hO hS (k_X5_init l G _ sa ad1 _ mU_self (fun r hr => (mU_ne (by omega)).trans rfl)) ok_X5_init q_18 ⟨Nat.le_of_ble_eq_true rfl, Nat.le_of_ble_eq_true rfl⟩ rfl hl.1 rfl (Nat.le_of_ble_eq_true rfl) ⟨Nat.le_of_ble_eq_true rfl, Nat.le_of_ble_eq_true rfl⟩ dL_law_4 (fun ad2 R2 H locs hp hO hS => ?_)
  dsimp only at hp
  obtain ⟨⟨h20, had2⟩, hR⟩ := hp
  rw [hR] at hO
  rw [h20]
  refine lv_astore_n (lv' := [(1, .ref (ad2 0)), (0, .ref b)]) hx hb dL_law_7 rfl hl (by decide) rfl (fun ls hl => ?_)
  refine m_new (ci := 6) (r := 50) (fs := [.int 0, .int 0, .int 0, .int 0, .int 0, .null, .null, .int 0, .null, .int 0, .int 0, .int 0, .null, .null]) tyX6 tyX6_ok inX6 hF hC hO hS (WC_at (by decide) ((mU_ne (by decide)).trans rfl)) q_656 q_657 q_6 rfl (by decide) ⟨Nat.le_of_ble_eq_true rfl, Nat.le_of_ble_eq_true rfl⟩ dL_law_8 (fun ad3 H had3 hO hS => ?_)
  rw [WC_ad (ad1 := ad3) (fun x hx => had3 x (by omega))] at hO
  rw [had3 0 (by decide)] at hl
  refine lv_dup hx hb dL_law_11 rfl ?_
  refine m_iN (As := []) (rest := [.ref (ad3 50)]) (n := 0) hF hC hO hS (k_X6_init l G _ sa ad3 _ mU_self (fun r h1 h2 => (mU_ne (by omega)).trans (WC_at (by omega) ((mU_ne (by omega)).trans rfl)))) ok_X6_init q_658 ⟨Nat.le_of_ble_eq_true rfl, Nat.le_of_ble_eq_true rfl⟩ rfl hl.1 rfl (Nat.le_of_ble_eq_true rfl) ⟨Nat.le_of_ble_eq_true rfl, Nat.le_of_ble_eq_true rfl⟩ dL_law_12 (fun ad4 R4 H locs hp hO hS => ?_)
  dsimp only at hp
  obtain ⟨had4, hR4⟩ := hp
  rw [hR4, WM_eat, WC_ad (ad := ad3) (ad1 := ad4) (fun x hx => had4 x (by omega))] at hO
  rw [had4 50 (by omega)]
  rw [had4 0 (by omega)] at hl
  refine lv_astore_n (lv' := [(2, .ref (ad4 50)), (1, .ref (ad4 0)), (0, .ref b)]) hx hb dL_law_15 rfl hl (by decide) rfl (fun ls hl => ?_)
  refine lv_iconst (v := 1) hx hb dL_law_16 (by decide) ?_
  refine m_newa (k := 1) (r := 60) (N := 1) (arr := (1, .inr (.inl (fun _ => 0)))) hF hC hO hS (WM_at (by decide) (WC_at (by decide) ((mU_ne (by decide)).trans rfl))) q_915 rfl rfl (fun _ => rfl) (fun _ => rfl) (by decide) rfl (by decide) ⟨Nat.le_of_ble_eq_true rfl, Nat.le_of_ble_eq_true rfl⟩ dL_law_17 (fun ad5 H had5 hO hS => ?_)
  rw [WM_ad (ad := ad4) (ad1 := ad5) (fun x h1 h2 => had5 x (by omega)), WC_ad (ad := ad4) (ad1 := ad5) (fun x hx => had5 x (by omega)), WM_b, WC_b (by decide)] at hO
  rw [had5 0 (by decide), had5 50 (by decide)] at hl
  refine lv_astore_n (lv' := [(3, .ref (ad5 60)), (2, .ref (ad5 50)), (1, .ref (ad5 0)), (0, .ref b)]) hx hb dL_law_19 rfl hl (by decide) rfl (fun ls hl => ?_)
  refine lv_iconst (v := 0) hx hb dL_law_20 (by decide) ?_
  refine lv_istore (lv' := [(4, .int 0), (3, .ref (ad5 60)), (2, .ref (ad5 50)), (1, .ref (ad5 0)), (0, .ref b)]) hx hb dL_law_21 hl (by decide) rfl (fun ls hl => ?_)
  exact law_loop X 513 0 rfl (by omega) s.drawn ad5 0 g_0 0 F_0 (fun _ => 0) 0 F_0 tf_0 g_0 (fun _ => 0) (fun _ => 0) (fun _ => 0) (fun _ => 0) _ H _ ls _ _ (Drawn.sameBut.refl s.drawn lw_cs) inv_0 rfl mU_self ((mU_ne (by decide)).trans ((mU_ne (by decide)).trans rfl)) hO hS (lv_sub hl [4, 3, 2, 1, 0] rfl) (by decide) (by decide)
