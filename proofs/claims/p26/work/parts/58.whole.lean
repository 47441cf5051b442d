theorem st_arr {args : Array Value} {s : State} {ty : FieldType} (h : (Cond.arrayClass ty).before args s = true) : ∃ cA : ClassId, ArrOfT s cA ty ∧ s.vm.findClass ("[" ++ ty.toString) = some cA := by
  obtain ⟨c, k, comp, h1, h2, h3⟩ := Cond.arrayClass_spec h
  exact ⟨c, fun n z => ⟨fun k h => (by cases h), k, h2, comp, h3⟩, h1⟩
theorem st_arrO {s : State} {C : String} (h : va_AO C s) : ∃ cA : ClassId, ArrOfT s cA (.object C) ∧ va_RA s cA (.object C) := by
  obtain ⟨comp, c, k, h1, h2, h3, h4, h5⟩ := Cond.arrayOver_spec h
  exact ⟨c, fun n z => ⟨fun k h => (by cases h), k, h3, comp, h4⟩, k, comp, h3, h4, h1, h5⟩
theorem st_arrA {s : State} (h : mAA .int s) : ∃ cA : ClassId, ArrOfT s cA (.array .int) ∧ s.vm.findClass ("[" ++ (FieldType.array .int).toString) = some cA := by
  obtain ⟨comp, c, k, h1, h2, h3, h4, h5⟩ := arrayOverA_spec (args := #[]) (first := s) (o := none) (idx := []) h
  exact ⟨c, fun n z => ⟨fun k h => (by cases h), k, h3, comp, h4⟩, h5⟩
theorem st_K {args : Array Value} {s : State} (hts : ∀ w ∈ lw_tbl, w.before args s = true) : ∃ G : mG, va_K G.1 vwCl (mTy G) s := by
  have hta : ∀ w ∈ lw_all, w.before args s = true := fun w hw => hts w (List.mem_filter.mp hw).1
  obtain ⟨c0, i0, k0⟩ := u_known (T := TX0) (N := 7) hta inX0 (hta _ q_67)
  obtain ⟨c1, i1, k1⟩ := u_known (T := TX1) (N := 5) hta inX1 (hta _ q_633)
  obtain ⟨c2, i2, k2⟩ := u_known (T := TX2) (N := 1) hta inX2 (hta _ q_48)
  obtain ⟨c3, i3, k3⟩ := u_known (T := TX3) (N := 2) hta inX3 (hta _ q_61)
  obtain ⟨c4, i4, k4⟩ := u_known (T := TX4) (N := 3) hta inX4 (hta _ q_25)
  obtain ⟨c5, i5, k5⟩ := u_known (T := TX5) (N := 9) hta inX5 (hta _ q_17)
  obtain ⟨c6, i6, k6⟩ := u_known (T := TX6) (N := 7) hta inX6 (hta _ q_562)
  obtain ⟨c7, i7, k7⟩ := u_known (T := TX7) (N := 9) hta inX7 (hta _ q_491)
  obtain ⟨a0, x0, y0⟩ := st_arr (hta _ q_57)
  obtain ⟨a1, x1, y1⟩ := st_arrA (hts (.arrayOver (.array .int)) (by decide +kernel))
  obtain ⟨a2, x2, y2⟩ := st_arrO (C := RX6) (va_AO.of (hts (.arrayOver (.object RX6)) (by decide +kernel)))
  obtain ⟨a3, x3, y3⟩ := st_arrO (C := RX0) (va_AO.of (hts (.arrayOver (.object RX0)) (by decide +kernel)))
  obtain ⟨a4, x4, y4⟩ := st_arrO (C := RX1) (va_AO.of (hts (.arrayOver (.object RX1)) (by decide +kernel)))
  refine ⟨(((fun k => match k with | 0 => c0 | 1 => c1 | 2 => c2 | 3 => c3 | 4 => c4 | 5 => c5 | 6 => c6 | _ => c7), (fun k => match k with | 0 => i0 | 1 => i1 | 2 => i2 | 3 => i3 | 4 => i4 | 5 => i5 | 6 => i6 | _ => i7)), (fun k => match k with | 0 => a0 | 1 => a1 | 2 => a2 | 3 => a3 | _ => a4)), fun c q hq => ?_, fun k q hq => ?_⟩
  · match c, hq with
    | 0, hq => cases hq; exact k0
    | 1, hq => cases hq; exact k1
    | 2, hq => cases hq; exact k2
    | 3, hq => cases hq; exact k3
    | 4, hq => cases hq; exact k4
    | 5, hq => cases hq; exact k5
    | 6, hq => cases hq; exact k6
    | 7, hq => cases hq; exact k7
    | _ + 8, hq => cases hq
  · match k, hq with
    | 0, hq => cases hq; exact ⟨x0, y0⟩
    | 1, hq => cases hq; exact ⟨x1, y1⟩
    | 2, hq => cases hq; exact ⟨x2, y2⟩
    | 3, hq => cases hq; exact ⟨x3, y3⟩
    | 4, hq => cases hq; exact ⟨x4, y4⟩
    | _ + 5, hq => cases hq
theorem st_C {b L : Nat} {xs : Nat → Int32} {s : State} (hL : L ≤ 260) (hbl : b < s.heap.size) (hX : va_X b L xs s s.heap) (hts : ∀ w ∈ lw_tbl, w.before #[Value.ref b] s = true) : ∃ G : mG, mC G s.heap.size (b, L, xs) s s.heap := by
  obtain ⟨G, hK⟩ := st_K hts
  have tb : ∀ w, w ∈ lw_tbl → w.onTables = true → va_Nw w s := fun w hw ho => va_Nw.of ho (hts w hw)
  exact ⟨G, hK, ⟨hbl, hL, hX⟩, ⟨hts (.arrayOver (.array .int)) (by decide +kernel), va_AO.of (hts (.arrayOver (.object RX6)) (by decide +kernel))⟩,
    ⟨tb _ (by decide +kernel) rfl, tb _ (by decide +kernel) rfl, tb _ (by decide +kernel) rfl, tb _ (by decide +kernel) rfl, tb _ (by decide +kernel) rfl⟩,
    ⟨tb _ (by decide +kernel) rfl, tb _ (by decide +kernel) rfl⟩, trivial, Nat.le_refl _, va_AO.of (hts (.arrayOver (.object RX0)) (by decide +kernel)), va_AO.of (hts (.arrayOver (.object RX1)) (by decide +kernel))⟩
set_option maxHeartbeats 400000 in
set_option maxRecDepth 100000 in
theorem law_loop {p : Program} {l : Launch} {e : Env} {s : State} {m : MethodId} {below : List Frame} {meth : Method} {c : Code} {lo : Nat} {G : mG} {sa : mSc} {R : mM} (X : LwX p s m meth c lo G sa) (hz : ∀ x, 50 ≤ x → R x = none) : ∀ (n t : Nat), t + n = 40 → LHead p l e s m below meth c lo G sa R t := by
  intro n
  induction n with
  | zero =>
    intro t htn
    intro ad g nf F f no O w tf tv fw H locs ls cells slots hI h1 hfw hO hS hl hc9 hs9
    have hF := X.1
    have hx := hF.1
    have hb := hF.2.1
    refine lv_iload hx hb dL_law_29 (lv_at hl 4 rfl) ?_
    refine lv_bipush (v := 40) hx hb dL_law_31 (by decide) ?_
    refine lv_icmp_ge (tgt := 1303) hx hb dL_law_33 (by decide) (fun c33 => ?_) (fun c33 => absurd ((nI_le (a := 40) (b := t) (by omega) (by omega))) c33)
    refine lv_iconst (v := 1) hx hb dL_law_1303 (by decide) ?_
    obtain ⟨-, -, hr, hlk, hlo⟩ := X
    refine va_forget (fun q hq => by have h9 := hS.2.2 q hq; rw [hlo] at h9; exact h9) ?_
    refine W.widen (k := 600104) (n := 7301314) (by omega) (by omega) ?_
    exact lw_ret hx hb hr hlk dL_law_1304
  | succ n ih =>
    intro t htn
    have ht : t < 40 := by omega
    exact seg_a X ht hz (seg_b X ht hz (seg_c X ht hz (seg_e X ht hz (seg_g X ht hz (seg_t X ht hz (ih (t + 1) (by omega)))))))
set_option maxHeartbeats 1000000 in
set_option maxRecDepth 100000 in
theorem whole_start {p : Program} {e : Env} {s : State} {m : MethodId} {below : List Frame} {meth : Method} {c : Code} (l : Launch) (hflags : l.flags = flags0) {b L : Nat} {xs : Nat → Int32} (hL : L ≤ 260) (C0 : lw_At p s m meth c b L xs) : W p l e room_1 s m #[Value.ref b] below meth c s.heap [] 0 0 (lw_Z below #[Value.ref b] s) (entryFrame m ([Value.ref b] : List Value).toArray 21) := by
  obtain ⟨hx, hb, hr, hml, hown, hts, hX, hbl, hlk, hgv⟩ := C0
  have hta : ∀ w ∈ lw_all, w.before #[Value.ref b] s = true := fun w hw => hts w (List.mem_filter.mp hw).1
  obtain ⟨G, hC⟩ := st_C hL hbl hX hts
  have hF : mF p m c cL_law 21 s #[Value.ref b] RL := ⟨hx, hb, hml, hown, hta⟩
  have X : LwX p s m meth c s.heap.size G (b, L, xs) := ⟨hF, hC, hr, hlk, rfl⟩
  have hl := lv_entry ([.ref b]) (n := 21) (Nat.le_of_ble_eq_true rfl)
  rw [lg_entry_eq]
  generalize (lg_sl ([.ref b]) ++ List.replicate (21 - (lg_sl ([.ref b])).length) Slot.unset).toArray = ls at hl ⊢
  have hl : lv_has ls 21 [(0, .ref b)] := hl
  have hS : va_S (mA s.heap.size) s.heap s.heap [] := va_S.rf
  have hO : mO G s.heap.size (fun _ => 0) (fun _ => none) s.heap := ⟨(fun r e h => by cases h), (fun r e h => by cases h), (fun r r9 e e9 h => by cases h)⟩
  refine m_new (ci := 5) (r := 0) (fs := [.null, .null, .null, .null, .null, .null, .int 0, .int 0, .int 0]) tyX5 tyX5_ok inX5 hF hC hO hS rfl q_16 q_17 q_1 rfl (by decide) ⟨Nat.le_of_ble_eq_true rfl, Nat.le_of_ble_eq_true rfl⟩ dL_law_0 (fun ad1 H had1 hO hS => ?_)
  refine lv_dup hx hb dL_law_3 rfl ?_
  refine m_iN (As := []) (rest := [.ref (ad1 0)]) (n := 0) hF hC hO hS (k_X5_init l G _ (b, L, xs) ad1 _ mU_self (fun r hr => (mU_ne (by omega)).trans rfl)) ok_X5_init q_18 ⟨Nat.le_of_ble_eq_true rfl, Nat.le_of_ble_eq_true rfl⟩ rfl hl.1 rfl (Nat.le_of_ble_eq_true rfl) ⟨Nat.le_of_ble_eq_true rfl, Nat.le_of_ble_eq_true rfl⟩ dL_law_4 (fun ad2 R2 H locs hp hO hS => ?_)
  dsimp only at hp
  obtain ⟨⟨h20, had2⟩, hR⟩ := hp
  rw [hR] at hO
  rw [h20]
  refine lv_astore_n (lv' := [(1, .ref (ad2 0)), (0, .ref b)]) hx hb dL_law_7 rfl hl (by decide) rfl (fun ls hl => ?_)
  refine lv_aload_n hx hb dL_law_8 rfl (lv_at hl 0 rfl) ?_
  refine lv_aload_n hx hb dL_law_9 rfl (lv_at hl 1 rfl) ?_
  have hz : ∀ x, 50 ≤ x → mU (fun _ => none : mM) 0 (.inr (5, [.null, .null, .null, .null, .null, .null, .int 0, .int 0, .int 0])) x = none := fun x hx => mU_ne (by omega)
  refine m_sNr (As := [.ref (ad2 0), .ref b]) (rest := []) (n := 2) hF hC hO hS (k_L_build l G _ (b, L, xs) ad2 _ hz) ok_L_build q_487 ⟨Nat.le_of_ble_eq_true rfl, Nat.le_of_ble_eq_true rfl⟩ rfl hl.1 rfl (Nat.le_of_ble_eq_true rfl) ⟨Nat.le_of_ble_eq_true rfl, Nat.le_of_ble_eq_true rfl⟩ dL_law_10 (fun ad3 R3 H locs hp hO hS => ?_)
  dsimp only at hp
  obtain ⟨had3, g, nf, F, f, no, O, w, tf, tv, fw, h1, hI, hfw, hR3⟩ := hp
  rw [hR3] at hO
  rw [had3] at hl
  have hnf7 := hI.1
  have hno7 := hI.2.1
  refine lv_astore_n (lv' := [(2, .ref (ad3 50)), (1, .ref (ad3 0)), (0, .ref b)]) hx hb dL_law_13 rfl hl (by decide) rfl (fun ls hl => ?_)
  refine lv_aload_n hx hb dL_law_14 rfl (lv_at hl 0 rfl) ?_
  refine lv_ifnonnull (tgt := 20) hx hb dL_law_15 (by decide) ?_
  refine lv_aload_n hx hb dL_law_20 rfl (lv_at hl 0 rfl) ?_
  refine m_get inX7 hF hC hO rfl rfl 3 (by decide) q_508 (v := .ref (ad3 51)) rfl dL_law_21 ?_
  refine m_alen 2 hF hC hO rfl rfl (v := (nI nf)) rfl dL_law_24 ?_
  refine lv_istore_n (lv' := [(3, .int (nI nf)), (2, .ref (ad3 50)), (1, .ref (ad3 0)), (0, .ref b)]) hx hb dL_law_25 rfl hl (by decide) rfl (fun ls hl => ?_)
  refine lv_iconst (v := 0) hx hb dL_law_26 (by decide) ?_
  refine lv_istore (lv' := [(4, .int 0), (3, .int (nI nf)), (2, .ref (ad3 50)), (1, .ref (ad3 0)), (0, .ref b)]) hx hb dL_law_27 hl (by decide) rfl (fun ls hl => ?_)
  exact law_loop X hz 40 0 rfl ad3 g nf F f no O w tf tv fw H _ ls _ _ (hI.mono (by omega) (by omega)) h1 hfw hO hS (lv_sub hl [4, 3, 2, 1, 0] rfl) (by omega) (by omega)
