/-! ===== a new Sim ===== -/
theorem ok_X7_init : mOC yX7_init cX7_init 1 0 := ⟨q_493, q_6, q_494, by decide +kernel, rfl⟩
theorem mMul_at {G : mG} {ad : Nat → Nat} {r B N K k : Nat} {R : mM} {X : Option va_E} (h1 : k ≠ r) (h2 : ¬ (B ≤ k ∧ k < B + N)) (h : R k = X) : mMul G ad r B N K R k = X := by
  unfold mMul; rw [if_neg h1, if_neg h2]; exact h
abbrev g_00 : Nat → Int32 := upd (fun _ => 0) 1 20
abbrev F_00 : Nat → Nat → Int32 := fun _ _ => 0
theorem in_fin {G : mG} {lo : Nat} {ad1 ad2 ad3 : Nat → Nat} {R : mM} {H : Heap} {a50 a51 : Nat} {e0 : va_E} (h12 : ∀ x, x ≠ 52 → ¬ (53 ≤ x ∧ x < 53 + 4) → ad1 x = ad2 x) (h23 : ∀ x, x ≠ 57 → ad2 x = ad3 x)
    (hO : mO G lo ad3 (mU (mU (mU (mMul G ad2 52 53 4 10 (mU (mU R 50 e0) 51 (rfA G 2 0 (fun _ => none)))) 50 (.inr (7, [.int 0, .int 20, .int 0, .ref (ad3 51), .ref (ad3 52), .null, .int 0, .int 0, .int 0]))) 57 (rfA G 1 0 (fun _ => none))) 50 (sO ad3 g_00 0)) H) :
    mO G lo ad3 (WS G ad3 g_00 0 F_00 (fun _ => 0) 0 F_00 0 R) H := by
  refine hO.drop (fun q e hq => ?_)
  rw [← hq]
  by_cases h50 : q = 50
  · subst h50; rw [mU_self]; rfl
  rw [mU_ne h50]
  by_cases h57 : q = 57
  · subst h57; rw [mU_self]
    show _ = some (rfA G 1 0 (adF ad3 220 0))
    rw [adF_0]
  rw [mU_ne h57, mU_ne h50]
  by_cases h52 : q = 52
  · subst h52
    show some (rfA G 1 4 (adF ad2 53 4)) = some (rfA G 1 4 (adF ad3 53 4))
    rw [adF_ad (ad := ad2) (ad1 := ad3) (fun x hx => h23 x (by omega))]
  by_cases h53 : 53 ≤ q ∧ q < 53 + 4
  · have e1 : mMul G ad2 52 53 4 10 (mU (mU R 50 e0) 51 (rfA G 2 0 (fun _ => none))) q = some (.inl (G.2 0, 10, .inl (fun _ => 0))) := by unfold mMul; rw [if_neg h52, if_pos h53]
    rw [e1]
    obtain ⟨k, rfl⟩ : ∃ k, q = 53 + k := ⟨q - 53, by omega⟩
    rw [WS_S (by omega)]
    rw [show rowF (fun _ => 0) k = fun _ => 0 from by funext j; unfold rowF; split <;> rfl]
  rw [mMul_at h52 h53 rfl]
  by_cases h51 : q = 51
  · subst h51; rw [mU_self]
    show _ = some (rfA G 2 0 (adF ad3 200 0))
    rw [adF_0]
  rw [mU_ne h51, mU_ne h50]
  by_cases ho : outS q
  · rw [WS_at ho rfl]
  · exfalso
    unfold WS at hq
    rw [if_neg (by omega)] at hq
    by_cases h200 : 200 ≤ q ∧ q < 212
    · rw [if_pos h200, if_neg (by omega)] at hq; cases hq
    · rw [if_neg h200, if_pos (by omega), if_neg (by omega)] at hq; cases hq
set_option maxHeartbeats 400000 in
set_option maxRecDepth 100000 in
theorem k_X7_init (l : Launch) (G : mG) (lo : Nat) (sa : mSc) (ad : Nat → Nat) (R : mM) (h0 : R 50 = some (.inr (7, [.int 0, .int 0, .int 0, .null, .null, .null, .int 0, .int 0, .int 0]))) (h51 : R 51 = none) (h57 : R 57 = none) : nV' l yX7_init cX7_init 1 1 20 7 44 G lo sa ad R [.ref (ad 50)] (fun u' => (∀ x, ¬ (51 ≤ x ∧ x < 58) → ad x = u'.1 x) ∧ u'.2 = WS G u'.1 g_00 0 F_00 (fun _ => 0) 0 F_00 0 R) := by
  refine nV_ofI (by decide) (Nat.le_of_ble_eq_true rfl) ?_
  intro p e s m args below meth c hF hr hlk hin hC ls hl hO hS Q hQ
  have hx := hF.1
  have hb := hF.2.1
  have hl : lv_has ls 1 [(0, .ref (ad 50))] := hl
  refine lv_aload_n hx hb dX7_init_0 rfl (lv_at hl 0 rfl) ?_
  refine m_oini hF q_495 hl.1 dX7_init_1 ⟨Nat.le_of_ble_eq_true rfl, Nat.le_of_ble_eq_true rfl⟩ (Nat.le_of_ble_eq_true rfl) ?_
  refine lv_aload_n hx hb dX7_init_4 rfl (lv_at hl 0 rfl) ?_
  refine lv_bipush (v := 20) hx hb dX7_init_5 (by decide) ?_
  refine m_put (ty := .int) tyX7 tyX7_ok nmX7 inX7 hF hC hO hS h0 rfl 1 (by decide) q_503 rfl (by decide +kernel) rfl rfl (fs' := [.int 0, .int 20, .int 0, .null, .null, .null, .int 0, .int 0, .int 0]) (Nat.le_of_ble_eq_true rfl) rfl dX7_init_7 (fun H locs hO hS => ?_)
  refine lv_aload_n hx hb dX7_init_10 rfl (lv_at hl 0 rfl) ?_
  refine lv_iconst (v := 0) hx hb dX7_init_11 (by decide) ?_
  refine m_newq (C := RX6) (k := 2) (r := 51) (N := 0) hF hC hO hS ((mU_ne (by decide)).trans h51) q_496 hC.2.2.1.2 rfl (by decide) (by decide) (by decide) ⟨Nat.le_of_ble_eq_true rfl, Nat.le_of_ble_eq_true rfl⟩ dX7_init_12 (fun ad1 H had1 hO hS => ?_)
  rw [had1 50 (by decide)] at hl ⊢
  refine m_put (ty := (.array (.object "CandleDipLaw$Frame"))) tyX7 tyX7_ok nmX7 inX7 hF hC hO hS ((mU_ne (by decide)).trans mU_self) rfl 3 (by decide) q_507 rfl (by decide +kernel) rfl rfl (fs' := [.int 0, .int 20, .int 0, .ref (ad1 51), .null, .null, .int 0, .int 0, .int 0]) (Nat.le_of_ble_eq_true rfl) rfl dX7_init_15 (fun H locs hO hS => ?_)
  rw [mU_sw (by decide), mU_mU] at hO
  refine lv_aload_n hx hb dX7_init_18 rfl (lv_at hl 0 rfl) ?_
  refine lv_iconst (v := 4) hx hb dX7_init_19 (by decide) ?_
  refine lv_bipush (v := 10) hx hb dX7_init_20 (by decide) ?_
  refine m_mna (r := 52) (B := 53) (N := 4) (K := 10) hF hC hO hS (by omega) q_498 (by decide) (by decide) (by decide) (by decide) (by decide) (by decide) ⟨Nat.le_of_ble_eq_true rfl, Nat.le_of_ble_eq_true rfl⟩ dX7_init_22 (fun ad2 H had2 hO hS => ?_)
  rw [had2 50 (by omega) (by omega)] at hl ⊢
  rw [had2 51 (by omega) (by omega)] at hO
  refine m_put (ty := (.array (.array .int))) tyX7 tyX7_ok nmX7 inX7 hF hC hO hS (mMul_at (by omega) (by omega) ((mU_ne (by decide)).trans mU_self)) rfl 4 (by decide) q_509 rfl (by decide +kernel) rfl rfl (fs' := [.int 0, .int 20, .int 0, .ref (ad2 51), .ref (ad2 52), .null, .int 0, .int 0, .int 0]) (Nat.le_of_ble_eq_true rfl) rfl dX7_init_26 (fun H locs hO hS => ?_)
  refine lv_aload_n hx hb dX7_init_29 rfl (lv_at hl 0 rfl) ?_
  refine lv_iconst (v := 0) hx hb dX7_init_30 (by decide) ?_
  refine m_newqA (r := 57) (N := 0) hF hC hO hS ((mU_ne (by decide)).trans (mMul_at (by omega) (by omega) ((mU_ne (by decide)).trans ((mU_ne (by decide)).trans h57)))) q_500 (by decide) (by decide) (by decide) ⟨Nat.le_of_ble_eq_true rfl, Nat.le_of_ble_eq_true rfl⟩ dX7_init_31 (fun ad3 H had3 hO hS => ?_)
  rw [had3 50 (by omega)] at hl ⊢
  rw [had3 51 (by omega), had3 52 (by omega)] at hO
  refine m_put (ty := (.array (.array .int))) tyX7 tyX7_ok nmX7 inX7 hF hC hO hS ((mU_ne (by decide)).trans mU_self) rfl 5 (by decide) q_511 rfl (by decide +kernel) rfl rfl (fs' := [.int 0, .int 20, .int 0, .ref (ad3 51), .ref (ad3 52), .ref (ad3 57), .int 0, .int 0, .int 0]) (Nat.le_of_ble_eq_true rfl) rfl dX7_init_34 (fun H locs hO hS => ?_)
  have hO := in_fin (a50 := 0) (a51 := 0) had2 had3 hO
  refine m_nvret hF hr hlk hQ ⟨Nat.le_of_ble_eq_true rfl, Nat.le_of_ble_eq_true rfl⟩ hO hS dX7_init_37 ?_
  refine ⟨fun x hx9 => ?_, rfl⟩
  show ad x = ad3 x
  rw [had1 x (by omega), had2 x (by omega) (by omega), had3 x (by omega)]
