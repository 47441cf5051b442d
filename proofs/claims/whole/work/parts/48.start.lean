/-! ===== what holds at the law's entry ===== -/
theorem st_str {args : Array Value} {s : State} (hts : ∀ w ∈ lw_tbl, w.before args s = true) : ∃ sa : Nat → Nat, ∀ q ∈ mStr, vk_R RX5 q.1 q.2 (sa q.1) s := by
  have hin : ∀ q ∈ mStr, Cond.stringRef RX5 q.1 q.2 ∈ lw_tbl := by decide +kernel
  have h : ∀ k : Nat, ∃ a : Nat, (∃ tx, (k, tx) ∈ mStr) → (Term.string RX5 k).eval args s none [] s = some (.ref a) := fun k => by
    by_cases hk : ∃ tx, (k, tx) ∈ mStr
    · obtain ⟨tx, htx⟩ := hk
      have hw := hts _ (hin _ htx)
      have hcur : ∃ cur, s.vm.findClass RX5 = some cur := by
        have h1 := hw
        simp only [Cond.before, Cond.holds, Cond.value] at h1
        cases hc : s.vm.findClass RX5 with
        | none => simp [hc] at h1
        | some cur => exact ⟨cur, rfl⟩
      obtain ⟨cur, hcur⟩ := hcur
      obtain ⟨_, _, _, a, _, _, _, _, _, he⟩ := Cond.stringRef_spec hcur hw
      exact ⟨a, fun _ => he⟩
    · exact ⟨0, fun q => absurd q hk⟩
  obtain ⟨sa, hsa⟩ := Classical.axiomOfChoice h
  exact ⟨sa, fun q hq => vk_R.of (hts _ (hin q hq)) (hsa q.1 ⟨q.2, hq⟩)⟩
theorem st_arr {args : Array Value} {s : State} {ty : FieldType} (h : (Cond.arrayClass ty).before args s = true) : ∃ cA : ClassId, ArrOfT s cA ty ∧ s.vm.findClass ("[" ++ ty.toString) = some cA := by
  obtain ⟨c, k, comp, h1, h2, h3⟩ := Cond.arrayClass_spec h
  exact ⟨c, fun n z => ⟨fun k h => (by cases h), k, h2, comp, h3⟩, h1⟩
theorem st_arrO {s : State} {C : String} (h : va_AO C s) : ∃ cA : ClassId, ArrOfT s cA (.object C) ∧ va_RA s cA (.object C) := by
  obtain ⟨comp, c, k, h1, h2, h3, h4, h5⟩ := Cond.arrayOver_spec h
  exact ⟨c, fun n z => ⟨fun k h => (by cases h), k, h3, comp, h4⟩, k, comp, h3, h4, h1, h5⟩
theorem st_K {args : Array Value} {s : State} (hts : ∀ w ∈ lw_tbl, w.before args s = true) : ∃ G : mG, va_K G.1 vwCl (mTy G) s := by
  have hta : ∀ w ∈ lw_all, w.before args s = true := fun w hw => hts w (List.mem_filter.mp hw).1
  obtain ⟨c0, i0, k0⟩ := u_known (T := TX0) (N := 7) hta inX0 (hta _ q_67)
  obtain ⟨c1, i1, k1⟩ := u_known (T := TX1) (N := 5) hta inX1 (hta _ q_537)
  obtain ⟨c2, i2, k2⟩ := u_known (T := TX2) (N := 1) hta inX2 (hta _ q_48)
  obtain ⟨c3, i3, k3⟩ := u_known (T := TX3) (N := 2) hta inX3 (hta _ q_61)
  obtain ⟨c4, i4, k4⟩ := u_known (T := TX4) (N := 3) hta inX4 (hta _ q_25)
  obtain ⟨c5, i5, k5⟩ := u_known (T := TX5) (N := 9) hta inX5 (hta _ q_17)
  obtain ⟨c6, i6, k6⟩ := u_known (T := TX6) (N := 14) hta inX6 (hta _ q_657)
  obtain ⟨a0, x0, y0⟩ := st_arr (hta _ q_57)
  obtain ⟨a1, x1, y1⟩ := st_arr (hta _ q_915)
  obtain ⟨a2, x2, y2⟩ := st_arr (hta _ q_705)
  obtain ⟨a3, x3, y3⟩ := st_arrO (C := RX0) (va_AO.of (hts (.arrayOver (.object RX0)) (by decide +kernel)))
  obtain ⟨a4, x4, y4⟩ := st_arrO (C := RX1) (va_AO.of (hts (.arrayOver (.object RX1)) (by decide +kernel)))
  refine ⟨(((fun k => match k with | 0 => c0 | 1 => c1 | 2 => c2 | 3 => c3 | 4 => c4 | 5 => c5 | _ => c6), (fun k => match k with | 0 => i0 | 1 => i1 | 2 => i2 | 3 => i3 | 4 => i4 | 5 => i5 | _ => i6)), (fun k => match k with | 0 => a0 | 1 => a1 | 2 => a2 | 3 => a3 | _ => a4)), fun c q hq => ?_, fun k q hq => ?_⟩
  · match c, hq with
    | 0, hq => cases hq; exact k0
    | 1, hq => cases hq; exact k1
    | 2, hq => cases hq; exact k2
    | 3, hq => cases hq; exact k3
    | 4, hq => cases hq; exact k4
    | 5, hq => cases hq; exact k5
    | 6, hq => cases hq; exact k6
    | _ + 7, hq => cases hq
  · match k, hq with
    | 0, hq => cases hq; exact ⟨x0, y0⟩
    | 1, hq => cases hq; exact ⟨x1, y1⟩
    | 2, hq => cases hq; exact ⟨x2, y2⟩
    | 3, hq => cases hq; exact ⟨x3, y3⟩
    | 4, hq => cases hq; exact ⟨x4, y4⟩
    | _ + 5, hq => cases hq
theorem st_C {b : Nat} {s : State} (hts : ∀ w ∈ lw_tbl, w.before #[Value.ref b] s = true) (hgv : (Jvm.Cond.and given_1 narrow_1).before #[Value.ref b] s = true) : ∃ (G : mG) (sa : Nat → Nat), mC G s.heap.size sa s s.heap := by
  obtain ⟨G, hK⟩ := st_K hts
  obtain ⟨sa, hsa⟩ := st_str hts
  have hf := flat_of_before _ hgv
  have hA : ∀ a : Nat, a < s.heap.size → ¬ mA s.heap.size a := fun a ha => Nat.not_le.mpr ha
  have tb : ∀ w, w ∈ lw_tbl → w.onTables = true → va_Nw w s := fun w hw ho => va_Nw.of ho (hts w hw)
  refine ⟨G, sa, hK, ⟨vx_Zqof (hts _ (by decide +kernel)) (hts _ (by decide +kernel)) (hf _ (by decide +kernel)) hA, vx_Zqof (hts _ (by decide +kernel)) (hts _ (by decide +kernel)) (hf _ (by decide +kernel)) hA⟩,
    ⟨tb _ (by decide +kernel) rfl, tb _ (by decide +kernel) rfl, tb _ (by decide +kernel) rfl, fun x hx => tb _ ((by decide +kernel : ∀ x ∈ mDec, Cond.declares x ∈ lw_tbl) x hx) rfl⟩,
    ⟨tb _ (by decide +kernel) rfl, tb _ (by decide +kernel) rfl, tb _ (by decide +kernel) rfl, tb _ (by decide +kernel) rfl, tb _ (by decide +kernel) rfl⟩,
    ⟨va_Nc.of (hf _ (by decide +kernel)), va_Nc.of (hf _ (by decide +kernel)), va_Nc.of (hf _ (by decide +kernel)), va_Nc.of (hf _ (by decide +kernel)), va_Nc.of (hf _ (by decide +kernel)), va_Nc.of (hf _ (by decide +kernel))⟩,
    hsa, Nat.le_refl _, va_AO.of (hts (.arrayOver (.object RX0)) (by decide +kernel)), va_AO.of (hts (.arrayOver (.object RX1)) (by decide +kernel))⟩
