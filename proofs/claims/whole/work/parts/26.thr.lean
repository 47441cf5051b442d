/-! ===== a call that always throws: what it throws, and that nothing of the memory is changed ===== -/
abbrev xQ (thr : String → Prop) (G : mG) (lo : Nat) (ad : Nat → Nat) (R : mM) : String → State → State → Prop := vx_X (fun _ : Unit => True) (fun (E : String) (_ : Unit) (t : State) => thr E ∧ mO G lo ad R t.heap) (mA lo)
abbrev xRm (fr lc : Nat) : Room := { frames := fr, cells := 1, slots := 6, locals := lc }
abbrev xNo : Array Value → State → Outcome → State → Prop := fun _ _ _ _ => False
def mT (l : Launch) (y : MethodName) (cc : ByteArray) (n : Nat) (rt : FieldType) (fr lc : Nat) (G : mG) (lo : Nat) (sa ad : Nat → Nat) (R : mM) (av : List Value) (thr : String → Prop) : Prop :=
  vx_Met l y (mWs y cc n (some rt)) (xRm fr lc) (mPc G lo sa ad R av) xNo (xQ thr G lo ad R) 1 6 (mA lo)
/-- what a throw of the class needs of the tables -/
def mTh (cls : String) (ik ic : Nat) : Prop :=
  Bundle.fit cls = true ∧ (∀ w ∈ Cond.classLink RX5 ik cls :: Cond.initialized cls :: vx_atS RX5 ic cls mNM, vx_ot w = true) ∧ (.classLink RX5 ik cls : Cond) ∈ lw_all ∧ (.initialized cls : Cond) ∈ lw_all ∧
  (∀ w ∈ (vx_atS RX5 ic cls mNM).filter goodWord, w ∈ lw_all) ∧ (∀ w ∈ (vx_atS RX5 ic cls mNM).filter (fun w => !goodWord w), w ∈ Cond.castable cls cls :: mDec.map Cond.declares) ∧ (cls = mXA ∨ cls = mXS ∨ cls = mXO)
theorem thA : mTh mXA 50 54 := ⟨by decide +kernel, by decide +kernel, q_361, q_10, lw_x_iae, lw_n_iae, Or.inl rfl⟩
theorem thS : mTh mXS 61 65 := ⟨by decide +kernel, by decide +kernel, q_377, q_11, lw_x_ise, lw_n_ise, Or.inr (Or.inl rfl)⟩
theorem thO : mTh mXO 82 86 := ⟨by decide +kernel, by decide +kernel, q_241, q_12, lw_x_ioo, lw_n_ioo, Or.inr (Or.inr rfl)⟩
section THR
variable {p : Program} {l : Launch} {e : Env} {Rm : Room} {s : State} {m : MethodId} {args : Array Value} {below : List Frame} {meth : Method} {c : Code} {H : Heap} {locs : List Loc} {Q : State → Prop} {cells slots : Nat}
variable {cc bytes : ByteArray} {nL maxL pc n index fr lc is ik ic : Nat} {ls : Array Slot} {rest st As : List Value} {G : mG} {lo : Nat} {sa ad : Nat → Nat} {R : mM} {own cls text : String} {y : MethodName} {thr thr' : String → Prop}
theorem mT_of {y : MethodName} {rt : FieldType} {fr lc : Nat} {av : List Value} (hy : plainName y.cls = true) (hlen : (lg_sl av).length ≤ nL)
    (body : ∀ (p : Program) (e : Env) (s : State) (m : MethodId) (args : Array Value) (below : List Frame) (meth : Method) (c : Code), mF p m c cc nL s args y.cls → (∀ x ∈ c.exceptionTable.toList, False) → meth.locks = false → mC G lo sa s s.heap →
      ∀ ls : Array Slot, lv_has ls nL (lv_args 0 av) → mO G lo ad R s.heap → va_S (mA lo) s.heap s.heap [] →
      ∀ Q : State → Prop, Q = vx_MQ below xNo (xQ thr G lo ad R) args s 1 6 (mA lo) → W p l e (xRm fr lc) s m args below meth c s.heap [] 0 0 Q (F0 m 0 ls [])) : mT l y cc nL rt fr lc G lo sa ad R av thr := by
  refine vx_ofW (cc := cc) (maxL := nL) (ret := some rt) hy rfl ?_
  intro p e s m args below meth c s₁ B hml ht hv
  obtain ⟨rfl, hC, hO⟩ := hv
  have hts := atoms_spec (ws := mWs y cc nL (some rt)) B.pre
  rw [lg_entry_eq]
  exact body p e s m _ below meth c ⟨B.exec, B.bytes, hml, findClass_of_methodNamed B.named, fun w h => hts w (List.mem_cons_of_mem _ h)⟩ ht B.notSynchronized hC _ (lv_entry av hlen) hO va_S.rf _ rfl
theorem th_hat (T : mTh cls ik ic) (hts : ∀ w ∈ lw_all, w.before args s = true) (hC : mC G lo sa s s.heap) : ∀ w ∈ vx_atS RX5 ic cls mNM, w.before args s = true := by
  obtain ⟨-, -, -, -, t5, t6, t7⟩ := T
  obtain ⟨-, -, ⟨a1, a2, a3, a4⟩, -⟩ := hC
  refine vx_hat (B := Cond.castable cls cls :: mDec.map Cond.declares) (fun w h => hts w (t5 w h)) t6 ?_
  refine vx_c ?_ ?_
  · rcases t7 with rfl | rfl | rfl
    · exact va_Nw.use rfl a1
    · exact va_Nw.use rfl a2
    · exact va_Nw.use rfl a3
  · intro w hw
    obtain ⟨x, hx, rfl⟩ := List.mem_map.mp hw
    exact va_Nw.use rfl (a4 x hx)
theorem m_thr (hF : mF p m c cc nL s args RX5) (ht : ∀ x ∈ c.exceptionTable.toList, False) (hlk : meth.locks = false) (hC : mC G lo sa s s.heap) (hO : mO G lo ad R H) (hS : va_S (mA lo) s.heap H locs) (hQ : Q = vx_MQ below xNo (xQ thr G lo ad R) args s 1 6 (mA lo)) (hfl : l.stackTraces = false)
    (T : mTh cls ik ic) (htx : (is, text) ∈ mStr) (hR : 2 + 3 < Rm.frames ∧ 8 + 82 ≤ Rm.locals ∧ 1 ≤ Rm.cells ∧ 6 ≤ Rm.slots) (hrest : (rest.map fun v => v.category).sum ≤ 8) (hsz : ls.size = nL)
    (d0 : decode cc pc = .ok (.new ik, 3)) (d3 : decode cc (pc + 3) = .ok (.dup, 1)) (d4 : decode cc (pc + 4) = .ok (.ldc is, 2)) (d6 : decode cc (pc + 6) = .ok (.invokespecial ic, 3)) (d9 : decode cc (pc + 9) = .ok (.athrow, 1)) (hp : thr cls) :
    W p l e Rm s m args below meth c H locs 0 0 Q (F0 m pc ls rest) := by
  subst hQ
  have hat := th_hat T hF.2.2.2.2 hC
  obtain ⟨t1, t2, t3, t4, -, -, -⟩ := T
  exact vx_throwS (sa := sa is) (A := mA lo) hF.1 hF.2.1 hfl hF.2.2.2.1 t1 (by decide +kernel) (hF.2.2.2.2 _ t3) (hF.2.2.2.2 _ t4) (hC.2.2.2.2.2.1 _ htx) hat t2 hC.2.1.1 hC.2.1.2 hS (hsz.trans hF.2.2.1.symm) d0 d3 d4 d6 d9
    (fun x hx => (ht x hx).elim) hR.1 (by have := hR.2.1; show _ + 82 ≤ _; omega) (by have := hR.2.2.1; omega) (by have := hR.2.2.2; omega) hlk
    (fun t _ h1 h2 => ⟨(), trivial, ⟨hp, hO.kept h2⟩, Nat.le_trans hS.1 h1, fun q hq hA => (h2 q (Nat.lt_of_lt_of_le hq hS.1)).trans (hS.2.1 q hq hA)⟩) hS.2.2 (by decide) (by decide)
theorem m_thrW (hF : mF p m c cc nL s args RX5) (ht : ∀ x ∈ c.exceptionTable.toList, False) (hlk : meth.locks = false) (hC : mC G lo sa s s.heap) (hO : mO G lo ad R H) (hS : va_S (mA lo) s.heap H locs) (hQ : Q = vx_MQ below xNo (xQ thr G lo ad R) args s 1 6 (mA lo)) (hfl : l.stackTraces = false)
    (T : mTh cls ik ic) (htx : (is, text) ∈ mStr) (hR : 2 + 3 < Rm.frames ∧ 8 + 82 ≤ Rm.locals ∧ 1 ≤ Rm.cells ∧ 6 ≤ Rm.slots) (hrest : (rest.map fun v => v.category).sum ≤ 8) (hsz : ls.size = nL)
    (d0 : decode cc pc = .ok (.new ik, 3)) (d3 : decode cc (pc + 3) = .ok (.dup, 1)) (d4 : decode cc (pc + 4) = .ok (.ldc_w is, 3)) (d7 : decode cc (pc + 7) = .ok (.invokespecial ic, 3)) (d10 : decode cc (pc + 10) = .ok (.athrow, 1)) (hp : thr cls) :
    W p l e Rm s m args below meth c H locs 0 0 Q (F0 m pc ls rest) := by
  subst hQ
  have hat := th_hat T hF.2.2.2.2 hC
  obtain ⟨t1, t2, t3, t4, -, -, -⟩ := T
  exact vx_throwSW (sa := sa is) (A := mA lo) hF.1 hF.2.1 hfl hF.2.2.2.1 t1 (by decide +kernel) (hF.2.2.2.2 _ t3) (hF.2.2.2.2 _ t4) (hC.2.2.2.2.2.1 _ htx) hat t2 hC.2.1.1 hC.2.1.2 hS (hsz.trans hF.2.2.1.symm) d0 d3 d4 d7 d10
    (fun x hx => (ht x hx).elim) hR.1 (by have := hR.2.1; show _ + 82 ≤ _; omega) (by have := hR.2.2.1; omega) (by have := hR.2.2.2; omega) hlk
    (fun t _ h1 h2 => ⟨(), trivial, ⟨hp, hO.kept h2⟩, Nat.le_trans hS.1 h1, fun q hq hA => (h2 q (Nat.lt_of_lt_of_le hq hS.1)).trans (hS.2.1 q hq hA)⟩) hS.2.2 (by decide) (by decide)
/-- a call that throws, as this frame sees it -/
theorem m_vX {ret : FieldType} {ci r : Nat} {fs : List Value} {q : vw_C} (hF : mF p m c cc nL s args own) (hC : mC G lo sa s s.heap) (hO : mO G lo ad R H) (hS : va_S (mA lo) s.heap H locs) (hM : mT l y bytes maxL ret fr lc G lo sa ad R (.ref (ad r) :: As) thr') (ok : mOK q.1 y bytes maxL (some ret) n) (hl : (.methodLink own index y : Cond) ∈ lw_all)
    (hr : R r = some (.inr (ci, fs))) (hc : vwCl[ci]? = some q) (hR : fr + 1 ≤ Rm.frames ∧ 8 + (maxL + 11) + lc ≤ Rm.locals) (hn : As.length = n) (hsz : ls.size = nL) (hst : st = As.reverse ++ .ref (ad r) :: rest) (hw : (rest.map fun v => v.category).sum ≤ 8) (hcs : cells + 1 ≤ Rm.cells ∧ slots + 6 ≤ Rm.slots) (hdg : decode cc pc = .ok (.invokevirtual index, 3))
    (kx : ∀ (E : String) (ce : Cell) (q9 : Addr) (H1 : Heap) (locs1 : List Loc), thr' E → mO G lo ad R H1 → va_S (mA lo) s.heap H1 locs1 → H1[q9]? = some ce → ce.vm = .none → s.vm.findClass E = some ce.cls → vx_W p l e Rm s m args below meth c H1 locs1 (cells + 1) (slots + 6) Q (F0 m pc ls rest) q9) : W p l e Rm s m args below meth c H locs cells slots Q (F0 m pc ls st) := by
  obtain ⟨w2, w3, w4, w5, hd⟩ := ok
  have hts := hF.2.2.2.2
  intro T hT X
  rcases vx_runV (C := q.1) (b := ad r) (As := As) (rest := rest) (g := F0 m pc ls st) hF hM ⟨mc_B (xRm fr lc) hF w4 w5 hd hl hR, hts _ w2, hts _ w3⟩ ⟨mPc_blind, mc_recv hC hO hr hc, mc_pre hC hO hS⟩ rfl hn hsz hst (lv_room hw) hdg hcs T hT X with ⟨v, st₀, t, T', L, h0, X', hL, e1, e2, hno, st⟩ | ⟨q9, st₀, t, T', L, E, ce, h0, X', hL, e1, e2, ⟨u, -, ⟨hthr, hB⟩, hFF⟩, hce, hcv, hcl, st9⟩
  · exact hno.elim
  · obtain ⟨k1, k2, k3⟩ := vx_keep h0 e1 hS (fun _ _ h => h) (fun _ h => h) hL hFF
    obtain ⟨t2, a1, b1⟩ := kx E ce q9 T'.heap (locs ++ L) hthr (by rw [e1]; exact hB) k3 (by rw [e1]; exact hce) hcv hcl T' rfl X'
    exact ⟨t2, st9.trans a1, b1⟩
/-- .. and it isn't caught: it goes on -/
theorem m_vXo {ret : FieldType} {ci r : Nat} {fs : List Value} {q : vw_C} (hF : mF p m c cc nL s args own) (ht : ∀ x ∈ c.exceptionTable.toList, False) (hlk : meth.locks = false) (hC : mC G lo sa s s.heap) (hO : mO G lo ad R H) (hS : va_S (mA lo) s.heap H locs) (hQ : Q = vx_MQ below xNo (xQ thr G lo ad R) args s 1 6 (mA lo))
    (hM : mT l y bytes maxL ret fr lc G lo sa ad R (.ref (ad r) :: As) thr') (ok : mOK q.1 y bytes maxL (some ret) n) (hl : (.methodLink own index y : Cond) ∈ lw_all)
    (hr : R r = some (.inr (ci, fs))) (hc : vwCl[ci]? = some q) (hR : fr + 1 ≤ Rm.frames ∧ 8 + (maxL + 11) + lc ≤ Rm.locals) (hn : As.length = n) (hsz : ls.size = nL) (hst : st = As.reverse ++ .ref (ad r) :: rest) (hw : (rest.map fun v => v.category).sum ≤ 8) (hcs : 0 + 1 ≤ Rm.cells ∧ 0 + 6 ≤ Rm.slots) (hdg : decode cc pc = .ok (.invokevirtual index, 3))
    (hp : ∀ E, thr' E → thr E) : W p l e Rm s m args below meth c H locs 0 0 Q (F0 m pc ls st) := by
  subst hQ
  exact m_vX (rest := rest) hF hC hO hS hM ok hl hr hc hR hn hsz hst hw hcs hdg (fun E ce q9 H1 locs1 hE hO1 hS1 hce hcv hcl =>
    vx_out (fun x hx => (ht x hx).elim) hlk hce hcv hcl (fun t hth _ => ⟨(), trivial, ⟨hp E hE, by rw [hth]; exact hO1⟩, hS1.F hth⟩) hS1.2.2 (by decide) (by decide))
end THR
