/-! ===== calls by contract: an own method by its receiver, a static one ===== -/
abbrev mHd (y : MethodName) (n : Nat) : Prop := y.cls ≠ "java/lang/invoke/MethodHandle" ∧ y.cls ≠ "java/lang/invoke/VarHandle" ∧ (parseMethodDescriptor y.desc).map (fun d => d.parameters.length) = some n
/-- an own method that is called by its receiver -/
def mOK (C : String) (y : MethodName) (bytes : ByteArray) (maxL : Nat) (rt : Option FieldType) (n : Nat) : Prop :=
  (.instanceMethod y : Cond) ∈ lw_all ∧ (.selects C y y : Cond) ∈ lw_all ∧ (.initialized y.cls : Cond) ∈ lw_all ∧ (.code y bytes maxL rt : Cond) ∈ lw_all ∧ mHd y n
/-- a static one -/
def mOS (y : MethodName) (bytes : ByteArray) (maxL : Nat) (rt : Option FieldType) (n : Nat) : Prop :=
  (.static y : Cond) ∈ lw_all ∧ (.initialized y.cls : Cond) ∈ lw_all ∧ (.code y bytes maxL rt : Cond) ∈ lw_all ∧ mHd y n
/-- a constructor -/
def mOC (y : MethodName) (bytes : ByteArray) (maxL : Nat) (n : Nat) : Prop :=
  (.instanceMethod y : Cond) ∈ lw_all ∧ (.initialized y.cls : Cond) ∈ lw_all ∧ (.code y bytes maxL none : Cond) ∈ lw_all ∧ mHd y n ∧ y.name = "<init>"
theorem lw_goodw {w : Cond} (h : w ∈ lw_all) : goodWord w = true := (List.mem_filter.mp h).2
theorem mWs_good {y : MethodName} {cc : ByteArray} {n : Nat} {rt : Option FieldType} (h : (.code y cc n rt : Cond) ∈ lw_all) : GoodIn lw_all (mWs y cc n rt) := fun w hw => by
  rcases List.mem_cons.mp hw with rfl | hw
  · exact ⟨h, good_of_word (lw_goodw h)⟩
  · exact ⟨hw, good_of_word (lw_goodw hw)⟩
section CALL
variable {p : Program} {l : Launch} {e : Env} {Rm : Room} {s : State} {m : MethodId} {args : Array Value} {below : List Frame} {meth : Method} {c : Code} {H : Heap} {locs : List Loc} {cells slots : Nat} {Q : State → Prop}
variable {cc bytes : ByteArray} {nL maxL pc n index fr lc : Nat} {ls : Array Slot} {rest st As : List Value} {G : mG} {lo : Nat} {sa : mSc} {ad : Nat → Nat} {R : mM} {own C : String} {y : MethodName} {rt : FieldType}
theorem mc_B (rm : Room) {ret : Option FieldType} (hF : mF p m c cc nL s args own) (h1 : (.initialized y.cls : Cond) ∈ lw_all) (h2 : (.code y bytes maxL ret : Cond) ∈ lw_all) (h3 : mHd y n) (hl : (.methodLink own index y : Cond) ∈ lw_all) (hR : rm.frames + 1 ≤ Rm.frames ∧ 8 + (maxL + 11) + rm.locals ≤ Rm.locals) :
    CallB Rm s args own index y bytes maxL ret (mWs y bytes maxL ret) rm rm.cells rm.slots n :=
  callB_of n hF.2.2.2.2 (mWs_good h2) rfl rfl rfl (hF.2.2.2.2 _ h1) (hF.2.2.2.2 _ hl) h3 hR
theorem mc_recv {q : vw_C} {ci r : Nat} {fs : List Value} (hC : mC G lo sa s s.heap) (hO : mO G lo ad R H) (hr : R r = some (.inr (ci, fs))) (hc : vwCl[ci]? = some q) : ∃ cell : Cell, H[ad r]? = some cell ∧ cell.vm.isStatics = false ∧ s.vm.findClass q.1 = some cell.cls :=
  va_recv hC.1 (hO.one hr) hc (q0 := 0) rfl
theorem mc_pre {av : List Value} (hC : mC G lo sa s s.heap) (hO : mO G lo ad R H) (hS : va_S (mA lo) s.heap H locs) : ∀ U : State, U.heap = H → s.WarmedH U.vm → mPc G lo sa ad R av av.toArray U :=
  fun U hU hW => ⟨rfl, hC.to hS hU hW, by rw [hU]; exact hO⟩
theorem m_vI {ret : FieldType} {post : Int32 → mM → Prop} {ci r : Nat} {fs : List Value} {q : vw_C} (hF : mF p m c cc nL s args own) (hC : mC G lo sa s s.heap) (hO : mO G lo ad R H) (hS : va_S (mA lo) s.heap H locs) (hM : mI l y bytes maxL ret fr lc G lo sa ad R (.ref (ad r) :: As) post) (ok : mOK q.1 y bytes maxL (some ret) n) (hl : (.methodLink own index y : Cond) ∈ lw_all)
    (hr : R r = some (.inr (ci, fs))) (hc : vwCl[ci]? = some q) (hR : fr + 1 ≤ Rm.frames ∧ 8 + (maxL + 11) + lc ≤ Rm.locals) (hn : As.length = n) (hsz : ls.size = nL) (hst : st = As.reverse ++ .ref (ad r) :: rest) (hw : (rest.map fun v => v.category).sum ≤ 8) (hcs : cells ≤ Rm.cells ∧ slots ≤ Rm.slots) (hdg : decode cc pc = .ok (.invokevirtual index, 3))
    (kk : ∀ (v : Int32) (R' : mM) (H1 : Heap) (locs1 : List Loc), post v R' → mO G lo ad R' H1 → va_S (mA lo) s.heap H1 locs1 → W p l e Rm s m args below meth c H1 locs1 cells slots Q (F0 m (pc + 3) ls (.int v :: rest))) : W p l e Rm s m args below meth c H locs cells slots Q (F0 m pc ls st) := by
  obtain ⟨w2, w3, w4, w5, hd⟩ := ok
  have hts := hF.2.2.2.2
  exact va_calli (A0 := mA lo) (va_runV (C := q.1) (b := ad r) (As := As) (rest := rest) hF hM ⟨mc_B (mRm fr lc) hF w4 w5 hd hl hR, hts _ w2, hts _ w3⟩ ⟨mPc_blind, mc_recv hC hO hr hc, mc_pre hC hO hS⟩ rfl hn hsz hst (lv_room hw) hdg hcs) hS (fun _ _ h => h) (fun _ h => h) (fun v R' t H1 locs1 ht hvm hp hB hz1 hk1 hS1 => kk v R' H1 locs1 hp (by rw [← ht]; exact hB) hS1)
theorem m_vL {post : Int64 → mM → Prop} {ci r : Nat} {fs : List Value} {q : vw_C} (hF : mF p m c cc nL s args own) (hC : mC G lo sa s s.heap) (hO : mO G lo ad R H) (hS : va_S (mA lo) s.heap H locs) (hM : mL l y bytes maxL fr lc G lo sa ad R (.ref (ad r) :: As) post) (ok : mOK q.1 y bytes maxL (some .long) n) (hl : (.methodLink own index y : Cond) ∈ lw_all)
    (hr : R r = some (.inr (ci, fs))) (hc : vwCl[ci]? = some q) (hR : fr + 1 ≤ Rm.frames ∧ 8 + (maxL + 11) + lc ≤ Rm.locals) (hn : As.length = n) (hsz : ls.size = nL) (hst : st = As.reverse ++ .ref (ad r) :: rest) (hw : (rest.map fun v => v.category).sum ≤ 8) (hcs : cells ≤ Rm.cells ∧ slots ≤ Rm.slots) (hdg : decode cc pc = .ok (.invokevirtual index, 3))
    (kk : ∀ (v : Int64) (R' : mM) (H1 : Heap) (locs1 : List Loc), post v R' → mO G lo ad R' H1 → va_S (mA lo) s.heap H1 locs1 → W p l e Rm s m args below meth c H1 locs1 cells slots Q (F0 m (pc + 3) ls (.long v :: rest))) : W p l e Rm s m args below meth c H locs cells slots Q (F0 m pc ls st) := by
  obtain ⟨w2, w3, w4, w5, hd⟩ := ok
  have hts := hF.2.2.2.2
  exact va_calll (A0 := mA lo) (va_runV (C := q.1) (b := ad r) (As := As) (rest := rest) hF hM ⟨mc_B (mRm fr lc) hF w4 w5 hd hl hR, hts _ w2, hts _ w3⟩ ⟨mPc_blind, mc_recv hC hO hr hc, mc_pre hC hO hS⟩ rfl hn hsz hst (lv_room hw) hdg hcs) hS (fun _ _ h => h) (fun _ h => h) (fun v R' t H1 locs1 ht hvm hp hB hz1 hk1 hS1 => kk v R' H1 locs1 hp (by rw [← ht]; exact hB) hS1)
theorem m_vV {post : mM → Prop} {ci r : Nat} {fs : List Value} {q : vw_C} (hF : mF p m c cc nL s args own) (hC : mC G lo sa s s.heap) (hO : mO G lo ad R H) (hS : va_S (mA lo) s.heap H locs) (hM : mV l y bytes maxL fr lc G lo sa ad R (.ref (ad r) :: As) post) (ok : mOK q.1 y bytes maxL none n) (hl : (.methodLink own index y : Cond) ∈ lw_all)
    (hr : R r = some (.inr (ci, fs))) (hc : vwCl[ci]? = some q) (hR : fr + 1 ≤ Rm.frames ∧ 8 + (maxL + 11) + lc ≤ Rm.locals) (hn : As.length = n) (hsz : ls.size = nL) (hst : st = As.reverse ++ .ref (ad r) :: rest) (hw : (rest.map fun v => v.category).sum ≤ 8) (hcs : cells ≤ Rm.cells ∧ slots ≤ Rm.slots) (hdg : decode cc pc = .ok (.invokevirtual index, 3))
    (kk : ∀ (R' : mM) (H1 : Heap) (locs1 : List Loc), post R' → mO G lo ad R' H1 → va_S (mA lo) s.heap H1 locs1 → W p l e Rm s m args below meth c H1 locs1 cells slots Q (F0 m (pc + 3) ls rest)) : W p l e Rm s m args below meth c H locs cells slots Q (F0 m pc ls st) := by
  obtain ⟨w2, w3, w4, w5, hd⟩ := ok
  have hts := hF.2.2.2.2
  exact va_callv (A0 := mA lo) (va_runV (C := q.1) (b := ad r) (As := As) (rest := rest) hF hM ⟨mc_B (mRm fr lc) hF w4 w5 hd hl hR, hts _ w2, hts _ w3⟩ ⟨mPc_blind, mc_recv hC hO hr hc, mc_pre hC hO hS⟩ rfl hn hsz hst (lv_room hw) hdg hcs) hS (fun _ _ h => h) (fun _ h => h) (fun R' t H1 locs1 ht hvm hp hB hz1 hk1 hS1 => kk R' H1 locs1 hp (by rw [← ht]; exact hB) hS1)
theorem m_sI {ret : FieldType} {post : Int32 → mM → Prop} (hF : mF p m c cc nL s args own) (hC : mC G lo sa s s.heap) (hO : mO G lo ad R H) (hS : va_S (mA lo) s.heap H locs) (hM : mI l y bytes maxL ret fr lc G lo sa ad R As post) (ok : mOS y bytes maxL (some ret) n) (hl : (.methodLink own index y : Cond) ∈ lw_all)
    (hR : fr + 1 ≤ Rm.frames ∧ 8 + (maxL + 11) + lc ≤ Rm.locals) (hn : As.length = n) (hsz : ls.size = nL) (hst : st = As.reverse ++ rest) (hw : (rest.map fun v => v.category).sum ≤ 8) (hcs : cells ≤ Rm.cells ∧ slots ≤ Rm.slots) (hdg : decode cc pc = .ok (.invokestatic index, 3))
    (kk : ∀ (v : Int32) (R' : mM) (H1 : Heap) (locs1 : List Loc), post v R' → mO G lo ad R' H1 → va_S (mA lo) s.heap H1 locs1 → W p l e Rm s m args below meth c H1 locs1 cells slots Q (F0 m (pc + 3) ls (.int v :: rest))) : W p l e Rm s m args below meth c H locs cells slots Q (F0 m pc ls st) := by
  obtain ⟨w2, w4, w5, hd⟩ := ok
  have hts := hF.2.2.2.2
  exact va_calli (A0 := mA lo) (va_runS (As := As) (rest := rest) hF hM ⟨mc_B (mRm fr lc) hF w4 w5 hd hl hR, hts _ w2⟩ ⟨mPc_blind, mc_pre hC hO hS⟩ rfl hn hsz hst (lv_room hw) hdg hcs) hS (fun _ _ h => h) (fun _ h => h) (fun v R' t H1 locs1 ht hvm hp hB hz1 hk1 hS1 => kk v R' H1 locs1 hp (by rw [← ht]; exact hB) hS1)
/-- the private static method of the nest: Store.hasShelf calls CandleDip.within -/
theorem m_nI {ret : FieldType} {post : Int32 → mM → Prop} (hF : mF p m c cc nL s args RX2) (hC : mC G lo sa s s.heap) (hO : mO G lo ad R H) (hS : va_S (mA lo) s.heap H locs) (hM : mI l yX5_within bytes maxL ret fr lc G lo sa ad R As post) (ok : mOS yX5_within bytes maxL (some ret) n)
    (hR : fr + 1 ≤ Rm.frames ∧ 8 + (maxL + 11) + lc ≤ Rm.locals) (hn : As.length = n) (hsz : ls.size = nL) (hst : st = As.reverse ++ rest) (hw : (rest.map fun v => v.category).sum ≤ 8) (hcs : cells ≤ Rm.cells ∧ slots ≤ Rm.slots) (hdg : decode cc pc = .ok (.invokestatic 15, 3))
    (kk : ∀ (v : Int32) (R' : mM) (H1 : Heap) (locs1 : List Loc), post v R' → mO G lo ad R' H1 → va_S (mA lo) s.heap H1 locs1 → W p l e Rm s m args below meth c H1 locs1 cells slots Q (F0 m (pc + 3) ls (.int v :: rest))) : W p l e Rm s m args below meth c H locs cells slots Q (F0 m pc ls st) := by
  obtain ⟨w2, w4, w5, hd⟩ := ok
  have hts := hF.2.2.2.2
  have hcn : va_CN Rm s args RX2 15 yX5_within RX5 bytes maxL (some ret) (mWs yX5_within bytes maxL (some ret)) (mRm fr lc) 0 0 n :=
    va_cnB n hts (mWs_good w5) rfl rfl rfl hC.2.2.2.1.2.2.2.2 (hts _ w4) hd hR
  exact va_calli (A0 := mA lo) (va_runSN (As := As) (rest := rest) hF hM ⟨hcn, hts _ w2, trivial⟩ ⟨mPc_blind, mc_pre hC hO hS⟩ rfl hn hsz hst (lv_room hw) hdg hcs) hS (fun _ _ h => h) (fun _ h => h) (fun v R' t H1 locs1 ht hvm hp hB hz1 hk1 hS1 => kk v R' H1 locs1 hp (by rw [← ht]; exact hB) hS1)
/-! Math.min, Math.max -/
def jmin (x y : Int32) : Int32 := if y < x then y else x
def jmax (x y : Int32) : Int32 := if x < y then y else x
theorem m_min (hF : mF p m c cc nL s args own) (hsz : ls.size = nL) (hl : (.methodLink own index Lib.Math.min.name : Cond) ∈ lw_all) (w1 : (.static Lib.Math.min.name : Cond) ∈ lw_all) (w2 : (.initialized "java/lang/Math" : Cond) ∈ lw_all) (w3 : (.code Lib.Math.min.name Lib.Math.min.code 2 (some .int) : Cond) ∈ lw_all)
    (hframes : 1 ≤ Rm.frames) (hlocals : (rest.map fun v => v.category).sum + 13 ≤ Rm.locals) (hcs : cells ≤ Rm.cells ∧ slots ≤ Rm.slots) {x y : Int32} (hdg : decode cc pc = .ok (.invokestatic index, 3))
    (kk : W p l e Rm s m args below meth c H locs cells slots Q (F0 m (pc + 3) ls (.int (jmin x y) :: rest))) : W p l e Rm s m args below meth c H locs cells slots Q (F0 m pc ls (.int y :: .int x :: rest)) :=
  va_mmin hF.1 hF.2.1 (hF.2.2.1.trans hsz.symm) hF.2.2.2.1 (hF.2.2.2.2 _ hl) (hF.2.2.2.2 _ w1) (hF.2.2.2.2 _ w2) (hF.2.2.2.2 _ w3) hframes hlocals hcs.1 hcs.2 hdg kk
theorem m_max (hF : mF p m c cc nL s args own) (hsz : ls.size = nL) (hl : (.methodLink own index Lib.Math.max.name : Cond) ∈ lw_all) (w1 : (.static Lib.Math.max.name : Cond) ∈ lw_all) (w2 : (.initialized "java/lang/Math" : Cond) ∈ lw_all) (w3 : (.code Lib.Math.max.name Lib.Math.max.code 2 (some .int) : Cond) ∈ lw_all)
    (hframes : 1 ≤ Rm.frames) (hlocals : (rest.map fun v => v.category).sum + 13 ≤ Rm.locals) (hcs : cells ≤ Rm.cells ∧ slots ≤ Rm.slots) {x y : Int32} (hdg : decode cc pc = .ok (.invokestatic index, 3))
    (kk : W p l e Rm s m args below meth c H locs cells slots Q (F0 m (pc + 3) ls (.int (jmax x y) :: rest))) : W p l e Rm s m args below meth c H locs cells slots Q (F0 m pc ls (.int y :: .int x :: rest)) :=
  va_mmax hF.1 hF.2.1 (hF.2.2.1.trans hsz.symm) hF.2.2.2.1 (hF.2.2.2.2 _ hl) (hF.2.2.2.2 _ w1) (hF.2.2.2.2 _ w2) (hF.2.2.2.2 _ w3) hframes hlocals hcs.1 hcs.2 hdg kk
end CALL
