/-! ===== a memory by roles: R says what stands at a role, ad where the role lies; every contract speaks of a whole memory ===== -/
abbrev mG : Type := va_G × (Nat → ClassId)
abbrev mM : Type := Nat → Option va_E
abbrev mTy (G : mG) : List (ClassId × FieldType) := [(G.2 0, .int), (G.2 1, .array .int), (G.2 2, .object RX6), (G.2 3, .object RX0), (G.2 4, .object RX1)]
abbrev mA (lo : Nat) : Nat → Prop := fun q => lo ≤ q
def mU (R : mM) (r : Nat) (e : va_E) : mM := fun q => if q = r then some e else R q
theorem mU_self {R : mM} {r : Nat} {e : va_E} : mU R r e r = some e := by simp [mU]
theorem mU_ne {R : mM} {r q : Nat} {e : va_E} (h : q ≠ r) : mU R r e q = R q := by simp [mU, h]
theorem mU_mU {R : mM} {r : Nat} {e e' : va_E} : mU (mU R r e) r e' = mU R r e' := by
  funext q
  by_cases h : q = r <;> simp [mU, h]
theorem mU_id {R : mM} {r : Nat} {e : va_E} (h : R r = some e) : mU R r e = R := by
  funext q
  by_cases hq : q = r
  · subst hq; rw [mU_self, h]
  · exact mU_ne hq
def mO (G : mG) (lo : Nat) (ad : Nat → Nat) (R : mM) (H : Heap) : Prop :=
  (∀ (r : Nat) (e : va_E), R r = some e → va_at G.1 vwCl (ad r, e) H) ∧ (∀ (r : Nat) (e : va_E), R r = some e → lo ≤ ad r) ∧ ∀ (r r' : Nat) (e e' : va_E), R r = some e → R r' = some e' → ad r = ad r' → r = r'
theorem mO.one {G : mG} {lo : Nat} {ad : Nat → Nat} {R : mM} {H : Heap} (h : mO G lo ad R H) {r : Nat} {e : va_E} (hr : R r = some e) : va_P G.1 vwCl [(ad r, e)] H := by
  intro k q hk
  cases k with
  | zero => cases hk; exact h.1 r e hr
  | succ k => simp at hk
theorem mO.lt {G : mG} {lo : Nat} {ad : Nat → Nat} {R : mM} {H : Heap} (h : mO G lo ad R H) {r : Nat} {e : va_E} (hr : R r = some e) : ad r < H.size := (h.1 r e hr).lt
theorem mO.set {G : mG} {lo : Nat} {ad : Nat → Nat} {R : mM} {H H1 : Heap} (h : mO G lo ad R H) {r : Nat} {e0 e : va_E} (hr : R r = some e0) (he : va_at G.1 vwCl (ad r, e) H1) (oq : ∀ q : Nat, q ≠ ad r → H1[q]? = H[q]?) : mO G lo ad (mU R r e) H1 := by
  have k : ∀ (q : Nat) (x : va_E), mU R r e q = some x → ∃ x0, R q = some x0 := by
    intro q x hq
    by_cases hqr : q = r
    · subst hqr; exact ⟨_, hr⟩
    · rw [mU_ne hqr] at hq; exact ⟨_, hq⟩
  refine ⟨fun q x hq => ?_, fun q x hq => ?_, fun q q' x x' h1 h2 h3 => ?_⟩
  · by_cases hqr : q = r
    · subst hqr; rw [mU_self] at hq; cases hq; exact he
    · rw [mU_ne hqr] at hq
      exact (h.1 q x hq).kept (oq _ (fun z => hqr (h.2.2 q r x e0 hq hr z)))
  · obtain ⟨y, hy⟩ := k _ _ hq
    exact h.2.1 _ _ hy
  · obtain ⟨y, hy⟩ := k _ _ h1
    obtain ⟨y', hy'⟩ := k _ _ h2
    exact h.2.2 _ _ _ _ hy hy' h3
theorem mO.kept {G : mG} {lo : Nat} {ad : Nat → Nat} {R : mM} {H H1 : Heap} (h : mO G lo ad R H) (oq : ∀ q : Nat, q < H.size → H1[q]? = H[q]?) : mO G lo ad R H1 :=
  ⟨fun q x hq => (h.1 q x hq).kept (oq _ (h.lt hq)), h.2.1, h.2.2⟩
theorem mO.push {G : mG} {lo : Nat} {ad : Nat → Nat} {R : mM} {H H1 : Heap} (h : mO G lo ad R H) {r q : Nat} {e : va_E} (hr : R r = none) (hq : q = H.size) (hlo : lo ≤ H.size) (he : va_at G.1 vwCl (q, e) H1) (oq : ∀ x : Nat, x < H.size → H1[x]? = H[x]?) : mO G lo (va_up ad r q) (mU R r e) H1 := by
  have k : ∀ (z : Nat) (x : va_E), mU R r e z = some x → (z = r ∧ x = e) ∨ (z ≠ r ∧ R z = some x) := by
    intro z x hz
    by_cases hzr : z = r
    · subst hzr; rw [mU_self] at hz; cases hz; exact Or.inl ⟨rfl, rfl⟩
    · rw [mU_ne hzr] at hz; exact Or.inr ⟨hzr, hz⟩
  have a1 : va_up ad r q r = q := by simp [va_up]
  have a2 : ∀ z, z ≠ r → va_up ad r q z = ad z := fun z hz => by simp [va_up, hz]
  refine ⟨fun z x hz => ?_, fun z x hz => ?_, fun z z' x x' h1 h2 h3 => ?_⟩
  · rcases k z x hz with ⟨rfl, rfl⟩ | ⟨hne, hz⟩
    · rw [a1]; exact he
    · rw [a2 z hne]; exact (h.1 z x hz).kept (oq _ (h.lt hz))
  · rcases k z x hz with ⟨rfl, rfl⟩ | ⟨hne, hz⟩
    · rw [a1, hq]; exact hlo
    · rw [a2 z hne]; exact h.2.1 _ _ hz
  · rcases k z x h1 with ⟨rfl, rfl⟩ | ⟨hne, hz⟩ <;> rcases k z' x' h2 with ⟨rfl, rfl⟩ | ⟨hne', hz'⟩
    · rfl
    · rw [a1, a2 z' hne', hq] at h3
      have := h.lt hz'
      omega
    · rw [a1, a2 z hne, hq] at h3
      have := h.lt hz
      omega
    · rw [a2 z hne, a2 z' hne'] at h3
      exact h.2.2 _ _ _ _ hz hz' h3
/-! ===== what stays the same over a run: the tables, the two statics, the texts, who can be cast ===== -/
/-! ===== what stays the same over a run: the tables, the script, the links of the nests ===== -/
abbrev mSc : Type := Nat × Nat × (Nat → Int32)
def mAA (t : FieldType) (U : State) : Prop := (Cond.arrayOver (.array t)).before #[] U = true
theorem mAA.moved {t : FieldType} {u U : State} (h : u.vm.Alike U.vm) (q : mAA t u) : mAA t U := over_moved (a := #[]) (a' := #[]) h q
def mC (G : mG) (lo : Nat) (sa : mSc) (U : State) (H : Heap) : Prop :=
  va_K G.1 vwCl (mTy G) U ∧ (sa.1 < lo ∧ sa.2.1 ≤ 260 ∧ va_X sa.1 sa.2.1 sa.2.2 U H) ∧
  (mAA .int U ∧ va_AO RX6 U) ∧
  (va_Nw (.methodLinkNest RX5 9 yX4_init RX5) U ∧ va_Nw (.methodLinkNest RX5 24 yX2_init RX5) U ∧ va_Nw (.methodLinkNest RX5 37 yX3_init RX5) U ∧ va_Nw (.methodLinkNest RX3 22 yX4_init RX5) U ∧ va_Nw (.methodLinkNest RX2 15 yX5_within RX5) U) ∧
  (va_Nw (.methodLinkNest RL 11 yX7_init RL) U ∧ va_Nw (.methodLinkNest RX7 43 yX6_init RL) U) ∧
  True ∧ lo ≤ H.size ∧ va_AO RX0 U ∧ va_AO RX1 U
theorem mC.vm {G : mG} {lo : Nat} {sa : mSc} {u U : State} {H : Heap} (hv : U.vm = u.vm) (h : mC G lo sa u H) : mC G lo sa U H := by
  obtain ⟨h1, ⟨x1, x2, x3⟩, ⟨a1, a2⟩, ⟨b1, b2, b3, b4, b5⟩, ⟨c1, c2⟩, d, e, f1, f2⟩ := h
  have hA : u.vm.Alike U.vm := by rw [hv]; exact Vm.Alike.refl _
  exact ⟨h1.moved hA, ⟨x1, x2, x3.moved hA⟩, ⟨a1.moved hA, a2.moved hA⟩,
    ⟨va_Nw.same rfl hv.symm b1, va_Nw.same rfl hv.symm b2, va_Nw.same rfl hv.symm b3, va_Nw.same rfl hv.symm b4, va_Nw.same rfl hv.symm b5⟩,
    ⟨va_Nw.same rfl hv.symm c1, va_Nw.same rfl hv.symm c2⟩, d, e, f1.moved hA, f2.moved hA⟩
/-- handed to a callee -/
theorem mC.to {G : mG} {lo : Nat} {sa : mSc} {s U : State} {H : Heap} {locs : List Loc} (h : mC G lo sa s s.heap) (hS : va_S (mA lo) s.heap H locs) (hU : U.heap = H) (hW : s.WarmedH U.vm) : mC G lo sa U U.heap := by
  obtain ⟨h1, ⟨x1, x2, x3⟩, ⟨a1, a2⟩, ⟨b1, b2, b3, b4, b5⟩, ⟨c1, c2⟩, d, e, f1, f2⟩ := h
  have hA : s.vm.Alike U.vm := hW.alike
  rw [hU]
  exact ⟨h1.moved hA, ⟨x1, x2, (x3.kept (hS.2.1 _ (Nat.lt_of_lt_of_le x1 e) (Nat.not_le.mpr x1))).moved hA⟩, ⟨a1.moved hA, a2.moved hA⟩,
    ⟨va_Nw.warmM hW b1, va_Nw.warmM hW b2, va_Nw.warmM hW b3, va_Nw.warmM hW b4, va_Nw.warmM hW b5⟩,
    ⟨va_Nw.warmM hW c1, va_Nw.warmM hW c2⟩, d, Nat.le_trans e hS.1, f1.moved hA, f2.moved hA⟩
/-! ===== contracts ===== -/
def mPc (G : mG) (lo : Nat) (sa : mSc) (ad : Nat → Nat) (R : mM) (av : List Value) : Array Value → State → Prop := va_Pc av (fun U => mC G lo sa U U.heap ∧ mO G lo ad R U.heap)
theorem mPc_blind {G : mG} {lo : Nat} {sa : mSc} {ad : Nat → Nat} {R : mM} {av : List Value} : FrameBlind (mPc G lo sa ad R av) := by
  intro a U g mk q
  obtain ⟨q1, q2, q3⟩ := q
  exact ⟨q1, mC.vm (u := U) (U := U.calling g mk a) rfl q2, q3⟩
abbrev mWs (y : MethodName) (cc : ByteArray) (n : Nat) (rt : Option FieldType) : List Cond := .code y cc n rt :: lw_all
abbrev mB (G : mG) (lo : Nat) (ad : Nat → Nat) : mM → State → Prop := fun R' t => mO G lo ad R' t.heap
abbrev mRm (fr lc : Nat) : Room := { frames := fr, cells := 0, slots := 0, locals := lc }
/-- a method that answers an int (or boolean) and makes nothing -/
def mI (l : Launch) (y : MethodName) (cc : ByteArray) (n : Nat) (rt : FieldType) (fr lc : Nat) (G : mG) (lo : Nat) (sa : mSc) (ad : Nat → Nat) (R : mM) (av : List Value) (post : Int32 → mM → Prop) : Prop :=
  Met l y (mWs y cc n (some rt)) (mRm fr lc) (mPc G lo sa ad R av) (va_Qi post (mB G lo ad) (mA lo)) 0 0 (mA lo)
/-- .. that answers nothing -/
def mV (l : Launch) (y : MethodName) (cc : ByteArray) (n : Nat) (fr lc : Nat) (G : mG) (lo : Nat) (sa : mSc) (ad : Nat → Nat) (R : mM) (av : List Value) (post : mM → Prop) : Prop :=
  Met l y (mWs y cc n none) (mRm fr lc) (mPc G lo sa ad R av) (va_Qv post (mB G lo ad) (mA lo)) 0 0 (mA lo)
/-- .. a long -/
def mL (l : Launch) (y : MethodName) (cc : ByteArray) (n : Nat) (fr lc : Nat) (G : mG) (lo : Nat) (sa : mSc) (ad : Nat → Nat) (R : mM) (av : List Value) (post : Int64 → mM → Prop) : Prop :=
  Met l y (mWs y cc n (some .long)) (mRm fr lc) (mPc G lo sa ad R av) (va_Ql post (mB G lo ad) (mA lo)) 0 0 (mA lo)
section MEM
variable {p : Program} {l : Launch} {e : Env} {Rm : Room} {s : State} {m : MethodId} {args : Array Value} {below : List Frame} {meth : Method} {c : Code} {H : Heap} {locs : List Loc} {cells slots : Nat} {Q : State → Prop}
variable {cc : ByteArray} {nL pc : Nat} {ls : Array Slot} {rest st : List Value} {G : mG} {lo : Nat} {sa : mSc} {ad : Nat → Nat} {R : mM} {own : String}
/-- what a body begins with -/
abbrev mF (p : Program) (m : MethodId) (c : Code) (cc : ByteArray) (nL : Nat) (s : State) (args : Array Value) (own : String) : Prop := CallFix p m c cc nL s args lw_all own
theorem mI_of {y : MethodName} {rt : FieldType} {fr lc : Nat} {av : List Value} {post : Int32 → mM → Prop} (hy : plainName y.cls = true) (hlen : (lg_sl av).length ≤ nL)
    (body : ∀ (p : Program) (e : Env) (s : State) (m : MethodId) (args : Array Value) (below : List Frame) (meth : Method) (c : Code), mF p m c cc nL s args y.cls → meth.sig.returnType = some rt → meth.locks = false → mC G lo sa s s.heap →
      ∀ ls : Array Slot, lv_has ls nL (lv_args 0 av) → mO G lo ad R s.heap → va_S (mA lo) s.heap s.heap [] →
      ∀ Q : State → Prop, Q = MQ below (va_Qi post (mB G lo ad) (mA lo)) args s 0 0 (mA lo) → W p l e (mRm fr lc) s m args below meth c s.heap [] 0 0 Q (F0 m 0 ls [])) : mI l y cc nL rt fr lc G lo sa ad R av post := by
  refine Met.ofW (cc := cc) (maxL := nL) (ret := some rt) hy rfl ?_
  intro p e s m args below meth c s₁ B hml hv
  obtain ⟨rfl, hC, hO⟩ := hv
  have hts := atoms_spec (ws := mWs y cc nL (some rt)) B.pre
  rw [lg_entry_eq]
  exact body p e s m _ below meth c ⟨B.exec, B.bytes, hml, findClass_of_methodNamed B.named, fun w h => hts w (List.mem_cons_of_mem _ h)⟩ B.returns B.notSynchronized hC _ (lv_entry av hlen) hO va_S.rf _ rfl
theorem mV_of {y : MethodName} {fr lc : Nat} {av : List Value} {post : mM → Prop} (hy : plainName y.cls = true) (hlen : (lg_sl av).length ≤ nL)
    (body : ∀ (p : Program) (e : Env) (s : State) (m : MethodId) (args : Array Value) (below : List Frame) (meth : Method) (c : Code), mF p m c cc nL s args y.cls → meth.sig.returnType = none → meth.locks = false → mC G lo sa s s.heap →
      ∀ ls : Array Slot, lv_has ls nL (lv_args 0 av) → mO G lo ad R s.heap → va_S (mA lo) s.heap s.heap [] →
      ∀ Q : State → Prop, Q = MQ below (va_Qv post (mB G lo ad) (mA lo)) args s 0 0 (mA lo) → W p l e (mRm fr lc) s m args below meth c s.heap [] 0 0 Q (F0 m 0 ls [])) : mV l y cc nL fr lc G lo sa ad R av post := by
  refine Met.ofW (cc := cc) (maxL := nL) (ret := none) hy rfl ?_
  intro p e s m args below meth c s₁ B hml hv
  obtain ⟨rfl, hC, hO⟩ := hv
  have hts := atoms_spec (ws := mWs y cc nL none) B.pre
  rw [lg_entry_eq]
  exact body p e s m _ below meth c ⟨B.exec, B.bytes, hml, findClass_of_methodNamed B.named, fun w h => hts w (List.mem_cons_of_mem _ h)⟩ B.returns B.notSynchronized hC _ (lv_entry av hlen) hO va_S.rf _ rfl
theorem mL_of {y : MethodName} {fr lc : Nat} {av : List Value} {post : Int64 → mM → Prop} (hy : plainName y.cls = true) (hlen : (lg_sl av).length ≤ nL)
    (body : ∀ (p : Program) (e : Env) (s : State) (m : MethodId) (args : Array Value) (below : List Frame) (meth : Method) (c : Code), mF p m c cc nL s args y.cls → meth.sig.returnType = some .long → meth.locks = false → mC G lo sa s s.heap →
      ∀ ls : Array Slot, lv_has ls nL (lv_args 0 av) → mO G lo ad R s.heap → va_S (mA lo) s.heap s.heap [] →
      ∀ Q : State → Prop, Q = MQ below (va_Ql post (mB G lo ad) (mA lo)) args s 0 0 (mA lo) → W p l e (mRm fr lc) s m args below meth c s.heap [] 0 0 Q (F0 m 0 ls [])) : mL l y cc nL fr lc G lo sa ad R av post := by
  refine Met.ofW (cc := cc) (maxL := nL) (ret := some .long) hy rfl ?_
  intro p e s m args below meth c s₁ B hml hv
  obtain ⟨rfl, hC, hO⟩ := hv
  have hts := atoms_spec (ws := mWs y cc nL (some .long)) B.pre
  rw [lg_entry_eq]
  exact body p e s m _ below meth c ⟨B.exec, B.bytes, hml, findClass_of_methodNamed B.named, fun w h => hts w (List.mem_cons_of_mem _ h)⟩ B.returns B.notSynchronized hC _ (lv_entry av hlen) hO va_S.rf _ rfl
/-! ends -/
theorem m_iret {post : Int32 → mM → Prop} {R' : mM} {v : Int32} {rt : FieldType} (hF : mF p m c cc nL s args own) (hr : meth.sig.returnType = some rt) (hlk : meth.locks = false) (hQ : Q = MQ below (va_Qi post (mB G lo ad) (mA lo)) args s cells slots (mA lo)) (hn : narrow rt (.int v) = .int v) (hO : mO G lo ad R' H) (hS : va_S (mA lo) s.heap H locs) (hdg : decode cc pc = .ok (.ireturn, 1)) (hp : post v R') :
    W p l e Rm s m args below meth c H locs cells slots Q (F0 m pc ls [.int v]) := hQ ▸
  W.zret hF.1 hF.2.1 hr hn (fun t ht hW => ⟨⟨v, R', rfl, hp, by show mO G lo ad R' t.heap; rw [ht]; exact hO⟩, hS.F ht⟩) hS.2.2 hdg hlk
theorem m_vret {post : mM → Prop} {R' : mM} (hF : mF p m c cc nL s args own) (hr : meth.sig.returnType = none) (hlk : meth.locks = false) (hQ : Q = MQ below (va_Qv post (mB G lo ad) (mA lo)) args s cells slots (mA lo)) (hO : mO G lo ad R' H) (hS : va_S (mA lo) s.heap H locs) (hdg : decode cc pc = .ok (.return_, 1)) (hp : post R') :
    W p l e Rm s m args below meth c H locs cells slots Q (F0 m pc ls []) := hQ ▸
  W.vret hF.1 hF.2.1 hr (fun t ht hW => ⟨⟨R', rfl, hp, by show mO G lo ad R' t.heap; rw [ht]; exact hO⟩, hS.F ht⟩) hS.2.2 hdg hlk
theorem m_lret {post : Int64 → mM → Prop} {R' : mM} {v : Int64} (hF : mF p m c cc nL s args own) (hr : meth.sig.returnType = some .long) (hlk : meth.locks = false) (hQ : Q = MQ below (va_Ql post (mB G lo ad) (mA lo)) args s cells slots (mA lo)) (hO : mO G lo ad R' H) (hS : va_S (mA lo) s.heap H locs) (hdg : decode cc pc = .ok (.lreturn, 1)) (hp : post v R') :
    W p l e Rm s m args below meth c H locs cells slots Q (F0 m pc ls [.long v]) := hQ ▸
  W.lret hF.1 hF.2.1 hr (fun t ht hW => ⟨⟨v, R', rfl, hp, by show mO G lo ad R' t.heap; rw [ht]; exact hO⟩, hS.F ht⟩) hS.2.2 hdg hlk
/-! fields -/
theorem m_get {C : String} {T : u_T} {N ci index : Nat} (hin : ∀ w ∈ u_ws C T N, w ∈ lw_all) (hF : mF p m c cc nL s args own) (hC : mC G lo sa s s.heap) (hO : mO G lo ad R H) {r : Nat} {fs : List Value} (hr : R r = some (.inr (ci, fs))) (hc : vwCl[ci]? = some (C, T, N)) (k : Nat) (hk : k < N) (hlink : (.fieldLink own index (T k).1 (T k).2.1 (T k).2.2.1 : Cond) ∈ lw_all) {v : Value} (hv : fs[k]? = some v) (hdg : decode cc pc = .ok (.getfield index, 3))
    (kk : W p l e Rm s m args below meth c H locs cells slots Q (F0 m (pc + 3) ls (v :: rest))) : W p l e Rm s m args below meth c H locs cells slots Q (F0 m pc ls (.ref (ad r) :: rest)) :=
  va_get hF.1 hF.2.1 hF.2.2.2.2 hin hF.2.2.2.1 hC.1 (hO.one hr) 0 rfl hc k hk (hF.2.2.2.2 _ hlink) (fun _ h => h) hv hdg kk
theorem m_put {C : String} {T : u_T} {N ci index : Nat} (ty0 : Nat → FieldType) (hty : ∀ k, k < N → parseFieldDescriptor (T k).2.2.1 = some (ty0 k)) (hnm : ∀ a, a < N → ∀ b, b < N → a ≠ b → (T a).2.1 ≠ (T b).2.1) (hin : ∀ w ∈ u_ws C T N, w ∈ lw_all) (hF : mF p m c cc nL s args own) (hC : mC G lo sa s s.heap) (hO : mO G lo ad R H) (hS : va_S (mA lo) s.heap H locs) {r : Nat} {fs : List Value} (hr : R r = some (.inr (ci, fs))) (hc : vwCl[ci]? = some (C, T, N)) (k : Nat) (hk : k < N) (hlink : (.fieldLink own index (T k).1 (T k).2.1 (T k).2.2.1 : Cond) ∈ lw_all) (hfin : (T k).2.2.2 = false) {ty : FieldType} {v : Value} (hd : parseFieldDescriptor (T k).2.2.1 = some ty) (hn : narrow ty v = v) (hfit : fits ty v = true) {fs' : List Value} (hl : k < fs.length) (hfs : fs.set k v = fs') (hdg : decode cc pc = .ok (.putfield index, 3))
    (kk : ∀ (H1 : Heap) (locs1 : List Loc), mO G lo ad (mU R r (.inr (ci, fs'))) H1 → va_S (mA lo) s.heap H1 locs1 → W p l e Rm s m args below meth c H1 locs1 cells slots Q (F0 m (pc + 3) ls rest)) : W p l e Rm s m args below meth c H locs cells slots Q (F0 m pc ls (v :: .ref (ad r) :: rest)) := by
  subst hfs
  obtain ⟨hx, hb, -, hown, hts⟩ := hF
  have hap := va_apart (own := own) hts hin ty0 hty hnm hC.1 hc
  obtain ⟨r9, h1, cell, q1, q2, q3, q4⟩ := hO.1 r _ hr
  have hr9 : r9 = (C, T, N) := Option.some.inj (h1.symm.trans hc)
  subst hr9
  obtain ⟨hS9, hfc, kC, hkC, hkind⟩ := hC.1.1 ci _ hc
  obtain ⟨cf, kf, fi, f, hi, hsl⟩ := hS9 k hk
  have hlay := hts _ (hin _ (u_in_lay hk))
  unfold u_lay at hlay
  rw [if_neg (by rw [hfin]; decide)] at hlay
  have hst := (u_facts hfc hkC (u_lays hts hin hk) hi).1
  have h6 := u_store hfc hkC hkind hlay hi hd hn hfit
  refine W.putK hx hb (f := f) ⟨hown, hts _ hlink, ⟨_, _, _, hi⟩, hst⟩ (by rw [q2]; exact h6) q1 q3 (by rw [hsl]; exact k2_hasslot (q4 k hk)) rfl rfl hdg fun H' e1 e2 e3 => ?_
  rw [hsl] at e1 ⊢
  exact kk H' _ (hO.set hr ⟨_, hc, t_OB.to (V := updV (vp_V fs) k v) ⟨_, e1, q2, q3, t_set q4 hap hk v⟩ (fun j _ => vp_updV_set hl v j)⟩ e3) (hS.put e2 e3 (hO.2.1 r _ hr))
theorem m_putF {C : String} {T : u_T} {N ci index : Nat} (ty0 : Nat → FieldType) (hty : ∀ k, k < N → parseFieldDescriptor (T k).2.2.1 = some (ty0 k)) (hnm : ∀ a, a < N → ∀ b, b < N → a ≠ b → (T a).2.1 ≠ (T b).2.1) (hin : ∀ w ∈ u_ws C T N, w ∈ lw_all) (hF : mF p m c cc nL s args own) (hC : mC G lo sa s s.heap) (hO : mO G lo ad R H) (hS : va_S (mA lo) s.heap H locs) {r : Nat} {fs : List Value} (hr : R r = some (.inr (ci, fs))) (hc : vwCl[ci]? = some (C, T, N)) (k : Nat) (hk : k < N) (hlink : (.fieldLink own index (T k).1 (T k).2.1 (T k).2.2.1 : Cond) ∈ lw_all) (hfin : (T k).2.2.2 = true) (hin2 : meth.name = "<init>") (hdecl : (T k).1 = own) {ty : FieldType} {v : Value} (hd : parseFieldDescriptor (T k).2.2.1 = some ty) (hn : narrow ty v = v) (hfit : fits ty v = true) {fs' : List Value} (hl : k < fs.length) (hfs : fs.set k v = fs') (hdg : decode cc pc = .ok (.putfield index, 3))
    (kk : ∀ (H1 : Heap) (locs1 : List Loc), mO G lo ad (mU R r (.inr (ci, fs'))) H1 → va_S (mA lo) s.heap H1 locs1 → W p l e Rm s m args below meth c H1 locs1 cells slots Q (F0 m (pc + 3) ls rest)) : W p l e Rm s m args below meth c H locs cells slots Q (F0 m pc ls (v :: .ref (ad r) :: rest)) := by
  subst hfs
  obtain ⟨hx, hb, -, hown, hts⟩ := hF
  have hap := va_apart (own := own) hts hin ty0 hty hnm hC.1 hc
  obtain ⟨r9, h1, cell, q1, q2, q3, q4⟩ := hO.1 r _ hr
  have hr9 : r9 = (C, T, N) := Option.some.inj (h1.symm.trans hc)
  subst hr9
  obtain ⟨hS9, hfc, kC, hkC, hkind⟩ := hC.1.1 ci _ hc
  obtain ⟨cf, kf, fi, f, hi, hsl⟩ := hS9 k hk
  have hlay := hts _ (hin _ (u_in_lay hk))
  unfold u_lay at hlay
  rw [if_pos hfin] at hlay
  have hst := (u_facts hfc hkC (u_lays hts hin hk) hi).1
  have hcf : m.cls = cf := by
    obtain ⟨_, _, c', _, _, _, -, -, hf', -, -, -, hown2, -⟩ := Cond.laysFinal_spec hlay
    have e1 : c' = cf := by have := hi.symm.trans hf'; simp at this; exact this.1.symm
    rw [hdecl] at hown2
    rw [← e1]; exact Option.some.inj (hown.symm.trans hown2)
  have h6 := u_fits hfc hkC hkind (Or.inr hlay) hi hd hn hfit
  refine W.putFinK hx hb hown (hts _ hlink) hi hst hcf hin2 (by rw [q2]; exact h6) q1 q3 (by rw [hsl]; exact k2_hasslot (q4 k hk)) rfl rfl hdg fun H' e1 e2 e3 => ?_
  rw [hsl] at e1 ⊢
  exact kk H' _ (hO.set hr ⟨_, hc, t_OB.to (V := updV (vp_V fs) k v) ⟨_, e1, q2, q3, t_set q4 hap hk v⟩ (fun j _ => vp_updV_set hl v j)⟩ e3) (hS.put e2 e3 (hO.2.1 r _ hr))
/-! arrays -/
theorem m_iald (hF : mF p m c cc nL s args own) (hC : mC G lo sa s s.heap) (hO : mO G lo ad R H) {r n : Nat} {f : Nat → Int32} (hr : R r = some (.inl (G.2 0, n, .inl f))) {i : Int32} {j : Nat} (hj : i.toNatClampNeg = j) (hin : vp_in i n) (hdg : decode cc pc = .ok (.iaload, 1))
    (kk : W p l e Rm s m args below meth c H locs cells slots Q (F0 m (pc + 1) ls (.int (f j) :: rest))) : W p l e Rm s m args below meth c H locs cells slots Q (F0 m pc ls (.int i :: .ref (ad r) :: rest)) := by
  subst hj
  exact va_iald hF.1 hF.2.1 hC.1 (hO.one hr) 0 0 rfl rfl hin hdg kk
theorem m_aldF (hF : mF p m c cc nL s args own) (hC : mC G lo sa s s.heap) (hO : mO G lo ad R H) {r n : Nat} {f : Nat → Option Nat} (hr : R r = some (.inl (G.2 3, n, .inr (.inr (.inr (.inr f)))))) {i : Int32} {j : Nat} (hj : i.toNatClampNeg = j) (hin : vp_in i n) (hdg : decode cc pc = .ok (.aaload, 1)) {v : Value} (hv : va_rf (f j) = v)
    (kk : W p l e Rm s m args below meth c H locs cells slots Q (F0 m (pc + 1) ls (v :: rest))) : W p l e Rm s m args below meth c H locs cells slots Q (F0 m pc ls (.int i :: .ref (ad r) :: rest)) := by
  subst hj; subst hv
  exact va_aldq hF.1 hF.2.1 hC.1 (hO.one hr) 0 3 rfl rfl hin hdg kk
theorem m_aldO (hF : mF p m c cc nL s args own) (hC : mC G lo sa s s.heap) (hO : mO G lo ad R H) {r n : Nat} {f : Nat → Option Nat} (hr : R r = some (.inl (G.2 4, n, .inr (.inr (.inr (.inr f)))))) {i : Int32} {j : Nat} (hj : i.toNatClampNeg = j) (hin : vp_in i n) (hdg : decode cc pc = .ok (.aaload, 1)) {v : Value} (hv : va_rf (f j) = v)
    (kk : W p l e Rm s m args below meth c H locs cells slots Q (F0 m (pc + 1) ls (v :: rest))) : W p l e Rm s m args below meth c H locs cells slots Q (F0 m pc ls (.int i :: .ref (ad r) :: rest)) := by
  subst hj; subst hv
  exact va_aldq hF.1 hF.2.1 hC.1 (hO.one hr) 0 4 rfl rfl hin hdg kk
theorem m_alen (t0 : Nat) {ty : FieldType} (hF : mF p m c cc nL s args own) (hC : mC G lo sa s s.heap) (hO : mO G lo ad R H) {r : Nat} {cA : ClassId} {x : vp_A} (hr : R r = some (.inl (cA, x))) (ht : (mTy G)[t0]? = some (cA, ty)) {v : Int32} (hv : Int32.ofNat x.1 = v) (hdg : decode cc pc = .ok (.arraylength, 1))
    (kk : W p l e Rm s m args below meth c H locs cells slots Q (F0 m (pc + 1) ls (.int v :: rest))) : W p l e Rm s m args below meth c H locs cells slots Q (F0 m pc ls (.ref (ad r) :: rest)) :=
  va_alen hF.1 hF.2.1 hC.1 (hO.one hr) 0 t0 rfl ht hv hdg kk
theorem m_iast (hF : mF p m c cc nL s args own) (hC : mC G lo sa s s.heap) (hO : mO G lo ad R H) (hS : va_S (mA lo) s.heap H locs) {r n : Nat} {f : Nat → Int32} (hr : R r = some (.inl (G.2 0, n, .inl f))) {i x : Int32} {j : Nat} (hj : i.toNatClampNeg = j) (hin : vp_in i n) (hdg : decode cc pc = .ok (.iastore, 1))
    (kk : ∀ (H1 : Heap) (locs1 : List Loc), mO G lo ad (mU R r (.inl (G.2 0, n, .inl (upd f j x)))) H1 → va_S (mA lo) s.heap H1 locs1 → W p l e Rm s m args below meth c H1 locs1 cells slots Q (F0 m (pc + 1) ls rest)) : W p l e Rm s m args below meth c H locs cells slots Q (F0 m pc ls (.int x :: .int i :: .ref (ad r) :: rest)) := by
  subst hj
  refine W.iast hF.1 hF.2.1 (hO.1 r _ hr) ((hC.1.2 0 _ rfl).1 n (fun j => .int (f j))) (fun q => by cases q) (by show ¬ (i < 0 ∨ (arrV _ _ _).slots.size ≤ _); rw [arrV_size]; exact hin) rfl rfl hdg fun H1 e z oq => ?_
  refine kk H1 _ (hO.set hr ?_ oq) (hS.put z oq (hO.2.1 r _ hr))
  show H1[ad r]? = some (vp_cell _ _)
  rw [e]
  rw [vp_cell_i, vp_cell_i, arrV_store]
  congr 2
  funext q
  by_cases hq : q = i.toNatClampNeg
  · subst hq
    simp [updV, upd]
  · simp [updV, upd, hq]
end MEM
