/-! ===== what makes cells: new roles, other addresses ===== -/
abbrev mAd : Type := (Nat → Nat) × mM
abbrev mBa (G : mG) (lo : Nat) : mAd → State → Prop := fun u t => mO G lo u.1 u.2 t.heap
abbrev nRm (fr lc mc ms : Nat) : Room := { frames := fr, cells := mc, slots := ms, locals := lc }
def nI' (l : Launch) (y : MethodName) (cc : ByteArray) (n : Nat) (rt : FieldType) (fr lc mc ms : Nat) (G : mG) (lo : Nat) (sa : mSc) (ad : Nat → Nat) (R : mM) (av : List Value) (post : Int32 → mAd → Prop) : Prop :=
  Met l y (mWs y cc n (some rt)) (nRm fr lc mc ms) (mPc G lo sa ad R av) (va_Qi post (mBa G lo) (mA lo)) mc ms (mA lo)
def nV' (l : Launch) (y : MethodName) (cc : ByteArray) (n : Nat) (fr lc mc ms : Nat) (G : mG) (lo : Nat) (sa : mSc) (ad : Nat → Nat) (R : mM) (av : List Value) (post : mAd → Prop) : Prop :=
  Met l y (mWs y cc n none) (nRm fr lc mc ms) (mPc G lo sa ad R av) (va_Qv post (mBa G lo) (mA lo)) mc ms (mA lo)
theorem mO.drop {G : mG} {lo : Nat} {ad : Nat → Nat} {R R1 : mM} {H : Heap} (h : mO G lo ad R H) (hs : ∀ r e, R1 r = some e → R r = some e) : mO G lo ad R1 H :=
  ⟨fun r e q => h.1 r e (hs r e q), fun r e q => h.2.1 r e (hs r e q), fun r r' e e' q q' => h.2.2 r r' e e' (hs r e q) (hs r' e' q')⟩
theorem mO.addr {G : mG} {lo : Nat} {ad ad1 : Nat → Nat} {R : mM} {H : Heap} (h : mO G lo ad R H) (hs : ∀ r e, R r = some e → ad1 r = ad r) : mO G lo ad1 R H :=
  ⟨fun r e q => by rw [hs r e q]; exact h.1 r e q, fun r e q => by rw [hs r e q]; exact h.2.1 r e q, fun r r' e e' q q' z => h.2.2 r r' e e' q q' (by rw [← hs r e q, ← hs r' e' q']; exact z)⟩
section ALC
variable {p : Program} {l : Launch} {e : Env} {Rm : Room} {s : State} {m : MethodId} {args : Array Value} {below : List Frame} {meth : Method} {c : Code} {H : Heap} {locs : List Loc} {cells slots mc ms : Nat} {Q : State → Prop}
variable {cc bytes : ByteArray} {nL maxL pc n index fr lc : Nat} {ls : Array Slot} {rest st As : List Value} {G : mG} {lo : Nat} {sa : mSc} {ad : Nat → Nat} {R : mM} {own C : String} {y : MethodName} {rt : FieldType}
theorem nI_of' {y : MethodName} {rt : FieldType} {fr lc : Nat} {av : List Value} {post : Int32 → mAd → Prop} (hy : plainName y.cls = true) (hlen : (lg_sl av).length ≤ nL)
    (body : ∀ (p : Program) (e : Env) (s : State) (m : MethodId) (args : Array Value) (below : List Frame) (meth : Method) (c : Code), mF p m c cc nL s args y.cls → meth.sig.returnType = some rt → meth.locks = false → mC G lo sa s s.heap →
      ∀ ls : Array Slot, lv_has ls nL (lv_args 0 av) → mO G lo ad R s.heap → va_S (mA lo) s.heap s.heap [] →
      ∀ Q : State → Prop, Q = MQ below (va_Qi post (mBa G lo) (mA lo)) args s mc ms (mA lo) → W p l e (nRm fr lc mc ms) s m args below meth c s.heap [] 0 0 Q (F0 m 0 ls [])) : nI' l y cc nL rt fr lc mc ms G lo sa ad R av post := by
  refine Met.ofW (cc := cc) (maxL := nL) (ret := some rt) hy rfl ?_
  intro p e s m args below meth c s₁ B hml hv
  obtain ⟨rfl, hC, hO⟩ := hv
  have hts := atoms_spec (ws := mWs y cc nL (some rt)) B.pre
  rw [lg_entry_eq]
  exact body p e s m _ below meth c ⟨B.exec, B.bytes, hml, findClass_of_methodNamed B.named, fun w h => hts w (List.mem_cons_of_mem _ h)⟩ B.returns B.notSynchronized hC _ (lv_entry av hlen) hO va_S.rf _ rfl
theorem nV_of' {y : MethodName} {fr lc : Nat} {av : List Value} {post : mAd → Prop} (hy : plainName y.cls = true) (hlen : (lg_sl av).length ≤ nL)
    (body : ∀ (p : Program) (e : Env) (s : State) (m : MethodId) (args : Array Value) (below : List Frame) (meth : Method) (c : Code), mF p m c cc nL s args y.cls → meth.sig.returnType = none → meth.locks = false → mC G lo sa s s.heap →
      ∀ ls : Array Slot, lv_has ls nL (lv_args 0 av) → mO G lo ad R s.heap → va_S (mA lo) s.heap s.heap [] →
      ∀ Q : State → Prop, Q = MQ below (va_Qv post (mBa G lo) (mA lo)) args s mc ms (mA lo) → W p l e (nRm fr lc mc ms) s m args below meth c s.heap [] 0 0 Q (F0 m 0 ls [])) : nV' l y cc nL fr lc mc ms G lo sa ad R av post := by
  refine Met.ofW (cc := cc) (maxL := nL) (ret := none) hy rfl ?_
  intro p e s m args below meth c s₁ B hml hv
  obtain ⟨rfl, hC, hO⟩ := hv
  have hts := atoms_spec (ws := mWs y cc nL none) B.pre
  rw [lg_entry_eq]
  exact body p e s m _ below meth c ⟨B.exec, B.bytes, hml, findClass_of_methodNamed B.named, fun w h => hts w (List.mem_cons_of_mem _ h)⟩ B.returns B.notSynchronized hC _ (lv_entry av hlen) hO va_S.rf _ rfl
theorem mV_ofI {y : MethodName} {fr lc : Nat} {av : List Value} {post : mM → Prop} (hy : plainName y.cls = true) (hlen : (lg_sl av).length ≤ nL)
    (body : ∀ (p : Program) (e : Env) (s : State) (m : MethodId) (args : Array Value) (below : List Frame) (meth : Method) (c : Code), mF p m c cc nL s args y.cls → meth.sig.returnType = none → meth.locks = false → meth.name = y.name → mC G lo sa s s.heap →
      ∀ ls : Array Slot, lv_has ls nL (lv_args 0 av) → mO G lo ad R s.heap → va_S (mA lo) s.heap s.heap [] →
      ∀ Q : State → Prop, Q = MQ below (va_Qv post (mB G lo ad) (mA lo)) args s 0 0 (mA lo) → W p l e (mRm fr lc) s m args below meth c s.heap [] 0 0 Q (F0 m 0 ls [])) : mV l y cc nL fr lc G lo sa ad R av post := by
  refine Met.ofW (cc := cc) (maxL := nL) (ret := none) hy rfl ?_
  intro p e s m args below meth c s₁ B hml hv
  obtain ⟨rfl, hC, hO⟩ := hv
  have hts := atoms_spec (ws := mWs y cc nL none) B.pre
  rw [lg_entry_eq]
  exact body p e s m _ below meth c ⟨B.exec, B.bytes, hml, findClass_of_methodNamed B.named, fun w h => hts w (List.mem_cons_of_mem _ h)⟩ B.returns B.notSynchronized (name_of_methodNamed B.named B.method).1 hC _ (lv_entry av hlen) hO va_S.rf _ rfl
theorem nV_ofI {y : MethodName} {fr lc : Nat} {av : List Value} {post : mAd → Prop} (hy : plainName y.cls = true) (hlen : (lg_sl av).length ≤ nL)
    (body : ∀ (p : Program) (e : Env) (s : State) (m : MethodId) (args : Array Value) (below : List Frame) (meth : Method) (c : Code), mF p m c cc nL s args y.cls → meth.sig.returnType = none → meth.locks = false → meth.name = y.name → mC G lo sa s s.heap →
      ∀ ls : Array Slot, lv_has ls nL (lv_args 0 av) → mO G lo ad R s.heap → va_S (mA lo) s.heap s.heap [] →
      ∀ Q : State → Prop, Q = MQ below (va_Qv post (mBa G lo) (mA lo)) args s mc ms (mA lo) → W p l e (nRm fr lc mc ms) s m args below meth c s.heap [] 0 0 Q (F0 m 0 ls [])) : nV' l y cc nL fr lc mc ms G lo sa ad R av post := by
  refine Met.ofW (cc := cc) (maxL := nL) (ret := none) hy rfl ?_
  intro p e s m args below meth c s₁ B hml hv
  obtain ⟨rfl, hC, hO⟩ := hv
  have hts := atoms_spec (ws := mWs y cc nL none) B.pre
  rw [lg_entry_eq]
  exact body p e s m _ below meth c ⟨B.exec, B.bytes, hml, findClass_of_methodNamed B.named, fun w h => hts w (List.mem_cons_of_mem _ h)⟩ B.returns B.notSynchronized (name_of_methodNamed B.named B.method).1 hC _ (lv_entry av hlen) hO va_S.rf _ rfl
theorem m_niret {post : Int32 → mAd → Prop} {R' : mM} {v : Int32} {rt : FieldType} (hF : mF p m c cc nL s args own) (hr : meth.sig.returnType = some rt) (hlk : meth.locks = false) (hQ : Q = MQ below (va_Qi post (mBa G lo) (mA lo)) args s mc ms (mA lo)) (hcs : cells ≤ mc ∧ slots ≤ ms) (hn : narrow rt (.int v) = .int v) (hO : mO G lo ad R' H) (hS : va_S (mA lo) s.heap H locs) (hdg : decode cc pc = .ok (.ireturn, 1)) (hp : post v (ad, R')) :
    W p l e Rm s m args below meth c H locs cells slots Q (F0 m pc ls [.int v]) := hQ ▸
  W.widen hcs.1 hcs.2 (W.zret hF.1 hF.2.1 hr hn (fun t ht hW => ⟨⟨v, (ad, R'), rfl, hp, by show mO G lo ad R' t.heap; rw [ht]; exact hO⟩, hS.F ht⟩) hS.2.2 hdg hlk)
theorem m_nvret {post : mAd → Prop} {R' : mM} (hF : mF p m c cc nL s args own) (hr : meth.sig.returnType = none) (hlk : meth.locks = false) (hQ : Q = MQ below (va_Qv post (mBa G lo) (mA lo)) args s mc ms (mA lo)) (hcs : cells ≤ mc ∧ slots ≤ ms) (hO : mO G lo ad R' H) (hS : va_S (mA lo) s.heap H locs) (hdg : decode cc pc = .ok (.return_, 1)) (hp : post (ad, R')) :
    W p l e Rm s m args below meth c H locs cells slots Q (F0 m pc ls []) := hQ ▸
  W.widen hcs.1 hcs.2 (W.vret hF.1 hF.2.1 hr (fun t ht hW => ⟨⟨(ad, R'), rfl, hp, by show mO G lo ad R' t.heap; rw [ht]; exact hO⟩, hS.F ht⟩) hS.2.2 hdg hlk)
/-- a row of numbers is made, at the role r -/
theorem m_newa {atype : ArrayType} {ty : FieldType} {k r N : Nat} {v : Int32} {arr : vp_A} (hF : mF p m c cc nL s args own) (hC : mC G lo sa s s.heap) (hO : mO G lo ad R H) (hS : va_S (mA lo) s.heap H locs) (hr : R r = none) (harr : (.arrayClass ty : Cond) ∈ lw_all) (hty : newarray.typeOf atype = ty) (hk : (mTy G)[k]? = some (G.2 k, ty)) (hra : ∀ c1 : ClassId, va_RA s c1 ty = (s.vm.findClass ("[" ++ ty.toString) = some c1)) (ha : ∀ cA : ClassId, vp_cell cA arr = arrV cA N (fun _ => defaultValue ty))
    (hn : ¬ v < 0) (hN : v.toNatClampNeg = N) (hbytes : N * componentBytes ty ≤ 536870912) (hcs : cells + 1 ≤ Rm.cells ∧ slots + N ≤ Rm.slots) (hdg : decode cc pc = .ok (.newarray atype, 2))
    (kk : ∀ (ad1 : Nat → Nat) (H1 : Heap), (∀ x, x ≠ r → ad x = ad1 x) → mO G lo ad1 (mU R r (.inl (G.2 k, arr))) H1 → va_S (mA lo) s.heap H1 locs → W p l e Rm s m args below meth c H1 locs (cells + 1) (slots + N) Q (F0 m (pc + 2) ls (.ref (ad1 r) :: rest))) : W p l e Rm s m args below meth c H locs cells slots Q (F0 m pc ls (.int v :: rest)) := by
  subst hty
  refine va_newaK hF.1 hF.2.1 (hF.2.2.2.2 _ harr) rfl hdg rfl hn hN hbytes hcs.1 hcs.2 rfl fun H1 cA e1 z1 o1 hAr hNm => ?_
  have hG : cA = G.2 k := by
    have h9 := (hC.1.2 k _ hk).2
    rw [hra] at h9
    exact Option.some.inj (hNm.symm.trans h9)
  subst hG
  have hadr : va_up ad r H.size r = H.size := by simp [va_up]
  have h2 := kk (va_up ad r H.size) H1 (fun x hx => by simp [va_up, hx]) (hO.push hr rfl (Nat.le_trans hC.2.2.2.2.2.2.1 hS.1) (by show H1[H.size]? = some (vp_cell _ _); rw [ha]; exact e1) o1) ⟨Nat.le_trans hS.1 (by omega), fun x h1 h2 => (o1 x (Nat.lt_of_lt_of_le h1 hS.1)).trans (hS.2.1 x h1 h2), hS.2.2⟩
  rw [hadr] at h2
  exact h2
/-- a row of objects -/
theorem m_newq {C : String} {k r N : Nat} {v : Int32} (hF : mF p m c cc nL s args own) (hC : mC G lo sa s s.heap) (hO : mO G lo ad R H) (hS : va_S (mA lo) s.heap H locs) (hr : R r = none) (hcl : (.classLink own index C : Cond) ∈ lw_all) (hao : va_AO C s) (hk : (mTy G)[k]? = some (G.2 k, .object C))
    (hn : ¬ v < 0) (hN : v.toNatClampNeg = N) (hbytes : N * 4 ≤ 536870912) (hcs : cells + 1 ≤ Rm.cells ∧ slots + N ≤ Rm.slots) (hdg : decode cc pc = .ok (.anewarray index, 3))
    (kk : ∀ (ad1 : Nat → Nat) (H1 : Heap), (∀ x, x ≠ r → ad x = ad1 x) → mO G lo ad1 (mU R r (.inl (G.2 k, N, .inr (.inr (.inr (.inr (fun _ => none))))))) H1 → va_S (mA lo) s.heap H1 locs → W p l e Rm s m args below meth c H1 locs (cells + 1) (slots + N) Q (F0 m (pc + 3) ls (.ref (ad1 r) :: rest))) : W p l e Rm s m args below meth c H locs cells slots Q (F0 m pc ls (.int v :: rest)) := by
  subst hN
  refine W.anew hF.1 hF.2.1 hF.2.2.2.1 (hF.2.2.2.2 _ hcl) (va_AO.use hao) rfl hdg rfl hn hbytes hcs.1 hcs.2 fun cA kA comp f1 f2 f3 f4 => ?_
  have hG : cA = G.2 k := by
    obtain ⟨kB, c2, g1, g2, g3, g4⟩ := (hC.1.2 k _ hk).2
    exact Option.some.inj (f1.symm.trans g4)
  subst hG
  generalize hH1 : H.push ({ cls := G.2 k, slots := Array.replicate v.toNatClampNeg .null, vm := .none } : Cell) = H1
  have z1 : H1.size = H.size + 1 := by rw [← hH1, Array.size_push]
  have e1 : H1[H.size]? = some (arrV (G.2 k) v.toNatClampNeg (fun _ => .null)) := by rw [← hH1, Array.getElem?_push_size, ← arrV_new]
  have o1 : ∀ q : Nat, q < H.size → H1[q]? = H[q]? := fun q hq => by rw [← hH1, Array.getElem?_push, if_neg (Nat.ne_of_lt hq)]
  have hadr : va_up ad r H.size r = H.size := by simp [va_up]
  have h2 := kk (va_up ad r H.size) H1 (fun x hx => by simp [va_up, hx]) (hO.push hr rfl (Nat.le_trans hC.2.2.2.2.2.2.1 hS.1) (by show H1[H.size]? = some (vp_cell _ _); rw [vp_cell_q]; exact e1) o1) ⟨Nat.le_trans hS.1 (by omega), fun x h1 h2 => (o1 x (Nat.lt_of_lt_of_le h1 hS.1)).trans (hS.2.1 x h1 h2), hS.2.2⟩
  rw [hadr] at h2
  exact h2
/-- an object -/
theorem m_new {C : String} {T : u_T} {N ci r : Nat} {fs : List Value} (ty : Nat → FieldType) (hty : ∀ k, k < N → parseFieldDescriptor (T k).2.2.1 = some (ty k)) (hin : ∀ w ∈ u_ws C T N, w ∈ lw_all) (hF : mF p m c cc nL s args own) (hC : mC G lo sa s s.heap) (hO : mO G lo ad R H) (hS : va_S (mA lo) s.heap H locs) (hr : R r = none) (hcl : (.classLink own index C : Cond) ∈ lw_all) (hinst : (.instantiable C N : Cond) ∈ lw_all) (hini : (.initialized C : Cond) ∈ lw_all) (hc : vwCl[ci]? = some (C, T, N))
    (hfs : ∀ j, j < N → defaultValue (ty j) = vp_V fs j) (hcs : cells + 1 ≤ Rm.cells ∧ slots + N ≤ Rm.slots) (hdg : decode cc pc = .ok (.new index, 3))
    (kk : ∀ (ad1 : Nat → Nat) (H1 : Heap), (∀ x, x ≠ r → ad x = ad1 x) → mO G lo ad1 (mU R r (.inr (ci, fs))) H1 → va_S (mA lo) s.heap H1 locs → W p l e Rm s m args below meth c H1 locs (cells + 1) (slots + N) Q (F0 m (pc + 3) ls (.ref (ad1 r) :: rest))) : W p l e Rm s m args below meth c H locs cells slots Q (F0 m pc ls rest) := by
  have hts := hF.2.2.2.2
  have hKn := hC.1.1 ci _ hc
  refine W.newcK hF.1 hF.2.1 hF.2.2.2.1 (hts _ hcl) (hts _ hinst) (hts _ hini) rfl hdg hcs.1 hcs.2 hKn.2.1 rfl fun H1 kC hkC e1 z1 o1 => ?_
  have hadr : va_up ad r H.size r = H.size := by simp [va_up]
  have h2 := kk (va_up ad r H.size) H1 (fun x hx => by simp [va_up, hx]) (hO.push hr rfl (Nat.le_trans hC.2.2.2.2.2.2.1 hS.1) ⟨_, hc, (u_born ty hts hin hKn hkC e1 hty).to hfs⟩ o1) ⟨Nat.le_trans hS.1 (by omega), fun x h1 h2 => (o1 x (Nat.lt_of_lt_of_le h1 hS.1)).trans (hS.2.1 x h1 h2), hS.2.2⟩
  rw [hadr] at h2
  exact h2
theorem m_oini (hF : mF p m c cc nL s args own) (hl : (.methodLink own index objectInit : Cond) ∈ lw_all) (hsz : ls.size = nL) {a : Nat} (hdg : decode cc pc = .ok (.invokespecial index, 3)) (hR : 1 ≤ Rm.frames ∧ 8 + 12 ≤ Rm.locals) (hw : (rest.map fun v => v.category).sum ≤ 8)
    (kk : W p l e Rm s m args below meth c H locs cells slots Q (F0 m (pc + 3) ls rest)) : W p l e Rm s m args below meth c H locs cells slots Q (F0 m pc ls (.ref a :: rest)) :=
  W.objInit hF.1 hF.2.1 hF.2.2.2.1 (hF.2.2.2.2 _ hl) (hF.2.2.2.2 _ q_22) (hF.2.2.2.2 _ q_23) rfl (hsz.trans hF.2.2.1.symm) rfl hdg hR.1 (by have := hR.2; show 2 * 0 + _ + 12 ≤ _; omega) kk
/-- constructors that make nothing, by a link and by one of the nest -/
theorem m_iV {post : mM → Prop} {r : Nat} (hF : mF p m c cc nL s args own) (hC : mC G lo sa s s.heap) (hO : mO G lo ad R H) (hS : va_S (mA lo) s.heap H locs) (hM : mV l y bytes maxL fr lc G lo sa ad R (.ref (ad r) :: As) post) (ok : mOC y bytes maxL n) (hl : (.methodLink own index y : Cond) ∈ lw_all)
    (hR : fr + 1 ≤ Rm.frames ∧ 8 + (maxL + 11) + lc ≤ Rm.locals) (hn : As.length = n) (hsz : ls.size = nL) (hst : st = As.reverse ++ .ref (ad r) :: rest) (hw : (rest.map fun v => v.category).sum ≤ 8) (hcs : cells ≤ Rm.cells ∧ slots ≤ Rm.slots) (hdg : decode cc pc = .ok (.invokespecial index, 3))
    (kk : ∀ (R' : mM) (H1 : Heap) (locs1 : List Loc), post R' → mO G lo ad R' H1 → va_S (mA lo) s.heap H1 locs1 → W p l e Rm s m args below meth c H1 locs1 cells slots Q (F0 m (pc + 3) ls rest)) : W p l e Rm s m args below meth c H locs cells slots Q (F0 m pc ls st) := by
  obtain ⟨w2, w4, w5, hd, hy⟩ := ok
  have hts := hF.2.2.2.2
  exact va_callv (A0 := mA lo) (va_runI (b := ad r) (As := As) (rest := rest) hF hM ⟨mc_B (mRm fr lc) hF w4 w5 hd hl hR, hy, hts _ w2⟩ ⟨mPc_blind, mc_pre hC hO hS⟩ rfl hn hsz hst (lv_room hw) hdg hcs) hS (fun _ _ h => h) (fun _ h => h) (fun R' t H1 locs1 ht hvm hp hB hz1 hk1 hS1 => kk R' H1 locs1 hp (by rw [← ht]; exact hB) hS1)
theorem m_iVN {post : mM → Prop} {r : Nat} (hF : mF p m c cc nL s args own) (hC : mC G lo sa s s.heap) (hO : mO G lo ad R H) (hS : va_S (mA lo) s.heap H locs) (hM : mV l y bytes maxL fr lc G lo sa ad R (.ref (ad r) :: As) post) (ok : mOC y bytes maxL n) (hl : va_Nw (.methodLinkNest own index y RX5) s)
    (hR : fr + 1 ≤ Rm.frames ∧ 8 + (maxL + 11) + lc ≤ Rm.locals) (hn : As.length = n) (hsz : ls.size = nL) (hst : st = As.reverse ++ .ref (ad r) :: rest) (hw : (rest.map fun v => v.category).sum ≤ 8) (hcs : cells ≤ Rm.cells ∧ slots ≤ Rm.slots) (hdg : decode cc pc = .ok (.invokespecial index, 3))
    (kk : ∀ (R' : mM) (H1 : Heap) (locs1 : List Loc), post R' → mO G lo ad R' H1 → va_S (mA lo) s.heap H1 locs1 → W p l e Rm s m args below meth c H1 locs1 cells slots Q (F0 m (pc + 3) ls rest)) : W p l e Rm s m args below meth c H locs cells slots Q (F0 m pc ls st) := by
  obtain ⟨w2, w4, w5, hd, hy⟩ := ok
  have hts := hF.2.2.2.2
  have hcn : va_CN Rm s args own index y RX5 bytes maxL none (mWs y bytes maxL none) (mRm fr lc) 0 0 n := va_cnB n hts (mWs_good w5) rfl rfl rfl hl (hts _ w4) hd hR
  exact va_callv (A0 := mA lo) (va_runIN (b := ad r) (As := As) (rest := rest) hF hM ⟨hcn, hy, hts _ w2⟩ ⟨mPc_blind, mc_pre hC hO hS⟩ rfl hn hsz hst (lv_room hw) hdg hcs) hS (fun _ _ h => h) (fun _ h => h) (fun R' t H1 locs1 ht hvm hp hB hz1 hk1 hS1 => kk R' H1 locs1 hp (by rw [← ht]; exact hB) hS1)
/-- .. that make cells -/
theorem m_iN {post : mAd → Prop} {r : Nat} (hF : mF p m c cc nL s args own) (hC : mC G lo sa s s.heap) (hO : mO G lo ad R H) (hS : va_S (mA lo) s.heap H locs) (hM : nV' l y bytes maxL fr lc mc ms G lo sa ad R (.ref (ad r) :: As) post) (ok : mOC y bytes maxL n) (hl : (.methodLink own index y : Cond) ∈ lw_all)
    (hR : fr + 1 ≤ Rm.frames ∧ 8 + (maxL + 11) + lc ≤ Rm.locals) (hn : As.length = n) (hsz : ls.size = nL) (hst : st = As.reverse ++ .ref (ad r) :: rest) (hw : (rest.map fun v => v.category).sum ≤ 8) (hcs : cells + mc ≤ Rm.cells ∧ slots + ms ≤ Rm.slots) (hdg : decode cc pc = .ok (.invokespecial index, 3))
    (kk : ∀ (ad1 : Nat → Nat) (R' : mM) (H1 : Heap) (locs1 : List Loc), post (ad1, R') → mO G lo ad1 R' H1 → va_S (mA lo) s.heap H1 locs1 → W p l e Rm s m args below meth c H1 locs1 (cells + mc) (slots + ms) Q (F0 m (pc + 3) ls rest)) : W p l e Rm s m args below meth c H locs cells slots Q (F0 m pc ls st) := by
  obtain ⟨w2, w4, w5, hd, hy⟩ := ok
  have hts := hF.2.2.2.2
  exact va_callv (A0 := mA lo) (va_runI (b := ad r) (As := As) (rest := rest) hF hM ⟨mc_B (nRm fr lc mc ms) hF w4 w5 hd hl hR, hy, hts _ w2⟩ ⟨mPc_blind, mc_pre hC hO hS⟩ rfl hn hsz hst (lv_room hw) hdg hcs) hS (fun _ _ h => h) (fun _ h => h) (fun u t H1 locs1 ht hvm hp hB hz1 hk1 hS1 => kk u.1 u.2 H1 locs1 hp (by rw [← ht]; exact hB) hS1)
theorem m_iNN {post : mAd → Prop} {r : Nat} (hF : mF p m c cc nL s args own) (hC : mC G lo sa s s.heap) (hO : mO G lo ad R H) (hS : va_S (mA lo) s.heap H locs) (hM : nV' l y bytes maxL fr lc mc ms G lo sa ad R (.ref (ad r) :: As) post) (ok : mOC y bytes maxL n) (hl : va_Nw (.methodLinkNest own index y RX5) s)
    (hR : fr + 1 ≤ Rm.frames ∧ 8 + (maxL + 11) + lc ≤ Rm.locals) (hn : As.length = n) (hsz : ls.size = nL) (hst : st = As.reverse ++ .ref (ad r) :: rest) (hw : (rest.map fun v => v.category).sum ≤ 8) (hcs : cells + mc ≤ Rm.cells ∧ slots + ms ≤ Rm.slots) (hdg : decode cc pc = .ok (.invokespecial index, 3))
    (kk : ∀ (ad1 : Nat → Nat) (R' : mM) (H1 : Heap) (locs1 : List Loc), post (ad1, R') → mO G lo ad1 R' H1 → va_S (mA lo) s.heap H1 locs1 → W p l e Rm s m args below meth c H1 locs1 (cells + mc) (slots + ms) Q (F0 m (pc + 3) ls rest)) : W p l e Rm s m args below meth c H locs cells slots Q (F0 m pc ls st) := by
  obtain ⟨w2, w4, w5, hd, hy⟩ := ok
  have hts := hF.2.2.2.2
  have hcn : va_CN Rm s args own index y RX5 bytes maxL none (mWs y bytes maxL none) (nRm fr lc mc ms) mc ms n := va_cnB n hts (mWs_good w5) rfl rfl rfl hl (hts _ w4) hd hR
  exact va_callv (A0 := mA lo) (va_runIN (b := ad r) (As := As) (rest := rest) hF hM ⟨hcn, hy, hts _ w2⟩ ⟨mPc_blind, mc_pre hC hO hS⟩ rfl hn hsz hst (lv_room hw) hdg hcs) hS (fun _ _ h => h) (fun _ h => h) (fun u t H1 locs1 ht hvm hp hB hz1 hk1 hS1 => kk u.1 u.2 H1 locs1 hp (by rw [← ht]; exact hB) hS1)
theorem m_vNi {ret : FieldType} {post : Int32 → mAd → Prop} {ci r : Nat} {fs : List Value} {q : vw_C} (hF : mF p m c cc nL s args own) (hC : mC G lo sa s s.heap) (hO : mO G lo ad R H) (hS : va_S (mA lo) s.heap H locs) (hM : nI' l y bytes maxL ret fr lc mc ms G lo sa ad R (.ref (ad r) :: As) post) (ok : mOK q.1 y bytes maxL (some ret) n) (hl : (.methodLink own index y : Cond) ∈ lw_all)
    (hr : R r = some (.inr (ci, fs))) (hc : vwCl[ci]? = some q) (hR : fr + 1 ≤ Rm.frames ∧ 8 + (maxL + 11) + lc ≤ Rm.locals) (hn : As.length = n) (hsz : ls.size = nL) (hst : st = As.reverse ++ .ref (ad r) :: rest) (hw : (rest.map fun v => v.category).sum ≤ 8) (hcs : cells + mc ≤ Rm.cells ∧ slots + ms ≤ Rm.slots) (hdg : decode cc pc = .ok (.invokevirtual index, 3))
    (kk : ∀ (v : Int32) (ad1 : Nat → Nat) (R' : mM) (H1 : Heap) (locs1 : List Loc), post v (ad1, R') → mO G lo ad1 R' H1 → va_S (mA lo) s.heap H1 locs1 → W p l e Rm s m args below meth c H1 locs1 (cells + mc) (slots + ms) Q (F0 m (pc + 3) ls (.int v :: rest))) : W p l e Rm s m args below meth c H locs cells slots Q (F0 m pc ls st) := by
  obtain ⟨w2, w3, w4, w5, hd⟩ := ok
  have hts := hF.2.2.2.2
  exact va_calli (A0 := mA lo) (va_runV (C := q.1) (b := ad r) (As := As) (rest := rest) hF hM ⟨mc_B (nRm fr lc mc ms) hF w4 w5 hd hl hR, hts _ w2, hts _ w3⟩ ⟨mPc_blind, mc_recv hC hO hr hc, mc_pre hC hO hS⟩ rfl hn hsz hst (lv_room hw) hdg hcs) hS (fun _ _ h => h) (fun _ h => h) (fun v u t H1 locs1 ht hvm hp hB hz1 hk1 hS1 => kk v u.1 u.2 H1 locs1 hp (by rw [← ht]; exact hB) hS1)
/-- an object is put into a row -/
theorem m_qast {k r ro ci N : Nat} {f : Nat → Option Nat} {fs : List Value} {q : vw_C} {i : Int32} {j : Nat} (hF : mF p m c cc nL s args own) (hC : mC G lo sa s s.heap) (hO : mO G lo ad R H) (hS : va_S (mA lo) s.heap H locs) (hr : R r = some (.inl (G.2 k, N, .inr (.inr (.inr (.inr f)))))) (hv : R ro = some (.inr (ci, fs))) (hc : vwCl[ci]? = some q) (hk : (mTy G)[k]? = some (G.2 k, .object q.1))
    (hj : i.toNatClampNeg = j) (hin : vp_in i N) (hdg : decode cc pc = .ok (.aastore, 1))
    (kk : ∀ (H1 : Heap) (locs1 : List Loc), mO G lo ad (mU R r (.inl (G.2 k, N, .inr (.inr (.inr (.inr (va_up f j (some (ad ro)))))))) ) H1 → va_S (mA lo) s.heap H1 locs1 → W p l e Rm s m args below meth c H1 locs1 cells slots Q (F0 m (pc + 1) ls rest)) : W p l e Rm s m args below meth c H locs cells slots Q (F0 m pc ls (.ref (ad ro) :: .int i :: .ref (ad r) :: rest)) := by
  subst hj
  have hlt : i.toNatClampNeg < N := Nat.not_le.mp fun q => hin (Or.inr q)
  have h0 : ¬ i < 0 := fun q => hin (Or.inl q)
  obtain ⟨r', hr', cellV, g1, g2, g3, -⟩ := hO.1 ro _ hv
  have hcls := (hC.1.1 ci q hc).2
  obtain ⟨kA, comp, k1, k2, k3, -⟩ := (hC.1.2 k _ hk).2
  have hcomp : comp = G.1.1 ci := Option.some.inj (k3.symm.trans hcls.1)
  subst hcomp
  obtain ⟨kC, hkC, -⟩ := hcls.2
  have hP : H[ad r]? = some (vp_cell (G.2 k) (N, .inr (.inr (.inr (.inr f))))) := hO.1 r _ hr
  refine W.aast hF.1 hF.2.1 hP (fun q h => by cases h) (fun h => by cases h) k1 k2 rfl hkC ⟨h0, by show _ < (arrV _ _ _).slots.size; rw [arrV_size]; exact hlt⟩ g1 (fun q h => by rw [g3] at h; cases h) (by rw [g2]; exact hkC) (by rw [g2]; exact va_assign hcls) rfl rfl hdg fun H1 e z oq => ?_
  refine kk H1 _ (hO.set hr ?_ oq) (hS.put z oq (hO.2.1 r _ hr))
  show H1[ad r]? = some (vp_cell _ _)
  rw [e]
  rw [vp_cell_q, vp_cell_q, arrV_store]
  congr 2
  funext x
  by_cases hx : x = i.toNatClampNeg
  · subst hx
    simp [updV, va_up, va_rf]
  · simp [updV, va_up, hx]
/-- a piece of a row of ints into another one -/
theorem m_copy {r0 r1 n0 n1 : Nat} {f g : Nat → Int32} {sp dp n : Int32} {a b k : Nat} (hF : mF p m c cc nL s args own) (hC : mC G lo sa s s.heap) (hO : mO G lo ad R H) (hS : va_S (mA lo) s.heap H locs) (h0 : R r0 = some (.inl (G.2 0, n0, .inl f))) (h1 : R r1 = some (.inl (G.2 0, n1, .inl g))) (hne : r0 ≠ r1) (hl : (.methodLink own index arraycopyName : Cond) ∈ lw_all) (hnat : (.native arraycopyName : Cond) ∈ lw_all) (hstat : (.static arraycopyName : Cond) ∈ lw_all) (hini : (.initialized "java/lang/System" : Cond) ∈ lw_all)
    (e1 : ¬ sp < 0) (e2 : ¬ dp < 0) (e3 : ¬ n < 0) (ea : sp.toNatClampNeg = a) (eb : dp.toNatClampNeg = b) (ek : n.toNatClampNeg = k) (h4 : a + k ≤ n0) (h5 : b + k ≤ n1) (hsz : ls.size = nL) (hR : 1 ≤ Rm.frames ∧ 8 + (nativeFrameWords "java/lang/System" "arraycopy" 5 + 11) ≤ Rm.locals) (hw : (rest.map fun v => v.category).sum ≤ 8) (hdg : decode cc pc = .ok (.invokestatic index, 3))
    (kk : ∀ (H1 : Heap) (locs1 : List Loc), mO G lo ad (mU R r1 (.inl (G.2 0, n1, .inl (va_cpy f g a b k)))) H1 → va_S (mA lo) s.heap H1 locs1 → W p l e Rm s m args below meth c H1 locs1 cells slots Q (F0 m (pc + 3) ls rest)) : W p l e Rm s m args below meth c H locs cells slots Q (F0 m pc ls (.int n :: .int dp :: .ref (ad r1) :: .int sp :: .ref (ad r0) :: rest)) := by
  subst ea; subst eb; subst ek
  have hts := hF.2.2.2.2
  have hb := hF.2.1
  have hml : c.maxLocals = ls.size := hF.2.2.1.trans hsz.symm
  have nn : ∀ z : Int32, ¬ z < 0 → z.toInt = (z.toNatClampNeg : Int) := by
    intro z hz
    have hz0 : (0 : Int) ≤ z.toInt := by
      have := Int32.not_lt.mp hz
      simpa using Int32.le_iff_toInt_le.mp this
    show z.toInt = ((z.toInt.toNat : Nat) : Int)
    omega
  intro T hT X
  have hc0 : H[ad r0]? = some (vp_cell (G.2 0) (n0, .inl f)) := hO.1 r0 _ h0
  have hc1 : H[ad r1]? = some (vp_cell (G.2 0) (n1, .inl g)) := hO.1 r1 _ h1
  have hkty : (mTy G)[0]? = some (G.2 0, .int) := rfl
  obtain ⟨-, k0, hk0, cm0, hkk0⟩ := (hC.1.2 0 _ hkty).1 n0 (fun j => .int (f j))
  obtain ⟨-, k1, hk1, cm1, hkk1⟩ := (hC.1.2 0 _ hkty).1 n1 (fun j => .int (g j))
  obtain ⟨vm', X', step⟩ := X.arraycopy hF.1 hF.2.2.2.1 (hts _ hl) (hts _ hnat) (hts _ hstat) (hts _ hini) (src := ad r0) (dst := ad r1) (cs := vp_cell (G.2 0) (n0, .inl f)) (cd := vp_cell (G.2 0) (n1, .inl g)) (srcPos := sp) (destPos := dp) (n := n) (by rw [hT]; exact hc0) (by rw [hT]; exact hc1)
    (fun _ h => by cases h) (fun _ h => by cases h) (fun h => by cases h) (fun h => by cases h) hk0 hk1 hkk0 hkk1 (by simp [show refKind .int = false from rfl]) e1 e2 e3
    (by rw [nn sp e1, nn n e3]; show ¬ _ > ((arrV (G.2 0) n0 (fun j => .int (f j))).slots.size : Int); rw [arrV_size]; omega)
    (by rw [nn dp e2, nn n e3]; show ¬ _ > ((arrV (G.2 0) n1 (fun j => .int (g j))).slots.size : Int); rw [arrV_size]; omega)
    (fun vm₁ _ i hi => by
      have e : (vp_cell (G.2 0) (n0, .inl f)).slots.getD (sp.toNatClampNeg + i) .null = .int (f (sp.toNatClampNeg + i)) := by
        show (arrV (G.2 0) n0 (fun j => .int (f j))).slots.getD _ _ = _
        rw [Array.getD_eq_getD_getElem?, arrV_read _ _ (by omega)]
        rfl
      refine ⟨?_, ?_⟩
      · rw [e]
        rfl
      · rw [e]
        exact trivial)
    (g := F0 m pc ls (.int n :: .int dp :: .ref (ad r1) :: .int sp :: .ref (ad r0) :: rest)) rfl (by rw [hml]) (rest := rest) rfl (by rw [hb]; exact hdg) hR.1 (by have := hR.2; show 2 * 0 + _ + _ ≤ _; omega)
  have e1 : copied (vp_cell (G.2 0) (n0, .inl f)) (vp_cell (G.2 0) (n1, .inl g)) sp dp n = vp_cell (G.2 0) (n1, .inl (va_cpy f g sp.toNatClampNeg dp.toNatClampNeg n.toNatClampNeg)) := va_copied (fun z => .int z) (G.2 0) (G.2 0) f g h4
  rw [e1] at X' step
  have hlt : ad r1 < H.size := (Array.getElem?_eq_some_iff.mp hc1).1
  have hheap : ((T.setVm vm').setCell (ad r1) (vp_cell (G.2 0) (n1, .inl (va_cpy f g sp.toNatClampNeg dp.toNatClampNeg n.toNatClampNeg)))).heap = H.setIfInBounds (ad r1) (vp_cell (G.2 0) (n1, .inl (va_cpy f g sp.toNatClampNeg dp.toNatClampNeg n.toNatClampNeg))) := by rw [← hT]; rfl
  have oq : ∀ q : Nat, q ≠ ad r1 → (H.setIfInBounds (ad r1) (vp_cell (G.2 0) (n1, .inl (va_cpy f g sp.toNatClampNeg dp.toNatClampNeg n.toNatClampNeg))))[q]? = H[q]? := fun q hq => by simp [Array.getElem?_setIfInBounds, Ne.symm hq]
  have hA1 : mA lo (ad r1) := hO.2.1 r1 _ h1
  obtain ⟨t, a1, b1⟩ := kk _ _ (hO.set h1 (show (H.setIfInBounds (ad r1) _)[ad r1]? = some _ by simp [Array.getElem?_setIfInBounds, hlt]) oq) ⟨by simp; exact hS.1, fun q g1 g2 => by
      rw [oq q (fun e => g2 (by rw [e]; exact hA1))]
      exact hS.2.1 q g1 g2, fun q hq => by
      rcases List.mem_append.mp hq with h | h
      · exact hS.2.2 q h
      · obtain ⟨z, -, hz⟩ := List.mem_map.mp h
        rw [← hz]
        exact hA1⟩ _ hheap X'
  exact ⟨t, step t a1, b1⟩
end ALC
