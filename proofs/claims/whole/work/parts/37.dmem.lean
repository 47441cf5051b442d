/-! ===== a method that answers a double and may draw ===== -/
def mD (l : Launch) (y : MethodName) (cc : ByteArray) (n : Nat) (fr lc : Nat) (G : mG) (lo : Nat) (sa ad : Nat → Nat) (R : mM) (av : List Value) (post : UInt64 → mM → Prop) : Prop :=
  MetD lw_cs l y (mWs y cc n (some .double)) (mRm fr lc) (mPc G lo sa ad R av) (va_Qd post (mB G lo ad) (mA lo)) 0 0 (mA lo)
section DME
variable {p : Program} {l : Launch} {e : Env} {Rm : Room} {s : State} {m : MethodId} {args : Array Value} {below : List Frame} {meth : Method} {c : Code} {H : Heap} {locs : List Loc} {cells slots : Nat} {Q : State → Prop}
variable {cc bytes : ByteArray} {nL maxL pc n index fr lc : Nat} {ls : Array Slot} {rest st As : List Value} {G : mG} {lo : Nat} {sa ad : Nat → Nat} {R : mM} {own C : String} {y : MethodName}
theorem mD_of {y : MethodName} {fr lc : Nat} {av : List Value} {post : UInt64 → mM → Prop} (hy : plainName y.cls = true) (hlen : (lg_sl av).length ≤ nL)
    (body : ∀ (p : Program) (e : Env) (s : State) (m : MethodId) (args : Array Value) (below : List Frame) (meth : Method) (c : Code), mF p m c cc nL s args y.cls → meth.sig.returnType = some .double → meth.locks = false → mC G lo sa s s.heap →
      ∀ ls : Array Slot, lv_has ls nL (lv_args 0 av) → mO G lo ad R s.heap → va_S (mA lo) s.heap s.heap [] →
      ∀ Q : State → Prop, Q = MQD lw_cs below (va_Qd post (mB G lo ad) (mA lo)) args s 0 0 (mA lo) → W p l e (mRm fr lc) s m args below meth c s.heap [] 0 0 Q (F0 m 0 ls [])) : mD l y cc nL fr lc G lo sa ad R av post := by
  refine MetD.ofW (cc := cc) (maxL := nL) (ret := some .double) hy rfl ?_
  intro p e s m args below meth c s₁ B hml hv hd0
  obtain ⟨rfl, hC, hO⟩ := hv
  have hts := atoms_spec (ws := mWs y cc nL (some .double)) B.pre
  rw [lg_entry_eq]
  exact body p e s m _ below meth c ⟨B.exec, B.bytes, hml, findClass_of_methodNamed B.named, fun w h => hts w (List.mem_cons_of_mem _ h)⟩ B.returns B.notSynchronized hC _ (lv_entry av hlen) hO va_S.rf _ rfl
theorem m_dret {post : UInt64 → mM → Prop} {R' : mM} {v : UInt64} {d : Drawn} (hd : s.drawn.sameBut d lw_cs) (hF : mF p m c cc nL s args own) (hr : meth.sig.returnType = some .double) (hlk : meth.locks = false) (hQ : Q = MQD lw_cs below (va_Qd post (mB G lo ad) (mA lo)) args s cells slots (mA lo)) (hO : mO G lo ad R' H) (hS : va_S (mA lo) s.heap H locs) (hdg : decode cc pc = .ok (.dreturn, 1)) (hp : post v R') :
    W p l e Rm (s.setDrawn d) m args below meth c H locs cells slots Q (F0 m pc ls [.double v]) := by
  subst hQ
  refine W.endD hd ?_
  exact W.dret hF.1 hF.2.1 hr (fun t ht hW => ⟨⟨v, R', rfl, hp, by show mO G lo ad R' t.heap; rw [ht]; exact hO⟩, va_S.F (s := s.setDrawn d) hS ht⟩) hS.2.2 hdg hlk
end DME
def mnS : Nat → Nat → (Nat → Nat → Int32) → Int32 → Int32
  | 0, _, _, acc => acc
  | n + 1, i, F, acc => mnS n (i + 1) F (acc + F i 2 * F i 1)
def mnW : Nat → Nat → (Nat → Nat → Int32) → Int32 → Int32
  | 0, _, _, acc => acc
  | n + 1, i, F, acc => mnW n (i + 1) F (acc + F i 1)
