/-! ===== a method that answers an object by its role; class readings ===== -/
def mR (l : Launch) (y : MethodName) (cc : ByteArray) (n : Nat) (rt : FieldType) (fr lc : Nat) (G : mG) (lo : Nat) (sa : mSc) (ad : Nat → Nat) (R : mM) (av : List Value) (a : Nat) : Prop :=
  Met l y (mWs y cc n (some rt)) (mRm fr lc) (mPc G lo sa ad R av) (va_Qr (fun R' : mM => R' = R) (fun (R' : mM) (x : Nat) (t : State) => x = a ∧ mO G lo ad R' t.heap) (mA lo)) 0 0 (mA lo)
section CLM
variable {p : Program} {l : Launch} {e : Env} {Rm : Room} {s : State} {m : MethodId} {args : Array Value} {below : List Frame} {meth : Method} {c : Code} {H : Heap} {locs : List Loc} {cells slots : Nat} {Q : State → Prop}
variable {cc bytes : ByteArray} {nL maxL pc n index fr lc : Nat} {ls : Array Slot} {rest st As : List Value} {G : mG} {lo : Nat} {sa : mSc} {ad : Nat → Nat} {R : mM} {own C : String} {y : MethodName} {rt : FieldType}
theorem mR_of {av : List Value} {a : Nat} (hy : plainName y.cls = true) (hlen : (lg_sl av).length ≤ nL)
    (body : ∀ (p : Program) (e : Env) (s : State) (m : MethodId) (args : Array Value) (below : List Frame) (meth : Method) (c : Code), mF p m c cc nL s args y.cls → meth.sig.returnType = some rt → meth.locks = false → mC G lo sa s s.heap →
      ∀ ls : Array Slot, lv_has ls nL (lv_args 0 av) → mO G lo ad R s.heap → va_S (mA lo) s.heap s.heap [] →
      ∀ Q : State → Prop, Q = MQ below (va_Qr (fun R' : mM => R' = R) (fun (R' : mM) (x : Nat) (t : State) => x = a ∧ mO G lo ad R' t.heap) (mA lo)) args s 0 0 (mA lo) → W p l e (mRm fr lc) s m args below meth c s.heap [] 0 0 Q (F0 m 0 ls [])) : mR l y cc nL rt fr lc G lo sa ad R av a := by
  refine Met.ofW (cc := cc) (maxL := nL) (ret := some rt) hy rfl ?_
  intro p e s m args below meth c s₁ B hml hv
  obtain ⟨rfl, hC, hO⟩ := hv
  have hts := atoms_spec (ws := mWs y cc nL (some rt)) B.pre
  rw [lg_entry_eq]
  exact body p e s m _ below meth c ⟨B.exec, B.bytes, hml, findClass_of_methodNamed B.named, fun w h => hts w (List.mem_cons_of_mem _ h)⟩ B.returns B.notSynchronized hC _ (lv_entry av hlen) hO va_S.rf _ rfl
theorem m_aret {a : Nat} {C : String} (hF : mF p m c cc nL s args own) (hr : meth.sig.returnType = some (.object C)) (hlk : meth.locks = false) (hQ : Q = MQ below (va_Qr (fun R' : mM => R' = R) (fun (R' : mM) (x : Nat) (t : State) => x = a ∧ mO G lo ad R' t.heap) (mA lo)) args s cells slots (mA lo)) (hO : mO G lo ad R H) (hS : va_S (mA lo) s.heap H locs) (hdg : decode cc pc = .ok (.areturn, 1)) :
    W p l e Rm s m args below meth c H locs cells slots Q (F0 m pc ls [.ref a]) := hQ ▸
  W.aret hF.1 hF.2.1 hr (Or.inl ⟨_, rfl⟩) (Or.inr ⟨_, rfl⟩) (fun t ht hW => ⟨⟨R, a, rfl, rfl, rfl, by rw [ht]; exact hO⟩, hS.F ht⟩) hS.2.2 hdg hlk
theorem m_vR {ret : FieldType} {ci r a : Nat} {fs : List Value} {q : vw_C} (hF : mF p m c cc nL s args own) (hC : mC G lo sa s s.heap) (hO : mO G lo ad R H) (hS : va_S (mA lo) s.heap H locs) (hM : mR l y bytes maxL ret fr lc G lo sa ad R (.ref (ad r) :: As) a) (ok : mOK q.1 y bytes maxL (some ret) n) (hl : (.methodLink own index y : Cond) ∈ lw_all)
    (hr : R r = some (.inr (ci, fs))) (hc : vwCl[ci]? = some q) (hR : fr + 1 ≤ Rm.frames ∧ 8 + (maxL + 11) + lc ≤ Rm.locals) (hn : As.length = n) (hsz : ls.size = nL) (hst : st = As.reverse ++ .ref (ad r) :: rest) (hw : (rest.map fun v => v.category).sum ≤ 8) (hcs : cells ≤ Rm.cells ∧ slots ≤ Rm.slots) (hdg : decode cc pc = .ok (.invokevirtual index, 3))
    (kk : ∀ (H1 : Heap) (locs1 : List Loc), mO G lo ad R H1 → va_S (mA lo) s.heap H1 locs1 → W p l e Rm s m args below meth c H1 locs1 cells slots Q (F0 m (pc + 3) ls (.ref a :: rest))) : W p l e Rm s m args below meth c H locs cells slots Q (F0 m pc ls st) := by
  obtain ⟨w2, w3, w4, w5, hd⟩ := ok
  have hts := hF.2.2.2.2
  exact va_callr (A0 := mA lo) (va_runV (C := q.1) (b := ad r) (As := As) (rest := rest) hF hM ⟨mc_B (mRm fr lc) hF w4 w5 hd hl hR, hts _ w2, hts _ w3⟩ ⟨mPc_blind, mc_recv hC hO hr hc, mc_pre hC hO hS⟩ rfl hn hsz hst (lv_room hw) hdg hcs) hS (fun _ _ h => h) (fun _ h => h) (fun R' x t H1 locs1 ht hvm hp hB hz1 hk1 hS1 => by
    obtain ⟨rfl, hO1⟩ := hB
    subst hp
    exact kk H1 locs1 (by rw [← ht]; exact hO1) hS1)
end CLM
theorem adF_in {ad : Nat → Nat} {b n i : Nat} (h : i < n) : va_rf (adF ad b n i) = .ref (ad (b + i)) := by simp [adF, va_rf, h]
theorem adF_out {ad : Nat → Nat} {b n i : Nat} (h : n ≤ i) : va_rf (adF ad b n i) = .null := by simp [adF, va_rf, Nat.not_lt.mpr h]
theorem mO.inj {G : mG} {lo : Nat} {ad : Nat → Nat} {R : mM} {H : Heap} (h : mO G lo ad R H) {r r' : Nat} {e e' : va_E} (h1 : R r = some e) (h2 : R r' = some e') : some (ad r) = some (ad r') ↔ r = r' :=
  ⟨fun q => h.2.2 r r' e e' h1 h2 (Option.some.inj q), fun q => by rw [q]⟩
def c_lateTo (n : Nat) (d : Int32) (O : Nat → Nat → Int32) : Nat → Nat → Int32 := fun j => if j < n ∧ O j 4 = 0 ∧ O j 3 ≤ d then upd (O j) 4 2 else O j
theorem c_lateTo_0 {q : Int32} {O : Nat → Nat → Int32} : c_lateTo 0 q O = O := by funext i; simp [c_lateTo]
theorem c_lateTo_at {n : Nat} {q : Int32} {O : Nat → Nat → Int32} : c_lateTo n q O n = O n := by simp [c_lateTo]
theorem c_lateTo_s {n : Nat} {q : Int32} {O : Nat → Nat → Int32} (h : O n 4 = 0 ∧ O n 3 ≤ q) : va_up (c_lateTo n q O) n (upd (c_lateTo n q O n) 4 2) = c_lateTo (n + 1) q O := by
  funext i
  by_cases hi : i = n
  · subst hi
    simp [va_up, c_lateTo, h]
  · simp only [va_up, if_neg hi, c_lateTo]
    by_cases h2 : i < n
    · simp [h2, show i < n + 1 by omega]
    · simp [h2, show ¬ i < n + 1 by omega]
theorem c_lateTo_b {n : Nat} {q : Int32} {O : Nat → Nat → Int32} (h : ¬ (O n 4 = 0 ∧ O n 3 ≤ q)) : c_lateTo n q O = c_lateTo (n + 1) q O := by
  funext i
  simp only [c_lateTo]
  by_cases h3 : i = n
  · subst h3
    simp [h]
  · by_cases h2 : i < n
    · simp [h2, show i < n + 1 by omega]
    · simp [h2, show ¬ i < n + 1 by omega]
theorem late_eq {n m : Nat} {O : Nat → Nat → Int32} (hm : m + 1 < 2 ^ 31) : c_lateTo n (nI (m + 1) - 1) O = m_lateTo n (nI (m + 1)) O := by
  funext j
  simp only [c_lateTo, m_lateTo]
  have : O j 3 ≤ nI (m + 1) - 1 ↔ O j 3 < nI (m + 1) := by
    rw [nI_pred, Int32.le_iff_toInt_le, Int32.lt_iff_toInt_lt, nI_toInt (by omega), nI_toInt (by omega)]
    omega
  simp only [this]
theorem cool_min {i nf b : Nat} {F : Nat → Nat → Int32} (h : nf ≤ i) : m_coolTo (min i nf) b F = m_coolTo (min (i + 1) nf) b F := by
  rw [Nat.min_eq_right h, Nat.min_eq_right (by omega)]
/-- dipped or not: what of the class's advise -/
def c_advL : Nat → Nat → Int32 → Int32 → (Nat → Int32) → (Nat → Nat → Int32) → Int32
  | 0, _, best, _, _, _ => best
  | n + 1, i, best, most, g, F =>
    if p_can (F i) g ∧ most < p_gain (F i) (g 1) then c_advL n (i + 1) (nI i) (p_gain (F i) (g 1)) g F else c_advL n (i + 1) best most g F
def c_count (g : Nat → Int32) (nf : Nat) (F : Nat → Nat → Int32) (f : Nat → Int32) (no : Nat) (O : Nat → Nat → Int32) (k : Nat) : Int32 :=
  match k with
  | 0 => g 3
  | 1 => nI nf
  | 2 => m_hangL nf 0 F 0
  | 3 => p_sum 36 f 0 0
  | 4 => nI no
  | 5 => m_with no O 1
  | 6 => m_with no O 2
  | 7 => g 4
  | _ => g 5
def c_frame (φ : Nat → Int32) (k : Nat) : Int32 := if k < 7 then φ k else p_size φ
def cg_1 (g : Nat → Int32) (nf : Nat) (F : Nat → Nat → Int32) (f : Nat → Int32) (no : Nat) (O : Nat → Nat → Int32) : Int64 := dgL 9 0 (c_count g nf F f no O) 613
def cg_2 (g : Nat → Int32) (nf : Nat) (F : Nat → Nat → Int32) (f : Nat → Int32) (no : Nat) (O : Nat → Nat → Int32) : Int64 := dgL 4 0 (fun k => m_vat g (nI k)) (cg_1 g nf F f no O)
def cg_3 (g : Nat → Int32) (nf : Nat) (F : Nat → Nat → Int32) (f : Nat → Int32) (no : Nat) (O : Nat → Nat → Int32) : Int64 := dgN nf 0 (fun i d => dgL 8 0 (c_frame (F i)) d) (cg_2 g nf F f no O)
def cg_4 (g : Nat → Int32) (nf : Nat) (F : Nat → Nat → Int32) (f : Nat → Int32) (no : Nat) (O : Nat → Nat → Int32) : Int64 := dgN 4 0 (fun k d => dgL 9 1 (fun z => f (9 * k + z - 1)) d) (cg_3 g nf F f no O)
def cg_5 (g : Nat → Int32) (nf : Nat) (F : Nat → Nat → Int32) (f : Nat → Int32) (no : Nat) (O : Nat → Nat → Int32) : Int64 := dgN no 0 (fun j d => dgL 6 0 (V_order f (O j)) d) (cg_4 g nf F f no O)
