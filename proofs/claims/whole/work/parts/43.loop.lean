/-! ===== the law: both worlds in one memory; its calls ===== -/
theorem WC_WM {G : mG} {ad : Nat → Nat} {th : Int32} {g g2 : Nat → Int32} {nf no nf2 no2 : Nat} {F O F2 O2 : Nat → Nat → Int32} {f tf tv fw f2 it ch : Nat → Int32} {R : mM} :
    WC G ad g nf F f no O tf tv fw (WM G ad th g2 nf2 F2 f2 no2 O2 it ch R) = WM G ad th g2 nf2 F2 f2 no2 O2 it ch (WC G ad g nf F f no O tf tv fw R) := by
  funext r
  unfold WC WM
  by_cases h : 50 ≤ r ∧ r < 56
  · rw [if_pos h, if_neg (by omega), if_neg (by omega), if_neg (by omega), if_pos h]
  · rw [if_neg h, if_neg h]
theorem WM_b {G : mG} {ad : Nat → Nat} {th : Int32} {g : Nat → Int32} {nf no : Nat} {F O : Nat → Nat → Int32} {f it ch : Nat → Int32} {R : mM} {e : va_E} :
    mU (WM G ad th g nf F f no O it ch R) 60 e = WM G ad th g nf F f no O it ch (mU R 60 e) := by
  funext r
  by_cases hr : r = 60
  · subst hr; rw [mU_self]; rfl
  · rw [mU_ne hr]
    unfold WM
    rw [mU_ne hr]
theorem WM_at {G : mG} {ad : Nat → Nat} {th : Int32} {g : Nat → Int32} {nf no : Nat} {F O : Nat → Nat → Int32} {f it ch : Nat → Int32} {R : mM} {k : Nat} {x : Option va_E} (hk : ¬ (50 ≤ k ∧ k < 56)) (h : R k = x) : WM G ad th g nf F f no O it ch R k = x := by
  unfold WM; rw [if_neg hk]; exact h
theorem WC_at {G : mG} {ad : Nat → Nat} {g : Nat → Int32} {nf no : Nat} {F O : Nat → Nat → Int32} {f tf tv fw : Nat → Int32} {R : mM} {k : Nat} {x : Option va_E} (hk : 10 ≤ k ∧ (k < 100 ∨ 140 ≤ k)) (h : R k = x) : WC G ad g nf F f no O tf tv fw R k = x := by
  unfold WC; rw [if_neg (by omega), if_neg (by omega), if_neg (by omega)]; exact h
section SWR
variable {p : Program} {l : Launch} {e : Env} {Rm : Room} {s : State} {m : MethodId} {args : Array Value} {below : List Frame} {meth : Method} {c : Code} {H : Heap} {locs : List Loc} {cells slots mc ms : Nat} {Q : State → Prop}
variable {cc bytes : ByteArray} {nL maxL pc n index fr lc : Nat} {ls : Array Slot} {rest st As : List Value} {G : mG} {lo : Nat} {sa ad : Nat → Nat} {R : mM} {own C : String} {y : MethodName} {hh : List (Nat × Nat × Nat × Nat)}
theorem m_sW {post : Int32 → mAd → Prop} (hF : mF p m c cc nL s args own) (hC : mC G lo sa s s.heap) (hO : mO G lo ad R H) (hS : va_S (mA lo) s.heap H locs) (hM : nW l y bytes maxL hh fr lc mc ms G lo sa ad R As post) (ok : (.static y : Cond) ∈ lw_all ∧ (.initialized y.cls : Cond) ∈ lw_all ∧ (.codeWith y bytes maxL (some .int) hh : Cond) ∈ lw_all) (hd : mHd y n) (hl : (.methodLink own index y : Cond) ∈ lw_all)
    (hR : fr + 1 ≤ Rm.frames ∧ 8 + (maxL + 11) + lc ≤ Rm.locals) (hn : As.length = n) (hsz : ls.size = nL) (hst : st = As.reverse ++ rest) (hw : (rest.map fun v => v.category).sum ≤ 8) (hcs : cells + mc ≤ Rm.cells ∧ slots + ms ≤ Rm.slots) (hdg : decode cc pc = .ok (.invokestatic index, 3))
    (kk : ∀ (v : Int32) (ad1 : Nat → Nat) (R' : mM) (H1 : Heap) (locs1 : List Loc), post v (ad1, R') → mO G lo ad1 R' H1 → va_S (mA lo) s.heap H1 locs1 → W p l e Rm s m args below meth c H1 locs1 (cells + mc) (slots + ms) Q (F0 m (pc + 3) ls (.int v :: rest))) : W p l e Rm s m args below meth c H locs cells slots Q (F0 m pc ls st) := by
  obtain ⟨w1, w2, w3⟩ := ok
  have hts := hF.2.2.2.2
  have hG : GoodIn lw_all (Cond.codeWith y bytes maxL (some .int) hh :: lw_all) := fun w hw => by
    rcases List.mem_cons.mp hw with rfl | hw
    · exact ⟨w3, good_of_word (lw_goodw w3)⟩
    · exact ⟨hw, good_of_word (lw_goodw hw)⟩
  have cw : vx_CSW Rm s args own index y bytes maxL (some .int) hh (Cond.codeWith y bytes maxL (some .int) hh :: lw_all) (nRm fr lc mc ms) mc ms n := by
    refine ⟨⟨rfl, rfl, hR.1, hR.2, pay_in hts hG, List.mem_cons_self⟩, hts _ w3, hts _ w2, ⟨hd.1, hd.2.1⟩, fun sig h => ?_, hts _ hl, hts _ w1⟩
    have h2 := hd.2.2
    rw [h] at h2
    exact (Option.some.inj h2).symm
  exact va_calli (A0 := mA lo) (vx_runSW (As := As) (rest := rest) hF hM cw ⟨mPc_blind, mc_pre hC hO hS⟩ rfl hn hsz hst (lv_room hw) hdg hcs) hS (fun _ _ h => h) (fun _ h => h) (fun v u t H1 locs1 ht hvm hp hB hz1 hk1 hS1 => kk v u.1 u.2 H1 locs1 hp (by rw [← ht]; exact hB) hS1)
/-- mean: it may draw -/
theorem m_vD {d0 : Drawn} {post : UInt64 → mM → Prop} {ci r : Nat} {fs : List Value} {q : vw_C} (hd0 : s.drawn.sameBut d0 lw_cs) (hF : mF p m c cc nL (s.setDrawn d0) args own) (hC : mC G lo sa (s.setDrawn d0) (s.setDrawn d0).heap) (hO : mO G lo ad R H) (hS : va_S (mA lo) s.heap H locs) (hM : mD l y bytes maxL fr lc G lo sa ad R (.ref (ad r) :: As) post) (ok : mOK q.1 y bytes maxL (some .double) n) (hl : (.methodLink own index y : Cond) ∈ lw_all)
    (hr : R r = some (.inr (ci, fs))) (hc : vwCl[ci]? = some q) (hR : fr + 1 ≤ Rm.frames ∧ 8 + (maxL + 11) + lc ≤ Rm.locals) (hn : As.length = n) (hsz : ls.size = nL) (hst : st = As.reverse ++ .ref (ad r) :: rest) (hw : (rest.map fun v => v.category).sum ≤ 8) (hcs : cells ≤ Rm.cells ∧ slots ≤ Rm.slots) (hdg : decode cc pc = .ok (.invokevirtual index, 3))
    (kk : ∀ (v : UInt64) (R' : mM) (H1 : Heap) (locs1 : List Loc), post v R' → mO G lo ad R' H1 → va_S (mA lo) s.heap H1 locs1 → ∀ d' : Drawn, s.drawn.sameBut d' lw_cs → W p l e Rm (s.setDrawn d') m args below meth c H1 locs1 cells slots Q (F0 m (pc + 3) ls (.double v :: rest))) : W p l e Rm (s.setDrawn d0) m args below meth c H locs cells slots Q (F0 m pc ls st) := by
  obtain ⟨w2, w3, w4, w5, hd⟩ := ok
  have hts := hF.2.2.2.2
  exact va_calldD hd0 (A0 := mA lo) (va_runV_D (C := q.1) (b := ad r) (As := As) (rest := rest) hF hM ⟨mc_B (mRm fr lc) hF w4 w5 hd hl hR, hts _ w2, hts _ w3⟩ ⟨mPc_blind, mc_recv hC hO hr hc, mc_pre hC hO hS⟩ rfl hn hsz hst (lv_room hw) hdg hcs) hS (fun _ _ h => h) (fun _ h => h) (fun v R' t H1 locs1 ht hvm hp hB hz1 hk1 hS1 d' hd' => kk v R' H1 locs1 hp (by rw [← ht]; exact hB) hS1 d' hd')
end SWR
/-- what the law's walk stands on -/
def LwX (p : Program) (l : Launch) (s : State) (m : MethodId) (meth : Method) (c : Code) (b L : Nat) (xs : Nat → Int32) (G : mG) (sa : Nat → Nat) : Prop :=
  (∀ d, mF p m c cL_law 9 (s.setDrawn d) #[Value.ref b] RL) ∧ (∀ d, mC G s.heap.size sa (s.setDrawn d) (s.setDrawn d).heap) ∧ (meth.sig.returnType = ret) ∧ (meth.locks = false) ∧ (l.stackTraces = false) ∧ (va_X b L xs s s.heap) ∧ (b < s.heap.size) ∧ (L ≤ 2560)
theorem LwX.hF {p : Program} {l : Launch} {s : State} {m : MethodId} {meth : Method} {c : Code} {b L : Nat} {xs : Nat → Int32} {G : mG} {sa : Nat → Nat} (h : LwX p l s m meth c b L xs G sa) : ∀ d, mF p m c cL_law 9 (s.setDrawn d) #[Value.ref b] RL := h.1
theorem LwX.hC {p : Program} {l : Launch} {s : State} {m : MethodId} {meth : Method} {c : Code} {b L : Nat} {xs : Nat → Int32} {G : mG} {sa : Nat → Nat} (h : LwX p l s m meth c b L xs G sa) : ∀ d, mC G s.heap.size sa (s.setDrawn d) (s.setDrawn d).heap := h.2.1
theorem LwX.hr {p : Program} {l : Launch} {s : State} {m : MethodId} {meth : Method} {c : Code} {b L : Nat} {xs : Nat → Int32} {G : mG} {sa : Nat → Nat} (h : LwX p l s m meth c b L xs G sa) : meth.sig.returnType = ret := h.2.2.1
theorem LwX.hlk {p : Program} {l : Launch} {s : State} {m : MethodId} {meth : Method} {c : Code} {b L : Nat} {xs : Nat → Int32} {G : mG} {sa : Nat → Nat} (h : LwX p l s m meth c b L xs G sa) : meth.locks = false := h.2.2.2.1
theorem LwX.hfl {p : Program} {l : Launch} {s : State} {m : MethodId} {meth : Method} {c : Code} {b L : Nat} {xs : Nat → Int32} {G : mG} {sa : Nat → Nat} (h : LwX p l s m meth c b L xs G sa) : l.stackTraces = false := h.2.2.2.2.1
theorem LwX.hX {p : Program} {l : Launch} {s : State} {m : MethodId} {meth : Method} {c : Code} {b L : Nat} {xs : Nat → Int32} {G : mG} {sa : Nat → Nat} (h : LwX p l s m meth c b L xs G sa) : va_X b L xs s s.heap := h.2.2.2.2.2.1
theorem LwX.hbl {p : Program} {l : Launch} {s : State} {m : MethodId} {meth : Method} {c : Code} {b L : Nat} {xs : Nat → Int32} {G : mG} {sa : Nat → Nat} (h : LwX p l s m meth c b L xs G sa) : b < s.heap.size := h.2.2.2.2.2.2.1
theorem LwX.hL {p : Program} {l : Launch} {s : State} {m : MethodId} {meth : Method} {c : Code} {b L : Nat} {xs : Nat → Int32} {G : mG} {sa : Nat → Nat} (h : LwX p l s m meth c b L xs G sa) : L ≤ 2560 := h.2.2.2.2.2.2.2
abbrev lLo (b : Nat) (ad : Nat → Nat) (i : Nat) : List (Nat × Value) := [(0, .ref b), (1, .ref (ad 0)), (2, .ref (ad 50)), (3, .ref (ad 60)), (4, .int (nI i))]
/-- from pc on, with i at the script and q calls behind: the law comes to its end with true -/
def LAt (p : Program) (l : Launch) (e : Env) (s : State) (m : MethodId) (below : List Frame) (meth : Method) (c : Code) (b : Nat) (G : mG) (pc i q : Nat) : Prop :=
  ∀ (d : Drawn) (ad : Nat → Nat) (th : Int32) (g : Nat → Int32) (nf : Nat) (F : Nat → Nat → Int32) (f : Nat → Int32) (no : Nat) (O : Nat → Nat → Int32) (tf tv fw it ch : Nat → Int32) (o : Nat → Int64) (Ro : mM) (H : Heap) (locs : List Loc) (ls : Array Slot) (cells slots : Nat),
    s.drawn.sameBut d lw_cs → Inv q g nf F f no O → fw 0 = 0 → Ro 60 = some (.inl (G.2 1, 1, .inr (.inl o))) → Ro 200 = none →
    mO G s.heap.size ad (WM G ad th g nf F f no O it ch (WC G ad g nf F f no O tf tv fw Ro)) H → va_S (mA s.heap.size) s.heap H locs → lv_has ls 9 (lLo b ad i) → cells ≤ 100 + 2 * q → slots ≤ 2000 + 14 * q →
    W p l e room_1 (s.setDrawn d) m #[Value.ref b] below meth c H locs cells slots (lw_Z below #[Value.ref b] s) (F0 m pc ls [])
theorem LAt.base {p : Program} {l : Launch} {e : Env} {s : State} {m : MethodId} {below : List Frame} {meth : Method} {c : Code} {b L : Nat} {xs : Nat → Int32} {G : mG} {sa : Nat → Nat} (X : LwX p l s m meth c b L xs G sa) {d : Drawn} {H : Heap} {locs : List Loc} {ls : Array Slot} {cells slots q pc : Nat} (hd : s.drawn.sameBut d lw_cs) (hq : q ≤ 512) (hS : va_S (mA s.heap.size) s.heap H locs) (hc : cells ≤ 100 + 2 * q) (hs : slots ≤ 2000 + 14 * q) (hdg : decode cL_law pc = .ok (.ireturn, 1)) :
    W p l e room_1 (s.setDrawn d) m #[Value.ref b] below meth c H locs cells slots (lw_Z below #[Value.ref b] s) (F0 m pc ls [.int 1]) := by
  refine va_forget (s := s.setDrawn d) (fun q hq => hS.2.2 q hq) ?_
  refine W.widen (k := 616075) (n := 7247878) (by omega) (by omega) ?_
  exact lw_ret hd (X.hF d).1 (X.hF d).2.1 X.hr X.hlk hdg
