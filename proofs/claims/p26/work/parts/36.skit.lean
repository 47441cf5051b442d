/-! ===== rows for arrays of arrays and for the law's frames; calls of the law's own methods ===== -/
theorem mO.grow {G : mG} {lo : Nat} {ad ad1 : Nat → Nat} {R R1 : mM} {H H1 : Heap} (h : mO G lo ad R H) (N : Nat → Prop) (hlo : lo ≤ H.size) (oq : ∀ x : Nat, x < H.size → H1[x]? = H[x]?)
    (hold : ∀ q e, R1 q = some e → ¬ N q → R q = some e ∧ ad1 q = ad q) (hnew : ∀ q e, R1 q = some e → N q → H.size ≤ ad1 q ∧ va_at G.1 vwCl (ad1 q, e) H1)
    (hinj : ∀ q q' e e', R1 q = some e → R1 q' = some e' → N q → N q' → ad1 q = ad1 q' → q = q') : mO G lo ad1 R1 H1 := by
  refine ⟨fun q e hq => ?_, fun q e hq => ?_, fun q q' e e' h1 h2 h3 => ?_⟩
  · by_cases hN : N q
    · exact (hnew q e hq hN).2
    · obtain ⟨a, b⟩ := hold q e hq hN
      rw [b]; exact (h.1 q e a).kept (oq _ (h.lt a))
  · by_cases hN : N q
    · exact Nat.le_trans hlo (hnew q e hq hN).1
    · obtain ⟨a, b⟩ := hold q e hq hN
      rw [b]; exact h.2.1 q e a
  · by_cases hN : N q <;> by_cases hN' : N q'
    · exact hinj q q' e e' h1 h2 hN hN' h3
    · obtain ⟨a, b⟩ := hold q' e' h2 hN'
      have := h.lt a; have := (hnew q e h1 hN).1; rw [b] at h3; omega
    · obtain ⟨a, b⟩ := hold q e h1 hN
      have := h.lt a; have := (hnew q' e' h2 hN').1; rw [b] at h3; omega
    · obtain ⟨a, b⟩ := hold q e h1 hN
      obtain ⟨a', b'⟩ := hold q' e' h2 hN'
      exact h.2.2 q q' e e' a a' (by rw [← b, ← b']; exact h3)
theorem mO.ren {G : mG} {lo : Nat} {ad ad1 : Nat → Nat} {R R1 : mM} {H : Heap} (h : mO G lo ad R H) (τ : Nat → Nat) (h1 : ∀ q e, R1 q = some e → R (τ q) = some e ∧ ad1 q = ad (τ q))
    (h2 : ∀ q q' e e', R1 q = some e → R1 q' = some e' → τ q = τ q' → q = q') : mO G lo ad1 R1 H := by
  refine ⟨fun q e hq => ?_, fun q e hq => ?_, fun q q' e e' g1 g2 g3 => ?_⟩
  · obtain ⟨a, b⟩ := h1 q e hq
    rw [b]; exact h.1 _ e a
  · obtain ⟨a, b⟩ := h1 q e hq
    rw [b]; exact h.2.1 _ e a
  · obtain ⟨a, b⟩ := h1 q e g1
    obtain ⟨a', b'⟩ := h1 q' e' g2
    exact h2 q q' e e' g1 g2 (h.2.2 _ _ e e' a a' (by rw [← b, ← b']; exact g3))
def mMul (G : mG) (ad : Nat → Nat) (r B N K : Nat) (R : mM) : mM := fun x => if x = r then some (rfA G 1 N (adF ad B N)) else if B ≤ x ∧ x < B + N then some (.inl (G.2 0, K, .inl (fun _ => 0))) else R x
def nR' (l : Launch) (y : MethodName) (cc : ByteArray) (n : Nat) (rt : FieldType) (fr lc mc ms : Nat) (G : mG) (lo : Nat) (sa : mSc) (ad : Nat → Nat) (R : mM) (av : List Value) (post : mAd → Prop) (r : Nat) : Prop :=
  Met l y (mWs y cc n (some rt)) (nRm fr lc mc ms) (mPc G lo sa ad R av) (va_Qr post (fun (u : mAd) (a : Nat) (t : State) => a = u.1 r ∧ mO G lo u.1 u.2 t.heap) (mA lo)) mc ms (mA lo)
section SKT
variable {p : Program} {l : Launch} {e : Env} {Rm : Room} {s : State} {m : MethodId} {args : Array Value} {below : List Frame} {meth : Method} {c : Code} {H : Heap} {locs : List Loc} {cells slots mc ms : Nat} {Q : State → Prop}
variable {cc bytes : ByteArray} {nL maxL pc n index fr lc : Nat} {ls : Array Slot} {rest st As : List Value} {G : mG} {lo : Nat} {sa : mSc} {ad : Nat → Nat} {R : mM} {own C : String} {y : MethodName} {rt : FieldType}
theorem m_aldP (hF : mF p m c cc nL s args own) (hC : mC G lo sa s s.heap) (hO : mO G lo ad R H) {r n : Nat} {f : Nat → Option Nat} (hr : R r = some (rfA G 2 n f)) {i : Int32} {j : Nat} (hj : i.toNatClampNeg = j) (hin : vp_in i n) (hdg : decode cc pc = .ok (.aaload, 1)) {v : Value} (hv : va_rf (f j) = v)
    (kk : W p l e Rm s m args below meth c H locs cells slots Q (F0 m (pc + 1) ls (v :: rest))) : W p l e Rm s m args below meth c H locs cells slots Q (F0 m pc ls (.int i :: .ref (ad r) :: rest)) := by
  subst hj; subst hv
  exact va_aldq hF.1 hF.2.1 hC.1 (hO.one hr) 0 2 rfl rfl hin hdg kk
theorem m_aldA (hF : mF p m c cc nL s args own) (hC : mC G lo sa s s.heap) (hO : mO G lo ad R H) {r n : Nat} {f : Nat → Option Nat} (hr : R r = some (rfA G 1 n f)) {i : Int32} {j : Nat} (hj : i.toNatClampNeg = j) (hin : vp_in i n) (hdg : decode cc pc = .ok (.aaload, 1)) {v : Value} (hv : va_rf (f j) = v)
    (kk : W p l e Rm s m args below meth c H locs cells slots Q (F0 m (pc + 1) ls (v :: rest))) : W p l e Rm s m args below meth c H locs cells slots Q (F0 m pc ls (.int i :: .ref (ad r) :: rest)) := by
  subst hj; subst hv
  have hlt : i.toNatClampNeg < n := Nat.not_le.mp fun q => hin (Or.inr q)
  have hP : H[ad r]? = some (vp_cell (G.2 1) (n, .inr (.inr (.inr (.inr f))))) := hO.1 r _ hr
  exact W.aald (v := va_rf (f i.toNatClampNeg)) (ty := .array .int) hF.1 hF.2.1 hP ((hC.1.2 1 _ rfl).1 n (fun j => va_rf (f j))) rfl (fun q => by cases q) (by show ¬ (i < 0 ∨ (arrV _ _ _).slots.size ≤ _); rw [arrV_size]; exact hin) (by show (arrV _ _ _).slots[_]? = _; rw [arrV_read _ _ hlt]) rfl rfl hdg kk
/-- an array of ints is put into a row -/
theorem m_aast {r ro N K : Nat} {f : Nat → Option Nat} {z : Nat → Int32} {i : Int32} {j : Nat} (hF : mF p m c cc nL s args own) (hC : mC G lo sa s s.heap) (hO : mO G lo ad R H) (hS : va_S (mA lo) s.heap H locs) (hr : R r = some (rfA G 1 N f)) (hv : R ro = some (.inl (G.2 0, K, .inl z)))
    (hj : i.toNatClampNeg = j) (hin : vp_in i N) (hdg : decode cc pc = .ok (.aastore, 1))
    (kk : ∀ (H1 : Heap) (locs1 : List Loc), mO G lo ad (mU R r (rfA G 1 N (va_up f j (some (ad ro))))) H1 → va_S (mA lo) s.heap H1 locs1 → W p l e Rm s m args below meth c H1 locs1 cells slots Q (F0 m (pc + 1) ls rest)) : W p l e Rm s m args below meth c H locs cells slots Q (F0 m pc ls (.ref (ad ro) :: .int i :: .ref (ad r) :: rest)) := by
  subst hj
  have hlt : i.toNatClampNeg < N := Nat.not_le.mp fun q => hin (Or.inr q)
  have h0 : ¬ i < 0 := fun q => hin (Or.inl q)
  have hV : H[ad ro]? = some (vp_cell (G.2 0) (K, .inl z)) := hO.1 ro _ hv
  obtain ⟨comp, cA2, kA, k3, -, k1, k2, k4⟩ := arrayOverA_spec (args := args) (first := s) (o := none) (idx := []) hC.2.2.1.1
  cases ((hC.1.2 1 _ rfl).2 : s.vm.findClass ("[" ++ (FieldType.array .int).toString) = some (G.2 1)).symm.trans k4
  cases k3.symm.trans ((hC.1.2 0 _ rfl).2 : s.vm.findClass ("[" ++ FieldType.int.toString) = some (G.2 0))
  obtain ⟨kE, hkE, -⟩ := Vm.findClass_spec k3
  have hP : H[ad r]? = some (vp_cell (G.2 1) (N, .inr (.inr (.inr (.inr f))))) := hO.1 r _ hr
  refine W.aast hF.1 hF.2.1 hP (fun q h => by cases h) (fun h => by cases h) k1 k2 rfl hkE ⟨h0, by show _ < (arrV _ _ _).slots.size; rw [arrV_size]; exact hlt⟩ hV (fun q h => by cases h) hkE (va_asg _ _) rfl rfl hdg fun H1 e z oq => ?_
  refine kk H1 _ (hO.set hr ?_ oq) (hS.put z oq (hO.2.1 r _ hr))
  show H1[ad r]? = some (vp_cell _ _)
  rw [e]
  rw [vp_cell_q, vp_cell_q, arrV_store]
  congr 2
  funext q
  by_cases hq : q = i.toNatClampNeg
  · subst hq
    simp [updV, va_up, va_rf]
  · simp [updV, va_up, hq]
/-- a row for arrays of ints -/
theorem m_newqA {r N : Nat} {v : Int32} (hF : mF p m c cc nL s args own) (hC : mC G lo sa s s.heap) (hO : mO G lo ad R H) (hS : va_S (mA lo) s.heap H locs) (hr : R r = none) (hcl : (.classLink own index "[I" : Cond) ∈ lw_all)
    (hn : ¬ v < 0) (hN : v.toNatClampNeg = N) (hbytes : N * 4 ≤ 536870912) (hcs : cells + 1 ≤ Rm.cells ∧ slots + N ≤ Rm.slots) (hdg : decode cc pc = .ok (.anewarray index, 3))
    (kk : ∀ (ad1 : Nat → Nat) (H1 : Heap), (∀ x, x ≠ r → ad x = ad1 x) → mO G lo ad1 (mU R r (rfA G 1 N (fun _ => none))) H1 → va_S (mA lo) s.heap H1 locs → W p l e Rm s m args below meth c H1 locs (cells + 1) (slots + N) Q (F0 m (pc + 3) ls (.ref (ad1 r) :: rest))) : W p l e Rm s m args below meth c H locs cells slots Q (F0 m pc ls (.int v :: rest)) := by
  subst hN
  refine W.anewA (t := .int) hF.1 hF.2.1 hF.2.2.2.1 (hF.2.2.2.2 _ hcl) hC.2.2.1.1 rfl hdg rfl hn hbytes hcs.1 hcs.2 fun cA kA comp f1 f2 f3 f4 => ?_
  cases f1.symm.trans ((hC.1.2 1 _ rfl).2 : s.vm.findClass ("[" ++ (FieldType.array .int).toString) = some (G.2 1))
  generalize hH1 : H.push ({ cls := G.2 1, slots := Array.replicate v.toNatClampNeg .null, vm := .none } : Cell) = H1
  have z1 : H1.size = H.size + 1 := by rw [← hH1, Array.size_push]
  have e1 : H1[H.size]? = some (arrV (G.2 1) v.toNatClampNeg (fun _ => .null)) := by rw [← hH1, Array.getElem?_push_size, ← arrV_new]
  have o1 : ∀ q : Nat, q < H.size → H1[q]? = H[q]? := fun q hq => by rw [← hH1, Array.getElem?_push, if_neg (Nat.ne_of_lt hq)]
  have hadr : va_up ad r H.size r = H.size := by simp [va_up]
  have h2 := kk (va_up ad r H.size) H1 (fun x hx => by simp [va_up, hx]) (hO.push hr rfl (Nat.le_trans hC.2.2.2.2.2.2.1 hS.1) (by show H1[H.size]? = some (vp_cell _ _); rw [vp_cell_q]; exact e1) o1) ⟨Nat.le_trans hS.1 (by omega), fun x h1 h2 => (o1 x (Nat.lt_of_lt_of_le h1 hS.1)).trans (hS.2.1 x h1 h2), hS.2.2⟩
  rw [hadr] at h2
  exact h2
/-- new int[N][K] -/
theorem m_mna {r B N K : Nat} {v u : Int32} (hF : mF p m c cc nL s args own) (hC : mC G lo sa s s.heap) (hO : mO G lo ad R H) (hS : va_S (mA lo) s.heap H locs) (hrB : r < B ∨ B + N ≤ r) (hcl : (.classLink own index "[[I" : Cond) ∈ lw_all)
    (hn : ¬ v < 0) (hk : ¬ u < 0) (hN : v.toNatClampNeg = N) (hK : u.toNatClampNeg = K) (hb1 : N * 4 ≤ 536870912) (hb2 : K * 4 ≤ 536870912) (hcs : cells + (1 + N) ≤ Rm.cells ∧ slots + (N + N * K) ≤ Rm.slots) (hdg : decode cc pc = .ok (.multianewarray index 2, 4))
    (kk : ∀ (ad1 : Nat → Nat) (H1 : Heap), (∀ x, x ≠ r → ¬ (B ≤ x ∧ x < B + N) → ad x = ad1 x) → mO G lo ad1 (mMul G ad1 r B N K R) H1 → va_S (mA lo) s.heap H1 locs → W p l e Rm s m args below meth c H1 locs (cells + 1 + N) (slots + N + N * K) Q (F0 m (pc + 4) ls (.ref (ad1 r) :: rest))) : W p l e Rm s m args below meth c H locs cells slots Q (F0 m pc ls (.int u :: .int v :: rest)) := by
  refine mx_mna hF.1 hF.2.1 hF.2.2.2.1 (hF.2.2.2.2 _ hcl) hC.2.2.1.1 (hF.2.2.2.2 _ q_57) hn hk hN hK hb1 hb2 hcs.1 hcs.2 hdg fun cA cy H1 fA fC z1 o1 e1 e2 => ?_
  cases fA.symm.trans ((hC.1.2 1 _ rfl).2 : s.vm.findClass ("[" ++ (FieldType.array .int).toString) = some (G.2 1))
  cases fC.symm.trans ((hC.1.2 0 _ rfl).2 : s.vm.findClass ("[" ++ FieldType.int.toString) = some (G.2 0))
  have hlo : lo ≤ H.size := Nat.le_trans hC.2.2.2.2.2.2.1 hS.1
  generalize hA : (fun x => if x = r then H.size else if B ≤ x ∧ x < B + N then H.size + 1 + (x - B) else ad x : Nat → Nat) = ad1
  have a0 : ad1 r = H.size := by rw [← hA]; simp
  have a1 : ∀ x, B ≤ x → x < B + N → ad1 x = H.size + 1 + (x - B) := fun x h1 h2 => by
    rw [← hA]; show (if x = r then _ else _) = _; rw [if_neg (by omega), if_pos ⟨h1, h2⟩]
  have a2 : ∀ x, x ≠ r → ¬ (B ≤ x ∧ x < B + N) → ad1 x = ad x := fun x h1 h2 => by
    rw [← hA]; show (if x = r then _ else _) = _; rw [if_neg h1, if_neg h2]
  have eF : adF ad1 B N = fun i => if i < N then some (H.size + 1 + i) else none := by
    funext i
    unfold adF
    by_cases hi : i < N
    · rw [if_pos hi, if_pos hi, a1 (B + i) (by omega) (by omega), Nat.add_sub_cancel_left]
    · rw [if_neg hi, if_neg hi]
  have h2 := kk ad1 H1 (fun x h1 h2 => (a2 x h1 h2).symm) (hO.grow (fun x => x = r ∨ (B ≤ x ∧ x < B + N)) hlo o1 (fun q e hq hN => ?_) (fun q e hq hN => ?_) (fun q q' _ _ _ _ g1 g2 g3 => ?_)) ⟨by have := hS.1; omega, fun x h1 h2 => (o1 x (Nat.lt_of_lt_of_le h1 hS.1)).trans (hS.2.1 x h1 h2), hS.2.2⟩
  · rw [a0] at h2; exact h2
  · unfold mMul at hq
    rw [if_neg (fun z => hN (Or.inl z)), if_neg (fun z => hN (Or.inr z))] at hq
    exact ⟨hq, a2 q (fun z => hN (Or.inl z)) (fun z => hN (Or.inr z))⟩
  · unfold mMul at hq
    rcases hN with rfl | hN
    · rw [if_pos rfl] at hq; cases hq
      rw [a0]
      refine ⟨Nat.le_refl _, ?_⟩
      show H1[H.size]? = some (vp_cell _ _)
      rw [eF]; exact e1
    · rw [if_neg (by omega), if_pos hN] at hq; cases hq
      rw [a1 q hN.1 hN.2]
      exact ⟨by omega, e2 (q - B) (by omega)⟩
  · rcases g1 with rfl | g1 <;> rcases g2 with rfl | g2
    · rfl
    · rw [a0, a1 q' g2.1 g2.2] at g3; omega
    · rw [a0, a1 q g1.1 g1.2] at g3; omega
    · rw [a1 q g1.1 g1.2, a1 q' g2.1 g2.2] at g3; omega
/-! calls that make cells -/
theorem m_vNv {post : mAd → Prop} {ci r : Nat} {fs : List Value} {q : vw_C} (hF : mF p m c cc nL s args own) (hC : mC G lo sa s s.heap) (hO : mO G lo ad R H) (hS : va_S (mA lo) s.heap H locs) (hM : nV' l y bytes maxL fr lc mc ms G lo sa ad R (.ref (ad r) :: As) post) (ok : mOK q.1 y bytes maxL none n) (hl : (.methodLink own index y : Cond) ∈ lw_all)
    (hr : R r = some (.inr (ci, fs))) (hc : vwCl[ci]? = some q) (hR : fr + 1 ≤ Rm.frames ∧ 8 + (maxL + 11) + lc ≤ Rm.locals) (hn : As.length = n) (hsz : ls.size = nL) (hst : st = As.reverse ++ .ref (ad r) :: rest) (hw : (rest.map fun v => v.category).sum ≤ 8) (hcs : cells + mc ≤ Rm.cells ∧ slots + ms ≤ Rm.slots) (hdg : decode cc pc = .ok (.invokevirtual index, 3))
    (kk : ∀ (ad1 : Nat → Nat) (R' : mM) (H1 : Heap) (locs1 : List Loc), post (ad1, R') → mO G lo ad1 R' H1 → va_S (mA lo) s.heap H1 locs1 → W p l e Rm s m args below meth c H1 locs1 (cells + mc) (slots + ms) Q (F0 m (pc + 3) ls rest)) : W p l e Rm s m args below meth c H locs cells slots Q (F0 m pc ls st) := by
  obtain ⟨w2, w3, w4, w5, hd⟩ := ok
  have hts := hF.2.2.2.2
  exact va_callv (A0 := mA lo) (va_runV (C := q.1) (b := ad r) (As := As) (rest := rest) hF hM ⟨mc_B (nRm fr lc mc ms) hF w4 w5 hd hl hR, hts _ w2, hts _ w3⟩ ⟨mPc_blind, mc_recv hC hO hr hc, mc_pre hC hO hS⟩ rfl hn hsz hst (lv_room hw) hdg hcs) hS (fun _ _ h => h) (fun _ h => h) (fun u t H1 locs1 ht hvm hp hB hz1 hk1 hS1 => kk u.1 u.2 H1 locs1 hp (by rw [← ht]; exact hB) hS1)
theorem m_iNH {post : mAd → Prop} {r : Nat} {host : String} (hF : mF p m c cc nL s args own) (hC : mC G lo sa s s.heap) (hO : mO G lo ad R H) (hS : va_S (mA lo) s.heap H locs) (hM : nV' l y bytes maxL fr lc mc ms G lo sa ad R (.ref (ad r) :: As) post) (ok : mOC y bytes maxL n) (hl : va_Nw (.methodLinkNest own index y host) s)
    (hR : fr + 1 ≤ Rm.frames ∧ 8 + (maxL + 11) + lc ≤ Rm.locals) (hn : As.length = n) (hsz : ls.size = nL) (hst : st = As.reverse ++ .ref (ad r) :: rest) (hw : (rest.map fun v => v.category).sum ≤ 8) (hcs : cells + mc ≤ Rm.cells ∧ slots + ms ≤ Rm.slots) (hdg : decode cc pc = .ok (.invokespecial index, 3))
    (kk : ∀ (ad1 : Nat → Nat) (R' : mM) (H1 : Heap) (locs1 : List Loc), post (ad1, R') → mO G lo ad1 R' H1 → va_S (mA lo) s.heap H1 locs1 → W p l e Rm s m args below meth c H1 locs1 (cells + mc) (slots + ms) Q (F0 m (pc + 3) ls rest)) : W p l e Rm s m args below meth c H locs cells slots Q (F0 m pc ls st) := by
  obtain ⟨w2, w4, w5, hd, hy⟩ := ok
  have hts := hF.2.2.2.2
  have hcn : va_CN Rm s args own index y host bytes maxL none (mWs y bytes maxL none) (nRm fr lc mc ms) mc ms n := va_cnB n hts (mWs_good w5) rfl rfl rfl hl (hts _ w4) hd hR
  exact va_callv (A0 := mA lo) (va_runIN (b := ad r) (As := As) (rest := rest) hF hM ⟨hcn, hy, hts _ w2⟩ ⟨mPc_blind, mc_pre hC hO hS⟩ rfl hn hsz hst (lv_room hw) hdg hcs) hS (fun _ _ h => h) (fun _ h => h) (fun u t H1 locs1 ht hvm hp hB hz1 hk1 hS1 => kk u.1 u.2 H1 locs1 hp (by rw [← ht]; exact hB) hS1)
theorem m_iVH {post : mM → Prop} {r : Nat} {host : String} (hF : mF p m c cc nL s args own) (hC : mC G lo sa s s.heap) (hO : mO G lo ad R H) (hS : va_S (mA lo) s.heap H locs) (hM : mV l y bytes maxL fr lc G lo sa ad R (.ref (ad r) :: As) post) (ok : mOC y bytes maxL n) (hl : va_Nw (.methodLinkNest own index y host) s)
    (hR : fr + 1 ≤ Rm.frames ∧ 8 + (maxL + 11) + lc ≤ Rm.locals) (hn : As.length = n) (hsz : ls.size = nL) (hst : st = As.reverse ++ .ref (ad r) :: rest) (hw : (rest.map fun v => v.category).sum ≤ 8) (hcs : cells ≤ Rm.cells ∧ slots ≤ Rm.slots) (hdg : decode cc pc = .ok (.invokespecial index, 3))
    (kk : ∀ (R' : mM) (H1 : Heap) (locs1 : List Loc), post R' → mO G lo ad R' H1 → va_S (mA lo) s.heap H1 locs1 → W p l e Rm s m args below meth c H1 locs1 cells slots Q (F0 m (pc + 3) ls rest)) : W p l e Rm s m args below meth c H locs cells slots Q (F0 m pc ls st) := by
  obtain ⟨w2, w4, w5, hd, hy⟩ := ok
  have hts := hF.2.2.2.2
  have hcn : va_CN Rm s args own index y host bytes maxL none (mWs y bytes maxL none) (mRm fr lc) 0 0 n := va_cnB n hts (mWs_good w5) rfl rfl rfl hl (hts _ w4) hd hR
  exact va_callv (A0 := mA lo) (va_runIN (b := ad r) (As := As) (rest := rest) hF hM ⟨hcn, hy, hts _ w2⟩ ⟨mPc_blind, mc_pre hC hO hS⟩ rfl hn hsz hst (lv_room hw) hdg hcs) hS (fun _ _ h => h) (fun _ h => h) (fun R' t H1 locs1 ht hvm hp hB hz1 hk1 hS1 => kk R' H1 locs1 hp (by rw [← ht]; exact hB) hS1)
theorem m_sNi {ret : FieldType} {post : Int32 → mAd → Prop} (hF : mF p m c cc nL s args own) (hC : mC G lo sa s s.heap) (hO : mO G lo ad R H) (hS : va_S (mA lo) s.heap H locs) (hM : nI' l y bytes maxL ret fr lc mc ms G lo sa ad R As post) (ok : mOS y bytes maxL (some ret) n) (hl : (.methodLink own index y : Cond) ∈ lw_all)
    (hR : fr + 1 ≤ Rm.frames ∧ 8 + (maxL + 11) + lc ≤ Rm.locals) (hn : As.length = n) (hsz : ls.size = nL) (hst : st = As.reverse ++ rest) (hw : (rest.map fun v => v.category).sum ≤ 8) (hcs : cells + mc ≤ Rm.cells ∧ slots + ms ≤ Rm.slots) (hdg : decode cc pc = .ok (.invokestatic index, 3))
    (kk : ∀ (v : Int32) (ad1 : Nat → Nat) (R' : mM) (H1 : Heap) (locs1 : List Loc), post v (ad1, R') → mO G lo ad1 R' H1 → va_S (mA lo) s.heap H1 locs1 → W p l e Rm s m args below meth c H1 locs1 (cells + mc) (slots + ms) Q (F0 m (pc + 3) ls (.int v :: rest))) : W p l e Rm s m args below meth c H locs cells slots Q (F0 m pc ls st) := by
  obtain ⟨w2, w4, w5, hd⟩ := ok
  have hts := hF.2.2.2.2
  exact va_calli (A0 := mA lo) (va_runS (As := As) (rest := rest) hF hM ⟨mc_B (nRm fr lc mc ms) hF w4 w5 hd hl hR, hts _ w2⟩ ⟨mPc_blind, mc_pre hC hO hS⟩ rfl hn hsz hst (lv_room hw) hdg hcs) hS (fun _ _ h => h) (fun _ h => h) (fun v u t H1 locs1 ht hvm hp hB hz1 hk1 hS1 => kk v u.1 u.2 H1 locs1 hp (by rw [← ht]; exact hB) hS1)
theorem m_sNr {ret : FieldType} {post : mAd → Prop} {r : Nat} (hF : mF p m c cc nL s args own) (hC : mC G lo sa s s.heap) (hO : mO G lo ad R H) (hS : va_S (mA lo) s.heap H locs) (hM : nR' l y bytes maxL ret fr lc mc ms G lo sa ad R As post r) (ok : mOS y bytes maxL (some ret) n) (hl : (.methodLink own index y : Cond) ∈ lw_all)
    (hR : fr + 1 ≤ Rm.frames ∧ 8 + (maxL + 11) + lc ≤ Rm.locals) (hn : As.length = n) (hsz : ls.size = nL) (hst : st = As.reverse ++ rest) (hw : (rest.map fun v => v.category).sum ≤ 8) (hcs : cells + mc ≤ Rm.cells ∧ slots + ms ≤ Rm.slots) (hdg : decode cc pc = .ok (.invokestatic index, 3))
    (kk : ∀ (ad1 : Nat → Nat) (R' : mM) (H1 : Heap) (locs1 : List Loc), post (ad1, R') → mO G lo ad1 R' H1 → va_S (mA lo) s.heap H1 locs1 → W p l e Rm s m args below meth c H1 locs1 (cells + mc) (slots + ms) Q (F0 m (pc + 3) ls (.ref (ad1 r) :: rest))) : W p l e Rm s m args below meth c H locs cells slots Q (F0 m pc ls st) := by
  obtain ⟨w2, w4, w5, hd⟩ := ok
  have hts := hF.2.2.2.2
  exact va_callr (A0 := mA lo) (va_runS (As := As) (rest := rest) hF hM ⟨mc_B (nRm fr lc mc ms) hF w4 w5 hd hl hR, hts _ w2⟩ ⟨mPc_blind, mc_pre hC hO hS⟩ rfl hn hsz hst (lv_room hw) hdg hcs) hS (fun _ _ h => h) (fun _ h => h) (fun u x t H1 locs1 ht hvm hp hB hz1 hk1 hS1 => by
    obtain ⟨rfl, hO1⟩ := hB
    exact kk u.1 u.2 H1 locs1 hp (by rw [← ht]; exact hO1) hS1)
theorem nR_of' {y : MethodName} {rt : FieldType} {fr lc : Nat} {av : List Value} {post : mAd → Prop} {r : Nat} (hy : plainName y.cls = true) (hlen : (lg_sl av).length ≤ nL)
    (body : ∀ (p : Program) (e : Env) (s : State) (m : MethodId) (args : Array Value) (below : List Frame) (meth : Method) (c : Code), mF p m c cc nL s args y.cls → meth.sig.returnType = some rt → meth.locks = false → mC G lo sa s s.heap →
      ∀ ls : Array Slot, lv_has ls nL (lv_args 0 av) → mO G lo ad R s.heap → va_S (mA lo) s.heap s.heap [] →
      ∀ Q : State → Prop, Q = MQ below (va_Qr post (fun (u : mAd) (a : Nat) (t : State) => a = u.1 r ∧ mO G lo u.1 u.2 t.heap) (mA lo)) args s mc ms (mA lo) → W p l e (nRm fr lc mc ms) s m args below meth c s.heap [] 0 0 Q (F0 m 0 ls [])) : nR' l y cc nL rt fr lc mc ms G lo sa ad R av post r := by
  refine Met.ofW (cc := cc) (maxL := nL) (ret := some rt) hy rfl ?_
  intro p e s m args below meth c s₁ B hml hv
  obtain ⟨rfl, hC, hO⟩ := hv
  have hts := atoms_spec (ws := mWs y cc nL (some rt)) B.pre
  rw [lg_entry_eq]
  exact body p e s m _ below meth c ⟨B.exec, B.bytes, hml, findClass_of_methodNamed B.named, fun w h => hts w (List.mem_cons_of_mem _ h)⟩ B.returns B.notSynchronized hC _ (lv_entry av hlen) hO va_S.rf _ rfl
theorem m_nraret {post : mAd → Prop} {R' : mM} {r : Nat} {C : String} (hF : mF p m c cc nL s args own) (hr : meth.sig.returnType = some (.object C)) (hlk : meth.locks = false) (hQ : Q = MQ below (va_Qr post (fun (u : mAd) (a : Nat) (t : State) => a = u.1 r ∧ mO G lo u.1 u.2 t.heap) (mA lo)) args s mc ms (mA lo)) (hcs : cells ≤ mc ∧ slots ≤ ms) (hO : mO G lo ad R' H) (hS : va_S (mA lo) s.heap H locs) (hdg : decode cc pc = .ok (.areturn, 1)) (hp : post (ad, R')) :
    W p l e Rm s m args below meth c H locs cells slots Q (F0 m pc ls [.ref (ad r)]) := hQ ▸
  W.widen hcs.1 hcs.2 (W.aret hF.1 hF.2.1 hr (Or.inl ⟨_, rfl⟩) (Or.inr ⟨_, rfl⟩) (fun t ht hW => ⟨⟨(ad, R'), ad r, rfl, hp, rfl, by rw [ht]; exact hO⟩, hS.F ht⟩) hS.2.2 hdg hlk)
end SKT
/-! the law's small numbers -/
theorem b_nn {x : Int32} : ¬ (x &&& 2147483647) < 0 := by
  intro h
  have h1 := Int32.lt_iff_toInt_lt.mp h
  rw [show (0 : Int32).toInt = 0 from rfl] at h1
  have h2 : (x &&& 2147483647).toBitVec.msb = true := by
    rw [BitVec.msb_eq_toInt]; exact decide_eq_true h1
  rw [Int32.toBitVec_and, BitVec.msb_and] at h2
  have h3 : (2147483647 : Int32).toBitVec.msb = false := by decide
  rw [h3, Bool.and_false] at h2
  cases h2
theorem b_mod {x : Int32} {n : Nat} (h0 : 0 < n) (hn : n < 2 ^ 31) : ∃ k : Nat, k < n ∧ (x &&& 2147483647) - (x &&& 2147483647) / nI n * nI n = nI k := by
  obtain ⟨j, hj, e⟩ := nI_of (b_nn (x := x))
  rw [e, pk_rem hj h0 hn]
  exact ⟨j % n, Nat.mod_lt _ h0, rfl⟩
