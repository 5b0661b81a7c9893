section GC
variable {k : KT} {mi : MI} {R : Room} {F : FinT} {nc ns pc : Nat} {vs : List (Option Value)} {st : List Value} {M : MM}
theorem g_aret {b : Nat} {n : String} {Q : Option Value → MM → Prop} {mc ms : Nat} (hr : rty mi = some (.object n)) (hd : decode (cd mi) pc = .ok (.areturn, 1)) (hq : Q (some (.ref b)) M) (hc : nc ≤ mc) (hs : ns ≤ ms) : G k mi R (FinM k Q mc ms) nc ns pc vs [.ref b] M := by
  intro p e s m args below meth c H locs ls hF hS hR hX hl
  obtain ⟨hx, hb, hml, hown, hts, hret, hlk, hnm, hE⟩ := id hF
  intro T hT X
  have hz := exact_size hR hX hT X
  exact (W.widen (k := mc) (n := ms) hc hs (W.aret hx hb (hret.trans hr) (Or.inl ⟨_, rfl⟩) (Or.inr ⟨_, rfl⟩) (fun t ht hw => ⟨_, M, rfl, hq, by rw [ht]; exact hR, by rw [ht]; exact hz, hS.F ht⟩) hS.2.2 hd)) T hT X
theorem Ct.of {d mc ms : Nat} {as : List Value} {Q : Option Value → MM → Prop} (hy : plainName mi.1.cls = true) (vs : List (Option Value)) (hv : tol 0 vs = lv_args 0 as) (hlen : vs.length = mxl mi) (hle : (lg_sl as).length ≤ mxl mi) (h : G k mi (roomOf d mc ms) (FinM k Q mc ms) 0 0 0 vs [] M) : Ct k mi d mc ms as M Q := by
  refine Met.ofW (cc := cd mi) (maxL := mxl mi) (ret := rty mi) hy rfl ?_
  intro p e s m args below meth c s₁ B hml hv0
  obtain ⟨rfl, hE, hR, hX⟩ := hv0
  have hl := lv_entry as (n := mxl mi) hle
  rw [lg_entry_eq]
  exact h p e s m as.toArray below meth c s.heap [] _ ⟨B.exec, B.bytes, hml, findClass_of_methodNamed B.named, fun w hw => atoms_spec (ws := wsOf mi) B.pre w (List.mem_cons_of_mem _ hw), B.returns, B.notSynchronized, (name_of_methodNamed B.named B.method).1, hE⟩ va_S.rf hR hX ⟨by rw [hv]; exact hl, hlen⟩
theorem pcc_blind {as : List Value} : FrameBlind (Pcc k as M) := fun a U g mk h => ⟨h.1, EnvAt.same (s := U) (U := U.calling g mk a) rfl h.2.1, h.2.2.1, h.2.2.2⟩
theorem env_on {s U : State} {H : Heap} {locs : List Loc} (hE : EnvAt k s s.heap) (hS : va_S (AA k) s.heap H locs) (hU : U.heap = H) (hW : s.WarmedH U.vm) : EnvAt k U U.heap := by
  rw [hU]
  exact (hE.kept hS.1 hS.2.1).warm hW
theorem s_trans {H0 H : Heap} {locs L : List Loc} {st t : State} (hS : va_S (AA k) H0 H locs) (h0 : st.heap = H) (hF : va_F (AA k) st t) (hL : ∀ q ∈ L, AA k q.base) : va_S (AA k) H0 t.heap (locs ++ L) := by
  obtain ⟨z, q⟩ := hF
  rw [h0] at z q
  refine ⟨Nat.le_trans hS.1 z, fun a h1 h2 => (q a (Nat.lt_of_lt_of_le h1 hS.1) h2).trans (hS.2.1 a h1 h2), fun a ha => ?_⟩
  rcases List.mem_append.mp ha with h | h
  · exact hS.2.2 a h
  · exact hL a h
/-- what a call's run gives: behind it -/
theorem g_behind {mc ms : Nat} {rest : List Value} {Q : Option Value → MM → Prop} {arr : Array Value}
    (hrun : ∀ (p : Program) (e : Env) (s : State) (m : MethodId) (args : Array Value) (below : List Frame) (meth : Method) (c : Code) (H : Heap) (locs : List Loc) (ls : Array Slot), Fix k mi p s m args meth c → va_S (AA k) s.heap H locs → Rel k M H → (M.2.1 = true → H.size = kB k + M.1) → lvh ls (mxl mi) vs → va_Run p (kL k) e R s m args below meth c H locs nc ns mc ms (F0 m pc ls st) rest (Qcc k Q arr) (AA k))
    (h : ∀ v M', Q v M' → (M'.2.1 = true → M.2.1 = true ∧ M'.1 = M.1 + mc) ∧ G k mi R F (nc + mc) (ns + ms) (pc + 3) vs (v.toList ++ rest) M') : G k mi R F nc ns pc vs st M := by
  intro p e s m args below meth c H locs ls hF hS hR hX hl
  intro T hT X
  have hz := exact_size hR hX hT X
  obtain ⟨v, st₀, t, T', L, h0, X', hL, e1, e2, ⟨v', M', hv, hq, hR', hz', hFr⟩, go⟩ := hrun p e s m args below meth c H locs ls hF hS hR hz hl T hT X
  cases hv
  obtain ⟨hm, hG⟩ := h v M' hq
  obtain ⟨t2, a1, b1⟩ := hG p e s m args below meth c T'.heap (locs ++ L) ls hF (by rw [e1]; exact s_trans hS h0 hFr hL) (by rw [e1]; exact hR') (fun hx => by obtain ⟨g1, g2⟩ := hm hx; have := hX g1; omega) hl T' rfl X'
  exact ⟨t2, go t2 a1, b1⟩
theorem callb {mi' : MI} {d mc ms n idx : Nat} {s : State} {args : Array Value} (hts : ∀ w ∈ BIG, w.before args s = true) (hw : MW mi' n) (hl : ML mi.1.cls idx mi') (hR : d + 1 ≤ R.frames ∧ 19 + mxl mi' + 48 * d ≤ R.locals) : CallB R s args mi.1.cls idx mi'.1 (cd mi') (mxl mi') (rty mi') (wsOf mi') (roomOf d mc ms) mc ms n :=
  callB_of n hts (good_callee hw.1) rfl rfl rfl (hts _ hw.2.1) (hts _ hl) ⟨hw.2.2.1.1, hw.2.2.1.2, hw.2.2.2⟩ ⟨hR.1, by show 8 + (mxl mi' + 11) + 48 * d ≤ _; omega⟩
theorem obj_at {b ci : Nat} {q : vw_C} (hc : classes[ci]? = some q) (hk : kd b = ci) (hN : sg b < M.1) : ∃ fs, (wl k M)[sg b]? = some (ka k b, .inr (ci, fs)) := ⟨_, (wl_at k M hN).trans (by rw [enc_obj k M hk (cl_le hc)])⟩
theorem g_callV {mi' : MI} {d mc ms n idx ci b : Nat} {as rest : List Value} {Q : Option Value → MM → Prop} (hC : Ct k mi' d mc ms (.ref (ka k b) :: as) M Q) (hw : MV mi' ci n) (hl : ML mi.1.cls idx mi') (hd : decode (cd mi) pc = .ok (.invokevirtual idx, 3)) (hk : kd b = ci) (hN : sg b < M.1) (hn : as.length = n) (hst : st = as.reverse ++ .ref (ka k b) :: rest) (hr : (rest.map fun v => v.category).sum ≤ 8) (hRm : d + 1 ≤ R.frames ∧ 19 + mxl mi' + 48 * d ≤ R.locals) (hcs : nc + mc ≤ R.cells ∧ ns + ms ≤ R.slots)
    (h : ∀ v M', Q v M' → (M'.2.1 = true → M.2.1 = true ∧ M'.1 = M.1 + mc) ∧ G k mi R F (nc + mc) (ns + ms) (pc + 3) vs (v.toList ++ rest) M') : G k mi R F nc ns pc vs st M := by
  refine g_behind (rest := rest) (arr := (Value.ref (ka k b) :: as).toArray) (fun p e s m args below meth c H locs ls hF hS hR hz hlv => ?_) h
  obtain ⟨hx, hb, hml, hown, hts, hret, hlk, hnm, hE⟩ := hF
  obtain ⟨hw1, hw2, hw3, Tq, Nq, hcl⟩ := hw
  obtain ⟨fs, hfs⟩ := obj_at (k := k) (M := M) hcl hk hN
  exact va_runV (n := n) ⟨hx, hb, hml, hown, hts⟩ hC ⟨callb hts hw1 hl hRm, hts _ hw2, hts _ hw3⟩ ⟨pcc_blind, va_recv hE.1 hR.1 hcl hfs, fun U hU hW => ⟨rfl, env_on hE hS hU hW, by rw [hU]; exact hR, by rw [hU]; exact hz⟩⟩ rfl hn hlv.1.1 hst (lv_room hr) hd hcs
theorem g_callS {mi' : MI} {d mc ms n idx : Nat} {as rest : List Value} {Q : Option Value → MM → Prop} (hC : Ct k mi' d mc ms as M Q) (hw : MSt mi' n) (hl : ML mi.1.cls idx mi') (hd : decode (cd mi) pc = .ok (.invokestatic idx, 3)) (hn : as.length = n) (hst : st = as.reverse ++ rest) (hr : (rest.map fun v => v.category).sum ≤ 8) (hRm : d + 1 ≤ R.frames ∧ 19 + mxl mi' + 48 * d ≤ R.locals) (hcs : nc + mc ≤ R.cells ∧ ns + ms ≤ R.slots)
    (h : ∀ v M', Q v M' → (M'.2.1 = true → M.2.1 = true ∧ M'.1 = M.1 + mc) ∧ G k mi R F (nc + mc) (ns + ms) (pc + 3) vs (v.toList ++ rest) M') : G k mi R F nc ns pc vs st M := by
  refine g_behind (rest := rest) (arr := as.toArray) (fun p e s m args below meth c H locs ls hF hS hR hz hlv => ?_) h
  obtain ⟨hx, hb, hml, hown, hts, hret, hlk, hnm, hE⟩ := hF
  exact va_runS (n := n) ⟨hx, hb, hml, hown, hts⟩ hC ⟨callb hts hw.1 hl hRm, hts _ hw.2⟩ ⟨pcc_blind, fun U hU hW => ⟨rfl, env_on hE hS hU hW, by rw [hU]; exact hR, by rw [hU]; exact hz⟩⟩ rfl hn hlv.1.1 hst (lv_room hr) hd hcs
theorem g_callN {mi' : MI} {d mc ms n idx : Nat} {host : String} {as rest : List Value} {Q : Option Value → MM → Prop} (hC : Ct k mi' d mc ms as M Q) (hw : MSt mi' n) (hl : ∀ U H, EnvAt k U H → va_Nw (.methodLinkNest mi.1.cls idx mi'.1 host) U) (hd : decode (cd mi) pc = .ok (.invokestatic idx, 3)) (hn : as.length = n) (hst : st = as.reverse ++ rest) (hr : (rest.map fun v => v.category).sum ≤ 8) (hRm : d + 1 ≤ R.frames ∧ 19 + mxl mi' + 48 * d ≤ R.locals) (hcs : nc + mc ≤ R.cells ∧ ns + ms ≤ R.slots)
    (h : ∀ v M', Q v M' → (M'.2.1 = true → M.2.1 = true ∧ M'.1 = M.1 + mc) ∧ G k mi R F (nc + mc) (ns + ms) (pc + 3) vs (v.toList ++ rest) M') : G k mi R F nc ns pc vs st M := by
  refine g_behind (rest := rest) (arr := as.toArray) (fun p e s m args below meth c H locs ls hF hS hR hz hlv => ?_) h
  obtain ⟨hx, hb, hml, hown, hts, hret, hlk, hnm, hE⟩ := hF
  exact va_runSN (n := n) ⟨hx, hb, hml, hown, hts⟩ hC ⟨va_cnB n hts (good_callee hw.1.1) rfl rfl rfl (hl s _ hE) (hts _ hw.1.2.1) ⟨hw.1.2.2.1.1, hw.1.2.2.1.2, hw.1.2.2.2⟩ ⟨hRm.1, by show 8 + (mxl mi' + 11) + 48 * d ≤ _; omega⟩, hts _ hw.2, trivial⟩ ⟨pcc_blind, fun U hU hW => ⟨rfl, env_on hE hS hU hW, by rw [hU]; exact hR, by rw [hU]; exact hz⟩⟩ rfl hn hlv.1.1 hst (lv_room hr) hd hcs
theorem g_callI {mi' : MI} {d mc ms n idx b : Nat} {as rest : List Value} {Q : Option Value → MM → Prop} (hC : Ct k mi' d mc ms (.ref b :: as) M Q) (hv : rty mi' = none) (hw : MIn mi' n) (hl : ML mi.1.cls idx mi') (hd : decode (cd mi) pc = .ok (.invokespecial idx, 3)) (hn : as.length = n) (hst : st = as.reverse ++ .ref b :: rest) (hr : (rest.map fun v => v.category).sum ≤ 8) (hRm : d + 1 ≤ R.frames ∧ 19 + mxl mi' + 48 * d ≤ R.locals) (hcs : nc + mc ≤ R.cells ∧ ns + ms ≤ R.slots)
    (h : ∀ v M', Q v M' → (M'.2.1 = true → M.2.1 = true ∧ M'.1 = M.1 + mc) ∧ G k mi R F (nc + mc) (ns + ms) (pc + 3) vs (v.toList ++ rest) M') : G k mi R F nc ns pc vs st M := by
  refine g_behind (rest := rest) (arr := (Value.ref b :: as).toArray) (fun p e s m args below meth c H locs ls hF hS hR hz hlv => ?_) h
  obtain ⟨hx, hb, hml, hown, hts, hret, hlk, hnm, hE⟩ := hF
  have hcb := callb (mc := mc) (ms := ms) (R := R) (d := d) hts hw.1 hl hRm
  rw [hv] at hcb
  exact va_runI (n := n) ⟨hx, hb, hml, hown, hts⟩ hC ⟨hcb, hw.2.2, hts _ hw.2.1⟩ ⟨pcc_blind, fun U hU hW => ⟨rfl, env_on hE hS hU hW, by rw [hU]; exact hR, by rw [hU]; exact hz⟩⟩ rfl hn hlv.1.1 hst (lv_room hr) hd hcs
/-- a call of a method of a String constant -/
theorem g_callK {mi' : MI} {d n idx i : Nat} {as rest : List Value} {Q : Option Value → MM → Prop} (hC : Ct k mi' d 0 0 (.ref (adK k i) :: as) M Q) (hw : MW mi' n ∧ Cond.instanceMethod mi'.1 ∈ BIG ∧ Cond.selects mi'.1.cls mi'.1 mi'.1 ∈ BIG) (hcs0 : mi'.1.cls = "java/lang/String") (hi : i < nStr) (hl : ML mi.1.cls idx mi') (hd : decode (cd mi) pc = .ok (.invokevirtual idx, 3)) (hn : as.length = n) (hst : st = as.reverse ++ .ref (adK k i) :: rest) (hr : (rest.map fun v => v.category).sum ≤ 8) (hRm : d + 1 ≤ R.frames ∧ 19 + mxl mi' + 48 * d ≤ R.locals) (hcs : nc + 0 ≤ R.cells ∧ ns + 0 ≤ R.slots)
    (h : ∀ v M', Q v M' → (M'.2.1 = true → M.2.1 = true ∧ M'.1 = M.1 + 0) ∧ G k mi R F (nc + 0) (ns + 0) (pc + 3) vs (v.toList ++ rest) M') : G k mi R F nc ns pc vs st M := by
  refine g_behind (rest := rest) (arr := (Value.ref (adK k i) :: as).toArray) (fun p e s m args below meth c H locs ls hF hS hR hz hlv => ?_) h
  obtain ⟨hx, hb, hml, hown, hts, hret, hlk, hnm, hE⟩ := hF
  obtain ⟨hw1, hw2, hw3⟩ := hw
  exact va_runV (n := n) (C := mi'.1.cls) ⟨hx, hb, hml, hown, hts⟩ hC ⟨callb hts hw1 hl hRm, hts _ hw2, hts _ hw3⟩ ⟨pcc_blind, by rw [hcs0]; exact vk_recv hE.2.1 hi hS, fun U hU hW => ⟨rfl, env_on hE hS hU hW, by rw [hU]; exact hR, by rw [hU]; exact hz⟩⟩ rfl hn hlv.1.1 hst (lv_room hr) hd hcs
/-- a contract with its answer and its memory told -/
def Cx (k : KT) (mi : MI) (d : Nat) (as : List Value) (M : MM) (r : Option Value) (M2 : MM) : Prop := Ct k mi d 0 0 as M (fun v M' => v = r ∧ M' = M2)
theorem g_callV1 {mi' : MI} {v : Value} {d n idx ci b : Nat} {as rest : List Value} {M2 : MM} (hC : Cx k mi' d (.ref (ka k b) :: as) M (some v) M2) (hw : MV mi' ci n) (hl : ML mi.1.cls idx mi') (hd : decode (cd mi) pc = .ok (.invokevirtual idx, 3)) (hk : kd b = ci) (hN : sg b < M.1) (hn : as.length = n) (hst : st = as.reverse ++ .ref (ka k b) :: rest) (hr : (rest.map fun v => v.category).sum ≤ 8) (hRm : d + 1 ≤ R.frames ∧ 19 + mxl mi' + 48 * d ≤ R.locals) (hcs : nc ≤ R.cells ∧ ns ≤ R.slots) (hM : M2.1 = M.1 ∧ M2.2.1 = M.2.1) (h : G k mi R F nc ns (pc + 3) vs (v :: rest) M2) : G k mi R F nc ns pc vs st M := by
  refine g_callV hC hw hl hd hk hN hn hst hr hRm hcs (fun v' M' hq => ?_)
  obtain ⟨rfl, rfl⟩ := hq
  exact ⟨fun q => ⟨by rw [← hM.2]; exact q, hM.1⟩, h⟩
theorem g_callV0 {mi' : MI} {d n idx ci b : Nat} {as rest : List Value} {M2 : MM} (hC : Cx k mi' d (.ref (ka k b) :: as) M none M2) (hw : MV mi' ci n) (hl : ML mi.1.cls idx mi') (hd : decode (cd mi) pc = .ok (.invokevirtual idx, 3)) (hk : kd b = ci) (hN : sg b < M.1) (hn : as.length = n) (hst : st = as.reverse ++ .ref (ka k b) :: rest) (hr : (rest.map fun v => v.category).sum ≤ 8) (hRm : d + 1 ≤ R.frames ∧ 19 + mxl mi' + 48 * d ≤ R.locals) (hcs : nc ≤ R.cells ∧ ns ≤ R.slots) (hM : M2.1 = M.1 ∧ M2.2.1 = M.2.1) (h : G k mi R F nc ns (pc + 3) vs rest M2) : G k mi R F nc ns pc vs st M := by
  refine g_callV hC hw hl hd hk hN hn hst hr hRm hcs (fun v' M' hq => ?_)
  obtain ⟨rfl, rfl⟩ := hq
  exact ⟨fun q => ⟨by rw [← hM.2]; exact q, hM.1⟩, h⟩
theorem g_callS1 {mi' : MI} {v : Value} {d n idx : Nat} {as rest : List Value} {M2 : MM} (hC : Cx k mi' d as M (some v) M2) (hw : MSt mi' n) (hl : ML mi.1.cls idx mi') (hd : decode (cd mi) pc = .ok (.invokestatic idx, 3)) (hn : as.length = n) (hst : st = as.reverse ++ rest) (hr : (rest.map fun v => v.category).sum ≤ 8) (hRm : d + 1 ≤ R.frames ∧ 19 + mxl mi' + 48 * d ≤ R.locals) (hcs : nc ≤ R.cells ∧ ns ≤ R.slots) (hM : M2.1 = M.1 ∧ M2.2.1 = M.2.1) (h : G k mi R F nc ns (pc + 3) vs (v :: rest) M2) : G k mi R F nc ns pc vs st M := by
  refine g_callS hC hw hl hd hn hst hr hRm hcs (fun v' M' hq => ?_)
  obtain ⟨rfl, rfl⟩ := hq
  exact ⟨fun q => ⟨by rw [← hM.2]; exact q, hM.1⟩, h⟩
theorem g_callS0 {mi' : MI} {d n idx : Nat} {as rest : List Value} {M2 : MM} (hC : Cx k mi' d as M none M2) (hw : MSt mi' n) (hl : ML mi.1.cls idx mi') (hd : decode (cd mi) pc = .ok (.invokestatic idx, 3)) (hn : as.length = n) (hst : st = as.reverse ++ rest) (hr : (rest.map fun v => v.category).sum ≤ 8) (hRm : d + 1 ≤ R.frames ∧ 19 + mxl mi' + 48 * d ≤ R.locals) (hcs : nc ≤ R.cells ∧ ns ≤ R.slots) (hM : M2.1 = M.1 ∧ M2.2.1 = M.2.1) (h : G k mi R F nc ns (pc + 3) vs rest M2) : G k mi R F nc ns pc vs st M := by
  refine g_callS hC hw hl hd hn hst hr hRm hcs (fun v' M' hq => ?_)
  obtain ⟨rfl, rfl⟩ := hq
  exact ⟨fun q => ⟨by rw [← hM.2]; exact q, hM.1⟩, h⟩
theorem g_callN1 {mi' : MI} {v : Value} {d n idx : Nat} {host : String} {as rest : List Value} {M2 : MM} (hC : Cx k mi' d as M (some v) M2) (hw : MSt mi' n) (hl : ∀ U H, EnvAt k U H → va_Nw (.methodLinkNest mi.1.cls idx mi'.1 host) U) (hd : decode (cd mi) pc = .ok (.invokestatic idx, 3)) (hn : as.length = n) (hst : st = as.reverse ++ rest) (hr : (rest.map fun v => v.category).sum ≤ 8) (hRm : d + 1 ≤ R.frames ∧ 19 + mxl mi' + 48 * d ≤ R.locals) (hcs : nc ≤ R.cells ∧ ns ≤ R.slots) (hM : M2.1 = M.1 ∧ M2.2.1 = M.2.1) (h : G k mi R F nc ns (pc + 3) vs (v :: rest) M2) : G k mi R F nc ns pc vs st M := by
  refine g_callN hC hw hl hd hn hst hr hRm hcs (fun v' M' hq => ?_)
  obtain ⟨rfl, rfl⟩ := hq
  exact ⟨fun q => ⟨by rw [← hM.2]; exact q, hM.1⟩, h⟩
theorem g_callN0 {mi' : MI} {d n idx : Nat} {host : String} {as rest : List Value} {M2 : MM} (hC : Cx k mi' d as M none M2) (hw : MSt mi' n) (hl : ∀ U H, EnvAt k U H → va_Nw (.methodLinkNest mi.1.cls idx mi'.1 host) U) (hd : decode (cd mi) pc = .ok (.invokestatic idx, 3)) (hn : as.length = n) (hst : st = as.reverse ++ rest) (hr : (rest.map fun v => v.category).sum ≤ 8) (hRm : d + 1 ≤ R.frames ∧ 19 + mxl mi' + 48 * d ≤ R.locals) (hcs : nc ≤ R.cells ∧ ns ≤ R.slots) (hM : M2.1 = M.1 ∧ M2.2.1 = M.2.1) (h : G k mi R F nc ns (pc + 3) vs rest M2) : G k mi R F nc ns pc vs st M := by
  refine g_callN hC hw hl hd hn hst hr hRm hcs (fun v' M' hq => ?_)
  obtain ⟨rfl, rfl⟩ := hq
  exact ⟨fun q => ⟨by rw [← hM.2]; exact q, hM.1⟩, h⟩
theorem g_callK1 {mi' : MI} {v : Value} {d n idx i : Nat} {as rest : List Value} {M2 : MM} (hC : Cx k mi' d (.ref (adK k i) :: as) M (some v) M2) (hw : MW mi' n ∧ Cond.instanceMethod mi'.1 ∈ BIG ∧ Cond.selects mi'.1.cls mi'.1 mi'.1 ∈ BIG) (hcs0 : mi'.1.cls = "java/lang/String") (hi : i < nStr) (hl : ML mi.1.cls idx mi') (hd : decode (cd mi) pc = .ok (.invokevirtual idx, 3)) (hn : as.length = n) (hst : st = as.reverse ++ .ref (adK k i) :: rest) (hr : (rest.map fun v => v.category).sum ≤ 8) (hRm : d + 1 ≤ R.frames ∧ 19 + mxl mi' + 48 * d ≤ R.locals) (hcs : nc ≤ R.cells ∧ ns ≤ R.slots) (hM : M2.1 = M.1 ∧ M2.2.1 = M.2.1) (h : G k mi R F nc ns (pc + 3) vs (v :: rest) M2) : G k mi R F nc ns pc vs st M := by
  refine g_callK hC hw hcs0 hi hl hd hn hst hr hRm hcs (fun v' M' hq => ?_)
  obtain ⟨rfl, rfl⟩ := hq
  exact ⟨fun q => ⟨by rw [← hM.2]; exact q, hM.1⟩, h⟩
theorem g_callK0 {mi' : MI} {d n idx i : Nat} {as rest : List Value} {M2 : MM} (hC : Cx k mi' d (.ref (adK k i) :: as) M none M2) (hw : MW mi' n ∧ Cond.instanceMethod mi'.1 ∈ BIG ∧ Cond.selects mi'.1.cls mi'.1 mi'.1 ∈ BIG) (hcs0 : mi'.1.cls = "java/lang/String") (hi : i < nStr) (hl : ML mi.1.cls idx mi') (hd : decode (cd mi) pc = .ok (.invokevirtual idx, 3)) (hn : as.length = n) (hst : st = as.reverse ++ .ref (adK k i) :: rest) (hr : (rest.map fun v => v.category).sum ≤ 8) (hRm : d + 1 ≤ R.frames ∧ 19 + mxl mi' + 48 * d ≤ R.locals) (hcs : nc ≤ R.cells ∧ ns ≤ R.slots) (hM : M2.1 = M.1 ∧ M2.2.1 = M.2.1) (h : G k mi R F nc ns (pc + 3) vs rest M2) : G k mi R F nc ns pc vs st M := by
  refine g_callK hC hw hcs0 hi hl hd hn hst hr hRm hcs (fun v' M' hq => ?_)
  obtain ⟨rfl, rfl⟩ := hq
  exact ⟨fun q => ⟨by rw [← hM.2]; exact q, hM.1⟩, h⟩
theorem nest6 : ∀ U H, EnvAt k U H → va_Nw (.methodLinkNest RX6 219 mX10_within.1 "ChaletRule") U := fun _ _ h => h.2.2.2.2.2.2.2.1
theorem nest9 : ∀ U H, EnvAt k U H → va_Nw (.methodLinkNest RX9 81 mX10_within.1 "ChaletRule") U := fun _ _ h => h.2.2.2.2.2.2.2.2.1.1
theorem nest5 : ∀ U H, EnvAt k U H → va_Nw (.methodLinkNest RX5 31 mX10_within.1 "ChaletRule") U := fun _ _ h => h.2.2.2.2.2.2.2.2.1.2
end GC
