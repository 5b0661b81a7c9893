/-! ===== led: methods that throw, and one that catches ===== -/
def TabIs (s : State) (tb : List ExceptionTableEntry) : Prop := ∀ (m : MethodId) (args : Array Value) (below : List Frame) (meth : Method) (c : Code), s.frames = .invoking m args :: below → s.vm.method? m = some meth → meth.code = some c → c.exceptionTable.toList = tb
def XCc (k : KT) (Px : Prop) (M : MM) : String → State → State → Prop := fun E st t => E = NSE ∧ Px ∧ Rel k M t.heap ∧ va_F (AA k) st t
def FinX (k : KT) (Q : Option Value → MM → Prop) (Px : Prop) (M : MM) (mc ms : Nat) : FinT := fun s args below t => TabIs s [] → vx_MQ below (Qcc k Q) (XCc k Px M) args s mc ms (AA k) t
def FinH (k : KT) (Q : Option Value → MM → Prop) (mc ms : Nat) (tb : List ExceptionTableEntry) : FinT := fun s args below t => TabIs s tb → MQ below (Qcc k Q) args s mc ms (AA k) t
def Cth (k : KT) (mi : MI) (d mc ms : Nat) (as : List Value) (M : MM) (Q : Option Value → MM → Prop) (Px : Prop) : Prop := vx_Met (kL k) mi.1 (wsOf mi) (roomOf d mc ms) (Pcc k as M) (Qcc k Q) (XCc k Px M) mc ms (AA k)
theorem tab_of {s : State} {m : MethodId} {args : Array Value} {below : List Frame} {meth : Method} {c : Code} {tb : List ExceptionTableEntry} (hf : s.frames = .invoking m args :: below) (hm : s.vm.method? m = some meth) (hc : meth.code = some c) (ht : c.exceptionTable.toList = tb) : TabIs s tb := by
  intro m' args' below' meth' c' hf' hm' hc'
  rw [hf] at hf'
  injection hf' with h1 h2
  injection h1 with h3 h4
  subst h3
  rw [hm] at hm'
  cases hm'
  rw [hc] at hc'
  cases hc'
  exact ht
section GX
variable {k : KT} {mi : MI} {R : Room} {F : FinT} {nc ns pc : Nat} {vs : List (Option Value)} {st : List Value} {M : MM}
theorem Cth.of {d mc ms : Nat} {as : List Value} {Q : Option Value → MM → Prop} {Px : Prop} (hy : plainName mi.1.cls = true) (vs : List (Option Value)) (hv : tol 0 vs = lv_args 0 as) (hlen : vs.length = mxl mi) (hle : (lg_sl as).length ≤ mxl mi) (h : G k mi (roomOf d mc ms) (FinX k Q Px M mc ms) 0 0 0 vs [] M) : Cth k mi d mc ms as M Q Px := by
  refine vx_ofW (cc := cd mi) (maxL := mxl mi) (ret := rty mi) hy rfl ?_
  intro p e s m args below meth c s₁ B hml htab hv0
  obtain ⟨rfl, hE, hR, hX⟩ := hv0
  have hl := lv_entry as (n := mxl mi) hle
  rw [lg_entry_eq]
  have X0 := Stand.of_body B
  have tb : TabIs s [] := tab_of X0.frames X0.method X0.code (List.eq_nil_iff_forall_not_mem.mpr (fun x hx => htab x hx))
  have key := h p e s m as.toArray below meth c s.heap [] _ ⟨B.exec, B.bytes, hml, findClass_of_methodNamed B.named, fun w hw => atoms_spec (ws := wsOf mi) B.pre w (List.mem_cons_of_mem _ hw), B.returns, B.notSynchronized, (name_of_methodNamed B.named B.method).1, hE⟩ va_S.rf hR hX ⟨by rw [hv]; exact hl, hlen⟩
  intro T hT X
  obtain ⟨t, a1, b1⟩ := key T hT X
  exact ⟨t, a1, b1 tb⟩
theorem g_xret {M' : MM} {Q : Option Value → MM → Prop} {Px : Prop} {mc ms : Nat} (h : G k mi R (FinM k Q mc ms) nc ns pc vs st M') : G k mi R (FinX k Q Px M mc ms) nc ns pc vs st M' := by
  intro p e s m args below meth c H locs ls hF hS hR hX hl
  intro T hT X
  obtain ⟨t, a1, b1⟩ := vx_ret (XC := XCc k Px M) (h p e s m args below meth c H locs ls hF hS hR hX hl) T hT X
  exact ⟨t, a1, fun _ => b1⟩
theorem g_hret {Q : Option Value → MM → Prop} {tb : List ExceptionTableEntry} {mc ms : Nat} (h : G k mi R (FinM k Q mc ms) nc ns pc vs st M) : G k mi R (FinH k Q mc ms tb) nc ns pc vs st M := by
  intro p e s m args below meth c H locs ls hF hS hR hX hl
  intro T hT X
  obtain ⟨t, a1, b1⟩ := h p e s m args below meth c H locs ls hF hS hR hX hl T hT X
  exact ⟨t, a1, fun _ => b1⟩
/-- the heap need not be told to its end -/
theorem G.inex {N : Nat} {ex : Bool} {I : Nat → Nat → Int32} {J : Nat → Nat → Int64} {P : Nat → Nat → Option Nat} (h : G k mi R F nc ns pc vs st (N, false, I, J, P)) : G k mi R F nc ns pc vs st (N, ex, I, J, P) := by
  intro p e s m args below meth c H locs ls hF hS hR hX hl
  exact h p e s m args below meth c H locs ls hF hS hR (fun z => by cases z) hl
/-- a thrown exception at pc, the callee's answer not come -/
def GT (k : KT) (mi : MI) (R : Room) (F : FinT) (nc ns pc : Nat) (vs : List (Option Value)) (rest : List Value) (M : MM) : Prop :=
  ∀ (p : Program) (e : Env) (s : State) (m : MethodId) (args : Array Value) (below : List Frame) (meth : Method) (c : Code) (H : Heap) (locs : List Loc) (ls : Array Slot) (q : Addr) (ce : Cell), Fix k mi p s m args meth c → va_S (AA k) s.heap H locs → Rel k M H → lvh ls (mxl mi) vs → H[q]? = some ce → ce.vm = .none → s.vm.findClass NSE = some ce.cls → vx_W p (kL k) e R s m args below meth c H locs nc ns (F s args below) (F0 m pc ls rest) q
theorem g_callX {mi' : MI} {d mc ms n idx ci b : Nat} {as rest : List Value} {Q : Option Value → MM → Prop} {Px : Prop} (hC : Cth k mi' d mc ms (.ref (ka k b) :: as) M Q Px) (hw : MV mi' ci n) (hl : ML mi.1.cls idx mi') (hd : decode (cd mi) pc = .ok (.invokevirtual idx, 3)) (hk : kd b = ci) (hN : sg b < M.1) (hn : as.length = n) (hst : st = as.reverse ++ .ref (ka k b) :: rest) (hr : (rest.map fun v => v.category).sum ≤ 8) (hRm : d + 1 ≤ R.frames ∧ 19 + mxl mi' + 48 * d ≤ R.locals) (hcs : nc + mc ≤ R.cells ∧ ns + ms ≤ R.slots) (hM : M.2.1 = false)
    (h : ∀ v M', Q v M' → M'.2.1 = false ∧ G k mi R F (nc + mc) (ns + ms) (pc + 3) vs (v.toList ++ rest) M') (hx : Px → GT k mi R F (nc + mc) (ns + ms) pc vs rest M) : G k mi R F nc ns pc vs st M := by
  intro p e s m args below meth c H locs ls hF hS hR hX hlv
  obtain ⟨hx0, hb, hml, hown, hts, hret, hlk, hnm, hE⟩ := id hF
  obtain ⟨hw1, hw2, hw3, Tq, Nq, hcl⟩ := hw
  obtain ⟨fs, hfs⟩ := obj_at (k := k) (M := M) hcl hk hN
  have run := vx_runV (e := e) (below := below) (meth := meth) (cells := nc) (slots := ns) (locs := locs) (g := F0 m pc ls st) (rest := rest) (n := n) ⟨hx0, hb, hml, hown, hts⟩ hC ⟨callb hts hw1 hl hRm, hts _ hw2, hts _ hw3⟩ ⟨pcc_blind, va_recv hE.1 hR.1 hcl hfs, fun U hU hW => ⟨rfl, env_on hE hS hU hW, by rw [hU]; exact hR, fun q => by rw [hM] at q; cases q⟩⟩ rfl hn hlv.1.1 hst (lv_room hr) hd hcs
  intro T hT X
  rcases run T hT X with ⟨v, st₀, t, T', L, h0, X', hL, e1, e2, ⟨v', M', hv, hq, hR', hz', hFr⟩, go⟩ | ⟨q, st₀, t, T', L, E, ce, h0, X', hL, e1, e2, ⟨hE1, hpx, hR', hFr⟩, hce, hcv, hcl', go⟩
  · cases hv
    obtain ⟨hm, hG⟩ := h v M' hq
    obtain ⟨t2, a1, b1⟩ := hG p e s m args below meth c T'.heap (locs ++ L) ls hF (by rw [e1]; exact s_trans hS h0 hFr hL) (by rw [e1]; exact hR') (fun z => by rw [hm] at z; cases z) hlv T' rfl X'
    exact ⟨t2, go t2 a1, b1⟩
  · obtain ⟨t2, a1, b1⟩ := hx hpx p e s m args below meth c T'.heap (locs ++ L) ls q ce hF (by rw [e1]; exact s_trans hS h0 hFr hL) (by rw [e1]; exact hR') hlv (by rw [e1]; exact hce) hcv (by rw [← hE1]; exact hcl') T' rfl X'
    exact ⟨t2, go.trans a1, b1⟩
end GX
/-- the end of the class's led: no such plan -/
theorem g_ledthrow {k : KT} {vs : List (Option Value)} {M : MM} {Q : Option Value → MM → Prop} {Px : Prop} (hst : (kL k).stackTraces = false) (hpx : Px) : G k mX10_led (roomOf 6 1 6) (FinX k Q Px M 1 6) 0 0 48 vs [] M := by
  intro p e s m args below meth c H locs ls hF hS hR hX hl
  obtain ⟨hx, hb, hml, hown, hts, hret, hlk, hnm, hE⟩ := id hF
  intro T hT X
  by_cases tb : TabIs s []
  · have ht := tb _ _ _ _ _ X.frames X.method X.code
    have w := led_throw (p := p) (e := e) (below := below) (R := roomOf 6 1 6) (cells := 0) (slots := 0) (Qc := Qcc k Q) (XC := XCc k Px M) (free := AA k) (mc := 1) (ms := 6) (A := AA k) (H := H) (locs := locs) (ls := ls) hx hb hst hown (hts _ (in5 158 (by decide +kernel) rfl)) (hts _ (in1 22 (by decide +kernel) rfl)) (hE.2.2.1 (RX10, 312, "no such plan was kept", 22) (by decide +kernel)) (nse_words hts hE) nse_good hE.2.2.2.2.2.2.2.2.2.2.2.1 hE.2.2.2.2.2.2.2.2.2.2.2.2.1 hS (hl.1.1.trans hml.symm) (fun x hx => by rw [ht] at hx; cases hx) (by decide) (by decide) (by decide) (by decide) hlk
      (fun t _ h1 h2 => ⟨rfl, hpx, ⟨hR.1.kept (fun i q hq => h2 q.1 (vx_lt hR.1 hq)), Nat.le_trans hR.2 h1⟩, Nat.le_trans hS.1 h1, fun a ha hn => (h2 a (Nat.lt_of_lt_of_le ha hS.1)).trans (hS.2.1 a ha hn)⟩) hS.2.2 (by decide) (by decide)
    obtain ⟨t, a1, b1⟩ := w T hT X
    exact ⟨t, a1, fun _ => b1⟩
  · exact ⟨_, Steps.refl _, fun z => absurd z tb⟩
theorem led_walk {k : KT} {I : Nat → Nat → Int32} {J : Nat → Nat → Int64} {w : Bool} {x : Int32} {P : Nat} (hst : (kL k).stackTraces = false) (hP : I (rt (td w) 8) 3 = nI P) (hP6 : P ≤ 6) {Q : Option Value → MM → Prop} {Px : Prop}
    (hQ : ∀ y, ledS (fun j => f_X8_isKept I (td w) (nI j) 23) x P 0 0 = some y → Q (some (.int (nI y))) (81, false, I, J, Pw w)) (hX : ledS (fun j => f_X8_isKept I (td w) (nI j) 23) x P 0 0 = none → Px) :
    ∀ r j c, j + r = P → ledS (fun j => f_X8_isKept I (td w) (nI j) 23) x r j c = ledS (fun j => f_X8_isKept I (td w) (nI j) 23) x P 0 0 → G k mX10_led (roomOf 6 1 6) (FinX k Q Px (81, false, I, J, Pw w) 1 6) 0 0 4 [some (.ref (ka k 0)), some (.int x), some (.int (x - nI c)), some (.int (nI j))] [] (81, false, I, J, Pw w) := by
  intro r
  induction r with
  | zero =>
    intro j c hj he
    refine g_iload_n3 rfl d_X10_led_4 ?_
    refine g_aload_n0 rfl d_X10_led_5 ?_
    refine g_getP (b := td w) f_X10_19 d_X10_led_6 rfl (Nat.le_of_ble_eq_true rfl) rfl rfl ?_
    refine g_getP (b := rt (td w) 8) f_X10_147 d_X10_led_9 (kd_td w) (kd_sg (kd_td w) (by decide)) rfl (pw_rt (kd_td w) (by decide) (by decide)) ?_
    refine g_getI f_X10_108 d_X10_led_12 (kt7 (kd_td w)).2.1 (kd_sg ((kt7 (kd_td w)).2.1) (by decide)) rfl ?_
    refine g_icmp_ge 48 d_X10_led_15 (by decide) (fun _ => ?_) (fun h => ?_)
    · exact g_ledthrow hst (hX (by rw [← he]; rfl))
    · exact absurd (by rw [hP]; exact nI_le (by omega) (by omega)) h
  | succ r ih =>
    intro j c hj he
    refine g_iload_n3 rfl d_X10_led_4 ?_
    refine g_aload_n0 rfl d_X10_led_5 ?_
    refine g_getP (b := td w) f_X10_19 d_X10_led_6 rfl (Nat.le_of_ble_eq_true rfl) rfl rfl ?_
    refine g_getP (b := rt (td w) 8) f_X10_147 d_X10_led_9 (kd_td w) (kd_sg (kd_td w) (by decide)) rfl (pw_rt (kd_td w) (by decide) (by decide)) ?_
    refine g_getI f_X10_108 d_X10_led_12 (kt7 (kd_td w)).2.1 (kd_sg ((kt7 (kd_td w)).2.1) (by decide)) rfl ?_
    refine g_icmp_ge 48 d_X10_led_15 (by decide) (fun h => ?_) (fun _ => ?_)
    · exact absurd h (by rw [hP]; exact nI_ge (by omega) (by omega))
    refine g_aload_n0 rfl d_X10_led_18 ?_
    refine g_getP (b := td w) f_X10_19 d_X10_led_19 rfl (Nat.le_of_ble_eq_true rfl) rfl rfl ?_
    refine g_iload_n3 rfl d_X10_led_22 ?_
    refine g_aload_n0 rfl d_X10_led_23 ?_
    refine g_getP (b := 23) f_X10_26 d_X10_led_24 rfl (Nat.le_of_ble_eq_true rfl) rfl rfl ?_
    refine g_callV1 (c_X8_isKept I (td w) (kd_td w) (nI j) 23 rfl) w_X8_isKept l_X10_307 d_X10_led_27 (kd_td w) (kd_sg (kd_td w) (by decide)) rfl rfl (Nat.le_of_ble_eq_true rfl) ⟨Nat.le_of_ble_eq_true rfl, Nat.le_of_ble_eq_true rfl⟩ ⟨Nat.zero_le _, Nat.zero_le _⟩ ⟨rfl, rfl⟩ ?_
    have hstep : ledS (fun j => f_X8_isKept I (td w) (nI j) 23) x (r + 1) j c = (if f_X8_isKept I (td w) (nI j) 23 = true then (if nI c = x then some j else ledS (fun j => f_X8_isKept I (td w) (nI j) 23) x r (j + 1) (c + 1)) else ledS (fun j => f_X8_isKept I (td w) (nI j) 23) x r (j + 1) c) := rfl
    rw [hstep] at he
    refine g_ifz 42 d_X10_led_30 (by decide) (fun hq => ?_) (fun hq => ?_)
    · rw [if_neg (by rw [hq]; decide)] at he
      refine g_ic3 (n := 1) (nI (j + 1)) (nI_1 j) rfl d_X10_led_42 ?_
      refine g_goto 4 d_X10_led_45 (by decide) ?_
      exact ih (j + 1) c (by omega) he
    · rw [if_pos hq] at he
      refine g_iload_n2 rfl d_X10_led_33 ?_
      refine g_if_ne 39 d_X10_led_34 (by decide) (fun hn => ?_) (fun h0 => ?_)
      · rw [if_neg (fun e => hn ((i_sub0 _ _).mpr e))] at he
        refine g_ic2 (x - nI (c + 1)) (i_dec x c) rfl d_X10_led_39 ?_
        refine g_ic3 (n := 1) (nI (j + 1)) (nI_1 j) rfl d_X10_led_42 ?_
        refine g_goto 4 d_X10_led_45 (by decide) ?_
        exact ih (j + 1) (c + 1) (by omega) he
      · rw [if_pos ((i_sub0 _ _).mp h0)] at he
        refine g_iload_n3 rfl d_X10_led_37 ?_
        exact g_xret (g_iret rfl d_X10_led_38 (hQ j he.symm) (Nat.zero_le _) (Nat.zero_le _))
theorem c_X10_led {k : KT} {I : Nat → Nat → Int32} {J : Nat → Nat → Int64} {w : Bool} (x : Int32) {P : Nat} (hst : (kL k).stackTraces = false) (hP : I (rt (td w) 8) 3 = nI P) (hP6 : P ≤ 6) : Cth k mX10_led 6 1 6 [.ref (ka k 0), .int x] (81, false, I, J, Pw w) (fun v M' => M' = (81, false, I, J, Pw w) ∧ ∃ y, ledS (fun j => f_X8_isKept I (td w) (nI j) 23) x P 0 0 = some y ∧ v = some (.int (nI y))) (ledS (fun j => f_X8_isKept I (td w) (nI j) 23) x P 0 0 = none) := by
  refine Cth.of rfl [some (.ref (ka k 0)), some (.int x), none, none] rfl rfl (Nat.le_of_ble_eq_true rfl) ?_
  refine g_iload_n1 rfl d_X10_led_0 ?_
  refine g_isn2 rfl d_X10_led_1 ?_
  refine g_iconst 0 d_X10_led_2 (by decide) ?_
  refine g_isn3 rfl d_X10_led_3 ?_
  have w := led_walk (J := J) (x := x) hst hP hP6 (Q := fun v M' => M' = (81, false, I, J, Pw w) ∧ ∃ y, ledS (fun j => f_X8_isKept I (td w) (nI j) 23) x P 0 0 = some y ∧ v = some (.int (nI y))) (Px := ledS (fun j => f_X8_isKept I (td w) (nI j) 23) x P 0 0 = none) (fun y hy => ⟨rfl, y, hy, rfl⟩) (fun h => h) P 0 0 (by omega) rfl
  rw [nI_0, Int32.sub_zero] at w
  exact w
