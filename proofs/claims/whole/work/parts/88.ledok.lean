/-! ===== the law's led, and the case of led ===== -/
def hhL : List (Nat × Nat × Nat × Nat) := [(0, 9, 12, 13)]
def wsLed : List Cond := Cond.codeWith mL_led.1 (cd mL_led) (mxl mL_led) (rty mL_led) hhL :: BIG
def CtH (k : KT) (d mc ms : Nat) (as : List Value) (M : MM) (Q : Option Value → MM → Prop) : Prop := Met (kL k) mL_led.1 wsLed (roomOf d mc ms) (Pcc k as M) (Qcc k Q) mc ms (AA k)
theorem met_ofWH {l : Launch} {y : MethodName} {ws ws' : List Cond} {rm : Room} {Pc : Array Value → State → Prop} {Qc : Array Value → State → Outcome → State → Prop} {mc ms : Nat} {free : Addr → Prop} {cc : ByteArray} {maxL : Nat} {ret : Option FieldType} {hh : List (Nat × Nat × Nat × Nat)}
    (hy : plainName y.cls = true) (hw : ws = Cond.codeWith y cc maxL ret hh :: ws')
    (body : ∀ p e s m args below meth c s₁, BodyLoose p l y (headSpec ws rm) cc maxL ret e s m args below meth c s₁ → c.maxLocals = maxL → Pc args s →
      W p l e (headSpec ws rm).room s m args below meth c s.heap [] 0 0 (MQ below Qc args s mc ms free) (entryFrame m args maxL)) : Met l y ws rm Pc Qc mc ms free := by
  refine MetFree.of_bodyS (code := cc) (maxLocals := maxL) (ret := ret) hy ?_ ?_
  · intro args s m h hn
    obtain ⟨m9, meth, c, hn9, h1, h2, h3, h4, -, h5, h6, -⟩ := Cond.codeWith_spec (atoms_spec (ws := ws) h _ (by rw [hw]; exact List.mem_cons_self))
    cases hn.symm.trans hn9
    exact ⟨meth, c, h1, h2, h3, h4, h5, h6⟩
  · intro p e s m args below meth c s₁ B hml hP _
    have hh0 : s₁.heap = s.heap := by rw [B.state]; rfl
    obtain ⟨t, a1, o, b1, b2, b3⟩ := body p e s m args below meth c s₁ B hml hP s₁ hh0 (Stand.of_body B)
    exact ⟨t, o, a1, b1, b2, ⟨b3.1, b3.2⟩⟩
theorem CtH.of {k : KT} {M : MM} {d mc ms : Nat} {as : List Value} {Q : Option Value → MM → Prop} (vs : List (Option Value)) (hv : tol 0 vs = lv_args 0 as) (hlen : vs.length = mxl mL_led) (hle : (lg_sl as).length ≤ mxl mL_led) (h : G k mL_led (roomOf d mc ms) (FinH k Q mc ms (tableOf hhL)) 0 0 0 vs [] M) : CtH k d mc ms as M Q := by
  refine met_ofWH (cc := cd mL_led) (maxL := mxl mL_led) (ret := rty mL_led) (hh := hhL) rfl rfl ?_
  intro p e s m args below meth c s₁ B hml hv0
  obtain ⟨rfl, hE, hR, hX⟩ := hv0
  have hl := lv_entry as (n := mxl mL_led) hle
  rw [lg_entry_eq]
  have X0 := Stand.of_body B
  have tb : TabIs s (tableOf hhL) := tab_of X0.frames X0.method X0.code (vx_table (x := mL_led.1) B (atoms_spec (ws := wsLed) B.pre _ List.mem_cons_self))
  have key := h p e s m as.toArray below meth c s.heap [] _ ⟨B.exec, B.bytes, hml, findClass_of_methodNamed B.named, fun w hw => atoms_spec (ws := wsLed) B.pre w (List.mem_cons_of_mem _ hw), B.returns, B.notSynchronized, (name_of_methodNamed B.named B.method).1, hE⟩ va_S.rf hR hX ⟨by rw [hv]; exact hl, hlen⟩
  intro T hT X
  obtain ⟨t, a1, b1⟩ := key T hT X
  exact ⟨t, a1, b1 tb⟩
theorem gt_catch {k : KT} {R : Room} {nc ns mc ms : Nat} {vs : List (Option Value)} {rest : List Value} {M : MM} {Q : Option Value → MM → Prop} (hMf : M.2.1 = false) (h : ∀ q : Addr, G k mL_led R (FinH k Q mc ms (tableOf hhL)) nc ns 12 vs [.ref q] M) : GT k mL_led R (FinH k Q mc ms (tableOf hhL)) nc ns 4 vs rest M := by
  intro p e s m args below meth c H locs ls q ce hF hS hR hlv hce hcv hcl
  obtain ⟨hx, hb, hml, hown, hts, hret, hlk, hnm, hE⟩ := id hF
  intro T hT X
  by_cases tb : TabIs s (tableOf hhL)
  · have ht := tb _ _ _ _ _ X.frames X.method X.code
    obtain ⟨_, _, _, _, _, _, _, _, _, _, _, _, _, _, _, _, h17⟩ := hE
    exact vx_catch (pc := 4) (ls := ls) (rest := rest) (own := RL) (name := NSE) (E := NSE) hown [] { startPc := 0, endPc := 9, handlerPc := 12, catchType := 13 } [] (by rw [ht]; rfl) (fun z hz => nomatch hz) (by decide) (by decide) (hts _ (in5 152 (by decide +kernel) rfl)) (va_Nw.use rfl h17) hce hcv hcl (h q p e s m args below meth c H locs ls hF hS hR (fun z => by rw [hMf] at z; cases z) hlv) T hT X
  · exact ⟨_, Steps.refl _, fun z => absurd z tb⟩
def QL (I : Nat → Nat → Int32) (J : Nat → Nat → Int64) (w : Bool) (o : Option Nat) : Option Value → MM → Prop := fun v M' => (∃ y, o = some y ∧ v = some (.int 0) ∧ M' = (81, false, I, va_up J 80 (vp_updL (J 80) 0 (nI y).toInt64), Pw w)) ∨ (o = none ∧ v = some (.int 1) ∧ M' = (81, false, I, J, Pw w))
theorem c_L_led {k : KT} {I : Nat → Nat → Int32} {J : Nat → Nat → Int64} {w : Bool} (x : Int32) {P : Nat} (hst : (kL k).stackTraces = false) (hP : I (rt (td w) 8) 3 = nI P) (hP6 : P ≤ 6) : CtH k 7 1 6 [.ref (ka k 0), .int x, .ref (ka k 80)] (81, false, I, J, Pw w) (QL I J w (ledS (fun j => f_X8_isKept I (td w) (nI j) 23) x P 0 0)) := by
  refine CtH.of [some (.ref (ka k 0)), some (.int x), some (.ref (ka k 80)), none] rfl rfl (Nat.le_of_ble_eq_true rfl) ?_
  refine g_aload_n2 rfl d_L_led_0 ?_
  refine g_iconst 0 d_L_led_1 (by decide) ?_
  refine g_aload_n0 rfl d_L_led_2 ?_
  refine g_iload_n1 rfl d_L_led_3 ?_
  refine g_callX (c_X10_led x hst hP hP6) w_X10_led l_L_7 d_L_led_4 rfl (Nat.le_of_ble_eq_true rfl) rfl rfl (Nat.le_of_ble_eq_true rfl) ⟨Nat.le_of_ble_eq_true rfl, Nat.le_of_ble_eq_true rfl⟩ ⟨Nat.le_of_ble_eq_true rfl, Nat.le_of_ble_eq_true rfl⟩ rfl (fun v M' hq => ?_) (fun hn => ?_)
  · obtain ⟨rfl, y, hy, rfl⟩ := hq
    refine ⟨rfl, ?_⟩
    refine g_i2l d_L_led_7 ?_
    refine g_last d_L_led_8 rfl (Nat.le_of_ble_eq_true rfl) (vp_in_nI (n := 0) (by decide +kernel) (by decide +kernel)) ?_
    refine g_goto 15 d_L_led_9 (by decide) ?_
    refine g_iconst 0 d_L_led_15 (by decide) ?_
    exact g_hret (g_iret rfl d_L_led_16 (Or.inl ⟨y, hy, rfl, rfl⟩) (Nat.le_refl _) (Nat.le_refl _))
  · refine gt_catch rfl (fun q => ?_)
    refine g_asn3 rfl d_L_led_12 ?_
    refine g_iconst 1 d_L_led_13 (by decide) ?_
    exact g_hret (g_iret rfl d_L_led_14 (Or.inr ⟨hn, rfl, rfl⟩) (Nat.le_refl _) (Nat.le_refl _))
theorem good_sub {L : List Cond} (h : ∀ w ∈ L, w ∈ BIG) : GoodIn BIG L := fun w hw => ⟨h w hw, good_of_word (List.mem_filter.mp (h w hw)).2⟩
theorem g_callL {k : KT} {F : FinT} {nc ns : Nat} {vs : List (Option Value)} {M : MM} {as rest : List Value} {st : List Value} {Q : Option Value → MM → Prop} (hC : CtH k 7 1 6 as M Q) (hn : as.length = 3) (hst : st = as.reverse ++ rest) (hr : (rest.map fun v => v.category).sum ≤ 8) (hcs : nc + 1 ≤ room_1.cells ∧ ns + 6 ≤ room_1.slots)
    (h : ∀ v M', Q v M' → (M'.2.1 = true → M.2.1 = true ∧ M'.1 = M.1 + 1) ∧ G k mL_law room_1 F (nc + 1) (ns + 6) 1479 vs (v.toList ++ rest) M') : G k mL_law room_1 F nc ns 1476 vs st M := by
  refine g_behind (rest := rest) (arr := as.toArray) (fun p e s m args below meth c H locs ls hF hS hR hz hlv => ?_) h
  obtain ⟨hx, hb, hml, hown, hts, hret, hlk, hnm, hE⟩ := hF
  have hcw : vx_CSW room_1 s args RL 211 mL_led.1 (cd mL_led) (mxl mL_led) (rty mL_led) hhL wsLed (roomOf 7 1 6) 1 6 3 := by
    refine vx_cwSW 3 hts (good_sub ?_) rfl rfl rfl ⟨by decide, by decide, by decide +kernel⟩ ⟨by decide, by decide⟩
    intro w hw
    simp only [va_wsS, wsLed, List.mem_append, List.mem_cons, List.not_mem_nil, or_false] at hw
    have h1 : Cond.methodLink RL 211 mL_led.1 ∈ BIG := l_L_211
    have h2 : Cond.initialized mL_led.1.cls ∈ BIG := in1 0 (by decide +kernel) rfl
    have h3 : Cond.static mL_led.1 ∈ BIG := in5 150 (by decide +kernel) rfl
    have h4 : Cond.codeWith mL_led.1 (cd mL_led) (mxl mL_led) (rty mL_led) hhL ∈ BIG := in5 151 (by decide +kernel) rfl
    rcases hw with hw | hw
    · rcases hw with rfl | rfl | rfl <;> assumption
    · rcases hw with rfl | hw
      · exact h4
      · exact hw
  exact vx_runSW (n := 3) ⟨hx, hb, hml, hown, hts⟩ hC hcw ⟨pcc_blind, fun U hU hW => ⟨rfl, env_on hE hS hU hW, by rw [hU]; exact hR, by rw [hU]; exact hz⟩⟩ rfl hn hlv.1.1 hst (lv_room hr) d_L_law_1476 hcs
theorem fr_650 (I : Mm) (v : Int32) : Fr I (st2 I 65 0 v) := (Fr.refl I).st rfl
theorem led_ok : LedOK Sim := by
  intro k ex I J w F nc ns i hst hS hnc hns hv1 next
  have hc := hS.1
  have hb := hc.1
  have hP6 := hb.nP.2
  have tp := hc.2.1.2.2.2.2.2.2.2.2.2.1
  have hP : I (rt (td w) 8) 3 = nI (I 68 6).toNatClampNeg := by rw [rt_8 (td_or w)]; exact tp.2.2.1
  generalize hxx : (kS k).2.2 (i + 1).toNatClampNeg = x
  have lm := led_model hc x
  have lc := led_class hc x
  have hL := c_L_led (k := k) (J := J) x hst hP hP6
  rw [lc] at hL
  generalize ledS (kb (I 68) (I 23)) x (I 68 6).toNatClampNeg 0 0 = o at lm hL
  refine G.inex ?_
  refine g_aload_n1 rfl d_L_law_1468 ?_
  refine g_aload_n0 rfl d_L_law_1469 ?_
  refine g_iload (i := 4) rfl d_L_law_1470 ?_
  refine g_iconst 1 d_L_law_1472 (by decide) ?_
  refine g_iadd d_L_law_1473 ?_
  refine g_sld hv1 d_L_law_1474 ?_
  refine g_aload_n3 rfl d_L_law_1475 ?_
  rw [hxx]
  refine g_callL hL rfl rfl (Nat.le_of_ble_eq_true rfl) ⟨hnc, hns⟩ (fun v M' hq => ?_)
  have mo : ∀ (J' : Nat → Nat → Int64) (b : Int32), b = ledT o → (b = 0 → lg_cmp (J' 80 0) (ledA o).toInt64 = 0) → G k mL_law room_1 F (nc + 1) (ns + 6) 1479 [some (.ref (kS k).1), some (.ref (ka k 0)), some (.ref (ka k 65)), some (.ref (ka k 80)), some (.int i), none, none] [.int b] (81, false, I, J', Pw w) := by
    intro J' b hb' hl
    refine g_is5 rfl d_L_law_1479 ?_
    refine g_aload_n2 rfl d_L_law_1481 ?_
    refine g_aload_n0 rfl d_L_law_1482 ?_
    refine g_iload (i := 4) rfl d_L_law_1483 ?_
    refine g_iconst 1 d_L_law_1485 (by decide) ?_
    refine g_iadd d_L_law_1486 ?_
    refine g_sld hv1 d_L_law_1487 ?_
    rw [hxx]
    refine g_callV1 (c_X11_led I x lm.2.2) w_X11_led l_L_216 d_L_law_1488 rfl (Nat.le_of_ble_eq_true rfl) rfl rfl (Nat.le_of_ble_eq_true rfl) ⟨Nat.le_of_ble_eq_true rfl, Nat.le_of_ble_eq_true rfl⟩ ⟨hnc, hns⟩ ⟨rfl, rfl⟩ ?_
    rw [lm.1, lm.2.1]
    refine g_is6 rfl d_L_law_1491 ?_
    refine g_aload_n2 rfl d_L_law_1493 ?_
    refine g_callV1 (c_X11_thrown (st2 I 65 0 (ledT o))) w_X11_thrown l_L_217 d_L_law_1494 rfl (Nat.le_of_ble_eq_true rfl) rfl rfl (Nat.le_of_ble_eq_true rfl) ⟨Nat.le_of_ble_eq_true rfl, Nat.le_of_ble_eq_true rfl⟩ ⟨hnc, hns⟩ ⟨rfl, rfl⟩ ?_
    have ht : f_X11_thrown (st2 I 65 0 (ledT o)) = b := by rw [f_X11_thrown, opv_eq, st2_s, hb']
    rw [ht]
    refine g_iload (i := 5) rfl d_L_law_1497 ?_
    refine g_icmp_eq 1504 d_L_law_1499 (by decide) (fun _ => ?_) (fun h => absurd rfl h)
    refine g_iload (i := 5) rfl d_L_law_1504 ?_
    have fin : G k mL_law room_1 F (nc + 1) (ns + 6) 1521 [some (.ref (kS k).1), some (.ref (ka k 0)), some (.ref (ka k 65)), some (.ref (ka k 80)), some (.int i), some (.int b), some (.int (ledA o))] [] (81, false, st2 I 65 0 (ledT o), J', Pw w) := by
      refine g_goto 1562 d_L_law_1521 (by decide) ?_
      refine G.weak (wks (wks (wks (wks (wks (wkn (wkn wk0))))))) ?_
      exact next false (st2 I 65 0 (ledT o)) J' w (hS.stay (Fr.refl I) (fr_650 I _))
    refine g_if_ne 1521 d_L_law_1506 (by decide) (fun _ => fin) (fun h0 => ?_)
    refine g_aload_n3 rfl d_L_law_1509 ?_
    refine g_iconst 0 d_L_law_1510 (by decide) ?_
    refine g_lald d_L_law_1511 rfl (Nat.le_of_ble_eq_true rfl) (vp_in_nI (n := 0) (by decide +kernel) (by decide +kernel)) ?_
    refine g_iload (i := 6) rfl d_L_law_1512 ?_
    refine g_i2l d_L_law_1514 ?_
    refine g_lcmp d_L_law_1515 ?_
    refine g_if_eq 1521 d_L_law_1516 (by decide) (fun _ => fin) (fun h => absurd (hl h0) h)
  rcases hq with ⟨y, ho, rfl, rfl⟩ | ⟨ho, rfl, rfl⟩
  · refine ⟨(fun z => by cases z), mo _ 0 (by rw [ho]; rfl) (fun _ => ?_)⟩
    rw [lg_cmp_eq, vu_s, pk_uLs, ho]
    rfl
  · exact ⟨(fun z => by cases z), mo _ 1 (by rw [ho]; rfl) (fun z => absurd z (by decide))⟩
