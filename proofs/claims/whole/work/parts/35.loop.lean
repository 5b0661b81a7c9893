def R_law : String := "ChaletRuleLaw"
def lw_P (b : Addr) (xs : List Int32) (args : Array Value) (s : State) : Prop := args = #[.ref b] ∧ s.IntsAt b xs ∧ xs.length ≤ 3072 ∧ (Jvm.Cond.and given_1 narrow_1).before args s = true
def lw_Q (_ : Array Value) (s : State) (o : Outcome) (t : State) : Prop := o = .returned (some (.int 1)) ∧ Framed s o t [] 601024 7293034
def lw_Z (below : List Frame) (a : Array Value) (s : State) : State → Prop := fun t => ∃ o, t.status = .running ∧ Ended t below o ∧ lw_Q a s o t
/-- the law's own end, with 1 on the stack, nothing written that was there before, its room as the claim has it -/
theorem lw_ret {p : Program} {l : Launch} {e : Env} {s : State} {m : MethodId} {below : List Frame} {meth : Method} {c : Code} {b : Nat} (hx : p.tables.exec = Jvm.exec) (hb : c.code = code) (hr : meth.sig.returnType = ret) (hlocks : meth.locks = false) {pc : Nat} {H : Heap} {ls : Array Slot} (hdg : decode code pc = .ok (.ireturn, 1)) : W p l e room_1 s m #[Value.ref b] below meth c H [] 601024 7293034 (lw_Z below #[Value.ref b] s) (F0 m pc ls [.int 1]) := by
  intro T hT X
  obtain ⟨fs, hret, hrun, hended, hW, hframe⟩ := X.leave (v := some (.int 1)) (hlocks := hlocks) (fun h => by rw [hr] at h; cases h)
  have hmeth' : T.vm.method? m = some meth := X.method'
  refine ⟨T.setFrames fs, ?_, .returned (some (.int 1)), hrun, hended, rfl, ⟨_, rfl⟩, hW, hframe⟩
  jvm_step X.here [X.here.top, hx, hb, hdg, hmeth', hr, ret, narrow_b1]
  (try refine ⟨rfl, ?_⟩); (try refine ⟨rfl, ?_⟩)
  first | (intro acts; rw [hret _ acts rfl rfl rfl]) | rw [hret _ _ rfl rfl rfl]
  exact Steps.refl _
/-- what holds at the law's entry: the machine, the code, the tables' words (any of lw_tbl by 'hts w (by decide +kernel)'), the script of L ints xs at the cell b, what the Statement gives of the start (any of its parts by flat_of_before) -/
def lw_At (p : Program) (s : State) (m : MethodId) (meth : Method) (c : Code) (b L : Nat) (xs : Nat → Int32) : Prop :=
  p.tables.exec = Jvm.exec ∧ c.code = code ∧ meth.sig.returnType = ret ∧ c.maxLocals = 7 ∧ s.vm.findClass R_law = some m.cls ∧ (∀ w ∈ lw_tbl, w.before #[Value.ref b] s = true) ∧ va_X b L xs s s.heap ∧ b < s.heap.size ∧ meth.locks = false ∧ (Jvm.Cond.and given_1 narrow_1).before #[Value.ref b] s = true
/-- the law's end, seen from any frame: where it isn't the law's own start nothing is owed -/
def FinL (k : KT) : FinT := fun s args below t => s.heap.size ≤ kB k → args = #[Value.ref (kS k).1] → lw_Z below args s t
theorem g_lawret {k : KT} {nc ns : Nat} {vs : List (Option Value)} {M : MM} (hc : nc ≤ 601024) (hs : ns ≤ 7293034) : G k mL_law room_1 (FinL k) nc ns 1569 vs [.int 1] M := by
  intro p e s m args below meth c H locs ls hF hS hR hX hl
  obtain ⟨hx, hb, hml, hown, hts, hret, hlk, hnm, hE⟩ := id hF
  by_cases hq : s.heap.size ≤ kB k ∧ args = #[Value.ref (kS k).1]
  · obtain ⟨h1, rfl⟩ := hq
    have key : W p (kL k) e room_1 s m #[Value.ref (kS k).1] below meth c H locs nc ns (lw_Z below #[Value.ref (kS k).1] s) (F0 m 1569 ls [.int 1]) :=
      va_forget (fun q hq => Nat.le_trans h1 (hS.2.2 q hq)) (W.widen hc hs (lw_ret hx hb hret hlk d_L_law_1569))
    intro T hT X
    obtain ⟨t, a1, b1⟩ := key T hT X
    exact ⟨t, a1, fun _ _ => b1⟩
  · intro T hT X
    exact ⟨_, Steps.refl _, fun h1 h2 => absurd ⟨h1, h2⟩ hq⟩
/-- every call but led keeps S, and is answered alike -/
def AllSt (S : RelT) : Prop := St_feed S ∧ St_chalet S ∧ St_fault S ∧ St_where S ∧ St_beam S ∧ St_vent S ∧ St_plan S ∧ St_goes S ∧ St_stays S ∧ St_angleIn S ∧ St_dampIn S ∧ St_whoIn S ∧ St_daysOf S ∧ St_when S ∧ St_round S ∧ St_kept S ∧ St_worthOf S ∧ St_bestRow S ∧ St_bestWorth S ∧ St_sureRow S ∧ St_sureCoins S ∧ St_rowFor S ∧ St_makes S ∧ St_makeAt S ∧ St_could S ∧ St_surely S ∧ St_look S ∧ St_lookLeaves S ∧ St_judge S ∧ St_value S ∧ St_opens S ∧ St_flood S ∧ St_cut S ∧ St_floodIf S ∧ St_narrow S ∧ St_downhill S ∧ St_likely S ∧ St_mean S ∧ St_gusted S ∧ St_wetIn S ∧ St_open S ∧ St_oil S ∧ St_day S ∧ St_undo S ∧ St_image S ∧ St_back S ∧ St_size S ∧ St_trouble S
/-- the case of led -/
def LedOK (S : RelT) : Prop := ∀ {k : KT} {ex : Bool} {I : Nat → Nat → Int32} {J : Nat → Nat → Int64} {w : Bool} {F : FinT} {nc ns : Nat} {i : Int32}, (kL k).stackTraces = false → S I J w → nc + 1 ≤ room_1.cells → ns + 6 ≤ room_1.slots → vp_in (i + 1) (kS k).2.1 → (∀ (ex : Bool) (I : Nat → Nat → Int32) (J : Nat → Nat → Int64) (w : Bool), S I J w → G k mL_law room_1 F (nc + 1) (ns + 6) 1562 [some (.ref (kS k).1), some (.ref (ka k 0)), some (.ref (ka k 65)), some (.ref (ka k 80)), some (.int i), none, none] [] (81, ex, I, J, Pw w)) → G k mL_law room_1 F nc ns 1468 [some (.ref (kS k).1), some (.ref (ka k 0)), some (.ref (ka k 65)), some (.ref (ka k 80)), some (.int i), none, none] [] (81, ex, I, J, Pw w)
theorem law_in {L j : Nat} (hL : L ≤ 3072) (hj : j ≤ 514) (h : ¬ (Int32.ofNat L - 6 < nI (6 * j))) : 6 * j + 6 ≤ L := by
  have h1 : ¬ (nI L - nI 6).toInt < (nI (6 * j)).toInt := fun q => h (Int32.lt_iff_toInt_lt.mpr q)
  rw [pk_sub_toInt (by omega) (by omega), nI_toInt (by omega)] at h1
  omega
set_option maxHeartbeats 4000000 in
set_option maxRecDepth 8000 in
theorem law_loop {k : KT} {S : RelT} (hA : AllSt S) (hled : LedOK S) (hst : (kL k).stackTraces = false) (hL : (kS k).2.1 ≤ 3072) : ∀ (r j nc ns : Nat) (ex : Bool) (I : Nat → Nat → Int32) (J : Nat → Nat → Int64) (w : Bool), j + r = 514 → nc ≤ 100 + j → ns ≤ 9000 + 6 * j → S I J w → G k mL_law room_1 (FinL k) nc ns 23 [some (.ref (kS k).1), some (.ref (ka k 0)), some (.ref (ka k 65)), some (.ref (ka k 80)), some (.int (nI (6 * j))), none, none] [] (81, ex, I, J, Pw w) := by
  obtain ⟨q_feed, q_chalet, q_fault, q_where, q_beam, q_vent, q_plan, q_goes, q_stays, q_angleIn, q_dampIn, q_whoIn, q_daysOf, q_when, q_round, q_kept, q_worthOf, q_bestRow, q_bestWorth, q_sureRow, q_sureCoins, q_rowFor, q_makes, q_makeAt, q_could, q_surely, q_look, q_lookLeaves, q_judge, q_value, q_opens, q_flood, q_cut, q_floodIf, q_narrow, q_downhill, q_likely, q_mean, q_gusted, q_wetIn, q_open, q_oil, q_day, q_undo, q_image, q_back, q_size, q_trouble⟩ := hA
  intro r
  induction r with
  | zero =>
    intro j nc ns ex I J w hj hnc hns hS
    refine g_iload (i := 4) rfl d_L_law_23 ?_
    refine g_aload_n0 rfl d_L_law_25 ?_
    refine g_sle d_L_law_26 ?_
    refine g_bipush 6 d_L_law_27 (by decide) ?_
    refine g_isub d_L_law_29 ?_
    refine g_icmp_gt 1568 d_L_law_30 (by decide) (fun _ => ?_) (fun h => ?_)
    · refine g_iconst 1 d_L_law_1568 (by decide) ?_
      exact g_lawret (by omega) (by omega)
    · exact absurd (law_in hL (by omega) h) (by omega)
  | succ r ih =>
    intro j nc ns ex I J w hj hnc hns hS
    have hnc' : nc ≤ room_1.cells := Nat.le_trans hnc (by show _ ≤ 601024; omega)
    have hns' : ns ≤ room_1.slots := Nat.le_trans hns (by show _ ≤ 7293034; omega)
    refine g_iload (i := 4) rfl d_L_law_23 ?_
    refine g_aload_n0 rfl d_L_law_25 ?_
    refine g_sle d_L_law_26 ?_
    refine g_bipush 6 d_L_law_27 (by decide) ?_
    refine g_isub d_L_law_29 ?_
    refine g_icmp_gt 1568 d_L_law_30 (by decide) (fun _ => ?_) (fun h => ?_)
    · refine g_iconst 1 d_L_law_1568 (by decide) ?_
      exact g_lawret (by omega) (by omega)
    · have hin := law_in hL (by omega) h
      have hv0 : vp_in (nI (6 * j)) (kS k).2.1 := vp_in_nI (by omega) (by omega)
      have hv : ∀ c : Nat, c ≤ 5 → vp_in (nI (6 * j) + nI c) (kS k).2.1 := fun c hc => by rw [nI_add]; exact vp_in_nI (by omega) (by omega)
      have next : ∀ (nc' ns' : Nat), nc' ≤ 100 + (j + 1) → ns' ≤ 9000 + 6 * (j + 1) → ∀ (ex : Bool) (I : Nat → Nat → Int32) (J : Nat → Nat → Int64) (w : Bool), S I J w → G k mL_law room_1 (FinL k) nc' ns' 1562 [some (.ref (kS k).1), some (.ref (ka k 0)), some (.ref (ka k 65)), some (.ref (ka k 80)), some (.int (nI (6 * j))), none, none] [] (81, ex, I, J, Pw w) := by
        intro nc' ns' h1 h2 ex I J w hS
        refine g_ic4 (nI (6 * (j + 1))) (by show nI (6 * j) + nI 6 = _; rw [nI_add]; rfl) rfl d_L_law_1562 ?_
        refine g_goto 23 d_L_law_1565 (by decide) ?_
        exact ih (j + 1) nc' ns' ex I J w (by omega) h1 h2 hS
      have nx := next nc ns (by omega) (by omega)
      refine g_aload_n0 rfl d_L_law_33 ?_
      refine g_iload (i := 4) rfl d_L_law_34 ?_
      refine g_sld hv0 d_L_law_36 ?_
      refine g_bipush 63 d_L_law_37 (by decide) ?_
      refine g_iand d_L_law_39 ?_
      generalize (kS k).2.2 (nI (6 * j)).toNatClampNeg &&& 63 = x
      refine g_tcase 0 252 d_L_law_40 (by decide) (by decide) rfl (by decide) (fun _ => lc_feed hS q_feed hnc' hns' (hv 1 (by decide)) (hv 2 (by decide)) (hv 3 (by decide)) (hv 4 (by decide)) (hv 5 (by decide)) nx) (fun n0 => ?_)
      refine g_tcase 1 325 d_L_law_40 (by decide) (by decide) rfl (by decide) (fun _ => lc_chalet hS q_chalet hnc' hns' (hv 1 (by decide)) (hv 2 (by decide)) (hv 3 (by decide)) (hv 4 (by decide)) (hv 5 (by decide)) nx) (fun n1 => ?_)
      refine g_tcase 2 350 d_L_law_40 (by decide) (by decide) rfl (by decide) (fun _ => lc_fault hS q_fault hnc' hns' (hv 1 (by decide)) (hv 2 (by decide)) (hv 3 (by decide)) (hv 4 (by decide)) (hv 5 (by decide)) nx) (fun n2 => ?_)
      refine g_tcase 3 363 d_L_law_40 (by decide) (by decide) rfl (by decide) (fun _ => lc_where hS q_where hnc' hns' (hv 1 (by decide)) (hv 2 (by decide)) (hv 3 (by decide)) (hv 4 (by decide)) (hv 5 (by decide)) nx) (fun n3 => ?_)
      refine g_tcase 4 376 d_L_law_40 (by decide) (by decide) rfl (by decide) (fun _ => lc_beam hS q_beam hnc' hns' (hv 1 (by decide)) (hv 2 (by decide)) (hv 3 (by decide)) (hv 4 (by decide)) (hv 5 (by decide)) nx) (fun n4 => ?_)
      refine g_tcase 5 401 d_L_law_40 (by decide) (by decide) rfl (by decide) (fun _ => lc_vent hS q_vent hnc' hns' (hv 1 (by decide)) (hv 2 (by decide)) (hv 3 (by decide)) (hv 4 (by decide)) (hv 5 (by decide)) nx) (fun n5 => ?_)
      refine g_tcase 6 438 d_L_law_40 (by decide) (by decide) rfl (by decide) (fun _ => lc_plan hS q_plan hnc' hns' (hv 1 (by decide)) (hv 2 (by decide)) (hv 3 (by decide)) (hv 4 (by decide)) (hv 5 (by decide)) nx) (fun n6 => ?_)
      refine g_tcase 7 475 d_L_law_40 (by decide) (by decide) rfl (by decide) (fun _ => lc_goes hS q_goes hnc' hns' (hv 1 (by decide)) (hv 2 (by decide)) (hv 3 (by decide)) (hv 4 (by decide)) (hv 5 (by decide)) nx) (fun n7 => ?_)
      refine g_tcase 8 500 d_L_law_40 (by decide) (by decide) rfl (by decide) (fun _ => lc_stays hS q_stays hnc' hns' (hv 1 (by decide)) (hv 2 (by decide)) (hv 3 (by decide)) (hv 4 (by decide)) (hv 5 (by decide)) nx) (fun n8 => ?_)
      refine g_tcase 9 513 d_L_law_40 (by decide) (by decide) rfl (by decide) (fun _ => lc_angleIn hS q_angleIn hnc' hns' (hv 1 (by decide)) (hv 2 (by decide)) (hv 3 (by decide)) (hv 4 (by decide)) (hv 5 (by decide)) nx) (fun n9 => ?_)
      refine g_tcase 10 538 d_L_law_40 (by decide) (by decide) rfl (by decide) (fun _ => lc_dampIn hS q_dampIn hnc' hns' (hv 1 (by decide)) (hv 2 (by decide)) (hv 3 (by decide)) (hv 4 (by decide)) (hv 5 (by decide)) nx) (fun n10 => ?_)
      refine g_tcase 11 563 d_L_law_40 (by decide) (by decide) rfl (by decide) (fun _ => lc_whoIn hS q_whoIn hnc' hns' (hv 1 (by decide)) (hv 2 (by decide)) (hv 3 (by decide)) (hv 4 (by decide)) (hv 5 (by decide)) nx) (fun n11 => ?_)
      refine g_tcase 12 588 d_L_law_40 (by decide) (by decide) rfl (by decide) (fun _ => lc_daysOf hS q_daysOf hnc' hns' (hv 1 (by decide)) (hv 2 (by decide)) (hv 3 (by decide)) (hv 4 (by decide)) (hv 5 (by decide)) nx) (fun n12 => ?_)
      refine g_tcase 13 625 d_L_law_40 (by decide) (by decide) rfl (by decide) (fun _ => lc_when hS q_when hnc' hns' (hv 1 (by decide)) (hv 2 (by decide)) (hv 3 (by decide)) (hv 4 (by decide)) (hv 5 (by decide)) nx) (fun n13 => ?_)
      refine g_tcase 14 650 d_L_law_40 (by decide) (by decide) rfl (by decide) (fun _ => lc_round hS q_round hnc' hns' (hv 1 (by decide)) (hv 2 (by decide)) (hv 3 (by decide)) (hv 4 (by decide)) (hv 5 (by decide)) nx) (fun n14 => ?_)
      refine g_tcase 15 663 d_L_law_40 (by decide) (by decide) rfl (by decide) (fun _ => lc_kept hS q_kept hnc' hns' (hv 1 (by decide)) (hv 2 (by decide)) (hv 3 (by decide)) (hv 4 (by decide)) (hv 5 (by decide)) nx) (fun n15 => ?_)
      refine g_tcase 16 688 d_L_law_40 (by decide) (by decide) rfl (by decide) (fun _ => lc_worthOf hS q_worthOf hnc' hns' (hv 1 (by decide)) (hv 2 (by decide)) (hv 3 (by decide)) (hv 4 (by decide)) (hv 5 (by decide)) nx) (fun n16 => ?_)
      refine g_tcase 17 725 d_L_law_40 (by decide) (by decide) rfl (by decide) (fun _ => lc_bestRow hS q_bestRow hnc' hns' (hv 1 (by decide)) (hv 2 (by decide)) (hv 3 (by decide)) (hv 4 (by decide)) (hv 5 (by decide)) nx) (fun n17 => ?_)
      refine g_tcase 18 750 d_L_law_40 (by decide) (by decide) rfl (by decide) (fun _ => lc_bestWorth hS q_bestWorth hnc' hns' (hv 1 (by decide)) (hv 2 (by decide)) (hv 3 (by decide)) (hv 4 (by decide)) (hv 5 (by decide)) nx) (fun n18 => ?_)
      refine g_tcase 19 775 d_L_law_40 (by decide) (by decide) rfl (by decide) (fun _ => lc_sureRow hS q_sureRow hnc' hns' (hv 1 (by decide)) (hv 2 (by decide)) (hv 3 (by decide)) (hv 4 (by decide)) (hv 5 (by decide)) nx) (fun n19 => ?_)
      refine g_tcase 20 800 d_L_law_40 (by decide) (by decide) rfl (by decide) (fun _ => lc_sureCoins hS q_sureCoins hnc' hns' (hv 1 (by decide)) (hv 2 (by decide)) (hv 3 (by decide)) (hv 4 (by decide)) (hv 5 (by decide)) nx) (fun n20 => ?_)
      refine g_tcase 21 825 d_L_law_40 (by decide) (by decide) rfl (by decide) (fun _ => lc_rowFor hS q_rowFor hnc' hns' (hv 1 (by decide)) (hv 2 (by decide)) (hv 3 (by decide)) (hv 4 (by decide)) (hv 5 (by decide)) nx) (fun n21 => ?_)
      refine g_tcase 22 862 d_L_law_40 (by decide) (by decide) rfl (by decide) (fun _ => lc_makes hS q_makes hnc' hns' (hv 1 (by decide)) (hv 2 (by decide)) (hv 3 (by decide)) (hv 4 (by decide)) (hv 5 (by decide)) nx) (fun n22 => ?_)
      refine g_tcase 23 875 d_L_law_40 (by decide) (by decide) rfl (by decide) (fun _ => lc_makeAt hS q_makeAt hnc' hns' (hv 1 (by decide)) (hv 2 (by decide)) (hv 3 (by decide)) (hv 4 (by decide)) (hv 5 (by decide)) nx) (fun n23 => ?_)
      refine g_tcase 24 900 d_L_law_40 (by decide) (by decide) rfl (by decide) (fun _ => lc_could hS q_could hnc' hns' (hv 1 (by decide)) (hv 2 (by decide)) (hv 3 (by decide)) (hv 4 (by decide)) (hv 5 (by decide)) nx) (fun n24 => ?_)
      refine g_tcase 25 941 d_L_law_40 (by decide) (by decide) rfl (by decide) (fun _ => lc_surely hS q_surely hnc' hns' (hv 1 (by decide)) (hv 2 (by decide)) (hv 3 (by decide)) (hv 4 (by decide)) (hv 5 (by decide)) nx) (fun n25 => ?_)
      refine g_tcase 26 982 d_L_law_40 (by decide) (by decide) rfl (by decide) (fun _ => lc_look hS q_look hnc' hns' (hv 1 (by decide)) (hv 2 (by decide)) (hv 3 (by decide)) (hv 4 (by decide)) (hv 5 (by decide)) nx) (fun n26 => ?_)
      refine g_tcase 27 995 d_L_law_40 (by decide) (by decide) rfl (by decide) (fun _ => lc_lookLeaves hS q_lookLeaves hnc' hns' (hv 1 (by decide)) (hv 2 (by decide)) (hv 3 (by decide)) (hv 4 (by decide)) (hv 5 (by decide)) nx) (fun n27 => ?_)
      refine g_tcase 28 1008 d_L_law_40 (by decide) (by decide) rfl (by decide) (fun _ => lc_judge hS q_judge hnc' hns' (hv 1 (by decide)) (hv 2 (by decide)) (hv 3 (by decide)) (hv 4 (by decide)) (hv 5 (by decide)) nx) (fun n28 => ?_)
      refine g_tcase 29 1021 d_L_law_40 (by decide) (by decide) rfl (by decide) (fun _ => lc_value hS q_value hnc' hns' (hv 1 (by decide)) (hv 2 (by decide)) (hv 3 (by decide)) (hv 4 (by decide)) (hv 5 (by decide)) nx) (fun n29 => ?_)
      refine g_tcase 30 1046 d_L_law_40 (by decide) (by decide) rfl (by decide) (fun _ => lc_opens hS q_opens hnc' hns' (hv 1 (by decide)) (hv 2 (by decide)) (hv 3 (by decide)) (hv 4 (by decide)) (hv 5 (by decide)) nx) (fun n30 => ?_)
      refine g_tcase 31 1071 d_L_law_40 (by decide) (by decide) rfl (by decide) (fun _ => lc_flood hS q_flood hnc' hns' (hv 1 (by decide)) (hv 2 (by decide)) (hv 3 (by decide)) (hv 4 (by decide)) (hv 5 (by decide)) nx) (fun n31 => ?_)
      refine g_tcase 32 1084 d_L_law_40 (by decide) (by decide) rfl (by decide) (fun _ => lc_cut hS q_cut hnc' hns' (hv 1 (by decide)) (hv 2 (by decide)) (hv 3 (by decide)) (hv 4 (by decide)) (hv 5 (by decide)) nx) (fun n32 => ?_)
      refine g_tcase 33 1097 d_L_law_40 (by decide) (by decide) rfl (by decide) (fun _ => lc_floodIf hS q_floodIf hnc' hns' (hv 1 (by decide)) (hv 2 (by decide)) (hv 3 (by decide)) (hv 4 (by decide)) (hv 5 (by decide)) nx) (fun n33 => ?_)
      refine g_tcase 34 1134 d_L_law_40 (by decide) (by decide) rfl (by decide) (fun _ => lc_narrow hS q_narrow hnc' hns' (hv 1 (by decide)) (hv 2 (by decide)) (hv 3 (by decide)) (hv 4 (by decide)) (hv 5 (by decide)) nx) (fun n34 => ?_)
      refine g_tcase 35 1147 d_L_law_40 (by decide) (by decide) rfl (by decide) (fun _ => lc_downhill hS q_downhill hnc' hns' (hv 1 (by decide)) (hv 2 (by decide)) (hv 3 (by decide)) (hv 4 (by decide)) (hv 5 (by decide)) nx) (fun n35 => ?_)
      refine g_tcase 36 1172 d_L_law_40 (by decide) (by decide) rfl (by decide) (fun _ => lc_likely hS q_likely hnc' hns' (hv 1 (by decide)) (hv 2 (by decide)) (hv 3 (by decide)) (hv 4 (by decide)) (hv 5 (by decide)) nx) (fun n36 => ?_)
      refine g_tcase 37 1238 d_L_law_40 (by decide) (by decide) rfl (by decide) (fun _ => lc_mean hS q_mean hnc' hns' (hv 1 (by decide)) (hv 2 (by decide)) (hv 3 (by decide)) (hv 4 (by decide)) (hv 5 (by decide)) nx) (fun n37 => ?_)
      refine g_tcase 38 1292 d_L_law_40 (by decide) (by decide) rfl (by decide) (fun _ => lc_gusted hS q_gusted hnc' hns' (hv 1 (by decide)) (hv 2 (by decide)) (hv 3 (by decide)) (hv 4 (by decide)) (hv 5 (by decide)) nx) (fun n38 => ?_)
      refine g_tcase 39 1329 d_L_law_40 (by decide) (by decide) rfl (by decide) (fun _ => lc_wetIn hS q_wetIn hnc' hns' (hv 1 (by decide)) (hv 2 (by decide)) (hv 3 (by decide)) (hv 4 (by decide)) (hv 5 (by decide)) nx) (fun n39 => ?_)
      refine g_tcase 40 1366 d_L_law_40 (by decide) (by decide) rfl (by decide) (fun _ => lc_open hS q_open hnc' hns' (hv 1 (by decide)) (hv 2 (by decide)) (hv 3 (by decide)) (hv 4 (by decide)) (hv 5 (by decide)) nx) (fun n40 => ?_)
      refine g_tcase 41 1391 d_L_law_40 (by decide) (by decide) rfl (by decide) (fun _ => lc_oil hS q_oil hnc' hns' (hv 1 (by decide)) (hv 2 (by decide)) (hv 3 (by decide)) (hv 4 (by decide)) (hv 5 (by decide)) nx) (fun n41 => ?_)
      refine g_tcase 42 1404 d_L_law_40 (by decide) (by decide) rfl (by decide) (fun _ => lc_day hS q_day hnc' hns' (hv 1 (by decide)) (hv 2 (by decide)) (hv 3 (by decide)) (hv 4 (by decide)) (hv 5 (by decide)) nx) (fun n42 => ?_)
      refine g_tcase 43 1417 d_L_law_40 (by decide) (by decide) rfl (by decide) (fun _ => lc_undo hS q_undo hnc' hns' (hv 1 (by decide)) (hv 2 (by decide)) (hv 3 (by decide)) (hv 4 (by decide)) (hv 5 (by decide)) nx) (fun n43 => ?_)
      refine g_tcase 44 1430 d_L_law_40 (by decide) (by decide) rfl (by decide) (fun _ => lc_image hS q_image hnc' hns' (hv 1 (by decide)) (hv 2 (by decide)) (hv 3 (by decide)) (hv 4 (by decide)) (hv 5 (by decide)) nx) (fun n44 => ?_)
      refine g_tcase 45 1443 d_L_law_40 (by decide) (by decide) rfl (by decide) (fun _ => lc_back hS q_back hnc' hns' (hv 1 (by decide)) (hv 2 (by decide)) (hv 3 (by decide)) (hv 4 (by decide)) (hv 5 (by decide)) nx) (fun n45 => ?_)
      refine g_tcase 46 1468 d_L_law_40 (by decide) (by decide) rfl (by decide) (fun _ => hled hst hS (by show _ ≤ 601024; omega) (by show _ ≤ 7293034; omega) (hv 1 (by decide)) (next (nc + 1) (ns + 6) (by omega) (by omega))) (fun n46 => ?_)
      refine g_tcase 47 1524 d_L_law_40 (by decide) (by decide) rfl (by decide) (fun _ => lc_size hS q_size hnc' hns' (hv 1 (by decide)) (hv 2 (by decide)) (hv 3 (by decide)) (hv 4 (by decide)) (hv 5 (by decide)) nx) (fun n47 => ?_)
      refine g_tcase 48 1549 d_L_law_40 (by decide) (by decide) rfl (by decide) (fun _ => lc_trouble hS q_trouble hnc' hns' (hv 1 (by decide)) (hv 2 (by decide)) (hv 3 (by decide)) (hv 4 (by decide)) (hv 5 (by decide)) nx) (fun n48 => ?_)
      refine g_tableOut 1562 d_L_law_40 (sw_out (n := 48) (by decide) (fun j hj => by rcases (show j = 0 ∨ j = 1 ∨ j = 2 ∨ j = 3 ∨ j = 4 ∨ j = 5 ∨ j = 6 ∨ j = 7 ∨ j = 8 ∨ j = 9 ∨ j = 10 ∨ j = 11 ∨ j = 12 ∨ j = 13 ∨ j = 14 ∨ j = 15 ∨ j = 16 ∨ j = 17 ∨ j = 18 ∨ j = 19 ∨ j = 20 ∨ j = 21 ∨ j = 22 ∨ j = 23 ∨ j = 24 ∨ j = 25 ∨ j = 26 ∨ j = 27 ∨ j = 28 ∨ j = 29 ∨ j = 30 ∨ j = 31 ∨ j = 32 ∨ j = 33 ∨ j = 34 ∨ j = 35 ∨ j = 36 ∨ j = 37 ∨ j = 38 ∨ j = 39 ∨ j = 40 ∨ j = 41 ∨ j = 42 ∨ j = 43 ∨ j = 44 ∨ j = 45 ∨ j = 46 ∨ j = 47 ∨ j = 48 by omega) with rfl | rfl | rfl | rfl | rfl | rfl | rfl | rfl | rfl | rfl | rfl | rfl | rfl | rfl | rfl | rfl | rfl | rfl | rfl | rfl | rfl | rfl | rfl | rfl | rfl | rfl | rfl | rfl | rfl | rfl | rfl | rfl | rfl | rfl | rfl | rfl | rfl | rfl | rfl | rfl | rfl | rfl | rfl | rfl | rfl | rfl | rfl | rfl | rfl <;> assumption)) (by decide) ?_
      exact nx ex I J w hS
