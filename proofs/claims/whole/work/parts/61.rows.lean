/-! ===== rows of vents: the model's ===== -/
theorem rowsFor_lp (I : Mm) {n : Nat} (hn : n ≤ 4) : ∀ (c i a : Nat), i + c = n → (lp_X11_rowsFor_4 I (nI n) (c + 1) (nI a) (nI i)).1 = nI (a * 10 ^ c) := by
  intro c
  induction c with
  | zero =>
    intro i a hi
    rw [lp_X11_rowsFor_4, if_pos (nI_le (by omega) (by omega)), Nat.pow_zero, Nat.mul_one]
  | succ c ih =>
    intro i a hi
    rw [lp_X11_rowsFor_4, if_neg (nI_ge (by omega) (by omega)), nI_1, show nI a * 10 = nI (a * 10) from pk_mul a 10, ih (i + 1) (a * 10) (by omega), Nat.pow_succ, Nat.mul_assoc, Nat.mul_comm 10]
theorem m_rowsFor (I : Mm) {n : Nat} (hn : n ≤ 4) : f_X11_rowsFor I (nI n) = nI (10 ^ n) := by
  have k := rowsFor_lp I hn n 0 1 (by omega)
  rw [Nat.one_mul] at k
  rw [f_X11_rowsFor, opv_eq, show (0 : Int32) = nI 0 from rfl, mu_up_nI (by omega) (by omega), Nat.sub_zero]
  exact k
theorem isRow_lp {I : Mm} {V n : Nat} (hV : I 68 5 = nI V) (hV2 : V ≤ 9) (hn : n ≤ 4) (x1 : Int32) : ∀ (c k y : Nat) (acc : Bool), k + c = n → y < 2 ^ 31 → ((lp_X11_isRowOf_14 I x1 (nI n) (c + 1) (nI y) acc (nI k)).2.1 && decide ((lp_X11_isRowOf_14 I x1 (nI n) (c + 1) (nI y) acc (nI k)).1 = 0)) = (acc && isR V c y) := by
  intro c
  induction c with
  | zero =>
    intro k y acc hk hy
    rw [lp_X11_isRowOf_14, if_pos (nI_le (by omega) (by omega)), isR]
    show (acc && decide (nI y = 0)) = _
    congr 1
    by_cases z : y = 0
    · subst z; rfl
    · rw [decide_eq_false (nI_ne0 (by omega) hy)]
      simp [z]
  | succ c ih =>
    intro k y acc hk hy
    have e1 : nI y / 10 = nI (y / 10) := pk_div (d := 10) hy (by omega) (by omega)
    have e2 : nI y - nI y / 10 * 10 = nI (y % 10) := pk_rem (d := 10) hy (by omega) (by omega)
    have m10 : y % 10 < 10 := Nat.mod_lt _ (by omega)
    have eu : u0_X11_isRowOf I (nI y) acc = (acc && decide (y % 10 ≤ V)) := by
      rw [u0_X11_isRowOf, opv_eq, e2, hV]
      cases acc
      · rfl
      · simp only [if_true, Bool.true_and]
        by_cases z : y % 10 ≤ V
        · rw [if_neg (nI_nlt z (by omega)), decide_eq_true z]
        · rw [if_pos (nI_lt (by omega) (by omega)), decide_eq_false z]
    rw [lp_X11_isRowOf_14, if_neg (nI_ge (by omega) (by omega)), nI_1, eu, e1, ih (k + 1) (y / 10) _ (by omega) (by omega), isR, Bool.and_assoc]
theorem m_isRow {I : Mm} {V n x : Nat} (hV : I 68 5 = nI V) (hV2 : V ≤ 9) (hn : n ≤ 4) (hx : x < 2 ^ 31) : f_X11_isRowOf I (nI x) (nI n) = isR V n x := by
  have k := isRow_lp hV hV2 hn (nI x) n 0 x true (by omega) hx
  have mu : mu_up (nI n) 0 + 1 = n + 1 := by rw [show mu_up (nI n) 0 = mu_up (nI n) (nI 0) from rfl, mu_up_nI (by omega) (by omega), Nat.sub_zero]
  rw [nI_0, Bool.true_and] at k
  rw [f_X11_isRowOf, opv_eq, if_pos (nI_pos' hx), u1_X11_isRowOf, opv_eq, mu, ← k]
  generalize lp_X11_isRowOf_14 I (nI x) (nI n) (n + 1) (nI x) true 0 = L
  cases L.2.1
  · rfl
  · by_cases z : L.1 = 0
    · simp [z]
    · simp [z]
theorem isR_lt {V : Nat} : ∀ (n x : Nat), isR V n x = true → x < 10 ^ n := by
  intro n
  induction n with
  | zero =>
    intro x h
    unfold isR at h
    have : x = 0 := by simpa using h
    rw [this]
    exact Nat.one_pos
  | succ n ih =>
    intro x h
    unfold isR at h
    rw [Bool.and_eq_true] at h
    have := ih _ h.2
    rw [Nat.pow_succ]
    omega
theorem isR_row {V n x : Nat} (hV : V < 5) (hn : n < 5) (h : isR V n x = true) : (∀ k, k < n → dg x n k ≤ V) ∧ num (dg x n) n = x ∧ x < 10000 ∧ ∃ i, i < (V + 1) ^ n ∧ Rn V n i = x := by
  have lt := isR_lt n x h
  have mem : x ∈ (List.range (10 ^ n)).filter (isR V n) := List.mem_filter.mpr ⟨List.mem_range.mpr lt, h⟩
  rw [← rows_are V hV n hn] at mem
  obtain ⟨i, hi, e⟩ := List.mem_map.mp mem
  have hi2 := List.mem_range.mp hi
  have p := pV V hV n hn
  have d := row_dg V hV n hn i (by omega) hi2
  rw [e] at d
  exact ⟨d.1, d.2.1, d.2.2, i, hi2, e⟩
theorem runD_4 (r : Vc) (d : Nat → Nat) (v : Vc) : ∀ n, (runD r d v n).1 4 = v 4 + nI n := by
  intro n
  induction n with
  | zero => rw [nI_0, Int32.add_zero]; rfl
  | succ n ih =>
    rw [runD, stp]
    show mday r (r 0) (opn (runD r d v n).1 (d n)) 4 = _
    rw [mday_4]
    have : opn (runD r d v n).1 (d n) 4 = (runD r d v n).1 4 := by
      unfold opn
      split
      · rfl
      · rw [pk_un (by omega)]
    rw [this, ih, Int32.add_assoc, nI_1]
/-- the model by one row -/
theorem m_byRow {I : Mm} {r b : Vc} {x n : Nat} (hr : I 68 = r) (hb : RB r) (hn : n ≤ 4) (h1 : 1 ≤ n) (hx : x < 2 ^ 31) (hB : BR r (r 0) 999 b (I 70)) : Fk kgb I (m_X11_goBy I (nI x) (nI n)) ∧ ok_X11_goBy I (nI x) (nI n) ∧ f_X11_worthsOf (m_X11_goBy I (nI x) (nI n)) 73 (m_X11_goBy I (nI x) (nI n) 70 4) (m_X11_goBy I (nI x) (nI n) 70 4 + nI n) = wth r (runD r (dg x n) (I 70) n).1 (I 70 4) ∧ ok_X11_worthsOf (m_X11_goBy I (nI x) (nI n)) 73 (m_X11_goBy I (nI x) (nI n) 70 4) (m_X11_goBy I (nI x) (nI n) 70 4 + nI n) ∧ m_X11_goBy I (nI x) (nI n) 65 24 = (runD r (dg x n) (I 70) n).2 ∧ f_X11_areAllKept (m_X11_goBy I (nI x) (nI n)) (m_X11_goBy I (nI x) (nI n) 70 4) (m_X11_goBy I (nI x) (nI n) 70 4 + nI n) = akV r (runD r (dg x n) (I 70) n).1 (I 70 4) (r 6).toNatClampNeg 0 ∧ ok_X11_areAllKept (m_X11_goBy I (nI x) (nI n)) (m_X11_goBy I (nI x) (nI n) 70 4) (m_X11_goBy I (nI x) (nI n) 70 4 + nI n) ∧ f_X11_whoOf (m_X11_goBy I (nI x) (nI n)) 73 = pwho (runD r (dg x n) (I 70) n).1 := by
  obtain ⟨f, e73, e24, ok⟩ := m_goBy hr hb hn h1 hx
  have hp := hb.nP
  generalize m_X11_goBy I (nI x) (nI n) = M at *
  have e68 : M 68 = r := by rw [← hr]; exact funext fun j => f 68 j rfl
  have e70 : M 70 = I 70 := funext fun j => f 70 j rfl
  obtain ⟨b', hb'⟩ := br_runD hb (dg x n) hB n (by omega)
  have hbM : BR r (r 0) (999 + n) b' (M 73) := by
    rw [e73]
    exact br_congr hb' (fun _ _ => rfl) (fun j hj => if_pos hj)
  have un : I 70 4 + nI n = b' 6 := by rw [hb'.days.1, runD_4]
  have un2 : I 70 4 + nI n = M 73 4 := by rw [e73, mpy_4, runD_4]
  have w := m_worthsOf e68 hb sz_73 hbM (I 70 4)
  have w1 : wrS r b' (I 70 4) (r 6).toNatClampNeg 0 0 = wth r (runD r (dg x n) (I 70) n).1 (I 70 4) := wrS_V hb' _ _ 0 0 (by omega)
  have h4 : bw (M 73 4) 0 100000 := by
    rw [← hbM.days.1]
    exact ⟨hbM.days.2.1, by have := hbM.days.2.2; omega⟩
  have a := m_allKept e68 hb (I 70 4) h4 (r 6).toNatClampNeg 0 true (by omega)
  have ea : akV r (M 73) (I 70 4) (r 6).toNatClampNeg 0 = akV r (runD r (dg x n) (I 70) n).1 (I 70 4) (r 6).toNatClampNeg 0 := by
    have : ∀ (c j : Nat), akV r (M 73) (I 70 4) c j = akV r (runD r (dg x n) (I 70) n).1 (I 70 4) c j := by
      intro c
      induction c with
      | zero => intro j; rfl
      | succ c ih => intro j; rw [akV, akV, ih, e73, mpy_4, mpy_6]
    exact this _ _
  have e6 : M 68 6 = nI (r 6).toNatClampNeg := by rw [e68]; exact hp.1
  have mu : mu_up (nI (r 6).toNatClampNeg) 0 + 1 = (r 6).toNatClampNeg + 1 := by rw [show mu_up (nI (r 6).toNatClampNeg) 0 = mu_up (nI (r 6).toNatClampNeg) (nI 0) from rfl, mu_up_nI (by omega) (by omega), Nat.sub_zero]
  rw [nI_0, Bool.true_and] at a
  refine ⟨f, ok, ?_, ?_, e24, ?_, ?_, ?_⟩
  · rw [e70, un, w.1, w1]
  · rw [e70, un]; exact w.2
  · rw [e70, un2, f_X11_areAllKept, opv_eq, e6, mu, a.1, ea]
  · rw [e70, un2, ok_X11_areAllKept, opv_eq, e6, mu]; exact a.2
  · rw [f_whoOf, e73, pwho_mpy]
theorem scr_bw {r v0 : Vc} (hb : RB r) (fr : Int32) {n : Nat} (hn : n ≤ 4) {d : Nat → Nat} (hd : ∀ k, k < n → d k ≤ (r 5).toNatClampNeg) : bw (scr r v0 fr n 4 d) (-400) 600 := by
  unfold scr
  rw [if_pos rfl]
  have w := wth_bw hb (runD r d v0 n).1 fr
  have c := coin_bw hb (v := v0) n hn hd
  have w1 := w.1; have w2 := w.2; have c1 := c.1; have c2 := c.2
  rw [bw, fb_subI (by omega) (by omega)]
  omega
def rl (V n j : Nat) : List Nat := (List.range j).filter (isR V n)
theorem rl_succ (V n j : Nat) : rl V n (j + 1) = rl V n j ++ (if isR V n j = true then [j] else []) := by
  unfold rl
  rw [List.range_succ, List.filter_append]
  congr 1
  by_cases h : isR V n j = true
  · rw [if_pos h]; simp [h]
  · rw [if_neg h]; simp [h]
theorem best_lp {r b v : Vc} {n V : Nat} (hb : RB r) (hV : V = (r 5).toNatClampNeg) (h1 : 1 ≤ n) (hn : n ≤ 4) (hB : BR r (r 0) 999 b v) : ∀ (c j : Nat) (I : Mm) (s : Int32 × Int32), I 68 = r → I 70 = v → s = cst (fun x => scr r v (v 4) n 4 (dg x n)) (rl V n j) → -1000000 ≤ s.2.toInt → j + c = 10 ^ n → Fk kgb I (lp_X11_bestOf_12 (nI n) (c + 1) s.1 s.2 (nI j) I).2.2.2 ∧ (lp_X11_bestOf_12 (nI n) (c + 1) s.1 s.2 (nI j) I).1 = (cst (fun x => scr r v (v 4) n 4 (dg x n)) (rl V n (10 ^ n))).1 ∧ oklp_X11_bestOf_12 (nI n) (c + 1) s.1 s.2 (nI j) I := by
  have hV4 := hb.nV.2
  have hp := p10 (m := n) (by omega)
  intro c
  induction c with
  | zero =>
    intro j I s hr h70 hs hm hj
    have q : nI (10 ^ n) ≤ nI j := nI_le (by omega) (by omega)
    rw [lp_X11_bestOf_12, oklp_X11_bestOf_12, m_rowsFor _ hn, if_pos q, if_pos q, show 10 ^ n = j by omega, ← hs]
    exact ⟨Fk.refl _ _, rfl, trivial⟩
  | succ c ih =>
    intro j I s hr h70 hs hm hj
    have q : ¬ nI (10 ^ n) ≤ nI j := nI_ge (by omega) (by omega)
    have ir := m_isRow (I := I) (V := V) (n := n) (x := j) (by rw [hr, hV]; exact hb.nV.1) (by omega) hn (by omega)
    rw [lp_X11_bestOf_12, oklp_X11_bestOf_12, m_rowsFor _ hn, if_neg q, if_neg q, nI_1, ir, u2_X11_bestOf, opv_eq, u0_X11_bestOf, opv_eq, u1_X11_bestOf, opv_eq, ir]
    by_cases z : isR V n j = true
    · obtain ⟨f, ok, ew, okw, ec, -, -, -⟩ := m_byRow (x := j) hr hb hn h1 (by omega) (by rw [h70]; exact hB)
      rw [h70] at ew ec
      have eW : f_X11_worthBy I (nI j) (nI n) = scr r v (v 4) n 4 (dg j n) := by
        rw [f_X11_worthBy, opv_eq, ew, ec]
        unfold scr
        rw [if_pos rfl]
      have eM : m_X11_worthBy I (nI j) (nI n) = m_X11_goBy I (nI j) (nI n) := by rw [m_X11_worthBy, opv_eq]
      have row := isR_row (by omega) (by omega) z
      have sb := scr_bw (v0 := v) hb (v 4) hn (d := dg j n) (by rw [← hV]; exact row.1)
      have e68 : m_X11_goBy I (nI j) (nI n) 68 = r := by rw [← hr]; exact funext fun k => f 68 k rfl
      have e70 : m_X11_goBy I (nI j) (nI n) 70 = v := by rw [← h70]; exact funext fun k => f 70 k rfl
      rw [if_pos z, if_pos z, if_pos z, eW, eM]
      have k := ih (j + 1) (m_X11_goBy I (nI j) (nI n)) (cstep (fun x => scr r v (v 4) n 4 (dg x n)) s j) e68 e70 (by rw [rl_succ, if_pos z, cst_snoc, hs]) (by
        unfold cstep
        split
        · exact hm
        · exact (by have := sb.1; show -1000000 ≤ (scr r v (v 4) n 4 (dg j n)).toInt; omega)) (by omega)
      have es : (if s.2 < scr r v (v 4) n 4 (dg j n) then nI j else s.1) = (cstep (fun x => scr r v (v 4) n 4 (dg x n)) s j).1 ∧ (if s.2 < scr r v (v 4) n 4 (dg j n) then scr r v (v 4) n 4 (dg j n) else s.2) = (cstep (fun x => scr r v (v 4) n 4 (dg x n)) s j).2 := by
        unfold cstep
        by_cases y : scr r v (v 4) n 4 (dg j n) ≤ s.2
        · have y' : ¬ s.2 < scr r v (v 4) n 4 (dg j n) := by rw [fa_le] at y; rw [fa_lt]; omega
          rw [if_neg y', if_neg y', if_pos y]
          exact ⟨rfl, rfl⟩
        · have y' : s.2 < scr r v (v 4) n 4 (dg j n) := by rw [fa_le] at y; rw [fa_lt]; omega
          rw [if_pos y', if_pos y', if_neg y]
          exact ⟨rfl, rfl⟩
      rw [es.1, es.2]
      exact ⟨f.trans k.1, k.2.1, by rw [ok_X11_worthBy, opv_eq]; exact ⟨ok, okw⟩, k.2.2⟩
    · have y' : ¬ s.2 < (-1000000 : Int32) := by rw [fa_lt, show (-1000000 : Int32).toInt = -1000000 from by decide]; omega
      rw [if_neg z, if_neg z, if_neg z, if_neg y', if_neg y']
      have k := ih (j + 1) I s hr h70 (by rw [rl_succ, if_neg z, List.append_nil]; exact hs) hm (by omega)
      exact ⟨k.1, k.2.1, trivial, k.2.2⟩
theorem fr_kgb {I M : Mm} (h : Fk kgb I M) : Fr I M := by
  intro a j hk
  refine h a j ?_
  by_cases h1 : a = 73
  · subst h1; cases (show false = true from hk)
  by_cases h2 : a = 65
  · subst h2
    by_cases j1 : j = 24
    · subst j1; exact absurd hk (by decide)
    simp [kgb, j1]
  simp [kgb, h1, h2]
theorem isR_0 (V : Nat) : ∀ n, isR V n 0 = true := by
  intro n
  induction n with
  | zero => rfl
  | succ n ih => rw [isR, Nat.zero_div, ih, Nat.zero_mod]; simp
theorem m_best {I : Mm} {r b : Vc} {n : Nat} (hr : I 68 = r) (hb : RB r) (h1 : 1 ≤ n) (hn : n ≤ 4) (hB : BR r (r 0) 999 b (I 70)) : Fk kgb I (m_X11_bestOf I (nI n)) ∧ f_X11_bestOf I (nI n) = (cst (fun x => scr r (I 70) (I 70 4) n 4 (dg x n)) (rl (r 5).toNatClampNeg n (10 ^ n))).1 ∧ ok_X11_bestOf I (nI n) := by
  have hp := p10 (m := n) (by omega)
  have hV4 := hb.nV.2
  obtain ⟨f, ok, ew, okw, ec, -, -, -⟩ := m_byRow (x := 0) hr hb hn h1 (by omega) hB
  rw [nI_0] at f ok ew okw ec
  have eW : f_X11_worthBy I 0 (nI n) = scr r (I 70) (I 70 4) n 4 (dg 0 n) := by
    rw [f_X11_worthBy, opv_eq, ew, ec]
    unfold scr
    rw [if_pos rfl]
  have eM : m_X11_worthBy I 0 (nI n) = m_X11_goBy I 0 (nI n) := by rw [m_X11_worthBy, opv_eq]
  have e68 : m_X11_goBy I 0 (nI n) 68 = r := by rw [← hr]; exact funext fun k => f 68 k rfl
  have e70 : m_X11_goBy I 0 (nI n) 70 = I 70 := funext fun k => f 70 k rfl
  have row := isR_row (by omega) (by omega) (isR_0 (r 5).toNatClampNeg n)
  have sb := scr_bw (v0 := I 70) hb (I 70 4) hn (d := dg 0 n) row.1
  have ec1 : cst (fun x => scr r (I 70) (I 70 4) n 4 (dg x n)) (rl (r 5).toNatClampNeg n 1) = (0, scr r (I 70) (I 70 4) n 4 (dg 0 n)) := by
    rw [show (1 : Nat) = 0 + 1 from rfl, rl_succ, if_pos (isR_0 _ n), cst_snoc]
    unfold cstep
    have : ¬ scr r (I 70) (I 70 4) n 4 (dg 0 n) ≤ (cst (fun x => scr r (I 70) (I 70 4) n 4 (dg x n)) (rl (r 5).toNatClampNeg n 0)).2 := by
      show ¬ scr r (I 70) (I 70 4) n 4 (dg 0 n) ≤ (-2147483648 : Int32)
      rw [fa_le, show (-2147483648 : Int32).toInt = -2147483648 from by decide]
      have := sb.1
      omega
    rw [if_neg this]
    rfl
  have k := best_lp hb rfl h1 hn hB (10 ^ n - 1) 1 (m_X11_goBy I 0 (nI n)) (0, scr r (I 70) (I 70 4) n 4 (dg 0 n)) e68 e70 ec1.symm (by have := sb.1; show -1000000 ≤ (scr r (I 70) (I 70 4) n 4 (dg 0 n)).toInt; omega) (by omega)
  have mu : mu_up (nI (10 ^ n)) 1 + 1 = 10 ^ n - 1 + 1 := by rw [show mu_up (nI (10 ^ n)) 1 = mu_up (nI (10 ^ n)) (nI 1) from rfl, mu_up_nI (by omega) (by omega)]
  rw [m_X11_bestOf, f_X11_bestOf, ok_X11_bestOf, opv_eq, opv_eq, opv_eq, m_rowsFor _ hn, mu, eW, eM]
  exact ⟨f.trans k.1, k.2.1, by rw [ok_X11_worthBy, opv_eq]; exact ⟨ok, okw⟩, k.2.2⟩
/-- what a fold of the class holds -/
theorem cst_inv (sc : Nat → Int32) (P : Nat → Prop) : ∀ l : List Nat, (∀ x, x ∈ l → P x) → (cst sc l = (-2, -2147483648)) ∨ ∃ x, P x ∧ cst sc l = (nI x, sc x) := by
  intro l
  have : ∀ (l : List Nat) (s : Int32 × Int32), (∀ x, x ∈ l → P x) → ((s = (-2, -2147483648)) ∨ ∃ x, P x ∧ s = (nI x, sc x)) → ((l.foldl (cstep sc) s = (-2, -2147483648)) ∨ ∃ x, P x ∧ l.foldl (cstep sc) s = (nI x, sc x)) := by
    intro l
    induction l with
    | nil => intro s _ h; exact h
    | cons a l ih =>
      intro s hl h
      rw [List.foldl_cons]
      refine ih _ (fun x hx => hl x (List.mem_cons_of_mem _ hx)) ?_
      unfold cstep
      split
      · exact h
      · exact Or.inr ⟨a, hl a (List.mem_cons_self), rfl⟩
  intro hl
  exact this l _ hl (Or.inl rfl)
theorem cst_some (sc : Nat → Int32) (V n : Nat) (h0 : ¬ sc 0 ≤ (-2147483648 : Int32)) : ∀ j, 1 ≤ j → ∃ x, isR V n x = true ∧ cst sc (rl V n j) = (nI x, sc x) := by
  intro j
  induction j with
  | zero => intro h; omega
  | succ j ih =>
    intro _
    rw [rl_succ]
    by_cases z : j = 0
    · subst z
      rw [if_pos (isR_0 V n), cst_snoc]
      have e : cst sc (rl V n 0) = (-2, -2147483648) := rfl
      rw [e]
      unfold cstep
      rw [if_neg h0]
      exact ⟨0, isR_0 V n, rfl⟩
    · obtain ⟨x, hx, ex⟩ := ih (by omega)
      by_cases y : isR V n j = true
      · rw [if_pos y, cst_snoc, ex]
        unfold cstep
        split
        · exact ⟨x, hx, rfl⟩
        · exact ⟨j, y, rfl⟩
      · rw [if_neg y, List.append_nil]
        exact ⟨x, hx, ex⟩
theorem st_bestRow : St_bestRow Sim := by
  intro I J w x1 h
  simp only [ok_X10_bestRow, m_X10_bestRow, f_X10_bestRow, ok_X11_bestRow, m_X11_bestRow, f_X11_bestRow, u0_X11_bestRow, u1_X11_bestRow, opv_eq, cr, f_within, m_refused, f_why, f_no]
  by_cases q : gv (I 0 4) (inb x1 1 4) = 0
  · obtain ⟨n, hn1, hn, rfl⟩ := inb_nI (lo := 1) (hi := 4) (by omega) (gv_t q).2 (by omega)
    simp only [q, if_true]
    obtain ⟨K, eK, ok, fK, ef⟩ := h.found 4 hn1 hn
    have k14 : m_X11_good K 65 14 = I 0 4 := by rw [good_14, fK 65 14 rfl, st7_row _ _ (by omega), h.hc]
    have k68 : m_X11_good K 68 = I 68 := by rw [good_row _ (by omega), fK.row (a := 68) (fun _ => rfl), st7_row _ _ (by omega)]
    have k70 : m_X11_good K 70 = I 70 := by rw [good_row _ (by omega), fK.row (a := 70) (fun _ => rfl), st7_row _ _ (by omega)]
    have m := m_best k68 h.1.1 hn1 hn (b := I 23) (by rw [k70]; exact h.1.2.2.2.2.2.2.1)
    rw [k70] at m
    rw [eK, k14]
    simp only [q, if_true]
    refine ⟨ok, m.2.2, ?_, h.done (v := 0) fK ((fr_good _).trans (fr_kgb m.1)) (by decide)⟩
    rw [m.2.1]
    exact congrArg Prod.fst ef
  · simp only [if_neg q, h.g14]
    exact ⟨trivial, trivial, trivial, h.bad (gv_4 _ _)⟩
theorem st_bestWorth : St_bestWorth Sim := by
  intro I J w x1 h
  simp only [ok_X10_bestWorth, m_X10_bestWorth, f_X10_bestWorth, ok_X11_bestWorth, m_X11_bestWorth, f_X11_bestWorth, u0_X11_bestWorth, u1_X11_bestWorth, u2_X11_bestWorth, opv_eq, cr, f_within, m_refused, f_why, f_no]
  by_cases q : gv (I 0 4) (inb x1 1 4) = 0
  · obtain ⟨n, hn1, hn, rfl⟩ := inb_nI (lo := 1) (hi := 4) (by omega) (gv_t q).2 (by omega)
    simp only [q, if_true]
    have hb := h.1.1
    have hV4 := hb.nV.2
    obtain ⟨K, eK, ok, fK, ef⟩ := h.found 4 hn1 hn
    have k14 : m_X11_good K 65 14 = I 0 4 := by rw [good_14, fK 65 14 rfl, st7_row _ _ (by omega), h.hc]
    have k68 : m_X11_good K 68 = I 68 := by rw [good_row _ (by omega), fK.row (a := 68) (fun _ => rfl), st7_row _ _ (by omega)]
    have k70 : m_X11_good K 70 = I 70 := by rw [good_row _ (by omega), fK.row (a := 70) (fun _ => rfl), st7_row _ _ (by omega)]
    have m := m_best k68 hb hn1 hn (b := I 23) (by rw [k70]; exact h.1.2.2.2.2.2.2.1)
    rw [k70] at m
    have m68 : m_X11_bestOf (m_X11_good K) (nI n) 68 = I 68 := by rw [← k68]; exact funext fun k => m.1 68 k rfl
    have m70 : m_X11_bestOf (m_X11_good K) (nI n) 70 = I 70 := by rw [← k70]; exact funext fun k => m.1 70 k rfl
    have ef' : (K 49 0, K 49 1) = cst (fun x => scr (I 68) (I 70) (I 70 4) n 4 (dg x n)) (rl (I 68 5).toNatClampNeg n (10 ^ n)) := ef
    have ⟨x, hx, ex⟩ : ∃ x, isR (I 68 5).toNatClampNeg n x = true ∧ cst (fun x => scr (I 68) (I 70) (I 70 4) n 4 (dg x n)) (rl (I 68 5).toNatClampNeg n (10 ^ n)) = (nI x, scr (I 68) (I 70) (I 70 4) n 4 (dg x n)) := by
      have row0 := isR_row (by omega) (by omega) (isR_0 (I 68 5).toNatClampNeg n)
      have sb := scr_bw (v0 := I 70) hb (I 70 4) hn (d := dg 0 n) row0.1
      have p := p10 (m := n) (by omega)
      exact cst_some (fun x => scr (I 68) (I 70) (I 70 4) n 4 (dg x n)) _ n (by
        show ¬ scr (I 68) (I 70) (I 70 4) n 4 (dg 0 n) ≤ (-2147483648 : Int32)
        rw [fa_le, show (-2147483648 : Int32).toInt = -2147483648 from by decide]
        have := sb.1
        omega) (10 ^ n) p.2
    have row := isR_row (by omega) (by omega) hx
    obtain ⟨f, okg, ew, okw, ec, -, -, -⟩ := m_byRow (x := x) m68 hb hn hn1 (by omega) (b := I 23) (by rw [m70]; exact h.1.2.2.2.2.2.2.1)
    rw [m70] at ew ec
    rw [ex] at m ef'
    rw [eK, k14]
    simp only [q, if_true]
    have eb : f_X11_bestOf (m_X11_good K) (nI n) = nI x := m.2.1
    rw [eb]
    have eW : f_X11_worthBy (m_X11_bestOf (m_X11_good K) (nI n)) (nI x) (nI n) = scr (I 68) (I 70) (I 70 4) n 4 (dg x n) := by
      rw [f_X11_worthBy, opv_eq, ew, ec]
      unfold scr
      rw [if_pos rfl]
    have eM : m_X11_worthBy (m_X11_bestOf (m_X11_good K) (nI n)) (nI x) (nI n) = m_X11_goBy (m_X11_bestOf (m_X11_good K) (nI n)) (nI x) (nI n) := by rw [m_X11_worthBy, opv_eq]
    refine ⟨ok, ⟨m.2.2, by rw [ok_X11_worthBy, opv_eq]; exact ⟨okg, okw⟩⟩, ?_, ?_⟩
    · rw [eW]
      have := congrArg Prod.snd ef'
      have t : K 49 1 = scr (I 68) (I 70) (I 70 4) n 4 (dg x n) := this
      rw [t]
    · rw [eM]
      exact h.done (v := 0) fK ((fr_good _).trans ((fr_kgb m.1).trans (fr_kgb f))) (by decide)
  · simp only [if_neg q, h.g14]
    exact ⟨trivial, trivial, trivial, h.bad (gv_4 _ _)⟩
