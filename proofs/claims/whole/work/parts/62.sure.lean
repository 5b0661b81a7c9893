/-! ===== rows by which plans are kept, rows for somebody ===== -/
def ksu (a j : Nat) : Bool := !(a == 73) && !(a == 65 && (j == 24 || j == 25))
theorem kgb_ksu {a j : Nat} (h : ksu a j = true) : kgb a j = true := by
  unfold ksu at h
  unfold kgb
  by_cases h1 : a = 73
  · subst h1; cases (show false = true from h)
  by_cases h2 : a = 65
  · subst h2
    by_cases j1 : j = 24
    · subst j1; exact absurd h (by decide)
    simp [j1]
  simp [h1, h2]
theorem fr_ksu {I M : Mm} (h : Fk ksu I M) : Fr I M := by
  intro a j hk
  refine h a j ?_
  by_cases h1 : a = 73
  · subst h1; cases (show false = true from hk)
  by_cases h2 : a = 65
  · subst h2
    by_cases j1 : j = 24
    · subst j1; exact absurd hk (by decide)
    by_cases j2 : j = 25
    · subst j2; exact absurd hk (by decide)
    simp [ksu, j1, j2]
  simp [ksu, h1, h2]
def SuR (s : Int32 × Int32) (best least : Int32) : Prop := best = s.1 ∧ ((s = (-2, -2147483648) ∧ least = -2) ∨ ((∃ x : Nat, x < 10000 ∧ s.1 = nI x) ∧ s.2 = -least ∧ bw least 0 400))
theorem tiMin : (-2147483648 : Int32).toInt = -2147483648 := by decide
theorem sure_lp {r b v : Vc} {n V : Nat} (hb : RB r) (hV : V = (r 5).toNatClampNeg) (h1 : 1 ≤ n) (hn : n ≤ 4) (hB : BR r (r 0) 999 b v) : ∀ (c j : Nat) (I : Mm) (best : Int32), I 68 = r → I 70 = v → SuR (cst (fun x => scr r v (v 4) n 5 (dg x n)) (rl V n j)) best (I 65 25) → j + c = 10 ^ n → Fk ksu I (lp_X11_sureOf_11 (nI n) (c + 1) best (nI j) I).2.2 ∧ SuR (cst (fun x => scr r v (v 4) n 5 (dg x n)) (rl V n (10 ^ n))) (lp_X11_sureOf_11 (nI n) (c + 1) best (nI j) I).1 ((lp_X11_sureOf_11 (nI n) (c + 1) best (nI j) I).2.2 65 25) ∧ oklp_X11_sureOf_11 (nI n) (c + 1) best (nI j) I := by
  have hV4 := hb.nV.2
  have hp := p10 (m := n) (by omega)
  intro c
  induction c with
  | zero =>
    intro j I best hr h70 hs hj
    have q : nI (10 ^ n) ≤ nI j := nI_le (by omega) (by omega)
    rw [lp_X11_sureOf_11, oklp_X11_sureOf_11, m_rowsFor _ hn, if_pos q, if_pos q, show 10 ^ n = j by omega]
    exact ⟨Fk.refl _ _, hs, trivial⟩
  | succ c ih =>
    intro j I best hr h70 hs hj
    have q : ¬ nI (10 ^ n) ≤ nI j := nI_ge (by omega) (by omega)
    have ir := m_isRow (I := I) (V := V) (n := n) (x := j) (by rw [hr, hV]; exact hb.nV.1) (by omega) hn (by omega)
    rw [lp_X11_sureOf_11, oklp_X11_sureOf_11, m_rowsFor _ hn, if_neg q, if_neg q, nI_1, ir, u0_X11_sureOf, opv_eq, u1_X11_sureOf, opv_eq, ir]
    by_cases z : isR V n j = true
    · obtain ⟨f, ok, -, -, ec, ea, oka, -⟩ := m_byRow (x := j) hr hb hn h1 (by omega) (by rw [h70]; exact hB)
      rw [h70] at ec ea
      have row := isR_row (by omega) (by omega) z
      have cb := coin_bw hb (v := v) (d := dg j n) n hn (by rw [← hV]; exact row.1)
      have f' : Fk ksu I (m_X11_goBy I (nI j) (nI n)) := fun a k hk => f a k (kgb_ksu hk)
      have e68 : m_X11_goBy I (nI j) (nI n) 68 = r := by rw [← hr]; exact funext fun k => f 68 k rfl
      have e70 : m_X11_goBy I (nI j) (nI n) 70 = v := by rw [← h70]; exact funext fun k => f 70 k rfl
      have e25 : m_X11_goBy I (nI j) (nI n) 65 25 = I 65 25 := f 65 25 rfl
      rw [if_pos z, if_pos z, if_pos z, ea, ec, e25]
      have es : cst (fun x => scr r v (v 4) n 5 (dg x n)) (rl V n (j + 1)) = cstep (fun x => scr r v (v 4) n 5 (dg x n)) (cst (fun x => scr r v (v 4) n 5 (dg x n)) (rl V n j)) j := by rw [rl_succ, if_pos z, cst_snoc]
      generalize cst (fun x => scr r v (v 4) n 5 (dg x n)) (rl V n j) = s at *
      have c1 := cb.1; have c2 := cb.2
      generalize hC : (runD r (dg j n) v n).2 = C at *
      have nC : (-C).toInt = -C.toInt := fb_negI (by omega)
      have esc : scr r v (v 4) n 5 (dg j n) = if akV r (runD r (dg j n) v n).1 (v 4) (r 6).toNatClampNeg 0 = true then -C else -2147483648 := by
        unfold scr
        rw [if_neg (by decide), if_pos rfl, hC]
      by_cases ak : akV r (runD r (dg j n) v n).1 (v 4) (r 6).toNatClampNeg 0 = true
      · rw [if_pos ak, if_pos ak]
        rw [if_pos ak] at esc
        obtain ⟨hb1, hb2⟩ := hs
        -- take it or not
        have upd_case : cstep (fun x => scr r v (v 4) n 5 (dg x n)) s j = (nI j, -C) → Fk ksu I (lp_X11_sureOf_11 (nI n) (c + 1) (nI j) (nI (j + 1)) (st2 (m_X11_goBy I (nI j) (nI n)) 65 25 C)).2.2 ∧ SuR (cst (fun x => scr r v (v 4) n 5 (dg x n)) (rl V n (10 ^ n))) (lp_X11_sureOf_11 (nI n) (c + 1) (nI j) (nI (j + 1)) (st2 (m_X11_goBy I (nI j) (nI n)) 65 25 C)).1 ((lp_X11_sureOf_11 (nI n) (c + 1) (nI j) (nI (j + 1)) (st2 (m_X11_goBy I (nI j) (nI n)) 65 25 C)).2.2 65 25) ∧ oklp_X11_sureOf_11 (nI n) (c + 1) (nI j) (nI (j + 1)) (st2 (m_X11_goBy I (nI j) (nI n)) 65 25 C) := by
          intro hcs
          have k := ih (j + 1) (st2 (m_X11_goBy I (nI j) (nI n)) 65 25 C) (nI j) (by rw [st2_orow _ _ _ (by omega)]; exact e68) (by rw [st2_orow _ _ _ (by omega)]; exact e70) (by
            rw [es, hcs, st2_s]
            exact ⟨rfl, Or.inr ⟨⟨j, row.2.2.1, rfl⟩, rfl, ⟨c1, by omega⟩⟩⟩) (by omega)
          exact ⟨(f'.st rfl).trans k.1, k.2.1, k.2.2⟩
        rcases hb2 with ⟨sn, sl⟩ | ⟨⟨x, hx, sx⟩, sc, lb⟩
        · have bn : best < 0 := by rw [hb1, sn]; decide
          rw [if_pos bn, if_pos bn]
          have u := upd_case (by
            unfold cstep
            rw [sn]
            rw [if_neg]
            · exact congrArg (Prod.mk (nI j)) esc
            · show ¬ scr r v (v 4) n 5 (dg j n) ≤ (-2147483648 : Int32)
              rw [esc, fa_le, nC, tiMin]
              omega)
          exact ⟨u.1, u.2.1, ⟨ok, oka⟩, u.2.2⟩
        · have bn : ¬ best < 0 := by rw [hb1, sx]; exact nI_pos (by omega)
          have l1 := lb.1; have l2 := lb.2
          have nL : (-(I 65 25)).toInt = -(I 65 25).toInt := fb_negI (by omega)
          rw [if_neg bn, if_neg bn]
          by_cases y : C < I 65 25
          · rw [if_pos y, if_pos y]
            rw [fa_lt] at y
            have u := upd_case (by
              unfold cstep
              rw [if_neg]
              · exact congrArg (Prod.mk (nI j)) esc
              · show ¬ scr r v (v 4) n 5 (dg j n) ≤ s.2
                rw [esc, sc, fa_le, nC, nL]
                omega)
            exact ⟨u.1, u.2.1, ⟨ok, oka⟩, u.2.2⟩
          · rw [if_neg y, if_neg y]
            rw [fa_lt] at y
            have k := ih (j + 1) (m_X11_goBy I (nI j) (nI n)) best e68 e70 (by
              rw [es, e25]
              have : cstep (fun x => scr r v (v 4) n 5 (dg x n)) s j = s := by
                unfold cstep
                rw [if_pos]
                show scr r v (v 4) n 5 (dg j n) ≤ s.2
                rw [esc, sc, fa_le, nC, nL]
                omega
              rw [this]
              exact ⟨hb1, Or.inr ⟨⟨x, hx, sx⟩, sc, lb⟩⟩) (by omega)
            exact ⟨f'.trans k.1, k.2.1, ⟨ok, oka⟩, k.2.2⟩
      · rw [if_neg ak, if_neg ak]
        rw [if_neg ak] at esc
        have k := ih (j + 1) (m_X11_goBy I (nI j) (nI n)) best e68 e70 (by
          rw [es, e25]
          have : cstep (fun x => scr r v (v 4) n 5 (dg x n)) s j = s := by
            unfold cstep
            rw [if_pos]
            show scr r v (v 4) n 5 (dg j n) ≤ s.2
            rw [esc, fa_le, tiMin]
            exact (fb_rng s.2).1
          rw [this]
          exact hs) (by omega)
        exact ⟨f'.trans k.1, k.2.1, ⟨ok, oka⟩, k.2.2⟩
    · rw [if_neg z, if_neg z, if_neg z]
      have k := ih (j + 1) I best hr h70 (by rw [rl_succ, if_neg z, List.append_nil]; exact hs) (by omega)
      exact ⟨k.1, k.2.1, trivial, k.2.2⟩
theorem m_sure {I : Mm} {r b : Vc} {n : Nat} (hr : I 68 = r) (hb : RB r) (h1 : 1 ≤ n) (hn : n ≤ 4) (hB : BR r (r 0) 999 b (I 70)) : Fk ksu I (m_X11_sureOf I (nI n)) ∧ SuR (cst (fun x => scr r (I 70) (I 70 4) n 5 (dg x n)) (rl (r 5).toNatClampNeg n (10 ^ n))) (f_X11_sureOf I (nI n)) (m_X11_sureOf I (nI n) 65 25) ∧ ok_X11_sureOf I (nI n) := by
  have hp := p10 (m := n) (by omega)
  have mu : mu_up (nI (10 ^ n)) 0 + 1 = 10 ^ n + 1 := by rw [show mu_up (nI (10 ^ n)) 0 = mu_up (nI (10 ^ n)) (nI 0) from rfl, mu_up_nI (by omega) (Nat.zero_le _), Nat.sub_zero]
  have k := sure_lp hb rfl h1 hn hB (10 ^ n) 0 (st2 I 65 25 (-2)) (-2) (by rw [st2_orow _ _ _ (by omega)]; exact hr) (by rw [st2_orow _ _ _ (by omega)]) (by
    rw [st2_s]
    exact ⟨rfl, Or.inl ⟨rfl, rfl⟩⟩) (by simp)
  rw [nI_0] at k
  rw [m_X11_sureOf, f_X11_sureOf, ok_X11_sureOf, opv_eq, opv_eq, opv_eq, m_rowsFor _ hn, mu]
  exact ⟨((Fk.refl _ _).st rfl).trans k.1, k.2.1, k.2.2⟩
theorem st_sureRow : St_sureRow Sim := by
  intro I J w x1 h
  simp only [ok_X10_sureRow, m_X10_sureRow, f_X10_sureRow, ok_X11_sureRow, m_X11_sureRow, f_X11_sureRow, u0_X11_sureRow, u1_X11_sureRow, opv_eq, cr, f_within, m_refused, f_why, f_no]
  by_cases q : gv (I 0 4) (inb x1 1 4) = 0
  · obtain ⟨n, hn1, hn, rfl⟩ := inb_nI (lo := 1) (hi := 4) (by omega) (gv_t q).2 (by omega)
    simp only [q, if_true]
    obtain ⟨K, eK, ok, fK, ef⟩ := h.found 5 hn1 hn
    have k14 : m_X11_good K 65 14 = I 0 4 := by rw [good_14, fK 65 14 rfl, st7_row _ _ (by omega), h.hc]
    have k68 : m_X11_good K 68 = I 68 := by rw [good_row _ (by omega), fK.row (a := 68) (fun _ => rfl), st7_row _ _ (by omega)]
    have k70 : m_X11_good K 70 = I 70 := by rw [good_row _ (by omega), fK.row (a := 70) (fun _ => rfl), st7_row _ _ (by omega)]
    have m := m_sure k68 h.1.1 hn1 hn (b := I 23) (by rw [k70]; exact h.1.2.2.2.2.2.2.1)
    rw [k70] at m
    rw [eK, k14]
    simp only [q, if_true]
    refine ⟨ok, m.2.2, ?_, h.done (v := 0) fK ((fr_good _).trans (fr_ksu m.1)) (by decide)⟩
    rw [m.2.1.1]
    exact congrArg Prod.fst ef
  · simp only [if_neg q, h.g14]
    exact ⟨trivial, trivial, trivial, h.bad (gv_4 _ _)⟩
theorem st_sureCoins : St_sureCoins Sim := by
  intro I J w x1 h
  simp only [ok_X10_sureCoins, m_X10_sureCoins, f_X10_sureCoins, u0_X10_sureCoins, ok_X11_sureCoins, m_X11_sureCoins, f_X11_sureCoins, opv_eq, cr, f_within, m_refused, f_why, f_no]
  by_cases q : gv (I 0 4) (inb x1 1 4) = 0
  · obtain ⟨n, hn1, hn, rfl⟩ := inb_nI (lo := 1) (hi := 4) (by omega) (gv_t q).2 (by omega)
    simp only [q, if_true]
    obtain ⟨K, eK, ok, fK, ef⟩ := h.found 5 hn1 hn
    have k14 : m_X11_good K 65 14 = I 0 4 := by rw [good_14, fK 65 14 rfl, st7_row _ _ (by omega), h.hc]
    have k68 : m_X11_good K 68 = I 68 := by rw [good_row _ (by omega), fK.row (a := 68) (fun _ => rfl), st7_row _ _ (by omega)]
    have k70 : m_X11_good K 70 = I 70 := by rw [good_row _ (by omega), fK.row (a := 70) (fun _ => rfl), st7_row _ _ (by omega)]
    have m := m_sure k68 h.1.1 hn1 hn (b := I 23) (by rw [k70]; exact h.1.2.2.2.2.2.2.1)
    rw [k70] at m
    rw [eK, k14]
    simp only [q, if_true]
    refine ⟨ok, m.2.2, ?_, h.done (v := 0) fK ((fr_good _).trans (fr_ksu m.1)) (by decide)⟩
    have e0 := congrArg Prod.fst ef
    have e1 := congrArg Prod.snd ef
    have sr : SuR (cst (fun x => scr (I 68) (I 70) (I 70 4) n 5 (dg x n)) ((List.range (10 ^ n)).filter (isR (I 68 5).toNatClampNeg n))) _ _ := m.2.1
    generalize cst (fun x => scr (I 68) (I 70) (I 70 4) n 5 (dg x n)) ((List.range (10 ^ n)).filter (isR (I 68 5).toNatClampNeg n)) = s at *
    have e0' : K 49 0 = s.1 := e0
    have e1' : K 49 1 = s.2 := e1
    rw [e0', e1']
    rcases sr.2 with ⟨sn, sl⟩ | ⟨⟨x, hx, sx⟩, sc, lb⟩
    · rw [sl, sn, if_pos rfl]
    · rw [sx, sc, if_neg]
      · have l1 := lb.1; have l2 := lb.2
        rw [fa_eq, fb_negI (by rw [fb_negI (by omega)]; omega), fb_negI (by omega)]
        omega
      · rw [fa_eq, nI_toInt (by omega), tim2]
        omega
  · simp only [if_neg q, h.g14]
    exact ⟨trivial, trivial, trivial, h.bad (gv_4 _ _)⟩
/-! rows for somebody -/
def vcn : Nat → Nat → Nat
  | 0, _ => 0
  | f + 1, y => if y = 0 then 0 else (if y % 10 = 0 then 0 else 1) + vcn f (y / 10)
theorem vcn_le : ∀ f y, vcn f y ≤ f := by
  intro f
  induction f with
  | zero => intro y; exact Nat.le_refl _
  | succ f ih =>
    intro y
    rw [vcn]
    have := ih (y / 10)
    split
    · omega
    · split <;> omega
theorem vents_lp (I : Mm) (x1 : Int32) : ∀ (f y a : Nat), y < 10 ^ f → y < 2 ^ 31 → a + f < 1000 → (lp_X11_ventsIn_4 I x1 (f + 1) (nI a) (nI y)).1 = nI (a + vcn f y) ∧ oklp_X11_ventsIn_4 I x1 (f + 1) (nI a) (nI y) := by
  intro f
  induction f with
  | zero =>
    intro y a hy hy2 ha
    have : y = 0 := by rw [Nat.pow_zero] at hy; omega
    subst this
    have q : nI 0 ≤ 0 := by decide
    rw [lp_X11_ventsIn_4, oklp_X11_ventsIn_4, if_pos q, if_pos q]
    exact ⟨rfl, trivial⟩
  | succ f ih =>
    intro y a hy hy2 ha
    by_cases z : y = 0
    · subst z
      have q : nI 0 ≤ 0 := by decide
      rw [lp_X11_ventsIn_4, oklp_X11_ventsIn_4, if_pos q, if_pos q, vcn, if_pos rfl]
      exact ⟨rfl, trivial⟩
    · have q : ¬ nI y ≤ 0 := nI_nle (by omega) hy2
      have e1 : nI y / 10 = nI (y / 10) := pk_div (d := 10) hy2 (by omega) (by omega)
      have e2 : nI y - nI y / 10 * 10 = nI (y % 10) := pk_rem (d := 10) hy2 (by omega) (by omega)
      have m10 : y % 10 < 10 := Nat.mod_lt _ (by omega)
      have ea : nI a + b2i (if nI (y % 10) ≤ 0 then false else true) = nI (a + (if y % 10 = 0 then 0 else 1)) := by
        by_cases w : y % 10 = 0
        · rw [w, if_pos (show nI 0 ≤ 0 from by decide), if_pos rfl, show b2i false = 0 from rfl, Int32.add_zero, Nat.add_zero]
        · rw [if_neg (nI_nle (by omega) (by omega)), if_neg w, show b2i true = 1 from rfl, nI_1]
      have k := ih (y / 10) (a + (if y % 10 = 0 then 0 else 1)) (by rw [Nat.pow_succ] at hy; omega) (by omega) (by split <;> omega)
      rw [lp_X11_ventsIn_4, oklp_X11_ventsIn_4, if_neg q, if_neg q, e2, e1, ea, vcn, if_neg z, ← Nat.add_assoc]
      exact k
theorem vcB_t : ∀ V, V < 5 → ∀ n, n < 5 → ∀ i, i < 625 → i < (V + 1) ^ n → vcn 19 (Rn V n i) = opc (dg (Rn V n i) n) n := by decide +kernel
theorem m_vents (I : Mm) {V n x : Nat} (hV : V < 5) (hn : n < 5) (h : isR V n x = true) : f_X11_ventsIn I (nI x) = nI (opc (dg x n) n) ∧ ok_X11_ventsIn I (nI x) := by
  obtain ⟨-, -, x4, i, hi, e⟩ := isR_row hV hn h
  have p := pV V hV n hn
  have t := vcB_t V hV n hn i (by omega) hi
  rw [e] at t
  have k := vents_lp I (nI x) 19 x 0 (by omega) (by omega) (by omega)
  rw [nI_0, Nat.zero_add, t] at k
  rw [f_X11_ventsIn, ok_X11_ventsIn, opv_eq, opv_eq, opq_eq]
  exact k
def FoR (V n : Nat) (s : Int32 × Int32) (best : Int32) : Prop := best = s.1 ∧ ((s = (-2, -2147483648)) ∨ (∃ x : Nat, isR V n x = true ∧ s = (nI x, -(nI (opc (dg x n) n)))))
theorem for_lp {r b v : Vc} {n V : Nat} {who : Int32} (hw : who ≠ 4 ∧ who ≠ 5) (hb : RB r) (hV : V = (r 5).toNatClampNeg) (h1 : 1 ≤ n) (hn : n ≤ 4) (hB : BR r (r 0) 999 b v) : ∀ (c j : Nat) (I : Mm) (best : Int32), I 68 = r → I 70 = v → FoR V n (cst (fun x => scr r v (v 4) n who (dg x n)) (rl V n j)) best → j + c = 10 ^ n → Fk kgb I (lp_X11_rowFor_47 who (nI n) (c + 1) best (nI j) I).2.2 ∧ (lp_X11_rowFor_47 who (nI n) (c + 1) best (nI j) I).1 = (cst (fun x => scr r v (v 4) n who (dg x n)) (rl V n (10 ^ n))).1 ∧ oklp_X11_rowFor_47 who (nI n) (c + 1) best (nI j) I := by
  have hV4 := hb.nV.2
  have hp := p10 (m := n) (by omega)
  intro c
  induction c with
  | zero =>
    intro j I best hr h70 hs hj
    have q : nI (10 ^ n) ≤ nI j := nI_le (by omega) (by omega)
    rw [lp_X11_rowFor_47, oklp_X11_rowFor_47, m_rowsFor _ hn, if_pos q, if_pos q, show 10 ^ n = j by omega]
    exact ⟨Fk.refl _ _, hs.1, trivial⟩
  | succ c ih =>
    intro j I best hr h70 hs hj
    have q : ¬ nI (10 ^ n) ≤ nI j := nI_ge (by omega) (by omega)
    have ir := m_isRow (I := I) (V := V) (n := n) (x := j) (by rw [hr, hV]; exact hb.nV.1) (by omega) hn (by omega)
    rw [lp_X11_rowFor_47, oklp_X11_rowFor_47, m_rowsFor _ hn, if_neg q, if_neg q, nI_1, ir, u0_X11_rowFor, opv_eq, u1_X11_rowFor, opv_eq, ir]
    by_cases z : isR V n j = true
    · obtain ⟨f, ok, -, -, -, -, -, ew⟩ := m_byRow (x := j) hr hb hn h1 (by omega) (by rw [h70]; exact hB)
      rw [h70] at ew
      have e68 : m_X11_goBy I (nI j) (nI n) 68 = r := by rw [← hr]; exact funext fun k => f 68 k rfl
      have e70 : m_X11_goBy I (nI j) (nI n) 70 = v := by rw [← h70]; exact funext fun k => f 70 k rfl
      have vj := m_vents I (V := V) (by omega) (by omega) z
      have ole := opc_le (dg j n) n
      rw [if_pos z, if_pos z, if_pos z, ew, vj.1]
      have es : cst (fun x => scr r v (v 4) n who (dg x n)) (rl V n (j + 1)) = cstep (fun x => scr r v (v 4) n who (dg x n)) (cst (fun x => scr r v (v 4) n who (dg x n)) (rl V n j)) j := by rw [rl_succ, if_pos z, cst_snoc]
      generalize cst (fun x => scr r v (v 4) n who (dg x n)) (rl V n j) = s at *
      have esc : scr r v (v 4) n who (dg j n) = if pwho (runD r (dg j n) v n).1 = who then -(nI (opc (dg j n) n)) else -2147483648 := by
        unfold scr
        rw [if_neg hw.1, if_neg hw.2]
      have nO : (-(nI (opc (dg j n) n))).toInt = -(opc (dg j n) n : Int) := by rw [fb_negI (by rw [nI_toInt (by omega)]; omega), nI_toInt (by omega)]
      have whk : ok_X11_whoOf (m_X11_goBy I (nI j) (nI n)) 73 := who_ok _ sz_73
      obtain ⟨hb1, hb2⟩ := hs
      have keepC : scr r v (v 4) n who (dg j n) ≤ s.2 → cstep (fun x => scr r v (v 4) n who (dg x n)) s j = s := fun y => by
        unfold cstep
        rw [if_pos y]
      have takeC : ¬ scr r v (v 4) n who (dg j n) ≤ s.2 → cstep (fun x => scr r v (v 4) n who (dg x n)) s j = (nI j, scr r v (v 4) n who (dg j n)) := fun y => by
        unfold cstep
        rw [if_neg y]
      have minle : (-2147483648 : Int32) ≤ s.2 := by rw [fa_le, tiMin]; exact (fb_rng s.2).1
      rcases hb2 with sn | ⟨x, hx, sx⟩
      · have bn : best < 0 := by rw [hb1, sn]; decide
        rw [if_pos bn, if_pos bn, if_pos bn]
        by_cases y : pwho (runD r (dg j n) v n).1 = who
        · rw [if_pos y]
          rw [if_pos y] at esc
          have k := ih (j + 1) (m_X11_goBy I (nI j) (nI n)) (nI j) e68 e70 (by
            rw [es, takeC (by rw [esc, sn, fa_le, nO, tiMin]; omega), esc]
            exact ⟨rfl, Or.inr ⟨j, z, rfl⟩⟩) (by omega)
          exact ⟨f.trans k.1, k.2.1, ⟨ok, whk⟩, k.2.2⟩
        · rw [if_neg y]
          rw [if_neg y] at esc
          have k := ih (j + 1) (m_X11_goBy I (nI j) (nI n)) best e68 e70 (by
            rw [es, keepC (by rw [esc]; exact minle)]
            exact ⟨hb1, Or.inl sn⟩) (by omega)
          exact ⟨f.trans k.1, k.2.1, ⟨ok, whk⟩, k.2.2⟩
      · have row := isR_row (by omega) (by omega) hx
        have bx : best = nI x := by rw [hb1, sx]
        have bn : ¬ best < 0 := by rw [bx]; exact nI_pos (by omega)
        have vx := m_vents I (V := V) (by omega) (by omega) hx
        have xle := opc_le (dg x n) n
        have nX : (-(nI (opc (dg x n) n))).toInt = -(opc (dg x n) n : Int) := by rw [fb_negI (by rw [nI_toInt (by omega)]; omega), nI_toInt (by omega)]
        rw [if_neg bn, if_neg bn, if_neg bn, bx, vx.1]
        have s2 : s.2 = -(nI (opc (dg x n) n)) := by rw [sx]
        by_cases lt : opc (dg j n) n < opc (dg x n) n
        · have l1 : nI (opc (dg j n) n) < nI (opc (dg x n) n) := nI_lt lt (by omega)
          rw [if_pos l1, if_pos l1, if_pos l1]
          by_cases y : pwho (runD r (dg j n) v n).1 = who
          · rw [if_pos y]
            rw [if_pos y] at esc
            have k := ih (j + 1) (m_X11_goBy I (nI j) (nI n)) (nI j) e68 e70 (by
              rw [es, takeC (by rw [esc, s2, fa_le, nO, nX]; omega), esc]
              exact ⟨rfl, Or.inr ⟨j, z, rfl⟩⟩) (by omega)
            exact ⟨f.trans k.1, k.2.1, ⟨vj.2, vx.2, ok, whk⟩, k.2.2⟩
          · rw [if_neg y]
            rw [if_neg y] at esc
            have k := ih (j + 1) (m_X11_goBy I (nI j) (nI n)) (nI x) e68 e70 (by
              rw [es, keepC (by rw [esc]; exact minle)]
              exact ⟨by rw [sx], Or.inr ⟨x, hx, sx⟩⟩) (by omega)
            exact ⟨f.trans k.1, k.2.1, ⟨vj.2, vx.2, ok, whk⟩, k.2.2⟩
        · have l1 : ¬ nI (opc (dg j n) n) < nI (opc (dg x n) n) := nI_nlt (by omega) (by omega)
          rw [if_neg l1, if_neg l1, if_neg l1]
          have k := ih (j + 1) I (nI x) hr h70 (by
            rw [es, keepC (by
              rw [esc]
              split
              · rw [s2, fa_le, nO, nX]; omega
              · exact minle)]
            exact ⟨by rw [sx], Or.inr ⟨x, hx, sx⟩⟩) (by omega)
          exact ⟨k.1, k.2.1, ⟨vj.2, vx.2, trivial⟩, k.2.2⟩
    · rw [if_neg z, if_neg z, if_neg z]
      have k := ih (j + 1) I best hr h70 (by rw [rl_succ, if_neg z, List.append_nil]; exact hs) (by omega)
      exact ⟨k.1, k.2.1, trivial, k.2.2⟩
theorem st_rowFor : St_rowFor Sim := by
  intro I J w x1 x2 h
  simp only [ok_X10_rowFor, m_X10_rowFor, f_X10_rowFor, u0_X10_rowFor, u1_X10_rowFor, ok_X11_rowFor, m_X11_rowFor, f_X11_rowFor, opv_eq, cr, f_within, m_refused, f_in, f_no]
  rw [show (if inb x1 0 3 = true then (if inb x2 1 4 = true then true else false) else false) = (inb x1 0 3 && inb x2 1 4) from by cases inb x1 0 3 <;> cases inb x2 1 4 <;> rfl]
  simp only [ifg2]
  by_cases q : gv (I 0 4) (inb x1 0 3 && inb x2 1 4) = 0
  · obtain ⟨qc, q2⟩ := gv_t q
    rw [Bool.and_eq_true] at q2
    simp only [q, if_true]
    obtain ⟨n, hn1, hn, rfl⟩ := inb_nI (lo := 1) (hi := 4) (by omega) q2.2 (by omega)
    obtain ⟨y, -, hy, rfl⟩ := inb_nI (lo := 0) (hi := 3) (by omega) q2.1 (by omega)
    have hp := p10 (m := n) (by omega)
    obtain ⟨K, eK, ok, fK, ef⟩ := h.found (nI y) hn1 hn
    have k14 : m_X11_good K 65 14 = I 0 4 := by rw [good_14, fK 65 14 rfl, st7_row _ _ (by omega), h.hc]
    have k68 : m_X11_good K 68 = I 68 := by rw [good_row _ (by omega), fK.row (a := 68) (fun _ => rfl), st7_row _ _ (by omega)]
    have k70 : m_X11_good K 70 = I 70 := by rw [good_row _ (by omega), fK.row (a := 70) (fun _ => rfl), st7_row _ _ (by omega)]
    have hw : nI y ≠ 4 ∧ nI y ≠ 5 := by
      constructor
      · show ¬ nI y = nI 4
        rw [nI_eq (by omega) (by omega)]; omega
      · show ¬ nI y = nI 5
        rw [nI_eq (by omega) (by omega)]; omega
    have mu : mu_up (nI (10 ^ n)) 0 + 1 = 10 ^ n + 1 := by rw [show mu_up (nI (10 ^ n)) 0 = mu_up (nI (10 ^ n)) (nI 0) from rfl, mu_up_nI (by omega) (Nat.zero_le _), Nat.sub_zero]
    have m := for_lp (who := nI y) hw h.1.1 rfl hn1 hn (b := I 23) (v := I 70) h.1.2.2.2.2.2.2.1 (10 ^ n) 0 (m_X11_good K) (-2) k68 k70 ⟨rfl, Or.inl rfl⟩ (by simp)
    rw [nI_0] at m
    rw [eK, k14]
    simp only [q, if_true, m_rowsFor _ hn, mu]
    refine ⟨ok, m.2.2, ?_, h.done (v := 0) fK ((fr_good _).trans (fr_kgb m.1)) (by decide)⟩
    rw [m.2.1]
    exact congrArg Prod.fst ef
  · simp only [if_neg q, h.g14]
    rw [gv_no _ _ _ q]
    refine ⟨trivial, ?_, ?_, h.bad (gv_4 _ _)⟩
    · split <;> trivial
    · split <;> rfl
