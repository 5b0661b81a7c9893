/-! ===== a row's worth ===== -/
theorem dg_s {y k j : Nat} (h : j < k) : dg (y / 10) k j = dg y (k + 1) j := by
  unfold dg
  rw [Nat.div_div_eq_div_mul, show 10 * 10 ^ (k - 1 - j) = 10 ^ (k + 1 - 1 - j) from by
    rw [Nat.mul_comm, ← Nat.pow_succ]
    congr 1
    omega]
theorem dg_l (y k : Nat) : dg y (k + 1) k = y % 10 := by
  unfold dg
  rw [show k + 1 - 1 - k = 0 by omega, Nat.pow_zero, Nat.div_one]
theorem take_lp {V n : Nat} (hV : V ≤ 9) (hn : n ≤ 4) (x1 : Int32) : ∀ (k f y : Nat) (I : Mm), k ≤ n → k < f → y < 2 ^ 31 → (lp_X9_take_8 x1 (nI n) (nI V) f (nI y) (nI k - 1) I).1 = isR V k y ∧ oklp_X9_take_8 x1 (nI n) (nI V) f (nI y) (nI k - 1) I ∧ ∃ A, (lp_X9_take_8 x1 (nI n) (nI V) f (nI y) (nI k - 1) I).2 = va_up I 50 A ∧ (isR V k y = true → (∀ j, j < k → A j = nI (dg y k j)) ∧ ∀ j, k ≤ j → A j = I 50 j) := by
  intro k
  induction k with
  | zero =>
    intro f y I hk hf hy
    obtain ⟨f, rfl⟩ : ∃ g, f = g + 1 := ⟨f - 1, by omega⟩
    have q : nI 0 - 1 < 0 := by decide
    rw [lp_X9_take_8, oklp_X9_take_8, if_pos q, if_pos q]
    refine ⟨?_, trivial, I 50, (vu_same _ _).symm, fun _ => ⟨fun j hj => by omega, fun j _ => rfl⟩⟩
    show (if nI y = 0 then true else false) = (y == 0)
    by_cases z : y = 0
    · subst z; rfl
    · rw [if_neg (nI_ne0 (by omega) hy)]
      simp [z]
  | succ k ih =>
    intro f y I hk hf hy
    obtain ⟨f, rfl⟩ : ∃ g, f = g + 1 := ⟨f - 1, by omega⟩
    have q : ¬ nI k < 0 := nI_pos (by omega)
    have q4 : ¬ Int32.ofNat (sz 50) ≤ nI k := by rw [sz_50]; exact nI_ge (b := 4) (by omega) (by omega)
    have e1 : nI y / 10 = nI (y / 10) := pk_div (d := 10) hy (by omega) (by omega)
    have e2 : nI y - nI y / 10 * 10 = nI (y % 10) := pk_rem (d := 10) hy (by omega) (by omega)
    have m10 : y % 10 < 10 := Nat.mod_lt _ (by omega)
    have n0 : ¬ nI (y % 10) < 0 := nI_pos (by omega)
    have vin : vp_in (nI k) (sz 50) := by rw [sz_50]; exact vp_in_nI (by omega) (by omega)
    rw [nI_pred, lp_X9_take_8, oklp_X9_take_8, if_neg q, if_neg q, if_neg q4, if_neg q4, nI_clamp (by omega), e2, e1, vu_s, pk_us, if_neg n0, if_neg n0, isR, show nI k + -1 = nI k - 1 from (Int32.sub_eq_add_neg (nI k) 1).symm]
    by_cases z : y % 10 ≤ V
    · have z1 : nI (y % 10) ≤ nI V := nI_le z (by omega)
      rw [if_pos z1, if_pos z1, decide_eq_true z, Bool.true_and]
      obtain ⟨a1, a2, A, a3, a4⟩ := ih f (y / 10) (va_up I 50 (upd (I 50) k (nI (y % 10)))) (by omega) (by omega) (by omega)
      refine ⟨a1, ⟨vin, vin, vin, a2⟩, A, by rw [a3, vu_vu], fun hr => ?_⟩
      obtain ⟨b1, b2⟩ := a4 hr
      refine ⟨fun j hj => ?_, fun j hj => ?_⟩
      · by_cases w : j = k
        · subst w; rw [b2 j (by omega), vu_s, pk_us, dg_l]
        · rw [b1 j (by omega), dg_s (by omega)]
      · rw [b2 j (by omega), vu_s, pk_un (by omega)]
    · have z1 : ¬ nI (y % 10) ≤ nI V := nI_ge (by omega) (by omega)
      rw [if_neg z1, if_neg z1, decide_eq_false z, Bool.false_and]
      exact ⟨rfl, ⟨vin, vin, vin, trivial⟩, _, rfl, fun h => by cases h⟩
theorem take_neg {V n : Nat} (hV : V ≤ 9) (hn : n ≤ 4) (x1 : Int32) : ∀ (k f : Nat) (l4 : Int32) (I : Mm), k ≤ n → k < f → l4.toInt < 0 → (lp_X9_take_8 x1 (nI n) (nI V) f l4 (nI k - 1) I).1 = false ∧ oklp_X9_take_8 x1 (nI n) (nI V) f l4 (nI k - 1) I ∧ ∃ A, (lp_X9_take_8 x1 (nI n) (nI V) f l4 (nI k - 1) I).2 = va_up I 50 A := by
  intro k
  induction k with
  | zero =>
    intro f l4 I hk hf hl
    obtain ⟨f, rfl⟩ : ∃ g, f = g + 1 := ⟨f - 1, by omega⟩
    have q : nI 0 - 1 < 0 := by decide
    rw [lp_X9_take_8, oklp_X9_take_8, if_pos q, if_pos q]
    refine ⟨?_, trivial, I 50, (vu_same _ _).symm⟩
    show (if l4 = 0 then true else false) = false
    rw [if_neg (by rw [fa_eq, ti0]; omega)]
  | succ k ih =>
    intro f l4 I hk hf hl
    obtain ⟨f, rfl⟩ : ∃ g, f = g + 1 := ⟨f - 1, by omega⟩
    have q : ¬ nI k < 0 := nI_pos (by omega)
    have q4 : ¬ Int32.ofNat (sz 50) ≤ nI k := by rw [sz_50]; exact nI_ge (b := 4) (by omega) (by omega)
    have vin : vp_in (nI k) (sz 50) := by rw [sz_50]; exact vp_in_nI (by omega) (by omega)
    have dq := divI_neg (x := l4) (d := 10) (by omega) (by rw [ti10]; omega)
    rw [ti10] at dq
    have rg := fb_rng l4
    have mq : (l4 / 10 * 10).toInt = (l4 / 10).toInt * 10 := by rw [fb_mulI (by rw [ti10, dq]; omega) (by rw [ti10, dq]; omega), ti10]
    have eq : (l4 - l4 / 10 * 10).toInt = l4.toInt - (l4 / 10).toInt * 10 := by rw [fb_subI (by rw [mq, dq]; omega) (by rw [mq, dq]; omega), mq]
    rw [nI_pred, lp_X9_take_8, oklp_X9_take_8, if_neg q, if_neg q, if_neg q4, if_neg q4, nI_clamp (by omega), vu_s, pk_us, show nI k + -1 = nI k - 1 from (Int32.sub_eq_add_neg (nI k) 1).symm]
    by_cases z : l4 - l4 / 10 * 10 < 0
    · rw [if_pos z, if_pos z]
      exact ⟨rfl, ⟨vin, vin, trivial⟩, _, rfl⟩
    · rw [if_neg z, if_neg z]
      rw [fa_lt, ti0, eq, dq] at z
      by_cases w : l4 - l4 / 10 * 10 ≤ nI V
      · rw [if_pos w, if_pos w]
        obtain ⟨a1, a2, A, a3⟩ := ih f (l4 / 10) (va_up I 50 (upd (I 50) k (l4 - l4 / 10 * 10))) (by omega) (by omega) (by rw [dq]; omega)
        exact ⟨a1, ⟨vin, vin, vin, a2⟩, A, by rw [a3, vu_vu]⟩
      · rw [if_neg w, if_neg w]
        exact ⟨rfl, ⟨vin, vin, vin, trivial⟩, _, rfl⟩
theorem c_take (I : Mm) {V n : Nat} (hV : V < 5) (hn : n ≤ 4) (h1 : 1 ≤ n) (x1 : Int32) : ∃ b A, f_X9_take I x1 (nI n) (nI V) = b ∧ m_X9_take I x1 (nI n) (nI V) = va_up I 50 A ∧ ok_X9_take I x1 (nI n) (nI V) ∧ (∀ K : Mm, K 68 5 = nI V → f_X11_isRowOf K x1 (nI n) = b) ∧ (b = true → ∃ x, x1 = nI x ∧ isR V n x = true ∧ ∀ j, j < n → A j = nI (dg x n j)) := by
  have md : mu_dn (nI n - 1) + 1 = n + 1 := by
    rw [show nI n - 1 = nI (n - 1) from pk_sub (b := 1) (by omega), mu_dn_nI (by omega)]
    omega
  rw [f_X9_take, m_X9_take, ok_X9_take, opv_eq, opv_eq, opv_eq, md]
  by_cases z : x1 < 0
  · rw [fa_lt, ti0] at z
    obtain ⟨a1, a2, A, a3⟩ := take_neg (V := V) (by omega) hn x1 n (n + 1) x1 I (Nat.le_refl _) (by omega) z
    refine ⟨false, A, a1, a3, a2, fun K _ => ?_, fun h => by cases h⟩
    rw [f_X11_isRowOf, opv_eq, if_neg (by rw [fa_le, ti0]; omega)]
  · obtain ⟨x, hx, rfl⟩ := nI_of z
    obtain ⟨a1, a2, A, a3, a4⟩ := take_lp (V := V) (by omega) hn (nI x) n (n + 1) x I (Nat.le_refl _) (by omega) hx
    exact ⟨isR V n x, A, a1, a3, a2, fun K hK => m_isRow hK (by omega) hn hx, fun h => ⟨x, rfl, h, (a4 h).1⟩⟩
theorem st_worthOf : St_worthOf Sim := by
  intro I J w x1 x2 h
  have hb := h.1.1
  have hV := hb.nV.2
  have hT := h.1.2.1
  have hB := h.1.2.2.2.2.2.2.1
  have h51 := h.1.2.2.2.2.2.2.2.2.2.2.2.2
  have cV : I (rt (td w) 7) 3 = nI (I 68 5).toNatClampNeg := (hT.cnt hb).1
  have g68 : ∀ v, m_X11_good (st2 I 0 7 v) 68 = I 68 := fun v => by rw [good_row _ (by omega), st7_row _ _ (by omega)]
  simp only [ok_X10_worthOf, m_X10_worthOf, f_X10_worthOf, u0_X10_worthOf, u1_X10_worthOf, u2_X10_worthOf, u3_X10_worthOf, u4_X10_worthOf, ok_X11_worthOf, m_X11_worthOf, f_X11_worthOf, opv_eq, cr, f_within, m_refused, f_in, f_no, cV]
  by_cases q2 : inb x2 1 4 = true
  · obtain ⟨n, hn1, hn, rfl⟩ := inb_nI (lo := 1) (hi := 4) (by omega) q2 (by omega)
    obtain ⟨b, A, e1, e2, o1, e3, e4⟩ := c_take I (V := (I 68 5).toNatClampNeg) (n := n) (by omega) hn hn1 x1
    simp only [q2, if_true, e1, e2]
    have eb : (if b = true then true else false) = b := by cases b <;> rfl
    have e04 : (va_up I 50 A) 0 4 = I 0 4 := by rw [vu_o _ _ (by omega)]
    rw [eb, e04]
    by_cases q : gv (I 0 4) b = 0
    · obtain ⟨qc, qb⟩ := gv_t q
      obtain ⟨x, rfl, hx, hA⟩ := e4 qb
      have row := isR_row (by omega) (by omega) hx
      have p := p10 (m := n) (by omega)
      simp only [q, if_true]
      have cp : m_X0_copy (st2 (va_up I 50 A) 0 7 0) 53 23 = va_up (st2 (va_up I 50 A) 0 7 0) 53 (cpy (I 53) (I 23)) := by
        rw [m_copy, st7_row _ _ (show (53 : Nat) ≠ 0 by omega), st7_row _ _ (show (23 : Nat) ≠ 0 by omega), vu_o _ _ (show (53 : Nat) ≠ 50 by omega), vu_o _ _ (show (23 : Nat) ≠ 50 by omega)]
      generalize hG : va_up (st2 (va_up I 50 A) 0 7 0) 53 (cpy (I 53) (I 23)) = G at cp
      have fG : Fr (st2 I 0 7 0) G := by
        rw [← hG]
        intro a j hk
        by_cases a1 : a = 53
        · subst a1; cases (show false = true from hk)
        · rw [vu_o _ _ a1]
          by_cases a2 : a = 0
          · subst a2
            by_cases j1 : j = 7
            · subst j1; rw [st2_s, st2_s]
            · rw [st2_o _ _ _ j1, st2_o _ _ _ j1, vu_o _ _ (by omega)]
          · rw [st2_a _ _ a2, st2_a _ _ a2]
            by_cases a3 : a = 50
            · subst a3; cases (show false = true from hk)
            · rw [vu_o _ _ a3]
      have hTG : TR G (I 68) (td w) := (hT.st (by omega)).fr fG
      have hP : PK G (dg x n) n (I 68 5).toNatClampNeg := fun k hk => by
        rw [← hG, vu_o _ _ (by omega), st7_row _ _ (by omega), vu_s]
        exact ⟨hA k hk, row.1 k hk⟩
      have hR : RK (I 68) G (dg x n) (I 70) 0 := fun k hk => by
        have : k = 0 := by omega
        subst this
        rw [Nat.add_zero, fG 51 0 rfl, st7_row _ _ (by omega), h51, ← hG, vu_s]
        exact ⟨br_congr hB (fun j hj => if_pos hj) (fun _ _ => rfl), rfl⟩
      have fo := c_follow (n := n) (k := 0) hTG hb hn (by omega) hP hR
      rw [nI_0] at fo
      have eW : m_X9_worth (st2 (va_up I 50 A) 0 7 0) (td w) 23 (nI n) = m_X9_follow G (td w) 0 (nI n) := by rw [m_X9_worth, opv_eq, cp]
      have okW : ok_X9_worth (st2 (va_up I 50 A) 0 7 0) (td w) 23 (nI n) = ((23 : Nat) ≠ 53 ∧ (ok_X9_follow G (td w) 0 (nI n) ∧ ok_X9_scoreOf (m_X9_follow G (td w) 0 (nI n)) (td w) 23 (nI n) 4)) := by rw [ok_X9_worth, opv_eq, cp]
      have fW : f_X9_worth (st2 (va_up I 50 A) 0 7 0) (td w) 23 (nI n) = f_X9_scoreOf (m_X9_follow G (td w) 0 (nI n)) (td w) 23 (nI n) 4 := by rw [f_X9_worth, opv_eq, cp]
      obtain ⟨f1, hR1, ok1⟩ := fo
      generalize m_X9_follow G (td w) 0 (nI n) = K at *
      have kfr : Fr G K := fun a j hk => f1 a j (by
        have := kp_kse hk
        exact kse_kfo this)
      have fK : Fr (st2 I 0 7 0) K := fG.trans kfr
      have e50 : K 50 = G 50 := funext fun j => f1 50 j rfl
      have sc := c_score (n := n) (d := dg x n) (hTG.fr kfr) hb hn (fun k hk => by rw [e50]; exact hP k hk) hR1 4
      have e23 : K 23 6 = I 70 4 := by rw [fK 23 6 rfl, st7_row _ _ (by omega)]; exact hB.days.1
      rw [e23] at sc
      have k14 : m_X11_good K 65 14 = I 0 4 := by rw [good_14, fK 65 14 rfl, st7_row _ _ (by omega), h.hc]
      have k68 : m_X11_good K 68 = I 68 := by rw [good_row _ (by omega), fK.row (a := 68) (fun _ => rfl), st7_row _ _ (by omega)]
      have k70 : m_X11_good K 70 = I 70 := by rw [good_row _ (by omega), fK.row (a := 70) (fun _ => rfl), st7_row _ _ (by omega)]
      have kr : f_X11_isRowOf (m_X11_good K) (nI x) (nI n) = b := e3 _ (by rw [k68]; exact hb.nV.1)
      obtain ⟨f, okg, ew, okw, ec, -, -, -⟩ := m_byRow (x := x) k68 hb hn hn1 (by omega) (b := I 23) (by rw [k70]; exact hB)
      rw [k70] at ew ec
      have eWm : f_X11_worthBy (m_X11_good K) (nI x) (nI n) = scr (I 68) (I 70) (I 70 4) n 4 (dg x n) := by
        rw [f_X11_worthBy, opv_eq, ew, ec]
        unfold scr
        rw [if_pos rfl]
      have eM : m_X11_worthBy (m_X11_good K) (nI x) (nI n) = m_X11_goBy (m_X11_good K) (nI x) (nI n) := by rw [m_X11_worthBy, opv_eq]
      rw [eW, fW, okW, k14, kr, if_neg qc, if_neg qc, if_neg qc, if_pos qb, if_pos qb, if_pos qb, sc.1, eWm, eM]
      refine ⟨⟨o1, by omega, ok1, sc.2⟩, by rw [ok_X11_worthBy, opv_eq]; exact ⟨okg, okw⟩, rfl, ?_⟩
      exact h.done (v := 0) fK ((fr_good _).trans (fr_kgb f)) (by decide)
    · have fG : Fr (st2 I 0 7 (gv (I 0 4) b)) (st2 (va_up I 50 A) 0 7 (gv (I 0 4) b)) := by
        intro a j hk
        by_cases a2 : a = 0
        · subst a2
          by_cases j1 : j = 7
          · subst j1; rw [st2_s, st2_s]
          · rw [st2_o _ _ _ j1, st2_o _ _ _ j1, vu_o _ _ (by omega)]
        · rw [st2_a _ _ a2, st2_a _ _ a2]
          by_cases a3 : a = 50
          · subst a3; cases (show false = true from hk)
          · rw [vu_o _ _ a3]
      have k14 : m_X11_good (st2 (va_up I 50 A) 0 7 (gv (I 0 4) b)) 65 14 = I 0 4 := by rw [good_14, fG 65 14 rfl, st7_row _ _ (by omega), h.hc]
      have k68 : m_X11_good (st2 (va_up I 50 A) 0 7 (gv (I 0 4) b)) 68 = I 68 := by rw [good_row _ (by omega), fG.row (a := 68) (fun _ => rfl), st7_row _ _ (by omega)]
      have kr : f_X11_isRowOf (m_X11_good (st2 (va_up I 50 A) 0 7 (gv (I 0 4) b))) x1 (nI n) = b := e3 _ (by rw [k68]; exact hb.nV.1)
      simp only [if_neg q, k14, kr, ifg]
      rw [gv_no _ _ _ q]
      refine ⟨⟨o1, trivial⟩, ?_, ?_, h.done (v := gv (I 0 4) b) fG (fr_no _ _) (gv_4 _ _)⟩
      · split <;> trivial
      · split <;> rfl
  · have q2' : inb x2 1 4 = false := by simpa using q2
    have q : ¬ gv (I 0 4) false = 0 := by
      unfold gv
      split
      · decide
      · decide
    simp only [q2', Bool.false_eq_true, if_false, if_neg q, h.g14]
    have e : ∀ (α : Type) (A B : α), (if I 0 4 = 0 then A else B) = (if gv (I 0 4) false = 1 then A else B) := by
      intro α A B
      unfold gv
      by_cases z : I 0 4 = 0
      · rw [if_pos z, if_pos z, if_pos rfl]
      · rw [if_neg z, if_neg z]; rfl
    refine ⟨⟨trivial, trivial⟩, ?_, ?_, ?_⟩
    · split <;> trivial
    · split <;> rfl
    · rw [e, gv_no _ _ _ q]
      exact h.bad (gv_4 _ _)
