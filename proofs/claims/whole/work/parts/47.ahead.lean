theorem hb_eq (K : Mm) (x : Int32) {k : Nat} (hk : k < 32) : f_X11_hasBit K x (nI k) = bt x k := by
  rw [f_X11_hasBit, opv_eq]
  by_cases y : bt x k = true
  · rw [if_pos ((bit_at _ hk).mpr y), y]
  · rw [if_neg (fun z => y ((bit_at _ hk).mp z))]
    simp at y
    rw [y]
/-! ===== plans kept, worths ===== -/
def wrS (r b : Vc) (fr : Int32) : Nat → Nat → Int32 → Int32
  | 0, _, acc => acc
  | c + 1, j, acc => wrS r b fr c (j + 1) (acc + (if r (25 + 3 * j) < fr then 0 else (if kb r b j = true then r (25 + 3 * j + 2) else 0)))
theorem plan_cell {I : Mm} {r : Vc} {t : Nat} (hT : TR I r t) (hb : RB r) {k c : Nat} (hk : k < (r 6).toNatClampNeg) (hc : c < 3) : f_X7_cell I (rt t 8) (nI k) (nI c) = r (25 + 3 * k + c) := by
  have hp := hT.2.2.2.2.2.2.2.2.2.1
  rw [rt_8 hT.1, cell_in hp (by omega) hk hc]
  congr 1
  omega
theorem isKept_eq {I : Mm} {r : Vc} {t a : Nat} (hT : TR I r t) (hb : RB r) {k : Nat} (hk : k < (r 6).toNatClampNeg) : f_X8_isKept I t (nI k) a = kb r (I a) k := by
  have hpl := hb.plan hk
  have c0 := plan_cell hT hb (c := 0) hk (by omega)
  have c1 := plan_cell hT hb (c := 1) hk (by omega)
  rw [Nat.add_zero] at c0
  rw [f_X8_isKept, opv_eq, show (0 : Int32) = nI 0 from rfl, show (1 : Int32) = nI 1 from rfl, c0, c1, f_X0_had, opv_eq, u0_X0_had, opv_eq, kb]
  have b0 := bw_nI (hi := 20) hpl.1
  generalize hd : (r (25 + 3 * k)).toNatClampNeg = d at *
  rw [b0.1, if_neg (nI_pos (by omega))]
  by_cases q : I a 6 ≤ nI d
  · rw [if_pos q]
    rw [fa_le] at q
    rw [decide_eq_false (by omega), Bool.false_and]
  · rw [if_neg q, if_pos (show nI d ≤ 20 from nI_le (b := 20) (by omega) (by omega))]
    rw [fa_le] at q
    rw [decide_eq_true (by omega), Bool.true_and]
    generalize (if r (25 + 3 * k + 1) = 1 then I a 7 else I a 8) = u
    by_cases z : bt u d = true
    · rw [if_pos ((bit_at _ (by omega)).mpr z), z]
    · rw [if_neg (fun x => z ((bit_at _ (by omega)).mp x))]
      simp at z
      rw [z]
theorem TR.cnt {I : Mm} {r : Vc} {t : Nat} (hT : TR I r t) (hb : RB r) : I (rt t 7) 3 = nI (r 5).toNatClampNeg ∧ I (rt t 8) 3 = nI (r 6).toNatClampNeg ∧ I (rt t 9) 3 = nI (r 7).toNatClampNeg ∧ I (rt t 10) 3 = nI (r 9).toNatClampNeg := by
  obtain ⟨ht, g0, g1, g2, g3, g4, g5, g6, hv, hp, hs, hd⟩ := hT
  rw [rt_7 ht, rt_8 ht, rt_9 ht, rt_10 ht]
  exact ⟨hv.2.2.1, hp.2.2.1, hs.2.2.1, hd.2.2.1⟩
theorem c_worth {I : Mm} {r : Vc} {t a : Nat} (hT : TR I r t) (hb : RB r) (fr : Int32) : ∀ (c j : Nat) (acc : Int32), j + c = (r 6).toNatClampNeg → (lp_X8_worthKept_5 I t a fr (c + 1) acc (nI j)).1 = wrS r (I a) fr c j acc := by
  have hn := hb.nP
  have hc := (hT.cnt hb).2.1
  intro c
  induction c with
  | zero =>
    intro j acc hj
    rw [lp_X8_worthKept_5, hc, if_pos (nI_le (by omega) (by omega))]
    rfl
  | succ c ih =>
    intro j acc hj
    have c0 := plan_cell hT hb (k := j) (c := 0) (by omega) (by omega)
    have c2 := plan_cell hT hb (k := j) (c := 2) (by omega) (by omega)
    rw [Nat.add_zero] at c0
    rw [lp_X8_worthKept_5, hc, if_neg (nI_ge (by omega) (by omega)), nI_1, ih (j + 1) _ (by omega), wrS]
    congr 1
    rw [u0_X8_worthKept, opv_eq, isKept_eq hT hb (by omega), show (0 : Int32) = nI 0 from rfl, show (2 : Int32) = nI 2 from rfl, c0, c2]
    split
    · rw [nI_0, Int32.add_zero]
    · split
      · rfl
      · rw [nI_0, Int32.add_zero]
theorem c_worthKept {I : Mm} {r : Vc} {t a : Nat} (hT : TR I r t) (hb : RB r) (fr : Int32) : f_X8_worthKept I t a fr = wrS r (I a) fr (r 6).toNatClampNeg 0 0 := by
  have hn := hb.nP
  rw [f_X8_worthKept, opv_eq, (hT.cnt hb).2.1, show (0 : Int32) = nI 0 from rfl, mu_up_nI (by omega) (by omega), Nat.sub_zero, c_worth hT hb fr _ 0 _ (by omega)]
theorem in25r {k c : Nat} (h : k < 60) (hc : c < 10) : vp_in (((25 : Int32) + 3 * nI k) + nI c) (sz 68) := in25 h hc
theorem kept_bit {r : Vc} {wood : Int32} {D : Nat} {b v : Vc} (hB : BR r wood D b v) {k : Nat} (hk : k < (r 6).toNatClampNeg) : bt (v 6) k = kb r b k := hB.2.2.2.2.2.2.2.2.2.2.2.2.1 k hk
theorem BR.days {r : Vc} {wood : Int32} {D : Nat} {b v : Vc} (hB : BR r wood D b v) : b 6 = v 4 ∧ bw (b 6) 0 D := ⟨hB.2.2.2.2.2.2.1, hB.2.2.2.2.2.2.2.2.2.2.1⟩
theorem kb_lt {r b : Vc} {k : Nat} (h : kb r b k = true) : (r (25 + 3 * k)).toInt < (b 6).toInt := by
  unfold kb at h
  rw [Bool.and_eq_true] at h
  exact of_decide_eq_true h.1
theorem inb_kb {r b : Vc} {k D : Nat} {fr : Int32} (h6 : bw (b 6) 0 D) (y : Int32) : (if inb (r (25 + 3 * k)) fr (b 6 - 1) = true then (if kb r b k = true then y else 0) else 0) = (if r (25 + 3 * k) < fr then 0 else (if kb r b k = true then y else 0)) := by
  unfold inb
  by_cases q : r (25 + 3 * k) < fr
  · rw [if_pos q, if_pos q]
    simp
  · rw [if_neg q, if_neg q]
    by_cases q2 : b 6 - 1 < r (25 + 3 * k)
    · rw [if_pos q2]
      have : ¬ kb r b k = true := by
        intro z
        have := kb_lt z
        have r1 := fb_rng (b 6)
        have := h6.1
        rw [fa_lt, fb_subI (by rw [ti1]; omega) (by rw [ti1]; omega), ti1] at q2
        omega
      rw [if_neg this]
      simp
    · rw [if_neg q2, if_pos rfl]
theorem m_worth {I : Mm} {r b : Vc} {a D : Nat} {wood : Int32} (hr : I 68 = r) (hb : RB r) (hs : sz a = 7) (hB : BR r wood D b (I a)) (fr : Int32) : ∀ (c j : Nat) (acc : Int32), j + c = (r 6).toNatClampNeg → (lp_X11_worthsOf_6 I a fr (b 6) (c + 1) acc (nI j)).1 = wrS r b fr c j acc ∧ oklp_X11_worthsOf_6 I a fr (b 6) (c + 1) acc (nI j) := by
  have hn := hb.nP
  intro c
  induction c with
  | zero =>
    intro j acc hj
    rw [lp_X11_worthsOf_6, oklp_X11_worthsOf_6, hr, hn.1, if_pos (nI_le (by omega) (by omega)), if_pos (nI_le (by omega) (by omega))]
    exact ⟨rfl, trivial⟩
  | succ c ih =>
    intro j acc hj
    have q : ¬ nI (r 6).toNatClampNeg ≤ nI j := nI_ge (by omega) (by omega)
    have k := ih (j + 1) (acc + u0_X11_worthsOf I a fr (b 6) (nI j)) (by omega)
    have hbit := kept_bit hB (k := j) (by omega)
    have e : u0_X11_worthsOf I a fr (b 6) (nI j) = (if r (25 + 3 * j) < fr then 0 else (if kb r b j = true then r (25 + 3 * j + 2) else 0)) := by
      rw [u0_X11_worthsOf, opv_eq, hr, ix25 (by omega), show ((25 : Int32) + 3 * nI j + 2) = ((25 : Int32) + 3 * nI j + nI 2) from rfl, ix25a (by omega) (by omega), f_in, hb_eq _ _ (by omega), hbit, ← inb_kb hB.days.2]
    rw [lp_X11_worthsOf_6, oklp_X11_worthsOf_6, hr, hn.1, if_neg q, if_neg q, nI_1]
    refine ⟨by rw [k.1, e, wrS], in25' (by omega), ?_, k.2⟩
    split
    · refine ⟨by rw [hs]; exact vp_in_nI (n := 6) (by omega) (by omega), ?_⟩
      split
      · exact in25 (c := 2) (by omega) (by omega)
      · trivial
    · trivial
theorem m_worthsOf {I : Mm} {r b : Vc} {a D : Nat} {wood : Int32} (hr : I 68 = r) (hb : RB r) (hs : sz a = 7) (hB : BR r wood D b (I a)) (fr : Int32) : f_X11_worthsOf I a fr (b 6) = wrS r b fr (r 6).toNatClampNeg 0 0 ∧ ok_X11_worthsOf I a fr (b 6) := by
  have hn := hb.nP
  rw [f_X11_worthsOf, ok_X11_worthsOf, opv_eq, opv_eq, hr, hn.1, show (0 : Int32) = nI 0 from rfl, mu_up_nI (by omega) (by omega), Nat.sub_zero, nI_clamp (by omega)]
  exact m_worth hr hb hs hB fr _ 0 _ (by omega)
theorem st_kept : St_kept Sim := by
  intro I J w x1 h
  simp only [ok_X10_kept, m_X10_kept, f_X10_kept, ok_X11_kept, m_X11_kept, f_X11_kept, opv_eq, cr, f_within, m_refused, f_why, f_no]
  by_cases q : gv (I 0 4) (inb x1 0 60) = 0
  · obtain ⟨n, -, hn, rfl⟩ := inb_nI (lo := 0) (hi := 60) (by omega) (gv_t q).2 (by omega)
    obtain ⟨X, Y, K, e1, hK, e2, e3, hB, h6, k14, k68, k70, k23⟩ := h.ahead 0 (n := n) (by omega)
    simp only [q, if_true, e1, k14, e2, vu_o _ _ (show (70 : Nat) ≠ 73 by omega), k70, k23]
    have hT : TR K (I 68) (td w) := by rw [hK]; exact (h.1.2.1.st (by omega)).up (by omega)
    have k47 : K 47 = X := by rw [hK, vu_s]
    have d0 := h.1.2.2.2.2.2.2.1.days.1
    have m := m_worthsOf (I := va_up (m_X11_good K) 73 Y) (r := I 68) (b := X) (a := 73) (wood := I 68 0) (D := 999 + n) (by rw [vu_o _ _ (by omega)]; exact k68) h.1.1 sz_73 (by rw [vu_s]; exact hB) (I 70 4)
    rw [h6, d0] at m
    refine ⟨behind_ok _ _ _, ⟨e3, m.2⟩, ?_, ?_⟩
    · rw [c_worthKept hT h.1.1, k47, m.1, d0]
    · rw [hK]
      exact h.good47 X Y
  · simp only [if_neg q, h.g14]
    exact ⟨trivial, trivial, trivial, h.bad (gv_4 _ _)⟩
/-! ===== days of a weather, when somebody is out ===== -/
theorem days_lp {r : Vc} {t x2 : Nat} (hb : RB r) (x : Int32) {n : Nat} (hn : n < 1000) : ∀ (c j D : Nat) (acc : Int32) (I I' : Mm), TR I r t → I' 68 = r → BR r (r 0) D (I 47) (I' 73) → D + c < 100000 → j + c = n → ∃ X Y, (lp_X2_daysWith_14 t x2 x (nI n) (c + 1) acc (nI j) I).1 = (lp_X11_daysOf_51 x (nI n) (c + 1) acc (nI j) I').1 ∧ (lp_X2_daysWith_14 t x2 x (nI n) (c + 1) acc (nI j) I).2.2 = va_up I 47 X ∧ (lp_X11_daysOf_51 x (nI n) (c + 1) acc (nI j) I').2.2 = va_up I' 73 Y ∧ oklp_X11_daysOf_51 x (nI n) (c + 1) acc (nI j) I' := by
  intro c
  induction c with
  | zero =>
    intro j D acc I I' hT hr hB hD hj
    rw [lp_X2_daysWith_14, lp_X11_daysOf_51, oklp_X11_daysOf_51, if_pos (nI_le (by omega) (by omega)), if_pos (nI_le (by omega) (by omega)), if_pos (nI_le (by omega) (by omega))]
    exact ⟨I 47, I' 73, rfl, (vu_same _ _).symm, (vu_same _ _).symm, trivial⟩
  | succ c ih =>
    intro j D acc I I' hT hr hB hD hj
    have q : ¬ nI n ≤ nI j := nI_ge (by omega) (by omega)
    have hB2 := day_rel hb (by omega) hB
    obtain ⟨X, Y, a1, a2, a3, a4⟩ := ih (j + 1) (D + 1) (acc + b2i (if mday r (r 0) (I' 73) 5 = x then true else false)) (va_up I 47 (cday r (I 47))) (va_up I' 73 (mday r (r 0) (I' 73))) (hT.up (by omega)) (by rw [vu_o _ _ (by omega)]; exact hr) (by rw [vu_s, vu_s]; exact hB2) (by omega) (by omega)
    rw [lp_X2_daysWith_14, lp_X11_daysOf_51, oklp_X11_daysOf_51, if_neg q, if_neg q, if_neg q, nI_1, u0_X2_daysWith, opv_eq, c_passDay hT hb (by omega), m_dayOf hr (by omega) hb, vu_s, vu_s, hB2.2.2.2.2.2.1]
    rw [vu_vu] at a2 a3
    exact ⟨X, Y, a1, a2, a3, dayOf_ok hr (by omega) sz_73 hb, a4⟩
theorem st_daysOf : St_daysOf Sim := by
  intro I J w x1 x2 h
  simp only [ok_X10_daysOf, m_X10_daysOf, f_X10_daysOf, u0_X10_daysOf, u1_X10_daysOf, u2_X10_daysOf, u3_X10_daysOf, ok_X11_daysOf, m_X11_daysOf, f_X11_daysOf, opv_eq, cr, f_within, m_refused, f_in, f_no]
  rw [show (if inb x1 0 2 = true then (if inb x2 0 60 = true then true else false) else false) = (inb x1 0 2 && inb x2 0 60) from by cases inb x1 0 2 <;> cases inb x2 0 60 <;> rfl]
  simp only [ifg2]
  by_cases q : gv (I 0 4) (inb x1 0 2 && inb x2 0 60) = 0
  · have q2 := (gv_t q).2
    rw [Bool.and_eq_true] at q2
    obtain ⟨n, -, hn, rfl⟩ := inb_nI (lo := 0) (hi := 60) (by omega) q2.2 (by omega)
    have hT : TR (st2 I 0 7 0) (I 68) (td w) := h.1.2.1.st (by omega)
    have hb := h.1.1
    have hB := h.1.2.2.2.2.2.2.1
    simp only [q, if_true]
    rw [f_X2_daysWith, opv_eq, m_X2_daysWith, opv_eq, m_copy, st7_row _ _ (by omega), st7_row _ _ (by omega), show (0 : Int32) = nI 0 from rfl, mu_up_nI (by omega) (by omega), Nat.sub_zero]
    have key : ∀ K : Mm, K 68 = I 68 → K 70 = I 70 → _ := fun K (k68 : K 68 = I 68) (k70 : K 70 = I 70) => days_lp (t := td w) (x2 := 23) hb x1 (n := n) (by omega) n 0 999 (nI 0) (va_up (st2 I 0 7 (nI 0)) 47 (cpy (I 47) (I 23))) (va_up K 73 (mpy (K 73) (K 70))) (hT.up (by omega)) (by rw [vu_o _ _ (by omega)]; exact k68) (by rw [vu_s, vu_s, k70]; exact br_cpy _ _ hB) (by omega) (by omega)
    generalize hc : lp_X2_daysWith_14 (td w) 23 x1 (nI n) (n + 1) (nI 0) (nI 0) (va_up (st2 I 0 7 (nI 0)) 47 (cpy (I 47) (I 23))) = C at key ⊢
    obtain ⟨X0, Y0, -, e0, -⟩ := key I rfl rfl
    rw [vu_vu] at e0
    have g68 : m_X11_good C.2.2 68 = I 68 := by rw [good_row _ (by omega), e0, vu_o _ _ (by omega), st7_row _ _ (by omega)]
    have g70 : m_X11_good C.2.2 70 = I 70 := by rw [good_row _ (by omega), e0, vu_o _ _ (by omega), st7_row _ _ (by omega)]
    have g14 : m_X11_good C.2.2 65 14 = I 0 4 := by rw [good_14, e0, vu_o _ _ (by omega), st7_row _ _ (by omega), h.hc]
    obtain ⟨X, Y, a1, a2, a3, a4⟩ := key _ g68 g70
    have q' : gv (I 0 4) (inb x1 (nI 0) 2 && inb (nI n) (nI 0) 60) = nI 0 := q
    rw [g14, if_pos q', if_pos q', if_pos q', m_begin]
    rw [vu_vu] at a3
    refine ⟨?_, ⟨begin_ok _, a4⟩, a1, ?_⟩
    · rw [ok_X2_daysWith, opv_eq]; omega
    · rw [a3, e0]
      exact h.good47 X0 Y
  · have q3 : ∀ v : Int32, (if gv (I 0 4) (inb x1 0 2 && inb x2 0 60) = 1 then (-1 : Int32) else -1) = -1 := fun _ => by split <;> rfl
    simp only [if_neg q, h.g14]
    rw [gv_no _ _ _ q]
    refine ⟨trivial, ?_, ?_, h.bad (gv_4 _ _)⟩
    · split <;> trivial
    · split <;> rfl
theorem when_lp {r : Vc} {t x2 : Nat} (hb : RB r) (x l2 : Int32) : ∀ (c j D : Nat) (I I' : Mm), TR I r t → I' 68 = r → BR r (r 0) D (I 47) (I' 73) → D + c < 100000 → j + c = 61 → ∃ X Y, (lp_X2_daysUntil_11 t x2 x (c + 1) (nI j) I).1 = (lp_X11_when_28 x l2 (c + 1) (nI j) I').1 ∧ (lp_X2_daysUntil_11 t x2 x (c + 1) (nI j) I).2 = va_up I 47 X ∧ (lp_X11_when_28 x l2 (c + 1) (nI j) I').2 = va_up I' 73 Y ∧ oklp_X11_when_28 x l2 (c + 1) (nI j) I' := by
  intro c
  induction c with
  | zero =>
    intro j D I I' hT hr hB hD hj
    have q : (60 : Int32) < nI j := nI_lt (a := 60) (by omega) (by omega)
    rw [lp_X2_daysUntil_11, lp_X11_when_28, oklp_X11_when_28, if_pos q, if_pos q, if_pos q]
    exact ⟨I 47, I' 73, rfl, (vu_same _ _).symm, (vu_same _ _).symm, trivial⟩
  | succ c ih =>
    intro j D I I' hT hr hB hD hj
    have q : ¬ (60 : Int32) < nI j := nI_nlt (b := j) (a := 60) (by omega) (by omega)
    have hB2 := day_rel hb (by omega) hB
    obtain ⟨X, Y, a1, a2, a3, a4⟩ := ih (j + 1) (D + 1) (va_up I 47 (cday r (I 47))) (va_up I' 73 (mday r (r 0) (I' 73))) (hT.up (by omega)) (by rw [vu_o _ _ (by omega)]; exact hr) (by rw [vu_s, vu_s]; exact hB2) (by omega) (by omega)
    rw [lp_X2_daysUntil_11, lp_X11_when_28, oklp_X11_when_28, if_neg q, if_neg q, if_neg q, nI_1, f_whoIs, f_whoOf, hB.who]
    by_cases y : pwho (I' 73) = x
    · rw [if_pos y, if_pos y, if_pos y]
      exact ⟨I 47, I' 73, rfl, (vu_same _ _).symm, (vu_same _ _).symm, who_ok _ sz_73, trivial⟩
    · rw [if_neg y, if_neg y, if_neg y, c_passDay hT hb (by omega), m_dayOf hr (by omega) hb]
      rw [vu_vu] at a2 a3
      exact ⟨X, Y, a1, a2, a3, who_ok _ sz_73, dayOf_ok hr (by omega) sz_73 hb, a4⟩
theorem st_when : St_when Sim := by
  intro I J w x1 h
  simp only [ok_X10_when, m_X10_when, f_X10_when, u0_X10_when, u1_X10_when, u2_X10_when, ok_X11_when, m_X11_when, f_X11_when, opv_eq, cr, f_within, m_refused, f_why, f_no]
  by_cases q : gv (I 0 4) (inb x1 0 3) = 0
  · have hT : TR (st2 I 0 7 0) (I 68) (td w) := h.1.2.1.st (by omega)
    have hb := h.1.1
    have hB := h.1.2.2.2.2.2.2.1
    simp only [q, if_true]
    rw [f_X2_daysUntil, opv_eq, m_X2_daysUntil, opv_eq, m_copy, st7_row _ _ (by omega), st7_row _ _ (by omega), show mu_le 60 0 = mu_le (nI 60) (nI 0) from rfl, mu_le_nI (by omega) (by omega), show (60 + 1 - 0 + 1 : Nat) = 61 + 1 from rfl, show (0 : Int32) = nI 0 from rfl]
    have key : ∀ (K : Mm) (l2 : Int32), K 68 = I 68 → K 70 = I 70 → _ := fun K l2 (k68 : K 68 = I 68) (k70 : K 70 = I 70) => when_lp (t := td w) (x2 := 23) hb x1 l2 61 0 999 (va_up (st2 I 0 7 (nI 0)) 47 (cpy (I 47) (I 23))) (va_up K 73 (mpy (K 73) (K 70))) (hT.up (by omega)) (by rw [vu_o _ _ (by omega)]; exact k68) (by rw [vu_s, vu_s, k70]; exact br_cpy _ _ hB) (by omega) (by omega)
    generalize hc : lp_X2_daysUntil_11 (td w) 23 x1 (61 + 1) (nI 0) (va_up (st2 I 0 7 (nI 0)) 47 (cpy (I 47) (I 23))) = C at key ⊢
    obtain ⟨X0, Y0, -, e0, -⟩ := key I 0 rfl rfl
    rw [vu_vu] at e0
    have g68 : m_X11_good C.2 68 = I 68 := by rw [good_row _ (by omega), e0, vu_o _ _ (by omega), st7_row _ _ (by omega)]
    have g70 : m_X11_good C.2 70 = I 70 := by rw [good_row _ (by omega), e0, vu_o _ _ (by omega), st7_row _ _ (by omega)]
    have g14 : m_X11_good C.2 65 14 = I 0 4 := by rw [good_14, e0, vu_o _ _ (by omega), st7_row _ _ (by omega), h.hc]
    have q' : gv (I 0 4) (inb x1 (nI 0) 3) = nI 0 := q
    obtain ⟨X, Y, a1, a2, a3, a4⟩ := key _ (nI 0) g68 g70
    simp only [g14, q', if_pos, m_begin]
    rw [vu_vu] at a3
    refine ⟨?_, ⟨begin_ok _, a4⟩, a1, ?_⟩
    · rw [ok_X2_daysUntil, opv_eq]; omega
    · rw [a3, e0]
      exact h.good47 X0 Y
  · simp only [if_neg q, h.g14]
    exact ⟨trivial, trivial, trivial, h.bad (gv_4 _ _)⟩
