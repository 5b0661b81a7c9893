/-! ===== gusts by draws ===== -/
theorem gust_eq {a : Int32} (h : bw a (-9) 9) : imin 9 (a + 1) = mbound (a + 1) ∧ bw (mbound (a + 1)) (-9) 9 := by
  have := h.1; have := h.2
  have e : (a + 1).toInt = a.toInt + 1 := by rw [fb_addI (by rw [ti1]; omega) (by rw [ti1]; omega), ti1]
  refine ⟨?_, bound_bw _⟩
  rw [← bound_eq, fa_eq, imin_toInt, imax_toInt, imin_toInt, e, ti9, tim9]
  omega
theorem br_gust {r : Vc} {wood : Int32} {D : Nat} {b v : Vc} (h : BR r wood D b v) : BR r wood D (upd b 0 (imin 9 (b 0 + 1))) (upd v 0 (mbound (v 0 + 1))) := by
  have g := gust_eq h.2.2.2.2.2.2.2.1
  rw [g.1, ← h.1]
  generalize mbound (b 0 + 1) = x at *
  unfold BR KR kb at *
  simp only [upd_sl b 0 x 1 (by omega), upd_sl b 0 x 2 (by omega), upd_sl b 0 x 3 (by omega), upd_sl b 0 x 4 (by omega), upd_sl b 0 x 5 (by omega), upd_sl b 0 x 6 (by omega), upd_sl b 0 x 7 (by omega), upd_sl b 0 x 8 (by omega), upd_sl v 0 x 1 (by omega), upd_sl v 0 x 2 (by omega), upd_sl v 0 x 3 (by omega), upd_sl v 0 x 4 (by omega), upd_sl v 0 x 5 (by omega), upd_sl v 0 x 6 (by omega), pk_us]
  obtain ⟨h0, h1, h2, h3, h4, h5, h6, g0, g1⟩ := h
  exact ⟨trivial, h1, h2, h3, h4, h5, h6, g.2, g1⟩
theorem c_gust (I : Mm) (a : Nat) : m_X0_gust I a = va_up I a (upd (I a) 0 (imin 9 (I a 0 + 1))) := by rw [m_X0_gust, opv_eq, st2_up]
theorem m_gust (I : Mm) (a : Nat) : m_X11_gust I a = va_up I a (upd (I a) 0 (mbound (I a 0 + 1))) := by
  rw [m_X11_gust, opv_eq, st2_up, f_X11_bound, opv_eq]
  rfl
theorem gust_ok (I : Mm) {a : Nat} (hs : sz a = 7) : ok_X11_gust I a := by
  rw [ok_X11_gust, opv_eq, hs]
  exact ⟨vp_in_nI (n := 0) (by omega) (by omega), vp_in_nI (n := 0) (by omega) (by omega)⟩
def kd1 (a j : Nat) : Bool := !(a == 64) && !(a == 63 && j == 2)
def kd2 (a j : Nat) : Bool := !(a == 73) && !(a == 65 && j == 39)
theorem kd1_low : ∀ a, 3 ≤ a → a ≤ 22 → ∀ j, kd1 a j = true := by
  intro a h1 h2 j
  have n1 : (a == 64) = false := by simp; omega
  have n2 : (a == 63) = false := by simp; omega
  simp [kd1, n1, n2]
theorem draw_lp {r : Vc} {t x2 : Nat} (hb : RB r) (sd : Int32) {n : Nat} (hn : n < 1000) : ∀ (c j D : Nat) (dr : Int32) (I I' : Mm), TR I r t → I' 68 = r → BR r (r 0) D (I 64) (I' 73) → I 63 2 = I' 65 39 → D + c < 100000 → j + c = n → Fk kd1 I (lp_X3_draw_19 t x2 sd (nI n) (c + 1) dr (nI j) I).2.2 ∧ Fk kd2 I' (lp_X11_gustWhy_46 sd (nI n) (c + 1) dr (nI j) I').2.2 ∧ (lp_X3_draw_19 t x2 sd (nI n) (c + 1) dr (nI j) I).2.2 64 0 = (lp_X11_gustWhy_46 sd (nI n) (c + 1) dr (nI j) I').2.2 73 0 ∧ (lp_X3_draw_19 t x2 sd (nI n) (c + 1) dr (nI j) I).2.2 63 2 = (lp_X11_gustWhy_46 sd (nI n) (c + 1) dr (nI j) I').2.2 65 39 ∧ oklp_X11_gustWhy_46 sd (nI n) (c + 1) dr (nI j) I' := by
  intro c
  induction c with
  | zero =>
    intro j D dr I I' hT hr hB h2 hD hj
    have q : nI n ≤ nI j := nI_le (by omega) (by omega)
    rw [lp_X3_draw_19, lp_X11_gustWhy_46, oklp_X11_gustWhy_46, if_pos q, if_pos q, if_pos q]
    exact ⟨Fk.refl _ _, Fk.refl _ _, hB.1, h2, trivial⟩
  | succ c ih =>
    intro j D dr I I' hT hr hB h2 hD hj
    have q : ¬ nI n ≤ nI j := nI_ge (by omega) (by omega)
    have hB2 := day_rel hb (by omega) hB
    have htl := hT.1
    have et : (va_up I 64 (cday r (I 64))) t 3 = r 2 := by rw [vu_o _ _ (by omega)]; exact hT.2.2.2.2.1
    have e63 : (va_up I 64 (cday r (I 64))) 63 2 = I 63 2 := by rw [vu_o _ _ (by omega)]
    have e65 : (va_up I' 73 (mday r (r 0) (I' 73))) 65 39 = I' 65 39 := by rw [vu_o _ _ (by omega)]
    have e68 : (va_up I' 73 (mday r (r 0) (I' 73))) 68 2 = r 2 := by rw [vu_o _ _ (by omega), hr]
    rw [lp_X3_draw_19, lp_X11_gustWhy_46, oklp_X11_gustWhy_46, if_neg q, if_neg q, if_neg q, nI_1, u2_X3_draw, opv_eq, u1_X3_draw, opv_eq, u0_X3_draw, opv_eq, u1_X11_gustWhy, opv_eq, u0_X11_gustWhy, opv_eq, c_passDay hT hb (by omega), m_dayOf hr (by omega) hb, et, e63, e65, e68, vu_s, vu_s, hB2.2.2.2.2.2.1, h2]
    generalize (75 * dr + 74 - (75 * dr + 74) / 65537 * 65537) = dr2
    generalize I' 65 39 + b2i (if mday r (r 0) (I' 73) 5 = 1 then true else false) = y
    have f1 : Fk kd1 I (st2 (va_up I 64 (cday r (I 64))) 63 2 y) := ((Fk.refl _ _).up (fun _ => rfl)).st rfl
    have f2 : Fk kd2 I' (st2 (va_up I' 73 (mday r (r 0) (I' 73))) 65 39 y) := ((Fk.refl _ _).up (fun _ => rfl)).st rfl
    by_cases z : r 2 ≤ dr2 - dr2 / 100 * 100
    · rw [if_pos z, if_pos z, if_pos z]
      have k := ih (j + 1) (D + 1) dr2 (st2 (va_up I 64 (cday r (I 64))) 63 2 y) (st2 (va_up I' 73 (mday r (r 0) (I' 73))) 65 39 y) (hT.fk f1 kd1_low) (by rw [st2_orow _ _ _ (by omega), vu_o _ _ (by omega)]; exact hr) (by rw [st2_orow _ _ _ (by omega), st2_orow _ _ _ (by omega), vu_s, vu_s]; exact hB2) (by rw [st2_s, st2_s]) (by omega) (by omega)
      exact ⟨f1.trans k.1, f2.trans k.2.1, k.2.2.1, k.2.2.2.1, dayOf_ok hr (by omega) sz_73 hb, trivial, k.2.2.2.2⟩
    · rw [if_neg z, if_neg z, if_neg z, c_gust, m_gust]
      have g1 : Fk kd1 I (va_up (st2 (va_up I 64 (cday r (I 64))) 63 2 y) 64 (upd (st2 (va_up I 64 (cday r (I 64))) 63 2 y 64) 0 (imin 9 (st2 (va_up I 64 (cday r (I 64))) 63 2 y 64 0 + 1)))) := f1.up (fun _ => rfl)
      have g2 : Fk kd2 I' (va_up (st2 (va_up I' 73 (mday r (r 0) (I' 73))) 65 39 y) 73 (upd (st2 (va_up I' 73 (mday r (r 0) (I' 73))) 65 39 y 73) 0 (mbound (st2 (va_up I' 73 (mday r (r 0) (I' 73))) 65 39 y 73 0 + 1)))) := f2.up (fun _ => rfl)
      have k := ih (j + 1) (D + 1) dr2 (va_up (st2 (va_up I 64 (cday r (I 64))) 63 2 y) 64 (upd (st2 (va_up I 64 (cday r (I 64))) 63 2 y 64) 0 (imin 9 (st2 (va_up I 64 (cday r (I 64))) 63 2 y 64 0 + 1)))) (va_up (st2 (va_up I' 73 (mday r (r 0) (I' 73))) 65 39 y) 73 (upd (st2 (va_up I' 73 (mday r (r 0) (I' 73))) 65 39 y 73) 0 (mbound (st2 (va_up I' 73 (mday r (r 0) (I' 73))) 65 39 y 73 0 + 1)))) (hT.fk g1 kd1_low) (by rw [vu_o _ _ (by omega), st2_orow _ _ _ (by omega), vu_o _ _ (by omega)]; exact hr) (by rw [vu_s, vu_s, st2_orow _ _ _ (by omega), st2_orow _ _ _ (by omega), vu_s, vu_s]; exact br_gust hB2) (by rw [vu_o _ _ (by omega), vu_o _ _ (by omega), st2_s, st2_s]) (by omega) (by omega)
      exact ⟨g1.trans k.1, g2.trans k.2.1, k.2.2.1, k.2.2.2.1, dayOf_ok hr (by omega) sz_73 hb, gust_ok _ sz_73, k.2.2.2.2⟩
theorem kp_kd1 {a j : Nat} (h : kp a j = true) : kd1 a j = true := by
  by_cases h1 : a = 64
  · subst h1; cases (show false = true from h)
  by_cases h2 : a = 63
  · subst h2; cases (show false = true from h)
  simp [kd1, h1, h2]
theorem kp_kd2 {a j : Nat} (h : kp a j = true) : kd2 a j = true := by
  by_cases h1 : a = 73
  · subst h1; cases (show false = true from h)
  by_cases h2 : a = 65
  · subst h2
    by_cases j1 : j = 39
    · subst j1; exact absurd h (by decide)
    simp [kd2, j1]
  simp [kd2, h1, h2]
theorem Sim.drawn {I : Mm} {J : Nat → Nat → Int64} {w : Bool} (h : Sim I J w) (hc : ¬ I 0 4 = 0) (sd : Int32) {n : Nat} (hn : n ≤ 60) (hs : inb sd 0 65536 = true) (hn2 : inb (nI n) 0 60 = true) : ok_X3_draw (st2 I 0 7 0) (td w) 23 sd (nI n) ∧ ∃ K, m_X3_draw (st2 I 0 7 0) (td w) 23 sd (nI n) = K ∧ f_X11_gustWhy (m_X11_good K) sd (nI n) = 0 ∧ ok_X11_gustWhy (m_X11_good K) sd (nI n) ∧ K 64 0 = m_X11_gustWhy (m_X11_good K) sd (nI n) 73 0 ∧ K 63 2 = m_X11_gustWhy (m_X11_good K) sd (nI n) 65 39 ∧ ∀ J', Sim (m_X11_gustWhy (m_X11_good K) sd (nI n)) J' w := by
  have hb := h.1.1
  have hB := h.1.2.2.2.2.2.2.1
  have hT : TR (st2 I 0 7 0) (I 68) (td w) := h.1.2.1.st (by omega)
  refine ⟨by rw [ok_X3_draw, opv_eq]; omega, ?_⟩
  generalize hG : va_up (st2 (st2 I 0 7 0) 63 2 0) 64 (cpy (I 64) (I 23)) = G
  have eG : m_X0_copy (st2 (st2 I 0 7 0) 63 2 0) 64 23 = G := by
    rw [m_copy, st2_orow _ _ _ (show (64 : Nat) ≠ 63 by omega), st2_orow _ _ _ (show (23 : Nat) ≠ 63 by omega), st7_row _ _ (show (64 : Nat) ≠ 0 by omega), st7_row _ _ (show (23 : Nat) ≠ 0 by omega), hG]
  have mu : mu_up (nI n) 0 + 1 = n + 1 := by rw [show mu_up (nI n) 0 = mu_up (nI n) (nI 0) from rfl, mu_up_nI (by omega) (by omega), Nat.sub_zero]
  have eK : m_X3_draw (st2 I 0 7 0) (td w) 23 sd (nI n) = (lp_X3_draw_19 (td w) 23 sd (nI n) (n + 1) sd (nI 0) G).2.2 := by
    rw [m_X3_draw, opv_eq, eG, mu, nI_0]
  have key : ∀ M : Mm, M 68 = I 68 → M 70 = I 70 → _ := fun M (m68 : M 68 = I 68) (m70 : M 70 = I 70) => draw_lp (t := td w) (x2 := 23) hb sd (n := n) (by omega) n 0 999 sd G (st2 (va_up M 73 (mpy (M 73) (M 70))) 65 39 0) (by rw [← hG]; exact (hT.st (by omega)).up (by omega)) (by rw [st2_orow _ _ _ (by omega), vu_o _ _ (by omega)]; exact m68) (by rw [← hG, vu_s, st2_orow _ _ _ (by omega), vu_s, m70]; exact br_cpy _ _ hB) (by rw [← hG, vu_o _ _ (by omega), st2_s, st2_s]) (by omega) (by omega)
  generalize (lp_X3_draw_19 (td w) 23 sd (nI n) (n + 1) sd (nI 0) G).2.2 = K at key eK
  have k0 := key I rfl rfl
  have fG : Fr (st2 I 0 7 0) G := by rw [← hG]; exact ((Fr.refl _).st rfl).up (fun _ => rfl)
  have fK : Fr (st2 I 0 7 0) K := fG.trans (fun a j hk => k0.1 a j (kp_kd1 hk))
  have k68 : m_X11_good K 68 = I 68 := by rw [good_row _ (by omega), fK.row (a := 68) (fun _ => rfl), st7_row _ _ (by omega)]
  have k70 : m_X11_good K 70 = I 70 := by rw [good_row _ (by omega), fK.row (a := 70) (fun _ => rfl), st7_row _ _ (by omega)]
  have k14 : m_X11_good K 65 14 = I 0 4 := by rw [good_14, fK 65 14 rfl, st7_row _ _ (by omega), h.hc]
  have k := key _ k68 k70
  rw [nI_0] at k
  have eM : m_X11_gustWhy (m_X11_good K) sd (nI n) = (lp_X11_gustWhy_46 sd (nI n) (n + 1) sd 0 (st2 (va_up (m_X11_good K) 73 (mpy (m_X11_good K 73) (m_X11_good K 70))) 65 39 0)).2.2 := by
    rw [m_X11_gustWhy, opv_eq, k14, if_neg hc, f_in, if_pos hs, f_in, if_pos hn2, mu, m_begin]
  refine ⟨K, eK, ?_, ?_, ?_, ?_, fun J' => ?_⟩
  · rw [f_X11_gustWhy, opv_eq, k14, if_neg hc, f_in, if_pos hs, f_in, if_pos hn2]
  · rw [ok_X11_gustWhy, opv_eq, k14, if_neg hc, f_in, if_pos hs, f_in, if_pos hn2, mu, m_begin]
    exact ⟨begin_ok _, k.2.2.2.2⟩
  · rw [eM]; exact k.2.2.1
  · rw [eM]; exact k.2.2.2.1
  · rw [eM]
    exact h.done (v := 0) fK (((fr_good K).up (fun _ => rfl)).st rfl |>.trans (fun a j hk => k.2.1 a j (kp_kd2 hk))) (by decide)
theorem gw_no {I : Mm} {J : Nat → Nat → Int64} {w : Bool} (h : Sim I J w) {sd n : Int32} (q : ¬ gv (I 0 4) (inb sd 0 65536 && inb n 0 60) = 0) (v : Int32) : f_X11_gustWhy (m_X11_good (st2 I 0 7 v)) sd n = gv (I 0 4) (inb sd 0 65536 && inb n 0 60) ∧ m_X11_gustWhy (m_X11_good (st2 I 0 7 v)) sd n = m_X11_good (st2 I 0 7 v) ∧ ok_X11_gustWhy (m_X11_good (st2 I 0 7 v)) sd n := by
  rw [f_X11_gustWhy, m_X11_gustWhy, ok_X11_gustWhy, opv_eq, opv_eq, opv_eq, h.g14, f_in, f_in]
  unfold gv at q ⊢
  by_cases z : I 0 4 = 0
  · rw [if_pos z, if_pos z, if_pos z, if_pos z]; exact ⟨rfl, rfl, trivial⟩
  · rw [if_neg z] at q
    rw [if_neg z, if_neg z, if_neg z, if_neg z]
    cases y1 : inb sd 0 65536 <;> cases y2 : inb n 0 60 <;> rw [y1, y2] at q <;> simp at q ⊢
theorem st_gusted : St_gusted Sim := by
  intro I J w x1 x2 h
  simp only [ok_X10_gusted, m_X10_gusted, f_X10_gusted, u0_X10_gusted, ok_X11_gusted, m_X11_gusted, f_X11_gusted, u0_X11_gusted, u1_X11_gusted, u2_X11_gusted, opv_eq, cr, f_within, m_refused, f_no]
  rw [show (if inb x1 0 65536 = true then (if inb x2 0 60 = true then true else false) else false) = (inb x1 0 65536 && inb x2 0 60) from by cases inb x1 0 65536 <;> cases inb x2 0 60 <;> rfl]
  by_cases q : gv (I 0 4) (inb x1 0 65536 && inb x2 0 60) = 0
  · obtain ⟨qc, q2⟩ := gv_t q
    rw [Bool.and_eq_true] at q2
    simp only [q, if_true]
    obtain ⟨n, -, hn, rfl⟩ := inb_nI (lo := 0) (hi := 60) (by omega) q2.2 (by omega)
    obtain ⟨o1, K, e1, e2, o2, a1, a2, a3⟩ := h.drawn qc x1 hn q2.1 q2.2
    rw [e1, e2, if_pos rfl, if_pos rfl]
    exact ⟨o1, o2, by rw [a1], a3 J⟩
  · obtain ⟨g1, g2, g3⟩ := gw_no h q (gv (I 0 4) (inb x1 0 65536 && inb x2 0 60))
    simp only [if_neg q, g1, g2]
    exact ⟨trivial, g3, trivial, h.bad (gv_4 _ _)⟩
theorem st_wetIn : St_wetIn Sim := by
  intro I J w x1 x2 h
  simp only [ok_X10_wetIn, m_X10_wetIn, f_X10_wetIn, u0_X10_wetIn, ok_X11_wetIn, m_X11_wetIn, f_X11_wetIn, u0_X11_wetIn, u1_X11_wetIn, u2_X11_wetIn, opv_eq, cr, f_within, m_refused, f_no]
  rw [show (if inb x1 0 65536 = true then (if inb x2 0 60 = true then true else false) else false) = (inb x1 0 65536 && inb x2 0 60) from by cases inb x1 0 65536 <;> cases inb x2 0 60 <;> rfl]
  by_cases q : gv (I 0 4) (inb x1 0 65536 && inb x2 0 60) = 0
  · obtain ⟨qc, q2⟩ := gv_t q
    rw [Bool.and_eq_true] at q2
    simp only [q, if_true]
    obtain ⟨n, -, hn, rfl⟩ := inb_nI (lo := 0) (hi := 60) (by omega) q2.2 (by omega)
    obtain ⟨o1, K, e1, e2, o2, a1, a2, a3⟩ := h.drawn qc x1 hn q2.1 q2.2
    rw [e1, e2, if_pos rfl, if_pos rfl]
    exact ⟨o1, o2, a2, a3 J⟩
  · obtain ⟨g1, g2, g3⟩ := gw_no h q (gv (I 0 4) (inb x1 0 65536 && inb x2 0 60))
    simp only [if_neg q, g1, g2]
    exact ⟨trivial, g3, trivial, h.bad (gv_4 _ _)⟩
