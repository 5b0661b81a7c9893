theorem st_undo : St_undo Sim := by
  intro I J w h
  have hB := h.1.2.2.2.2.2.2.1
  have hP := h.1.2.2.2.2.2.2.2.1
  obtain ⟨n0, n1, n2, n3, n4⟩ := hP.nums
  generalize (I 24 0).toNatClampNeg = a at n0 n1
  generalize (I 24 2).toNatClampNeg = n at n2 n3
  simp only [ok_X10_undo, m_X10_undo, f_X10_undo, f_X5_takeBack, m_X5_takeBack, ok_X5_takeBack, u0_X5_takeBack, ok_X11_undo, m_X11_undo, f_X11_undo, u0_X11_undo, f_X11_isNot, opv_eq]
  by_cases q : I 24 0 = 0
  · have g20 : m_X11_good (st2 I 0 7 6) 65 20 = 0 := by rw [m_good, st2_o _ _ _ (by omega), st2_o _ _ _ (by omega), st7_row _ _ (by omega), n4, q]
    simp only [if_pos q, g20, if_true, if_false, Bool.false_eq_true]
    exact ⟨trivial, trivial, trivial, h.badB (by decide)⟩
  · have ha : 0 < a := by
      rcases Nat.eq_zero_or_pos a with z | z
      · rw [z] at n0; exact absurd n0 q
      · exact z
    have hc : ¬ I 0 4 = 0 := by
      intro z
      have := (h.1.2.2.2.2.2.2.2.2.2.1 z).2.2.1
      rw [n4] at this
      exact q this
    have en : nI n + 16 - 1 - (nI n + 16 - 1) / 16 * 16 = nI ((n + 15) % 16) := by
      rw [show nI n + 16 - 1 = nI (n + 15) from by rw [show nI n + 16 = nI (n + 15 + 1) from nI_add n 16, nI_pred]]
      exact pk_rem (d := 16) (by omega) (by omega) (by omega)
    have ea : nI a - 1 = nI (a - 1) := pk_sub (b := 1) (by omega)
    simp only [if_neg q, n2, en, wi15 I (show (n + 15) % 16 ≤ 15 by omega), nI_clamp (show (n + 15) % 16 < 2 ^ 31 by omega), rt_25 ((n + 15) % 16) (by omega), m_copy, sz_25, if_true]
    rw [vu_o _ _ (show (24 : Nat) ≠ 23 by omega), n0, ea]
    generalize hK : st2 (st2 (st2 (va_up I 23 (cpy (I 23) (I (27 + (n + 15) % 16)))) 24 2 (nI ((n + 15) % 16))) 24 0 (nI (a - 1))) 0 7 0 = K
    have Kx : ∀ x, x ≠ 0 → x ≠ 23 → x ≠ 24 → K x = I x := by
      intro x x1 x2 x3
      rw [← hK, st2_orow _ _ _ x1, st2_orow _ _ _ x3, st2_orow _ _ _ x3, vu_o _ _ x2]
    have G : ∀ x, x ≠ 65 → m_X11_good K x = K x := fun x hx => good_row K hx
    have g20 : m_X11_good K 65 20 = nI a := by rw [m_good, st2_o _ _ _ (by omega), st2_o _ _ _ (by omega), Kx 65 (by omega) (by omega) (by omega), n4, n0]
    have nz : ¬ nI a = 0 := nI_ne0 ha (by omega)
    rw [g20, if_neg nz, if_neg nz, if_neg nz, ea, show (7 : Int32) * nI (a - 1) = nI (7 * (a - 1)) from pk_mul 7 (a - 1)]
    have mc := m_cp (a := 71) (b := 70) (s := 7 * (a - 1)) (d := 0) (n := 7) (st2 (m_X11_good K) 65 20 (nI (a - 1))) (by omega) (by omega) (by omega)
    rw [show nI 0 = 0 from rfl, show nI 7 = 7 from rfl, st2_orow _ _ _ (by omega), st2_orow _ _ _ (by omega), G 71 (by omega), G 70 (by omega), Kx 71 (by omega) (by omega) (by omega), Kx 70 (by omega) (by omega) (by omega)] at mc
    refine ⟨⟨vp_in_nI (by omega) (by omega), by omega⟩, cp_ok (s := 7 * (a - 1)) (d := 0) (n := 7) _ (by rw [sz_71]; omega) (by rw [sz_70]; omega) (by rw [sz_71]; omega) (by rw [sz_70]; omega), rfl, ?_⟩
    rw [mc]
    generalize hM : va_up (st2 (m_X11_good K) 65 20 (nI (a - 1))) 70 (fun j => if 0 ≤ j ∧ j < 0 + 7 then I 71 (7 * (a - 1) + (j - 0)) else I 70 j) = M
    have Mx : ∀ x, x ≠ 70 → x ≠ 65 → M x = K x := by
      intro x x1 x2
      rw [← hM, vu_o _ _ x1, st2_orow _ _ _ x2, G _ x2]
    have K24 : ∀ j, j ≠ 0 → j ≠ 2 → K 24 j = I 24 j := by
      intro j j1 j2
      rw [← hK, st2_orow _ _ _ (by omega), st2_o _ _ _ j1, st2_o _ _ _ j2, vu_o _ _ (by omega)]
    have K240 : K 24 0 = nI (a - 1) := by rw [← hK, st2_orow _ _ _ (by omega), st2_s]
    have K242 : K 24 2 = nI ((n + 15) % 16) := by rw [← hK, st2_orow _ _ _ (by omega), st2_o _ _ _ (by omega), st2_s]
    have K23 : K 23 = cpy (I 23) (I (27 + (n + 15) % 16)) := by rw [← hK, st2_orow _ _ _ (by omega), st2_orow _ _ _ (by omega), st2_orow _ _ _ (by omega), vu_s]
    have K07 : K 0 7 = 0 := by rw [← hK, st2_s]
    have M11 : M 65 11 = 0 := by rw [← hM, vu_o _ _ (by omega), st2_o _ _ _ (by omega), m_good, st2_s]
    have M20 : M 65 20 = nI (a - 1) := by rw [← hM, vu_o _ _ (by omega), st2_s]
    have M70 : ∀ j, M 70 j = if 0 ≤ j ∧ j < 0 + 7 then I 71 (7 * (a - 1) + (j - 0)) else I 70 j := by intro j; rw [← hM, vu_s]
    have fK : Fk kr I K := by
      rw [← hK]
      exact ((((Fk.refl kr I).up (fun j => rfl)).st rfl).st rfl).st rfl
    have fM : Fk kr K M := by
      rw [← hM, m_good]
      exact ((((Fk.refl kr K).st rfl).st rfl).st rfl).up (fun j => rfl)
    refine ⟨h.1.acted hc (fK.trans fM) ?_ ?_, ?_, ?_⟩
    · rw [Mx 23 (by omega) (by omega), K23]
      have old := hP.get n0 n2 n1 n3 0 ha
      rw [Nat.sub_zero, Nat.sub_zero] at old
      refine br_congr old (fun j hj => if_pos hj) (fun j hj => ?_)
      rw [M70, if_pos (by omega), Nat.sub_zero]
    · refine PR_of (a := a - 1) (n := (n + 15) % 16) (by rw [Mx 24 (by omega) (by omega)]; exact K240) M20 (by rw [Mx 24 (by omega) (by omega)]; exact K242) (by omega) (by omega) (fun d hd => ?_)
      have old := hP.get n0 n2 n1 n3 (d + 1) (by omega)
      rw [show 27 + ((n + 15) % 16 + 15 - d) % 16 = 27 + (n + 15 - (d + 1)) % 16 by omega, Mx _ (by omega) (by omega), Kx _ (by omega) (by omega) (by omega), Mx 71 (by omega) (by omega), Kx 71 (by omega) (by omega) (by omega), show a - 1 - 1 - d = a - 1 - (d + 1) by omega]
      exact old
    · rw [Mx 0 (by omega) (by omega), K07, M11]
    · rw [Mx 0 (by omega) (by omega), K07]
      intro z
      exact absurd z (by decide)
theorem Core.imaged {I M : Mm} {w : Bool} (h : Core I w) (hc : ¬ I 0 4 = 0) (he : Fk ki I M) (hI : IR M (I 68)) : Core M w := by
  have row : ∀ a, (∀ j, ki a j = true) → M a = I a := fun a ha => funext fun j => he a j (ha j)
  have e68 := row 68 (fun _ => rfl)
  have e1 := row 1 (fun _ => rfl)
  have e66 := row 66 (fun _ => rfl)
  have e23 := row 23 (fun _ => rfl)
  have e70 := row 70 (fun _ => rfl)
  have e71 := row 71 (fun _ => rfl)
  have e59 := row 59 (fun _ => rfl)
  have told : ∀ a, 3 ≤ a → a ≤ 22 → a ≠ 12 → a ≠ 13 → M a = I a := by
    intro a h1 h2 h3 h4
    refine row a fun j => ?_
    have e := kq_row (kp_told h1 h2 h3 h4) (by omega) (by omega) j
    unfold ki
    rw [if_neg (by omega), e]
    have n24 : (a == 24) = false := by simp; omega
    have n72 : (a == 72) = false := by simp; omega
    have n65 : (a == 65) = false := by simp; omega
    simp [n24, n72, n65]
  have bms : ∀ a, 27 ≤ a → a ≤ 42 → M a = I a := by
    intro a h1 h2
    refine row a fun j => ?_
    have e0 : kp a j = true := by
      unfold kp
      rw [if_neg (by omega), if_neg (by omega), if_neg (by omega)]
      have : 14 ≤ a := by omega
      have : a ≤ 45 := by omega
      simp [*]
    have n0 : (a == 0) = false := by simp; omega
    have n24 : (a == 24) = false := by simp; omega
    have n72 : (a == 72) = false := by simp; omega
    have n65 : (a == 65) = false := by simp; omega
    unfold ki
    rw [if_neg (by omega)]
    simp [kq, e0, n0, n24, n72, n65]
  have a1 : M 0 1 = I 0 1 := he 0 1 rfl
  have a4 : M 0 4 = I 0 4 := he 0 4 rfl
  have a5 : M 0 5 = I 0 5 := he 0 5 rfl
  have m2 : M 65 2 = I 65 2 := he 65 2 rfl
  have m9 : M 65 9 = I 65 9 := he 65 9 rfl
  have m14 : M 65 14 = I 65 14 := he 65 14 rfl
  have m20 : M 65 20 = I 65 20 := he 65 20 rfl
  have m34 : M 65 34 = I 65 34 := he 65 34 rfl
  have m51 : M 51 0 = I 51 0 := he 51 0 rfl
  have p0 : M 24 0 = I 24 0 := he 24 0 rfl
  have p2 : M 24 2 = I 24 2 := he 24 2 rfl
  have k0 : M 58 0 = I 58 0 := he 58 0 rfl
  have k4 : M 58 4 = I 58 4 := he 58 4 rfl
  obtain ⟨h1, h2, h3, h4, h5, h6, h7, h8, h9, h10, h11, h12⟩ := h
  refine ⟨by rw [e68]; exact h1, by rw [e68]; exact h2.congr told, ?_, by rw [a4, m14]; exact h4, by unfold TP; rw [a1, m2, e1, e66]; exact h5, by rw [a5, m9]; exact h6, by rw [e68, e23, e70]; exact h7, ?_, by rw [e68]; exact hI, fun z => absurd (by rw [← a4]; exact z) hc, by unfold MK; rw [e68, k0, k4, e59]; exact h11, by rw [m34, m51]; exact h12⟩
  · unfold DR
    rcases dr_or w with q | q
    · rw [q] at h3 ⊢
      rw [told (3 + 1) (by omega) (by omega) (by omega) (by omega), told (3 + 3) (by omega) (by omega) (by omega) (by omega), told (3 + 5) (by omega) (by omega) (by omega) (by omega), told (3 + 7) (by omega) (by omega) (by omega) (by omega)]
      exact h3
    · rw [q] at h3 ⊢
      rw [told (14 + 1) (by omega) (by omega) (by omega) (by omega), told (14 + 3) (by omega) (by omega) (by omega) (by omega), told (14 + 5) (by omega) (by omega) (by omega) (by omega), told (14 + 7) (by omega) (by omega) (by omega) (by omega)]
      exact h3
  · unfold PR
    rw [p0, p2, m20, e68, e71]
    refine ⟨h8.1, h8.2.1, h8.2.2.1, fun d hd => ?_⟩
    rw [bms _ (by omega) (by omega)]
    exact h8.2.2.2 d hd
theorem st_image : St_image Sim := by
  intro I J w h
  have hB := h.1.2.2.2.2.2.2.1
  have hI := h.1.2.2.2.2.2.2.2.2.1
  have i1 := bw_nI (hi := 3) hI.2.1
  have i2 := hI.2.2
  have i3 := hI.1
  generalize (I 24 1).toNatClampNeg = k at i1 i2
  simp only [ok_X10_image, m_X10_image, f_X10_image, u0_X10_image, u1_X10_image, f_X5_paint, m_X5_paint, ok_X5_paint, ok_X11_image, m_X11_image, f_X11_image, opv_eq, cr, m_refused, f_no, f_X10_refuse, m_X10_refuse]
  by_cases q : gv (I 0 4) true = 0
  · have qc := (gv_t q).1
    simp only [q, if_true]
    rw [st7_row _ _ (show (24 : Nat) ≠ 0 by omega), i1.1]
    by_cases z : k < 3
    · have z1 : nI k < 3 := nI_lt (b := 3) z (by omega)
      have z2 : ¬ nI k = 3 := by
        show ¬ nI k = nI 3
        rw [nI_eq (by omega) (by omega)]
        omega
      have z3 : ¬ nI k + 1 - 1 = -1 := by
        rw [nI_1, nI_pred, fa_eq, nI_toInt (by omega), tim1]
        omega
      simp only [if_pos z1, nI_clamp (show k < 2 ^ 31 by omega), rt_26 k z, m_copy, sz_26]
      rw [vu_o _ _ (show (24 : Nat) ≠ 43 + k by omega), st7_row _ _ (show (24 : Nat) ≠ 0 by omega), st7_row _ _ (show (23 : Nat) ≠ 0 by omega), st7_row _ _ (show 43 + k ≠ 0 by omega), i1.1, if_neg z3, if_neg z3, nI_1]
      generalize hK : st2 (va_up (st2 I 0 7 0) (43 + k) (cpy (I (43 + k)) (I 23))) 24 1 (nI (k + 1)) = K
      have Kx : ∀ x, x ≠ 0 → x ≠ 43 + k → x ≠ 24 → K x = I x := by
        intro x x1 x2 x3
        rw [← hK, st2_orow _ _ _ x3, vu_o _ _ x2, st7_row _ _ x1]
      have G : ∀ x, x ≠ 65 → m_X11_good K x = K x := fun x hx => good_row K hx
      have g21 : m_X11_good K 65 21 = nI k := by rw [m_good, st2_o _ _ _ (by omega), st2_o _ _ _ (by omega), Kx 65 (by omega) (by omega) (by omega), ← i3, i1.1]
      have g14 : m_X11_good K 65 14 = I 0 4 := by rw [good_14, Kx 65 (by omega) (by omega) (by omega), h.hc]
      rw [g14, g21, if_neg qc, if_neg qc, if_neg qc, if_neg z2, if_neg z2, if_neg z2, show (7 : Int32) * nI k = nI (7 * k) from pk_mul 7 k]
      have mc := m_cp (a := 70) (b := 72) (s := 0) (d := 7 * k) (n := 7) (m_X11_good K) (by omega) (by omega) (by omega)
      rw [show nI 0 = 0 from rfl, show nI 7 = 7 from rfl, G 72 (by omega), G 70 (by omega), Kx 72 (by omega) (by omega) (by omega), Kx 70 (by omega) (by omega) (by omega)] at mc
      rw [mc, vu_o _ _ (show (65 : Nat) ≠ 72 by omega), g21, nI_1]
      refine ⟨⟨vp_in_nI (by omega) (by omega), by omega⟩, cp_ok (s := 0) (d := 7 * k) (n := 7) _ (by rw [sz_70]; omega) (by rw [sz_72]; omega) (by rw [sz_70]; omega) (by rw [sz_72]; omega), rfl, ?_⟩
      generalize hM : st2 (va_up (m_X11_good K) 72 (fun j => if 7 * k ≤ j ∧ j < 7 * k + 7 then I 70 (0 + (j - 7 * k)) else I 72 j)) 65 21 (nI (k + 1)) = M
      have Mx : ∀ x, x ≠ 72 → x ≠ 65 → M x = K x := by
        intro x x1 x2
        rw [← hM, st2_orow _ _ _ x2, vu_o _ _ x1, G _ x2]
      have K241 : K 24 1 = nI (k + 1) := by rw [← hK, st2_s]
      have Kk : K (43 + k) = cpy (I (43 + k)) (I 23) := by rw [← hK, st2_orow _ _ _ (by omega), vu_s]
      have K07 : K 0 7 = 0 := by rw [← hK, st2_orow _ _ _ (by omega), vu_o _ _ (by omega), st2_s]
      have M11 : M 65 11 = 0 := by rw [← hM, st2_o _ _ _ (by omega), vu_o _ _ (by omega), m_good, st2_s]
      have M21 : M 65 21 = nI (k + 1) := by rw [← hM, st2_s]
      have M72 : ∀ j, M 72 j = if 7 * k ≤ j ∧ j < 7 * k + 7 then I 70 (0 + (j - 7 * k)) else I 72 j := by intro j; rw [← hM, st2_orow _ _ _ (by omega), vu_s]
      have fK : Fk ki I K := by
        rw [← hK]
        refine (((Fk.refl ki I).st rfl).up (fun j => ?_)).st rfl
        unfold ki
        rw [if_pos (by omega)]
      have fM : Fk ki K M := by
        rw [← hM, m_good]
        exact ((((Fk.refl ki K).st rfl).st rfl).up (fun j => rfl)).st rfl
      refine ⟨h.1.imaged qc (fK.trans fM) ?_, ?_, ?_⟩
      · unfold IR
        rw [Mx 24 (by omega) (by omega), K241, M21, nI_clamp (by omega)]
        refine ⟨rfl, bw_of (lo := 0) (hi := 3) (by omega) (by omega) (by omega), fun d hd => ?_⟩
        rw [Mx (43 + d) (by omega) (by omega)]
        by_cases y : d = k
        · subst y
          rw [Kk]
          refine br_congr hB (fun j hj => if_pos hj) (fun j hj => ?_)
          show M 72 (7 * d + j) = I 70 j
          rw [M72, if_pos (by omega)]
          congr 1
          omega
        · rw [Kx (43 + d) (by omega) (by omega) (by omega)]
          refine br_congr (i2 d (by omega)) (fun j hj => rfl) (fun j hj => ?_)
          show M 72 (7 * d + j) = I 72 (7 * d + j)
          rw [M72, if_neg (by omega)]
      · rw [Mx 0 (by omega) (by omega), K07, M11]
      · rw [Mx 0 (by omega) (by omega), K07]
        intro z
        exact absurd z (by decide)
    · have z0 : k = 3 := by omega
      subst z0
      have z1 : ¬ nI 3 < 3 := by decide
      simp only [if_neg z1, if_true]
      have g21 : m_X11_good (st2 I 0 7 3) 65 21 = 3 := by rw [m_good, st2_o _ _ _ (by omega), st2_o _ _ _ (by omega), st7_row _ _ (by omega), ← i3, i1.1]; rfl
      simp only [st2_st2, h.g14, g21, if_neg qc, if_true]
      exact ⟨trivial, trivial, trivial, h.bad (by decide)⟩
  · obtain ⟨qc, g1⟩ := gvn q
    simp only [if_neg q, h.g14, if_pos qc]
    rw [g1]
    exact ⟨trivial, trivial, trivial, h.bad (by decide)⟩
theorem st_back : St_back Sim := by
  intro I J w x1 h
  have hB := h.1.2.2.2.2.2.2.1
  have hP := h.1.2.2.2.2.2.2.2.1
  obtain ⟨-, -, n2, n3, -⟩ := hP.nums
  have hI := h.1.2.2.2.2.2.2.2.2.1
  have i1 := bw_nI (hi := 3) hI.2.1
  have i2 := hI.2.2
  have i3 := hI.1
  have hz := h.1.2.2.2.2.2.2.2.2.2.1
  generalize hk0 : (I 24 1).toNatClampNeg = k at i1 i2
  have ef : f_X5_recall I x1 23 = inb x1 0 (nI k - 1) := by
    rw [f_X5_recall, opv_eq, i1.1]
    unfold inb
    by_cases q : x1 < 0
    · rw [if_pos q, if_pos q]
    · rw [if_neg q, if_neg q]
      have e : (nI k - 1).toInt = (k : Int) - 1 := by rw [fb_subI (by rw [nI_toInt (by omega), ti1]; omega) (by rw [nI_toInt (by omega), ti1]; omega), nI_toInt (by omega), ti1]
      rw [fa_lt, ti0] at q
      by_cases y : nI k ≤ x1
      · rw [if_pos y, if_pos (by rw [fa_le, nI_toInt (by omega)] at y; rw [fa_lt, e]; omega)]
      · rw [if_neg y, if_neg (show ¬ nI k - 1 < x1 by rw [fa_le, nI_toInt (by omega)] at y; rw [fa_lt, e]; omega), if_pos (show x1 < 3 by rw [fa_le, nI_toInt (by omega)] at y; rw [fa_lt, ti3]; omega)]
  simp only [ok_X10_back, m_X10_back, f_X10_back, u0_X10_back, ok_X11_back, m_X11_back, f_X11_back, f_X11_isNot, opv_eq, cl, m_lacks, f_in, ef]
  by_cases q : inb x1 0 (nI k - 1) = true
  · obtain ⟨i, hi, rfl⟩ := inb_cnt (y := nI k) rfl (by omega) q
    have hc : ¬ I 0 4 = 0 := by
      intro z
      have := (hz z).2.2.2
      rw [← i3, i1.1] at this
      exact nI_ne0 (by omega) (by omega) this
    have m1 : m_X5_recall I (nI i) 23 = st2 (va_up I 23 (cpy (I 23) (I (43 + i)))) 24 0 0 ∧ ok_X5_recall I (nI i) 23 := by
      rw [m_X5_recall, ok_X5_recall, opv_eq, opv_eq, if_neg (nI_pos (by omega)), if_neg (nI_pos (by omega)), i1.1, if_neg (nI_ge hi (by omega)), if_neg (nI_ge hi (by omega)), if_pos (show nI i < 3 from nI_lt (b := 3) (by omega) (by omega)), if_pos (show nI i < 3 from nI_lt (b := 3) (by omega) (by omega)), nI_clamp (by omega), rt_26 i (by omega), m_copy, sz_26]
      exact ⟨rfl, vp_in_nI (by omega) (by omega), by omega⟩
    have e4 : m_X5_recall I (nI i) 23 0 4 = I 0 4 := by rw [m1.1, st2_orow _ _ _ (by omega), vu_o _ _ (by omega)]
    have l0 : lv (I 0 4) (inb (nI i) 0 (nI k - 1)) = 0 := by unfold lv; rw [if_neg hc, if_pos q]
    rw [e4, if_pos l0, l0, m1.1]
    generalize hK : st2 (st2 (va_up I 23 (cpy (I 23) (I (43 + i)))) 24 0 0) 0 7 0 = K
    have Kx : ∀ x, x ≠ 0 → x ≠ 23 → x ≠ 24 → K x = I x := by
      intro x x1 x2 x3
      rw [← hK, st2_orow _ _ _ x1, st2_orow _ _ _ x3, vu_o _ _ x2]
    have G : ∀ x, x ≠ 65 → m_X11_good K x = K x := fun x hx => good_row K hx
    have g21 : m_X11_good K 65 21 = nI k := by rw [m_good, st2_o _ _ _ (by omega), st2_o _ _ _ (by omega), Kx 65 (by omega) (by omega) (by omega), ← i3, i1.1]
    rw [g21, if_pos q, if_pos q, if_pos q, show (7 : Int32) * nI i = nI (7 * i) from pk_mul 7 i]
    have mc := m_cp (a := 72) (b := 70) (s := 7 * i) (d := 0) (n := 7) (m_X11_good K) (by omega) (by omega) (by omega)
    rw [show nI 0 = 0 from rfl, show nI 7 = 7 from rfl, G 72 (by omega), G 70 (by omega), Kx 72 (by omega) (by omega) (by omega), Kx 70 (by omega) (by omega) (by omega)] at mc
    rw [mc]
    refine ⟨m1.2, cp_ok (s := 7 * i) (d := 0) (n := 7) _ (by rw [sz_72]; omega) (by rw [sz_70]; omega) (by rw [sz_72]; omega) (by rw [sz_70]; omega), rfl, ?_⟩
    generalize hM : st2 (va_up (m_X11_good K) 70 (fun j => if 0 ≤ j ∧ j < 0 + 7 then I 72 (7 * i + (j - 0)) else I 70 j)) 65 20 0 = M
    have Mx : ∀ x, x ≠ 70 → x ≠ 65 → M x = K x := by
      intro x x1 x2
      rw [← hM, st2_orow _ _ _ x2, vu_o _ _ x1, G _ x2]
    have K240 : K 24 0 = 0 := by rw [← hK, st2_orow _ _ _ (by omega), st2_s]
    have K242 : K 24 2 = I 24 2 := by rw [← hK, st2_orow _ _ _ (by omega), st2_o _ _ _ (by omega), vu_o _ _ (by omega)]
    have K23 : K 23 = cpy (I 23) (I (43 + i)) := by rw [← hK, st2_orow _ _ _ (by omega), st2_orow _ _ _ (by omega), vu_s]
    have K07 : K 0 7 = 0 := by rw [← hK, st2_s]
    have M11 : M 65 11 = 0 := by rw [← hM, st2_o _ _ _ (by omega), vu_o _ _ (by omega), m_good, st2_s]
    have M20 : M 65 20 = 0 := by rw [← hM, st2_s]
    have M70 : ∀ j, M 70 j = if 0 ≤ j ∧ j < 0 + 7 then I 72 (7 * i + (j - 0)) else I 70 j := by intro j; rw [← hM, st2_orow _ _ _ (by omega), vu_s]
    have fK : Fk kr I K := by
      rw [← hK]
      exact (((Fk.refl kr I).up (fun j => rfl)).st rfl).st rfl
    have fM : Fk kr K M := by
      rw [← hM, m_good]
      exact ((((Fk.refl kr K).st rfl).st rfl).up (fun j => rfl)).st rfl
    refine ⟨h.1.acted hc (fK.trans fM) ?_ ?_, ?_, ?_⟩
    · rw [Mx 23 (by omega) (by omega), K23]
      refine br_congr (i2 i hi) (fun j hj => if_pos hj) (fun j hj => ?_)
      rw [M70, if_pos (by omega), Nat.sub_zero]
    · exact PR_of (a := 0) (n := (I 24 2).toNatClampNeg) (by rw [Mx 24 (by omega) (by omega)]; exact K240) M20 (by rw [Mx 24 (by omega) (by omega), K242]; exact n2) (by omega) n3 (fun d hd => by omega)
    · rw [Mx 0 (by omega) (by omega), K07, M11]
    · rw [Mx 0 (by omega) (by omega), K07]
      intro z
      exact absurd z (by decide)
  · have m1 : m_X5_recall I x1 23 = I ∧ ok_X5_recall I x1 23 := by
      rw [m_X5_recall, ok_X5_recall, opv_eq, opv_eq]
      rw [← ef, f_X5_recall, opv_eq] at q
      by_cases q1 : x1 < 0
      · rw [if_pos q1, if_pos q1]; exact ⟨rfl, trivial⟩
      · rw [if_neg q1] at q ⊢
        rw [if_neg q1]
        by_cases q2 : I 24 1 ≤ x1
        · rw [if_pos q2, if_pos q2]; exact ⟨rfl, trivial⟩
        · rw [if_neg q2] at q ⊢
          rw [if_neg q2]
          by_cases q3 : x1 < 3
          · rw [if_pos q3] at q; exact absurd rfl q
          · rw [if_neg q3, if_neg q3]; exact ⟨rfl, trivial⟩
    have l1 : lv (I 0 4) (inb x1 0 (nI k - 1)) = 1 := by
      unfold lv
      by_cases z : I 0 4 = 0
      · rw [if_pos z]
      · rw [if_neg z, if_neg q]
    have g21 : m_X11_good (st2 I 0 7 1) 65 21 = nI k := by rw [m_good, st2_o _ _ _ (by omega), st2_o _ _ _ (by omega), st7_row _ _ (by omega), ← i3, i1.1]
    rw [m1.1, l1, g21, if_neg q, if_neg q, if_neg q]
    exact ⟨m1.2, trivial, rfl, h.badB (by decide)⟩
