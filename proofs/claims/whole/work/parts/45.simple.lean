theorem ifl {α : Type} (h : Int32) (b : Bool) (A B : α) : (if h = 0 then A else (if b = true then B else A)) = (if lv h b = 0 then B else A) := by
  unfold lv
  by_cases q : h = 0
  · simp [q]
  · cases b <;> simp [q]
theorem cl {α : Type} (I : Mm) (b : Bool) (A B : α) : (if f_X10_lacks I b = true then A else B) = (if lv (I 0 4) b = 0 then B else A) := by
  rw [f_lacks]
  by_cases q : lv (I 0 4) b = 0
  · simp [q]
  · have : (lv (I 0 4) b == 0) = false := by simp [q]
    rw [this, if_neg q]; rfl
theorem cr {α : Type} (I : Mm) (b : Bool) (A B : α) : (if f_X10_refused I b = true then A else B) = (if gv (I 0 4) b = 0 then B else A) := by
  rw [f_refused]
  by_cases q : gv (I 0 4) b = 0
  · simp [q]
  · have : (gv (I 0 4) b == 0) = false := by simp [q]
    rw [this, if_neg q]; rfl
theorem ifg {α : Type} (h : Int32) (b : Bool) (A B C : α) : (if h = 0 then A else (if b = true then B else C)) = (if gv h b = 0 then B else (if gv h b = 1 then A else C)) := by
  unfold gv
  by_cases q : h = 0
  · simp [q]
  · cases b <;> simp [q]
theorem ifg2 {α : Type} (h : Int32) (b c : Bool) (A B C : α) : (if h = 0 then A else (if b = true then (if c = true then B else C) else C)) = (if gv h (b && c) = 0 then B else (if gv h (b && c) = 1 then A else C)) := by
  unfold gv
  by_cases q : h = 0
  · simp [q]
  · cases b <;> cases c <;> simp [q]
theorem gv_no (h : Int32) (b : Bool) (I : Mm) (q : ¬ gv h b = 0) : (if gv h b = 1 then (m_X11_no I 1) else (m_X11_no I 2)) = m_X11_no I (gv h b) := by
  unfold gv at *
  by_cases q0 : h = 0
  · simp [q0]
  · cases b
    · simp [q0]
    · simp [q0] at q
theorem gvt (h : Int32) : gv h true = lv h true := by
  unfold gv lv
  simp
theorem gv_t {h : Int32} {b : Bool} (q : gv h b = 0) : ¬ h = 0 ∧ b = true := by
  unfold gv at q
  by_cases q0 : h = 0
  · rw [if_pos q0] at q; exact absurd q (by decide)
  · rw [if_neg q0] at q
    cases b
    · exact absurd q (by decide)
    · exact ⟨q0, rfl⟩
theorem lv_t {h : Int32} {b : Bool} (q : lv h b = 0) : ¬ h = 0 ∧ b = true := by
  unfold lv at q
  by_cases q0 : h = 0
  · rw [if_pos q0] at q; exact absurd q (by decide)
  · rw [if_neg q0] at q
    cases b
    · exact absurd q (by decide)
    · exact ⟨q0, rfl⟩
theorem lv_n {h : Int32} {b : Bool} (q : ¬ lv h b = 0) : lv h b = 1 := by
  unfold lv at *
  by_cases q0 : h = 0
  · rw [if_pos q0]
  · rw [if_neg q0] at *
    cases b
    · rfl
    · exact absurd rfl q
theorem inb_nI {x : Int32} {lo hi : Nat} (hh : hi < 2 ^ 31) (h : inb x (nI lo) (nI hi) = true) (hl : lo ≤ hi) : ∃ n, lo ≤ n ∧ n ≤ hi ∧ x = nI n := by
  unfold inb at h
  by_cases q1 : x < nI lo
  · rw [if_pos q1] at h; cases h
  · rw [if_neg q1] at h
    by_cases q2 : nI hi < x
    · rw [if_pos q2] at h; cases h
    · rw [fa_lt, nI_toInt (by omega)] at q1 q2
      have e := clampN (x := x) (by omega)
      have i := clampI (x := x) (by omega)
      exact ⟨x.toNatClampNeg, by omega, by omega, e⟩
theorem st7_row (I : Mm) (v : Int32) {a : Nat} (h : a ≠ 0) : st2 I 0 7 v a = I a := st2_orow _ _ _ h
theorem Core.t {I : Mm} {w : Bool} (h : Core I w) : I (td w) 1 = I 68 0 ∧ I (td w) 2 = I 68 1 ∧ I (td w) 3 = I 68 2 ∧ I (td w) 4 = I 68 3 ∧ I (td w) 5 = I 68 4 ∧ I (rt (td w) 7) 3 = I 68 5 ∧ I (rt (td w) 8) 3 = I 68 6 ∧ I (rt (td w) 9) 3 = I 68 7 ∧ I (td w) 6 = I 68 8 ∧ I (rt (td w) 10) 3 = I 68 9 := by
  obtain ⟨hb, hT, -⟩ := h
  obtain ⟨ht, g0, g1, g2, g3, g4, g5, g6, hv, hp, hs, hd⟩ := hT
  rw [rt_7 ht, rt_8 ht, rt_9 ht, rt_10 ht]
  refine ⟨g1, g2, g3, g4, g5, ?_, ?_, ?_, g6, ?_⟩
  · rw [hv.2.2.1, ← hb.nV.1]
  · rw [hp.2.2.1, ← hb.nP.1]
  · rw [hs.2.2.1, ← hb.nS.1]
  · rw [hd.2.2.1, ← hb.nD.1]
theorem st_size : St_size Sim := by
  intro I J w x1 h
  have hT := h.1.t
  obtain ⟨t0, t1, t2, t3, t4, t5, t6, t7, t8, t9⟩ := hT
  have hB := h.1.2.2.2.2.2.2.1
  have hc := h.1.2.2.2.1
  have hz := h.1.2.2.2.2.2.2.2.2.2.1
  have hpr := h.1.2.2.2.2.2.2.2.1.1
  have hir := h.1.2.2.2.2.2.2.2.2.1.1
  have htp := h.1.2.2.2.2.1.1
  have e68 : (st2 I 65 0 0) 68 = I 68 := st2_orow _ _ _ (by omega)
  refine ⟨trivial, ?_, ?_, ?_⟩
  · rw [ok_X11_size, opv_eq, f_in]
    split
    · trivial
    · split
      · trivial
      · split
        · rename_i q
          obtain ⟨n, -, h2, rfl⟩ := inb_nI (lo := 0) (hi := 9) (by omega) q (by omega)
          rw [sz_68]
          exact vp_in_nI (by omega) (by omega)
        · trivial
  · simp only [f_X10_size, f_X11_size, u0_X11_size, u1_X11_size, opv_eq, f_in, e68]
    rw [t0, t1, t2, t3, t4, t5, t6, t7, t8, t9, ← hir, ← hpr, ← htp, ← hc.1, ← hB.2.2.2.2.2.2.1]
    have z : ∀ j, j < 10 → I 0 4 = 0 → I 68 j = 0 := fun j hj q => (hz q).1 j hj
    have z4 : I 0 4 = 0 → I 23 6 = 0 := fun q => by rw [hB.2.2.2.2.2.2.1]; exact (hz q).2.1
    have z20 : I 0 4 = 0 → I 24 0 = 0 := fun q => by rw [hpr]; exact (hz q).2.2.1
    have z21 : I 0 4 = 0 → I 24 1 = 0 := fun q => by rw [hir]; exact (hz q).2.2.2
    rcases pk_ix x1 (n := 14) (by omega) with q | q | ⟨j, hj, rfl⟩
    · have ne : ∀ k : Nat, k < 2 ^ 31 → ¬ x1 = nI k := by
        intro k hk e
        subst e
        exact nI_pos hk q
      have i9 : inb x1 0 9 = false := by unfold inb; rw [if_pos q]
      have i12 : inb x1 0 12 = false := by unfold inb; rw [if_pos q]
      rw [i9, i12]
      rw [if_neg (show ¬ x1 = 0 from ne 0 (by omega)), if_neg (show ¬ x1 = 1 from ne 1 (by omega)), if_neg (show ¬ x1 = 2 from ne 2 (by omega)), if_neg (show ¬ x1 = 3 from ne 3 (by omega)), if_neg (show ¬ x1 = 4 from ne 4 (by omega)), if_neg (show ¬ x1 = 5 from ne 5 (by omega)), if_neg (show ¬ x1 = 6 from ne 6 (by omega)), if_neg (show ¬ x1 = 7 from ne 7 (by omega)), if_neg (show ¬ x1 = 8 from ne 8 (by omega)), if_neg (show ¬ x1 = 9 from ne 9 (by omega)), if_neg (show ¬ x1 = 10 from ne 10 (by omega)), if_neg (show ¬ x1 = 11 from ne 11 (by omega)), if_neg (show ¬ x1 = 12 from ne 12 (by omega)), if_neg (show ¬ x1 = 13 from ne 13 (by omega)), if_neg (show ¬ x1 = 13 from ne 13 (by omega))]
      simp only [if_neg (show ¬ x1 = 10 from ne 10 (by omega)), if_neg (show ¬ x1 = 11 from ne 11 (by omega)), if_neg (show ¬ x1 = 12 from ne 12 (by omega)), if_neg (show ¬ x1 = 13 from ne 13 (by omega)), Bool.false_eq_true, if_false, ite_self]
    · have ne : ∀ k : Nat, k < 14 → ¬ x1 = nI k := by
        intro k hk e
        subst e
        exact nI_ge hk (by omega) q
      have qq : (14 : Int) ≤ x1.toInt := by
        rw [fa_le, nI_toInt (by omega)] at q; exact q
      have i9 : inb x1 0 9 = false := by unfold inb; rw [if_neg (by rw [fa_lt, ti0]; omega), if_pos (by rw [fa_lt, ti9]; omega)]
      have i12 : inb x1 0 12 = false := by unfold inb; rw [if_neg (by rw [fa_lt, ti0]; omega), if_pos (by rw [fa_lt, show (12 : Int32).toInt = 12 from by decide]; omega)]
      rw [i9, i12]
      rw [if_neg (show ¬ x1 = 0 from ne 0 (by omega)), if_neg (show ¬ x1 = 1 from ne 1 (by omega)), if_neg (show ¬ x1 = 2 from ne 2 (by omega)), if_neg (show ¬ x1 = 3 from ne 3 (by omega)), if_neg (show ¬ x1 = 4 from ne 4 (by omega)), if_neg (show ¬ x1 = 5 from ne 5 (by omega)), if_neg (show ¬ x1 = 6 from ne 6 (by omega)), if_neg (show ¬ x1 = 7 from ne 7 (by omega)), if_neg (show ¬ x1 = 8 from ne 8 (by omega)), if_neg (show ¬ x1 = 9 from ne 9 (by omega)), if_neg (show ¬ x1 = 10 from ne 10 (by omega)), if_neg (show ¬ x1 = 11 from ne 11 (by omega)), if_neg (show ¬ x1 = 12 from ne 12 (by omega)), if_neg (show ¬ x1 = 13 from ne 13 (by omega)), if_neg (show ¬ x1 = 13 from ne 13 (by omega))]
      simp only [if_neg (show ¬ x1 = 10 from ne 10 (by omega)), if_neg (show ¬ x1 = 11 from ne 11 (by omega)), if_neg (show ¬ x1 = 12 from ne 12 (by omega)), if_neg (show ¬ x1 = 13 from ne 13 (by omega)), Bool.false_eq_true, if_false, ite_self]
    · have hj2 : j = 0 ∨ j = 1 ∨ j = 2 ∨ j = 3 ∨ j = 4 ∨ j = 5 ∨ j = 6 ∨ j = 7 ∨ j = 8 ∨ j = 9 ∨ j = 10 ∨ j = 11 ∨ j = 12 ∨ j = 13 := by omega
      by_cases qc : I 0 4 = 0
      · have y0 := z 0 (by omega) qc
        have y1 := z 1 (by omega) qc
        have y2 := z 2 (by omega) qc
        have y3 := z 3 (by omega) qc
        have y4 := z 4 (by omega) qc
        have y5 := z 5 (by omega) qc
        have y6 := z 6 (by omega) qc
        have y7 := z 7 (by omega) qc
        have y8 := z 8 (by omega) qc
        have y9 := z 9 (by omega) qc
        have y10 := z4 qc
        have y11 := z20 qc
        have y12 := z21 qc
        rw [y0, y1, y2, y3, y4, y5, y6, y7, y8, y9, y10, y11, y12, if_pos qc]
        rcases hj2 with rfl | rfl | rfl | rfl | rfl | rfl | rfl | rfl | rfl | rfl | rfl | rfl | rfl | rfl <;> rfl
      · rw [if_neg qc]
        rcases hj2 with rfl | rfl | rfl | rfl | rfl | rfl | rfl | rfl | rfl | rfl | rfl | rfl | rfl | rfl <;> rfl
  · rw [m_X11_size, opv_eq]
    exact h.stay (Fr.refl I) (fr_0 I)
theorem sz_70 : sz 70 = 7 := by decide +kernel
theorem sz_73 : sz 73 = 7 := by decide +kernel
theorem sz_78 : sz 78 = 7 := by decide +kernel
theorem who_ok (I : Mm) {a : Nat} (h : sz a = 7) : ok_X11_whoOf I a := by
  rw [ok_X11_whoOf, opv_eq, h]
  exact ⟨vp_in_nI (n := 2) (by omega) (by omega), vp_in_nI (n := 0) (by omega) (by omega), vp_in_nI (n := 0) (by omega) (by omega)⟩
theorem Sim.hc {I : Mm} {J : Nat → Nat → Int64} {w : Bool} (h : Sim I J w) : I 65 14 = I 0 4 := h.1.2.2.2.1.1.symm
theorem st_beam : St_beam Sim := by
  intro I J w x1 h
  have hB := h.1.2.2.2.2.2.2.1
  have e1 : m_X10_beam I x1 = st2 I 0 7 (lv (I 0 4) (inb x1 0 5)) := by rw [m_X10_beam, opv_eq, m_lacks, f_within]
  have g70 : ∀ v, m_X11_good (st2 I 0 7 v) 70 = I 70 := fun v => by rw [good_row _ (by omega), st7_row _ _ (by omega)]
  have g14 : ∀ v, m_X11_good (st2 I 0 7 v) 65 14 = I 0 4 := fun v => by rw [good_14, st7_row _ _ (by omega), h.hc]
  refine ⟨trivial, ?_, ?_, ?_⟩
  · rw [ok_X11_beam, opv_eq]
    split
    · trivial
    · split
      · split
        · trivial
        · split
          · trivial
          · split
            · exact who_ok _ sz_70
            · trivial
      · trivial
  · rw [e1, f_X10_beam, opv_eq, f_X11_beam, opv_eq, cl]
    simp only [f_in, f_no, f_whoOf, f_whoIs, g70, g14, f_within, m_lacks]
    rw [ifl]
    split
    · rename_i q
      simp only [st7_row _ _ (show (23 : Nat) ≠ 0 by omega)]
      rw [hB.1, hB.2.1, hB.2.2.2.1, hB.2.2.2.2.2.1, hB.who, f_X0_pullOfDamp, opv_eq, f_X11_towards, opv_eq]
    · rfl
  · rw [e1, m_X11_beam, opv_eq]
    simp only [f_in, g14]
    rw [ifl]
    refine h.done (v := lv (I 0 4) (inb x1 0 5)) (Fr.refl _) ?_ (lv_4 _ _)
    split
    · rename_i q
      rw [q]
      exact fr_good _
    · rename_i q
      rw [lv_n q]
      exact fr_no _ _
theorem holds_in (I : Mm) {c : Nat} {y : Int32} (x : Int32) (h : I c 3 = y) (hy : bw y 0 100) : f_X7_holds I c x = inb x 0 (y - 1) := by
  rw [f_X7_holds, opv_eq, u0_X7_holds, opv_eq, h, inb]
  have := hy.1; have := hy.2
  have e : (y - 1).toInt = y.toInt - 1 := by rw [fb_subI (by rw [ti1]; omega) (by rw [ti1]; omega), ti1]
  by_cases q : x < 0
  · rw [if_pos q, if_pos q]
  · rw [if_neg q, if_neg q]
    by_cases q2 : y ≤ x
    · rw [if_pos q2, if_pos]
      rw [fa_le] at q2
      rw [fa_lt, e]
      omega
    · rw [if_neg q2, if_neg]
      rw [fa_le] at q2
      rw [fa_lt, e]
      omega
theorem inb_cnt {x : Int32} {y : Int32} {n : Nat} (hy : y = nI n) (hn : n ≤ 100) (h : inb x 0 (y - 1) = true) : ∃ k, k < n ∧ x = nI k := by
  subst hy
  unfold inb at h
  by_cases q : x < 0
  · rw [if_pos q] at h; cases h
  · rw [if_neg q] at h
    by_cases q2 : nI n - 1 < x
    · rw [if_pos q2] at h; cases h
    · have e : (nI n - 1).toInt = n - 1 := by
        rw [fb_subI (by rw [ti1, nI_toInt (by omega)]; omega) (by rw [ti1, nI_toInt (by omega)]; omega), ti1, nI_toInt (by omega)]
      rw [fa_lt, e] at q2
      rw [fa_lt, ti0] at q
      have e2 := clampN (x := x) (by omega)
      have i := clampI (x := x) (by omega)
      exact ⟨x.toNatClampNeg, by omega, e2⟩
theorem RB.b5 {r : Vc} (h : RB r) : bw (r 5) 0 100 := ⟨h.2.2.2.2.2.1.1, by have := h.2.2.2.2.2.1.2; omega⟩
theorem RB.b6 {r : Vc} (h : RB r) : bw (r 6) 0 100 := ⟨h.2.2.2.2.2.2.1.1, by have := h.2.2.2.2.2.2.1.2; omega⟩
theorem RB.b8 {r : Vc} (h : RB r) : bw (r 8) 0 100 := ⟨h.2.2.2.2.2.2.2.2.1.1, by have := h.2.2.2.2.2.2.2.2.1.2; omega⟩
theorem RB.b9 {r : Vc} (h : RB r) : bw (r 9) 0 100 := ⟨h.2.2.2.2.2.2.2.2.2.1.1, by have := h.2.2.2.2.2.2.2.2.2.1.2; omega⟩
theorem ifl2 {α : Type} (h : Int32) (b c : Bool) (A B : α) : (if (if h = 0 then false else (if b = true then true else false)) = true then (if c = true then B else A) else A) = (if lv h (if b = true then (if c = true then true else false) else false) = 0 then B else A) := by
  unfold lv
  by_cases q : h = 0
  · simp [q]
  · cases b <;> cases c <;> simp [q]
theorem ifl3 {α : Type} (h : Int32) (b c : Bool) (A B : α) : (if h = 0 then A else (if b = true then (if c = true then B else A) else A)) = (if lv h (if b = true then (if c = true then true else false) else false) = 0 then B else A) := by
  unfold lv
  by_cases q : h = 0
  · simp [q]
  · cases b <;> cases c <;> simp [q]
theorem two_t {b c : Bool} (h : (if b = true then (if c = true then true else false) else false) = true) : b = true ∧ c = true := by
  cases b <;> cases c <;> simp at h ⊢
theorem st_vent : St_vent Sim := by
  intro I J w x1 x2 h
  have hB := h.1.2.2.2.2.2.2.1
  have hb := h.1.1
  have hT := h.1.2.1
  have t5 := h.1.t.2.2.2.2.2.1
  have hv := hT.2.2.2.2.2.2.2.2.1
  have e0 : u0_X10_vent I w x1 x2 = (if inb x1 0 (I 68 5 - 1) = true then (if inb x2 0 3 = true then true else false) else false) := by
    rw [u0_X10_vent, opv_eq, holds_in I x1 t5 hb.b5, f_within]
  have e1 : m_X10_vent I w x1 x2 = st2 I 0 7 (lv (I 0 4) (u0_X10_vent I w x1 x2)) := by rw [m_X10_vent, opv_eq, m_lacks]
  have g68 : ∀ v, m_X11_good (st2 I 0 7 v) 68 = I 68 := fun v => by rw [good_row _ (by omega), st7_row _ _ (by omega)]
  have g70 : ∀ v, m_X11_good (st2 I 0 7 v) 70 = I 70 := fun v => by rw [good_row _ (by omega), st7_row _ _ (by omega)]
  have g14 : ∀ v, m_X11_good (st2 I 0 7 v) 65 14 = I 0 4 := fun v => by rw [good_14, st7_row _ _ (by omega), h.hc]
  have eV : ∀ v, f_X11_isVent (m_X11_good (st2 I 0 7 v)) x1 = (if I 0 4 = 0 then false else (if inb x1 0 (I 68 5 - 1) = true then true else false)) := by
    intro v
    rw [f_X11_isVent, opv_eq, u0_X11_isVent, opv_eq, f_in, g68, g14]
  refine ⟨trivial, ?_, ?_, ?_⟩
  · rw [e1, ok_X11_vent, opv_eq]
    rw [eV, f_in, ifl2]
    by_cases q : lv (I 0 4) (if inb x1 0 (I 68 5 - 1) = true then (if inb x2 0 3 = true then true else false) else false) = 0
    · rw [if_pos q]
      obtain ⟨qa, qb⟩ := two_t (lv_t q).2
      obtain ⟨k, hk, rfl⟩ := inb_cnt hb.nV.1 (by have := hb.nV.2; omega) qa
      obtain ⟨n, -, hn, rfl⟩ := inb_nI (lo := 0) (hi := 3) (by omega) qb (by omega)
      split
      · trivial
      · exact in13 (by have := hb.nV.2; omega) (by omega)
    · rw [if_neg q]
      trivial
  · rw [e1, f_X10_vent, opv_eq, f_X11_vent, opv_eq, cl, eV, f_in, f_no, ifl2, e0]
    by_cases q : lv (I 0 4) (if inb x1 0 (I 68 5 - 1) = true then (if inb x2 0 3 = true then true else false) else false) = 0
    · rw [if_pos q, if_pos q]
      obtain ⟨qa, qb⟩ := two_t (lv_t q).2
      obtain ⟨k, hk, rfl⟩ := inb_cnt hb.nV.1 (by have := hb.nV.2; omega) qa
      obtain ⟨n, -, hn, rfl⟩ := inb_nI (lo := 0) (hi := 3) (by omega) qb (by omega)
      have hnv := hb.nV.2
      rw [u1_X10_vent, opv_eq, u0_X11_vent, opv_eq, g70, g68, m_lacks]
      by_cases q3 : n = 3
      · subst q3
        rw [if_pos (show nI 3 = 3 from rfl), if_pos (show (3 : Int32) ≤ nI 3 from by decide), bit_val _ (by omega), f_X0_isOpen, opv_eq, u0_X0_isOpen, opv_eq, st7_row _ _ (by omega), hB.2.2.2.2.1]
        by_cases y : bt (I 70 3) k = true
        · rw [if_pos ((bit_at _ (by omega)).mpr y), if_pos rfl, if_pos y]
        · rw [if_neg (fun z => y ((bit_at _ (by omega)).mp z)), if_neg (by simp), if_neg y]
      · have h3 : ¬ nI n = 3 := by
          show ¬ nI n = nI 3
          rw [nI_eq (by omega) (by omega)]
          exact q3
        rw [if_neg h3, if_neg (show ¬ (3 : Int32) ≤ nI n from nI_ge (b := 3) (by omega) (by omega)), ix13a (by omega) (by omega), rt_7 hT.1]
        have hv2 := (hT.st (a := 0) (j := 7) (x := lv (I 0 4) (u0_X10_vent I w (nI k) (nI n))) (by omega)).2.2.2.2.2.2.2.2.1
        rw [cell_in hv2 (by omega) hk (by omega)]
        congr 1
        omega
    · rw [if_neg q, if_neg q]
  · rw [e1, m_X11_vent, opv_eq, eV, f_in, ifl2]
    refine h.done (v := lv (I 0 4) (u0_X10_vent I w x1 x2)) (Fr.refl _) ?_ (lv_4 _ _)
    rw [← e0]
    split
    · rename_i q
      rw [q]
      exact fr_good _
    · rename_i q
      rw [lv_n q]
      exact fr_no _ _
theorem st_goes : St_goes Sim := by
  intro I J w x1 h
  have hB := h.1.2.2.2.2.2.2.1
  have e1 : m_X10_goes I x1 = st2 I 0 7 (gv (I 0 4) (inb x1 0 100)) := by rw [m_X10_goes, opv_eq, m_refused, f_within]
  have g68 : ∀ v, m_X11_good (st2 I 0 7 v) 68 = I 68 := fun v => by rw [good_row _ (by omega), st7_row _ _ (by omega)]
  have g70 : ∀ v, m_X11_good (st2 I 0 7 v) 70 = I 70 := fun v => by rw [good_row _ (by omega), st7_row _ _ (by omega)]
  have g14 : ∀ v, m_X11_good (st2 I 0 7 v) 65 14 = I 0 4 := fun v => by rw [good_14, st7_row _ _ (by omega), h.hc]
  refine ⟨trivial, trivial, ?_, ?_⟩
  · rw [e1, f_X10_goes, opv_eq, u0_X10_goes, opv_eq, cr, f_X11_goes, opv_eq, u0_X11_goes, opv_eq, f_why, f_no, g14, g68, g70, f_within, m_refused]
    split
    · rename_i q
      rw [f_X0_reach, opv_eq, u0_X0_reach, opv_eq, st7_row _ _ (by omega), f_X11_stepOf, opv_eq, u0_X11_stepOf, opv_eq]
      have := (step_eq (damp := x1) (oil := I 23 3) (wood := I 23 2) hB.2.2.2.2.2.2.2.2.2.1).1
      unfold creach mstep at this
      rw [this, hB.2.2.2.1, hB.2.2.1]
    · rfl
  · rw [e1, m_X11_goes, opv_eq, u1_X11_goes, opv_eq, f_why, g14]
    refine h.done (v := gv (I 0 4) (inb x1 0 100)) (Fr.refl _) ?_ (gv_4 _ _)
    split
    · rename_i q
      rw [q]
      exact fr_good _
    · exact fr_no _ _
theorem towards_small : ∀ d, d < 101 → mbound ((nI d - 50) / 10) = (nI d - 50) / 10 := by decide +kernel
theorem stays_loop {I1 I2 : Mm} {wood : Int32} (h0 : I1 23 0 = I2 70 0) (h3 : I1 23 3 = I2 70 2) (h2 : I1 23 2 = I2 68 0) (ba : bw (I2 70 0) (-9) 9) (bo : bw (I2 70 2) 0 3) : ∀ (c j : Nat) (l1 l2 : Int32), j + c = 101 → (l1 = -1 ∨ bw l1 0 100) → lp_X10_stays_16 I1 (c + 1) l1 l2 (nI j) = lp_X11_stays_23 I2 (c + 1) l1 l2 (nI j) ∧ ((lp_X11_stays_23 I2 (c + 1) l1 l2 (nI j)).1 = -1 ∨ bw (lp_X11_stays_23 I2 (c + 1) l1 l2 (nI j)).1 0 100) := by
  intro c
  induction c with
  | zero =>
    intro j l1 l2 hj hl
    have : j = 101 := by omega
    subst this
    rw [lp_X10_stays_16, lp_X11_stays_23, if_pos (by decide), if_pos (by decide)]
    exact ⟨rfl, hl⟩
  | succ c ih =>
    intro j l1 l2 hj hl
    have q : ¬ (100 : Int32) < nI j := nI_nlt (b := j) (a := 100) (by omega) (by omega)
    rw [lp_X10_stays_16, lp_X11_stays_23, if_neg q, if_neg q, nI_1]
    have key : (f_X0_turned I1 23 (f_X0_pullOfDamp I1 (nI j)) (nI j) = I1 23 0) ↔ (f_X11_nearer I2 (I2 70 0) (f_X11_towards I2 (nI j)) (f_X11_stepOf I2 (nI j) (I2 70 2) (I2 68 0)) = I2 70 0) := by
      have s := step_eq (damp := nI j) (oil := I2 70 2) (wood := I2 68 0) bo
      have n := near_eq (a := I2 70 0) (p := (nI j - 50) / 10) ba s.2
      rw [towards_small j (by omega)] at n
      have e1 : f_X0_turned I1 23 (f_X0_pullOfDamp I1 (nI j)) (nI j) = cturn (I2 70 0) ((nI j - 50) / 10) (creach (nI j) (I2 70 2) (I2 68 0)) := by
        simp only [f_X0_turned, f_X0_reach, u0_X0_reach, f_X0_pullOfDamp, opv_eq, h0, h3, h2]
        rfl
      have e2 : f_X11_nearer I2 (I2 70 0) (f_X11_towards I2 (nI j)) (f_X11_stepOf I2 (nI j) (I2 70 2) (I2 68 0)) = mnear (I2 70 0) ((nI j - 50) / 10) (mstep (nI j) (I2 70 2) (I2 68 0)) := by
        simp only [f_X11_nearer, u0_X11_nearer, f_X11_stepOf, u0_X11_stepOf, f_X11_towards, opv_eq]
        rfl
      rw [e1, e2, s.1, n.1, h0]
    have k1 : u0_X10_stays I1 l1 (nI j) = u0_X11_stays I2 l1 (nI j) ∧ (u0_X11_stays I2 l1 (nI j) = -1 ∨ bw (u0_X11_stays I2 l1 (nI j)) 0 100) := by
      rw [u0_X10_stays, opv_eq, u0_X11_stays, opv_eq]
      by_cases y : f_X0_turned I1 23 (f_X0_pullOfDamp I1 (nI j)) (nI j) = I1 23 0
      · rw [if_pos y, if_pos (key.mp y)]
        rcases hl with z | z
        · subst z
          rw [if_pos rfl, if_neg (by decide)]
          exact ⟨rfl, Or.inr (bw_of (lo := 0) (hi := 100) (by omega) (by omega) (by omega))⟩
        · have z1 : ¬ l1 = -1 := by
            rw [fa_eq, tim1]
            have := z.1
            omega
          rw [if_neg z1, if_pos (by rw [fa_le, ti0]; exact z.1)]
          exact ⟨rfl, Or.inr z⟩
      · rw [if_neg y, if_neg (fun x => y (key.mpr x))]
        exact ⟨rfl, hl⟩
    have k2 : u1_X10_stays I1 l2 (nI j) = u1_X11_stays I2 l2 (nI j) := by
      rw [u1_X10_stays, opv_eq, u1_X11_stays, opv_eq]
      by_cases y : f_X0_turned I1 23 (f_X0_pullOfDamp I1 (nI j)) (nI j) = I1 23 0
      · rw [if_pos y, if_pos (key.mp y)]
      · rw [if_neg y, if_neg (fun x => y (key.mpr x))]
    rw [k1.1, k2]
    exact ih (j + 1) _ _ (by omega) k1.2
theorem st_stays : St_stays Sim := by
  intro I J w h
  have hB := h.1.2.2.2.2.2.2.1
  have e1 : m_X10_stays I = st2 I 0 7 (gv (I 0 4) true) := by rw [m_X10_stays, opv_eq, m_refused]
  have g68 : ∀ v, m_X11_good (st2 I 0 7 v) 68 = I 68 := fun v => by rw [good_row _ (by omega), st7_row _ _ (by omega)]
  have g70 : ∀ v, m_X11_good (st2 I 0 7 v) 70 = I 70 := fun v => by rw [good_row _ (by omega), st7_row _ _ (by omega)]
  have g14 : ∀ v, m_X11_good (st2 I 0 7 v) 65 14 = I 0 4 := fun v => by rw [good_14, st7_row _ _ (by omega), h.hc]
  have key : ∀ v, lp_X10_stays_16 (st2 I 0 7 v) (101 + 1) (-1) (-1) (nI 0) = lp_X11_stays_23 (m_X11_good (st2 I 0 7 v)) (101 + 1) (-1) (-1) (nI 0) ∧ _ := fun v => stays_loop (wood := 0) (by rw [g70, st7_row _ _ (by omega), hB.1]) (by rw [g70, st7_row _ _ (by omega), hB.2.2.2.1]) (by rw [g68, st7_row _ _ (by omega), hB.2.2.1]) (by rw [g70, ← hB.1]; exact hB.2.2.2.2.2.2.2.1) (by rw [g70, ← hB.2.2.2.1]; exact hB.2.2.2.2.2.2.2.2.2.1) 101 0 (-1) (-1) (by omega) (Or.inl rfl)
  have mu : mu_le 100 0 + 1 = 101 + 1 := by
    rw [show mu_le 100 0 = mu_le (nI 100) (nI 0) from rfl, mu_le_nI (by omega) (by omega)]
  refine ⟨trivial, trivial, ?_, ?_⟩
  · rw [e1, f_X10_stays, opv_eq, cr, f_X11_stays, opv_eq, g14, f_no, u2_X10_stays, opv_eq, u2_X11_stays, opv_eq, m_refused, mu]
    by_cases q : I 0 4 = 0
    · have g : gv (I 0 4) true = 1 := by unfold gv; rw [if_pos q]
      rw [g, if_neg (by decide), if_pos q]
    · have g : gv (I 0 4) true = 0 := by unfold gv; rw [if_neg q, if_pos rfl]
      have k1 : lp_X10_stays_16 (st2 I 0 7 0) (101 + 1) (-1) (-1) 0 = lp_X11_stays_23 (m_X11_good (st2 I 0 7 0)) (101 + 1) (-1) (-1) 0 := (key 0).1
      have k2 : (lp_X11_stays_23 (m_X11_good (st2 I 0 7 0)) (101 + 1) (-1) (-1) 0).1 = -1 ∨ bw (lp_X11_stays_23 (m_X11_good (st2 I 0 7 0)) (101 + 1) (-1) (-1) 0).1 0 100 := (key 0).2
      rw [g, if_pos rfl, if_neg q, k1]
      rcases k2 with z | z
      · rw [z, if_pos rfl, if_neg (by decide)]
      · rw [if_neg (by rw [fa_eq, tim1]; have := z.1; omega), if_pos (by rw [fa_le, ti0]; exact z.1)]
  · rw [e1, m_X11_stays, opv_eq, g14]
    refine h.done (v := gv (I 0 4) true) (Fr.refl _) ?_ (gv_4 _ _)
    by_cases q : I 0 4 = 0
    · rw [if_pos q, gv, if_pos q]
      exact fr_no _ _
    · rw [if_neg q, gv, if_neg q, if_pos rfl]
      exact fr_good _
