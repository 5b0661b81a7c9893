/-! ===== fields ===== -/
theorem l_field {I M : Mm} {J : Nat → Nat → Int64} {N p k : Nat} {w : Bool} (h : At I J M N p) (h6 : M 65 6 = 2) (ls : LSt I J (M 69) (dr w) k) (hv : (M 69 8).toNatClampNeg < 6) (h11 : M 69 11 = 1) : ok_X6_readField I J w ∧ ok_X11_fieldLine M ∧ Co (dr w) I (m_X6_readField I J w) ∧ Fk kml M (m_X11_fieldLine M) ∧ Res (f_X6_readField I J w) (m_X6_readField I J w) (j_X6_readField I J w) (m_X11_fieldLine M) N p (dr w) := by
  have nx := at_ah h (by rw [h6]; decide)
  have e69 := krm_row nx.2.2.1 (a := 69) (by omega) (by omega)
  have h13 := h.2.1
  obtain ⟨hb, hT, hN, hU, hw1, hw2, hw3⟩ := ls
  have lV := hb.nV.2
  have lP := hb.nP.2
  have lF := hb.nF
  have hdr := dr_or w
  obtain ⟨n, en⟩ : ∃ n, n = (M 69 8).toNatClampNeg := ⟨_, rfl⟩
  rw [← en] at lF hv
  rw [ok_X6_readField, f_X6_readField, m_X6_readField, j_X6_readField, ok_X11_fieldLine, m_X11_fieldLine, opv_eq, opv_eq, opv_eq, opv_eq, opv_eq, opv_eq, if_pos h13, if_pos h13, u0_X11_fieldLine, opv_eq]
  have e6 : I (dr w) 6 = nI n := by rw [hT.2.2.2.2.2.2.2.1]; exact lF.1
  have ec : m_X11_next M 69 8 = nI n := by rw [e69]; exact lF.1
  rw [e6, ec]
  have hk : k < 16 := by have := hU.1; omega
  have s1 := w_newName (n := n) nx.1 J (by rw [e69]; exact hN) hk (by omega) (by rw [e69]; exact us_free hU (by omega) (by omega)) (x := nI n) (by rw [if_pos (by omega)])
  generalize m_X11_newName (m_X11_next M) (nI n) = M1 at *
  generalize m_X6_wantsNewName I J (nI n) = I1 at *
  generalize j_X6_wantsNewName I J (nI n) = J1 at *
  generalize f_X6_wantsNewName I J (nI n) = b1 at *
  obtain ⟨so1, so2, sf1, sf2, s1⟩ := s1
  have fM1 : Fk kml M M1 := nx.2.2.1.ml.trans sf2
  have co1 : Co (dr w) I I1 := Co.cn sf1
  rcases s1 with ⟨t1, ⟨p1, hp1, A1⟩, N1, R1, R2⟩ | ⟨t1, F1⟩
  · have rowd : ∀ a, a ≠ 2 → a ≠ 13 → I1 a = I a := fun a a1 a2 => funext fun j => sf1 a j (by unfold krn krc; simp [a1, a2])
    have ed6 : I1 (dr w) 6 = nI n := by rw [rowd _ (by omega) (by omega), e6]
    have m18 : M1 69 8 = nI n := by rw [R1 8 (by omega), ec]
    have y5 := (Xa.refl M1).st 8 (nI (n + 1))
    simp only [t1, if_true, if_pos A1.2.1]
    rw [ed6, m18, nI_1]
    obtain ⟨r', er'⟩ : ∃ X, X = st2 M1 69 8 (nI (n + 1)) 69 := ⟨_, rfl⟩
    have hq : r' 8 = nI (n + 1) := by rw [er', st2_s]
    have go : ∀ j, j ≠ 8 → r' j = M1 69 j := fun j hj => by rw [er', st2_o _ _ _ hj]
    have ho : ∀ j, j < 80 → j ≠ 8 → r' j = M 69 j := fun j h1 h2 => by rw [go j h2, R1 j h1, e69]
    refine ⟨so1, ⟨nx.2.1, so2⟩, ?_, fM1.trans y5.ml, Or.inl ⟨(by first | rfl | exact True.intro), ⟨p1, hp1, ?_⟩, ⟨k + 1, ?_⟩, ?_⟩⟩
    · exact co1.st (by omega) (by omega) (by omega)
    · refine (A1.cl ?_ ?_ ?_ ?_).mo (y5 65 (by omega)) (y5 66 (by omega)) (y5 67 (by omega))
      · rw [st2_a _ _ (by omega)]
      · rw [st2_a _ _ (by omega)]
      · rw [st2_orow _ _ _ (by omega)]
      · rw [st2_a _ _ (by omega)]
    · rw [← er']
      have hT0 := hT
      obtain ⟨z0, z1, z2, z3, z4, z5, z6, z7, _, _, _, _⟩ := hT0
      have sl : ∀ j, j ≠ 6 → st2 I1 (dr w) 6 (nI (n + 1)) (dr w) j = I (dr w) j := fun j hj => by rw [st2_o _ _ _ hj, rowd _ (by omega) (by omega)]
      refine ⟨rb_field hb en hv hq ho, tr_rows hT hb ⟨?_, ?_, ?_, ?_, ?_, ?_, ?_⟩ (fun j hj hj2 => ho j hj (by omega)) ?_, ?_, ⟨?_, ?_⟩, ?_, ?_, ?_⟩
      · rw [sl 0 (by omega), ho 10 (by omega) (by omega)]; exact z1
      · rw [sl 1 (by omega), ho 0 (by omega) (by omega)]; exact z2
      · rw [sl 2 (by omega), ho 1 (by omega) (by omega)]; exact z3
      · rw [sl 3 (by omega), ho 2 (by omega) (by omega)]; exact z4
      · rw [sl 4 (by omega), ho 3 (by omega) (by omega)]; exact z5
      · rw [sl 5 (by omega), ho 4 (by omega) (by omega)]; exact z6
      · rw [st2_s, hq]
      · intro x x1 x2
        rw [st2_orow _ _ _ (by omega)]
        exact rowd x (by omega) (by omega)
      · refine (N1.cl ?_ ?_ rfl).mo (fun j hj => go j (by omega))
        · rw [st2_a _ _ (by omega)]
        · rw [st2_orow _ _ _ (by omega)]
      · rw [hq, nI_clamp (by omega), ho 5 (by omega) (by omega), ho 6 (by omega) (by omega), hU.1]
        omega
      · intro m hm hno
        rw [hq, nI_clamp (by omega), ho 5 (by omega) (by omega), ho 6 (by omega) (by omega)] at hno
        rw [go (80 + m) (by omega), R2 m hm (by omega), e69]
        exact hU.2 m hm (by omega)
      · rw [st2_a _ _ (by omega), sf1 2 10 rfl, hw1, ho 12 (by omega) (by omega)]
      · rw [ho 12 (by omega) (by omega)]; exact hw2
      · rw [ho 11 (by omega) (by omega)]; exact hw3
    · rw [← er', ho 11 (by omega) (by omega)]; exact h11
  · have z : ¬ M1 65 13 = 0 := by rw [F1.1]; decide
    simp only [t1, if_neg (show ¬ false = true by decide), if_neg z]
    exact ⟨so1, ⟨nx.2.1, so2⟩, co1, fM1, Or.inr ⟨(by first | rfl | exact True.intro), F1⟩⟩
/-! ===== what was seen ===== -/
theorem tb_keep {I I' : Mm} {r : Vc} {c n w room off : Nat} (h : TB I r c n w room off) (h1 : I' c = I c) (h2 : ∀ j, j < n * w → I' (c + 1) j = I (c + 1) j) : TB I' r c n w room off := by
  obtain ⟨a, b, d, e, f, g, i⟩ := h
  exact ⟨by rw [h1]; exact a, by rw [h1]; exact b, by rw [h1]; exact d, e, f, g, fun j hj => by rw [h2 j hj]; exact i j hj⟩
theorem sawOn_lp {I : Mm} {r : Vc} {t n : Nat} (ht : t = 3 ∨ t = 14) (h : TB I r (t + 5) n 2 5 43) (x : Int32) : ∀ (k l f : Nat), l + k = n → k < f → (lp_X8_sawOn_2 I t x f (nI l) = true ↔ ∃ i, l ≤ i ∧ i < n ∧ r (43 + 2 * i) = x) := by
  have n5 : n ≤ 5 := h.2.2.2.1
  intro k
  induction k with
  | zero =>
    intro l f hl hf
    obtain ⟨f, rfl⟩ : ∃ g, f = g + 1 := ⟨f - 1, by omega⟩
    have z : nI n ≤ nI l := nI_le (by omega) (by omega)
    rw [lp_X8_sawOn_2, rt_9 ht, h.2.2.1, if_pos z]
    exact ⟨fun q => absurd q (by decide), fun ⟨i, h1, h2, _⟩ => absurd h2 (by omega)⟩
  | succ k ih =>
    intro l f hl hf
    obtain ⟨f, rfl⟩ : ∃ g, f = g + 1 := ⟨f - 1, by omega⟩
    have z : ¬ nI n ≤ nI l := nI_ge (by omega) (by omega)
    rw [lp_X8_sawOn_2, rt_9 ht, h.2.2.1, if_neg z, show (0 : Int32) = nI 0 from rfl, cell_in h (by omega) (by omega) (by omega), nI_1, show 43 + (l * 2 + 0) = 43 + 2 * l by omega]
    by_cases q : r (43 + 2 * l) = x
    · rw [if_pos q]
      exact ⟨fun _ => ⟨l, by omega, by omega, q⟩, fun _ => rfl⟩
    · rw [if_neg q, ih (l + 1) f (by omega) (by omega)]
      constructor
      · intro ⟨i, h1, h2, h3⟩
        exact ⟨i, by omega, h2, h3⟩
      · intro ⟨i, h1, h2, h3⟩
        refine ⟨i, ?_, h2, h3⟩
        by_cases e : i = l
        · exact absurd (by rw [e] at h3; exact h3) q
        · omega
theorem sawOn_eq {I : Mm} {r : Vc} {t n : Nat} (ht : t = 3 ∨ t = 14) (h : TB I r (t + 5) n 2 5 43) (x : Int32) : (f_X8_sawOn I t x = true ↔ ∃ i, i < n ∧ r (43 + 2 * i) = x) := by
  have n5 : n ≤ 5 := h.2.2.2.1
  have k := sawOn_lp ht h x n 0 (mu_up (I (rt t 9) 3) 0 + 1) (by omega) (by rw [rt_9 ht, h.2.2.1, show (0 : Int32) = nI 0 from rfl, mu_up_nI (by omega) (by omega)]; omega)
  rw [show nI 0 = (0 : Int32) from rfl] at k
  rw [f_X8_sawOn, opv_eq, k]
  exact ⟨fun ⟨i, _, h2, h3⟩ => ⟨i, h2, h3⟩, fun ⟨i, h2, h3⟩ => ⟨i, by omega, h2, h3⟩⟩
theorem i43 (n : Nat) : (43 + 2 * nI n : Int32) = nI (43 + 2 * n) := by rw [show (43 : Int32) = nI 43 from rfl, i2]
theorem sawL_x {M : Mm} {n : Nat} (h : M 65 13 = 1) (h7 : M 69 7 = nI n) (n5 : n ≤ 5) (x y : Int32) : ∀ (k l f : Nat), l + k = n → k < f → (lp_X11_sawLine_41 y x f (nI l) M).2 = M ∧ oklp_X11_sawLine_41 y x f (nI l) M := by
  have z13 : ¬ M 65 13 = 0 := by rw [h]; decide
  intro k
  induction k with
  | zero =>
    intro l f hl hf
    obtain ⟨f, rfl⟩ : ∃ g, f = g + 1 := ⟨f - 1, by omega⟩
    have z : nI n ≤ nI l := nI_le (by omega) (by omega)
    rw [lp_X11_sawLine_41, oklp_X11_sawLine_41, h7, if_pos z, if_pos z]
    exact ⟨rfl, True.intro⟩
  | succ k ih =>
    intro l f hl hf
    obtain ⟨f, rfl⟩ : ∃ g, f = g + 1 := ⟨f - 1, by omega⟩
    have z : ¬ nI n ≤ nI l := nI_ge (by omega) (by omega)
    rw [lp_X11_sawLine_41, oklp_X11_sawLine_41, h7, if_neg z, if_neg z, u0_X11_sawLine, opv_eq, if_neg z13, if_neg z13, nI_1]
    have kk := ih (l + 1) f (by omega) (by omega)
    exact ⟨kk.1, True.intro, kk.2⟩
theorem sawL {M : Mm} {n : Nat} (h : M 65 13 = 0) (h7 : M 69 7 = nI n) (n5 : n ≤ 5) (x y : Int32) : ∀ (k l f : Nat), l + k = n → k < f → ((∃ i, l ≤ i ∧ i < n ∧ M 69 (43 + 2 * i) = x) → (lp_X11_sawLine_41 y x f (nI l) M).2 = m_X11_wrong M 3 (M 65 4)) ∧ ((∀ i, l ≤ i → i < n → M 69 (43 + 2 * i) ≠ x) → (lp_X11_sawLine_41 y x f (nI l) M).2 = M) ∧ oklp_X11_sawLine_41 y x f (nI l) M := by
  intro k
  induction k with
  | zero =>
    intro l f hl hf
    obtain ⟨f, rfl⟩ : ∃ g, f = g + 1 := ⟨f - 1, by omega⟩
    have z : nI n ≤ nI l := nI_le (by omega) (by omega)
    rw [lp_X11_sawLine_41, oklp_X11_sawLine_41, h7, if_pos z, if_pos z]
    exact ⟨fun ⟨i, h1, h2, _⟩ => absurd h2 (by omega), fun _ => rfl, True.intro⟩
  | succ k ih =>
    intro l f hl hf
    obtain ⟨f, rfl⟩ : ∃ g, f = g + 1 := ⟨f - 1, by omega⟩
    have z : ¬ nI n ≤ nI l := nI_ge (by omega) (by omega)
    have v : vp_in (43 + 2 * nI l) (sz 69) := by rw [i43, sz_69]; exact vp_in_nI (by omega) (by omega)
    rw [lp_X11_sawLine_41, oklp_X11_sawLine_41, h7, if_neg z, if_neg z, u0_X11_sawLine, opv_eq, if_pos h, if_pos h, nI_1, i43, nI_clamp (by omega)]
    rw [i43] at v
    by_cases q : M 69 (43 + 2 * l) = x
    · rw [if_pos q]
      have w := r_wrong h 3 (M 65 4)
      have w13 : m_X11_wrong M 3 (M 65 4) 65 13 = 1 := by rw [w, st2_o _ _ _ (by omega), st2_o _ _ _ (by omega), st2_s]
      have w7 : m_X11_wrong M 3 (M 65 4) 69 7 = nI n := by rw [w, st2_a _ _ (by omega), st2_a _ _ (by omega), st2_a _ _ (by omega), h7]
      have kk := sawL_x w13 w7 n5 x y k (l + 1) f (by omega) (by omega)
      exact ⟨fun _ => kk.1, fun q2 => absurd q (q2 l (by omega) (by omega)), v, kk.2⟩
    · rw [if_neg q]
      have kk := ih (l + 1) f (by omega) (by omega)
      refine ⟨fun ⟨i, h1, h2, h3⟩ => kk.1 ⟨i, ?_, h2, h3⟩, fun q2 => kk.2.1 (fun i h1 h2 => q2 i (by omega) h2), v, kk.2.2⟩
      by_cases e : i = l
      · exact absurd (by rw [e] at h3; exact h3) q
      · omega
