/-! ===== one line, whichever it is ===== -/
theorem LSt.cl {I I' : Mm} {J J' : Nat → Nat → Int64} {r : Vc} {t k : Nat} (h : LSt I J r t k) (hf : Fk krc I I') (hj : JF J J') : LSt I' J' r t k := by
  obtain ⟨a, b, c, d, e, f, g⟩ := h
  exact ⟨a, b.congr (fun x h1 _ _ _ => krc_row hf (by omega)), c.cl (hf 2 14 rfl) (krc_row hf (by omega)) (hj.row (by omega)), d, by rw [hf 2 10 rfl]; exact e, f, g⟩
theorem isl_t {M : Mm} {s : Nat} {b : Bool} (h : f_X11_isWord M s = true) : f_X11_isLine M s b = true ∧ m_X11_isLine M s b = u1_X11_isLine M b := by
  rw [f_X11_isLine, m_X11_isLine, opv_eq, opv_eq, if_pos h, if_pos h]
  exact ⟨rfl, rfl⟩
theorem isl_f {M : Mm} {s : Nat} {b : Bool} (h : ¬ f_X11_isWord M s = true) : ¬ f_X11_isLine M s b = true ∧ m_X11_isLine M s b = M := by
  rw [f_X11_isLine, m_X11_isLine, opv_eq, opv_eq, if_neg h, if_neg h]
  exact ⟨by decide, rfl⟩
theorem isl_ok {M : Mm} {s : Nat} {b : Bool} (h : ok_X11_isWord M s) : ok_X11_isLine M s b := by rw [ok_X11_isLine, opv_eq]; exact h
theorem il_good {M : Mm} (h : M 69 11 = 1) : u1_X11_isLine M true = M := by
  rw [u1_X11_isLine, opv_eq, if_pos rfl, if_neg (by rw [h]; decide)]
theorem il_full {M : Mm} (h : M 69 11 = 1) (h13 : M 65 13 = 0) : u1_X11_isLine M false = m_X11_wrong M 5 (M 65 4) := by
  rw [u1_X11_isLine, opv_eq, if_neg (show ¬ false = true by decide), if_neg]
  rw [r_wrong h13, st2_a _ _ (by omega), st2_a _ _ (by omega), st2_a _ _ (by omega), h]
  decide
theorem il_first {M : Mm} (h : M 69 11 = 0) : u1_X11_isLine M true = m_X11_wrong M 6 (M 65 4) := by
  rw [u1_X11_isLine, opv_eq, if_pos rfl, if_pos h, u0_X11_isLine, opv_eq, if_pos rfl]
theorem x_ventLine {M : Mm} (h : M 65 13 = 1) : m_X11_ventLine M = M ∧ ok_X11_ventLine M := by
  have z : ¬ M 65 13 = 0 := by rw [h]; decide
  rw [m_X11_ventLine, ok_X11_ventLine, opv_eq, opv_eq, if_neg z, if_neg z]
  exact ⟨rfl, True.intro⟩
theorem x_planLine {M : Mm} (h : M 65 13 = 1) : m_X11_planLine M = M ∧ ok_X11_planLine M := by
  have z : ¬ M 65 13 = 0 := by rw [h]; decide
  rw [m_X11_planLine, ok_X11_planLine, opv_eq, opv_eq, if_neg z, if_neg z]
  exact ⟨rfl, True.intro⟩
theorem x_sawLine {M : Mm} (h : M 65 13 = 1) : m_X11_sawLine M = M ∧ ok_X11_sawLine M := by
  have z : ¬ M 65 13 = 0 := by rw [h]; decide
  rw [m_X11_sawLine, ok_X11_sawLine, opv_eq, opv_eq, if_neg z, if_neg z]
  exact ⟨rfl, True.intro⟩
theorem x_fieldLine {M : Mm} (h : M 65 13 = 1) : m_X11_fieldLine M = M ∧ ok_X11_fieldLine M := by
  have z : ¬ M 65 13 = 0 := by rw [h]; decide
  rw [m_X11_fieldLine, ok_X11_fieldLine, opv_eq, opv_eq, if_neg z, if_neg z]
  exact ⟨rfl, True.intro⟩
theorem x_ditchLine {M : Mm} (h : M 65 13 = 1) : m_X11_ditchLine M = M ∧ ok_X11_ditchLine M := by
  have z : ¬ M 65 13 = 0 := by rw [h]; decide
  rw [m_X11_ditchLine, ok_X11_ditchLine, opv_eq, opv_eq, if_neg z, if_neg z]
  exact ⟨rfl, True.intro⟩
theorem x_weatherLine {M : Mm} (h : M 65 13 = 1) : m_X11_weatherLine M = M ∧ ok_X11_weatherLine M := by
  have z : ¬ M 65 13 = 0 := by rw [h]; decide
  rw [m_X11_weatherLine, ok_X11_weatherLine, opv_eq, opv_eq, u0_X11_weatherLine, opv_eq, if_neg z, if_neg z, if_neg z]
  exact ⟨rfl, True.intro⟩
theorem weather_again {M : Mm} (h13 : M 65 13 = 0) (h : M 69 12 = 1) : m_X11_weatherLine M = m_X11_wrong M 3 (M 65 4) ∧ ok_X11_weatherLine M := by
  have z : ¬ m_X11_wrong M 3 (M 65 4) 65 13 = 0 := by rw [r_wrong h13, st2_o _ _ _ (by omega), st2_o _ _ _ (by omega), st2_s]; decide
  have y : ¬ M 69 12 ≤ 0 := by rw [h]; decide
  rw [m_X11_weatherLine, ok_X11_weatherLine, opv_eq, opv_eq, u0_X11_weatherLine, opv_eq, if_pos h13, if_neg y, if_neg z, if_neg z]
  exact ⟨rfl, True.intro⟩
theorem chalet_again {M : Mm} (h13 : M 65 13 = 0) (h : M 69 11 = 1) : m_X11_chaletLine M = m_X11_wrong M 3 (M 65 4) ∧ ok_X11_chaletLine M := by
  have z : ¬ m_X11_wrong M 3 (M 65 4) 65 13 = 0 := by rw [r_wrong h13, st2_o _ _ _ (by omega), st2_o _ _ _ (by omega), st2_s]; decide
  have y : ¬ M 69 11 ≤ 0 := by rw [h]; decide
  rw [m_X11_chaletLine, ok_X11_chaletLine, opv_eq, opv_eq, if_neg y, if_neg z, if_neg z]
  exact ⟨rfl, True.intro⟩
theorem rm_0 {M : Mm}  (q0 : f_X11_isWord M 0 = true) (o0 : ok_X11_isWord M 0) : m_X11_readLine M = m_X11_chaletLine M ∧ (ok_X11_chaletLine M → ok_X11_readLine M) := by
  rw [m_X11_readLine, ok_X11_readLine, opv_eq, opv_eq, u7_X11_readLine, opv_eq, if_pos q0, if_pos q0]
  exact ⟨rfl, fun z => ⟨o0, z⟩⟩
theorem rm_1 {M : Mm} (q0 : ¬ f_X11_isWord M 0 = true) (q1 : f_X11_isWord M 1 = true) (o0 : ok_X11_isWord M 0) (o1 : ok_X11_isWord M 1) : m_X11_readLine M = m_X11_weatherLine (u1_X11_isLine M true) ∧ (ok_X11_weatherLine (u1_X11_isLine M true) → ok_X11_readLine M) := by
  have i1 := isl_t (b := true) q1
  rw [m_X11_readLine, ok_X11_readLine, opv_eq, opv_eq, u7_X11_readLine, opv_eq]
  simp only [if_neg q0, if_pos i1.1, i1.2]
  exact ⟨(by first | exact True.intro | rfl), fun z => ⟨o0, isl_ok o1, z⟩⟩
theorem rm_2 {M : Mm} (q0 : ¬ f_X11_isWord M 0 = true) (q1 : ¬ f_X11_isWord M 1 = true) (q2 : f_X11_isWord M 2 = true) (o0 : ok_X11_isWord M 0) (o1 : ok_X11_isWord M 1) (o2 : ok_X11_isWord M 2) : m_X11_readLine M = m_X11_ventLine (u1_X11_isLine M (if 4 ≤ M 69 5 then false else true)) ∧ (ok_X11_ventLine (u1_X11_isLine M (if 4 ≤ M 69 5 then false else true)) → ok_X11_readLine M) := by
  have i1 := isl_f (b := true) q1
  have i2 := isl_t (b := (if 4 ≤ M 69 5 then false else true)) q2
  have e0 : u0_X11_readLine M = (if 4 ≤ M 69 5 then false else true) := by rw [u0_X11_readLine, opv_eq, i1.2]
  rw [m_X11_readLine, ok_X11_readLine, opv_eq, opv_eq, u7_X11_readLine, opv_eq]
  rw [u6_X11_readLine, opv_eq]
  simp only [if_neg q0, i1.2, e0, i2.2, if_neg i1.1, if_pos i2.1]
  exact ⟨(by first | exact True.intro | rfl), fun z => ⟨o0, isl_ok o1, isl_ok o2, z⟩⟩
theorem rm_3 {M : Mm} (q0 : ¬ f_X11_isWord M 0 = true) (q1 : ¬ f_X11_isWord M 1 = true) (q2 : ¬ f_X11_isWord M 2 = true) (q3 : f_X11_isWord M 3 = true) (o0 : ok_X11_isWord M 0) (o1 : ok_X11_isWord M 1) (o2 : ok_X11_isWord M 2) (o3 : ok_X11_isWord M 3) : m_X11_readLine M = m_X11_planLine (u1_X11_isLine M (if 6 ≤ M 69 6 then false else true)) ∧ (ok_X11_planLine (u1_X11_isLine M (if 6 ≤ M 69 6 then false else true)) → ok_X11_readLine M) := by
  have i1 := isl_f (b := true) q1
  have i2 := isl_f (b := (if 4 ≤ M 69 5 then false else true)) q2
  have i3 := isl_t (b := (if 6 ≤ M 69 6 then false else true)) q3
  have e0 : u0_X11_readLine M = (if 4 ≤ M 69 5 then false else true) := by rw [u0_X11_readLine, opv_eq, i1.2]
  have e1 : u1_X11_readLine M = (if 6 ≤ M 69 6 then false else true) := by rw [u1_X11_readLine, opv_eq, i1.2, e0, i2.2]
  have e2 : u2_X11_readLine M = u1_X11_isLine M (if 6 ≤ M 69 6 then false else true) := by rw [u2_X11_readLine, opv_eq, i1.2, e0, i2.2, e1, i3.2]
  rw [m_X11_readLine, ok_X11_readLine, opv_eq, opv_eq, u7_X11_readLine, opv_eq]
  simp only [if_neg q0, i1.2, e0, i2.2, e1, e2, if_neg i1.1, if_neg i2.1, if_pos i3.1]
  exact ⟨(by first | exact True.intro | rfl), fun z => ⟨o0, isl_ok o1, isl_ok o2, isl_ok o3, z⟩⟩
theorem rm_4 {M : Mm} (q0 : ¬ f_X11_isWord M 0 = true) (q1 : ¬ f_X11_isWord M 1 = true) (q2 : ¬ f_X11_isWord M 2 = true) (q3 : ¬ f_X11_isWord M 3 = true) (q4 : f_X11_isWord M 4 = true) (o0 : ok_X11_isWord M 0) (o1 : ok_X11_isWord M 1) (o2 : ok_X11_isWord M 2) (o3 : ok_X11_isWord M 3) (o4 : ok_X11_isWord M 4) : m_X11_readLine M = m_X11_sawLine (u1_X11_isLine M (if 5 ≤ M 69 7 then false else true)) ∧ (ok_X11_sawLine (u1_X11_isLine M (if 5 ≤ M 69 7 then false else true)) → ok_X11_readLine M) := by
  have i1 := isl_f (b := true) q1
  have i2 := isl_f (b := (if 4 ≤ M 69 5 then false else true)) q2
  have i3 := isl_f (b := (if 6 ≤ M 69 6 then false else true)) q3
  have i4 := isl_t (b := (if 5 ≤ M 69 7 then false else true)) q4
  have e0 : u0_X11_readLine M = (if 4 ≤ M 69 5 then false else true) := by rw [u0_X11_readLine, opv_eq, i1.2]
  have e1 : u1_X11_readLine M = (if 6 ≤ M 69 6 then false else true) := by rw [u1_X11_readLine, opv_eq, i1.2, e0, i2.2]
  have e2 : u2_X11_readLine M = M := by rw [u2_X11_readLine, opv_eq, i1.2, e0, i2.2, e1, i3.2]
  have e3 : u3_X11_readLine M = u1_X11_isLine M (if 5 ≤ M 69 7 then false else true) := by rw [u3_X11_readLine, opv_eq, e2, i4.2]
  rw [m_X11_readLine, ok_X11_readLine, opv_eq, opv_eq, u7_X11_readLine, opv_eq]
  simp only [if_neg q0, i1.2, e0, i2.2, e1, e2, e3, if_neg i1.1, if_neg i2.1, if_neg i3.1, if_pos i4.1]
  exact ⟨(by first | exact True.intro | rfl), fun z => ⟨o0, isl_ok o1, isl_ok o2, isl_ok o3, isl_ok o4, z⟩⟩
theorem rm_5 {M : Mm} (q0 : ¬ f_X11_isWord M 0 = true) (q1 : ¬ f_X11_isWord M 1 = true) (q2 : ¬ f_X11_isWord M 2 = true) (q3 : ¬ f_X11_isWord M 3 = true) (q4 : ¬ f_X11_isWord M 4 = true) (q5 : f_X11_isWord M 5 = true) (o0 : ok_X11_isWord M 0) (o1 : ok_X11_isWord M 1) (o2 : ok_X11_isWord M 2) (o3 : ok_X11_isWord M 3) (o4 : ok_X11_isWord M 4) (o5 : ok_X11_isWord M 5) : m_X11_readLine M = m_X11_fieldLine (u1_X11_isLine M (if 6 ≤ M 69 8 then false else true)) ∧ (ok_X11_fieldLine (u1_X11_isLine M (if 6 ≤ M 69 8 then false else true)) → ok_X11_readLine M) := by
  have i1 := isl_f (b := true) q1
  have i2 := isl_f (b := (if 4 ≤ M 69 5 then false else true)) q2
  have i3 := isl_f (b := (if 6 ≤ M 69 6 then false else true)) q3
  have i4 := isl_f (b := (if 5 ≤ M 69 7 then false else true)) q4
  have i5 := isl_t (b := (if 6 ≤ M 69 8 then false else true)) q5
  have e0 : u0_X11_readLine M = (if 4 ≤ M 69 5 then false else true) := by rw [u0_X11_readLine, opv_eq, i1.2]
  have e1 : u1_X11_readLine M = (if 6 ≤ M 69 6 then false else true) := by rw [u1_X11_readLine, opv_eq, i1.2, e0, i2.2]
  have e2 : u2_X11_readLine M = M := by rw [u2_X11_readLine, opv_eq, i1.2, e0, i2.2, e1, i3.2]
  have e3 : u3_X11_readLine M = M := by rw [u3_X11_readLine, opv_eq, e2, i4.2]
  have e4 : u4_X11_readLine M = u1_X11_isLine M (if 6 ≤ M 69 8 then false else true) := by rw [u4_X11_readLine, opv_eq, e3, i5.2]
  rw [m_X11_readLine, ok_X11_readLine, opv_eq, opv_eq, u7_X11_readLine, opv_eq]
  simp only [if_neg q0, i1.2, e0, i2.2, e1, e2, e3, e4, if_neg i1.1, if_neg i2.1, if_neg i3.1, if_neg i4.1, if_pos i5.1]
  exact ⟨(by first | exact True.intro | rfl), fun z => ⟨o0, isl_ok o1, isl_ok o2, isl_ok o3, isl_ok o4, isl_ok o5, z⟩⟩
theorem rm_6 {M : Mm} (q0 : ¬ f_X11_isWord M 0 = true) (q1 : ¬ f_X11_isWord M 1 = true) (q2 : ¬ f_X11_isWord M 2 = true) (q3 : ¬ f_X11_isWord M 3 = true) (q4 : ¬ f_X11_isWord M 4 = true) (q5 : ¬ f_X11_isWord M 5 = true) (q6 : f_X11_isWord M 6 = true) (o0 : ok_X11_isWord M 0) (o1 : ok_X11_isWord M 1) (o2 : ok_X11_isWord M 2) (o3 : ok_X11_isWord M 3) (o4 : ok_X11_isWord M 4) (o5 : ok_X11_isWord M 5) (o6 : ok_X11_isWord M 6) : m_X11_readLine M = m_X11_ditchLine (u1_X11_isLine M (if 9 ≤ M 69 9 then false else true)) ∧ (ok_X11_ditchLine (u1_X11_isLine M (if 9 ≤ M 69 9 then false else true)) → ok_X11_readLine M) := by
  have i1 := isl_f (b := true) q1
  have i2 := isl_f (b := (if 4 ≤ M 69 5 then false else true)) q2
  have i3 := isl_f (b := (if 6 ≤ M 69 6 then false else true)) q3
  have i4 := isl_f (b := (if 5 ≤ M 69 7 then false else true)) q4
  have i5 := isl_f (b := (if 6 ≤ M 69 8 then false else true)) q5
  have i6 := isl_t (b := (if 9 ≤ M 69 9 then false else true)) q6
  have e0 : u0_X11_readLine M = (if 4 ≤ M 69 5 then false else true) := by rw [u0_X11_readLine, opv_eq, i1.2]
  have e1 : u1_X11_readLine M = (if 6 ≤ M 69 6 then false else true) := by rw [u1_X11_readLine, opv_eq, i1.2, e0, i2.2]
  have e2 : u2_X11_readLine M = M := by rw [u2_X11_readLine, opv_eq, i1.2, e0, i2.2, e1, i3.2]
  have e3 : u3_X11_readLine M = M := by rw [u3_X11_readLine, opv_eq, e2, i4.2]
  have e4 : u4_X11_readLine M = M := by rw [u4_X11_readLine, opv_eq, e3, i5.2]
  have e5 : u5_X11_readLine M = u1_X11_isLine M (if 9 ≤ M 69 9 then false else true) := by rw [u5_X11_readLine, opv_eq, e4, i6.2]
  rw [m_X11_readLine, ok_X11_readLine, opv_eq, opv_eq, u7_X11_readLine, opv_eq]
  simp only [if_neg q0, i1.2, e0, i2.2, e1, e2, e3, e4, e5, if_neg i1.1, if_neg i2.1, if_neg i3.1, if_neg i4.1, if_neg i5.1, if_pos i6.1]
  exact ⟨(by first | exact True.intro | rfl), fun z => ⟨o0, isl_ok o1, isl_ok o2, isl_ok o3, isl_ok o4, isl_ok o5, isl_ok o6, z⟩⟩
theorem rm_7 {M : Mm} (q0 : ¬ f_X11_isWord M 0 = true) (q1 : ¬ f_X11_isWord M 1 = true) (q2 : ¬ f_X11_isWord M 2 = true) (q3 : ¬ f_X11_isWord M 3 = true) (q4 : ¬ f_X11_isWord M 4 = true) (q5 : ¬ f_X11_isWord M 5 = true) (q6 : ¬ f_X11_isWord M 6 = true) (o0 : ok_X11_isWord M 0) (o1 : ok_X11_isWord M 1) (o2 : ok_X11_isWord M 2) (o3 : ok_X11_isWord M 3) (o4 : ok_X11_isWord M 4) (o5 : ok_X11_isWord M 5) (o6 : ok_X11_isWord M 6) : m_X11_readLine M = m_X11_wrong M 1 (M 65 4) ∧ (True → ok_X11_readLine M) := by
  have i1 := isl_f (b := true) q1
  have i2 := isl_f (b := (if 4 ≤ M 69 5 then false else true)) q2
  have i3 := isl_f (b := (if 6 ≤ M 69 6 then false else true)) q3
  have i4 := isl_f (b := (if 5 ≤ M 69 7 then false else true)) q4
  have i5 := isl_f (b := (if 6 ≤ M 69 8 then false else true)) q5
  have i6 := isl_f (b := (if 9 ≤ M 69 9 then false else true)) q6
  have e0 : u0_X11_readLine M = (if 4 ≤ M 69 5 then false else true) := by rw [u0_X11_readLine, opv_eq, i1.2]
  have e1 : u1_X11_readLine M = (if 6 ≤ M 69 6 then false else true) := by rw [u1_X11_readLine, opv_eq, i1.2, e0, i2.2]
  have e2 : u2_X11_readLine M = M := by rw [u2_X11_readLine, opv_eq, i1.2, e0, i2.2, e1, i3.2]
  have e3 : u3_X11_readLine M = M := by rw [u3_X11_readLine, opv_eq, e2, i4.2]
  have e4 : u4_X11_readLine M = M := by rw [u4_X11_readLine, opv_eq, e3, i5.2]
  have e5 : u5_X11_readLine M = M := by rw [u5_X11_readLine, opv_eq, e4, i6.2]
  rw [m_X11_readLine, ok_X11_readLine, opv_eq, opv_eq, u7_X11_readLine, opv_eq]
  simp only [if_neg q0, i1.2, e0, i2.2, e1, e2, e3, e4, e5, if_neg i1.1, if_neg i2.1, if_neg i3.1, if_neg i4.1, if_neg i5.1, if_neg i6.1]
  exact ⟨(by first | exact True.intro | rfl), fun z => ⟨o0, isl_ok o1, isl_ok o2, isl_ok o3, isl_ok o4, isl_ok o5, isl_ok o6, True.intro⟩⟩
theorem beg_eq {I M : Mm} {J : Nat → Nat → Int64} {N p : Nat} (h : At I J M N p) : f_X6_beginsLine I J = (if f_X11_isWord M 0 = true then true else (if f_X11_isWord M 1 = true then true else (if f_X11_isWord M 2 = true then true else (if f_X11_isWord M 3 = true then true else (if f_X11_isWord M 4 = true then true else (if f_X11_isWord M 5 = true then true else (if f_X11_isWord M 6 = true then true else false))))))) := by
  rw [f_X6_beginsLine, opv_eq, u0_X6_beginsLine, opv_eq, (tk_word (s := 0) h.2.2.2.2 h.2.1 (by omega)).1, (tk_word (s := 1) h.2.2.2.2 h.2.1 (by omega)).1, (tk_word (s := 2) h.2.2.2.2 h.2.1 (by omega)).1, (tk_word (s := 3) h.2.2.2.2 h.2.1 (by omega)).1, (tk_word (s := 4) h.2.2.2.2 h.2.1 (by omega)).1, (tk_word (s := 5) h.2.2.2.2 h.2.1 (by omega)).1, (tk_word (s := 6) h.2.2.2.2 h.2.1 (by omega)).1]
theorem full_eq {I : Mm} {r : Vc} {c n w room off : Nat} (h : TB I r c n w room off) (hr : room ≤ 9) : f_X7_isFull I c = (if n < room then false else true) := by
  rw [f_X7_isFull, opv_eq, h.1, h.2.2.1]
  by_cases z : n < room
  · rw [if_pos z, if_pos (nI_lt z (by omega))]
  · rw [if_neg z, if_neg (nI_nlt (by omega) (by have := h.2.2.2.1; omega))]
theorem res_fail {I I1 M : Mm} {J J1 : Nat → Nat → Int64} {N p p1 t : Nat} (h : At I1 J1 M N p1) (f1 : Fk krc I I1) (n : Int32) : Co t I (m_X6_fails I1 n) ∧ Fk kml M (m_X11_wrong M n (M 65 4)) ∧ Res false (m_X6_fails I1 n) J (m_X11_wrong M n (M 65 4)) N p t := by
  have k := at_fl h n
  exact ⟨Co.cr (f1.trans k.2.1), k.2.2.ml, Or.inr ⟨rfl, k.1⟩⟩
theorem Res.le {b : Bool} {I M : Mm} {J : Nat → Nat → Int64} {N p p1 t : Nat} (h : Res b I J M N p1 t) (hp : p ≤ p1) : Res b I J M N p t := by
  rcases h with ⟨a, ⟨q, hq, c⟩, d⟩ | h
  · exact Or.inl ⟨a, ⟨q, by omega, c⟩, d⟩
  · exact Or.inr h
theorem l_line {I M : Mm} {J : Nat → Nat → Int64} {N p k : Nat} {w x : Bool} (h : Ah I M N p) (ls : LSt I J (M 69) (dr w) k) (hx : (x = true ∧ M 69 11 = 0 ∧ M 69 5 = 0 ∧ M 69 6 = 0 ∧ M 69 7 = 0 ∧ M 69 8 = 0 ∧ M 69 9 = 0) ∨ (x = false ∧ M 69 11 = 1)) : ok_X6_readLine I J w x ∧ ok_X11_readLine M ∧ Co (dr w) I (m_X6_readLine I J w x) ∧ Fk kml M (m_X11_readLine M) ∧ Res (f_X6_readLine I J w x) (m_X6_readLine I J w x) (j_X6_readLine I J w x) (m_X11_readLine M) N p (dr w) := by
  obtain ⟨p1, hp1, at1, ok1, f1, j1, _⟩ := ah_at h J
  have ls1 := ls.cl f1 j1
  have bg := beg_eq at1
  have nm := w_name at1
  have hdr := dr_or w
  have h13 := h.2.1
  have w0 := tk_word (s := 0) at1.2.2.2.2 at1.2.1 (by omega)
  have w1 := tk_word (s := 1) at1.2.2.2.2 at1.2.1 (by omega)
  have w2 := tk_word (s := 2) at1.2.2.2.2 at1.2.1 (by omega)
  have w3 := tk_word (s := 3) at1.2.2.2.2 at1.2.1 (by omega)
  have w4 := tk_word (s := 4) at1.2.2.2.2 at1.2.1 (by omega)
  have w5 := tk_word (s := 5) at1.2.2.2.2 at1.2.1 (by omega)
  have w6 := tk_word (s := 6) at1.2.2.2.2 at1.2.1 (by omega)
  rw [ok_X6_readLine, f_X6_readLine, m_X6_readLine, j_X6_readLine, opv_eq, opv_eq, opv_eq, opv_eq]
  simp only [u0_X6_readLine, u1_X6_readLine, u2_X6_readLine, u3_X6_readLine, u4_X6_readLine, u5_X6_readLine, u6_X6_readLine, u7_X6_readLine, u8_X6_readLine, u9_X6_readLine, u10_X6_readLine, u11_X6_readLine, u12_X6_readLine, u13_X6_readLine, u14_X6_readLine, u15_X6_readLine, u16_X6_readLine, u17_X6_readLine, u18_X6_readLine, u19_X6_readLine, u20_X6_readLine, opv_eq, f_fails, rt_7 hdr, rt_8 hdr, rt_9 hdr, rt_10 hdr]
  rw [bg, w0.1, w1.1, w2.1, w3.1, w4.1, w5.1]
  have okb := nm.1
  generalize m_X6_nextToken I J = I1 at *
  generalize j_X6_nextToken I J = J1 at *
  have hT := ls1.2.1
  have hb := ls1.1
  have nf : ¬ false = true := by decide
  by_cases q0 : f_X11_isWord M 0 = true
  · have rm := rm_0 q0 w0.2.2
    have kd := (word_kind q0).1
    rcases hx with ⟨xe, h11, _⟩ | ⟨xe, h11⟩
    · have l := l_chalet at1 kd ls1 h11
      simp only [if_pos q0, if_true, xe]
      rw [rm.1]
      exact ⟨⟨ok1, okb, w0.2.1, l.1⟩, rm.2 l.2.1, (Co.cr f1).trans l.2.2.1, l.2.2.2.1, l.2.2.2.2.le hp1⟩
    · have ag := chalet_again h13 h11
      have k1 := res_fail (I := I) (J := J1) (p := p) (t := dr w) at1 f1 3
      simp only [if_pos q0, if_true, xe, if_neg nf]
      rw [rm.1, ag.1]
      exact ⟨⟨ok1, okb, w0.2.1, True.intro⟩, rm.2 ag.2, k1.1, k1.2.1, k1.2.2⟩
  by_cases q1 : f_X11_isWord M 1 = true
  · have rm := rm_1 q0 q1 w0.2.2 w1.2.2
    have kd := (word_kind q1).1
    rcases hx with ⟨xe, h11, z5, z6, z7, z8, z9⟩ | ⟨xe, h11⟩
    · have k1 := res_fail (I := I) (J := J1) (p := p) (t := dr w) at1 f1 6
      have eb : u1_X11_isLine M true = m_X11_wrong M 6 (M 65 4) := il_first h11
      rw [eb] at rm
      have xl := x_weatherLine (M := m_X11_wrong M 6 (M 65 4)) (by rw [r_wrong h13, st2_o _ _ _ (by omega), st2_o _ _ _ (by omega), st2_s])
      simp only [if_neg q0, if_pos q1, if_true, xe]
      rw [rm.1, xl.1]
      exact ⟨⟨ok1, okb, w0.2.1, True.intro⟩, rm.2 xl.2, k1.1, k1.2.1, k1.2.2⟩
    · rw [il_good h11] at rm
      by_cases e10 : I1 2 10 = 0
      · have e12 : M 69 12 = 0 := by rw [← ls1.2.2.2.2.1]; exact e10
        have l := l_weather at1 kd ls1 e12 h11
        simp only [if_neg q0, if_pos q1, if_true, xe, if_neg nf, if_pos e10]
        rw [rm.1]
        exact ⟨⟨ok1, okb, w0.2.1, w1.2.1, l.1⟩, rm.2 l.2.1, (Co.cr f1).trans l.2.2.1, l.2.2.2.1, l.2.2.2.2.le hp1⟩
      · have e12 : M 69 12 = 1 := by
          rcases ls1.2.2.2.2.2.1 with q | q
          · exact absurd (by rw [ls1.2.2.2.2.1]; exact q) e10
          · exact q
        have ag := weather_again h13 e12
        have k1 := res_fail (I := I) (J := J1) (p := p) (t := dr w) at1 f1 3
        simp only [if_neg q0, if_pos q1, if_true, xe, if_neg nf, if_neg e10]
        rw [rm.1, ag.1]
        exact ⟨⟨ok1, okb, w0.2.1, w1.2.1, True.intro⟩, rm.2 ag.2, k1.1, k1.2.1, k1.2.2⟩
  by_cases q2 : f_X11_isWord M 2 = true
  · have rm := rm_2 q0 q1 q2 w0.2.2 w1.2.2 w2.2.2
    have kd := (word_kind q2).1
    rcases hx with ⟨xe, h11, z5, z6, z7, z8, z9⟩ | ⟨xe, h11⟩
    · have k1 := res_fail (I := I) (J := J1) (p := p) (t := dr w) at1 f1 6
      have eb : u1_X11_isLine M (if 4 ≤ M 69 5 then false else true) = m_X11_wrong M 6 (M 65 4) := by rw [z5, if_neg (show ¬ (4 : Int32) ≤ 0 by decide)]; exact il_first h11
      rw [eb] at rm
      have xl := x_ventLine (M := m_X11_wrong M 6 (M 65 4)) (by rw [r_wrong h13, st2_o _ _ _ (by omega), st2_o _ _ _ (by omega), st2_s])
      simp only [if_neg q0, if_neg q1, if_pos q2, if_true, xe]
      rw [rm.1, xl.1]
      exact ⟨⟨ok1, okb, w0.2.1, True.intro⟩, rm.2 xl.2, k1.1, k1.2.1, k1.2.2⟩
    · have nn := hb.nV
      have fe := full_eq hT.2.2.2.2.2.2.2.2.1 (by omega)
      by_cases z : (M 69 5).toNatClampNeg < 4
      · have y1 : ¬ (4 : Int32) ≤ M 69 5 := by rw [nn.1]; exact nI_ge (b := 4) z (by omega)
        rw [if_pos z] at fe
        rw [if_neg y1, il_good h11] at rm
        have l := l_vent at1 kd ls1 z h11
        simp only [if_neg q0, if_neg q1, if_pos q2, if_true, xe, if_neg nf, fe]
        rw [rm.1]
        exact ⟨⟨ok1, okb, w0.2.1, w1.2.1, w2.2.1, l.1⟩, rm.2 l.2.1, (Co.cr f1).trans l.2.2.1, l.2.2.2.1, l.2.2.2.2.le hp1⟩
      · have y1 : (4 : Int32) ≤ M 69 5 := by rw [nn.1]; exact nI_le (a := 4) (by omega) (by omega)
        have k1 := res_fail (I := I) (J := J1) (p := p) (t := dr w) at1 f1 5
        have xl := x_ventLine (M := m_X11_wrong M 5 (M 65 4)) (by rw [r_wrong h13, st2_o _ _ _ (by omega), st2_o _ _ _ (by omega), st2_s])
        rw [if_neg z] at fe
        rw [if_pos y1, il_full h11 h13] at rm
        simp only [if_neg q0, if_neg q1, if_pos q2, if_true, xe, if_neg nf, fe]
        rw [rm.1, xl.1]
        exact ⟨⟨ok1, okb, w0.2.1, w1.2.1, w2.2.1, True.intro⟩, rm.2 xl.2, k1.1, k1.2.1, k1.2.2⟩
  by_cases q3 : f_X11_isWord M 3 = true
  · have rm := rm_3 q0 q1 q2 q3 w0.2.2 w1.2.2 w2.2.2 w3.2.2
    have kd := (word_kind q3).1
    rcases hx with ⟨xe, h11, z5, z6, z7, z8, z9⟩ | ⟨xe, h11⟩
    · have k1 := res_fail (I := I) (J := J1) (p := p) (t := dr w) at1 f1 6
      have eb : u1_X11_isLine M (if 6 ≤ M 69 6 then false else true) = m_X11_wrong M 6 (M 65 4) := by rw [z6, if_neg (show ¬ (6 : Int32) ≤ 0 by decide)]; exact il_first h11
      rw [eb] at rm
      have xl := x_planLine (M := m_X11_wrong M 6 (M 65 4)) (by rw [r_wrong h13, st2_o _ _ _ (by omega), st2_o _ _ _ (by omega), st2_s])
      simp only [if_neg q0, if_neg q1, if_neg q2, if_pos q3, if_true, xe]
      rw [rm.1, xl.1]
      exact ⟨⟨ok1, okb, w0.2.1, True.intro⟩, rm.2 xl.2, k1.1, k1.2.1, k1.2.2⟩
    · have nn := hb.nP
      have fe := full_eq hT.2.2.2.2.2.2.2.2.2.1 (by omega)
      by_cases z : (M 69 6).toNatClampNeg < 6
      · have y1 : ¬ (6 : Int32) ≤ M 69 6 := by rw [nn.1]; exact nI_ge (b := 6) z (by omega)
        rw [if_pos z] at fe
        rw [if_neg y1, il_good h11] at rm
        have l := l_plan at1 kd ls1 z h11
        simp only [if_neg q0, if_neg q1, if_neg q2, if_pos q3, if_true, xe, if_neg nf, fe]
        rw [rm.1]
        exact ⟨⟨ok1, okb, w0.2.1, w1.2.1, w2.2.1, w3.2.1, l.1⟩, rm.2 l.2.1, (Co.cr f1).trans l.2.2.1, l.2.2.2.1, l.2.2.2.2.le hp1⟩
      · have y1 : (6 : Int32) ≤ M 69 6 := by rw [nn.1]; exact nI_le (a := 6) (by omega) (by omega)
        have k1 := res_fail (I := I) (J := J1) (p := p) (t := dr w) at1 f1 5
        have xl := x_planLine (M := m_X11_wrong M 5 (M 65 4)) (by rw [r_wrong h13, st2_o _ _ _ (by omega), st2_o _ _ _ (by omega), st2_s])
        rw [if_neg z] at fe
        rw [if_pos y1, il_full h11 h13] at rm
        simp only [if_neg q0, if_neg q1, if_neg q2, if_pos q3, if_true, xe, if_neg nf, fe]
        rw [rm.1, xl.1]
        exact ⟨⟨ok1, okb, w0.2.1, w1.2.1, w2.2.1, w3.2.1, True.intro⟩, rm.2 xl.2, k1.1, k1.2.1, k1.2.2⟩
  by_cases q4 : f_X11_isWord M 4 = true
  · have rm := rm_4 q0 q1 q2 q3 q4 w0.2.2 w1.2.2 w2.2.2 w3.2.2 w4.2.2
    have kd := (word_kind q4).1
    rcases hx with ⟨xe, h11, z5, z6, z7, z8, z9⟩ | ⟨xe, h11⟩
    · have k1 := res_fail (I := I) (J := J1) (p := p) (t := dr w) at1 f1 6
      have eb : u1_X11_isLine M (if 5 ≤ M 69 7 then false else true) = m_X11_wrong M 6 (M 65 4) := by rw [z7, if_neg (show ¬ (5 : Int32) ≤ 0 by decide)]; exact il_first h11
      rw [eb] at rm
      have xl := x_sawLine (M := m_X11_wrong M 6 (M 65 4)) (by rw [r_wrong h13, st2_o _ _ _ (by omega), st2_o _ _ _ (by omega), st2_s])
      simp only [if_neg q0, if_neg q1, if_neg q2, if_neg q3, if_pos q4, if_true, xe]
      rw [rm.1, xl.1]
      exact ⟨⟨ok1, okb, w0.2.1, True.intro⟩, rm.2 xl.2, k1.1, k1.2.1, k1.2.2⟩
    · have nn := hb.nS
      have fe := full_eq hT.2.2.2.2.2.2.2.2.2.2.1 (by omega)
      by_cases z : (M 69 7).toNatClampNeg < 5
      · have y1 : ¬ (5 : Int32) ≤ M 69 7 := by rw [nn.1]; exact nI_ge (b := 5) z (by omega)
        rw [if_pos z] at fe
        rw [if_neg y1, il_good h11] at rm
        have l := l_saw at1 kd ls1 z h11
        simp only [if_neg q0, if_neg q1, if_neg q2, if_neg q3, if_pos q4, if_true, xe, if_neg nf, fe]
        rw [rm.1]
        exact ⟨⟨ok1, okb, w0.2.1, w1.2.1, w2.2.1, w3.2.1, w4.2.1, l.1⟩, rm.2 l.2.1, (Co.cr f1).trans l.2.2.1, l.2.2.2.1, l.2.2.2.2.le hp1⟩
      · have y1 : (5 : Int32) ≤ M 69 7 := by rw [nn.1]; exact nI_le (a := 5) (by omega) (by omega)
        have k1 := res_fail (I := I) (J := J1) (p := p) (t := dr w) at1 f1 5
        have xl := x_sawLine (M := m_X11_wrong M 5 (M 65 4)) (by rw [r_wrong h13, st2_o _ _ _ (by omega), st2_o _ _ _ (by omega), st2_s])
        rw [if_neg z] at fe
        rw [if_pos y1, il_full h11 h13] at rm
        simp only [if_neg q0, if_neg q1, if_neg q2, if_neg q3, if_pos q4, if_true, xe, if_neg nf, fe]
        rw [rm.1, xl.1]
        exact ⟨⟨ok1, okb, w0.2.1, w1.2.1, w2.2.1, w3.2.1, w4.2.1, True.intro⟩, rm.2 xl.2, k1.1, k1.2.1, k1.2.2⟩
  by_cases q5 : f_X11_isWord M 5 = true
  · have rm := rm_5 q0 q1 q2 q3 q4 q5 w0.2.2 w1.2.2 w2.2.2 w3.2.2 w4.2.2 w5.2.2
    have kd := (word_kind q5).1
    rcases hx with ⟨xe, h11, z5, z6, z7, z8, z9⟩ | ⟨xe, h11⟩
    · have k1 := res_fail (I := I) (J := J1) (p := p) (t := dr w) at1 f1 6
      have eb : u1_X11_isLine M (if 6 ≤ M 69 8 then false else true) = m_X11_wrong M 6 (M 65 4) := by rw [z8, if_neg (show ¬ (6 : Int32) ≤ 0 by decide)]; exact il_first h11
      rw [eb] at rm
      have xl := x_fieldLine (M := m_X11_wrong M 6 (M 65 4)) (by rw [r_wrong h13, st2_o _ _ _ (by omega), st2_o _ _ _ (by omega), st2_s])
      simp only [if_neg q0, if_neg q1, if_neg q2, if_neg q3, if_neg q4, if_pos q5, if_true, xe]
      rw [rm.1, xl.1]
      exact ⟨⟨ok1, okb, w0.2.1, True.intro⟩, rm.2 xl.2, k1.1, k1.2.1, k1.2.2⟩
    · have nn := hb.nF
      have e6 : I1 (dr w) 6 = nI (M 69 8).toNatClampNeg := by rw [hT.2.2.2.2.2.2.2.1]; exact nn.1
      by_cases z : (M 69 8).toNatClampNeg < 6
      · have y1 : ¬ (6 : Int32) ≤ M 69 8 := by rw [nn.1]; exact nI_ge (b := 6) z (by omega)
        have y2 : I1 (dr w) 6 < 6 := by rw [e6]; exact nI_lt (b := 6) z (by omega)
        rw [if_neg y1, il_good h11] at rm
        have l := l_field at1 kd ls1 z h11
        simp only [if_neg q0, if_neg q1, if_neg q2, if_neg q3, if_neg q4, if_pos q5, if_true, xe, if_neg nf, if_pos y2]
        rw [rm.1]
        exact ⟨⟨ok1, okb, w0.2.1, w1.2.1, w2.2.1, w3.2.1, w4.2.1, w5.2.1, l.1⟩, rm.2 l.2.1, (Co.cr f1).trans l.2.2.1, l.2.2.2.1, l.2.2.2.2.le hp1⟩
      · have y1 : (6 : Int32) ≤ M 69 8 := by rw [nn.1]; exact nI_le (a := 6) (by omega) (by omega)
        have y2 : ¬ I1 (dr w) 6 < 6 := by rw [e6]; exact nI_nlt (b := 6) (by omega) (by omega)
        have k1 := res_fail (I := I) (J := J1) (p := p) (t := dr w) at1 f1 5
        have xl := x_fieldLine (M := m_X11_wrong M 5 (M 65 4)) (by rw [r_wrong h13, st2_o _ _ _ (by omega), st2_o _ _ _ (by omega), st2_s])
        rw [if_pos y1, il_full h11 h13] at rm
        simp only [if_neg q0, if_neg q1, if_neg q2, if_neg q3, if_neg q4, if_pos q5, if_true, xe, if_neg nf, if_neg y2]
        rw [rm.1, xl.1]
        exact ⟨⟨ok1, okb, w0.2.1, w1.2.1, w2.2.1, w3.2.1, w4.2.1, w5.2.1, True.intro⟩, rm.2 xl.2, k1.1, k1.2.1, k1.2.2⟩
  by_cases q6 : f_X11_isWord M 6 = true
  · have rm := rm_6 q0 q1 q2 q3 q4 q5 q6 w0.2.2 w1.2.2 w2.2.2 w3.2.2 w4.2.2 w5.2.2 w6.2.2
    have kd := (word_kind q6).1
    rcases hx with ⟨xe, h11, z5, z6, z7, z8, z9⟩ | ⟨xe, h11⟩
    · have k1 := res_fail (I := I) (J := J1) (p := p) (t := dr w) at1 f1 6
      have eb : u1_X11_isLine M (if 9 ≤ M 69 9 then false else true) = m_X11_wrong M 6 (M 65 4) := by rw [z9, if_neg (show ¬ (9 : Int32) ≤ 0 by decide)]; exact il_first h11
      rw [eb] at rm
      have xl := x_ditchLine (M := m_X11_wrong M 6 (M 65 4)) (by rw [r_wrong h13, st2_o _ _ _ (by omega), st2_o _ _ _ (by omega), st2_s])
      simp only [if_neg q0, if_neg q1, if_neg q2, if_neg q3, if_neg q4, if_neg q5, if_pos q6, if_true, xe]
      rw [rm.1, xl.1]
      exact ⟨⟨ok1, okb, w0.2.1, True.intro⟩, rm.2 xl.2, k1.1, k1.2.1, k1.2.2⟩
    · have nn := hb.nD
      have fe := full_eq hT.2.2.2.2.2.2.2.2.2.2.2 (by omega)
      by_cases z : (M 69 9).toNatClampNeg < 9
      · have y1 : ¬ (9 : Int32) ≤ M 69 9 := by rw [nn.1]; exact nI_ge (b := 9) z (by omega)
        rw [if_pos z] at fe
        rw [if_neg y1, il_good h11] at rm
        have l := l_ditch at1 kd ls1 z h11
        simp only [if_neg q0, if_neg q1, if_neg q2, if_neg q3, if_neg q4, if_neg q5, if_pos q6, if_true, xe, if_neg nf, fe]
        rw [rm.1]
        exact ⟨⟨ok1, okb, w0.2.1, w1.2.1, w2.2.1, w3.2.1, w4.2.1, w5.2.1, l.1⟩, rm.2 l.2.1, (Co.cr f1).trans l.2.2.1, l.2.2.2.1, l.2.2.2.2.le hp1⟩
      · have y1 : (9 : Int32) ≤ M 69 9 := by rw [nn.1]; exact nI_le (a := 9) (by omega) (by omega)
        have k1 := res_fail (I := I) (J := J1) (p := p) (t := dr w) at1 f1 5
        have xl := x_ditchLine (M := m_X11_wrong M 5 (M 65 4)) (by rw [r_wrong h13, st2_o _ _ _ (by omega), st2_o _ _ _ (by omega), st2_s])
        rw [if_neg z] at fe
        rw [if_pos y1, il_full h11 h13] at rm
        simp only [if_neg q0, if_neg q1, if_neg q2, if_neg q3, if_neg q4, if_neg q5, if_pos q6, if_true, xe, if_neg nf, fe]
        rw [rm.1, xl.1]
        exact ⟨⟨ok1, okb, w0.2.1, w1.2.1, w2.2.1, w3.2.1, w4.2.1, w5.2.1, True.intro⟩, rm.2 xl.2, k1.1, k1.2.1, k1.2.2⟩
  have rm := rm_7 q0 q1 q2 q3 q4 q5 q6 w0.2.2 w1.2.2 w2.2.2 w3.2.2 w4.2.2 w5.2.2 w6.2.2
  have k1 := res_fail (I := I) (J := J1) (p := p) (t := dr w) at1 f1 1
  simp only [if_neg q0, if_neg q1, if_neg q2, if_neg q3, if_neg q4, if_neg q5, if_neg q6, if_neg nf]
  rw [rm.1]
  exact ⟨⟨ok1, okb, True.intro⟩, rm.2 True.intro, k1.1, k1.2.1, k1.2.2⟩
