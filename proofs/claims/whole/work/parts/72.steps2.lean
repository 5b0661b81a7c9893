theorem r_next13 {I M : Mm} {J : Nat → Nat → Int64} {N p : Nat} (h : At I J M N p) (h6 : M 65 6 ≠ 1) : m_X11_next M 65 13 = 0 := (at_ah h h6).2.2.2
/-- class wants a number, the model takes it -/
theorem w_number {I M : Mm} {N p : Nat} (h : Ah I M N p) (J : Nat → Nat → Int64) (lo hi : Int32) : ok_X6_wantsWhole I J lo hi ∧ ok_X11_number M lo hi ∧ Fk krc I (m_X6_wantsWhole I J lo hi) ∧ Fk krm M (m_X11_number M lo hi) ∧ JF J (j_X6_wantsWhole I J lo hi) ∧ ((f_X6_wantsWhole I J lo hi = true ∧ f_X11_number M lo hi = m_X6_wantsWhole I J lo hi 2 9 ∧ inb (m_X6_wantsWhole I J lo hi 2 9) lo hi = true ∧ ∃ p', p ≤ p' ∧ Ah (m_X6_wantsWhole I J lo hi) (m_X11_number M lo hi) N p') ∨ (f_X6_wantsWhole I J lo hi = false ∧ Fl (m_X6_wantsWhole I J lo hi) (m_X11_number M lo hi))) := by
  obtain ⟨o1, f1, f2, j1, k⟩ := w_whole h J lo hi
  rw [ok_X11_number, m_X11_number, f_X11_number, opv_eq, opv_eq, opv_eq, u0_X11_number, opv_eq]
  rcases k with ⟨a, b, c, d, e, g, p', hp, t⟩ | ⟨a, b⟩
  · have n := at_ah t (by rw [g]; decide)
    rw [b, if_pos h.2.1, if_pos h.2.1, c, d]
    exact ⟨o1, n.2.1, f1, n.2.2.1, j1, Or.inl ⟨a, rfl, e, p', hp, n.1⟩⟩
  · have z : ¬ m_X11_numberHere M lo hi 65 13 = 0 := by rw [b.1]; decide
    rw [if_neg z, if_neg z]
    exact ⟨o1, trivial, f1, f2, j1, Or.inr ⟨a, b⟩⟩
/-! the model behind a failure -/
theorem x_word {M : Mm} (h : M 65 13 = 1) (s : Nat) : f_X11_isWord M s = false ∧ ok_X11_isWord M s := by
  have z : ¬ M 65 13 = 0 := by rw [h]; decide
  rw [f_X11_isWord, ok_X11_isWord, opv_eq, opv_eq, if_neg z, if_neg z]
  exact ⟨rfl, trivial⟩
theorem x_must {M : Mm} (h : M 65 13 = 1) (s : Nat) : m_X11_must M s = M ∧ ok_X11_must M s := by
  have z : ¬ M 65 13 = 0 := by rw [h]; decide
  rw [m_X11_must, ok_X11_must, opv_eq, opv_eq, u0_X11_must, opv_eq, if_neg z, if_neg z]
  exact ⟨rfl, trivial⟩
theorem x_here {M : Mm} (h : M 65 13 = 1) (lo hi : Int32) : m_X11_numberHere M lo hi = M := by
  have z : ¬ M 65 13 = 0 := by rw [h]; decide
  rw [m_X11_numberHere, opv_eq, if_neg z]
theorem x_number {M : Mm} (h : M 65 13 = 1) (lo hi : Int32) : m_X11_number M lo hi = M ∧ ok_X11_number M lo hi := by
  have z : ¬ M 65 13 = 0 := by rw [h]; decide
  rw [m_X11_number, ok_X11_number, opv_eq, opv_eq, u0_X11_number, opv_eq, x_here h, if_neg z, if_neg z]
  exact ⟨rfl, trivial⟩
theorem x_after {M : Mm} (h : M 65 13 = 1) (s : Nat) (lo hi : Int32) : m_X11_after M s lo hi = M ∧ ok_X11_after M s lo hi := by
  rw [m_X11_after, ok_X11_after, opv_eq, opv_eq, (x_must h s).1]
  exact ⟨(x_number h lo hi).1, (x_must h s).2, (x_number h lo hi).2⟩
theorem x_weather {M : Mm} (h : M 65 13 = 1) : m_X11_weather M = M ∧ ok_X11_weather M := by
  have w := x_word h 11
  rw [m_X11_weather, ok_X11_weather, opv_eq, opv_eq, f_X11_takesWord, m_X11_takesWord, ok_X11_takesWord, opv_eq, opv_eq, opv_eq, w.1]
  simp only [if_neg (show ¬ false = true by decide)]
  exact ⟨(x_must h 12).1, ⟨w.2, trivial⟩, (x_must h 12).2⟩
theorem x_newName {M : Mm} (h : M 65 13 = 1) (n : Int32) : m_X11_newName M n = M ∧ ok_X11_newName M n := by
  have z : ¬ M 65 13 = 0 := by rw [h]; decide
  rw [m_X11_newName, ok_X11_newName, opv_eq, opv_eq, if_neg z, if_neg z]
  exact ⟨rfl, trivial⟩
theorem Fl.mo {I M M' : Mm} (h : Fl I M) (h5 : M' 65 = M 65) : Fl I M' := by unfold Fl; rw [h5]; exact h
/-- class wants a word and a number behind it, the model takes both -/
theorem w_after {I M : Mm} {N p s : Nat} (h : Ah I M N p) (J : Nat → Nat → Int64) (hs : s < 22) (lo hi : Int32) : ok_X6_wants I J s ∧ ok_X11_after M s lo hi ∧ Fk krm M (m_X11_after M s lo hi) ∧ ((f_X6_wants I J s = true ∧ ok_X6_wantsWhole (m_X6_wants I J s) (j_X6_wants I J s) lo hi ∧ Fk krc I (m_X6_wantsWhole (m_X6_wants I J s) (j_X6_wants I J s) lo hi) ∧ JF J (j_X6_wantsWhole (m_X6_wants I J s) (j_X6_wants I J s) lo hi) ∧ ((f_X6_wantsWhole (m_X6_wants I J s) (j_X6_wants I J s) lo hi = true ∧ f_X11_after M s lo hi = m_X6_wantsWhole (m_X6_wants I J s) (j_X6_wants I J s) lo hi 2 9 ∧ inb (m_X6_wantsWhole (m_X6_wants I J s) (j_X6_wants I J s) lo hi 2 9) lo hi = true ∧ ∃ p', p ≤ p' ∧ Ah (m_X6_wantsWhole (m_X6_wants I J s) (j_X6_wants I J s) lo hi) (m_X11_after M s lo hi) N p') ∨ (f_X6_wantsWhole (m_X6_wants I J s) (j_X6_wants I J s) lo hi = false ∧ Fl (m_X6_wantsWhole (m_X6_wants I J s) (j_X6_wants I J s) lo hi) (m_X11_after M s lo hi)))) ∨ (f_X6_wants I J s = false ∧ Fk krc I (m_X6_wants I J s) ∧ JF J (j_X6_wants I J s) ∧ Fl (m_X6_wants I J s) (m_X11_after M s lo hi))) := by
  obtain ⟨o1, o2, f1, f2, j1, k⟩ := w_must h J hs
  rw [ok_X11_after, m_X11_after, f_X11_after, opv_eq, opv_eq, opv_eq]
  rcases k with ⟨a, p1, hp, t⟩ | ⟨a, b⟩
  · obtain ⟨o3, o4, f3, f4, j2, k⟩ := w_number t (j_X6_wants I J s) lo hi
    refine ⟨o1, ⟨o2, o4⟩, f2.trans f4, Or.inl ⟨a, o3, f1.trans f3, fun x y z => (j2 x y z).trans (j1 x y z), ?_⟩⟩
    rcases k with ⟨c, d, e, p2, hp2, g⟩ | ⟨c, d⟩
    · exact Or.inl ⟨c, d, e, p2, by omega, g⟩
    · exact Or.inr ⟨c, d⟩
  · have x := x_number b.1 lo hi
    rw [x.1]
    exact ⟨o1, ⟨o2, x.2⟩, f2, Or.inr ⟨a, f1, j1, b⟩⟩
/-- class wants a weather for a cell, the model takes it -/
theorem w_weather {I M : Mm} {N p : Nat} (h : Ah I M N p) (J : Nat → Nat → Int64) (c : Nat) (col : Int32) : ok_X6_wantsWeather I J c col ∧ ok_X11_weather M ∧ Fk krm M (m_X11_weather M) ∧ JF J (j_X6_wantsWeather I J c col) ∧ ((f_X6_wantsWeather I J c col = true ∧ (f_X11_weather M = 1 ∨ f_X11_weather M = 2) ∧ m_X6_wantsWeather I J c col = m_X7_put (m_X6_nextToken I J) c col (f_X11_weather M) ∧ Fk krc I (m_X6_nextToken I J) ∧ ∃ p', p ≤ p' ∧ Ah (m_X6_nextToken I J) (m_X11_weather M) N p') ∨ (f_X6_wantsWeather I J c col = false ∧ Fk krc I (m_X6_wantsWeather I J c col) ∧ Fl (m_X6_wantsWeather I J c col) (m_X11_weather M))) := by
  obtain ⟨p', hp, at1, ok1, f1, j1, _⟩ := ah_at h J
  have w1 := tk_word (s := 11) at1.2.2.2.2 at1.2.1 (by omega)
  have w2 := tk_word (s := 12) at1.2.2.2.2 at1.2.1 (by omega)
  rw [ok_X6_wantsWeather, f_X6_wantsWeather, m_X6_wantsWeather, j_X6_wantsWeather, opv_eq, opv_eq, opv_eq, opv_eq, u0_X6_wantsWeather, u1_X6_wantsWeather, opv_eq, m_X11_weather, ok_X11_weather, f_X11_weather, opv_eq, opv_eq, opv_eq, f_X11_takesWord, m_X11_takesWord, ok_X11_takesWord, opv_eq, opv_eq, opv_eq, w1.1, w2.1]
  by_cases q : f_X11_isWord M 11 = true
  · have k := at_ah at1 (by rw [(word_kind q).1]; decide)
    simp only [q, if_true]
    exact ⟨⟨ok1, w1.2.1, w1.2.1⟩, ⟨⟨w1.2.2, k.2.1⟩, trivial⟩, k.2.2.1, j1, Or.inl ⟨trivial, Or.inl trivial, trivial, f1, p', hp, k.1⟩⟩
  · simp only [if_neg q, if_neg (show ¬ false = true by decide)]
    rw [m_X11_must, ok_X11_must, opv_eq, opv_eq, u0_X11_must, opv_eq, f_X11_takesWord, m_X11_takesWord, ok_X11_takesWord, opv_eq, opv_eq, opv_eq, if_pos at1.2.1, if_pos at1.2.1]
    by_cases q2 : f_X11_isWord M 12 = true
    · have k := at_ah at1 (by rw [(word_kind q2).1]; decide)
      simp only [q2, if_true]
      exact ⟨⟨ok1, w1.2.1, w2.2.1, w1.2.1⟩, ⟨⟨w1.2.2, trivial⟩, w2.2.2, k.2.1⟩, k.2.2.1, j1, Or.inl ⟨trivial, Or.inr trivial, trivial, f1, p', hp, k.1⟩⟩
    · have k := at_fl at1 1
      simp only [if_neg q2, f_fails, if_neg (show ¬ false = true by decide)]
      exact ⟨⟨ok1, w1.2.1, w2.2.1, trivial⟩, ⟨⟨w1.2.2, trivial⟩, w2.2.2, trivial⟩, k.2.2, j1, Or.inr ⟨trivial, f1.trans k.2.1, k.1⟩⟩
/-! a row that is being filled -/
theorem t_put {I : Mm} {c n w room k : Nat} (v : Int32) (h1 : I c 1 = nI w) (h3 : I c 3 = nI n) (hn : n < room) (hr : room ≤ 9) (hw : w ≤ 3) (hz : sz (rt c 2) = room * w) (hc : rt c 2 = c + 1) (hk : k < w) : m_X7_put I c (nI k) v = va_up I (c + 1) (upd (I (c + 1)) (n * w + k) v) := by
  have b : n * w + k < room * w := by
    have : (n + 1) * w ≤ room * w := Nat.mul_le_mul_right w hn
    rw [Nat.succ_mul] at this
    omega
  have b2 : room * w ≤ 27 := Nat.mul_le_mul hr hw
  rw [m_X7_put, opv_eq, u0_X7_put, opv_eq, h1, h3, pk_mul, nI_add, if_neg (nI_pos (by omega)), if_neg (nI_ge hk (by omega)), if_neg (nI_pos (by omega)), show Int32.ofNat (sz (rt c 2)) = nI (room * w) by rw [hz]; rfl, if_neg (nI_ge b (by omega)), nI_clamp (by omega), hc]
theorem t_close {I : Mm} {c n room : Nat} (h0 : I c 0 = nI room) (h3 : I c 3 = nI n) (hn : n < room) (hr : room ≤ 9) : m_X6_closes I c = st2 I c 3 (nI (n + 1)) := by
  rw [m_X6_closes, opv_eq, m_X7_closeRow, opv_eq, u0_X7_closeRow, opv_eq, h0, h3, if_neg (nI_ge hn (by omega)), nI_1]
