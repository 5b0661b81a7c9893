/-! ===== class and model, step by step ===== -/
def krc (a j : Nat) : Bool := !(a == 2 && (j == 0 || j == 1 || j == 5 || j == 6 || j == 7 || j == 9 || j == 11))
def krm (a j : Nat) : Bool := !(a == 67 || (a == 65 && ((decide (4 ≤ j) && decide (j ≤ 10)) || j == 13)))
def JF (J J' : Nat → Nat → Int64) : Prop := ∀ a j, ¬ (a = 2 ∧ j = 8) → J' a j = J a j
/-- the text, and no fault yet -/
def Ty (I M : Mm) (N : Nat) : Prop := Tx I M N ∧ I 2 0 = 0 ∧ M 65 9 = 0
/-- the class has taken the token at which the model stands -/
def At (I : Mm) (J : Nat → Nat → Int64) (M : Mm) (N p : Nat) : Prop := Ty I M N ∧ M 65 13 = 0 ∧ p ≤ N ∧ I 2 5 = nI p ∧ Tk I J M
/-- the class is about to take the token at which the model stands -/
def Ah (I M : Mm) (N p : Nat) : Prop := Ty I M N ∧ M 65 13 = 0 ∧ p ≤ N ∧ I 2 5 = nI p ∧ ∃ M0 : Mm, M0 65 3 = nI N ∧ M0 66 = M 66 ∧ M0 65 5 = nI p ∧ (∀ j, 4 ≤ j → j ≤ 8 → M 65 j = m_X11_next M0 65 j) ∧ M 67 = m_X11_next M0 67
/-- both have failed, alike -/
def Fl (I M : Mm) : Prop := M 65 13 = 1 ∧ I 2 0 = M 65 9 ∧ I 2 1 = M 65 10
theorem Tx.cl {I M I' : Mm} {N : Nat} (h : Tx I M N) (h4 : I' 2 4 = I 2 4) (h1 : I' 1 = I 1) : Tx I' M N := by
  obtain ⟨a, b, c, d⟩ := h
  exact ⟨a, by rw [h4, b], c, by rw [h1]; exact d⟩
theorem Tx.mo {I M M' : Mm} {N : Nat} (h : Tx I M N) (h3 : M' 65 3 = M 65 3) (h6 : M' 66 = M 66) : Tx I M' N := by
  obtain ⟨a, b, c, d⟩ := h
  exact ⟨a, b, by rw [h3, c], by rw [h6]; exact d⟩
theorem Ty.cl {I M I' : Mm} {N : Nat} (h : Ty I M N) (h4 : I' 2 4 = I 2 4) (h1 : I' 1 = I 1) (h0 : I' 2 0 = I 2 0) : Ty I' M N := ⟨h.1.cl h4 h1, by rw [h0]; exact h.2.1, h.2.2⟩
theorem Ty.mo {I M M' : Mm} {N : Nat} (h : Ty I M N) (h3 : M' 65 3 = M 65 3) (h6 : M' 66 = M 66) (h9 : M' 65 9 = M 65 9) : Ty I M' N := ⟨h.1.mo h3 h6, h.2.1, by rw [h9]; exact h.2.2⟩
theorem kc_ct {I I' : Mm} {J J' : Nat → Nat → Int64} {N q : Nat} (h : CT I I' J J' N q) : Fk krc I I' ∧ JF J J' := by
  refine ⟨fun a j hk => h.2.1 a j fun z => ?_, h.2.2.1⟩
  obtain ⟨rfl, z⟩ := z
  rcases z with rfl | rfl | rfl | rfl <;> exact absurd hk (by decide)
theorem Ah.cl {I I' M : Mm} {N p : Nat} (h : Ah I M N p) (h4 : I' 2 4 = I 2 4) (h5 : I' 2 5 = I 2 5) (h1 : I' 1 = I 1) (h0 : I' 2 0 = I 2 0) : Ah I' M N p := ⟨h.1.cl h4 h1 h0, h.2.1, h.2.2.1, by rw [h5]; exact h.2.2.2.1, h.2.2.2.2⟩
theorem Ah.mo {I M M' : Mm} {N p : Nat} (h : Ah I M N p) (h5 : M' 65 = M 65) (h6 : M' 66 = M 66) (h7 : M' 67 = M 67) : Ah I M' N p := by
  obtain ⟨a, b, c, d, M0, e, f, g, i, k⟩ := h
  exact ⟨a.mo (by rw [h5]) h6 (by rw [h5]), by rw [h5]; exact b, c, d, M0, e, by rw [h6]; exact f, g, by rw [h5]; exact i, by rw [h7]; exact k⟩
theorem Tk.mo {I M M' : Mm} {J : Nat → Nat → Int64} (h : Tk I J M) (h5 : ∀ j, 4 ≤ j → j ≤ 8 → M' 65 j = M 65 j) (h7 : M' 67 = M 67) : Tk I J M' := by
  unfold Tk Wr at *
  rw [h5 4 (by omega) (by omega), h5 5 (by omega) (by omega), h5 6 (by omega) (by omega), h5 7 (by omega) (by omega), h5 8 (by omega) (by omega), h7]
  exact h
theorem Tk.cl {I I' M : Mm} {J J' : Nat → Nat → Int64} (h : Tk I J M) (h5 : I' 2 5 = I 2 5) (h6 : I' 2 6 = I 2 6) (h7 : I' 2 7 = I 2 7) (h9 : I' 2 9 = I 2 9) (h8 : J' 2 8 = J 2 8) : Tk I' J' M := by
  unfold Tk Wr at *
  rw [h5, h6, h7, h9, h8]
  exact h
theorem At.mo {I M M' : Mm} {J : Nat → Nat → Int64} {N p : Nat} (h : At I J M N p) (h5 : M' 65 = M 65) (h6 : M' 66 = M 66) (h7 : M' 67 = M 67) : At I J M' N p := ⟨h.1.mo (by rw [h5]) h6 (by rw [h5]), by rw [h5]; exact h.2.1, h.2.2.1, h.2.2.2.1, h.2.2.2.2.mo (fun j _ _ => by rw [h5]) h7⟩
theorem At.cl {I I' M : Mm} {J J' : Nat → Nat → Int64} {N p : Nat} (h : At I J M N p) (h2 : ∀ j, 4 ≤ j → j ≤ 9 → I' 2 j = I 2 j) (h1 : I' 1 = I 1) (h8 : J' 2 8 = J 2 8) (h0 : I' 2 0 = I 2 0) : At I' J' M N p := ⟨h.1.cl (h2 4 (by omega) (by omega)) h1 h0, h.2.1, h.2.2.1, by rw [h2 5 (by omega) (by omega)]; exact h.2.2.2.1, h.2.2.2.2.cl (h2 5 (by omega) (by omega)) (h2 6 (by omega) (by omega)) (h2 7 (by omega) (by omega)) (h2 9 (by omega) (by omega)) h8⟩
theorem ah_at {I M : Mm} {N p : Nat} (h : Ah I M N p) (J : Nat → Nat → Int64) : ∃ p', p ≤ p' ∧ At (m_X6_nextToken I J) (j_X6_nextToken I J) M N p' ∧ ok_X6_nextToken I J ∧ Fk krc I (m_X6_nextToken I J) ∧ JF J (j_X6_nextToken I J) ∧ (m_X6_nextToken I J 2 6 = 3 → p < p') := by
  obtain ⟨a, b, c, d, M0, e, f, g, i, k⟩ := h
  have t0 : Tx I M0 N := by
    obtain ⟨⟨x, y, z, u⟩, _⟩ := a
    exact ⟨x, y, e, by rw [f]; exact u⟩
  have ct := ct_class J a.1.1 c a.1.2.1 d
  have tk := (tk_next J t0 c d g).1
  obtain ⟨p', h5, hp, hN, h3⟩ := ct_pos c ct.1
  have fr := kc_ct ct.1
  have e1 : m_X6_nextToken I J 1 = I 1 := funext fun j => fr.1 1 j rfl
  exact ⟨p', hp, ⟨a.cl (fr.1 2 4 rfl) e1 (ct.1.2.1 2 0 (fun z => by obtain ⟨_, z⟩ := z; rcases z with z | z | z | z <;> exact absurd z (by decide))), b, hN, h5, tk.mo i k⟩, ct.2, fr.1, fr.2, h3⟩
theorem km_mt {M M' : Mm} {N q : Nat} (h : MT M M' N q) : Fk krm M M' := by
  intro a j hk
  refine h.2.1 a j fun z => ?_
  rcases z with rfl | ⟨rfl, z1, z2⟩
  · exact absurd hk (by unfold krm; simp)
  · unfold krm at hk
    simp [z1] at hk
    omega
theorem at_ah {I M : Mm} {J : Nat → Nat → Int64} {N p : Nat} (h : At I J M N p) (h6 : M 65 6 ≠ 1) : Ah I (m_X11_next M) N p ∧ ok_X11_next M ∧ Fk krm M (m_X11_next M) ∧ m_X11_next M 65 13 = 0 := by
  obtain ⟨a, b, c, d, t⟩ := h
  have m5 : M 65 5 = nI p := by
    rw [← d]
    rcases t.2 with ⟨_, _, q⟩ | ⟨_, _, q, _⟩ | ⟨_, _, q, _⟩ | ⟨_, _, q⟩ | ⟨_, q⟩
    · exact q.symm
    · exact q.symm
    · exact q.symm
    · exact q.symm
    · exact absurd q h6
  have mt := mt_model a.1.1 c a.1.2.2.1 m5 (fun i hi => by rw [(a.1.2.2.2 i hi).2]; exact (byte_all (a.1.2.2.2 i hi).1).2.2.2.2.1)
  have fr := km_mt mt.1
  have e66 : m_X11_next M 66 = M 66 := funext fun j => fr 66 j rfl
  have e13 : m_X11_next M 65 13 = 0 := by rw [mt.1.2.1 65 13 (by omega)]; exact b
  refine ⟨⟨a.mo (fr 65 3 rfl) e66 (mt.1.2.1 65 9 (by omega)), e13, c, d, M, a.1.2.2.1, e66.symm, m5, fun _ _ _ => rfl, rfl⟩, mt.2, fr, e13⟩
theorem r_wrong {M : Mm} (h : M 65 13 = 0) (n q : Int32) : m_X11_wrong M n q = st2 (st2 (st2 M 65 13 1) 65 9 n) 65 10 q := by rw [m_X11_wrong, opv_eq, if_pos h]
theorem r_wrong_x {M : Mm} (h : M 65 13 = 1) (n q : Int32) : m_X11_wrong M n q = M := by rw [m_X11_wrong, opv_eq, if_neg (by rw [h]; decide)]
theorem at_fl {I M : Mm} {J : Nat → Nat → Int64} {N p : Nat} (h : At I J M N p) (n : Int32) : Fl (m_X6_fails I n) (m_X11_wrong M n (M 65 4)) ∧ Fk krc I (m_X6_fails I n) ∧ Fk krm M (m_X11_wrong M n (M 65 4)) := by
  rw [r_wrong h.2.1, m_X6_fails, opv_eq]
  refine ⟨⟨?_, ?_, ?_⟩, ((Fk.refl krc I).st rfl).st rfl, (((Fk.refl krm M).st rfl).st rfl).st rfl⟩
  · rw [st2_o _ _ _ (by omega), st2_o _ _ _ (by omega), st2_s]
  · rw [st2_o _ _ _ (by omega), st2_s, st2_o _ _ _ (by omega), st2_s]
  · rw [st2_s, st2_s]
    exact h.2.2.2.2.1
theorem f_fails (I : Mm) (n : Int32) : f_X6_fails I n = false := by rw [f_X6_fails, opv_eq]
/-- class wants a word, the model must have it -/
theorem w_must {I M : Mm} {N p s : Nat} (h : Ah I M N p) (J : Nat → Nat → Int64) (hs : s < 22) : ok_X6_wants I J s ∧ ok_X11_must M s ∧ Fk krc I (m_X6_wants I J s) ∧ Fk krm M (m_X11_must M s) ∧ JF J (j_X6_wants I J s) ∧ ((f_X6_wants I J s = true ∧ ∃ p', p ≤ p' ∧ Ah (m_X6_wants I J s) (m_X11_must M s) N p') ∨ (f_X6_wants I J s = false ∧ Fl (m_X6_wants I J s) (m_X11_must M s))) := by
  obtain ⟨p', hp, at1, ok1, f1, j1, _⟩ := ah_at h J
  have w := tk_word at1.2.2.2.2 at1.2.1 hs
  rw [ok_X6_wants, f_X6_wants, m_X6_wants, j_X6_wants, opv_eq, opv_eq, opv_eq, opv_eq, u0_X6_wants, u1_X6_wants, opv_eq, opv_eq, ok_X11_must, m_X11_must, opv_eq, opv_eq, u0_X11_must, opv_eq, f_X11_takesWord, m_X11_takesWord, ok_X11_takesWord, opv_eq, opv_eq, opv_eq, if_pos at1.2.1, if_pos at1.2.1, w.1]
  by_cases q : f_X11_isWord M s = true
  · have k := at_ah at1 (by rw [(word_kind q).1]; decide)
    simp only [q, if_true]
    exact ⟨⟨ok1, w.2.1⟩, ⟨w.2.2, k.2.1⟩, f1, k.2.2.1, j1, Or.inl ⟨trivial, p', hp, k.1⟩⟩
  · have k := at_fl at1 1
    simp only [if_neg q, if_neg (show ¬ false = true by decide), f_fails]
    exact ⟨⟨ok1, w.2.1⟩, ⟨w.2.2, trivial⟩, f1.trans k.2.1, k.2.2, j1, Or.inr ⟨trivial, k.1⟩⟩
/-- class wants a number, the model has one here -/
theorem w_whole {I M : Mm} {N p : Nat} (h : Ah I M N p) (J : Nat → Nat → Int64) (lo hi : Int32) : ok_X6_wantsWhole I J lo hi ∧ Fk krc I (m_X6_wantsWhole I J lo hi) ∧ Fk krm M (m_X11_numberHere M lo hi) ∧ JF J (j_X6_wantsWhole I J lo hi) ∧ ((f_X6_wantsWhole I J lo hi = true ∧ m_X11_numberHere M lo hi = M ∧ f_X11_numberHere M lo hi = M 65 7 ∧ m_X6_wantsWhole I J lo hi 2 9 = M 65 7 ∧ inb (M 65 7) lo hi = true ∧ M 65 6 = 3 ∧ ∃ p', p ≤ p' ∧ At (m_X6_wantsWhole I J lo hi) (j_X6_wantsWhole I J lo hi) M N p') ∨ (f_X6_wantsWhole I J lo hi = false ∧ Fl (m_X6_wantsWhole I J lo hi) (m_X11_numberHere M lo hi))) := by
  obtain ⟨p', hp, at1, ok1, f1, j1, _⟩ := ah_at h J
  have t := at1.2.2.2.2
  rw [ok_X6_wantsWhole, f_X6_wantsWhole, m_X6_wantsWhole, j_X6_wantsWhole, opv_eq, opv_eq, opv_eq, opv_eq, u0_X6_wantsWhole, u1_X6_wantsWhole, opv_eq, opv_eq, m_X11_numberHere, f_X11_numberHere, opv_eq, opv_eq, if_pos at1.2.1, if_pos at1.2.1, u1_X11_numberHere, opv_eq, u0_X11_numberHere, opv_eq, f_within, f_in]
  have kd : (m_X6_nextToken I J 2 6 = 2 ∧ M 65 6 = 3 ∧ m_X6_nextToken I J 2 9 = M 65 7) ∨ (m_X6_nextToken I J 2 6 ≠ 2 ∧ M 65 6 ≠ 3) := by
    rcases t.2 with ⟨a, b, _⟩ | ⟨a, b, _⟩ | ⟨a, b, _, e9⟩ | ⟨a, b, _⟩ | ⟨a, b⟩
    · exact Or.inr ⟨by rw [a]; decide, by rw [b]; decide⟩
    · exact Or.inr ⟨by rw [a]; decide, by rw [b]; decide⟩
    · exact Or.inl ⟨a, b, e9⟩
    · exact Or.inr ⟨by rw [a]; decide, by rw [b]; decide⟩
    · exact Or.inr ⟨by rw [a]; decide, by rw [b]; decide⟩
  rcases kd with ⟨a, b, e9⟩ | ⟨a, b⟩
  · by_cases q : inb (M 65 7) lo hi = true
    · simp only [if_pos a, if_pos b, e9, q, if_true, at1.2.1]
      exact ⟨ok1, f1, Fk.refl _ _, j1, Or.inl ⟨trivial, trivial, trivial, trivial, trivial, b, p', hp, at1⟩⟩
    · have k := at_fl at1 4
      simp only [if_pos a, if_pos b, e9, if_neg q, f_fails, if_neg (show ¬ false = true by decide)]
      exact ⟨ok1, f1.trans k.2.1, k.2.2, j1, Or.inr ⟨trivial, k.1⟩⟩
  · have k := at_fl at1 1
    simp only [if_neg a, if_neg b, f_fails]
    exact ⟨ok1, f1.trans k.2.1, k.2.2, j1, Or.inr ⟨trivial, k.1⟩⟩
