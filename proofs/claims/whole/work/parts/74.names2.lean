/-! ===== a name that must be there, a new one, a field's ===== -/
theorem nI_nm {n : Nat} (h : n < 2 ^ 31) : ¬ nI n = -1 := fun e => nI_pos h (by rw [e]; decide)
theorem iT {c b : Prop} [Decidable c] (h : b) : (if c then True else b) := by
  by_cases z : c
  · rw [if_pos z]; exact True.intro
  · rw [if_neg z]; exact h
theorem seven (b0 b1 b2 b3 b4 b5 b6 : Bool) (X Y : Mm) : (if b0 = true then X else (if b1 = true then X else (if b2 = true then X else (if b3 = true then X else (if b4 = true then X else (if b5 = true then X else (if b6 = true then X else Y))))))) = (if (if b0 = true then true else (if b1 = true then true else (if b2 = true then true else (if b3 = true then true else (if b4 = true then true else (if b5 = true then true else (if b6 = true then true else false))))))) = true then X else Y) := by
  cases b0
  · cases b1
    · cases b2
      · cases b3
        · cases b4
          · cases b5
            · cases b6
              · rfl
              · rfl
            · rfl
          · rfl
        · rfl
      · rfl
    · rfl
  · rfl
theorem w_name {I M : Mm} {J : Nat → Nat → Int64} {N p : Nat} (h : At I J M N p) : ok_X6_beginsLine I J ∧ ok_X11_mustName M ∧ ((I 2 6 = 1 ∧ M 65 6 = 2 ∧ Wr J M ∧ ¬ f_X6_beginsLine I J = true ∧ m_X11_mustName M = M) ∨ ((I 2 6 ≠ 1 ∨ f_X6_beginsLine I J = true) ∧ m_X11_mustName M = m_X11_wrong M 1 (M 65 4))) := by
  have w0 := tk_word (s := 0) h.2.2.2.2 h.2.1 (by omega)
  have w1 := tk_word (s := 1) h.2.2.2.2 h.2.1 (by omega)
  have w2 := tk_word (s := 2) h.2.2.2.2 h.2.1 (by omega)
  have w3 := tk_word (s := 3) h.2.2.2.2 h.2.1 (by omega)
  have w4 := tk_word (s := 4) h.2.2.2.2 h.2.1 (by omega)
  have w5 := tk_word (s := 5) h.2.2.2.2 h.2.1 (by omega)
  have w6 := tk_word (s := 6) h.2.2.2.2 h.2.1 (by omega)
  have ef : f_X6_beginsLine I J = (if f_X11_isWord M 0 = true then true else (if f_X11_isWord M 1 = true then true else (if f_X11_isWord M 2 = true then true else (if f_X11_isWord M 3 = true then true else (if f_X11_isWord M 4 = true then true else (if f_X11_isWord M 5 = true then true else (if f_X11_isWord M 6 = true then true else false))))))) := by
    rw [f_X6_beginsLine, opv_eq, u0_X6_beginsLine, opv_eq, w0.1, w1.1, w2.1, w3.1, w4.1, w5.1, w6.1]
  refine ⟨?_, ?_, ?_⟩
  · rw [ok_X6_beginsLine, opv_eq]
    exact ⟨w0.2.1, iT ⟨w1.2.1, iT ⟨w2.2.1, iT ⟨w3.2.1, iT ⟨w4.2.1, iT ⟨w5.2.1, iT w6.2.1⟩⟩⟩⟩⟩⟩
  · rw [ok_X11_mustName, opv_eq]
    by_cases z : M 65 6 = 2
    · rw [if_pos z]
      exact ⟨w0.2.2, iT ⟨w1.2.2, iT ⟨w2.2.2, iT ⟨w3.2.2, iT ⟨w4.2.2, iT ⟨w5.2.2, iT w6.2.2⟩⟩⟩⟩⟩⟩
    · rw [if_neg z]; exact True.intro
  · rw [m_X11_mustName, opv_eq, u0_X11_mustName, opv_eq, seven, ← ef]
    have kd : (I 2 6 = 1 ∧ M 65 6 = 2 ∧ Wr J M) ∨ (I 2 6 ≠ 1 ∧ M 65 6 ≠ 2) := by
      rcases h.2.2.2.2.2 with ⟨a, b, _⟩ | ⟨a, b, _, e9⟩ | ⟨a, b, _⟩ | ⟨a, b, _⟩ | ⟨a, b⟩
      · exact Or.inr ⟨by rw [a]; decide, by rw [b]; decide⟩
      · exact Or.inl ⟨a, b, e9⟩
      · exact Or.inr ⟨by rw [a]; decide, by rw [b]; decide⟩
      · exact Or.inr ⟨by rw [a]; decide, by rw [b]; decide⟩
      · exact Or.inr ⟨by rw [a]; decide, by rw [b]; decide⟩
    rcases kd with ⟨a, b, c⟩ | ⟨a, b⟩
    · rw [if_pos b]
      by_cases q : f_X6_beginsLine I J = true
      · rw [if_pos q]
        exact Or.inr ⟨Or.inr q, rfl⟩
      · rw [if_neg q]
        exact Or.inl ⟨a, b, c, q, rfl⟩
    · rw [if_neg b]
      exact Or.inr ⟨Or.inl a, rfl⟩
theorem nn_lp {n c : Nat} (hn : n < 16) (hc : c ≤ 8) : ∀ (k l f : Nat) (M : Mm), M 65 8 = nI c → l + k = c → k < f → ((∀ a, a ≠ 69 → (lp_X11_newName_45 (nI n) f (nI l) M).2 a = M a) ∧ (∀ j, (lp_X11_newName_45 (nI n) f (nI l) M).2 69 j = if 96 + 8 * n + l ≤ j ∧ j < 96 + 8 * n + c then M 67 (j - (96 + 8 * n)) else M 69 j)) ∧ oklp_X11_newName_45 (nI n) f (nI l) M := by
  intro k
  induction k with
  | zero =>
    intro l f M h8 hl hf
    obtain ⟨f, rfl⟩ : ∃ g, f = g + 1 := ⟨f - 1, by omega⟩
    have z : nI c ≤ nI l := nI_le (by omega) (by omega)
    rw [lp_X11_newName_45, oklp_X11_newName_45, h8, if_pos z, if_pos z]
    refine ⟨⟨fun _ _ => rfl, fun j => ?_⟩, True.intro⟩
    rw [if_neg (by omega)]
  | succ k ih =>
    intro l f M h8 hl hf
    obtain ⟨f, rfl⟩ : ∃ g, f = g + 1 := ⟨f - 1, by omega⟩
    have z : ¬ nI c ≤ nI l := nI_ge (by omega) (by omega)
    have e96 : (96 : Int32) + 8 * nI n + nI l = nI (96 + 8 * n + l) := by
      rw [show (96 : Int32) = nI 96 from rfl, show (8 : Int32) = nI 8 from rfl, pk_mul, nI_add, nI_add]
    rw [lp_X11_newName_45, oklp_X11_newName_45, h8, if_neg z, if_neg z, nI_1, e96, nI_clamp (by omega), nI_clamp (by omega)]
    have kk := ih (l + 1) f (va_up M 69 (upd (M 69) (96 + 8 * n + l) (M 67 l))) (by rw [vu_o _ _ (by omega)]; exact h8) (by omega) (by omega)
    refine ⟨⟨fun a ha => ?_, fun j => ?_⟩, vp_in_nI (by rw [sz_67]; omega) (by rw [sz_67]; omega), vp_in_nI (by rw [sz_69]; omega) (by rw [sz_69]; omega), kk.2⟩
    · rw [kk.1.1 a ha, vu_o _ _ ha]
    · rw [kk.1.2 j, vu_o _ _ (by omega), vu_s]
      by_cases q : j = 96 + 8 * n + l
      · subst q
        rw [if_neg (by omega), if_pos (by omega), pk_us, show 96 + 8 * n + l - (96 + 8 * n) = l by omega]
      · rw [upd_sl _ _ _ _ q]
        by_cases q2 : 96 + 8 * n + l ≤ j ∧ j < 96 + 8 * n + c
        · rw [if_pos (by omega), if_pos q2]
        · rw [if_neg (by omega), if_neg q2]
theorem nm_grow {I I2 : Mm} {J J2 : Nat → Nat → Int64} {r r' D : Vc} {k n c : Nat} (hm : NM I J r k) (hk : k < 16) (hn : n < 16) (hz : r (80 + n) = 0) (c1 : 1 ≤ c) (c8 : c ≤ 8) (dl : ∀ i, i < c → cL (D i) = true) (r80 : r' (80 + n) = nI c) (ro : ∀ m, m < 16 → m ≠ n → r' (80 + m) = r (80 + m)) (rl : ∀ i, i < c → r' (96 + 8 * n + i) = D i) (rlo : ∀ m, m < 16 → m ≠ n → ∀ i, i < 8 → r' (96 + 8 * m + i) = r (96 + 8 * m + i)) (I14 : I2 2 14 = nI (k + 1)) (I13 : I2 13 k = if n < 6 then nI n else -1) (I13o : ∀ i, i < k → I2 13 i = I 13 i) (Jk : J2 12 k = lN (pk32 (fun i => ld (D i)) c)) (Jo : ∀ i, i < k → J2 12 i = J 12 i) (ns : ∀ m, m < 16 → ¬ (r (80 + m) ≠ 0 ∧ npk r m = pk32 (fun i => ld (D i)) c)) : NM I2 J2 r' (k + 1) := by
  obtain ⟨h16, h14, ho, hi, hnn, hu⟩ := hm
  have pn : npk r' n = pk32 (fun i => ld (D i)) c := by
    unfold npk
    rw [r80, nI_clamp (by omega)]
    exact pk32_congr _ (fun i hi => by rw [rl i hi])
  have po : ∀ m, m < 16 → m ≠ n → npk r' m = npk r m := by
    intro m hm hmn
    obtain ⟨d, d8, ed, el⟩ := ho m hm
    unfold npk
    rw [ro m hm hmn, ed, nI_clamp (by omega)]
    exact pk32_congr _ (fun i hi => by rw [rlo m hm hmn i (by omega)])
  refine ⟨by omega, I14, ?_, ?_, ?_, ?_⟩
  · intro m hm
    by_cases e : m = n
    · rw [e]
      exact ⟨c, c8, r80, fun i hi => by rw [rl i hi]; exact dl i hi⟩
    · obtain ⟨d, d8, ed, el⟩ := ho m hm
      exact ⟨d, d8, by rw [ro m hm e, ed], fun i hi => by rw [rlo m hm e i (by omega)]; exact el i hi⟩
  · intro i hik
    by_cases e : i = k
    · rw [e]
      exact ⟨n, hn, by rw [r80]; exact nI_ne0 (by omega) (by omega), by rw [Jk, pn], I13⟩
    · obtain ⟨m, hm, a, b, d⟩ := hi i (by omega)
      have mn : m ≠ n := fun e => a (by rw [e]; exact hz)
      exact ⟨m, hm, by rw [ro m hm mn]; exact a, by rw [Jo i (by omega), po m hm mn]; exact b, by rw [I13o i (by omega)]; exact d⟩
  · intro m hm a
    by_cases e : m = n
    · rw [e]
      exact ⟨k, by omega, by rw [Jk, pn]⟩
    · rw [ro m hm e] at a
      obtain ⟨i, hik, b⟩ := hnn m hm a
      exact ⟨i, by omega, by rw [Jo i hik, po m hm e]; exact b⟩
  · intro a m ha hm hz' e
    by_cases ea : a = n
    · by_cases em : m = n
      · rw [ea, em]
      · rw [ea, pn, po m hm em] at e
        refine absurd ⟨?_, e.symm⟩ (ns m hm)
        intro q
        have y : npk r m = 0 := by unfold npk; rw [q]; rfl
        have y2 := pk32_pos (d := fun i => ld (D i)) (n := c) (fun i hi => (ld_in (dl i hi)).1) (by omega)
        omega
    · rw [ro a ha ea] at hz'
      by_cases em : m = n
      · rw [em, pn, po a ha ea] at e
        exact absurd ⟨hz', e⟩ (ns a ha)
      · rw [po a ha ea, po m hm em] at e
        exact hu a m ha hm hz' e
theorem NM.cl {I I' : Mm} {J J' : Nat → Nat → Int64} {r : Vc} {k : Nat} (h : NM I J r k) (h14 : I' 2 14 = I 2 14) (h13 : I' 13 = I 13) (j12 : J' 12 = J 12) : NM I' J' r k := by
  unfold NM at *
  rw [h14, h13, j12]
  exact h
def krn (a j : Nat) : Bool := krc a j && (!(a == 13) && !(a == 2 && j == 14))
def kml (a j : Nat) : Bool := krm a j && !(a == 69)
theorem Fk.cn {I I' : Mm} (h : Fk krc I I') : Fk krn I I' := fun a j k => h a j (by simp only [krn, Bool.and_eq_true] at k; exact k.1)
theorem Fk.ml {I I' : Mm} (h : Fk krm I I') : Fk kml I I' := fun a j k => h a j (by simp only [kml, Bool.and_eq_true] at k; exact k.1)
theorem krc_row {I I' : Mm} (h : Fk krc I I') {a : Nat} (ha : a ≠ 2) : I' a = I a := funext fun j => h a j (by unfold krc; simp [ha])
theorem krm_row {I I' : Mm} (h : Fk krm I I') {a : Nat} (h5 : a ≠ 65) (h7 : a ≠ 67) : I' a = I a := funext fun j => h a j (by unfold krm; simp [h5, h7])
theorem JF.row {J J' : Nat → Nat → Int64} (h : JF J J') {a : Nat} (ha : a ≠ 2) : J' a = J a := funext fun j => h a j (fun z => ha z.1)
theorem w_newName {I M : Mm} {N p n k : Nat} (h : Ah I M N p) (J : Nat → Nat → Int64) (hm : NM I J (M 69) k) (hk : k < 16) (hn : n < 16) (hz : M 69 (80 + n) = 0) {x : Int32} (hx : x = if n < 6 then nI n else -1) : ok_X6_wantsNewName I J x ∧ ok_X11_newName M (nI n) ∧ Fk krn I (m_X6_wantsNewName I J x) ∧ Fk kml M (m_X11_newName M (nI n)) ∧ ((f_X6_wantsNewName I J x = true ∧ (∃ p', p ≤ p' ∧ Ah (m_X6_wantsNewName I J x) (m_X11_newName M (nI n)) N p') ∧ NM (m_X6_wantsNewName I J x) (j_X6_wantsNewName I J x) (m_X11_newName M (nI n) 69) (k + 1) ∧ (∀ j, j < 80 → m_X11_newName M (nI n) 69 j = M 69 j) ∧ (∀ m, m < 16 → m ≠ n → m_X11_newName M (nI n) 69 (80 + m) = M 69 (80 + m))) ∨ (f_X6_wantsNewName I J x = false ∧ Fl (m_X6_wantsNewName I J x) (m_X11_newName M (nI n)))) := by
  obtain ⟨p', hp, at1, ok1, f1, j1, _⟩ := ah_at h J
  have hm1 := hm.cl (f1 2 14 rfl) (krc_row f1 (a := 13) (by omega)) (j1.row (a := 12) (by omega))
  have nm := w_name at1
  rw [ok_X6_wantsNewName, f_X6_wantsNewName, m_X6_wantsNewName, j_X6_wantsNewName, opv_eq, opv_eq, opv_eq, opv_eq, u0_X6_wantsNewName, u1_X6_wantsNewName, opv_eq, opv_eq, m_X11_newName, ok_X11_newName, opv_eq, opv_eq, if_pos h.2.1, if_pos h.2.1, u1_X11_newName, opv_eq, u0_X11_newName, opv_eq]
  generalize m_X6_nextToken I J = I1 at *
  generalize j_X6_nextToken I J = J1 at *
  rcases nm.2.2 with ⟨a6, b6, wr, nb, em⟩ | ⟨bad, em⟩
  · have lk := look_name hm1 wr
    obtain ⟨c, c1, c8, m8, ml, jw⟩ := wr
    rw [em, if_pos h.2.1, if_pos h.2.1]
    simp only [if_pos a6, if_neg nb]
    rcases lk.2.2 with ⟨l1, l2, l3⟩ | ⟨i, m, hi, hm16, l1, l2, l4, l5⟩
    · have z12 : ¬ Int32.ofNat (sz 12) ≤ nI k := by rw [sz_12]; exact nI_ge (b := 16) (by omega) (by omega)
      have z13 : ¬ Int32.ofNat (sz 13) ≤ nI k := by rw [sz_13]; exact nI_ge (b := 16) (by omega) (by omega)
      rw [l1, l2, hm1.2.1]
      simp only [if_pos (show (-1 : Int32) < 0 by decide), if_neg z12, if_neg z13, if_pos h.2.1, if_true]
      rw [nI_clamp (by omega), nI_1]
      have lp := nn_lp hn c8 c 0 (mu_up (M 65 8) 0 + 1) M m8 (by omega) (by rw [m8, show (0 : Int32) = nI 0 from rfl, mu_up_nI (by omega) (by omega)]; omega)
      rw [show nI 0 = (0 : Int32) from rfl] at lp
      generalize (lp_X11_newName_45 (nI n) (mu_up (M 65 8) 0 + 1) 0 M).2 = L at lp ⊢
      rw [show (80 : Int32) + nI n = nI (80 + n) by rw [show (80 : Int32) = nI 80 from rfl, nI_add], nI_clamp (by omega)]
      have L5 : L 65 = M 65 := lp.1.1 65 (by omega)
      have L6 : L 66 = M 66 := lp.1.1 66 (by omega)
      have L7 : L 67 = M 67 := lp.1.1 67 (by omega)
      have at2 : At (st2 (va_up I1 13 (upd (I1 13) k x)) 2 14 (nI (k + 1))) (va_up J1 12 (vp_updL (J1 12) k (J1 2 8))) (va_up L 69 (upd (L 69) (80 + n) (L 65 8))) N p' := (at1.cl (fun j h4 h9 => by rw [st2_o _ _ _ (by omega), vu_o _ _ (by omega)]) (by rw [st2_orow _ _ _ (by omega), vu_o _ _ (by omega)]) (by rw [vu_o _ _ (by omega)]) (by rw [st2_o _ _ _ (by omega), vu_o _ _ (by omega)])).mo (by rw [vu_o _ _ (by omega), L5]) (by rw [vu_o _ _ (by omega), L6]) (by rw [vu_o _ _ (by omega), L7])
      have nx := at_ah at2 (by rw [vu_o _ _ (by omega), L5, b6]; decide)
      have n69 : m_X11_next (va_up L 69 (upd (L 69) (80 + n) (L 65 8))) 69 = upd (L 69) (80 + n) (L 65 8) := by rw [krm_row nx.2.2.1 (by omega) (by omega), vu_s]
      have r80 : m_X11_next (va_up L 69 (upd (L 69) (80 + n) (L 65 8))) 69 (80 + n) = nI c := by rw [n69, pk_us, L5, m8]
      have ro : ∀ j, j < 96 → j ≠ 80 + n → m_X11_next (va_up L 69 (upd (L 69) (80 + n) (L 65 8))) 69 j = M 69 j := by
        intro j hj hj2
        rw [n69, upd_sl _ _ _ _ hj2, lp.1.2 j, if_neg (by omega)]
      refine ⟨⟨ok1, nm.1, lk.1, vp_in_nI (by rw [sz_12]; omega) (by rw [sz_12]; omega), vp_in_nI (by rw [sz_13]; omega) (by rw [sz_13]; omega)⟩, ⟨nm.2.1, lk.2.1, lp.2, vp_in_nI (by rw [sz_69]; omega) (by rw [sz_69]; omega), nx.2.1⟩, ?_, ?_, Or.inl ⟨(by first | rfl | exact True.intro), ⟨p', hp, nx.1⟩, ?_, fun j hj => ro j (by omega) (by omega), fun m hm16 hmn => ro _ (by omega) (by omega)⟩⟩
      · exact (f1.cn.up (fun j => by unfold krn; simp)).st rfl
      · refine Fk.trans (fun a j hk => ?_) nx.2.2.1.ml
        have ha : a ≠ 69 := by
          intro e
          subst e
          simp [kml] at hk
        rw [vu_o _ _ ha, lp.1.1 a ha]
      · refine nm_grow hm1 hk hn hz c1 c8 ml r80 (fun m hm16 hmn => ro _ (by omega) (by omega)) (fun i hi => ?_) (fun m hm16 hmn i hi => ?_) (by rw [st2_s]) (by rw [st2_a _ _ (by omega), vu_s, pk_us, hx]) (fun i hi => by rw [st2_a _ _ (by omega), vu_s, upd_sl _ _ _ _ (by omega)]) (by rw [vu_s, pk_uLs, jw]) (fun i hi => by rw [vu_s, pk_uLn (by omega)]) (fun m hm16 q => l3 c m8 c8 m hm16 q)
        · rw [n69, upd_sl _ _ _ _ (by omega), lp.1.2, if_pos (by omega), show 96 + 8 * n + i - (96 + 8 * n) = i by omega]
        · rw [n69, upd_sl _ _ _ _ (by omega), lp.1.2, if_neg (by omega)]
    · have k3 := at_fl at1 3
      have zi : ¬ nI i = -1 := nI_nm (by omega)
      have zm : ¬ nI m < 0 := nI_pos (by omega)
      have z1 : ¬ m_X11_wrong M 3 (M 65 4) 65 13 = 0 := by rw [k3.1.1]; decide
      rw [l1, l2]
      simp only [if_neg zi, if_neg zm, if_neg z1, f_fails]
      exact ⟨⟨ok1, nm.1, lk.1, True.intro⟩, ⟨nm.2.1, lk.2.1, True.intro⟩, (f1.trans k3.2.1).cn, k3.2.2.ml, Or.inr ⟨(by first | rfl | exact True.intro), k3.1⟩⟩
  · have k1 := at_fl at1 1
    have z1 : ¬ m_X11_wrong M 1 (M 65 4) 65 13 = 0 := by rw [k1.1.1]; decide
    rw [em]
    simp only [if_neg z1]
    by_cases a6 : I1 2 6 = 1
    · have nb : f_X6_beginsLine I1 J1 = true := by
        rcases bad with q | q
        · exact absurd a6 q
        · exact q
      simp only [if_pos a6, if_pos nb, f_fails]
      exact ⟨⟨ok1, nm.1, True.intro⟩, ⟨nm.2.1, True.intro, True.intro⟩, (f1.trans k1.2.1).cn, k1.2.2.ml, Or.inr ⟨(by first | rfl | exact True.intro), k1.1⟩⟩
    · simp only [if_neg a6, f_fails]
      exact ⟨⟨ok1, True.intro⟩, ⟨nm.2.1, True.intro, True.intro⟩, (f1.trans k1.2.1).cn, k1.2.2.ml, Or.inr ⟨(by first | rfl | exact True.intro), k1.1⟩⟩
theorem inb_05 : (List.range 16).all (fun n => inb (nI n) 0 5 == decide (n < 6)) = true := by decide +kernel
theorem inb_f {n : Nat} (h : n < 16) : inb (nI n) 0 5 = decide (n < 6) := by
  have k := List.all_eq_true.mp inb_05 n (List.mem_range.mpr h)
  exact eq_of_beq k
/-- class wants a field, the model has one here -/
theorem w_field {I M : Mm} {N p k : Nat} (h : Ah I M N p) (J : Nat → Nat → Int64) (hm : NM I J (M 69) k) : ok_X6_wantsField I J ∧ ok_X11_fieldHere M ∧ Fk krc I (m_X6_wantsField I J) ∧ Fk krm M (m_X11_fieldHere M) ∧ JF J (j_X6_wantsField I J) ∧ ((f_X6_wantsField I J = true ∧ m_X11_fieldHere M = M ∧ (∃ n, n < 6 ∧ f_X11_fieldHere M = nI n ∧ m_X6_wantsField I J 2 11 = nI n ∧ M 69 (80 + n) ≠ 0) ∧ M 65 6 = 2 ∧ ∃ p', p ≤ p' ∧ At (m_X6_wantsField I J) (j_X6_wantsField I J) M N p') ∨ (f_X6_wantsField I J = false ∧ Fl (m_X6_wantsField I J) (m_X11_fieldHere M))) := by
  obtain ⟨p', hp, at1, ok1, f1, j1, _⟩ := ah_at h J
  have hm1 := hm.cl (f1 2 14 rfl) (krc_row f1 (a := 13) (by omega)) (j1.row (a := 12) (by omega))
  have nm := w_name at1
  rw [ok_X6_wantsField, f_X6_wantsField, m_X6_wantsField, j_X6_wantsField, opv_eq, opv_eq, opv_eq, opv_eq, u2_X6_wantsField, u1_X6_wantsField, opv_eq, opv_eq, u0_X6_wantsField, opv_eq, m_X11_fieldHere, ok_X11_fieldHere, f_X11_fieldHere, opv_eq, opv_eq, opv_eq, if_pos h.2.1, if_pos h.2.1, if_pos h.2.1, u1_X11_fieldHere, opv_eq, u0_X11_fieldHere, opv_eq]
  generalize m_X6_nextToken I J = I1 at *
  generalize j_X6_nextToken I J = J1 at *
  have at2 : ∀ v, At (st2 I1 2 11 v) J1 M N p' := fun v => at1.cl (fun j h4 h9 => by rw [st2_o _ _ _ (by omega)]) (by rw [st2_orow _ _ _ (by omega)]) rfl (by rw [st2_o _ _ _ (by omega)])
  have f2 : ∀ v, Fk krc I (st2 I1 2 11 v) := fun v => f1.st rfl
  rcases nm.2.2 with ⟨a6, b6, wr, nb, em⟩ | ⟨bad, em⟩
  · have lk := look_name hm1 wr
    rw [em, f_in]
    simp only [if_pos h.2.1, if_pos a6, if_neg nb]
    have k2 := at_fl (at2 (-1)) 2
    have z2 : ¬ m_X11_wrong M 2 (M 65 4) 65 13 = 0 := by rw [k2.1.1]; decide
    rcases lk.2.2 with ⟨l1, l2, l3⟩ | ⟨i, m, hi, hm16, l1, l2, l4, l5⟩
    · rw [l1, l2]
      simp only [if_pos (show (-1 : Int32) < 0 by decide), if_neg (show ¬ inb (-1) 0 5 = true by decide), if_true, if_neg z2, f_fails, if_neg (show ¬ false = true by decide)]
      exact ⟨⟨ok1, nm.1, lk.1, True.intro⟩, ⟨nm.2.1, lk.2.1⟩, (f2 _).trans k2.2.1, k2.2.2, j1, Or.inr ⟨(by first | rfl | exact True.intro), k2.1⟩⟩
    · have k16 := hm1.1
      have z13 : ¬ Int32.ofNat (sz 13) ≤ nI i := by rw [sz_13]; exact nI_ge (b := 16) (by omega) (by omega)
      rw [l1, l2, inb_f hm16]
      simp only [if_neg (nI_pos (n := i) (by omega)), if_neg z13]
      rw [nI_clamp (by omega), l4]
      by_cases q : m < 6
      · simp only [if_pos q, if_neg (nI_nm (n := m) (by omega)), q, decide_true, if_true, if_pos h.2.1]
        exact ⟨⟨ok1, nm.1, lk.1, vp_in_nI (by rw [sz_13]; omega) (by rw [sz_13]; omega)⟩, ⟨nm.2.1, lk.2.1⟩, f2 _, Fk.refl _ _, j1, Or.inl ⟨(by first | rfl | exact True.intro), (by first | rfl | exact True.intro), ⟨m, q, (by first | rfl | exact True.intro), st2_s _ _ _ _, l5⟩, b6, p', hp, at2 _⟩⟩
      · simp only [if_neg q, q, decide_false, if_true, if_neg z2, f_fails, if_neg (show ¬ false = true by decide)]
        exact ⟨⟨ok1, nm.1, lk.1, vp_in_nI (by rw [sz_13]; omega) (by rw [sz_13]; omega)⟩, ⟨nm.2.1, lk.2.1⟩, (f2 _).trans k2.2.1, k2.2.2, j1, Or.inr ⟨(by first | rfl | exact True.intro), k2.1⟩⟩
  · have k1 := at_fl at1 1
    have z1 : ¬ m_X11_wrong M 1 (M 65 4) 65 13 = 0 := by rw [k1.1.1]; decide
    rw [em]
    simp only [if_neg z1]
    by_cases a6 : I1 2 6 = 1
    · have nb : f_X6_beginsLine I1 J1 = true := by
        rcases bad with q | q
        · exact absurd a6 q
        · exact q
      simp only [if_pos a6, if_pos nb, f_fails]
      exact ⟨⟨ok1, nm.1, True.intro⟩, ⟨nm.2.1, True.intro⟩, f1.trans k1.2.1, k1.2.2, j1, Or.inr ⟨(by first | rfl | exact True.intro), k1.1⟩⟩
    · simp only [if_neg a6, f_fails]
      exact ⟨⟨ok1, True.intro⟩, ⟨nm.2.1, True.intro⟩, f1.trans k1.2.1, k1.2.2, j1, Or.inr ⟨(by first | rfl | exact True.intro), k1.1⟩⟩
