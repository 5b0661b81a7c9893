/-! ===== line upon line ===== -/
noncomputable def fin1 (M : Mm) : Mm := if M 65 13 = 0 then (if M 65 6 = 0 then M else m_X11_wrong M 1 (M 65 4)) else M
theorem rl_loop {w : Bool} {u v : Int32} {N : Nat} : ∀ (d l fc fm : Nat) (I : Mm) (J : Nat → Nat → Int64) (M : Mm) (p k : Nat), l + d = 901 → d ≤ fc → d ≤ fm → l ≤ p → Ah I M N p → LSt I J (M 69) (dr w) k → ((l = 0 ∧ M 69 11 = 0 ∧ M 69 5 = 0 ∧ M 69 6 = 0 ∧ M 69 7 = 0 ∧ M 69 8 = 0 ∧ M 69 9 = 0) ∨ (0 < l ∧ M 69 11 = 1)) → oklp_X6_readLines_2 w fc (nI l) I J ∧ ok_X11_readLine M ∧ oklp_X11_chalet_93 u v fm (m_X11_readLine M) ∧ Co (dr w) I (lp_X6_readLines_2 w fc (nI l) I J).2.1 ∧ Fk kml M (fin1 (lp_X11_chalet_93 u v fm (m_X11_readLine M))) ∧ (((lp_X6_readLines_2 w fc (nI l) I J).1 = true ∧ fin1 (lp_X11_chalet_93 u v fm (m_X11_readLine M)) 65 13 = 0 ∧ (∃ k', LSt (lp_X6_readLines_2 w fc (nI l) I J).2.1 (lp_X6_readLines_2 w fc (nI l) I J).2.2 (fin1 (lp_X11_chalet_93 u v fm (m_X11_readLine M)) 69) (dr w) k') ∧ fin1 (lp_X11_chalet_93 u v fm (m_X11_readLine M)) 69 11 = 1 ∧ (lp_X6_readLines_2 w fc (nI l) I J).2.1 2 0 = 0 ∧ fin1 (lp_X11_chalet_93 u v fm (m_X11_readLine M)) 65 9 = 0) ∨ ((lp_X6_readLines_2 w fc (nI l) I J).1 = false ∧ Fl (lp_X6_readLines_2 w fc (nI l) I J).2.1 (fin1 (lp_X11_chalet_93 u v fm (m_X11_readLine M))))) := by
  intro d
  induction d with
  | zero =>
    intro l fc fm I J M p k hl _ _ hp h
    have h1 := h.1.1.1
    have h2 := h.2.2.1
    omega
  | succ d ih =>
    intro l fc fm I J M p k hl hfc hfm hp h ls hx
    obtain ⟨f, rfl⟩ : ∃ g, fc = g + 1 := ⟨fc - 1, by omega⟩
    obtain ⟨g, rfl⟩ : ∃ g, fm = g + 1 := ⟨fm - 1, by omega⟩
    have hN := h.1.1.1
    have hpN := h.2.2.1
    have hl9 : ¬ (900 : Int32) < nI l := nI_nlt (a := 900) (by omega) (by omega)
    have nf : ¬ false = true := by decide
    obtain ⟨x, ex⟩ : ∃ x, x = (if nI l = 0 then true else false) := ⟨_, rfl⟩
    have hx' : (x = true ∧ M 69 11 = 0 ∧ M 69 5 = 0 ∧ M 69 6 = 0 ∧ M 69 7 = 0 ∧ M 69 8 = 0 ∧ M 69 9 = 0) ∨ (x = false ∧ M 69 11 = 1) := by
      rcases hx with ⟨a, b⟩ | ⟨a, b⟩
      · exact Or.inl ⟨by rw [ex, a, if_pos (show nI 0 = 0 from rfl)], b⟩
      · exact Or.inr ⟨by rw [ex, if_neg (nI_ne0 a (by omega))], b⟩
    have ll := l_line (w := w) h ls hx'
    rw [lp_X6_readLines_2, oklp_X6_readLines_2, u0_X6_readLines, u1_X6_readLines, opv_eq, opv_eq, ← ex, if_neg hl9, if_neg hl9]
    obtain ⟨o1, o2, co1, fm1, rs⟩ := ll
    generalize m_X6_readLine I J w x = R at *
    generalize j_X6_readLine I J w x = RJ at *
    generalize f_X6_readLine I J w x = rb at *
    obtain ⟨Mr, eMr⟩ : ∃ X, X = m_X11_readLine M := ⟨_, rfl⟩
    rw [← eMr] at rs fm1 ⊢
    rcases rs with ⟨tr, ⟨p1, hp1, A1⟩, ⟨k1', ls1⟩, h11⟩ | ⟨tr, F1⟩
    · obtain ⟨p2, hp2, at2, ok2, f2, j2, lt2⟩ := ah_at A1 RJ
      have ls2 := ls1.cl f2 j2
      have z13 : Mr 65 13 = 0 := A1.2.1
      have co2 : Co (dr w) I (m_X6_nextToken R RJ) := co1.trans (Co.cr f2)
      rw [lp_X11_chalet_93, oklp_X11_chalet_93, if_pos z13, if_pos z13]
      simp only [tr, if_true]
      generalize m_X6_nextToken R RJ = I2 at *
      generalize j_X6_nextToken R RJ = J2 at *
      have k1 := at_fl at2 1
      have bad : ¬ I2 2 6 = 0 → ¬ I2 2 6 = 3 → ¬ Mr 65 6 = 59 → ¬ Mr 65 6 = 0 → (ok_X6_readLine I J w x ∧ (ok_X6_nextToken R RJ ∧ (if I2 2 6 = 0 then True else (if I2 2 6 = 3 then oklp_X6_readLines_2 w f (nI l + 1) I2 J2 else True)))) ∧ ok_X11_readLine M ∧ (if Mr 65 6 = 59 then (ok_X11_next Mr ∧ (ok_X11_readLine (m_X11_next Mr) ∧ oklp_X11_chalet_93 u v g (m_X11_readLine (m_X11_next Mr)))) else True) ∧ Co (dr w) I (if I2 2 6 = 0 then (true, I2, J2) else (if I2 2 6 = 3 then lp_X6_readLines_2 w f (nI l + 1) I2 J2 else (f_X6_fails I2 1, m_X6_fails I2 1, J2))).2.1 ∧ Fk kml M (fin1 (if Mr 65 6 = 59 then lp_X11_chalet_93 u v g (m_X11_readLine (m_X11_next Mr)) else Mr)) ∧ (((if I2 2 6 = 0 then (true, I2, J2) else (if I2 2 6 = 3 then lp_X6_readLines_2 w f (nI l + 1) I2 J2 else (f_X6_fails I2 1, m_X6_fails I2 1, J2))).1 = true ∧ fin1 (if Mr 65 6 = 59 then lp_X11_chalet_93 u v g (m_X11_readLine (m_X11_next Mr)) else Mr) 65 13 = 0 ∧ (∃ k', LSt (if I2 2 6 = 0 then (true, I2, J2) else (if I2 2 6 = 3 then lp_X6_readLines_2 w f (nI l + 1) I2 J2 else (f_X6_fails I2 1, m_X6_fails I2 1, J2))).2.1 (if I2 2 6 = 0 then (true, I2, J2) else (if I2 2 6 = 3 then lp_X6_readLines_2 w f (nI l + 1) I2 J2 else (f_X6_fails I2 1, m_X6_fails I2 1, J2))).2.2 (fin1 (if Mr 65 6 = 59 then lp_X11_chalet_93 u v g (m_X11_readLine (m_X11_next Mr)) else Mr) 69) (dr w) k') ∧ fin1 (if Mr 65 6 = 59 then lp_X11_chalet_93 u v g (m_X11_readLine (m_X11_next Mr)) else Mr) 69 11 = 1 ∧ (if I2 2 6 = 0 then (true, I2, J2) else (if I2 2 6 = 3 then lp_X6_readLines_2 w f (nI l + 1) I2 J2 else (f_X6_fails I2 1, m_X6_fails I2 1, J2))).2.1 2 0 = 0 ∧ fin1 (if Mr 65 6 = 59 then lp_X11_chalet_93 u v g (m_X11_readLine (m_X11_next Mr)) else Mr) 65 9 = 0) ∨ ((if I2 2 6 = 0 then (true, I2, J2) else (if I2 2 6 = 3 then lp_X6_readLines_2 w f (nI l + 1) I2 J2 else (f_X6_fails I2 1, m_X6_fails I2 1, J2))).1 = false ∧ Fl (if I2 2 6 = 0 then (true, I2, J2) else (if I2 2 6 = 3 then lp_X6_readLines_2 w f (nI l + 1) I2 J2 else (f_X6_fails I2 1, m_X6_fails I2 1, J2))).2.1 (fin1 (if Mr 65 6 = 59 then lp_X11_chalet_93 u v g (m_X11_readLine (m_X11_next Mr)) else Mr)))) := by
        intro y0 y3 y59 m0
        have ef : fin1 Mr = m_X11_wrong Mr 1 (Mr 65 4) := by unfold fin1; rw [if_pos z13, if_neg m0]
        simp only [if_neg y0, if_neg y3, if_neg y59, f_fails]
        rw [ef]
        exact ⟨⟨o1, ok2, True.intro⟩, o2, True.intro, co2.trans (Co.cr k1.2.1), fm1.trans k1.2.2.ml, Or.inr ⟨(by first | rfl | exact True.intro), k1.1⟩⟩
      rcases at2.2.2.2.2.2 with ⟨a, b, _⟩ | ⟨a, b, _⟩ | ⟨a, b, _⟩ | ⟨a, b, _⟩ | ⟨a, b⟩
      · have ef : fin1 Mr = Mr := by unfold fin1; rw [if_pos z13, if_pos b]
        have y59 : ¬ Mr 65 6 = 59 := by rw [b]; decide
        simp only [if_pos a, if_neg y59]
        rw [ef]
        exact ⟨⟨o1, ok2, True.intro⟩, o2, True.intro, co2, fm1, Or.inl ⟨(by first | rfl | exact True.intro), z13, ⟨k1', ls2⟩, h11, at2.1.2.1, at2.1.2.2⟩⟩
      · exact bad (by rw [a]; decide) (by rw [a]; decide) (by rw [b]; decide) (by rw [b]; decide)
      · exact bad (by rw [a]; decide) (by rw [a]; decide) (by rw [b]; decide) (by rw [b]; decide)
      · clear bad
        have y0 : ¬ I2 2 6 = 0 := by rw [a]; decide
        have an := at_ah at2 (by rw [b]; decide)
        have lt := lt2 a
        have e69 := krm_row an.2.2.1 (a := 69) (by omega) (by omega)
        have ii := ih (l + 1) f g I2 J2 (m_X11_next Mr) p2 k1' (by omega) (by omega) (by omega) (by omega) an.1 (by rw [e69]; exact ls2) (Or.inr ⟨by omega, by rw [e69]; exact h11⟩)
        simp only [if_neg y0, if_pos a, if_pos b, nI_1]
        exact ⟨⟨o1, ok2, ii.1⟩, o2, ⟨an.2.1, ii.2.1, ii.2.2.1⟩, co2.trans ii.2.2.2.1, (fm1.trans an.2.2.1.ml).trans ii.2.2.2.2.1, ii.2.2.2.2.2⟩
      · exact bad (by rw [a]; decide) (by rw [a]; decide) (by rw [b]; decide) (by rw [b]; decide)
    · have z : ¬ Mr 65 13 = 0 := by rw [F1.1]; decide
      have ef : fin1 Mr = Mr := by unfold fin1; rw [if_neg z]
      rw [lp_X11_chalet_93, oklp_X11_chalet_93, if_neg z, if_neg z, ef]
      simp only [tr, if_neg nf]
      exact ⟨⟨o1, True.intro⟩, o2, True.intro, co1, fm1, Or.inr ⟨(by first | rfl | exact True.intro), F1⟩⟩
