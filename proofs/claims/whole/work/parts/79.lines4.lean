/-! ===== a line of what was seen ===== -/
noncomputable def whoW (M : Mm) : Int32 := if f_X11_isWord M 17 = true then 0 else (if f_X11_isWord M 18 = true then 1 else (if f_X11_isWord M 19 = true then 2 else (if f_X11_isWord M 20 = true then 3 else (-1))))
theorem whoW_in (M : Mm) : whoW M = -1 ∨ ((whoW M = 0 ∨ whoW M = 1 ∨ whoW M = 2 ∨ whoW M = 3) ∧ M 65 6 = 2) := by
  unfold whoW
  by_cases a : f_X11_isWord M 17 = true
  · rw [if_pos a]; exact Or.inr ⟨Or.inl rfl, (word_kind a).1⟩
  · rw [if_neg a]
    by_cases b : f_X11_isWord M 18 = true
    · rw [if_pos b]; exact Or.inr ⟨Or.inr (Or.inl rfl), (word_kind b).1⟩
    · rw [if_neg b]
      by_cases c : f_X11_isWord M 19 = true
      · rw [if_pos c]; exact Or.inr ⟨Or.inr (Or.inr (Or.inl rfl)), (word_kind c).1⟩
      · rw [if_neg c]
        by_cases d : f_X11_isWord M 20 = true
        · rw [if_pos d]; exact Or.inr ⟨Or.inr (Or.inr (Or.inr rfl)), (word_kind d).1⟩
        · rw [if_neg d]; exact Or.inl rfl
theorem sh_saw {M M0 M1 M2 L U1 U3 : Mm} {c a v : Int32} (h13 : M 65 13 = 0) (e0 : M0 = m_X11_next M) (ec : c = M0 69 7) (e1 : M1 = m_X11_must M0 16) (ea : a = f_X11_numberHere M1 0 20) (e2 : M2 = m_X11_numberHere M1 0 20) (eL : L = (lp_X11_sawLine_41 (43 + 2 * c) a (opq 100) 0 M2).2) (eU1 : U1 = m_X11_next L) (ev : v = whoW U1) (eU3 : U3 = if 0 ≤ v then U1 else m_X11_wrong U1 1 (U1 65 4)) : m_X11_sawLine M = (if L 65 13 = 0 then (if U3 65 13 = 0 then st2 (va_up (va_up (m_X11_next U3) 69 (upd (m_X11_next U3 69) (43 + 2 * c).toNatClampNeg a)) 69 (upd (va_up (m_X11_next U3) 69 (upd (m_X11_next U3 69) (43 + 2 * c).toNatClampNeg a) 69) (43 + 2 * c + 1).toNatClampNeg v)) 69 7 (va_up (va_up (m_X11_next U3) 69 (upd (m_X11_next U3 69) (43 + 2 * c).toNatClampNeg a)) 69 (upd (va_up (m_X11_next U3) 69 (upd (m_X11_next U3 69) (43 + 2 * c).toNatClampNeg a) 69) (43 + 2 * c + 1).toNatClampNeg v) 69 7 + 1) else U3) else L) ∧ (ok_X11_sawLine M ↔ (ok_X11_next M ∧ ok_X11_must M0 16 ∧ oklp_X11_sawLine_41 (43 + 2 * c) a (opq 100) 0 M2 ∧ (if L 65 13 = 0 then (ok_X11_next L ∧ ok_X11_isWord U1 17 ∧ (if f_X11_isWord U1 17 = true then True else (ok_X11_isWord U1 18 ∧ (if f_X11_isWord U1 18 = true then True else (ok_X11_isWord U1 19 ∧ (if f_X11_isWord U1 19 = true then True else ok_X11_isWord U1 20))))) ∧ (if U3 65 13 = 0 then (ok_X11_next U3 ∧ vp_in (43 + 2 * c) (sz 69) ∧ vp_in (43 + 2 * c + 1) (sz 69)) else True)) else True))) := by
  subst eU3 ev eU1 eL e2 ea e1 ec e0
  rw [m_X11_sawLine, ok_X11_sawLine, opv_eq, opv_eq, if_pos h13, if_pos h13, u3_X11_sawLine, opv_eq, u2_X11_sawLine, opv_eq, u1_X11_sawLine, opv_eq]
  exact ⟨rfl, Iff.rfl⟩
theorem sc_saw {I I1 I2 I3 : Mm} {J J1 J2 J3 : Nat → Nat → Int64} {w : Bool} {b1 b2 b3 so : Bool} (eI1 : I1 = m_X6_wants I J 16) (eJ1 : J1 = j_X6_wants I J 16) (eb1 : b1 = f_X6_wants I J 16) (eI2 : I2 = m_X6_wantsCell I1 J1 (dr w + 5) 0 0 20) (eJ2 : J2 = j_X6_wantsCell I1 J1 (dr w + 5) 0 0 20) (eb2 : b2 = f_X6_wantsCell I1 J1 (dr w + 5) 0 0 20) (eso : so = f_X8_sawOn I2 (dr w) (I2 2 9)) (eI3 : I3 = m_X6_wantsWho I2 J2 w) (eJ3 : J3 = j_X6_wantsWho I2 J2 w) (eb3 : b3 = f_X6_wantsWho I2 J2 w) : f_X6_readSaw I J w = (if b1 = true then (if b2 = true then (if so = true then false else (if b3 = true then true else false)) else false) else false) ∧ m_X6_readSaw I J w = (if b1 = true then (if b2 = true then (if so = true then m_X6_fails I2 3 else (if b3 = true then m_X6_closes I3 (dr w + 5) else I3)) else I2) else I1) ∧ j_X6_readSaw I J w = (if b1 = true then (if b2 = true then (if so = true then J2 else J3) else J2) else J1) ∧ (ok_X6_readSaw I J w ↔ (ok_X6_wants I J 16 ∧ (if b1 = true then (ok_X6_wantsCell I1 J1 (dr w + 5) 0 0 20 ∧ (if b2 = true then (if so = true then True else ok_X6_wantsWho I2 J2 w) else True)) else True))) := by
  subst eb3 eJ3 eI3 eso eb2 eJ2 eI2 eb1 eJ1 eI1
  rw [f_X6_readSaw, m_X6_readSaw, j_X6_readSaw, ok_X6_readSaw, opv_eq, opv_eq, opv_eq, opv_eq, u4_X6_readSaw, u3_X6_readSaw, opv_eq, opv_eq, u2_X6_readSaw, opv_eq, u1_X6_readSaw, u0_X6_readSaw, opv_eq, opv_eq, rt_9 (dr_or w), f_X6_closes, opv_eq, f_fails]
  exact ⟨rfl, rfl, rfl, Iff.rfl⟩
/-- class wants who came out, the model asks the four words -/
theorem w_who {I M : Mm} {N p : Nat} (h : Ah I M N p) (J : Nat → Nat → Int64) (w : Bool) : ok_X6_wantsWho I J w ∧ ok_X11_isWord M 17 ∧ ok_X11_isWord M 18 ∧ ok_X11_isWord M 19 ∧ ok_X11_isWord M 20 ∧ JF J (j_X6_wantsWho I J w) ∧ ∃ I', Fk krc I I' ∧ (∃ p', p ≤ p' ∧ At I' (j_X6_wantsWho I J w) M N p') ∧ f_X6_wantsWho I J w = (if whoW M = -1 then false else true) ∧ m_X6_wantsWho I J w = (if whoW M = -1 then m_X6_fails I' 1 else m_X7_put I' (dr w + 5) 1 (whoW M)) := by
  obtain ⟨p', hp, at1, ok1, f1, j1, _⟩ := ah_at h J
  have w1 := tk_word (s := 17) at1.2.2.2.2 at1.2.1 (by omega)
  have w2 := tk_word (s := 18) at1.2.2.2.2 at1.2.1 (by omega)
  have w3 := tk_word (s := 19) at1.2.2.2.2 at1.2.1 (by omega)
  have w4 := tk_word (s := 20) at1.2.2.2.2 at1.2.1 (by omega)
  have eu : u0_X6_wantsWho I J = whoW M := by rw [u0_X6_wantsWho, opv_eq, w1.1, w2.1, w3.1, w4.1]; rfl
  rw [ok_X6_wantsWho, f_X6_wantsWho, m_X6_wantsWho, j_X6_wantsWho, opv_eq, opv_eq, opv_eq, opv_eq, eu, f_fails, rt_9 (dr_or w)]
  exact ⟨⟨ok1, w1.2.1, iT ⟨w2.2.1, iT ⟨w3.2.1, iT w4.2.1⟩⟩⟩, w1.2.2, w2.2.2, w3.2.2, w4.2.2, j1, _, f1, ⟨p', hp, at1⟩, rfl, rfl⟩
theorem l_saw {I M : Mm} {J : Nat → Nat → Int64} {N p k : Nat} {w : Bool} (h : At I J M N p) (h6 : M 65 6 = 2) (ls : LSt I J (M 69) (dr w) k) (hv : (M 69 7).toNatClampNeg < 5) (h11 : M 69 11 = 1) : ok_X6_readSaw I J w ∧ ok_X11_sawLine M ∧ Co (dr w) I (m_X6_readSaw I J w) ∧ Fk kml M (m_X11_sawLine M) ∧ Res (f_X6_readSaw I J w) (m_X6_readSaw I J w) (j_X6_readSaw I J w) (m_X11_sawLine M) N p (dr w) := by
  have nx := at_ah h (by rw [h6]; decide)
  have e69 := krm_row nx.2.2.1 (a := 69) (by omega) (by omega)
  have h13 := h.2.1
  obtain ⟨hb, hT, hN, hU, hw1, hw2, hw3⟩ := ls
  have lS := hb.nS
  have tv := hT.2.2.2.2.2.2.2.2.2.2.1
  have hdr := dr_or w
  obtain ⟨n, en⟩ : ∃ n, n = (M 69 7).toNatClampNeg := ⟨_, rfl⟩
  rw [← en] at lS hv tv
  obtain ⟨M0, e0⟩ : ∃ X, X = m_X11_next M := ⟨_, rfl⟩
  rw [← e0] at nx e69
  have ec : nI n = M0 69 7 := by rw [e69]; exact lS.1.symm
  obtain ⟨M1, e1⟩ : ∃ X, X = m_X11_must M0 16 := ⟨_, rfl⟩
  obtain ⟨a, ea⟩ : ∃ X, X = f_X11_numberHere M1 0 20 := ⟨_, rfl⟩
  obtain ⟨M2, e2⟩ : ∃ X, X = m_X11_numberHere M1 0 20 := ⟨_, rfl⟩
  obtain ⟨L, eL⟩ : ∃ X, X = (lp_X11_sawLine_41 (43 + 2 * nI n) a (opq 100) 0 M2).2 := ⟨_, rfl⟩
  obtain ⟨U1, eU1⟩ : ∃ X, X = m_X11_next L := ⟨_, rfl⟩
  obtain ⟨v, ev⟩ : ∃ X, X = whoW U1 := ⟨_, rfl⟩
  obtain ⟨U3, eU3⟩ : ∃ X, X = if 0 ≤ v then U1 else m_X11_wrong U1 1 (U1 65 4) := ⟨_, rfl⟩
  have sh := sh_saw h13 e0 ec e1 ea e2 eL eU1 ev eU3
  obtain ⟨I1, eI1⟩ : ∃ X, X = m_X6_wants I J 16 := ⟨_, rfl⟩
  obtain ⟨J1, eJ1⟩ : ∃ X, X = j_X6_wants I J 16 := ⟨_, rfl⟩
  obtain ⟨b1, eb1⟩ : ∃ X, X = f_X6_wants I J 16 := ⟨_, rfl⟩
  obtain ⟨I2, eI2⟩ : ∃ X, X = m_X6_wantsCell I1 J1 (dr w + 5) 0 0 20 := ⟨_, rfl⟩
  obtain ⟨J2, eJ2⟩ : ∃ X, X = j_X6_wantsCell I1 J1 (dr w + 5) 0 0 20 := ⟨_, rfl⟩
  obtain ⟨b2, eb2⟩ : ∃ X, X = f_X6_wantsCell I1 J1 (dr w + 5) 0 0 20 := ⟨_, rfl⟩
  obtain ⟨so, eso⟩ : ∃ X, X = f_X8_sawOn I2 (dr w) (I2 2 9) := ⟨_, rfl⟩
  obtain ⟨I3, eI3⟩ : ∃ X, X = m_X6_wantsWho I2 J2 w := ⟨_, rfl⟩
  obtain ⟨J3, eJ3⟩ : ∃ X, X = j_X6_wantsWho I2 J2 w := ⟨_, rfl⟩
  obtain ⟨b3, eb3⟩ : ∃ X, X = f_X6_wantsWho I2 J2 w := ⟨_, rfl⟩
  have sc := sc_saw (w := w) eI1 eJ1 eb1 eI2 eJ2 eb2 eso eI3 eJ3 eb3
  rw [sh.1, sh.2, sc.1, sc.2.1, sc.2.2.1, sc.2.2.2]
  clear sh sc
  have v0 : vp_in (43 + 2 * nI n) (sz 69) := by rw [i43, sz_69]; exact vp_in_nI (by omega) (by omega)
  have v1 : vp_in (43 + 2 * nI n + 1) (sz 69) := by rw [i43, nI_1, sz_69]; exact vp_in_nI (by omega) (by omega)
  have k0 : (43 + 2 * nI n : Int32).toNatClampNeg = 43 + 2 * n := by rw [i43, nI_clamp (by omega)]
  have k1 : (43 + 2 * nI n + 1 : Int32).toNatClampNeg = 43 + 2 * n + 1 := by rw [i43, nI_1, nI_clamp (by omega)]
  rw [k0, k1]
  have nf : ¬ false = true := by decide
  have s1 := w_must nx.1 J (s := 16) (by omega)
  rw [← e1, ← eI1, ← eJ1, ← eb1] at s1
  obtain ⟨so1, mo1, sf1, mf1, sj1, s1⟩ := s1
  have fM1 : Fk kml M M1 := nx.2.2.1.ml.trans mf1.ml
  have r1 : M1 69 = M 69 := (krm_row mf1 (by omega) (by omega)).trans e69
  have m17 : M1 69 7 = nI n := by rw [r1]; exact lS.1
  rcases s1 with ⟨t1, p1, hp1, A1⟩ | ⟨t1, F1⟩
  rotate_left
  · have q2 : M2 = M1 := by rw [e2, x_here F1.1]
    have lx := sawL_x (M := M2) (by rw [q2]; exact F1.1) (by rw [q2]; exact m17) (by omega) a (43 + 2 * nI n) n 0 (opq 100) (by omega) (by rw [opq_eq]; omega)
    rw [show nI 0 = (0 : Int32) from rfl, ← eL] at lx
    have z : ¬ L 65 13 = 0 := by rw [lx.1, q2, F1.1]; decide
    simp only [t1, if_neg nf, if_neg z]
    rw [lx.1, q2]
    rw [q2] at lx
    exact ⟨⟨so1, True.intro⟩, ⟨nx.2.1, mo1, lx.2, True.intro⟩, Co.cr sf1, fM1, Or.inr ⟨(by first | rfl | exact True.intro), F1⟩⟩
  have ms1 : MS I I1 J1 (M1 69) (dr w + 5 + 1) k (I (dr w + 5 + 1)) := ⟨fun x x1 x2 _ => krc_row sf1 x1, krc_row sf1 (by omega), sf1 2 10 rfl, by rw [r1]; exact hN.cl (sf1 2 14 rfl) (krc_row sf1 (by omega)) (sj1.row (by omega))⟩
  have s2 := w_whole A1 J1 0 20
  rw [m_X6_wantsCell, opv_eq, u0_X6_wantsCell, opv_eq] at eI2
  rw [j_X6_wantsCell, opv_eq] at eJ2
  rw [f_X6_wantsCell, opv_eq] at eb2
  rw [ok_X6_wantsCell, opv_eq]
  rw [← e2, ← ea, ← eJ2] at s2
  obtain ⟨so2, sf2, mf2, sj2, s2⟩ := s2
  have fM2 : Fk kml M M2 := fM1.trans mf2.ml
  have r2 : M2 69 = M 69 := (krm_row mf2 (by omega) (by omega)).trans r1
  have m27 : M2 69 7 = nI n := by rw [r2]; exact lS.1
  rcases s2 with ⟨t2, q2, va, vb, iv, kd, p2, hp2, A2⟩ | ⟨t2, F2⟩
  rotate_left
  · have tb2 : b2 = false := by rw [eb2, t2]; rfl
    have ei2 : I2 = m_X6_wantsWhole I1 J1 0 20 := by rw [eI2, t2]; rfl
    have lx := sawL_x (M := M2) F2.1 m27 (by omega) a (43 + 2 * nI n) n 0 (opq 100) (by omega) (by rw [opq_eq]; omega)
    rw [show nI 0 = (0 : Int32) from rfl, ← eL] at lx
    have z : ¬ L 65 13 = 0 := by rw [lx.1, F2.1]; decide
    simp only [t1, tb2, if_true, if_neg nf, if_neg z]
    rw [lx.1, ei2]
    exact ⟨⟨so1, so2, True.intro⟩, ⟨nx.2.1, mo1, lx.2, True.intro⟩, (Co.cr sf1).trans (Co.cr sf2), fM2, Or.inr ⟨(by first | rfl | exact True.intro), F2⟩⟩
  have tb2 : b2 = true := by rw [eb2, t2]; rfl
  have hc3 : 3 ≤ dr w + 5 := by omega
  have hc12 : dr w + 5 ≠ 12 ∧ dr w + 5 ≠ 13 := by omega
  have ei2 : I2 = m_X7_put (m_X6_wantsWhole I1 J1 0 20) (dr w + 5) 0 a := by rw [eI2, t2, va, ← vb]; rfl
  have ms1' := ms1.krc (by omega) sf2 sj2
  have ew := ms1'.1 (dr w + 5) (by omega) (by omega) (by omega)
  have ei2' : I2 = va_up (m_X6_wantsWhole I1 J1 0 20) (dr w + 5 + 1) (upd (m_X6_wantsWhole I1 J1 0 20 (dr w + 5 + 1)) (n * 2 + 0) a) := by
    have tp := t_put (k := 0) (c := dr w + 5) (I := m_X6_wantsWhole I1 J1 0 20) a (by rw [ew]; exact tv.2.1) (by rw [ew]; exact tv.2.2.1) (room := 5) (by omega) (by omega) (by omega) tv.2.2.2.2.1 tv.2.2.2.2.2.1 (by omega)
    rw [show nI 0 = (0 : Int32) from rfl] at tp
    rw [ei2]
    exact tp
  have ms2 : MS I I2 J2 (M1 69) (dr w + 5 + 1) k (upd (I (dr w + 5 + 1)) (n * 2 + 0) a) := by
    rw [ei2']
    exact ms1'.up (by omega) (by omega) _ _
  have A2' : At I2 J2 M1 N p2 := A2.cl (fun j _ _ => by rw [ei2', vu_o _ _ (by omega)]) (by rw [ei2', vu_o _ _ (by omega)]) rfl (by rw [ei2', vu_o _ _ (by omega)])
  have e29 : I2 2 9 = a := by rw [ei2', vu_o _ _ (by omega), vb, va]
  have tb2s : TB I2 (M 69) (dr w + 5) n 2 5 43 := tb_keep tv (ms2.1 _ (by omega) (by omega) (by omega)) (fun j hj => by rw [ms2.2.1, upd_sl _ _ _ _ (by omega)])
  have co2 : Co (dr w) I I2 := ms2.co (by omega) (by omega) (by omega)
  have son := sawOn_eq hdr tb2s a
  rw [e29] at eso
  rw [← eso] at son
  have sl := sawL (M := M2) (by rw [q2]; exact A2.2.1) m27 (by omega) a (43 + 2 * nI n) n 0 (opq 100) (by omega) (by rw [opq_eq]; omega)
  rw [show nI 0 = (0 : Int32) from rfl, ← eL, r2] at sl
  by_cases qs : so = true
  · have el := sl.1 (by obtain ⟨i, x1, x2⟩ := son.mp qs; exact ⟨i, by omega, x1, x2⟩)
    have kf := at_fl A2' 3
    rw [q2] at el
    have z : ¬ L 65 13 = 0 := by rw [el, kf.1.1]; decide
    simp only [t1, tb2, qs, if_true, if_neg z]
    rw [el]
    exact ⟨⟨so1, so2, True.intro⟩, ⟨nx.2.1, mo1, sl.2.2, True.intro⟩, co2.trans (Co.cr kf.2.1), fM1.trans kf.2.2.ml, Or.inr ⟨(by first | rfl | exact True.intro), kf.1⟩⟩
  have el : L = M1 := by
    rw [← q2]
    exact sl.2.1 (fun i _ hi e => qs (son.mpr ⟨i, hi, e⟩))
  have A3 := at_ah A2' (by rw [kd]; decide)
  rw [← el, ← eU1] at A3
  have zL : L 65 13 = 0 := by rw [el]; exact A2.2.1
  have rU1 : U1 69 = M 69 := (krm_row A3.2.2.1 (by omega) (by omega)).trans (by rw [el]; exact r1)
  have fL : Fk kml M L := by rw [el]; exact fM1
  have fU1 : Fk kml M U1 := fL.trans A3.2.2.1.ml
  obtain ⟨wo1, wo2, wo3, wo4, wo5, wj, I', sf3, ⟨p3, hp3, A4⟩, wf, wm⟩ := w_who A3.1 J2 w
  rw [← ev, ← eI3] at wm
  rw [← ev, ← eb3] at wf
  rw [← eJ3] at A4 wj
  have mo3 : ok_X11_next L ∧ ok_X11_isWord U1 17 ∧ (if f_X11_isWord U1 17 = true then True else (ok_X11_isWord U1 18 ∧ (if f_X11_isWord U1 18 = true then True else (ok_X11_isWord U1 19 ∧ (if f_X11_isWord U1 19 = true then True else ok_X11_isWord U1 20))))) := ⟨A3.2.1, wo2, iT ⟨wo3, iT ⟨wo4, iT wo5⟩⟩⟩
  have qs' : so = false := by
    cases so
    · rfl
    · exact absurd rfl qs
  have vin := whoW_in U1
  rw [← ev] at vin
  rcases vin with vm | ⟨vin, kd2⟩
  · have kf := at_fl A4 1
    have eu : U3 = m_X11_wrong U1 1 (U1 65 4) := by rw [eU3, vm, if_neg (by decide)]
    have z : ¬ U3 65 13 = 0 := by rw [eu, kf.1.1]; decide
    rw [vm] at wf wm
    rw [if_pos rfl] at wf wm
    simp only [t1, tb2, qs', wf, if_true, if_neg nf, if_pos zL, if_neg z]
    rw [wm, eu]
    exact ⟨⟨so1, so2, wo1⟩, ⟨nx.2.1, mo1, sl.2.2, mo3.1, mo3.2.1, mo3.2.2, True.intro⟩, co2.trans ((Co.cr sf3).trans (Co.cr kf.2.1)), fU1.trans kf.2.2.ml, Or.inr ⟨(by first | rfl | exact True.intro), kf.1⟩⟩
  have v4 : 0 ≤ v ∧ ¬ v = -1 ∧ bw v 0 3 := by
    rcases vin with q | q | q | q <;> rw [q] <;> exact ⟨by decide, by decide, by decide, by decide⟩
  have eu : U3 = U1 := by rw [eU3, if_pos v4.1]
  have z : U3 65 13 = 0 := by rw [eu]; exact A4.2.1
  rw [if_neg v4.2.1] at wf wm
  have ms3 := ms2.krc (by omega) sf3 wj
  have ew3 := ms3.1 (dr w + 5) (by omega) (by omega) (by omega)
  have wm' : I3 = va_up I' (dr w + 5 + 1) (upd (I' (dr w + 5 + 1)) (n * 2 + 1) v) := by
    rw [wm, show (1 : Int32) = nI 1 from rfl]
    exact t_put v (by rw [ew3]; exact tv.2.1) (by rw [ew3]; exact tv.2.2.1) (room := 5) (by omega) (by omega) (by omega) tv.2.2.2.2.1 tv.2.2.2.2.2.1 (by omega)
  have ms4 : MS I I3 J3 (M1 69) (dr w + 5 + 1) k (upd (upd (I (dr w + 5 + 1)) (n * 2 + 0) a) (n * 2 + 1) v) := by
    rw [wm']
    exact ms3.up (by omega) (by omega) _ _
  have A4' : At I3 J3 U1 N p3 := A4.cl (fun j _ _ => by rw [wm', vu_o _ _ (by omega)]) (by rw [wm', vu_o _ _ (by omega)]) rfl (by rw [wm', vu_o _ _ (by omega)])
  have A5 := at_ah A4' (by rw [kd2]; decide)
  have ew4 := ms4.1 (dr w + 5) (by omega) (by omega) (by omega)
  simp only [t1, tb2, qs', wf, if_true, if_neg nf, if_pos zL, if_pos z]
  rw [eu, t_close (n := n) (room := 5) (by rw [ew4]; exact tv.1) (by rw [ew4]; exact tv.2.2.1) (by omega) (by omega)]
  obtain ⟨K, eK⟩ : ∃ X, X = m_X11_next U1 := ⟨_, rfl⟩
  rw [← eK] at A5 ⊢
  have rK : K 69 = M 69 := (krm_row A5.2.2.1 (by omega) (by omega)).trans rU1
  have fK : Fk kml M K := fU1.trans A5.2.2.1.ml
  rw [vu_vu, vu_s, vu_s, rK, upd_sl _ _ _ _ (show 7 ≠ 43 + 2 * n + 1 by omega), upd_sl _ _ _ _ (show 7 ≠ 43 + 2 * n by omega), lS.1, nI_1]
  have y5 := ((Xa.refl K).up (upd (upd (M 69) (43 + 2 * n) a) (43 + 2 * n + 1) v)).st 7 (nI (n + 1))
  obtain ⟨r', er'⟩ : ∃ X, X = st2 (va_up K 69 (upd (upd (M 69) (43 + 2 * n) a) (43 + 2 * n + 1) v)) 69 7 (nI (n + 1)) 69 := ⟨_, rfl⟩
  have er2 : r' = upd (upd (upd (M 69) (43 + 2 * n) a) (43 + 2 * n + 1) v) 7 (nI (n + 1)) := by rw [er', st2_row, vu_s]
  have hq : r' 7 = nI (n + 1) := by rw [er2, pk_us]
  have g1 : r' (43 + 2 * n + 1) = v := by rw [er2, upd_sl _ _ _ _ (by omega), pk_us]
  have g0 : r' (43 + 2 * n) = a := by rw [er2, upd_sl _ _ _ _ (by omega), upd_sl _ _ _ _ (by omega), pk_us]
  have go : ∀ j, j ≠ 7 → ¬ (43 + 2 * n ≤ j ∧ j < 43 + 2 * n + 2) → r' j = M 69 j := by
    intro j h1 h2
    rw [er2, upd_sl _ _ _ _ h1, upd_sl _ _ _ _ (by omega), upd_sl _ _ _ _ (by omega)]
  have ho : ∀ j, j < 80 → j ≠ 7 → ¬ (43 + 2 * n ≤ j ∧ j < 43 + 2 * n + 2) → r' j = M 69 j := fun j _ h1 h2 => go j h1 h2
  refine ⟨⟨so1, so2, wo1⟩, ⟨nx.2.1, mo1, sl.2.2, mo3.1, mo3.2.1, mo3.2.2, A5.2.1, v0, v1⟩, ?_, fK.trans y5.ml, Or.inl ⟨(by first | rfl | exact True.intro), ⟨p3, by omega, ?_⟩, ⟨k, ?_⟩, ?_⟩⟩
  · exact (ms4.co (by omega) (by omega) (by omega)).st (by omega) (by omega) (by omega)
  · refine (A5.1.cl ?_ ?_ ?_ ?_).mo (y5 65 (by omega)) (y5 66 (by omega)) (y5 67 (by omega))
    · rw [st2_a _ _ (by omega)]
    · rw [st2_a _ _ (by omega)]
    · rw [st2_orow _ _ _ (by omega)]
    · rw [st2_a _ _ (by omega)]
  · rw [← er']
    refine ⟨rb_saw hb en hv hq ho ⟨?_, ?_⟩, tr_saw hT hb en hv hq ho ?_ ?_ ?_ ?_, ?_, ⟨?_, ?_⟩, ?_, ?_, ?_⟩
    · rw [g0, va]; exact inb_bw (lo := 0) (hi := 20) iv (by omega) (by omega)
    · rw [g1]; exact v4.2.2
    · rw [st2_row, ew4]
    · intro j hj
      rw [st2_orow _ _ _ (by omega), ms4.2.1, upd_sl _ _ _ _ (by omega), upd_sl _ _ _ _ (by omega)]
    · intro i hi
      rw [st2_orow _ _ _ (by omega), ms4.2.1]
      have q : i = 0 ∨ i = 1 := by omega
      rcases q with rfl | rfl
      · rw [upd_sl _ _ _ _ (by omega), pk_us, show 43 + (n * 2 + 0) = 43 + 2 * n by omega, g0]
      · rw [pk_us, show 43 + (n * 2 + 1) = 43 + 2 * n + 1 by omega, g1]
    · intro x x1 x2 x3 x4
      rw [st2_orow _ _ _ x3]
      have y2 : x ≠ 2 := by clear x3 x4; omega
      have y13 : x ≠ 13 := by clear x3 x4; omega
      exact ms4.1 x y2 y13 x4
    · refine (ms4.2.2.2.cl ?_ ?_ rfl).mo (fun j hj => ?_)
      · rw [st2_a _ _ (by omega)]
      · rw [st2_orow _ _ _ (by omega)]
      · rw [go j (by omega) (by omega), r1]
    · rw [ho 8 (by omega) (by omega) (by omega), ho 5 (by omega) (by omega) (by omega), ho 6 (by omega) (by omega) (by omega)]; exact hU.1
    · intro m hm hno
      rw [ho 8 (by omega) (by omega) (by omega), ho 5 (by omega) (by omega) (by omega), ho 6 (by omega) (by omega) (by omega)] at hno
      rw [go (80 + m) (by omega) (by omega)]
      exact hU.2 m hm hno
    · rw [st2_a _ _ (by omega), ms4.2.2.1, hw1, ho 12 (by omega) (by omega) (by omega)]
    · rw [ho 12 (by omega) (by omega) (by omega)]; exact hw2
    · rw [ho 11 (by omega) (by omega) (by omega)]; exact hw3
  · rw [← er', ho 11 (by omega) (by omega) (by omega)]; exact h11
