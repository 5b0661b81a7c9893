/-! ===== plans ===== -/
theorem i25 (n : Nat) : (25 + 3 * nI n : Int32) = nI (25 + 3 * n) := by rw [show (25 : Int32) = nI 25 from rfl, i3]
theorem sh_plan {M M0 M1 M2 M3 M4 : Mm} {c a b d : Int32} (h13 : M 65 13 = 0) (e0 : M0 = m_X11_next M) (ec : c = M0 69 6) (e1 : M1 = m_X11_newName M0 (10 + c)) (e2 : M2 = m_X11_after M1 14 0 20) (ea : a = f_X11_after M1 14 0 20) (e3 : M3 = m_X11_weather (va_up M2 69 (upd (M2 69) (25 + 3 * c).toNatClampNeg a))) (eb : b = f_X11_weather (va_up M2 69 (upd (M2 69) (25 + 3 * c).toNatClampNeg a))) (e4 : M4 = m_X11_after (va_up M3 69 (upd (M3 69) (25 + 3 * c + 1).toNatClampNeg b)) 15 0 99) (ed : d = f_X11_after (va_up M3 69 (upd (M3 69) (25 + 3 * c + 1).toNatClampNeg b)) 15 0 99) : m_X11_planLine M = (if M4 65 13 = 0 then st2 (va_up M4 69 (upd (M4 69) (25 + 3 * c + 2).toNatClampNeg d)) 69 6 (va_up M4 69 (upd (M4 69) (25 + 3 * c + 2).toNatClampNeg d) 69 6 + 1) else va_up M4 69 (upd (M4 69) (25 + 3 * c + 2).toNatClampNeg d)) ∧ (ok_X11_planLine M ↔ (ok_X11_next M ∧ ok_X11_newName M0 (10 + c) ∧ ok_X11_after M1 14 0 20 ∧ vp_in (25 + 3 * c) (sz 69) ∧ ok_X11_weather (va_up M2 69 (upd (M2 69) (25 + 3 * c).toNatClampNeg a)) ∧ vp_in (25 + 3 * c + 1) (sz 69) ∧ ok_X11_after (va_up M3 69 (upd (M3 69) (25 + 3 * c + 1).toNatClampNeg b)) 15 0 99 ∧ vp_in (25 + 3 * c + 2) (sz 69))) := by
  subst ed e4 eb e3 ea e2 e1 ec e0
  rw [m_X11_planLine, ok_X11_planLine, opv_eq, opv_eq, if_pos h13, if_pos h13, u3_X11_planLine, opv_eq, u2_X11_planLine, opv_eq, u1_X11_planLine, opv_eq, u0_X11_planLine, opv_eq]
  exact ⟨rfl, Iff.rfl⟩
theorem sc_plan {I I1 I2 I3 I4 I5 I6 : Mm} {J J1 J2 J3 J4 J5 J6 : Nat → Nat → Int64} {w : Bool} {b1 b2 b3 b4 b5 b6 : Bool} (eI1 : I1 = m_X6_wantsNewName I J (-1)) (eJ1 : J1 = j_X6_wantsNewName I J (-1)) (eb1 : b1 = f_X6_wantsNewName I J (-1)) (eI2 : I2 = m_X6_wants I1 J1 14) (eJ2 : J2 = j_X6_wants I1 J1 14) (eb2 : b2 = f_X6_wants I1 J1 14) (eI3 : I3 = m_X6_wantsCell I2 J2 (dr w + 3) 0 0 20) (eJ3 : J3 = j_X6_wantsCell I2 J2 (dr w + 3) 0 0 20) (eb3 : b3 = f_X6_wantsCell I2 J2 (dr w + 3) 0 0 20) (eI4 : I4 = m_X6_wantsWeather I3 J3 (dr w + 3) 1) (eJ4 : J4 = j_X6_wantsWeather I3 J3 (dr w + 3) 1) (eb4 : b4 = f_X6_wantsWeather I3 J3 (dr w + 3) 1) (eI5 : I5 = m_X6_wants I4 J4 15) (eJ5 : J5 = j_X6_wants I4 J4 15) (eb5 : b5 = f_X6_wants I4 J4 15) (eI6 : I6 = m_X6_wantsCell I5 J5 (dr w + 3) 2 0 99) (eJ6 : J6 = j_X6_wantsCell I5 J5 (dr w + 3) 2 0 99) (eb6 : b6 = f_X6_wantsCell I5 J5 (dr w + 3) 2 0 99) : f_X6_readPlan I J w = (if b1 = true then (if b2 = true then (if b3 = true then (if b4 = true then (if b5 = true then (if b6 = true then true else false) else false) else false) else false) else false) else false) ∧ m_X6_readPlan I J w = (if b1 = true then (if b2 = true then (if b3 = true then (if b4 = true then (if b5 = true then (if b6 = true then m_X6_closes I6 (dr w + 3) else I6) else I5) else I4) else I3) else I2) else I1) ∧ j_X6_readPlan I J w = (if b1 = true then (if b2 = true then (if b3 = true then (if b4 = true then (if b5 = true then J6 else J5) else J4) else J3) else J2) else J1) ∧ (ok_X6_readPlan I J w ↔ (ok_X6_wantsNewName I J (-1) ∧ (if b1 = true then (ok_X6_wants I1 J1 14 ∧ (if b2 = true then (ok_X6_wantsCell I2 J2 (dr w + 3) 0 0 20 ∧ (if b3 = true then (ok_X6_wantsWeather I3 J3 (dr w + 3) 1 ∧ (if b4 = true then (ok_X6_wants I4 J4 15 ∧ (if b5 = true then ok_X6_wantsCell I5 J5 (dr w + 3) 2 0 99 else True)) else True)) else True)) else True)) else True))) := by
  subst eb6 eJ6 eI6 eb5 eJ5 eI5 eb4 eJ4 eI4 eb3 eJ3 eI3 eb2 eJ2 eI2 eb1 eJ1 eI1
  rw [f_X6_readPlan, m_X6_readPlan, j_X6_readPlan, ok_X6_readPlan, opv_eq, opv_eq, opv_eq, opv_eq, u8_X6_readPlan, u9_X6_readPlan, u10_X6_readPlan, opv_eq, opv_eq, opv_eq, u7_X6_readPlan, u6_X6_readPlan, opv_eq, opv_eq, u5_X6_readPlan, u4_X6_readPlan, opv_eq, opv_eq, u3_X6_readPlan, u2_X6_readPlan, opv_eq, opv_eq, u1_X6_readPlan, u0_X6_readPlan, opv_eq, opv_eq, rt_8 (dr_or w), f_X6_closes, opv_eq]
  exact ⟨rfl, rfl, rfl, Iff.rfl⟩
theorem l_plan {I M : Mm} {J : Nat → Nat → Int64} {N p k : Nat} {w : Bool} (h : At I J M N p) (h6 : M 65 6 = 2) (ls : LSt I J (M 69) (dr w) k) (hv : (M 69 6).toNatClampNeg < 6) (h11 : M 69 11 = 1) : ok_X6_readPlan I J w ∧ ok_X11_planLine M ∧ Co (dr w) I (m_X6_readPlan I J w) ∧ Fk kml M (m_X11_planLine M) ∧ Res (f_X6_readPlan I J w) (m_X6_readPlan I J w) (j_X6_readPlan I J w) (m_X11_planLine M) N p (dr w) := by
  have nx := at_ah h (by rw [h6]; decide)
  have e69 := krm_row nx.2.2.1 (a := 69) (by omega) (by omega)
  have h13 := h.2.1
  obtain ⟨hb, hT, hN, hU, hw1, hw2, hw3⟩ := ls
  have lV := hb.nV.2
  have lP := hb.nP
  have lF := hb.nF.2
  have tv := hT.2.2.2.2.2.2.2.2.2.1
  have hdr := dr_or w
  obtain ⟨n, en⟩ : ∃ n, n = (M 69 6).toNatClampNeg := ⟨_, rfl⟩
  rw [← en] at lP hv tv
  obtain ⟨M0, e0⟩ : ∃ X, X = m_X11_next M := ⟨_, rfl⟩
  rw [← e0] at nx e69
  have ec : nI n = M0 69 6 := by rw [e69]; exact lP.1.symm
  obtain ⟨M1, e1⟩ : ∃ X, X = m_X11_newName M0 (10 + nI n) := ⟨_, rfl⟩
  obtain ⟨M2, e2⟩ : ∃ X, X = m_X11_after M1 14 0 20 := ⟨_, rfl⟩
  obtain ⟨a, ea⟩ : ∃ X, X = f_X11_after M1 14 0 20 := ⟨_, rfl⟩
  obtain ⟨M3, e3⟩ : ∃ X, X = m_X11_weather (va_up M2 69 (upd (M2 69) (25 + 3 * nI n).toNatClampNeg a)) := ⟨_, rfl⟩
  obtain ⟨b, eb⟩ : ∃ X, X = f_X11_weather (va_up M2 69 (upd (M2 69) (25 + 3 * nI n).toNatClampNeg a)) := ⟨_, rfl⟩
  obtain ⟨M4, e4⟩ : ∃ X, X = m_X11_after (va_up M3 69 (upd (M3 69) (25 + 3 * nI n + 1).toNatClampNeg b)) 15 0 99 := ⟨_, rfl⟩
  obtain ⟨d, ed⟩ : ∃ X, X = f_X11_after (va_up M3 69 (upd (M3 69) (25 + 3 * nI n + 1).toNatClampNeg b)) 15 0 99 := ⟨_, rfl⟩
  have sh := sh_plan h13 e0 ec e1 e2 ea e3 eb e4 ed
  obtain ⟨I1, eI1⟩ : ∃ X, X = m_X6_wantsNewName I J (-1) := ⟨_, rfl⟩
  obtain ⟨J1, eJ1⟩ : ∃ X, X = j_X6_wantsNewName I J (-1) := ⟨_, rfl⟩
  obtain ⟨b1, eb1⟩ : ∃ X, X = f_X6_wantsNewName I J (-1) := ⟨_, rfl⟩
  obtain ⟨I2, eI2⟩ : ∃ X, X = m_X6_wants I1 J1 14 := ⟨_, rfl⟩
  obtain ⟨J2, eJ2⟩ : ∃ X, X = j_X6_wants I1 J1 14 := ⟨_, rfl⟩
  obtain ⟨b2, eb2⟩ : ∃ X, X = f_X6_wants I1 J1 14 := ⟨_, rfl⟩
  obtain ⟨I3, eI3⟩ : ∃ X, X = m_X6_wantsCell I2 J2 (dr w + 3) 0 0 20 := ⟨_, rfl⟩
  obtain ⟨J3, eJ3⟩ : ∃ X, X = j_X6_wantsCell I2 J2 (dr w + 3) 0 0 20 := ⟨_, rfl⟩
  obtain ⟨b3, eb3⟩ : ∃ X, X = f_X6_wantsCell I2 J2 (dr w + 3) 0 0 20 := ⟨_, rfl⟩
  obtain ⟨I4, eI4⟩ : ∃ X, X = m_X6_wantsWeather I3 J3 (dr w + 3) 1 := ⟨_, rfl⟩
  obtain ⟨J4, eJ4⟩ : ∃ X, X = j_X6_wantsWeather I3 J3 (dr w + 3) 1 := ⟨_, rfl⟩
  obtain ⟨b4, eb4⟩ : ∃ X, X = f_X6_wantsWeather I3 J3 (dr w + 3) 1 := ⟨_, rfl⟩
  obtain ⟨I5, eI5⟩ : ∃ X, X = m_X6_wants I4 J4 15 := ⟨_, rfl⟩
  obtain ⟨J5, eJ5⟩ : ∃ X, X = j_X6_wants I4 J4 15 := ⟨_, rfl⟩
  obtain ⟨b5, eb5⟩ : ∃ X, X = f_X6_wants I4 J4 15 := ⟨_, rfl⟩
  obtain ⟨I6, eI6⟩ : ∃ X, X = m_X6_wantsCell I5 J5 (dr w + 3) 2 0 99 := ⟨_, rfl⟩
  obtain ⟨J6, eJ6⟩ : ∃ X, X = j_X6_wantsCell I5 J5 (dr w + 3) 2 0 99 := ⟨_, rfl⟩
  obtain ⟨b6, eb6⟩ : ∃ X, X = f_X6_wantsCell I5 J5 (dr w + 3) 2 0 99 := ⟨_, rfl⟩
  have sc := sc_plan (w := w) eI1 eJ1 eb1 eI2 eJ2 eb2 eI3 eJ3 eb3 eI4 eJ4 eb4 eI5 eJ5 eb5 eI6 eJ6 eb6
  rw [sh.1, sh.2, sc.1, sc.2.1, sc.2.2.1, sc.2.2.2]
  clear sh sc
  have v0 : vp_in (25 + 3 * nI n) (sz 69) := by rw [i25, sz_69]; exact vp_in_nI (by omega) (by omega)
  have v1 : vp_in (25 + 3 * nI n + 1) (sz 69) := by rw [i25, nI_1, sz_69]; exact vp_in_nI (by omega) (by omega)
  have v2 : vp_in (25 + 3 * nI n + 2) (sz 69) := by rw [i25, show (2 : Int32) = nI 2 from rfl, nI_add, sz_69]; exact vp_in_nI (by omega) (by omega)
  have k0 : (25 + 3 * nI n : Int32).toNatClampNeg = 25 + 3 * n := by rw [i25, nI_clamp (by omega)]
  have k1 : (25 + 3 * nI n + 1 : Int32).toNatClampNeg = 25 + 3 * n + 1 := by rw [i25, nI_1, nI_clamp (by omega)]
  have k2 : (25 + 3 * nI n + 2 : Int32).toNatClampNeg = 25 + 3 * n + 2 := by rw [i25, show (2 : Int32) = nI 2 from rfl, nI_add, nI_clamp (by omega)]
  rw [k0] at e3 eb ⊢
  rw [k1] at e4 ed ⊢
  rw [k2]
  have nf : ¬ false = true := by decide
  have e10 : (10 + nI n : Int32) = nI (10 + n) := by rw [show (10 : Int32) = nI 10 from rfl, nI_add]
  rw [e10] at e1 ⊢
  have hk : k < 16 := by have := hU.1; omega
  have s1 := w_newName (n := 10 + n) nx.1 J (by rw [e69]; exact hN) hk (by omega) (by rw [e69]; exact us_free hU (by omega) (by omega)) (x := -1) (by rw [if_neg (by omega)])
  rw [← e1, ← eI1, ← eJ1, ← eb1] at s1
  obtain ⟨so1, mo1, sf1, mf1, s1⟩ := s1
  have fM1 : Fk kml M M1 := nx.2.2.1.ml.trans mf1
  have co1 : Co (dr w) I I1 := Co.cn sf1
  rcases s1 with ⟨t1, ⟨p1, hp1, A1⟩, N1, R1, R2⟩ | ⟨t1, F1⟩
  rotate_left
  · have y2 := xa_after (Xa.refl M1) F1.1 14 0 20
    rw [← e2] at y2
    have y3 := xa_weather (y2.1.up (upd (M2 69) (25 + 3 * n) a)) F1.1
    rw [← e3] at y3
    have y4 := xa_after (y3.1.up (upd (M3 69) (25 + 3 * n + 1) b)) F1.1 15 0 99
    rw [← e4] at y4
    have z : ¬ M4 65 13 = 0 := by rw [y4.1.e F1.1]; decide
    have y5 := y4.1.up (upd (M4 69) (25 + 3 * n + 2) d)
    simp only [t1, if_neg nf, if_neg z]
    exact ⟨⟨so1, True.intro⟩, ⟨nx.2.1, mo1, y2.2, v0, y3.2, v1, y4.2, v2⟩, co1, fM1.trans y5.ml, Or.inr ⟨(by first | rfl | exact True.intro), y5.fl F1⟩⟩
  have ms1 : MS I I1 J1 (M1 69) (dr w + 3 + 1) (k + 1) (I (dr w + 3 + 1)) := ⟨fun x x1 x2 _ => funext fun j => sf1 x j (by unfold krn krc; simp [x1, x2]), funext fun j => sf1 _ j (by unfold krn krc; rcases hdr with q | q <;> rw [q] <;> simp), sf1 2 10 rfl, N1⟩
  have hc3 : 3 ≤ dr w + 3 := by omega
  have hc12 : dr w + 3 ≠ 12 ∧ dr w + 3 ≠ 13 := by rcases hdr with q | q <;> rw [q] <;> exact ⟨by decide, by decide⟩
  have s2 := w_must A1 J1 (s := 14) (by omega)
  rw [← eI2, ← eJ2, ← eb2] at s2
  obtain ⟨so2, mo2, sf2, mf2, sj2, s2⟩ := s2
  rw [m_X11_after, opv_eq] at e2
  rw [f_X11_after, opv_eq] at ea
  have oka : ok_X11_after M1 14 0 20 = (ok_X11_must M1 14 ∧ ok_X11_number (m_X11_must M1 14) 0 20) := by rw [ok_X11_after, opv_eq]
  rw [oka]
  obtain ⟨K, eK⟩ : ∃ X, X = m_X11_must M1 14 := ⟨_, rfl⟩
  rw [← eK] at s2 e2 ea mf2 ⊢
  have fK : Fk kml M K := fM1.trans mf2.ml
  have rK : K 69 = M1 69 := krm_row mf2 (by omega) (by omega)
  rcases s2 with ⟨t2, p2, hp2, A2⟩ | ⟨t2, F2⟩
  rotate_left
  · have y2 := xa_number (Xa.refl K) F2.1 0 20
    rw [← e2] at y2
    have y3 := xa_weather (y2.1.up (upd (M2 69) (25 + 3 * n) a)) F2.1
    rw [← e3] at y3
    have y4 := xa_after (y3.1.up (upd (M3 69) (25 + 3 * n + 1) b)) F2.1 15 0 99
    rw [← e4] at y4
    have z : ¬ M4 65 13 = 0 := by rw [y4.1.e F2.1]; decide
    have y5 := y4.1.up (upd (M4 69) (25 + 3 * n + 2) d)
    simp only [t1, t2, if_true, if_neg nf, if_neg z]
    exact ⟨⟨so1, so2, True.intro⟩, ⟨nx.2.1, mo1, ⟨mo2, y2.2⟩, v0, y3.2, v1, y4.2, v2⟩, co1.trans (Co.cr sf2), fK.trans y5.ml, Or.inr ⟨(by first | rfl | exact True.intro), y5.fl F2⟩⟩
  have ms2 := ms1.krc (by omega) sf2 sj2
  have co2 : Co (dr w) I I2 := ms2.co (by omega) (by omega) (by omega)
  have s3 := w_cell A2 J2 (dr w + 3) 0 0 20
  rw [← e2, ← ea, ← eI3, ← eJ3, ← eb3] at s3
  obtain ⟨so3, mo3, mf3, sj3, s3⟩ := s3
  have fM2 : Fk kml M M2 := fK.trans mf3.ml
  have r2 : M2 69 = M1 69 := (krm_row mf3 (by omega) (by omega)).trans rK
  rcases s3 with ⟨t3, av, I3', eput3, sf3, _, p3, hp3, A3⟩ | ⟨t3, sf3, F3⟩
  rotate_left
  · have y3 := xa_weather ((Xa.refl M2).up (upd (M2 69) (25 + 3 * n) a)) F3.1
    rw [← e3] at y3
    have y4 := xa_after (y3.1.up (upd (M3 69) (25 + 3 * n + 1) b)) F3.1 15 0 99
    rw [← e4] at y4
    have z : ¬ M4 65 13 = 0 := by rw [y4.1.e F3.1]; decide
    have y5 := y4.1.up (upd (M4 69) (25 + 3 * n + 2) d)
    simp only [t1, t2, t3, if_true, if_neg nf, if_neg z]
    exact ⟨⟨so1, so2, so3, True.intro⟩, ⟨nx.2.1, mo1, ⟨mo2, mo3⟩, v0, y3.2, v1, y4.2, v2⟩, co2.trans (Co.cr sf3), fM2.trans y5.ml, Or.inr ⟨(by first | rfl | exact True.intro), y5.fl F3⟩⟩
  have ms3 := ms_put (M := M2) (N := N) (p := p3) a (ms2.krc (by omega) sf3 sj3) hc3 hc12 tv.2.1 tv.2.2.1 (room := 6) (by omega) (by omega) (by omega) tv.2.2.2.2.1 tv.2.2.2.2.2.1 (col := 0) (by omega) (x := 0) rfl
  rw [← eput3] at ms3
  have ms3' := ms3.1.mo (r' := upd (M2 69) (25 + 3 * n) a) (fun j hj => by rw [upd_sl _ _ _ _ (by omega), r2])
  have A3' : Ah I3 (va_up M2 69 (upd (M2 69) (25 + 3 * n) a)) N p3 := (ms3.2 A3).mo (vu_o _ _ (by omega)) (vu_o _ _ (by omega)) (vu_o _ _ (by omega))
  have co3 : Co (dr w) I I3 := ms3'.co (by omega) (by omega) (by omega)
  have s4 := w_weather A3' J3 (dr w + 3) 1
  rw [← e3, ← eb, ← eI4, ← eJ4, ← eb4] at s4
  obtain ⟨so4, mo4, mf4, sj4, s4⟩ := s4
  have fM3 : Fk kml M M3 := (fM2.trans ((Xa.refl M2).up (upd (M2 69) (25 + 3 * n) a)).ml).trans mf4.ml
  have r3 : M3 69 = upd (M2 69) (25 + 3 * n) a := by rw [krm_row mf4 (by omega) (by omega), vu_s]
  rcases s4 with ⟨t4, bv, eput4, sf4, p4, hp4, A4⟩ | ⟨t4, sf4, F4⟩
  rotate_left
  · have y4 := xa_after ((Xa.refl M3).up (upd (M3 69) (25 + 3 * n + 1) b)) F4.1 15 0 99
    rw [← e4] at y4
    have z : ¬ M4 65 13 = 0 := by rw [y4.1.e F4.1]; decide
    have y5 := y4.1.up (upd (M4 69) (25 + 3 * n + 2) d)
    simp only [t1, t2, t3, t4, if_true, if_neg nf, if_neg z]
    exact ⟨⟨so1, so2, so3, so4, True.intro⟩, ⟨nx.2.1, mo1, ⟨mo2, mo3⟩, v0, mo4, v1, y4.2, v2⟩, co3.trans (Co.cr sf4), fM3.trans y5.ml, Or.inr ⟨(by first | rfl | exact True.intro), y5.fl F4⟩⟩
  have hj4 : JF J3 (j_X6_nextToken I3 J3) := by
    rw [eJ4, j_X6_wantsWeather, opv_eq] at sj4; exact sj4
  have eJ4' : J4 = j_X6_nextToken I3 J3 := by rw [eJ4, j_X6_wantsWeather, opv_eq]
  have ms4 := ms_put (M := M3) (N := N) (p := p4) b (ms3'.krc (by omega) sf4 hj4) hc3 hc12 tv.2.1 tv.2.2.1 (room := 6) (by omega) (by omega) (by omega) tv.2.2.2.2.1 tv.2.2.2.2.2.1 (col := 1) (by omega) (x := 1) rfl
  rw [← eput4, ← eJ4'] at ms4
  have ms4' := ms4.1.mo (r' := upd (M3 69) (25 + 3 * n + 1) b) (fun j hj => by rw [upd_sl _ _ _ _ (by omega), r3])
  have A4' : Ah I4 (va_up M3 69 (upd (M3 69) (25 + 3 * n + 1) b)) N p4 := (ms4.2 A4).mo (vu_o _ _ (by omega)) (vu_o _ _ (by omega)) (vu_o _ _ (by omega))
  have co4 : Co (dr w) I I4 := ms4'.co (by omega) (by omega) (by omega)
  have s5 := w_must A4' J4 (s := 15) (by omega)
  rw [← eI5, ← eJ5, ← eb5] at s5
  obtain ⟨so5, mo5, sf5, mf5, sj5, s5⟩ := s5
  rw [m_X11_after, opv_eq] at e4
  rw [f_X11_after, opv_eq] at ed
  rw [ok_X11_after, opv_eq]
  obtain ⟨Q, eQ⟩ : ∃ X, X = m_X11_must (va_up M3 69 (upd (M3 69) (25 + 3 * n + 1) b)) 15 := ⟨_, rfl⟩
  rw [← eQ] at s5 e4 ed mf5 ⊢
  have fQ : Fk kml M Q := (fM3.trans ((Xa.refl M3).up (upd (M3 69) (25 + 3 * n + 1) b)).ml).trans mf5.ml
  have rQ : Q 69 = upd (M3 69) (25 + 3 * n + 1) b := by rw [krm_row mf5 (by omega) (by omega), vu_s]
  rcases s5 with ⟨t5, p5, hp5, A5⟩ | ⟨t5, F5⟩
  rotate_left
  · have y4 := xa_number (Xa.refl Q) F5.1 0 99
    rw [← e4] at y4
    have z : ¬ M4 65 13 = 0 := by rw [y4.1.e F5.1]; decide
    have y5 := y4.1.up (upd (M4 69) (25 + 3 * n + 2) d)
    simp only [t1, t2, t3, t4, t5, if_true, if_neg nf, if_neg z]
    exact ⟨⟨so1, so2, so3, so4, so5, True.intro⟩, ⟨nx.2.1, mo1, ⟨mo2, mo3⟩, v0, mo4, v1, ⟨mo5, y4.2⟩, v2⟩, co4.trans (Co.cr sf5), fQ.trans y5.ml, Or.inr ⟨(by first | rfl | exact True.intro), y5.fl F5⟩⟩
  have ms5 := ms4'.krc (by omega) sf5 sj5
  rw [← rQ] at ms5
  have s6 := w_cell A5 J5 (dr w + 3) 2 0 99
  rw [← e4, ← ed, ← eI6, ← eJ6, ← eb6] at s6
  obtain ⟨so6, mo6, mf6, sj6, s6⟩ := s6
  have fM4 : Fk kml M M4 := fQ.trans mf6.ml
  have r4 : M4 69 = Q 69 := krm_row mf6 (by omega) (by omega)
  have co5 : Co (dr w) I I5 := ms5.co (by omega) (by omega) (by omega)
  rcases s6 with ⟨t6, dv, I6', eput6, sf6, _, p6, hp6, A6⟩ | ⟨t6, sf6, F6⟩
  rotate_left
  · have z : ¬ M4 65 13 = 0 := by rw [F6.1]; decide
    have y5 := (Xa.refl M4).up (upd (M4 69) (25 + 3 * n + 2) d)
    simp only [t1, t2, t3, t4, t5, t6, if_true, if_neg nf, if_neg z]
    exact ⟨⟨so1, so2, so3, so4, so5, so6⟩, ⟨nx.2.1, mo1, ⟨mo2, mo3⟩, v0, mo4, v1, ⟨mo5, mo6⟩, v2⟩, co5.trans (Co.cr sf6), fM4.trans y5.ml, Or.inr ⟨(by first | rfl | exact True.intro), y5.fl F6⟩⟩
  have ms6 := ms_put (M := M4) (N := N) (p := p6) d (ms5.krc (by omega) sf6 sj6) hc3 hc12 tv.2.1 tv.2.2.1 (room := 6) (by omega) (by omega) (by omega) tv.2.2.2.2.1 tv.2.2.2.2.2.1 (col := 2) (by omega) (x := 2) rfl
  rw [← eput6] at ms6
  have A6' := ms6.2 A6
  have ec6 := ms6.1.1 (dr w + 3) (by omega) (by omega) (by omega)
  have m46 : M4 69 6 = nI n := by
    rw [r4, rQ, upd_sl _ _ _ _ (by omega), r3, upd_sl _ _ _ _ (by omega), r2, R1 6 (by omega), ec]
  rw [t_close (n := n) (room := 6) (by rw [ec6]; exact tv.1) (by rw [ec6]; exact tv.2.2.1) (by omega) (by omega)]
  have y5 := (((Xa.refl M4).up (upd (M4 69) (25 + 3 * n + 2) d))).st 6 (nI (n + 1))
  simp only [t1, t2, t3, t4, t5, t6, if_true, if_pos A6.2.1]
  rw [vu_s, upd_sl _ _ _ _ (show 6 ≠ 25 + 3 * n + 2 by omega), m46, nI_1]
  obtain ⟨r', er'⟩ : ∃ X, X = st2 (va_up M4 69 (upd (M4 69) (25 + 3 * n + 2) d)) 69 6 (nI (n + 1)) 69 := ⟨_, rfl⟩
  have er2 : r' = upd (upd (M4 69) (25 + 3 * n + 2) d) 6 (nI (n + 1)) := by rw [er', st2_row, vu_s]
  have hq : r' 6 = nI (n + 1) := by rw [er2, pk_us]
  have g2 : r' (25 + 3 * n + 2) = d := by rw [er2, upd_sl _ _ _ _ (by omega), pk_us]
  have g1 : r' (25 + 3 * n + 1) = b := by rw [er2, upd_sl _ _ _ _ (by omega), upd_sl _ _ _ _ (by omega), r4, rQ, pk_us]
  have g0 : r' (25 + 3 * n) = a := by rw [er2, upd_sl _ _ _ _ (by omega), upd_sl _ _ _ _ (by omega), r4, rQ, upd_sl _ _ _ _ (by omega), r3, pk_us]
  have go : ∀ j, j ≠ 6 → ¬ (25 + 3 * n ≤ j ∧ j < 25 + 3 * n + 3) → r' j = M1 69 j := by
    intro j h1 h2
    rw [er2, upd_sl _ _ _ _ h1, upd_sl _ _ _ _ (by omega), r4, rQ, upd_sl _ _ _ _ (by omega), r3, upd_sl _ _ _ _ (by omega), r2]
  have ho : ∀ j, j < 80 → j ≠ 6 → ¬ (25 + 3 * n ≤ j ∧ j < 25 + 3 * n + 3) → r' j = M 69 j := fun j hj h1 h2 => by rw [go j h1 h2, R1 j hj, e69]
  refine ⟨⟨so1, so2, so3, so4, so5, so6⟩, ⟨nx.2.1, mo1, ⟨mo2, mo3⟩, v0, mo4, v1, ⟨mo5, mo6⟩, v2⟩, ?_, fM4.trans y5.ml, Or.inl ⟨(by first | rfl | exact True.intro), ⟨p6, by omega, ?_⟩, ⟨k + 1, ?_⟩, ?_⟩⟩
  · exact (ms6.1.co (by omega) (by omega) (by omega)).st (by omega) (by omega) (by omega)
  · refine (A6'.cl ?_ ?_ ?_ ?_).mo (y5 65 (by omega)) (y5 66 (by omega)) (y5 67 (by omega))
    · rw [st2_a _ _ (by omega)]
    · rw [st2_a _ _ (by omega)]
    · rw [st2_orow _ _ _ (by omega)]
    · rw [st2_a _ _ (by omega)]
  · rw [← er']
    refine ⟨rb_plan hb en hv hq ho ⟨?_, ?_, ?_⟩, tr_plan hT hb en hv hq ho ?_ ?_ ?_ ?_, ?_, ⟨?_, ?_⟩, ?_, ?_, ?_⟩
    · rw [g0]; exact inb_bw (lo := 0) (hi := 20) av (by omega) (by omega)
    · rw [g1]
      rcases bv with q | q <;> rw [q] <;> exact ⟨by decide, by decide⟩
    · rw [g2]; exact inb_bw (lo := 0) (hi := 99) dv (by omega) (by omega)
    · rw [st2_row, ec6]
    · intro j hj
      rw [st2_orow _ _ _ (by omega), ms6.1.2.1, upd_sl _ _ _ _ (by omega), upd_sl _ _ _ _ (by omega), upd_sl _ _ _ _ (by omega)]
    · intro i hi
      rw [st2_orow _ _ _ (by omega), ms6.1.2.1]
      have q : i = 0 ∨ i = 1 ∨ i = 2 := by omega
      rcases q with rfl | rfl | rfl
      · rw [upd_sl _ _ _ _ (by omega), upd_sl _ _ _ _ (by omega), pk_us, show 25 + (n * 3 + 0) = 25 + 3 * n by omega, g0]
      · rw [upd_sl _ _ _ _ (by omega), pk_us, show 25 + (n * 3 + 1) = 25 + 3 * n + 1 by omega, g1]
      · rw [pk_us, show 25 + (n * 3 + 2) = 25 + 3 * n + 2 by omega, g2]
    · intro x x1 x2 x3 x4
      rw [st2_orow _ _ _ x3]
      have y2 : x ≠ 2 := by clear x3 x4; omega
      have y13 : x ≠ 13 := by clear x3 x4; omega
      exact ms6.1.1 x y2 y13 x4
    · refine (ms6.1.2.2.2.cl ?_ ?_ rfl).mo (fun j hj => ?_)
      · rw [st2_a _ _ (by omega)]
      · rw [st2_orow _ _ _ (by omega)]
      · rw [go j (by omega) (by omega), rQ, upd_sl _ _ _ _ (by omega), r3, upd_sl _ _ _ _ (by omega), r2]
    · rw [hq, nI_clamp (by omega), ho 8 (by omega) (by omega) (by omega), ho 5 (by omega) (by omega) (by omega), hU.1]
      omega
    · intro m hm hno
      rw [hq, nI_clamp (by omega), ho 8 (by omega) (by omega) (by omega), ho 5 (by omega) (by omega) (by omega)] at hno
      rw [go (80 + m) (by omega) (by omega), R2 m hm (by omega), e69]
      exact hU.2 m hm (by omega)
    · rw [st2_a _ _ (by omega), ms6.1.2.2.1, hw1, ho 12 (by omega) (by omega) (by omega)]
    · rw [ho 12 (by omega) (by omega) (by omega)]; exact hw2
    · rw [ho 11 (by omega) (by omega) (by omega)]; exact hw3
  · rw [← er', ho 11 (by omega) (by omega) (by omega)]; exact h11
