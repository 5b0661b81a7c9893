/-! ===== the lines ===== -/
/-- how a line ends -/
def Res (b : Bool) (I : Mm) (J : Nat → Nat → Int64) (M : Mm) (N p t : Nat) : Prop := (b = true ∧ (∃ p', p ≤ p' ∧ Ah I M N p') ∧ (∃ k, LSt I J (M 69) t k) ∧ M 69 11 = 1) ∨ (b = false ∧ Fl I M)
theorem inb_bw {x : Int32} {lo hi : Nat} (h : inb x (nI lo) (nI hi) = true) (hl : lo ≤ hi) (hh : hi < 2 ^ 31) : bw x lo hi := by
  obtain ⟨n, a, b, e⟩ := inb_nI hh h hl
  rw [e]
  exact bw_of a b hh
theorem i3 (n : Nat) (off : Nat) : (nI off + 3 * nI n : Int32) = nI (off + 3 * n) := by rw [show (3 : Int32) = nI 3 from rfl, pk_mul, nI_add]
theorem i2 (n : Nat) (off : Nat) : (nI off + 2 * nI n : Int32) = nI (off + 2 * n) := by rw [show (2 : Int32) = nI 2 from rfl, pk_mul, nI_add]
theorem sh_vent {M M0 M1 M2 M3 M4 : Mm} {c a b d : Int32} (h13 : M 65 13 = 0) (e0 : M0 = m_X11_next M) (ec : c = M0 69 5) (e1 : M1 = m_X11_newName M0 (6 + c)) (e2 : M2 = m_X11_weather M1) (ea : a = f_X11_weather M1) (e3 : M3 = m_X11_number (va_up M2 69 (upd (M2 69) (13 + 3 * c).toNatClampNeg a)) 1 9) (eb : b = f_X11_number (va_up M2 69 (upd (M2 69) (13 + 3 * c).toNatClampNeg a)) 1 9) (e4 : M4 = m_X11_after (va_up M3 69 (upd (M3 69) (13 + 3 * c + 1).toNatClampNeg b)) 13 0 99) (ed : d = f_X11_after (va_up M3 69 (upd (M3 69) (13 + 3 * c + 1).toNatClampNeg b)) 13 0 99) : m_X11_ventLine M = (if M4 65 13 = 0 then st2 (va_up M4 69 (upd (M4 69) (13 + 3 * c + 2).toNatClampNeg d)) 69 5 (va_up M4 69 (upd (M4 69) (13 + 3 * c + 2).toNatClampNeg d) 69 5 + 1) else va_up M4 69 (upd (M4 69) (13 + 3 * c + 2).toNatClampNeg d)) ∧ (ok_X11_ventLine M ↔ (ok_X11_next M ∧ ok_X11_newName M0 (6 + c) ∧ ok_X11_weather M1 ∧ vp_in (13 + 3 * c) (sz 69) ∧ ok_X11_number (va_up M2 69 (upd (M2 69) (13 + 3 * c).toNatClampNeg a)) 1 9 ∧ vp_in (13 + 3 * c + 1) (sz 69) ∧ ok_X11_after (va_up M3 69 (upd (M3 69) (13 + 3 * c + 1).toNatClampNeg b)) 13 0 99 ∧ vp_in (13 + 3 * c + 2) (sz 69))) := by
  subst ed e4 eb e3 ea e2 e1 ec e0
  rw [m_X11_ventLine, ok_X11_ventLine, opv_eq, opv_eq, if_pos h13, if_pos h13, u3_X11_ventLine, opv_eq, u2_X11_ventLine, opv_eq, u1_X11_ventLine, opv_eq, u0_X11_ventLine, opv_eq]
  exact ⟨rfl, Iff.rfl⟩
theorem sc_vent {I I1 I2 I3 I4 I5 : Mm} {J J1 J2 J3 J4 J5 : Nat → Nat → Int64} {w : Bool} {b1 b2 b3 b4 b5 : Bool} (eI1 : I1 = m_X6_wantsNewName I J (-1)) (eJ1 : J1 = j_X6_wantsNewName I J (-1)) (eb1 : b1 = f_X6_wantsNewName I J (-1)) (eI2 : I2 = m_X6_wantsWeather I1 J1 (dr w + 1) 0) (eJ2 : J2 = j_X6_wantsWeather I1 J1 (dr w + 1) 0) (eb2 : b2 = f_X6_wantsWeather I1 J1 (dr w + 1) 0) (eI3 : I3 = m_X6_wantsCell I2 J2 (dr w + 1) 1 1 9) (eJ3 : J3 = j_X6_wantsCell I2 J2 (dr w + 1) 1 1 9) (eb3 : b3 = f_X6_wantsCell I2 J2 (dr w + 1) 1 1 9) (eI4 : I4 = m_X6_wants I3 J3 13) (eJ4 : J4 = j_X6_wants I3 J3 13) (eb4 : b4 = f_X6_wants I3 J3 13) (eI5 : I5 = m_X6_wantsCell I4 J4 (dr w + 1) 2 0 99) (eJ5 : J5 = j_X6_wantsCell I4 J4 (dr w + 1) 2 0 99) (eb5 : b5 = f_X6_wantsCell I4 J4 (dr w + 1) 2 0 99) : f_X6_readVent I J w = (if b1 = true then (if b2 = true then (if b3 = true then (if b4 = true then (if b5 = true then true else false) else false) else false) else false) else false) ∧ m_X6_readVent I J w = (if b1 = true then (if b2 = true then (if b3 = true then (if b4 = true then (if b5 = true then m_X6_closes I5 (dr w + 1) else I5) else I4) else I3) else I2) else I1) ∧ j_X6_readVent I J w = (if b1 = true then (if b2 = true then (if b3 = true then (if b4 = true then J5 else J4) else J3) else J2) else J1) ∧ (ok_X6_readVent I J w ↔ (ok_X6_wantsNewName I J (-1) ∧ (if b1 = true then (ok_X6_wantsWeather I1 J1 (dr w + 1) 0 ∧ (if b2 = true then (ok_X6_wantsCell I2 J2 (dr w + 1) 1 1 9 ∧ (if b3 = true then (ok_X6_wants I3 J3 13 ∧ (if b4 = true then ok_X6_wantsCell I4 J4 (dr w + 1) 2 0 99 else True)) else True)) else True)) else True))) := by
  subst eb5 eJ5 eI5 eb4 eJ4 eI4 eb3 eJ3 eI3 eb2 eJ2 eI2 eb1 eJ1 eI1
  rw [f_X6_readVent, m_X6_readVent, j_X6_readVent, ok_X6_readVent, opv_eq, opv_eq, opv_eq, opv_eq, u6_X6_readVent, u7_X6_readVent, u8_X6_readVent, opv_eq, opv_eq, opv_eq, u5_X6_readVent, u4_X6_readVent, opv_eq, opv_eq, u3_X6_readVent, u2_X6_readVent, opv_eq, opv_eq, u1_X6_readVent, u0_X6_readVent, opv_eq, opv_eq, rt_7 (dr_or w), f_X6_closes, opv_eq]
  exact ⟨rfl, rfl, rfl, Iff.rfl⟩
/-- what stands at the beginning of a line, at the model's next token -/
theorem ls_next {I M M0 : Mm} {J : Nat → Nat → Int64} {t k : Nat} (h : LSt I J (M 69) t k) (e : M0 69 = M 69) : LSt I J (M0 69) t k := by rw [e]; exact h
theorem us_free {r : Vc} {k n : Nat} (h : US r k) (hn : n < 16) (h0 : ¬ (n < (r 8).toNatClampNeg ∨ (6 ≤ n ∧ n < 6 + (r 5).toNatClampNeg) ∨ (10 ≤ n ∧ n < 10 + (r 6).toNatClampNeg))) : r (80 + n) = 0 := h.2 n hn h0
theorem l_vent {I M : Mm} {J : Nat → Nat → Int64} {N p k : Nat} {w : Bool} (h : At I J M N p) (h6 : M 65 6 = 2) (ls : LSt I J (M 69) (dr w) k) (hv : (M 69 5).toNatClampNeg < 4) (h11 : M 69 11 = 1) : ok_X6_readVent I J w ∧ ok_X11_ventLine M ∧ Co (dr w) I (m_X6_readVent I J w) ∧ Fk kml M (m_X11_ventLine M) ∧ Res (f_X6_readVent I J w) (m_X6_readVent I J w) (j_X6_readVent I J w) (m_X11_ventLine M) N p (dr w) := by
  have nx := at_ah h (by rw [h6]; decide)
  have e69 := krm_row nx.2.2.1 (a := 69) (by omega) (by omega)
  have h13 := h.2.1
  obtain ⟨hb, hT, hN, hU, hw1, hw2, hw3⟩ := ls
  have lV := hb.nV
  have lP := hb.nP.2
  have lF := hb.nF.2
  have tv := hT.2.2.2.2.2.2.2.2.1
  have hdr := dr_or w
  obtain ⟨n, en⟩ : ∃ n, n = (M 69 5).toNatClampNeg := ⟨_, rfl⟩
  rw [← en] at lV hv tv
  obtain ⟨M0, e0⟩ : ∃ X, X = m_X11_next M := ⟨_, rfl⟩
  rw [← e0] at nx e69
  have ec : nI n = M0 69 5 := by rw [e69]; exact lV.1.symm
  obtain ⟨M1, e1⟩ : ∃ X, X = m_X11_newName M0 (6 + nI n) := ⟨_, rfl⟩
  obtain ⟨M2, e2⟩ : ∃ X, X = m_X11_weather M1 := ⟨_, rfl⟩
  obtain ⟨a, ea⟩ : ∃ X, X = f_X11_weather M1 := ⟨_, rfl⟩
  obtain ⟨M3, e3⟩ : ∃ X, X = m_X11_number (va_up M2 69 (upd (M2 69) (13 + 3 * nI n).toNatClampNeg a)) 1 9 := ⟨_, rfl⟩
  obtain ⟨b, eb⟩ : ∃ X, X = f_X11_number (va_up M2 69 (upd (M2 69) (13 + 3 * nI n).toNatClampNeg a)) 1 9 := ⟨_, rfl⟩
  obtain ⟨M4, e4⟩ : ∃ X, X = m_X11_after (va_up M3 69 (upd (M3 69) (13 + 3 * nI n + 1).toNatClampNeg b)) 13 0 99 := ⟨_, rfl⟩
  obtain ⟨d, ed⟩ : ∃ X, X = f_X11_after (va_up M3 69 (upd (M3 69) (13 + 3 * nI n + 1).toNatClampNeg b)) 13 0 99 := ⟨_, rfl⟩
  have sh := sh_vent h13 e0 ec e1 e2 ea e3 eb e4 ed
  obtain ⟨I1, eI1⟩ : ∃ X, X = m_X6_wantsNewName I J (-1) := ⟨_, rfl⟩
  obtain ⟨J1, eJ1⟩ : ∃ X, X = j_X6_wantsNewName I J (-1) := ⟨_, rfl⟩
  obtain ⟨b1, eb1⟩ : ∃ X, X = f_X6_wantsNewName I J (-1) := ⟨_, rfl⟩
  obtain ⟨I2, eI2⟩ : ∃ X, X = m_X6_wantsWeather I1 J1 (dr w + 1) 0 := ⟨_, rfl⟩
  obtain ⟨J2, eJ2⟩ : ∃ X, X = j_X6_wantsWeather I1 J1 (dr w + 1) 0 := ⟨_, rfl⟩
  obtain ⟨b2, eb2⟩ : ∃ X, X = f_X6_wantsWeather I1 J1 (dr w + 1) 0 := ⟨_, rfl⟩
  obtain ⟨I3, eI3⟩ : ∃ X, X = m_X6_wantsCell I2 J2 (dr w + 1) 1 1 9 := ⟨_, rfl⟩
  obtain ⟨J3, eJ3⟩ : ∃ X, X = j_X6_wantsCell I2 J2 (dr w + 1) 1 1 9 := ⟨_, rfl⟩
  obtain ⟨b3, eb3⟩ : ∃ X, X = f_X6_wantsCell I2 J2 (dr w + 1) 1 1 9 := ⟨_, rfl⟩
  obtain ⟨I4, eI4⟩ : ∃ X, X = m_X6_wants I3 J3 13 := ⟨_, rfl⟩
  obtain ⟨J4, eJ4⟩ : ∃ X, X = j_X6_wants I3 J3 13 := ⟨_, rfl⟩
  obtain ⟨b4, eb4⟩ : ∃ X, X = f_X6_wants I3 J3 13 := ⟨_, rfl⟩
  obtain ⟨I5, eI5⟩ : ∃ X, X = m_X6_wantsCell I4 J4 (dr w + 1) 2 0 99 := ⟨_, rfl⟩
  obtain ⟨J5, eJ5⟩ : ∃ X, X = j_X6_wantsCell I4 J4 (dr w + 1) 2 0 99 := ⟨_, rfl⟩
  obtain ⟨b5, eb5⟩ : ∃ X, X = f_X6_wantsCell I4 J4 (dr w + 1) 2 0 99 := ⟨_, rfl⟩
  have sc := sc_vent (w := w) eI1 eJ1 eb1 eI2 eJ2 eb2 eI3 eJ3 eb3 eI4 eJ4 eb4 eI5 eJ5 eb5
  rw [sh.1, sh.2, sc.1, sc.2.1, sc.2.2.1, sc.2.2.2]
  clear sh sc
  have v0 : vp_in (13 + 3 * nI n) (sz 69) := by rw [show (13 : Int32) = nI 13 from rfl, i3, sz_69]; exact vp_in_nI (by omega) (by omega)
  have v1 : vp_in (13 + 3 * nI n + 1) (sz 69) := by rw [show (13 : Int32) = nI 13 from rfl, i3, nI_1, sz_69]; exact vp_in_nI (by omega) (by omega)
  have v2 : vp_in (13 + 3 * nI n + 2) (sz 69) := by rw [show (13 : Int32) = nI 13 from rfl, i3, show (2 : Int32) = nI 2 from rfl, nI_add, sz_69]; exact vp_in_nI (by omega) (by omega)
  have k0 : (13 + 3 * nI n : Int32).toNatClampNeg = 13 + 3 * n := by rw [show (13 : Int32) = nI 13 from rfl, i3, nI_clamp (by omega)]
  have k1 : (13 + 3 * nI n + 1 : Int32).toNatClampNeg = 13 + 3 * n + 1 := by rw [show (13 : Int32) = nI 13 from rfl, i3, nI_1, nI_clamp (by omega)]
  have k2 : (13 + 3 * nI n + 2 : Int32).toNatClampNeg = 13 + 3 * n + 2 := by rw [show (13 : Int32) = nI 13 from rfl, i3, show (2 : Int32) = nI 2 from rfl, nI_add, nI_clamp (by omega)]
  rw [k0] at e3 eb ⊢
  rw [k1] at e4 ed ⊢
  rw [k2]
  have e6 : (6 + nI n : Int32) = nI (6 + n) := by rw [show (6 : Int32) = nI 6 from rfl, nI_add]
  rw [e6] at e1 ⊢
  have hk : k < 16 := by have := hU.1; omega
  have s1 := w_newName (n := 6 + n) nx.1 J (by rw [e69]; exact hN) hk (by omega) (by rw [e69]; exact us_free hU (by omega) (by omega)) (x := -1) (by rw [if_neg (by omega)])
  rw [← e1, ← eI1, ← eJ1, ← eb1] at s1
  obtain ⟨so1, so2, sf1, sf2, s1⟩ := s1
  have fM1 : Fk kml M M1 := nx.2.2.1.ml.trans sf2
  have co1 : Co (dr w) I I1 := Co.cn sf1
  rcases s1 with ⟨t1, ⟨p1, hp1, A1⟩, N1, R1, R2⟩ | ⟨t1, F1⟩
  rotate_left
  · have y2 := xa_weather (Xa.refl M1) F1.1
    rw [← e2] at y2
    have y3 := xa_number (y2.1.up (upd (M2 69) (13 + 3 * n) a)) F1.1 1 9
    rw [← e3] at y3
    have y4 := xa_after (y3.1.up (upd (M3 69) (13 + 3 * n + 1) b)) F1.1 13 0 99
    rw [← e4] at y4
    have z : ¬ M4 65 13 = 0 := by rw [y4.1.e F1.1]; decide
    have y5 := y4.1.up (upd (M4 69) (13 + 3 * n + 2) d)
    simp only [t1, if_neg (show ¬ false = true by decide), if_neg z]
    exact ⟨⟨so1, True.intro⟩, ⟨nx.2.1, so2, y2.2, v0, y3.2, v1, y4.2, v2⟩, co1, fM1.trans y5.ml, Or.inr ⟨rfl, y5.fl F1⟩⟩
  have ms1 : MS I I1 J1 (M1 69) (dr w + 1 + 1) (k + 1) (I (dr w + 1 + 1)) := ⟨fun x x1 x2 _ => funext fun j => sf1 x j (by unfold krn krc; simp [x1, x2]), funext fun j => sf1 _ j (by unfold krn krc; rcases hdr with q | q <;> rw [q] <;> simp), sf1 2 10 rfl, N1⟩
  have s2 := w_weather A1 J1 (dr w + 1) 0
  rw [← e2, ← ea, ← eI2, ← eJ2, ← eb2] at s2
  obtain ⟨so3, so4, sf3, sj2, s2⟩ := s2
  have fM2 : Fk kml M M2 := fM1.trans sf3.ml
  have r2 : M2 69 = M1 69 := krm_row sf3 (by omega) (by omega)
  rcases s2 with ⟨t2, av, eput2, sf4, p2, hp2, A2⟩ | ⟨t2, sf4, F2⟩
  rotate_left
  · have y3 := xa_number ((Xa.refl M2).up (upd (M2 69) (13 + 3 * n) a)) F2.1 1 9
    rw [← e3] at y3
    have y4 := xa_after (y3.1.up (upd (M3 69) (13 + 3 * n + 1) b)) F2.1 13 0 99
    rw [← e4] at y4
    have z : ¬ M4 65 13 = 0 := by rw [y4.1.e F2.1]; decide
    have y5 := y4.1.up (upd (M4 69) (13 + 3 * n + 2) d)
    simp only [t1, t2, if_true, if_neg (show ¬ false = true by decide), if_neg z]
    exact ⟨⟨so1, so3, True.intro⟩, ⟨nx.2.1, so2, so4, v0, y3.2, v1, y4.2, v2⟩, co1.trans (Co.cr sf4), fM2.trans y5.ml, Or.inr ⟨rfl, y5.fl F2⟩⟩
  have hc3 : 3 ≤ dr w + 1 := by omega
  have hc12 : dr w + 1 ≠ 12 ∧ dr w + 1 ≠ 13 := by omega
  have hj2 : JF J1 (j_X6_nextToken I1 J1) := by
    rw [eJ2, j_X6_wantsWeather, opv_eq] at sj2; exact sj2
  have eJ2' : J2 = j_X6_nextToken I1 J1 := by rw [eJ2, j_X6_wantsWeather, opv_eq]
  have ms2 := ms_put (M := M2) (N := N) (p := p2) a (ms1.krc (by omega) sf4 hj2) hc3 hc12 tv.2.1 tv.2.2.1 (room := 4) (by omega) (by omega) (by omega) tv.2.2.2.2.1 tv.2.2.2.2.2.1 (col := 0) (by omega) (x := 0) rfl
  rw [← eput2, ← eJ2'] at ms2
  have ms2' := ms2.1.mo (r' := upd (M2 69) (13 + 3 * n) a) (fun j hj => by rw [upd_sl _ _ _ _ (by omega), r2])
  have A2' : Ah I2 (va_up M2 69 (upd (M2 69) (13 + 3 * n) a)) N p2 := (ms2.2 A2).mo (vu_o _ _ (by omega)) (vu_o _ _ (by omega)) (vu_o _ _ (by omega))
  have s3 := w_cell A2' J2 (dr w + 1) 1 1 9
  rw [← e3, ← eb, ← eI3, ← eJ3, ← eb3] at s3
  obtain ⟨so5, so6, sf5, sj3, s3⟩ := s3
  have fM3 : Fk kml M M3 := (fM2.trans ((Xa.refl M2).up (upd (M2 69) (13 + 3 * n) a)).ml).trans sf5.ml
  have r3 : M3 69 = upd (M2 69) (13 + 3 * n) a := by rw [krm_row sf5 (by omega) (by omega), vu_s]
  have co2 : Co (dr w) I I2 := ms2'.co (by omega) (by omega) (by omega)
  rcases s3 with ⟨t3, bv, I3', eput3, sf6, _, p3, hp3, A3⟩ | ⟨t3, sf6, F3⟩
  rotate_left
  · have y4 := xa_after ((Xa.refl M3).up (upd (M3 69) (13 + 3 * n + 1) b)) F3.1 13 0 99
    rw [← e4] at y4
    have z : ¬ M4 65 13 = 0 := by rw [y4.1.e F3.1]; decide
    have y5 := y4.1.up (upd (M4 69) (13 + 3 * n + 2) d)
    simp only [t1, t2, t3, if_true, if_neg (show ¬ false = true by decide), if_neg z]
    exact ⟨⟨so1, so3, so5, True.intro⟩, ⟨nx.2.1, so2, so4, v0, so6, v1, y4.2, v2⟩, co2.trans (Co.cr sf6), fM3.trans y5.ml, Or.inr ⟨rfl, y5.fl F3⟩⟩
  have ms3 := ms_put (M := M3) (N := N) (p := p3) b (ms2'.krc (by omega) sf6 sj3) hc3 hc12 tv.2.1 tv.2.2.1 (room := 4) (by omega) (by omega) (by omega) tv.2.2.2.2.1 tv.2.2.2.2.2.1 (col := 1) (by omega) (x := 1) rfl
  rw [← eput3] at ms3
  have ms3' := ms3.1.mo (r' := upd (M3 69) (13 + 3 * n + 1) b) (fun j hj => by rw [upd_sl _ _ _ _ (by omega), r3])
  have A3' : Ah I3 (va_up M3 69 (upd (M3 69) (13 + 3 * n + 1) b)) N p3 := (ms3.2 A3).mo (vu_o _ _ (by omega)) (vu_o _ _ (by omega)) (vu_o _ _ (by omega))
  have co3 : Co (dr w) I I3 := ms3'.co (by omega) (by omega) (by omega)
  have s4 := w_must A3' J3 (s := 13) (by omega)
  rw [← eI4, ← eJ4, ← eb4] at s4
  obtain ⟨so7, so8, sf7, sf8, sj4, s4⟩ := s4
  rw [m_X11_after, opv_eq] at e4
  rw [f_X11_after, opv_eq] at ed
  rw [ok_X11_after, opv_eq]
  obtain ⟨K, eK⟩ : ∃ X, X = m_X11_must (va_up M3 69 (upd (M3 69) (13 + 3 * n + 1) b)) 13 := ⟨_, rfl⟩
  rw [← eK] at s4 e4 ed sf8 ⊢
  have fK : Fk kml M K := (fM3.trans ((Xa.refl M3).up (upd (M3 69) (13 + 3 * n + 1) b)).ml).trans sf8.ml
  have rK : K 69 = upd (M3 69) (13 + 3 * n + 1) b := by rw [krm_row sf8 (by omega) (by omega), vu_s]
  rcases s4 with ⟨t4, p4, hp4, A4⟩ | ⟨t4, F4⟩
  rotate_left
  · have y4 := xa_number (Xa.refl K) F4.1 0 99
    rw [← e4] at y4
    have z : ¬ M4 65 13 = 0 := by rw [y4.1.e F4.1]; decide
    have y5 := y4.1.up (upd (M4 69) (13 + 3 * n + 2) d)
    simp only [t1, t2, t3, t4, if_true, if_neg (show ¬ false = true by decide), if_neg z]
    exact ⟨⟨so1, so3, so5, so7, True.intro⟩, ⟨nx.2.1, so2, so4, v0, so6, v1, ⟨so8, y4.2⟩, v2⟩, co3.trans (Co.cr sf7), fK.trans y5.ml, Or.inr ⟨rfl, y5.fl F4⟩⟩
  have ms4 := (ms3'.krc (by omega) sf7 sj4)
  rw [← rK] at ms4
  have s5 := w_cell A4 J4 (dr w + 1) 2 0 99
  rw [← e4, ← ed, ← eI5, ← eJ5, ← eb5] at s5
  obtain ⟨so9, so10, sf9, sj5, s5⟩ := s5
  have fM4 : Fk kml M M4 := fK.trans sf9.ml
  have r4 : M4 69 = K 69 := krm_row sf9 (by omega) (by omega)
  have co4 : Co (dr w) I I4 := ms4.co (by omega) (by omega) (by omega)
  rcases s5 with ⟨t5, dv, I5', eput5, sf10, _, p5, hp5, A5⟩ | ⟨t5, sf10, F5⟩
  rotate_left
  · have z : ¬ M4 65 13 = 0 := by rw [F5.1]; decide
    have y5 := (Xa.refl M4).up (upd (M4 69) (13 + 3 * n + 2) d)
    simp only [t1, t2, t3, t4, t5, if_true, if_neg (show ¬ false = true by decide), if_neg z]
    exact ⟨⟨so1, so3, so5, so7, so9⟩, ⟨nx.2.1, so2, so4, v0, so6, v1, ⟨so8, so10⟩, v2⟩, co4.trans (Co.cr sf10), fM4.trans y5.ml, Or.inr ⟨rfl, y5.fl F5⟩⟩
  have ms5 := ms_put (M := M4) (N := N) (p := p5) d (ms4.krc (by omega) sf10 sj5) hc3 hc12 tv.2.1 tv.2.2.1 (room := 4) (by omega) (by omega) (by omega) tv.2.2.2.2.1 tv.2.2.2.2.2.1 (col := 2) (by omega) (x := 2) rfl
  rw [← eput5] at ms5
  have A5' := ms5.2 A5
  have ec5 := ms5.1.1 (dr w + 1) (by omega) (by omega) (by omega)
  have m45 : M4 69 5 = nI n := by
    rw [r4, rK, upd_sl _ _ _ _ (by omega), r3, upd_sl _ _ _ _ (by omega), r2, R1 5 (by omega), ec]
  rw [t_close (n := n) (room := 4) (by rw [ec5]; exact tv.1) (by rw [ec5]; exact tv.2.2.1) (by omega) (by omega)]
  have y5 := (((Xa.refl M4).up (upd (M4 69) (13 + 3 * n + 2) d))).st 5 (nI (n + 1))
  simp only [t1, t2, t3, t4, t5, if_true, if_pos A5.2.1]
  rw [vu_s, upd_sl _ _ _ _ (show 5 ≠ 13 + 3 * n + 2 by omega), m45, nI_1]
  obtain ⟨r', er'⟩ : ∃ X, X = st2 (va_up M4 69 (upd (M4 69) (13 + 3 * n + 2) d)) 69 5 (nI (n + 1)) 69 := ⟨_, rfl⟩
  have er2 : r' = upd (upd (M4 69) (13 + 3 * n + 2) d) 5 (nI (n + 1)) := by rw [er', st2_row, vu_s]
  have hq : r' 5 = nI (n + 1) := by rw [er2, pk_us]
  have g2 : r' (13 + 3 * n + 2) = d := by rw [er2, upd_sl _ _ _ _ (by omega), pk_us]
  have g1 : r' (13 + 3 * n + 1) = b := by rw [er2, upd_sl _ _ _ _ (by omega), upd_sl _ _ _ _ (by omega), r4, rK, pk_us]
  have g0 : r' (13 + 3 * n) = a := by rw [er2, upd_sl _ _ _ _ (by omega), upd_sl _ _ _ _ (by omega), r4, rK, upd_sl _ _ _ _ (by omega), r3, pk_us]
  have go : ∀ j, j ≠ 5 → ¬ (13 + 3 * n ≤ j ∧ j < 13 + 3 * n + 3) → r' j = M1 69 j := by
    intro j h1 h2
    rw [er2, upd_sl _ _ _ _ h1, upd_sl _ _ _ _ (by omega), r4, rK, upd_sl _ _ _ _ (by omega), r3, upd_sl _ _ _ _ (by omega), r2]
  have ho : ∀ j, j < 80 → j ≠ 5 → ¬ (13 + 3 * n ≤ j ∧ j < 13 + 3 * n + 3) → r' j = M 69 j := fun j hj h1 h2 => by rw [go j h1 h2, R1 j hj, e69]
  refine ⟨⟨so1, so3, so5, so7, so9⟩, ⟨nx.2.1, so2, so4, v0, so6, v1, ⟨so8, so10⟩, v2⟩, ?_, fM4.trans y5.ml, Or.inl ⟨rfl, ⟨p5, by omega, ?_⟩, ⟨k + 1, ?_⟩, ?_⟩⟩
  · exact (ms5.1.co (by omega) (by omega) (by omega)).st (by omega) (by omega) (by omega)
  · refine (A5'.cl ?_ ?_ ?_ ?_).mo (y5 65 (by omega)) (y5 66 (by omega)) (y5 67 (by omega))
    · rw [st2_a _ _ (by omega)]
    · rw [st2_a _ _ (by omega)]
    · rw [st2_orow _ _ _ (by omega)]
    · rw [st2_a _ _ (by omega)]
  · rw [← er']
    refine ⟨rb_vent hb en hv hq ho ⟨?_, ?_, ?_⟩, tr_vent hT hb en hv hq ho ?_ ?_ ?_ ?_, ?_, ⟨?_, ?_⟩, ?_, ?_, ?_⟩
    · rw [g0]
      rcases av with q | q <;> rw [q] <;> exact ⟨by decide, by decide⟩
    · rw [g1]; exact inb_bw (lo := 1) (hi := 9) bv (by omega) (by omega)
    · rw [g2]; exact inb_bw (lo := 0) (hi := 99) dv (by omega) (by omega)
    · rw [st2_row, ec5]
    · intro j hj
      rw [st2_orow _ _ _ (by omega), ms5.1.2.1, upd_sl _ _ _ _ (by omega), upd_sl _ _ _ _ (by omega), upd_sl _ _ _ _ (by omega)]
    · intro i hi
      rw [st2_orow _ _ _ (by omega), ms5.1.2.1]
      have q : i = 0 ∨ i = 1 ∨ i = 2 := by omega
      rcases q with rfl | rfl | rfl
      · rw [upd_sl _ _ _ _ (by omega), upd_sl _ _ _ _ (by omega), pk_us, show 13 + (n * 3 + 0) = 13 + 3 * n by omega, g0]
      · rw [upd_sl _ _ _ _ (by omega), pk_us, show 13 + (n * 3 + 1) = 13 + 3 * n + 1 by omega, g1]
      · rw [pk_us, show 13 + (n * 3 + 2) = 13 + 3 * n + 2 by omega, g2]
    · intro x x1 x2 x3 x4
      rw [st2_orow _ _ _ x3]
      exact ms5.1.1 x (by omega) (by omega) x4
    · refine (ms5.1.2.2.2.cl ?_ ?_ rfl).mo (fun j hj => ?_)
      · rw [st2_a _ _ (by omega)]
      · rw [st2_orow _ _ _ (by omega)]
      · rw [go j (by omega) (by omega), rK, upd_sl _ _ _ _ (by omega), r3, upd_sl _ _ _ _ (by omega), r2]
    · rw [hq, nI_clamp (by omega), ho 8 (by omega) (by omega) (by omega), ho 6 (by omega) (by omega) (by omega), hU.1]
      omega
    · intro m hm hno
      rw [hq, nI_clamp (by omega), ho 8 (by omega) (by omega) (by omega), ho 6 (by omega) (by omega) (by omega)] at hno
      rw [go (80 + m) (by omega) (by omega), R2 m hm (by omega), e69]
      exact hU.2 m hm (by omega)
    · rw [st2_a _ _ (by omega), ms5.1.2.2.1, hw1, ho 12 (by omega) (by omega) (by omega)]
    · rw [ho 12 (by omega) (by omega) (by omega)]; exact hw2
    · rw [ho 11 (by omega) (by omega) (by omega)]; exact hw3
  · rw [← er', ho 11 (by omega) (by omega) (by omega)]; exact h11
