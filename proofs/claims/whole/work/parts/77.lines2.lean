/-! ===== the lines of numbers ===== -/
theorem sc_chalet {I W1 X1 W2 X2 W3 X3 W4 X4 : Mm} {J V1 Y1 V2 Y2 V3 Y3 V4 Y4 : Nat → Nat → Int64} {w : Bool} {b1 c1 b2 c2 b3 c3 b4 c4 : Bool} (eW1 : W1 = m_X6_wants I J 7) (eV1 : V1 = j_X6_wants I J 7) (eb1 : b1 = f_X6_wants I J 7) (eX1 : X1 = m_X6_wantsWhole W1 V1 0 100) (eY1 : Y1 = j_X6_wantsWhole W1 V1 0 100) (ec1 : c1 = f_X6_wantsWhole W1 V1 0 100) (eW2 : W2 = m_X6_wants (st2 X1 (dr w) 0 (X1 2 9)) Y1 8) (eV2 : V2 = j_X6_wants (st2 X1 (dr w) 0 (X1 2 9)) Y1 8) (eb2 : b2 = f_X6_wants (st2 X1 (dr w) 0 (X1 2 9)) Y1 8) (eX2 : X2 = m_X6_wantsWhole W2 V2 0 9) (eY2 : Y2 = j_X6_wantsWhole W2 V2 0 9) (ec2 : c2 = f_X6_wantsWhole W2 V2 0 9) (eW3 : W3 = m_X6_wants (st2 X2 (dr w) 1 (X2 2 9)) Y2 9) (eV3 : V3 = j_X6_wants (st2 X2 (dr w) 1 (X2 2 9)) Y2 9) (eb3 : b3 = f_X6_wants (st2 X2 (dr w) 1 (X2 2 9)) Y2 9) (eX3 : X3 = m_X6_wantsWhole W3 V3 0 3) (eY3 : Y3 = j_X6_wantsWhole W3 V3 0 3) (ec3 : c3 = f_X6_wantsWhole W3 V3 0 3) (eW4 : W4 = m_X6_wants (st2 X3 (dr w) 2 (X3 2 9)) Y3 10) (eV4 : V4 = j_X6_wants (st2 X3 (dr w) 2 (X3 2 9)) Y3 10) (eb4 : b4 = f_X6_wants (st2 X3 (dr w) 2 (X3 2 9)) Y3 10) (eX4 : X4 = m_X6_wantsWhole W4 V4 0 100) (eY4 : Y4 = j_X6_wantsWhole W4 V4 0 100) (ec4 : c4 = f_X6_wantsWhole W4 V4 0 100) : f_X6_readChalet I J w = (if b1 = true then (if c1 = true then (if b2 = true then (if c2 = true then (if b3 = true then (if c3 = true then (if b4 = true then (if c4 = true then true else false) else false) else false) else false) else false) else false) else false) else false) ∧ m_X6_readChalet I J w = (if b1 = true then (if c1 = true then (if b2 = true then (if c2 = true then (if b3 = true then (if c3 = true then (if b4 = true then (if c4 = true then (st2 X4 (dr w) 3 (X4 2 9)) else X4) else W4) else X3) else W3) else X2) else W2) else X1) else W1) ∧ j_X6_readChalet I J w = (if b1 = true then (if c1 = true then (if b2 = true then (if c2 = true then (if b3 = true then (if c3 = true then (if b4 = true then Y4 else V4) else Y3) else V3) else Y2) else V2) else Y1) else V1) ∧ (ok_X6_readChalet I J w ↔ (ok_X6_wants I J 7 ∧ (if b1 = true then (ok_X6_wantsWhole W1 V1 0 100 ∧ (if c1 = true then (ok_X6_wants (st2 X1 (dr w) 0 (X1 2 9)) Y1 8 ∧ (if b2 = true then (ok_X6_wantsWhole W2 V2 0 9 ∧ (if c2 = true then (ok_X6_wants (st2 X2 (dr w) 1 (X2 2 9)) Y2 9 ∧ (if b3 = true then (ok_X6_wantsWhole W3 V3 0 3 ∧ (if c3 = true then (ok_X6_wants (st2 X3 (dr w) 2 (X3 2 9)) Y3 10 ∧ (if b4 = true then ok_X6_wantsWhole W4 V4 0 100 else True)) else True)) else True)) else True)) else True)) else True)) else True))) := by
  subst ec4 eY4 eX4 eb4 eV4 eW4 ec3 eY3 eX3 eb3 eV3 eW3 ec2 eY2 eX2 eb2 eV2 eW2 ec1 eY1 eX1 eb1 eV1 eW1
  rw [f_X6_readChalet, m_X6_readChalet, j_X6_readChalet, ok_X6_readChalet, opv_eq, opv_eq, opv_eq, opv_eq]
  simp only [u11_X6_readChalet, u10_X6_readChalet, u9_X6_readChalet, u8_X6_readChalet, u7_X6_readChalet, u6_X6_readChalet, u5_X6_readChalet, u4_X6_readChalet, u3_X6_readChalet, u2_X6_readChalet, u1_X6_readChalet, u0_X6_readChalet, opv_eq]
  exact ⟨(by first | exact True.intro | rfl), (by first | exact True.intro | rfl), (by first | exact True.intro | rfl), (by first | exact Iff.rfl | exact True.intro)⟩
theorem sh_chalet {M M0 M1 M2 M3 M4 : Mm} {a1 a2 a3 a4 : Int32} (h13 : M 65 13 = 0) (h11 : M 69 11 ≤ 0) (eM0 : M0 = m_X11_next M) (eM1 : M1 = m_X11_after M0 7 0 100) (ea1 : a1 = f_X11_after M0 7 0 100) (eM2 : M2 = m_X11_after (st2 M1 69 10 a1) 8 0 9) (ea2 : a2 = f_X11_after (st2 M1 69 10 a1) 8 0 9) (eM3 : M3 = m_X11_after (st2 M2 69 0 a2) 9 0 3) (ea3 : a3 = f_X11_after (st2 M2 69 0 a2) 9 0 3) (eM4 : M4 = m_X11_after (st2 M3 69 1 a3) 10 0 100) (ea4 : a4 = f_X11_after (st2 M3 69 1 a3) 10 0 100) : m_X11_chaletLine M = (if M4 65 13 = 0 then st2 (st2 M4 69 2 a4) 69 11 1 else (st2 M4 69 2 a4)) ∧ (ok_X11_chaletLine M ↔ (ok_X11_next M ∧ ok_X11_after M0 7 0 100 ∧ ok_X11_after (st2 M1 69 10 a1) 8 0 9 ∧ ok_X11_after (st2 M2 69 0 a2) 9 0 3 ∧ ok_X11_after (st2 M3 69 1 a3) 10 0 100)) := by
  subst ea4 eM4 ea3 eM3 ea2 eM2 ea1 eM1 eM0
  rw [m_X11_chaletLine, ok_X11_chaletLine, opv_eq, opv_eq]
  simp only [u4_X11_chaletLine, u3_X11_chaletLine, u2_X11_chaletLine, u1_X11_chaletLine, u0_X11_chaletLine, opv_eq, if_pos h11, if_pos h13]
  exact ⟨(by first | exact True.intro | rfl), (by first | exact Iff.rfl | exact True.intro)⟩
theorem l_chalet {I M : Mm} {J : Nat → Nat → Int64} {N p k : Nat} {w : Bool} (h : At I J M N p) (h6 : M 65 6 = 2) (ls : LSt I J (M 69) (dr w) k) (h11 : M 69 11 = 0) : ok_X6_readChalet I J w ∧ ok_X11_chaletLine M ∧ Co (dr w) I (m_X6_readChalet I J w) ∧ Fk kml M (m_X11_chaletLine M) ∧ Res (f_X6_readChalet I J w) (m_X6_readChalet I J w) (j_X6_readChalet I J w) (m_X11_chaletLine M) N p (dr w) := by
  have nx := at_ah h (by rw [h6]; decide)
  have e69 := krm_row nx.2.2.1 (a := 69) (by omega) (by omega)
  have h13 := h.2.1
  obtain ⟨hb, hT, hN, hU, hw1, hw2, hw3⟩ := ls
  have hdr := dr_or w
  obtain ⟨M0, eM0⟩ : ∃ X, X = m_X11_next M := ⟨_, rfl⟩
  obtain ⟨M1, eM1⟩ : ∃ X, X = m_X11_after M0 7 0 100 := ⟨_, rfl⟩
  obtain ⟨a1, ea1⟩ : ∃ X, X = f_X11_after M0 7 0 100 := ⟨_, rfl⟩
  obtain ⟨M2, eM2⟩ : ∃ X, X = m_X11_after (st2 M1 69 10 a1) 8 0 9 := ⟨_, rfl⟩
  obtain ⟨a2, ea2⟩ : ∃ X, X = f_X11_after (st2 M1 69 10 a1) 8 0 9 := ⟨_, rfl⟩
  obtain ⟨M3, eM3⟩ : ∃ X, X = m_X11_after (st2 M2 69 0 a2) 9 0 3 := ⟨_, rfl⟩
  obtain ⟨a3, ea3⟩ : ∃ X, X = f_X11_after (st2 M2 69 0 a2) 9 0 3 := ⟨_, rfl⟩
  obtain ⟨M4, eM4⟩ : ∃ X, X = m_X11_after (st2 M3 69 1 a3) 10 0 100 := ⟨_, rfl⟩
  obtain ⟨a4, ea4⟩ : ∃ X, X = f_X11_after (st2 M3 69 1 a3) 10 0 100 := ⟨_, rfl⟩
  rw [← eM0] at nx e69
  have sh := sh_chalet h13 (by rw [h11]; decide) eM0 eM1 ea1 eM2 ea2 eM3 ea3 eM4 ea4
  obtain ⟨W1, eW1⟩ : ∃ X, X = m_X6_wants I J 7 := ⟨_, rfl⟩
  obtain ⟨V1, eV1⟩ : ∃ X, X = j_X6_wants I J 7 := ⟨_, rfl⟩
  obtain ⟨b1, eb1⟩ : ∃ X, X = f_X6_wants I J 7 := ⟨_, rfl⟩
  obtain ⟨X1, eX1⟩ : ∃ X, X = m_X6_wantsWhole W1 V1 0 100 := ⟨_, rfl⟩
  obtain ⟨Y1, eY1⟩ : ∃ X, X = j_X6_wantsWhole W1 V1 0 100 := ⟨_, rfl⟩
  obtain ⟨c1, ec1⟩ : ∃ X, X = f_X6_wantsWhole W1 V1 0 100 := ⟨_, rfl⟩
  obtain ⟨W2, eW2⟩ : ∃ X, X = m_X6_wants (st2 X1 (dr w) 0 (X1 2 9)) Y1 8 := ⟨_, rfl⟩
  obtain ⟨V2, eV2⟩ : ∃ X, X = j_X6_wants (st2 X1 (dr w) 0 (X1 2 9)) Y1 8 := ⟨_, rfl⟩
  obtain ⟨b2, eb2⟩ : ∃ X, X = f_X6_wants (st2 X1 (dr w) 0 (X1 2 9)) Y1 8 := ⟨_, rfl⟩
  obtain ⟨X2, eX2⟩ : ∃ X, X = m_X6_wantsWhole W2 V2 0 9 := ⟨_, rfl⟩
  obtain ⟨Y2, eY2⟩ : ∃ X, X = j_X6_wantsWhole W2 V2 0 9 := ⟨_, rfl⟩
  obtain ⟨c2, ec2⟩ : ∃ X, X = f_X6_wantsWhole W2 V2 0 9 := ⟨_, rfl⟩
  obtain ⟨W3, eW3⟩ : ∃ X, X = m_X6_wants (st2 X2 (dr w) 1 (X2 2 9)) Y2 9 := ⟨_, rfl⟩
  obtain ⟨V3, eV3⟩ : ∃ X, X = j_X6_wants (st2 X2 (dr w) 1 (X2 2 9)) Y2 9 := ⟨_, rfl⟩
  obtain ⟨b3, eb3⟩ : ∃ X, X = f_X6_wants (st2 X2 (dr w) 1 (X2 2 9)) Y2 9 := ⟨_, rfl⟩
  obtain ⟨X3, eX3⟩ : ∃ X, X = m_X6_wantsWhole W3 V3 0 3 := ⟨_, rfl⟩
  obtain ⟨Y3, eY3⟩ : ∃ X, X = j_X6_wantsWhole W3 V3 0 3 := ⟨_, rfl⟩
  obtain ⟨c3, ec3⟩ : ∃ X, X = f_X6_wantsWhole W3 V3 0 3 := ⟨_, rfl⟩
  obtain ⟨W4, eW4⟩ : ∃ X, X = m_X6_wants (st2 X3 (dr w) 2 (X3 2 9)) Y3 10 := ⟨_, rfl⟩
  obtain ⟨V4, eV4⟩ : ∃ X, X = j_X6_wants (st2 X3 (dr w) 2 (X3 2 9)) Y3 10 := ⟨_, rfl⟩
  obtain ⟨b4, eb4⟩ : ∃ X, X = f_X6_wants (st2 X3 (dr w) 2 (X3 2 9)) Y3 10 := ⟨_, rfl⟩
  obtain ⟨X4, eX4⟩ : ∃ X, X = m_X6_wantsWhole W4 V4 0 100 := ⟨_, rfl⟩
  obtain ⟨Y4, eY4⟩ : ∃ X, X = j_X6_wantsWhole W4 V4 0 100 := ⟨_, rfl⟩
  obtain ⟨c4, ec4⟩ : ∃ X, X = f_X6_wantsWhole W4 V4 0 100 := ⟨_, rfl⟩
  have sc := sc_chalet (I := I) (J := J) (w := w) eW1 eV1 eb1 eX1 eY1 ec1 eW2 eV2 eb2 eX2 eY2 ec2 eW3 eV3 eb3 eX3 eY3 ec3 eW4 eV4 eb4 eX4 eY4 ec4
  rw [sh.1, sh.2, sc.1, sc.2.1, sc.2.2.1, sc.2.2.2]
  clear sh sc
  have A0 : Ah I M0 N p := nx.1
  have co0 : Co (dr w) I I := Co.refl _ _
  have ms0 : MS I I J (M0 69) (dr w) k (I (dr w)) := ⟨fun x x1 x2 x3 => rfl, rfl, rfl, by rw [e69]; exact hN⟩
  have fM0 : Fk kml M M0 := nx.2.2.1.ml
  have nf : ¬ false = true := by decide
  have s1 := w_after A0 J (s := 7) (by omega) 0 100
  rw [← eM1, ← ea1, ← eW1, ← eV1, ← eb1, ← eX1, ← eY1, ← ec1] at s1
  obtain ⟨so1, mo1, mf1, s1⟩ := s1
  have fM1 : Fk kml M M1 := fM0.trans mf1.ml
  have r1 : M1 69 = M0 69 := krm_row mf1 (by omega) (by omega)
  rcases s1 with ⟨tb1, so1', sf1, sj1, ⟨tc1, va1, iv1, p1, hp1, B1⟩ | ⟨tc1, F1⟩⟩ | ⟨tb1, sf1, sj1, F1⟩
  rotate_left
  · have y1 := Xa.refl M1
    have y2 := xa_after (y1.st 10 a1) F1.1 8 0 9
    rw [← eM2] at y2
    have y3 := xa_after (y2.1.st 0 a2) F1.1 9 0 3
    rw [← eM3] at y3
    have y4 := xa_after (y3.1.st 1 a3) F1.1 10 0 100
    rw [← eM4] at y4
    have z : ¬ M4 65 13 = 0 := by rw [y4.1.e F1.1]; decide
    have yf := y4.1.st 2 a4
    simp only [tb1, tc1, if_true, if_neg nf, if_neg z]
    exact ⟨⟨so1, so1', True.intro⟩, ⟨nx.2.1, mo1, y2.2, y3.2, y4.2⟩, (co0.trans (Co.cr sf1)), fM1.trans yf.ml, Or.inr ⟨(by first | rfl | exact True.intro), yf.fl F1⟩⟩
  · have y1 := Xa.refl M1
    have y2 := xa_after (y1.st 10 a1) F1.1 8 0 9
    rw [← eM2] at y2
    have y3 := xa_after (y2.1.st 0 a2) F1.1 9 0 3
    rw [← eM3] at y3
    have y4 := xa_after (y3.1.st 1 a3) F1.1 10 0 100
    rw [← eM4] at y4
    have z : ¬ M4 65 13 = 0 := by rw [y4.1.e F1.1]; decide
    have yf := y4.1.st 2 a4
    simp only [tb1, if_true, if_neg nf, if_neg z]
    exact ⟨⟨so1, True.intro⟩, ⟨nx.2.1, mo1, y2.2, y3.2, y4.2⟩, (co0.trans (Co.cr sf1)), fM1.trans yf.ml, Or.inr ⟨(by first | rfl | exact True.intro), yf.fl F1⟩⟩
  have ms1 := ((ms0.krc (by omega) sf1 sj1).st (by omega) (by omega) 0 (X1 2 9)).mo (r' := st2 M1 69 10 a1 69) (fun j hj => by rw [st2_o _ _ _ (by omega), r1])
  have co1 : Co (dr w) I (st2 X1 (dr w) 0 (X1 2 9)) := co0.trans (ms1.co (by omega) (by omega) (by omega))
  have A1 : Ah (st2 X1 (dr w) 0 (X1 2 9)) (st2 M1 69 10 a1) N p1 := (B1.cl (by rw [st2_a _ _ (by omega)]) (by rw [st2_a _ _ (by omega)]) (by rw [st2_orow _ _ _ (by omega)]) (by rw [st2_a _ _ (by omega)])).mo (by rw [st2_orow _ _ _ (by omega)]) (by rw [st2_orow _ _ _ (by omega)]) (by rw [st2_orow _ _ _ (by omega)])
  have s2 := w_after A1 Y1 (s := 8) (by omega) 0 9
  rw [← eM2, ← ea2, ← eW2, ← eV2, ← eb2, ← eX2, ← eY2, ← ec2] at s2
  obtain ⟨so2, mo2, mf2, s2⟩ := s2
  have fM2 : Fk kml M M2 := (fM1.trans ((Xa.refl M1).st 10 a1).ml).trans mf2.ml
  have r2 : M2 69 = st2 M1 69 10 a1 69 := krm_row mf2 (by omega) (by omega)
  rcases s2 with ⟨tb2, so2', sf2, sj2, ⟨tc2, va2, iv2, p2, hp2, B2⟩ | ⟨tc2, F2⟩⟩ | ⟨tb2, sf2, sj2, F2⟩
  rotate_left
  · have y2 := Xa.refl M2
    have y3 := xa_after (y2.st 0 a2) F2.1 9 0 3
    rw [← eM3] at y3
    have y4 := xa_after (y3.1.st 1 a3) F2.1 10 0 100
    rw [← eM4] at y4
    have z : ¬ M4 65 13 = 0 := by rw [y4.1.e F2.1]; decide
    have yf := y4.1.st 2 a4
    simp only [tb1, tc1, tb2, tc2, if_true, if_neg nf, if_neg z]
    exact ⟨⟨so1, so1', ⟨so2, so2', True.intro⟩⟩, ⟨nx.2.1, mo1, mo2, y3.2, y4.2⟩, (co1.trans (Co.cr sf2)), fM2.trans yf.ml, Or.inr ⟨(by first | rfl | exact True.intro), yf.fl F2⟩⟩
  · have y2 := Xa.refl M2
    have y3 := xa_after (y2.st 0 a2) F2.1 9 0 3
    rw [← eM3] at y3
    have y4 := xa_after (y3.1.st 1 a3) F2.1 10 0 100
    rw [← eM4] at y4
    have z : ¬ M4 65 13 = 0 := by rw [y4.1.e F2.1]; decide
    have yf := y4.1.st 2 a4
    simp only [tb1, tc1, tb2, if_true, if_neg nf, if_neg z]
    exact ⟨⟨so1, so1', ⟨so2, True.intro⟩⟩, ⟨nx.2.1, mo1, mo2, y3.2, y4.2⟩, (co1.trans (Co.cr sf2)), fM2.trans yf.ml, Or.inr ⟨(by first | rfl | exact True.intro), yf.fl F2⟩⟩
  have ms2 := ((ms1.krc (by omega) sf2 sj2).st (by omega) (by omega) 1 (X2 2 9)).mo (r' := st2 M2 69 0 a2 69) (fun j hj => by rw [st2_o _ _ _ (by omega), r2])
  have co2 : Co (dr w) I (st2 X2 (dr w) 1 (X2 2 9)) := co0.trans (ms2.co (by omega) (by omega) (by omega))
  have A2 : Ah (st2 X2 (dr w) 1 (X2 2 9)) (st2 M2 69 0 a2) N p2 := (B2.cl (by rw [st2_a _ _ (by omega)]) (by rw [st2_a _ _ (by omega)]) (by rw [st2_orow _ _ _ (by omega)]) (by rw [st2_a _ _ (by omega)])).mo (by rw [st2_orow _ _ _ (by omega)]) (by rw [st2_orow _ _ _ (by omega)]) (by rw [st2_orow _ _ _ (by omega)])
  have s3 := w_after A2 Y2 (s := 9) (by omega) 0 3
  rw [← eM3, ← ea3, ← eW3, ← eV3, ← eb3, ← eX3, ← eY3, ← ec3] at s3
  obtain ⟨so3, mo3, mf3, s3⟩ := s3
  have fM3 : Fk kml M M3 := (fM2.trans ((Xa.refl M2).st 0 a2).ml).trans mf3.ml
  have r3 : M3 69 = st2 M2 69 0 a2 69 := krm_row mf3 (by omega) (by omega)
  rcases s3 with ⟨tb3, so3', sf3, sj3, ⟨tc3, va3, iv3, p3, hp3, B3⟩ | ⟨tc3, F3⟩⟩ | ⟨tb3, sf3, sj3, F3⟩
  rotate_left
  · have y3 := Xa.refl M3
    have y4 := xa_after (y3.st 1 a3) F3.1 10 0 100
    rw [← eM4] at y4
    have z : ¬ M4 65 13 = 0 := by rw [y4.1.e F3.1]; decide
    have yf := y4.1.st 2 a4
    simp only [tb1, tc1, tb2, tc2, tb3, tc3, if_true, if_neg nf, if_neg z]
    exact ⟨⟨so1, so1', ⟨so2, so2', ⟨so3, so3', True.intro⟩⟩⟩, ⟨nx.2.1, mo1, mo2, mo3, y4.2⟩, (co2.trans (Co.cr sf3)), fM3.trans yf.ml, Or.inr ⟨(by first | rfl | exact True.intro), yf.fl F3⟩⟩
  · have y3 := Xa.refl M3
    have y4 := xa_after (y3.st 1 a3) F3.1 10 0 100
    rw [← eM4] at y4
    have z : ¬ M4 65 13 = 0 := by rw [y4.1.e F3.1]; decide
    have yf := y4.1.st 2 a4
    simp only [tb1, tc1, tb2, tc2, tb3, if_true, if_neg nf, if_neg z]
    exact ⟨⟨so1, so1', ⟨so2, so2', ⟨so3, True.intro⟩⟩⟩, ⟨nx.2.1, mo1, mo2, mo3, y4.2⟩, (co2.trans (Co.cr sf3)), fM3.trans yf.ml, Or.inr ⟨(by first | rfl | exact True.intro), yf.fl F3⟩⟩
  have ms3 := ((ms2.krc (by omega) sf3 sj3).st (by omega) (by omega) 2 (X3 2 9)).mo (r' := st2 M3 69 1 a3 69) (fun j hj => by rw [st2_o _ _ _ (by omega), r3])
  have co3 : Co (dr w) I (st2 X3 (dr w) 2 (X3 2 9)) := co0.trans (ms3.co (by omega) (by omega) (by omega))
  have A3 : Ah (st2 X3 (dr w) 2 (X3 2 9)) (st2 M3 69 1 a3) N p3 := (B3.cl (by rw [st2_a _ _ (by omega)]) (by rw [st2_a _ _ (by omega)]) (by rw [st2_orow _ _ _ (by omega)]) (by rw [st2_a _ _ (by omega)])).mo (by rw [st2_orow _ _ _ (by omega)]) (by rw [st2_orow _ _ _ (by omega)]) (by rw [st2_orow _ _ _ (by omega)])
  have s4 := w_after A3 Y3 (s := 10) (by omega) 0 100
  rw [← eM4, ← ea4, ← eW4, ← eV4, ← eb4, ← eX4, ← eY4, ← ec4] at s4
  obtain ⟨so4, mo4, mf4, s4⟩ := s4
  have fM4 : Fk kml M M4 := (fM3.trans ((Xa.refl M3).st 1 a3).ml).trans mf4.ml
  have r4 : M4 69 = st2 M3 69 1 a3 69 := krm_row mf4 (by omega) (by omega)
  rcases s4 with ⟨tb4, so4', sf4, sj4, ⟨tc4, va4, iv4, p4, hp4, B4⟩ | ⟨tc4, F4⟩⟩ | ⟨tb4, sf4, sj4, F4⟩
  rotate_left
  · have y4 := Xa.refl M4
    have z : ¬ M4 65 13 = 0 := by rw [y4.e F4.1]; decide
    have yf := y4.st 2 a4
    simp only [tb1, tc1, tb2, tc2, tb3, tc3, tb4, tc4, if_true, if_neg nf, if_neg z]
    exact ⟨⟨so1, so1', ⟨so2, so2', ⟨so3, so3', ⟨so4, so4'⟩⟩⟩⟩, ⟨nx.2.1, mo1, mo2, mo3, mo4⟩, (co3.trans (Co.cr sf4)), fM4.trans yf.ml, Or.inr ⟨(by first | rfl | exact True.intro), yf.fl F4⟩⟩
  · have y4 := Xa.refl M4
    have z : ¬ M4 65 13 = 0 := by rw [y4.e F4.1]; decide
    have yf := y4.st 2 a4
    simp only [tb1, tc1, tb2, tc2, tb3, tc3, tb4, if_true, if_neg nf, if_neg z]
    exact ⟨⟨so1, so1', ⟨so2, so2', ⟨so3, so3', ⟨so4, True.intro⟩⟩⟩⟩, ⟨nx.2.1, mo1, mo2, mo3, mo4⟩, (co3.trans (Co.cr sf4)), fM4.trans yf.ml, Or.inr ⟨(by first | rfl | exact True.intro), yf.fl F4⟩⟩
  have ms4 := ((ms3.krc (by omega) sf4 sj4).st (by omega) (by omega) 3 (X4 2 9)).mo (r' := st2 M4 69 2 a4 69) (fun j hj => by rw [st2_o _ _ _ (by omega), r4])
  have co4 : Co (dr w) I (st2 X4 (dr w) 3 (X4 2 9)) := co0.trans (ms4.co (by omega) (by omega) (by omega))
  have A4 : Ah (st2 X4 (dr w) 3 (X4 2 9)) (st2 M4 69 2 a4) N p4 := (B4.cl (by rw [st2_a _ _ (by omega)]) (by rw [st2_a _ _ (by omega)]) (by rw [st2_orow _ _ _ (by omega)]) (by rw [st2_a _ _ (by omega)])).mo (by rw [st2_orow _ _ _ (by omega)]) (by rw [st2_orow _ _ _ (by omega)]) (by rw [st2_orow _ _ _ (by omega)])
  have ef : (st2 M4 69 2 a4) 65 13 = 0 := A4.2.1
  have ef2 : M4 65 13 = 0 := B4.2.1
  simp only [tb1, tc1, tb2, tc2, tb3, tc3, tb4, tc4, if_true, if_pos ef2]
  have yf := (((Xa.refl M4).st 2 a4)).st 11 1
  obtain ⟨r', er'⟩ : ∃ X, X = st2 (st2 M4 69 2 a4) 69 11 1 69 := ⟨_, rfl⟩
  have g1 : r' 10 = X1 2 9 := by rw [er', st2_o _ _ _ (by omega), st2_o _ _ _ (by omega), r4, st2_o _ _ _ (by omega), r3, st2_o _ _ _ (by omega), r2, st2_s]; exact va1
  have g2 : r' 0 = X2 2 9 := by rw [er', st2_o _ _ _ (by omega), st2_o _ _ _ (by omega), r4, st2_o _ _ _ (by omega), r3, st2_s]; exact va2
  have g3 : r' 1 = X3 2 9 := by rw [er', st2_o _ _ _ (by omega), st2_o _ _ _ (by omega), r4, st2_s]; exact va3
  have g4 : r' 2 = X4 2 9 := by rw [er', st2_o _ _ _ (by omega), st2_s]; exact va4
  have gf : r' 11 = 1 := by rw [er', st2_s]
  have go : ∀ j, j ≠ 10 → j ≠ 0 → j ≠ 1 → j ≠ 2 → j ≠ 11 → r' j = M 69 j := by
    intro j q0 q1 q2 q3 q4
    rw [er', st2_o _ _ _ (by omega), st2_o _ _ _ (by omega), r4, st2_o _ _ _ (by omega), r3, st2_o _ _ _ (by omega), r2, st2_o _ _ _ (by omega), r1, e69]
  refine ⟨⟨so1, so1', ⟨so2, so2', ⟨so3, so3', ⟨so4, so4'⟩⟩⟩⟩, ⟨nx.2.1, mo1, mo2, mo3, mo4⟩, co4, fM4.trans yf.ml, Or.inl ⟨(by first | rfl | exact True.intro), ⟨p4, by omega, ?_⟩, ⟨k, ?_⟩, ?_⟩⟩
  · exact A4.mo (by rw [st2_orow _ _ _ (by omega)]) (by rw [st2_orow _ _ _ (by omega)]) (by rw [st2_orow _ _ _ (by omega)])
  · rw [← er']
    have lV := hb.nV.2
    have lP := hb.nP.2
    have lS := hb.nS.2
    have lD := hb.nD.2
    have hb0 := hb
    obtain ⟨b_0, b_1, b_2, b_3, b_4, b_5, b_6, b_7, b_8, b_9, b_10, tv, tp, ts, td⟩ := hb0
    have hT0 := hT
    obtain ⟨z0, z1, z2, z3, z4, z5, z6, z7, _, _, _, _⟩ := hT0
    refine ⟨⟨by rw [g2]; exact inb_bw (lo := 0) (hi := 9) iv2 (by omega) (by omega), by rw [g3]; exact inb_bw (lo := 0) (hi := 3) iv3 (by omega) (by omega), by rw [g4]; exact inb_bw (lo := 0) (hi := 100) iv4 (by omega) (by omega), by rw [go 3 (by omega) (by omega) (by omega) (by omega) (by omega)]; exact b_3, by rw [go 4 (by omega) (by omega) (by omega) (by omega) (by omega)]; exact b_4, by rw [go 5 (by omega) (by omega) (by omega) (by omega) (by omega)]; exact b_5, by rw [go 6 (by omega) (by omega) (by omega) (by omega) (by omega)]; exact b_6, by rw [go 7 (by omega) (by omega) (by omega) (by omega) (by omega)]; exact b_7, by rw [go 8 (by omega) (by omega) (by omega) (by omega) (by omega)]; exact b_8, by rw [go 9 (by omega) (by omega) (by omega) (by omega) (by omega)]; exact b_9, by rw [g1]; exact inb_bw (lo := 0) (hi := 100) iv1 (by omega) (by omega), ?_, ?_, ?_, ?_⟩, tr_rows hT hb ⟨?_, ?_, ?_, ?_, ?_, ?_, ?_⟩ (fun j hj hj2 => go j (by omega) (by omega) (by omega) (by omega) (by omega)) ?_, ?_, ⟨?_, ?_⟩, ?_, ?_, ?_⟩
    · intro j hj
      rw [go 5 (by omega) (by omega) (by omega) (by omega) (by omega)] at hj
      rw [go (13 + 3 * j) (by omega) (by omega) (by omega) (by omega) (by omega), go (13 + 3 * j + 1) (by omega) (by omega) (by omega) (by omega) (by omega), go (13 + 3 * j + 2) (by omega) (by omega) (by omega) (by omega) (by omega)]; exact tv j hj
    · intro j hj
      rw [go 6 (by omega) (by omega) (by omega) (by omega) (by omega)] at hj
      rw [go (25 + 3 * j) (by omega) (by omega) (by omega) (by omega) (by omega), go (25 + 3 * j + 1) (by omega) (by omega) (by omega) (by omega) (by omega), go (25 + 3 * j + 2) (by omega) (by omega) (by omega) (by omega) (by omega)]; exact tp j hj
    · intro j hj
      rw [go 7 (by omega) (by omega) (by omega) (by omega) (by omega)] at hj
      rw [go (43 + 2 * j) (by omega) (by omega) (by omega) (by omega) (by omega), go (43 + 2 * j + 1) (by omega) (by omega) (by omega) (by omega) (by omega)]; exact ts j hj
    · intro j hj
      rw [go 9 (by omega) (by omega) (by omega) (by omega) (by omega)] at hj
      rw [go (53 + 3 * j) (by omega) (by omega) (by omega) (by omega) (by omega), go (53 + 3 * j + 1) (by omega) (by omega) (by omega) (by omega) (by omega), go (53 + 3 * j + 2) (by omega) (by omega) (by omega) (by omega) (by omega), go 8 (by omega) (by omega) (by omega) (by omega) (by omega)]; exact td j hj
    · rw [ms4.2.1, upd_sl _ _ _ _ (by omega), upd_sl _ _ _ _ (by omega), upd_sl _ _ _ _ (by omega), pk_us, g1]
    · rw [ms4.2.1, upd_sl _ _ _ _ (by omega), upd_sl _ _ _ _ (by omega), pk_us, g2]
    · rw [ms4.2.1, upd_sl _ _ _ _ (by omega), pk_us, g3]
    · rw [ms4.2.1, pk_us, g4]
    · rw [ms4.2.1, upd_sl _ _ _ _ (by omega), upd_sl _ _ _ _ (by omega), upd_sl _ _ _ _ (by omega), upd_sl _ _ _ _ (by omega), go 3 (by omega) (by omega) (by omega) (by omega) (by omega)]; exact z5
    · rw [ms4.2.1, upd_sl _ _ _ _ (by omega), upd_sl _ _ _ _ (by omega), upd_sl _ _ _ _ (by omega), upd_sl _ _ _ _ (by omega), go 4 (by omega) (by omega) (by omega) (by omega) (by omega)]; exact z6
    · rw [ms4.2.1, upd_sl _ _ _ _ (by omega), upd_sl _ _ _ _ (by omega), upd_sl _ _ _ _ (by omega), upd_sl _ _ _ _ (by omega), go 8 (by omega) (by omega) (by omega) (by omega) (by omega)]; exact z7
    · intro x x1 x2; exact ms4.1 x (by omega) (by omega) (by omega)
    · refine ms4.2.2.2.mo (fun j hj => ?_)
      rw [er', st2_o _ _ _ (by omega)]
    · rw [go 8 (by omega) (by omega) (by omega) (by omega) (by omega), go 5 (by omega) (by omega) (by omega) (by omega) (by omega), go 6 (by omega) (by omega) (by omega) (by omega) (by omega)]; exact hU.1
    · intro q hq hno; rw [go 8 (by omega) (by omega) (by omega) (by omega) (by omega), go 5 (by omega) (by omega) (by omega) (by omega) (by omega), go 6 (by omega) (by omega) (by omega) (by omega) (by omega)] at hno; rw [go (80 + q) (by omega) (by omega) (by omega) (by omega) (by omega)]; exact hU.2 q hq hno
    · rw [ms4.2.2.1, hw1, go 12 (by omega) (by omega) (by omega) (by omega) (by omega)]
    · rw [go 12 (by omega) (by omega) (by omega) (by omega) (by omega)]; exact hw2
    · exact Or.inr gf
  · rw [← er']; exact gf
theorem sc_weather {I W1 X1 W2 X2 : Mm} {J V1 Y1 V2 Y2 : Nat → Nat → Int64} {w : Bool} {b1 c1 b2 c2 : Bool} (eW1 : W1 = m_X6_wants (st2 I 2 10 1) J 11) (eV1 : V1 = j_X6_wants (st2 I 2 10 1) J 11) (eb1 : b1 = f_X6_wants (st2 I 2 10 1) J 11) (eX1 : X1 = m_X6_wantsWhole W1 V1 0 30) (eY1 : Y1 = j_X6_wantsWhole W1 V1 0 30) (ec1 : c1 = f_X6_wantsWhole W1 V1 0 30) (eW2 : W2 = m_X6_wants (st2 X1 (dr w) 4 (X1 2 9)) Y1 12) (eV2 : V2 = j_X6_wants (st2 X1 (dr w) 4 (X1 2 9)) Y1 12) (eb2 : b2 = f_X6_wants (st2 X1 (dr w) 4 (X1 2 9)) Y1 12) (eX2 : X2 = m_X6_wantsWhole W2 V2 0 30) (eY2 : Y2 = j_X6_wantsWhole W2 V2 0 30) (ec2 : c2 = f_X6_wantsWhole W2 V2 0 30) : f_X6_readWeather I J w = (if b1 = true then (if c1 = true then (if b2 = true then (if c2 = true then true else false) else false) else false) else false) ∧ m_X6_readWeather I J w = (if b1 = true then (if c1 = true then (if b2 = true then (if c2 = true then (st2 X2 (dr w) 5 (X2 2 9)) else X2) else W2) else X1) else W1) ∧ j_X6_readWeather I J w = (if b1 = true then (if c1 = true then (if b2 = true then Y2 else V2) else Y1) else V1) ∧ (ok_X6_readWeather I J w ↔ (ok_X6_wants (st2 I 2 10 1) J 11 ∧ (if b1 = true then (ok_X6_wantsWhole W1 V1 0 30 ∧ (if c1 = true then (ok_X6_wants (st2 X1 (dr w) 4 (X1 2 9)) Y1 12 ∧ (if b2 = true then ok_X6_wantsWhole W2 V2 0 30 else True)) else True)) else True))) := by
  subst ec2 eY2 eX2 eb2 eV2 eW2 ec1 eY1 eX1 eb1 eV1 eW1
  rw [f_X6_readWeather, m_X6_readWeather, j_X6_readWeather, ok_X6_readWeather, opv_eq, opv_eq, opv_eq, opv_eq]
  simp only [u5_X6_readWeather, u4_X6_readWeather, u3_X6_readWeather, u2_X6_readWeather, u1_X6_readWeather, u0_X6_readWeather, opv_eq]
  exact ⟨(by first | exact True.intro | rfl), (by first | exact True.intro | rfl), (by first | exact True.intro | rfl), (by first | exact Iff.rfl | exact True.intro)⟩
theorem sh_weather {M M0 M1 M2 : Mm} {a1 a2 : Int32} (h13 : M 65 13 = 0) (h12 : M 69 12 ≤ 0) (eM0 : M0 = m_X11_next M) (eM1 : M1 = m_X11_after M0 11 0 30) (ea1 : a1 = f_X11_after M0 11 0 30) (eM2 : M2 = m_X11_after (st2 M1 69 3 a1) 12 0 30) (ea2 : a2 = f_X11_after (st2 M1 69 3 a1) 12 0 30) : m_X11_weatherLine M = st2 (st2 M2 69 4 a2) 69 12 1 ∧ (ok_X11_weatherLine M ↔ (ok_X11_next M ∧ ok_X11_after M0 11 0 30 ∧ ok_X11_after (st2 M1 69 3 a1) 12 0 30)) := by
  subst ea2 eM2 ea1 eM1 eM0
  rw [m_X11_weatherLine, ok_X11_weatherLine, opv_eq, opv_eq]
  simp only [u1_X11_weatherLine, u0_X11_weatherLine, opv_eq, if_pos h12, if_pos h13]
  exact ⟨(by first | exact True.intro | rfl), (by first | exact Iff.rfl | exact True.intro)⟩
theorem l_weather {I M : Mm} {J : Nat → Nat → Int64} {N p k : Nat} {w : Bool} (h : At I J M N p) (h6 : M 65 6 = 2) (ls : LSt I J (M 69) (dr w) k) (h12 : M 69 12 = 0) (h11 : M 69 11 = 1) : ok_X6_readWeather I J w ∧ ok_X11_weatherLine M ∧ Co (dr w) I (m_X6_readWeather I J w) ∧ Fk kml M (m_X11_weatherLine M) ∧ Res (f_X6_readWeather I J w) (m_X6_readWeather I J w) (j_X6_readWeather I J w) (m_X11_weatherLine M) N p (dr w) := by
  have nx := at_ah h (by rw [h6]; decide)
  have e69 := krm_row nx.2.2.1 (a := 69) (by omega) (by omega)
  have h13 := h.2.1
  obtain ⟨hb, hT, hN, hU, hw1, hw2, hw3⟩ := ls
  have hdr := dr_or w
  obtain ⟨M0, eM0⟩ : ∃ X, X = m_X11_next M := ⟨_, rfl⟩
  obtain ⟨M1, eM1⟩ : ∃ X, X = m_X11_after M0 11 0 30 := ⟨_, rfl⟩
  obtain ⟨a1, ea1⟩ : ∃ X, X = f_X11_after M0 11 0 30 := ⟨_, rfl⟩
  obtain ⟨M2, eM2⟩ : ∃ X, X = m_X11_after (st2 M1 69 3 a1) 12 0 30 := ⟨_, rfl⟩
  obtain ⟨a2, ea2⟩ : ∃ X, X = f_X11_after (st2 M1 69 3 a1) 12 0 30 := ⟨_, rfl⟩
  rw [← eM0] at nx e69
  have sh := sh_weather h13 (by rw [h12]; decide) eM0 eM1 ea1 eM2 ea2
  obtain ⟨W1, eW1⟩ : ∃ X, X = m_X6_wants (st2 I 2 10 1) J 11 := ⟨_, rfl⟩
  obtain ⟨V1, eV1⟩ : ∃ X, X = j_X6_wants (st2 I 2 10 1) J 11 := ⟨_, rfl⟩
  obtain ⟨b1, eb1⟩ : ∃ X, X = f_X6_wants (st2 I 2 10 1) J 11 := ⟨_, rfl⟩
  obtain ⟨X1, eX1⟩ : ∃ X, X = m_X6_wantsWhole W1 V1 0 30 := ⟨_, rfl⟩
  obtain ⟨Y1, eY1⟩ : ∃ X, X = j_X6_wantsWhole W1 V1 0 30 := ⟨_, rfl⟩
  obtain ⟨c1, ec1⟩ : ∃ X, X = f_X6_wantsWhole W1 V1 0 30 := ⟨_, rfl⟩
  obtain ⟨W2, eW2⟩ : ∃ X, X = m_X6_wants (st2 X1 (dr w) 4 (X1 2 9)) Y1 12 := ⟨_, rfl⟩
  obtain ⟨V2, eV2⟩ : ∃ X, X = j_X6_wants (st2 X1 (dr w) 4 (X1 2 9)) Y1 12 := ⟨_, rfl⟩
  obtain ⟨b2, eb2⟩ : ∃ X, X = f_X6_wants (st2 X1 (dr w) 4 (X1 2 9)) Y1 12 := ⟨_, rfl⟩
  obtain ⟨X2, eX2⟩ : ∃ X, X = m_X6_wantsWhole W2 V2 0 30 := ⟨_, rfl⟩
  obtain ⟨Y2, eY2⟩ : ∃ X, X = j_X6_wantsWhole W2 V2 0 30 := ⟨_, rfl⟩
  obtain ⟨c2, ec2⟩ : ∃ X, X = f_X6_wantsWhole W2 V2 0 30 := ⟨_, rfl⟩
  have sc := sc_weather (I := I) (J := J) (w := w) eW1 eV1 eb1 eX1 eY1 ec1 eW2 eV2 eb2 eX2 eY2 ec2
  rw [sh.1, sh.2, sc.1, sc.2.1, sc.2.2.1, sc.2.2.2]
  clear sh sc
  have A0 : Ah (st2 I 2 10 1) M0 N p := nx.1.cl (by rw [st2_o _ _ _ (by omega)]) (by rw [st2_o _ _ _ (by omega)]) (by rw [st2_orow _ _ _ (by omega)]) (by rw [st2_o _ _ _ (by omega)])
  have co0 : Co (dr w) I (st2 I 2 10 1) := ⟨fun x x1 x2 x3 => st2_orow _ _ _ x1, fun c j c1 _ _ _ => by rw [st2_orow _ _ _ (show c ≠ 2 by omega)]⟩
  have ms0 : MS (st2 I 2 10 1) (st2 I 2 10 1) J (M0 69) (dr w) k (I (dr w)) := ⟨fun x x1 x2 x3 => rfl, st2_orow _ _ _ (by omega), rfl, by rw [e69]; exact hN.cl (by rw [st2_o _ _ _ (by omega)]) (by rw [st2_orow _ _ _ (by omega)]) rfl⟩
  have fM0 : Fk kml M M0 := nx.2.2.1.ml
  have nf : ¬ false = true := by decide
  have s1 := w_after A0 J (s := 11) (by omega) 0 30
  rw [← eM1, ← ea1, ← eW1, ← eV1, ← eb1, ← eX1, ← eY1, ← ec1] at s1
  obtain ⟨so1, mo1, mf1, s1⟩ := s1
  have fM1 : Fk kml M M1 := fM0.trans mf1.ml
  have r1 : M1 69 = M0 69 := krm_row mf1 (by omega) (by omega)
  rcases s1 with ⟨tb1, so1', sf1, sj1, ⟨tc1, va1, iv1, p1, hp1, B1⟩ | ⟨tc1, F1⟩⟩ | ⟨tb1, sf1, sj1, F1⟩
  rotate_left
  · have y1 := Xa.refl M1
    have y2 := xa_after (y1.st 3 a1) F1.1 12 0 30
    rw [← eM2] at y2
    have z : M2 65 13 = 1 := y2.1.e F1.1
    have yf := (y2.1.st 4 a2).st 12 1
    simp only [tb1, tc1, if_true, if_neg nf]
    exact ⟨⟨so1, so1', True.intro⟩, ⟨nx.2.1, mo1, y2.2⟩, (co0.trans (Co.cr sf1)), fM1.trans yf.ml, Or.inr ⟨(by first | rfl | exact True.intro), yf.fl F1⟩⟩
  · have y1 := Xa.refl M1
    have y2 := xa_after (y1.st 3 a1) F1.1 12 0 30
    rw [← eM2] at y2
    have z : M2 65 13 = 1 := y2.1.e F1.1
    have yf := (y2.1.st 4 a2).st 12 1
    simp only [tb1, if_true, if_neg nf]
    exact ⟨⟨so1, True.intro⟩, ⟨nx.2.1, mo1, y2.2⟩, (co0.trans (Co.cr sf1)), fM1.trans yf.ml, Or.inr ⟨(by first | rfl | exact True.intro), yf.fl F1⟩⟩
  have ms1 := ((ms0.krc (by omega) sf1 sj1).st (by omega) (by omega) 4 (X1 2 9)).mo (r' := st2 M1 69 3 a1 69) (fun j hj => by rw [st2_o _ _ _ (by omega), r1])
  have co1 : Co (dr w) I (st2 X1 (dr w) 4 (X1 2 9)) := co0.trans (ms1.co (by omega) (by omega) (by omega))
  have A1 : Ah (st2 X1 (dr w) 4 (X1 2 9)) (st2 M1 69 3 a1) N p1 := (B1.cl (by rw [st2_a _ _ (by omega)]) (by rw [st2_a _ _ (by omega)]) (by rw [st2_orow _ _ _ (by omega)]) (by rw [st2_a _ _ (by omega)])).mo (by rw [st2_orow _ _ _ (by omega)]) (by rw [st2_orow _ _ _ (by omega)]) (by rw [st2_orow _ _ _ (by omega)])
  have s2 := w_after A1 Y1 (s := 12) (by omega) 0 30
  rw [← eM2, ← ea2, ← eW2, ← eV2, ← eb2, ← eX2, ← eY2, ← ec2] at s2
  obtain ⟨so2, mo2, mf2, s2⟩ := s2
  have fM2 : Fk kml M M2 := (fM1.trans ((Xa.refl M1).st 3 a1).ml).trans mf2.ml
  have r2 : M2 69 = st2 M1 69 3 a1 69 := krm_row mf2 (by omega) (by omega)
  rcases s2 with ⟨tb2, so2', sf2, sj2, ⟨tc2, va2, iv2, p2, hp2, B2⟩ | ⟨tc2, F2⟩⟩ | ⟨tb2, sf2, sj2, F2⟩
  rotate_left
  · have y2 := Xa.refl M2
    have z : M2 65 13 = 1 := y2.e F2.1
    have yf := (y2.st 4 a2).st 12 1
    simp only [tb1, tc1, tb2, tc2, if_true, if_neg nf]
    exact ⟨⟨so1, so1', ⟨so2, so2'⟩⟩, ⟨nx.2.1, mo1, mo2⟩, (co1.trans (Co.cr sf2)), fM2.trans yf.ml, Or.inr ⟨(by first | rfl | exact True.intro), yf.fl F2⟩⟩
  · have y2 := Xa.refl M2
    have z : M2 65 13 = 1 := y2.e F2.1
    have yf := (y2.st 4 a2).st 12 1
    simp only [tb1, tc1, tb2, if_true, if_neg nf]
    exact ⟨⟨so1, so1', ⟨so2, True.intro⟩⟩, ⟨nx.2.1, mo1, mo2⟩, (co1.trans (Co.cr sf2)), fM2.trans yf.ml, Or.inr ⟨(by first | rfl | exact True.intro), yf.fl F2⟩⟩
  have ms2 := ((ms1.krc (by omega) sf2 sj2).st (by omega) (by omega) 5 (X2 2 9)).mo (r' := st2 M2 69 4 a2 69) (fun j hj => by rw [st2_o _ _ _ (by omega), r2])
  have co2 : Co (dr w) I (st2 X2 (dr w) 5 (X2 2 9)) := co0.trans (ms2.co (by omega) (by omega) (by omega))
  have A2 : Ah (st2 X2 (dr w) 5 (X2 2 9)) (st2 M2 69 4 a2) N p2 := (B2.cl (by rw [st2_a _ _ (by omega)]) (by rw [st2_a _ _ (by omega)]) (by rw [st2_orow _ _ _ (by omega)]) (by rw [st2_a _ _ (by omega)])).mo (by rw [st2_orow _ _ _ (by omega)]) (by rw [st2_orow _ _ _ (by omega)]) (by rw [st2_orow _ _ _ (by omega)])
  have ef : (st2 M2 69 4 a2) 65 13 = 0 := A2.2.1
  have ef2 : M2 65 13 = 0 := B2.2.1
  simp only [tb1, tc1, tb2, tc2, if_true]
  have yf := (((Xa.refl M2).st 4 a2)).st 12 1
  obtain ⟨r', er'⟩ : ∃ X, X = st2 (st2 M2 69 4 a2) 69 12 1 69 := ⟨_, rfl⟩
  have g1 : r' 3 = X1 2 9 := by rw [er', st2_o _ _ _ (by omega), st2_o _ _ _ (by omega), r2, st2_s]; exact va1
  have g2 : r' 4 = X2 2 9 := by rw [er', st2_o _ _ _ (by omega), st2_s]; exact va2
  have gf : r' 12 = 1 := by rw [er', st2_s]
  have go : ∀ j, j ≠ 3 → j ≠ 4 → j ≠ 12 → r' j = M 69 j := by
    intro j q0 q1 q2
    rw [er', st2_o _ _ _ (by omega), st2_o _ _ _ (by omega), r2, st2_o _ _ _ (by omega), r1, e69]
  refine ⟨⟨so1, so1', ⟨so2, so2'⟩⟩, ⟨nx.2.1, mo1, mo2⟩, co2, fM2.trans yf.ml, Or.inl ⟨(by first | rfl | exact True.intro), ⟨p2, by omega, ?_⟩, ⟨k, ?_⟩, ?_⟩⟩
  · exact A2.mo (by rw [st2_orow _ _ _ (by omega)]) (by rw [st2_orow _ _ _ (by omega)]) (by rw [st2_orow _ _ _ (by omega)])
  · rw [← er']
    have lV := hb.nV.2
    have lP := hb.nP.2
    have lS := hb.nS.2
    have lD := hb.nD.2
    have hb0 := hb
    obtain ⟨b_0, b_1, b_2, b_3, b_4, b_5, b_6, b_7, b_8, b_9, b_10, tv, tp, ts, td⟩ := hb0
    have hT0 := hT
    obtain ⟨z0, z1, z2, z3, z4, z5, z6, z7, _, _, _, _⟩ := hT0
    refine ⟨⟨by rw [go 0 (by omega) (by omega) (by omega)]; exact b_0, by rw [go 1 (by omega) (by omega) (by omega)]; exact b_1, by rw [go 2 (by omega) (by omega) (by omega)]; exact b_2, by rw [g1]; exact inb_bw (lo := 0) (hi := 30) iv1 (by omega) (by omega), by rw [g2]; exact inb_bw (lo := 0) (hi := 30) iv2 (by omega) (by omega), by rw [go 5 (by omega) (by omega) (by omega)]; exact b_5, by rw [go 6 (by omega) (by omega) (by omega)]; exact b_6, by rw [go 7 (by omega) (by omega) (by omega)]; exact b_7, by rw [go 8 (by omega) (by omega) (by omega)]; exact b_8, by rw [go 9 (by omega) (by omega) (by omega)]; exact b_9, by rw [go 10 (by omega) (by omega) (by omega)]; exact b_10, ?_, ?_, ?_, ?_⟩, tr_rows hT hb ⟨?_, ?_, ?_, ?_, ?_, ?_, ?_⟩ (fun j hj hj2 => go j (by omega) (by omega) (by omega)) ?_, ?_, ⟨?_, ?_⟩, ?_, ?_, ?_⟩
    · intro j hj
      rw [go 5 (by omega) (by omega) (by omega)] at hj
      rw [go (13 + 3 * j) (by omega) (by omega) (by omega), go (13 + 3 * j + 1) (by omega) (by omega) (by omega), go (13 + 3 * j + 2) (by omega) (by omega) (by omega)]; exact tv j hj
    · intro j hj
      rw [go 6 (by omega) (by omega) (by omega)] at hj
      rw [go (25 + 3 * j) (by omega) (by omega) (by omega), go (25 + 3 * j + 1) (by omega) (by omega) (by omega), go (25 + 3 * j + 2) (by omega) (by omega) (by omega)]; exact tp j hj
    · intro j hj
      rw [go 7 (by omega) (by omega) (by omega)] at hj
      rw [go (43 + 2 * j) (by omega) (by omega) (by omega), go (43 + 2 * j + 1) (by omega) (by omega) (by omega)]; exact ts j hj
    · intro j hj
      rw [go 9 (by omega) (by omega) (by omega)] at hj
      rw [go (53 + 3 * j) (by omega) (by omega) (by omega), go (53 + 3 * j + 1) (by omega) (by omega) (by omega), go (53 + 3 * j + 2) (by omega) (by omega) (by omega), go 8 (by omega) (by omega) (by omega)]; exact td j hj
    · rw [ms2.2.1, upd_sl _ _ _ _ (by omega), upd_sl _ _ _ _ (by omega), go 10 (by omega) (by omega) (by omega)]; exact z1
    · rw [ms2.2.1, upd_sl _ _ _ _ (by omega), upd_sl _ _ _ _ (by omega), go 0 (by omega) (by omega) (by omega)]; exact z2
    · rw [ms2.2.1, upd_sl _ _ _ _ (by omega), upd_sl _ _ _ _ (by omega), go 1 (by omega) (by omega) (by omega)]; exact z3
    · rw [ms2.2.1, upd_sl _ _ _ _ (by omega), upd_sl _ _ _ _ (by omega), go 2 (by omega) (by omega) (by omega)]; exact z4
    · rw [ms2.2.1, upd_sl _ _ _ _ (by omega), pk_us, g1]
    · rw [ms2.2.1, pk_us, g2]
    · rw [ms2.2.1, upd_sl _ _ _ _ (by omega), upd_sl _ _ _ _ (by omega), go 8 (by omega) (by omega) (by omega)]; exact z7
    · intro x x1 x2; rw [ms2.1 x (by omega) (by omega) (by omega), st2_orow _ _ _ (by omega)]
    · refine ms2.2.2.2.mo (fun j hj => ?_)
      rw [er', st2_o _ _ _ (by omega)]
    · rw [go 8 (by omega) (by omega) (by omega), go 5 (by omega) (by omega) (by omega), go 6 (by omega) (by omega) (by omega)]; exact hU.1
    · intro q hq hno; rw [go 8 (by omega) (by omega) (by omega), go 5 (by omega) (by omega) (by omega), go 6 (by omega) (by omega) (by omega)] at hno; rw [go (80 + q) (by omega) (by omega) (by omega)]; exact hU.2 q hq hno
    · rw [ms2.2.2.1, st2_s, gf]
    · exact Or.inr gf
    · rw [go 11 (by omega) (by omega) (by omega)]; exact hw3
  · rw [← er', go 11 (by omega) (by omega) (by omega)]; exact h11
