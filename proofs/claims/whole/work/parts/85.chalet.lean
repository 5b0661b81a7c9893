/-! ===== the call of chalet ===== -/
theorem RB.to {r r' : Vc} (hb : RB r) (h : ∀ j, j < 80 → r' j = r j) : RB r' := by
  have lV := hb.nV.2
  have lP := hb.nP.2
  have lS := hb.nS.2
  have lD := hb.nD.2
  have hb0 := hb
  obtain ⟨b0, b1, b2, b3, b4, b5, b6, b7, b8, b9, b10, tv, tp, ts, td⟩ := hb0
  refine ⟨by rw [h 0 (by omega)]; exact b0, by rw [h 1 (by omega)]; exact b1, by rw [h 2 (by omega)]; exact b2, by rw [h 3 (by omega)]; exact b3, by rw [h 4 (by omega)]; exact b4, by rw [h 5 (by omega)]; exact b5, by rw [h 6 (by omega)]; exact b6, by rw [h 7 (by omega)]; exact b7, by rw [h 8 (by omega)]; exact b8, by rw [h 9 (by omega)]; exact b9, by rw [h 10 (by omega)]; exact b10, ?_, ?_, ?_, ?_⟩
  · intro k hk
    rw [h 5 (by omega)] at hk
    rw [h (13 + 3 * k) (by omega), h (13 + 3 * k + 1) (by omega), h (13 + 3 * k + 2) (by omega)]; exact tv k hk
  · intro k hk
    rw [h 6 (by omega)] at hk
    rw [h (25 + 3 * k) (by omega), h (25 + 3 * k + 1) (by omega), h (25 + 3 * k + 2) (by omega)]; exact tp k hk
  · intro k hk
    rw [h 7 (by omega)] at hk
    rw [h (43 + 2 * k) (by omega), h (43 + 2 * k + 1) (by omega)]; exact ts k hk
  · intro k hk
    rw [h 9 (by omega)] at hk
    rw [h (53 + 3 * k) (by omega), h (53 + 3 * k + 1) (by omega), h (53 + 3 * k + 2) (by omega), h 8 (by omega)]; exact td k hk
theorem TR.to {I : Mm} {r r' : Vc} {t : Nat} (hT : TR I r t) (hb : RB r) (h : ∀ j, j < 80 → r' j = r j) : TR I r' t := by
  have hT0 := hT
  obtain ⟨z0, z1, z2, z3, z4, z5, z6, z7, _, _, _, _⟩ := hT0
  exact tr_rows hT hb ⟨by rw [h 10 (by omega)]; exact z1, by rw [h 0 (by omega)]; exact z2, by rw [h 1 (by omega)]; exact z3, by rw [h 2 (by omega)]; exact z4, by rw [h 3 (by omega)]; exact z5, by rw [h 4 (by omega)]; exact z6, by rw [h 8 (by omega)]; exact z7⟩ (fun j hj _ => h j hj) (fun _ _ _ => rfl)
theorem td_not (w : Bool) : td (!w) = dr w := by cases w <;> rfl
theorem dr_not (w : Bool) : dr (!w) = td w := by cases w <;> rfl
theorem td_dr (w : Bool) : td w + 8 < dr w ∨ dr w + 8 < td w := by cases w <;> simp [td, dr]
theorem br_mp {r : Vc} {wood : Int32} {b v : Vc} (p : Vc) (h : BR r wood 0 b v) : BR r wood 999 b (mpy p v) := by
  unfold BR KR kb at *
  simp only [mpy_0, mpy_1, mpy_2, mpy_3, mpy_4, mpy_5, mpy_6]
  obtain ⟨a1, a2, a3, a4, a5, a6, a7, a8, a9, a10, a11, a12, a13⟩ := h
  exact ⟨a1, a2, a3, a4, a5, a6, a7, a8, a9, a10, ⟨a11.1, by have := a11.2; omega⟩, a12, a13⟩
theorem kmz_row {D U : Mm} (h : Fk kmz D U) {a : Nat} (h5 : a ≠ 65) (h7 : a ≠ 67) (h9 : a ≠ 69) : U a = D a := funext fun j => h a j (by unfold kmz kml krm; simp [h5, h7, h9])
theorem st_chalet : St_chalet Sim := by
  intro I J w x1 h
  have hc := h.1
  have hTP := hc.2.2.2.2.1
  have L0 := bw_nI (hi := 900) hTP.2.1
  have ht := dr_or w
  have htd := td_or w
  by_cases q : inb x1 0 (I 0 1) = true
  rotate_left
  · have e2 : m_X11_good (st2 I 0 7 2) 65 2 = I 0 1 := by rw [m_X11_good, opv_eq, st2_o _ _ _ (by omega), st2_o _ _ _ (by omega), st2_a _ _ (by omega), ← hTP.1]
    simp only [ok_X10_chalet, f_X10_chalet, m_X10_chalet, j_X10_chalet, z_X10_chalet, opv_eq, f_within, if_neg q, m_X10_refuse, f_X10_refuse, ok_X11_chalet, m_X11_chalet, f_X11_chalet, f_in, e2, f_X11_no, m_X11_no]
    refine ⟨True.intro, True.intro, (by first | rfl | exact True.intro), h.done (v := 2) (Fr.refl _) ?_ (by decide)⟩
    rw [m_X11_good, opv_eq, st2_st2]
    exact Fr.swap
  obtain ⟨N, _, hN, eN⟩ := inb_nI (lo := 0) (hi := (I 0 1).toNatClampNeg) (by omega) (by rw [← L0.1]; exact q) (by omega)
  subst eN
  have rI := rl_run (D := I) hc hN (fun _ _ => rfl) J
  have bc := beg_cells I w (N := N) (by omega)
  rw [ok_X10_chalet, f_X10_chalet, m_X10_chalet, j_X10_chalet, z_X10_chalet, opv_eq, opv_eq, opv_eq, opv_eq, opv_eq, u1_X10_chalet, u0_X10_chalet, opv_eq, opv_eq, f_within, if_pos q, if_pos q, if_pos q, if_pos q, if_pos q]
  have rr : ∀ D : Mm, (∀ a, 65 ≤ a → D a = I a) → _ := fun D hD => rl_run (D := D) hc hN hD J
  obtain ⟨B, eB⟩ : ∃ X, X = m_X6_begin I w (nI N) := ⟨_, rfl⟩
  rw [← eB] at bc rI rr ⊢
  obtain ⟨R, eR⟩ : ∃ X, X = m_X6_readLines B J w := ⟨_, rfl⟩
  obtain ⟨RJ, eRJ⟩ : ∃ X, X = j_X6_readLines B J w := ⟨_, rfl⟩
  obtain ⟨fb, efb⟩ : ∃ X, X = f_X6_readLines B J w := ⟨_, rfl⟩
  rw [← eR, ← eRJ, ← efb] at rI rr ⊢
  have co := rI.2.2.1
  have okR := rI.1
  clear rI
  have rowR : ∀ a, a ≠ 0 → a ≠ 2 → a ≠ 13 → (a < dr w ∨ dr w + 8 < a) → R a = I a := fun a x y z u => (co.1 a y z u).trans (bc.1 a x y u)
  have R0 : R 0 = B 0 := co.1 0 (by omega) (by omega) (by omega)
  have R0j : ∀ j, j ≠ 1 → R 0 j = I 0 j := fun j hj => by rw [R0]; exact bc.2.1 j hj
  have R01 : R 0 1 = 0 := by rw [R0]; exact bc.2.2.1
  obtain ⟨X, eX⟩ : ∃ Y, Y = st2 (st2 R 0 5 (R 2 0)) 0 6 (R 2 1) := ⟨_, rfl⟩
  rw [← eX]
  have rowX : ∀ a, a ≠ 0 → X a = R a := fun a ha => by rw [eX, st2_orow _ _ _ ha, st2_orow _ _ _ ha]
  have X05 : X 0 5 = R 2 0 := by rw [eX, st2_o _ _ _ (by omega), st2_s]
  have X06 : X 0 6 = R 2 1 := by rw [eX, st2_s]
  have X0j : ∀ j, j ≠ 5 → j ≠ 6 → X 0 j = R 0 j := fun j h1 h2 => by rw [eX, st2_o _ _ _ h2, st2_o _ _ _ h1]
  have q2 : ∀ C : Mm, (∀ a, 65 ≤ a → C a = I a) → inb (nI N) 0 (m_X11_good C 65 2) = true := by
    intro C hC
    rw [m_X11_good, opv_eq, st2_o _ _ _ (by omega), st2_o _ _ _ (by omega), hC 65 (by omega), ← hTP.1]
    exact q
  by_cases fbt : fb = true
  · simp only [fbt, if_true]
    rw [z_X10_takeDraft, opv_eq, td_not, rt_7 ht]
    obtain ⟨T, eT⟩ : ∃ Y, Y = m_X10_takeDraft X w := ⟨_, rfl⟩
    rw [← eT]
    rw [m_X10_takeDraft, opv_eq, u0_X10_takeDraft, opv_eq, td_not, m_X4_forget, opv_eq, m_X5_forget, opv_eq, m_cbegin] at eT
    obtain ⟨C, eC⟩ : ∃ Y, Y = st2 T 0 7 0 := ⟨_, rfl⟩
    rw [← eC]
    have rowT : ∀ a, a ≠ 0 → a ≠ 23 → a ≠ 24 → a ≠ 58 → T a = R a := fun a h1 h2 h3 h4 => by
      rw [eT, st2_orow _ _ _ h4, st2_orow _ _ _ h4, st2_orow _ _ _ h3, st2_orow _ _ _ h3, vu_o _ _ h2, st2_orow _ _ _ h1, rowX a h1]
    have rowC : ∀ a, a ≠ 0 → C a = T a := fun a ha => by rw [eC, st2_orow _ _ _ ha]
    have hC : ∀ a, 65 ≤ a → C a = I a := fun a ha => by rw [rowC a (by omega), rowT a (by omega) (by omega) (by omega) (by omega), rowR a (by omega) (by omega) (by omega) (by omega)]
    have C0 : ∀ j, C 0 j = if j = 7 then 0 else if j = 4 then 1 else X 0 j := by
      intro j
      rw [eC, st2_ev, if_pos rfl, eT, st2_a _ _ (by omega), st2_a _ _ (by omega), st2_a _ _ (by omega), st2_a _ _ (by omega), vu_a _ _ (by omega), st2_ev, if_pos rfl]
    have C23 : C 23 = cbeg (I 23) (R (dr w) 0) (R (dr w) 1) (R (dr w) 2) := by
      rw [rowC 23 (by omega), eT, st2_orow _ _ _ (by omega), st2_orow _ _ _ (by omega), st2_orow _ _ _ (by omega), st2_orow _ _ _ (by omega), vu_s, st2_orow _ _ _ (by omega), rowX 23 (by omega), rowR 23 (by omega) (by omega) (by omega) (by omega), rowX (dr w) (by omega)]
    have C24 : C 24 0 = 0 ∧ C 24 1 = 0 ∧ C 24 2 = I 24 2 := by
      rw [rowC 24 (by omega), eT, st2_a _ _ (by omega), st2_a _ _ (by omega), st2_o _ _ _ (by omega), st2_s, st2_a _ _ (by omega), st2_a _ _ (by omega), st2_s, st2_a _ _ (by omega), st2_a _ _ (by omega), st2_o _ _ _ (by omega), st2_o _ _ _ (by omega), vu_a _ _ (by omega), st2_a _ _ (by omega), rowX 24 (by omega), rowR 24 (by omega) (by omega) (by omega) (by omega)]
      exact ⟨rfl, rfl, rfl⟩
    have C58 : C 58 4 = 0 := by
      rw [rowC 58 (by omega), eT, st2_o _ _ _ (by omega), st2_s]
    have rC := rr C hC
    obtain ⟨U, eU⟩ : ∃ Y, Y = u2_X11_chalet C (nI N) := ⟨_, rfl⟩
    rw [← eU] at rC
    obtain ⟨_, ok1, _, fU, ⟨U2, U11⟩, res⟩ := rC
    rcases res with ⟨_, U13, ⟨k', ls⟩, U6911, R20, U9⟩ | ⟨bad, _⟩
    rotate_left
    · rw [fbt] at bad
      exact absurd bad (by decide)
    have e3 : u3_X11_chalet C (nI N) = U := by rw [u3_X11_chalet, opv_eq, ← eU, if_pos U13, if_neg (by rw [U6911]; decide)]
    have cp : m_X11_copy U 69 0 68 0 224 = va_up U 68 (fun j => if 0 ≤ j ∧ j < 0 + 224 then U 69 (0 + (j - 0)) else U 68 j) := m_cp (a := 69) (b := 68) (s := 0) (d := 0) (n := 224) U (by omega) (by omega) (by omega)
    have cpo : ok_X11_copy U 69 0 68 0 224 := cp_ok (a := 69) (b := 68) (s := 0) (d := 0) (n := 224) U (by decide +kernel) (by decide +kernel) (by decide +kernel) (by decide +kernel)
    obtain ⟨r', er⟩ : ∃ Y, Y = (fun j => if 0 ≤ j ∧ j < 0 + 224 then U 69 (0 + (j - 0)) else U 68 j) := ⟨_, rfl⟩
    rw [← er] at cp
    have rj : ∀ j, j < 224 → r' j = U 69 j := fun j hj => by
      rw [er]
      show (if 0 ≤ j ∧ j < 0 + 224 then U 69 (0 + (j - 0)) else U 68 j) = U 69 j
      rw [if_pos (by omega), show 0 + (j - 0) = j by omega]
    obtain ⟨P, eP⟩ : ∃ Y, Y = va_up U 68 r' := ⟨_, rfl⟩
    rw [← eP] at cp
    have P68 : P 68 = r' := by rw [eP, vu_s]
    have bg := m_begins (I := P) (a := 70) P68 (by omega) (by decide +kernel) (by decide +kernel) (P 68 1)
    have e4 : u4_X11_chalet C (nI N) = va_up P 70 (mpy (P 70) (mbeg r' (P 68 1))) := by rw [u4_X11_chalet, opv_eq, e3, cp, bg.1]
    rw [ok_X11_chalet, m_X11_chalet, f_X11_chalet, opv_eq, opv_eq, opv_eq, f_in, if_pos (q2 C hC), if_pos (q2 C hC), if_pos (q2 C hC), e3, if_pos U13, if_pos U13, if_pos U13, e4, cp]
    have hrb : RB r' := ls.1.to (fun j hj => rj j (by omega))
    have hnV := ls.1.nV
    have tv := ls.2.1.2.2.2.2.2.2.2.2.1
    refine ⟨okR, ⟨ok1.1, ok1.2.1, ok1.2.2.1, ok1.2.2.2, cpo, bg.2⟩, ?_, ?_⟩
    · rw [rowT (dr w + 1) (by omega) (by omega) (by omega) (by omega), vu_o _ _ (by omega), P68, rj 5 (by omega), tv.2.2.1]
      exact hnV.1.symm
    · obtain ⟨F, eF⟩ : ∃ Y, Y = st2 (st2 (st2 (va_up P 70 (mpy (P 70) (mbeg r' (P 68 1)))) 65 14 1) 65 20 0) 65 21 0 := ⟨_, rfl⟩
      rw [← eF]
      have rowF : ∀ a, a ≠ 65 → a ≠ 67 → a ≠ 68 → a ≠ 69 → a ≠ 70 → F a = C a := fun a h1 h2 h3 h4 h5 => by
        rw [eF, st2_orow _ _ _ h1, st2_orow _ _ _ h1, st2_orow _ _ _ h1, vu_o _ _ h5, eP, vu_o _ _ h3, kmz_row fU h1 h2 h4]
      have F68 : F 68 = r' := by rw [eF, st2_orow _ _ _ (by omega), st2_orow _ _ _ (by omega), st2_orow _ _ _ (by omega), vu_o _ _ (by omega), P68]
      have F70 : F 70 = mpy (P 70) (mbeg r' (r' 1)) := by rw [eF, st2_orow _ _ _ (by omega), st2_orow _ _ _ (by omega), st2_orow _ _ _ (by omega), vu_s, P68]
      have F65 : ∀ j, F 65 j = if j = 21 then 0 else if j = 20 then 0 else if j = 14 then 1 else U 65 j := by
        intro j
        rw [eF, st2_ev, if_pos rfl, st2_ev, if_pos rfl, st2_ev, if_pos rfl, vu_a _ _ (by omega), eP, vu_a _ _ (by omega)]
      have F0 : ∀ j, F 0 j = if j = 7 then 0 else if j = 4 then 1 else X 0 j := fun j => by rw [rowF 0 (by omega) (by omega) (by omega) (by omega) (by omega)]; exact C0 j
      have rowd : ∀ a, 3 ≤ a → a ≤ 22 → a ≠ 12 → a ≠ 13 → F a = R a := fun a h1 h2 h3 h4 => by
        rw [rowF a (by omega) (by omega) (by omega) (by omega) (by omega), rowC a (by omega), rowT a (by omega) (by omega) (by omega) (by omega)]
      have hT := ls.2.1
      have r1 : r' 1 = R (dr w) 2 := by rw [rj 1 (by omega)]; exact hT.2.2.2.1.symm
      have r0 : r' 0 = R (dr w) 1 := by rw [rj 0 (by omega)]; exact hT.2.2.1.symm
      have r10 : r' 10 = R (dr w) 0 := by rw [rj 10 (by omega)]; exact hT.2.1.symm
      have hT2 := hc.2.1
      have rowt : ∀ a, td w ≤ a → a ≤ td w + 8 → F a = I a := fun a h1 h2 => by
        have tdd := td_dr w
        rw [rowd a (by omega) (by omega) (by omega) (by omega), rowR a (by omega) (by omega) (by omega) (by omega)]
      refine ⟨⟨?_, ?_, ?_, ?_, ?_, ?_, ?_, ?_, ?_, ?_, ?_, ?_, ?_⟩, ?_, ?_⟩
      · rw [F68]; exact hrb
      · rw [F68, td_not]
        exact (hT.to ls.1 (fun j hj => rj j (by omega))).congr (fun a h1 h2 h3 h4 => rowd a h1 h2 h3 h4)
      · rw [dr_not]
        obtain ⟨_, _, _, _, _, _, _, _, s1, s2, s3, s4⟩ := hT2
        exact ⟨by rw [rowt _ (by omega) (by omega)]; exact s1.1, by rw [rowt _ (by omega) (by omega)]; exact s1.2.1, by rw [rowt _ (by omega) (by omega)]; exact s2.1, by rw [rowt _ (by omega) (by omega)]; exact s2.2.1, by rw [rowt _ (by omega) (by omega)]; exact s3.1, by rw [rowt _ (by omega) (by omega)]; exact s3.2.1, by rw [rowt _ (by omega) (by omega)]; exact s4.1, by rw [rowt _ (by omega) (by omega)]; exact s4.2.1⟩
      · rw [F0, F65]
        exact ⟨rfl, Or.inr rfl⟩
      · have f01 : F 0 1 = 0 := by rw [F0, if_neg (by omega), if_neg (by omega), X0j 1 (by omega) (by omega), R01]
        have f652 : F 65 2 = 0 := by rw [F65, if_neg (by omega), if_neg (by omega), if_neg (by omega), U2]
        refine ⟨by rw [f01, f652], by rw [f01]; exact bw_of (n := 0) (lo := 0) (hi := 900) (by omega) (by omega) (by omega), fun i hi => ?_⟩
        rw [f01] at hi
        exact absurd hi (by decide +revert)
      · rw [F0, F65, if_neg (by omega), if_neg (by omega), if_neg (by omega), if_neg (by omega), if_neg (by omega), X05, R20, U9]
      · rw [F68, F70, rowF 23 (by omega) (by omega) (by omega) (by omega) (by omega), C23, ← r10, ← r0, ← r1]
        exact br_mp _ (beg_rel hrb (I 23) hrb.2.1)
      · unfold PR
        rw [rowF 24 (by omega) (by omega) (by omega) (by omega) (by omega), C24.1, C24.2.2, F65]
        refine ⟨rfl, bw_of (n := 0) (lo := 0) (hi := 16) (by omega) (by omega) (by omega), hc.2.2.2.2.2.2.2.1.2.2.1, fun d hd => ?_⟩
        exact absurd hd (by decide +revert)
      · unfold IR
        rw [rowF 24 (by omega) (by omega) (by omega) (by omega) (by omega), C24.2.1, F65]
        refine ⟨rfl, bw_of (n := 0) (lo := 0) (hi := 3) (by omega) (by omega) (by omega), fun k hk => ?_⟩
        exact absurd hk (by decide +revert)
      · intro q0
        rw [F0, if_neg (by omega), if_pos rfl] at q0
        exact absurd q0 (by decide)
      · exact Or.inl (by rw [rowF 58 (by omega) (by omega) (by omega) (by omega) (by omega), C58])
      · rw [F65, if_neg (by omega), if_neg (by omega), if_neg (by omega), fU 65 34 rfl, hC 65 (by omega)]
        exact hc.2.2.2.2.2.2.2.2.2.2.2.1
      · rw [rowF 51 (by omega) (by omega) (by omega) (by omega) (by omega), rowC 51 (by omega), rowT 51 (by omega) (by omega) (by omega) (by omega), rowR 51 (by omega) (by omega) (by omega) (by omega)]
        exact hc.2.2.2.2.2.2.2.2.2.2.2.2
      · rw [F0, F65, if_pos rfl, if_neg (by omega), if_neg (by omega), if_neg (by omega), U11]
      · intro q0
        rw [F0, if_pos rfl] at q0
        exact absurd q0 (by decide)
  · have fbf : fb = false := by
      cases fb
      · rfl
      · exact absurd rfl fbt
    have nf : ¬ false = true := by decide
    simp only [fbf, if_neg nf]
    rw [m_X10_refuse, f_X10_refuse, opv_eq, opv_eq]
    obtain ⟨C, eC⟩ : ∃ Y, Y = st2 X 0 7 4 := ⟨_, rfl⟩
    rw [← eC]
    have rowC : ∀ a, a ≠ 0 → C a = R a := fun a ha => by rw [eC, st2_orow _ _ _ ha, rowX a ha]
    have hC : ∀ a, 65 ≤ a → C a = I a := fun a ha => by rw [rowC a (by omega), rowR a (by omega) (by omega) (by omega) (by omega)]
    have rC := rr C hC
    obtain ⟨U, eU⟩ : ∃ Y, Y = u2_X11_chalet C (nI N) := ⟨_, rfl⟩
    rw [← eU] at rC
    obtain ⟨_, ok1, _, fU, ⟨U2, U11⟩, res⟩ := rC
    rcases res with ⟨bad, _⟩ | ⟨_, fl⟩
    · exact absurd bad fbt
    have z13 : ¬ U 65 13 = 0 := by rw [fl.1]; decide
    have e3 : u3_X11_chalet C (nI N) = U := by rw [u3_X11_chalet, opv_eq, ← eU, if_neg z13]
    rw [ok_X11_chalet, m_X11_chalet, f_X11_chalet, opv_eq, opv_eq, opv_eq, f_in, if_pos (q2 C hC), if_pos (q2 C hC), if_pos (q2 C hC), e3, if_neg z13, if_neg z13, if_neg z13, f_X11_no, m_X11_no, opv_eq, opv_eq]
    refine ⟨okR, ⟨ok1.1, ok1.2.1, ok1.2.2.1, ok1.2.2.2, True.intro⟩, rfl, ?_⟩
    obtain ⟨F, eF⟩ : ∃ Y, Y = st2 U 65 11 4 := ⟨_, rfl⟩
    rw [← eF]
    have rowF : ∀ a, a ≠ 65 → a ≠ 67 → a ≠ 69 → F a = C a := fun a h1 h2 h3 => by rw [eF, st2_orow _ _ _ h1, kmz_row fU h1 h2 h3]
    have rowI : ∀ a, a ≠ 0 → a ≠ 2 → a ≠ 13 → (a < dr w ∨ dr w + 8 < a) → a ≠ 65 → a ≠ 67 → a ≠ 69 → F a = I a := fun a h1 h2 h3 h4 h5 h6 h7 => by rw [rowF a h5 h6 h7, rowC a h1, rowR a h1 h2 h3 h4]
    have F65 : ∀ j, F 65 j = if j = 11 then 4 else U 65 j := by
      intro j
      rw [eF, st2_ev, if_pos rfl]
    have F0 : ∀ j, F 0 j = if j = 7 then 4 else X 0 j := by
      intro j
      rw [rowF 0 (by omega) (by omega) (by omega), eC, st2_ev, if_pos rfl]
    have e68 := rowI 68 (by omega) (by omega) (by omega) (by omega) (by omega) (by omega) (by omega)
    have e23 := rowI 23 (by omega) (by omega) (by omega) (by omega) (by omega) (by omega) (by omega)
    have e24 := rowI 24 (by omega) (by omega) (by omega) (by omega) (by omega) (by omega) (by omega)
    have e70 := rowI 70 (by omega) (by omega) (by omega) (by omega) (by omega) (by omega) (by omega)
    have e71 := rowI 71 (by omega) (by omega) (by omega) (by omega) (by omega) (by omega) (by omega)
    have e72 := rowI 72 (by omega) (by omega) (by omega) (by omega) (by omega) (by omega) (by omega)
    have e58 := rowI 58 (by omega) (by omega) (by omega) (by omega) (by omega) (by omega) (by omega)
    have e59 := rowI 59 (by omega) (by omega) (by omega) (by omega) (by omega) (by omega) (by omega)
    have e51 := rowI 51 (by omega) (by omega) (by omega) (by omega) (by omega) (by omega) (by omega)
    have m14 : F 65 14 = I 65 14 := by rw [F65, if_neg (by omega), fU 65 14 rfl, hC 65 (by omega)]
    have m20 : F 65 20 = I 65 20 := by rw [F65, if_neg (by omega), fU 65 20 rfl, hC 65 (by omega)]
    have m21 : F 65 21 = I 65 21 := by rw [F65, if_neg (by omega), fU 65 21 rfl, hC 65 (by omega)]
    have m34 : F 65 34 = I 65 34 := by rw [F65, if_neg (by omega), fU 65 34 rfl, hC 65 (by omega)]
    have a4 : F 0 4 = I 0 4 := by rw [F0, if_neg (by omega), X0j 4 (by omega) (by omega), R0j 4 (by omega)]
    obtain ⟨h1, h2, h3, h4, h5, h6, h7, h8, h9, h10, h11, h12⟩ := hc
    have tdd := td_dr w
    refine ⟨⟨by rw [e68]; exact h1, ?_, ?_, by rw [a4, m14]; exact h4, ?_, ?_, by rw [e68, e23, e70]; exact h7, ?_, ?_, by rw [a4, e68, e70, m20, m21]; exact h10, by unfold MK; rw [e68, e58, e59]; exact h11, by rw [m34, e51]; exact h12⟩, ?_, ?_⟩
    · rw [e68]
      have s := h2
      unfold TR TB at s ⊢
      have g : ∀ a, td w ≤ a → a ≤ td w + 8 → F a = I a := fun a y1 y2 => rowI a (by omega) (by omega) (by omega) (by omega) (by omega) (by omega) (by omega)
      rw [g (td w) (by omega) (by omega), g (td w + 1) (by omega) (by omega), g (td w + 1 + 1) (by omega) (by omega), g (td w + 3) (by omega) (by omega), g (td w + 3 + 1) (by omega) (by omega), g (td w + 5) (by omega) (by omega), g (td w + 5 + 1) (by omega) (by omega), g (td w + 7) (by omega) (by omega), g (td w + 7 + 1) (by omega) (by omega)]
      exact s
    · obtain ⟨d1, d2, d3, d4, d5, d6, d7, d8⟩ := h3
      have rD : ∀ c j, 3 ≤ c → c ≤ 22 → c ≠ 13 → (c = dr w + 1 ∨ c = dr w + 3 ∨ c = dr w + 5 ∨ c = dr w + 7) → j ≤ 1 → F c j = B c j := fun c j y1 y2 y3 y4 y5 => by
        rw [rowF c (by omega) (by omega) (by omega), rowC c (by omega)]
        exact co.2 c j y1 y3 y4 y5
      have b0 := bc.2.2.2.2.2.2.2.2.2.2 0 (by omega)
      have b1 := bc.2.2.2.2.2.2.2.2.2.2 1 (by omega)
      exact ⟨by rw [rD _ 0 (by omega) (by omega) (by omega) (by omega) (by omega), b0.1]; exact d1, by rw [rD _ 1 (by omega) (by omega) (by omega) (by omega) (by omega), b1.1]; exact d2, by rw [rD _ 0 (by omega) (by omega) (by omega) (by omega) (by omega), b0.2.1]; exact d3, by rw [rD _ 1 (by omega) (by omega) (by omega) (by omega) (by omega), b1.2.1]; exact d4, by rw [rD _ 0 (by omega) (by omega) (by omega) (by omega) (by omega), b0.2.2.1]; exact d5, by rw [rD _ 1 (by omega) (by omega) (by omega) (by omega) (by omega), b1.2.2.1]; exact d6, by rw [rD _ 0 (by omega) (by omega) (by omega) (by omega) (by omega), b0.2.2.2]; exact d7, by rw [rD _ 1 (by omega) (by omega) (by omega) (by omega) (by omega), b1.2.2.2]; exact d8⟩
    · have f01 : F 0 1 = 0 := by rw [F0, if_neg (by omega), X0j 1 (by omega) (by omega), R01]
      have f652 : F 65 2 = 0 := by rw [F65, if_neg (by omega), U2]
      refine ⟨by rw [f01, f652], by rw [f01]; exact bw_of (n := 0) (lo := 0) (hi := 900) (by omega) (by omega) (by omega), fun i hi => ?_⟩
      rw [f01] at hi
      exact absurd hi (by decide +revert)
    · rw [F0, F65, if_neg (by omega), if_neg (by omega), X05]
      exact fl.2.1
    · unfold PR
      rw [e24, m20, e68, e71]
      refine ⟨h8.1, h8.2.1, h8.2.2.1, fun d hd => ?_⟩
      rw [rowI _ (by omega) (by omega) (by omega) (by omega) (by omega) (by omega) (by omega)]
      exact h8.2.2.2 d hd
    · unfold IR
      rw [e24, m21, e68, e72]
      refine ⟨h9.1, h9.2.1, fun k hk => ?_⟩
      have := (bw_nI (hi := 3) h9.2.1).2
      rw [rowI _ (by omega) (by omega) (by omega) (by omega) (by omega) (by omega) (by omega)]
      exact h9.2.2 k hk
    · rw [F0, F65, if_pos rfl, if_pos rfl]
    · intro _
      rw [F0, F65, if_neg (by omega), if_neg (by omega), X06]
      exact fl.2.2
