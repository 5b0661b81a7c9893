/-! ===== acts, undoing, images ===== -/
def Fk (k : Nat → Nat → Bool) (I I' : Mm) : Prop := ∀ a j, k a j = true → I' a j = I a j
theorem Fk.refl (k : Nat → Nat → Bool) (I : Mm) : Fk k I I := fun _ _ _ => rfl
theorem Fk.trans {k : Nat → Nat → Bool} {I I1 I2 : Mm} (h1 : Fk k I I1) (h2 : Fk k I1 I2) : Fk k I I2 := fun a j h => (h2 a j h).trans (h1 a j h)
theorem Fk.st {k : Nat → Nat → Bool} {I I1 : Mm} {a j : Nat} {v : Int32} (h : Fk k I I1) (hk : k a j = false) : Fk k I (st2 I1 a j v) := by
  intro b i hb
  by_cases e : b = a
  · subst e
    by_cases e2 : i = j
    · subst e2; rw [hk] at hb; cases hb
    · rw [st2_o I1 b v e2]; exact h b i hb
  · rw [st2_a I1 v e]; exact h b i hb
theorem Fk.up {k : Nat → Nat → Bool} {I I1 : Mm} {a : Nat} {f : Vc} (h : Fk k I I1) (hk : ∀ j, k a j = false) : Fk k I (va_up I1 a f) := by
  intro b i hb
  by_cases e : b = a
  · subst e; rw [hk i] at hb; cases hb
  · rw [vu_a I1 f e]; exact h b i hb
def kr (a j : Nat) : Bool := if 27 ≤ a ∧ a ≤ 42 then false else (kq a j && !(a == 23) && !(a == 24 && (j == 0 || j == 2)) && !(a == 70) && !(a == 71) && !(a == 65 && j == 20))
def ki (a j : Nat) : Bool := if 43 ≤ a ∧ a ≤ 45 then false else (kq a j && !(a == 24 && j == 1) && !(a == 72) && !(a == 65 && j == 21))
theorem br_congr {r : Vc} {wood : Int32} {D : Nat} {b b' v v' : Vc} (h : BR r wood D b v) (hb : ∀ j, j < 9 → b' j = b j) (hv : ∀ j, j < 7 → v' j = v j) : BR r wood D b' v' := by
  unfold BR KR kb at *
  simp only [hb 0 (by omega), hb 1 (by omega), hb 2 (by omega), hb 3 (by omega), hb 4 (by omega), hb 5 (by omega), hb 6 (by omega), hb 7 (by omega), hb 8 (by omega), hv 0 (by omega), hv 1 (by omega), hv 2 (by omega), hv 3 (by omega), hv 4 (by omega), hv 5 (by omega), hv 6 (by omega)]
  exact h
theorem kq_row {a : Nat} (h : ∀ j, kp a j = true) (h0 : a ≠ 0) (h65 : a ≠ 65) (j : Nat) : kq a j = true := by
  have n0 : (a == 0) = false := by simp [h0]
  have n65 : (a == 65) = false := by simp [h65]
  simp [kq, h j, n0, n65]
theorem Core.acted {I M : Mm} {w : Bool} (h : Core I w) (hc : ¬ I 0 4 = 0) (he : Fk kr I M) (hB : BR (I 68) (I 68 0) 999 (M 23) (M 70)) (hP : PR M (I 68)) : Core M w := by
  have row : ∀ a, (∀ j, kr a j = true) → M a = I a := fun a ha => funext fun j => he a j (ha j)
  have e68 := row 68 (fun _ => rfl)
  have e1 := row 1 (fun _ => rfl)
  have e66 := row 66 (fun _ => rfl)
  have e72 := row 72 (fun _ => rfl)
  have e59 := row 59 (fun _ => rfl)
  have told : ∀ a, 3 ≤ a → a ≤ 22 → a ≠ 12 → a ≠ 13 → M a = I a := by
    intro a h1 h2 h3 h4
    refine row a fun j => ?_
    have e := kq_row (kp_told h1 h2 h3 h4) (by omega) (by omega) j
    unfold kr
    rw [if_neg (by omega), e]
    have n23 : (a == 23) = false := by simp; omega
    have n24 : (a == 24) = false := by simp; omega
    have n70 : (a == 70) = false := by simp; omega
    have n71 : (a == 71) = false := by simp; omega
    have n65 : (a == 65) = false := by simp; omega
    simp [n23, n24, n70, n71, n65]
  have pics : ∀ a, 43 ≤ a → a ≤ 45 → M a = I a := by
    intro a h1 h2
    refine row a fun j => ?_
    have e0 : kp a j = true := by
      unfold kp
      rw [if_neg (by omega), if_neg (by omega), if_neg (by omega)]
      have : 14 ≤ a := by omega
      simp [this, h2]
    have n0 : (a == 0) = false := by simp; omega
    have n23 : (a == 23) = false := by simp; omega
    have n24 : (a == 24) = false := by simp; omega
    have n70 : (a == 70) = false := by simp; omega
    have n71 : (a == 71) = false := by simp; omega
    have n65 : (a == 65) = false := by simp; omega
    unfold kr
    rw [if_neg (by omega)]
    simp [kq, e0, n0, n23, n24, n70, n71, n65]
  have a1 : M 0 1 = I 0 1 := he 0 1 rfl
  have a4 : M 0 4 = I 0 4 := he 0 4 rfl
  have a5 : M 0 5 = I 0 5 := he 0 5 rfl
  have m2 : M 65 2 = I 65 2 := he 65 2 rfl
  have m9 : M 65 9 = I 65 9 := he 65 9 rfl
  have m14 : M 65 14 = I 65 14 := he 65 14 rfl
  have m21 : M 65 21 = I 65 21 := he 65 21 rfl
  have m34 : M 65 34 = I 65 34 := he 65 34 rfl
  have m51 : M 51 0 = I 51 0 := he 51 0 rfl
  have p1 : M 24 1 = I 24 1 := he 24 1 rfl
  have k0 : M 58 0 = I 58 0 := he 58 0 rfl
  have k4 : M 58 4 = I 58 4 := he 58 4 rfl
  obtain ⟨h1, h2, h3, h4, h5, h6, h7, h8, h9, h10, h11, h12⟩ := h
  refine ⟨by rw [e68]; exact h1, by rw [e68]; exact h2.congr told, ?_, by rw [a4, m14]; exact h4, by unfold TP; rw [a1, m2, e1, e66]; exact h5, by rw [a5, m9]; exact h6, by rw [e68]; exact hB, by rw [e68]; exact hP, ?_, fun z => absurd (by rw [← a4]; exact z) hc, by unfold MK; rw [e68, k0, k4, e59]; exact h11, by rw [m34, m51]; exact h12⟩
  · unfold DR
    rcases dr_or w with q | q
    · rw [q] at h3 ⊢
      rw [told (3 + 1) (by omega) (by omega) (by omega) (by omega), told (3 + 3) (by omega) (by omega) (by omega) (by omega), told (3 + 5) (by omega) (by omega) (by omega) (by omega), told (3 + 7) (by omega) (by omega) (by omega) (by omega)]
      exact h3
    · rw [q] at h3 ⊢
      rw [told (14 + 1) (by omega) (by omega) (by omega) (by omega), told (14 + 3) (by omega) (by omega) (by omega) (by omega), told (14 + 5) (by omega) (by omega) (by omega) (by omega), told (14 + 7) (by omega) (by omega) (by omega) (by omega)]
      exact h3
  · unfold IR
    rw [p1, m21, e68, e72]
    refine ⟨h9.1, h9.2.1, fun k hk => ?_⟩
    have := (bw_nI (hi := 3) h9.2.1).2
    rw [pics _ (by omega) (by omega)]
    exact h9.2.2 k hk
theorem rt_25 : ∀ j, j < 16 → rt 25 j = 27 + j := by decide +kernel
theorem rt_26 : ∀ j, j < 3 → rt 26 j = 43 + j := by decide +kernel
theorem sz_25 : sz 25 = 16 := by decide +kernel
theorem sz_26 : sz 26 = 3 := by decide +kernel
theorem sz_71 : sz 71 = 112 := by decide +kernel
theorem sz_72 : sz 72 = 21 := by decide +kernel
/-- the tests that 739fe0f puts before Past's index -/
theorem wi15 (I : Mm) {n : Nat} (h : n ≤ 15) : f_X10_within I (nI n) 0 15 = true := by
  rw [f_within]
  unfold inb
  rw [if_neg (nI_pos (by omega)), if_neg (show ¬ (15 : Int32) < nI n from nI_nlt (a := 15) (by omega) (by omega))]
theorem m_keep {I : Mm} {a n : Nat} (ha : I 24 0 = nI a) (hn : I 24 2 = nI n) (ha2 : a ≤ 16) (hn2 : n ≤ 15) : m_X5_keep I 23 = st2 (st2 (va_up I (27 + n) (cpy (I (27 + n)) (I 23))) 24 2 (nI ((n + 1) % 16))) 24 0 (nI (min (a + 1) 16)) ∧ ok_X5_keep I 23 := by
  have e : imin (nI (a + 1)) 16 = nI (min (a + 1) 16) := by
    rw [fa_eq, imin_toInt, nI_toInt (by omega), nI_toInt (by omega), show (16 : Int32).toInt = 16 from by decide]
    omega
  have e2 : nI (n + 1) - nI (n + 1) / 16 * 16 = nI ((n + 1) % 16) := pk_rem (d := 16) (by omega) (by omega) (by omega)
  rw [m_X5_keep, ok_X5_keep, opv_eq, opv_eq, hn, if_pos (wi15 I hn2), if_pos (wi15 I hn2), nI_clamp (by omega), rt_25 n (by omega), m_copy, vu_o _ _ (by omega), hn, ha, nI_1, nI_1, e, e2, sz_25]
  exact ⟨rfl, vp_in_nI (by omega) (by omega), by omega⟩
theorem note_lp : ∀ (c i : Nat) (I : Mm), i + c = 105 → (lp_X11_note_11 (c + 1) (nI i) I).2 = va_up I 71 (fun k => if i ≤ k ∧ k < 105 then I 71 (k + 7) else I 71 k) ∧ oklp_X11_note_11 (c + 1) (nI i) I := by
  intro c
  induction c with
  | zero =>
    intro i I hi
    have q : (105 : Int32) ≤ nI i := nI_le (a := 105) (by omega) (by omega)
    rw [lp_X11_note_11, oklp_X11_note_11, if_pos q, if_pos q]
    have : (fun k => if i ≤ k ∧ k < 105 then I 71 (k + 7) else I 71 k) = I 71 := funext fun k => if_neg (by omega)
    rw [this, vu_same]
    exact ⟨rfl, trivial⟩
  | succ c ih =>
    intro i I hi
    have q : ¬ (105 : Int32) ≤ nI i := nI_ge (b := 105) (by omega) (by omega)
    rw [lp_X11_note_11, oklp_X11_note_11, if_neg q, if_neg q, nI_1, show nI i + 7 = nI (i + 7) from nI_add i 7, nI_clamp (by omega), nI_clamp (by omega), sz_71]
    have k := ih (i + 1) (va_up I 71 (upd (I 71) i (I 71 (i + 7)))) (by omega)
    refine ⟨?_, vp_in_nI (by omega) (by omega), vp_in_nI (by omega) (by omega), k.2⟩
    rw [k.1, vu_vu, vu_s]
    congr 1
    funext x
    by_cases h1 : x = i
    · subst h1
      rw [if_neg (by omega), if_pos (by omega), pk_us]
    · rw [pk_un h1]
      by_cases h3 : i + 1 ≤ x ∧ x < 105
      · rw [if_pos h3, if_pos (by omega), pk_un (by omega)]
      · rw [if_neg h3, if_neg (by omega)]
def sh71 (a : Nat) (f : Vc) : Vc := if a = 16 then (fun k => if k < 105 then f (k + 7) else f k) else f
theorem m_note {I : Mm} {a : Nat} (ha : I 65 20 = nI a) (ha2 : a ≤ 16) : m_X11_note I = st2 (va_up I 71 (fun j => if 7 * (min (a + 1) 16 - 1) ≤ j ∧ j < 7 * (min (a + 1) 16 - 1) + 7 then I 70 (j - 7 * (min (a + 1) 16 - 1)) else sh71 a (I 71) j)) 65 20 (nI (min (a + 1) 16)) ∧ ok_X11_note I := by
  have lp := note_lp 105 0 I (by omega)
  rw [nI_0] at lp
  have mu : mu_up 105 0 + 1 = 105 + 1 := by
    rw [show mu_up 105 0 = mu_up (nI 105) (nI 0) from rfl, mu_up_nI (by omega) (by omega)]
  by_cases q : a = 16
  · subst q
    have e : u0_X11_note I = st2 (va_up I 71 (sh71 16 (I 71))) 65 20 (nI 15) := by
      rw [u0_X11_note, opv_eq, if_pos (show I 65 20 = 16 from ha), mu, lp.1, vu_o _ _ (by omega), ha]
      congr 1
      congr 1
      funext k
      unfold sh71
      rw [if_pos rfl]
      by_cases z : k < 105
      · rw [if_pos (by omega), if_pos z]
      · rw [if_neg (by omega), if_neg z]
    rw [m_X11_note, ok_X11_note, opv_eq, opv_eq, e, if_pos (show I 65 20 = 16 from ha), mu, st2_s, show (7 : Int32) * nI 15 = nI 105 from by decide]
    have mc := m_cp (a := 70) (b := 71) (s := 0) (d := 105) (n := 7) (st2 (va_up I 71 (sh71 16 (I 71))) 65 20 (nI 15)) (by omega) (by omega) (by omega)
    rw [show nI 0 = 0 from rfl, show nI 7 = 7 from rfl] at mc
    refine ⟨?_, lp.2, cp_ok (s := 0) (d := 105) (n := 7) _ (by rw [sz_70]; omega) (by rw [sz_71]; omega) (by rw [sz_70]; omega) (by rw [sz_71]; omega)⟩
    rw [mc, vu_o _ _ (by omega), st2_s, st2_orow _ _ _ (by omega), st2_orow _ _ _ (by omega), vu_s, vu_o _ _ (by omega), show nI 15 + 1 = nI (min (16 + 1) 16) from by decide]
    funext x j
    by_cases h1 : x = 65
    · subst h1
      by_cases h2 : j = 20
      · subst h2; rw [st2_s, st2_s]
      · rw [st2_o _ _ _ h2, st2_o _ _ _ h2, vu_o _ _ (by omega), vu_o _ _ (by omega), st2_o _ _ _ h2, vu_o _ _ (by omega)]
    · rw [st2_a _ _ h1, st2_a _ _ h1]
      by_cases h3 : x = 71
      · subst h3
        rw [vu_s, vu_s]
        by_cases z : 105 ≤ j ∧ j < 105 + 7
        · rw [if_pos z, if_pos (by omega)]
          congr 1
          omega
        · rw [if_neg z, if_neg (by omega)]
      · rw [vu_o _ _ h3, vu_o _ _ h3, st2_orow _ _ _ h1, vu_o _ _ h3]
  · have q16 : ¬ I 65 20 = 16 := by
      rw [ha]
      show ¬ nI a = nI 16
      rw [nI_eq (by omega) (by omega)]
      exact q
    have e : u0_X11_note I = I := by rw [u0_X11_note, opv_eq, if_neg q16]
    have m1 : min (a + 1) 16 = a + 1 := by omega
    rw [m_X11_note, ok_X11_note, opv_eq, opv_eq, e, if_neg q16, ha, show (7 : Int32) * nI a = nI (7 * a) from pk_mul 7 a]
    have mc := m_cp (a := 70) (b := 71) (s := 0) (d := 7 * a) (n := 7) I (by omega) (by omega) (by omega)
    rw [show nI 0 = 0 from rfl, show nI 7 = 7 from rfl] at mc
    refine ⟨?_, trivial, cp_ok (s := 0) (d := 7 * a) (n := 7) _ (by rw [sz_70]; omega) (by rw [sz_71]; omega) (by rw [sz_70]; omega) (by rw [sz_71]; omega)⟩
    rw [mc, vu_o _ _ (by omega), ha, nI_1, m1, Nat.add_sub_cancel]
    congr 2
    funext j
    unfold sh71
    rw [if_neg q]
    by_cases z : 7 * a ≤ j ∧ j < 7 * a + 7
    · rw [if_pos z, if_pos z]
      congr 1
      omega
    · rw [if_neg z, if_neg z]
theorem PR.nums {I : Mm} {r : Vc} (h : PR I r) : I 24 0 = nI (I 24 0).toNatClampNeg ∧ (I 24 0).toNatClampNeg ≤ 16 ∧ I 24 2 = nI (I 24 2).toNatClampNeg ∧ (I 24 2).toNatClampNeg ≤ 15 ∧ I 65 20 = I 24 0 := ⟨(bw_nI (hi := 16) h.2.1).1, (bw_nI (hi := 16) h.2.1).2, (bw_nI (hi := 15) h.2.2.1).1, (bw_nI (hi := 15) h.2.2.1).2, h.1.symm⟩
theorem PR_of {M : Mm} {r : Vc} {a n : Nat} (h0 : M 24 0 = nI a) (h20 : M 65 20 = nI a) (h2 : M 24 2 = nI n) (ha : a ≤ 16) (hn : n ≤ 15) (h : ∀ d, d < a → BR r (r 0) 999 (M (27 + (n + 15 - d) % 16)) (fun j => M 71 (7 * (a - 1 - d) + j))) : PR M r := by
  refine ⟨by rw [h0, h20], by rw [h0]; exact bw_of (lo := 0) (hi := 16) (by omega) ha (by omega), by rw [h2]; exact bw_of (lo := 0) (hi := 15) (by omega) hn (by omega), ?_⟩
  rw [h0, h2, nI_clamp (by omega), nI_clamp (by omega)]
  exact h
theorem PR.get {M : Mm} {r : Vc} {a n : Nat} (h : PR M r) (h0 : M 24 0 = nI a) (h2 : M 24 2 = nI n) (ha : a ≤ 16) (hn : n ≤ 15) : ∀ d, d < a → BR r (r 0) 999 (M (27 + (n + 15 - d) % 16)) (fun j => M 71 (7 * (a - 1 - d) + j)) := by
  have k := h.2.2.2
  rw [h0, h2, nI_clamp (by omega), nI_clamp (by omega)] at k
  exact k
/-- an act: what was is kept by both, then the two rows of now change -/
theorem Sim.act {I : Mm} {J J' : Nat → Nat → Int64} {w : Bool} (h : Sim I J w) (hc : ¬ I 0 4 = 0) : ok_X5_keep (st2 I 0 7 0) 23 ∧ m_X5_keep (st2 I 0 7 0) 23 23 = I 23 ∧ TR (m_X5_keep (st2 I 0 7 0) 23) (I 68) (td w) ∧ ∀ b' : Vc, ok_X11_note (m_X11_good (va_up (m_X5_keep (st2 I 0 7 0) 23) 23 b')) ∧ m_X11_good (va_up (m_X5_keep (st2 I 0 7 0) 23) 23 b') 65 14 = I 0 4 ∧ m_X11_good (va_up (m_X5_keep (st2 I 0 7 0) 23) 23 b') 70 = I 70 ∧ m_X11_good (va_up (m_X5_keep (st2 I 0 7 0) 23) 23 b') 68 = I 68 ∧ m_X11_note (m_X11_good (va_up (m_X5_keep (st2 I 0 7 0) 23) 23 b')) 70 = I 70 ∧ m_X11_note (m_X11_good (va_up (m_X5_keep (st2 I 0 7 0) 23) 23 b')) 68 = I 68 ∧ ∀ v' : Vc, BR (I 68) (I 68 0) 999 b' v' → Sim (va_up (m_X11_note (m_X11_good (va_up (m_X5_keep (st2 I 0 7 0) 23) 23 b'))) 70 v') J' w := by
  have hP := h.1.2.2.2.2.2.2.2.1
  obtain ⟨n0, n1, n2, n3, n4⟩ := hP.nums
  generalize (I 24 0).toNatClampNeg = a at n0 n1
  generalize (I 24 2).toNatClampNeg = n at n2 n3
  have k1 := m_keep (I := st2 I 0 7 0) (a := a) (n := n) (by rw [st7_row _ _ (by omega)]; exact n0) (by rw [st7_row _ _ (by omega)]; exact n2) n1 n3
  have k23 : m_X5_keep (st2 I 0 7 0) 23 23 = I 23 := by rw [k1.1, st2_orow _ _ _ (by omega), st2_orow _ _ _ (by omega), vu_o _ _ (by omega), st7_row _ _ (by omega)]
  refine ⟨k1.2, k23, ?_, fun b' => ?_⟩
  · rw [k1.1]
    exact (((h.1.2.1.st (by omega)).up (by omega)).st (by omega)).st (by omega)
  · have kK : ∀ x, x ≠ 23 → x ≠ 24 → x ≠ 27 + n → x ≠ 0 → va_up (m_X5_keep (st2 I 0 7 0) 23) 23 b' x = I x := by
      intro x x1 x2 x3 x4
      rw [vu_o _ _ x1, k1.1, st2_orow _ _ _ x2, st2_orow _ _ _ x2, vu_o _ _ x3, st7_row _ _ x4]
    generalize hK : va_up (m_X5_keep (st2 I 0 7 0) 23) 23 b' = K at *
    have K20 : m_X11_good K 65 20 = nI a := by rw [m_good, st2_o _ _ _ (by omega), st2_o _ _ _ (by omega), kK 65 (by omega) (by omega) (by omega) (by omega), n4, n0]
    have k2 := m_note K20 n1
    have G : ∀ x, x ≠ 65 → m_X11_good K x = K x := fun x hx => good_row K hx
    have g70 : m_X11_good K 70 = I 70 := by rw [G _ (by omega), kK 70 (by omega) (by omega) (by omega) (by omega)]
    have g71 : m_X11_good K 71 = I 71 := by rw [G _ (by omega), kK 71 (by omega) (by omega) (by omega) (by omega)]
    have g68 : m_X11_good K 68 = I 68 := by rw [G _ (by omega), kK 68 (by omega) (by omega) (by omega) (by omega)]
    refine ⟨k2.2, ?_, g70, g68, ?_, ?_, fun v' hv => ?_⟩
    · rw [good_14, kK 65 (by omega) (by omega) (by omega) (by omega), h.hc]
    · rw [k2.1, st2_orow _ _ _ (by omega), vu_o _ _ (by omega), g70]
    · rw [k2.1, st2_orow _ _ _ (by omega), vu_o _ _ (by omega), g68]
    · have K24 : ∀ j, K 24 j = st2 (st2 I 24 2 (nI ((n + 1) % 16))) 24 0 (nI (min (a + 1) 16)) 24 j := by
        intro j
        rw [← hK, vu_o _ _ (by omega), k1.1]
        by_cases z : j = 0
        · subst z; rw [st2_s, st2_s]
        · rw [st2_o _ _ _ z, st2_o _ _ _ z]
          by_cases z2 : j = 2
          · subst z2; rw [st2_s, st2_s]
          · rw [st2_o _ _ _ z2, st2_o _ _ _ z2, vu_o _ _ (by omega), st7_row _ _ (by omega)]
      have K23 : K 23 = b' := by rw [← hK, vu_s]
      have Kn : K (27 + n) = cpy (I (27 + n)) (I 23) := by rw [← hK, vu_o _ _ (by omega), k1.1, st2_orow _ _ _ (by omega), st2_orow _ _ _ (by omega), vu_s, st7_row _ _ (by omega), st7_row _ _ (by omega)]
      have K07 : K 0 7 = 0 := by rw [← hK, vu_o _ _ (by omega), k1.1, st2_orow _ _ _ (by omega), st2_orow _ _ _ (by omega), vu_o _ _ (by omega), st2_s]
      have fK : Fk kr I K := by
        rw [← hK, k1.1]
        refine ((((Fk.refl kr I).st rfl).up (fun j => ?_)).st rfl).st rfl |>.up (fun j => rfl)
        unfold kr
        rw [if_pos (by omega)]
      generalize hM : va_up (m_X11_note (m_X11_good K)) 70 v' = M
      have fM : Fk kr K M := by
        rw [← hM, k2.1, m_good]
        exact ((((Fk.refl kr K).st rfl).st rfl).up (fun j => rfl)).st rfl |>.up (fun j => rfl)
      have M70 : M 70 = v' := by rw [← hM, vu_s]
      have Mx : ∀ x, x ≠ 70 → x ≠ 65 → x ≠ 71 → M x = K x := by
        intro x x1 x2 x3
        rw [← hM, vu_o _ _ x1, k2.1, st2_orow _ _ _ x2, vu_o _ _ x3, G _ x2]
      have M71 : ∀ j, M 71 j = if 7 * (min (a + 1) 16 - 1) ≤ j ∧ j < 7 * (min (a + 1) 16 - 1) + 7 then I 70 (j - 7 * (min (a + 1) 16 - 1)) else sh71 a (I 71) j := by
        intro j
        rw [← hM, vu_o _ _ (by omega), k2.1, st2_orow _ _ _ (by omega), vu_s, g70, g71]
      have M20 : M 65 20 = nI (min (a + 1) 16) := by rw [← hM, vu_o _ _ (by omega), k2.1, st2_s]
      have M11 : M 65 11 = 0 := by
        rw [← hM, vu_o _ _ (by omega), k2.1, st2_o _ _ _ (by omega), vu_o _ _ (by omega), m_good, st2_s]
      have hPM : PR M (I 68) := by
        refine PR_of (a := min (a + 1) 16) (n := (n + 1) % 16) (by rw [Mx 24 (by omega) (by omega) (by omega), K24, st2_s]) M20 (by rw [Mx 24 (by omega) (by omega) (by omega), K24, st2_o _ _ _ (by omega), st2_s]) (by omega) (by omega) (fun d hd => ?_)
        by_cases z : d = 0
        · subst z
          rw [show 27 + ((n + 1) % 16 + 15 - 0) % 16 = 27 + n by omega, Mx _ (by omega) (by omega) (by omega), Kn]
          refine br_congr h.1.2.2.2.2.2.2.1 (fun j hj => if_pos hj) (fun j hj => ?_)
          show M 71 (7 * (min (a + 1) 16 - 1 - 0) + j) = I 70 j
          rw [M71, if_pos (by omega)]
          congr 1
          omega
        · have old := hP.get n0 n2 n1 n3 (d - 1) (by omega)
          rw [show 27 + ((n + 1) % 16 + 15 - d) % 16 = 27 + (n + 15 - (d - 1)) % 16 by omega, Mx _ (by omega) (by omega) (by omega), kK _ (by omega) (by omega) (by omega) (by omega)]
          refine br_congr old (fun j hj => rfl) (fun j hj => ?_)
          show M 71 (7 * (min (a + 1) 16 - 1 - d) + j) = I 71 (7 * (a - 1 - (d - 1)) + j)
          rw [M71, if_neg (by omega)]
          unfold sh71
          by_cases y : a = 16
          · rw [if_pos y, if_pos (by omega)]
            congr 1
            omega
          · rw [if_neg y]
            congr 1
            omega
      refine ⟨h.1.acted hc (fK.trans fM) (by rw [Mx 23 (by omega) (by omega) (by omega), K23, M70]; exact hv) hPM, ?_, ?_⟩
      · rw [Mx 0 (by omega) (by omega) (by omega), K07, M11]
      · rw [Mx 0 (by omega) (by omega) (by omega), K07]
        intro z
        exact absurd z (by decide)
theorem upd_sl (f : Vc) (k : Nat) (x : Int32) (j : Nat) (h : j ≠ k) : upd f k x j = f j := pk_un h
theorem br_open {r : Vc} {wood : Int32} {D : Nat} {b v : Vc} (h : BR r wood D b v) (x : Int32) : BR r wood D (upd b 4 x) (upd v 3 x) := by
  unfold BR KR kb at *
  simp only [upd_sl b 4 x 0 (by omega), upd_sl b 4 x 1 (by omega), upd_sl b 4 x 2 (by omega), upd_sl b 4 x 3 (by omega), upd_sl b 4 x 5 (by omega), upd_sl b 4 x 6 (by omega), upd_sl b 4 x 7 (by omega), upd_sl b 4 x 8 (by omega), upd_sl v 3 x 0 (by omega), upd_sl v 3 x 1 (by omega), upd_sl v 3 x 2 (by omega), upd_sl v 3 x 4 (by omega), upd_sl v 3 x 5 (by omega), upd_sl v 3 x 6 (by omega), pk_us]
  obtain ⟨h0, h1, h2, h3, h4, h5⟩ := h
  exact ⟨h0, h1, h2, h3, trivial, h5⟩
theorem br_oil {r : Vc} {wood : Int32} {D : Nat} {b v : Vc} (h : BR r wood D b v) {x : Int32} (hx : bw x 0 3) : BR r wood D (upd b 3 x) (upd v 2 x) := by
  unfold BR KR kb at *
  simp only [upd_sl b 3 x 0 (by omega), upd_sl b 3 x 1 (by omega), upd_sl b 3 x 2 (by omega), upd_sl b 3 x 4 (by omega), upd_sl b 3 x 5 (by omega), upd_sl b 3 x 6 (by omega), upd_sl b 3 x 7 (by omega), upd_sl b 3 x 8 (by omega), upd_sl v 2 x 0 (by omega), upd_sl v 2 x 1 (by omega), upd_sl v 2 x 3 (by omega), upd_sl v 2 x 4 (by omega), upd_sl v 2 x 5 (by omega), upd_sl v 2 x 6 (by omega), pk_us]
  obtain ⟨h0, h1, h2, h3, h4, h5, h6, g0, g1, g3, g6⟩ := h
  exact ⟨h0, h1, h2, trivial, h4, h5, h6, g0, g1, hx, g6⟩
theorem br_tight {r : Vc} {wood : Int32} {D D' : Nat} {b v : Vc} (h : BR r wood D b v) (hd : (b 6).toInt ≤ D') : BR r wood D' b v := by
  obtain ⟨h0, h1, h2, h3, h4, h5, h6, g0, g1, g3, g6, g7⟩ := h
  exact ⟨h0, h1, h2, h3, h4, h5, h6, g0, g1, g3, ⟨g6.1, hd⟩, g7⟩
theorem gvn {h : Int32} (q : ¬ gv h true = 0) : h = 0 ∧ gv h true = 1 := by
  by_cases z : h = 0
  · exact ⟨z, by unfold gv; rw [if_pos z]⟩
  · exact absurd (by unfold gv; rw [if_neg z, if_pos rfl]) q
theorem st_oil : St_oil Sim := by
  intro I J w h
  have hB := h.1.2.2.2.2.2.2.1
  simp only [ok_X10_oil, m_X10_oil, f_X10_oil, ok_X11_oil, m_X11_oil, f_X11_oil, opv_eq, cr, m_refused, f_no, f_X10_refuse, m_X10_refuse]
  by_cases q : gv (I 0 4) true = 0
  · have qc := (gv_t q).1
    simp only [q, if_true]
    obtain ⟨o1, k23, hT, act⟩ := h.act (J' := J) qc
    have b3 := hB.2.2.2.2.2.2.2.2.2.1
    rw [st7_row _ _ (by omega)]
    by_cases z : I 23 3 < 3
    · have z' : ¬ I 70 2 = 3 := by
        rw [← hB.2.2.2.1]
        intro y
        rw [y] at z
        exact absurd z (by decide)
      rw [if_pos z, if_pos z, if_pos z, k23, st2_up (m_X5_keep (st2 I 0 7 0) 23), k23]
      obtain ⟨a1, a2, a3, a4, a5, a6, a7⟩ := act (upd (I 23) 3 (I 23 3 + 1))
      rw [a2, a3, if_neg qc, if_neg qc, if_neg qc, if_neg z', if_neg z', if_neg z', a5]
      refine ⟨o1, a1, by rw [hB.2.2.2.1], ?_⟩
      rw [st2_up, a5]
      have := a7 (upd (I 70) 2 (I 70 2 + 1))
      rw [← hB.2.2.2.1] at this ⊢
      refine this (br_oil hB ?_)
      have := b3.1
      rw [fa_lt, ti3] at z
      rw [bw, fb_addI (by rw [ti1]; omega) (by rw [ti1]; omega), ti1]
      omega
    · have z' : I 70 2 = 3 := by
        rw [← hB.2.2.2.1]
        have := b3.2
        rw [fa_lt, ti3] at z
        rw [fa_eq, ti3]
        omega
      have g70 : m_X11_good (st2 (st2 I 0 7 0) 0 7 5) 70 = I 70 := by rw [good_row _ (by omega), st7_row _ _ (by omega), st7_row _ _ (by omega)]
      have g14 : m_X11_good (st2 (st2 I 0 7 0) 0 7 5) 65 14 = I 0 4 := by rw [st2_st2, h.g14]
      rw [if_neg z, if_neg z, if_neg z, g14, g70, if_neg qc, if_neg qc, if_neg qc, if_pos z', if_pos z', if_pos z', st2_st2]
      exact ⟨trivial, trivial, rfl, h.bad (by decide)⟩
  · obtain ⟨qc, g1⟩ := gvn q
    simp only [if_neg q, h.g14, if_pos qc]
    rw [g1]
    exact ⟨trivial, trivial, trivial, h.bad (by decide)⟩
theorem st_day : St_day Sim := by
  intro I J w h
  have hB := h.1.2.2.2.2.2.2.1
  have hb := h.1.1
  simp only [ok_X10_day, m_X10_day, f_X10_day, ok_X11_day, m_X11_day, f_X11_day, opv_eq, cr, m_refused, f_no, f_X10_refuse, m_X10_refuse]
  by_cases q : gv (I 0 4) true = 0
  · have qc := (gv_t q).1
    simp only [q, if_true]
    obtain ⟨o1, k23, hT, act⟩ := h.act (J' := J) qc
    have b6 := hB.days.2
    rw [st7_row _ _ (by omega)]
    have t999 : (999 : Int32).toInt = 999 := by decide
    by_cases z : I 23 6 < 999
    · have z' : ¬ I 70 4 = 999 := by
        rw [← hB.days.1]
        intro y
        rw [y] at z
        exact absurd z (by decide)
      rw [if_pos z, if_pos z, if_pos z, c_passDay hT hb (by omega), k23, vu_s]
      obtain ⟨a1, a2, a3, a4, a5, a6, a7⟩ := act (cday (I 68) (I 23))
      have hB2 : BR (I 68) (I 68 0) 999 (cday (I 68) (I 23)) (mday (I 68) (I 68 0) (I 70)) := day_rel hb (D := 998) (by omega) (br_tight hB (by rw [fa_lt, t999] at z; omega))
      rw [a2, a3, if_neg qc, if_neg qc, if_neg qc, if_neg z', if_neg z', if_neg z', m_dayOf a6 (by omega) hb, a5, vu_s]
      exact ⟨o1, ⟨a1, dayOf_ok a6 (by omega) sz_70 hb⟩, hB2.2.2.2.2.2.1, a7 _ hB2⟩
    · have z' : I 70 4 = 999 := by
        rw [← hB.days.1]
        have := b6.2
        rw [fa_lt, t999] at z
        rw [fa_eq, t999]
        omega
      have g70 : m_X11_good (st2 (st2 I 0 7 0) 0 7 3) 70 = I 70 := by rw [good_row _ (by omega), st7_row _ _ (by omega), st7_row _ _ (by omega)]
      have g14 : m_X11_good (st2 (st2 I 0 7 0) 0 7 3) 65 14 = I 0 4 := by rw [st2_st2, h.g14]
      rw [if_neg z, if_neg z, if_neg z, g14, g70, if_neg qc, if_neg qc, if_neg qc, if_pos z', if_pos z', if_pos z', st2_st2]
      exact ⟨trivial, trivial, rfl, h.bad (by decide)⟩
  · obtain ⟨qc, g1⟩ := gvn q
    simp only [if_neg q, h.g14, if_pos qc]
    rw [g1]
    exact ⟨trivial, trivial, trivial, h.bad (by decide)⟩
theorem Sim.badB {I : Mm} {J J' : Nat → Nat → Int64} {w : Bool} (h : Sim I J w) {v : Int32} (hv : v ≠ 4) : Sim (m_X11_isNot (m_X11_good (st2 I 0 7 v)) v) J' w := h.done (Fr.refl _) (fr_isNot _ _) hv
theorem st_open : St_open Sim := by
  intro I J w x1 h
  have hB := h.1.2.2.2.2.2.2.1
  have hb := h.1.1
  have t5 := h.1.t.2.2.2.2.2.1
  have g68 : ∀ v, m_X11_good (st2 I 0 7 v) 68 = I 68 := fun v => by rw [good_row _ (by omega), st7_row _ _ (by omega)]
  simp only [ok_X10_open, m_X10_open, f_X10_open, u0_X10_open, ok_X11_open, m_X11_open, f_X11_open, f_X11_isVent, u0_X11_isVent, f_X11_isNot, opv_eq, cl, m_lacks, holds_in I x1 t5 hb.b5, f_in]
  by_cases q : lv (I 0 4) (inb x1 0 (I 68 5 - 1)) = 0
  · obtain ⟨qc, qa⟩ := lv_t q
    simp only [q, if_true]
    obtain ⟨k, hk, rfl⟩ := inb_cnt hb.nV.1 (by have := hb.nV.2; omega) qa
    have hnv := hb.nV.2
    obtain ⟨o1, k23, hT, act⟩ := h.act (J' := J) qc
    have eo : f_X0_isOpen (st2 I 0 7 0) 23 (nI k) = bt (I 70 3) k := by
      rw [f_X0_isOpen, opv_eq, u0_X0_isOpen, opv_eq, st7_row _ _ (by omega), hB.2.2.2.2.1]
      by_cases y : bt (I 70 3) k = true
      · rw [if_pos ((bit_at _ (by omega)).mpr y), y]
      · rw [if_neg (fun z => y ((bit_at _ (by omega)).mp z))]
        simp at y
        rw [y]
    rw [eo]
    have eh : ∀ K : Mm, f_X11_hasBit K (I 70 3) (nI k) = bt (I 70 3) k := by
      intro K
      rw [f_X11_hasBit, opv_eq]
      by_cases y : bt (I 70 3) k = true
      · rw [if_pos ((bit_at _ (by omega)).mpr y), y]
      · rw [if_neg (fun z => y ((bit_at _ (by omega)).mp z))]
        simp at y
        rw [y]
    by_cases z : bt (I 70 3) k = true
    · have g70 : m_X11_good (st2 I 0 7 5) 70 = I 70 := by rw [good_row _ (by omega), st7_row _ _ (by omega)]
      simp only [st2_st2, h.g14, g70, g68, if_neg qc, if_pos qa, eh, z, if_true]
      exact ⟨trivial, trivial, trivial, h.badB (by decide)⟩
    · rw [if_neg z, if_neg z, if_neg z]
      rw [m_X0_openVent, opv_eq, k23, st2_up (m_X5_keep (st2 I 0 7 0) 23), k23]
      obtain ⟨a1, a2, a3, a4, a5, a6, a7⟩ := act (upd (I 23) 4 (I 23 4 ||| 1 <<< (nI k &&& 31)))
      simp only [a2, a3, a4, if_neg qc, if_pos qa, eh, if_neg z, if_true, a5]
      refine ⟨o1, a1, trivial, ?_⟩
      rw [st2_up, a5]
      have := a7 (upd (I 70) 3 (I 23 4 ||| 1 <<< (nI k &&& 31))) (br_open hB _)
      rw [hB.2.2.2.2.1] at this ⊢
      exact this
  · have n1 := lv_n q
    simp only [if_neg q, h.g14, g68]
    have e : (if I 0 4 = 0 then false else (if inb x1 0 (I 68 5 - 1) = true then true else false)) = false := by
      unfold lv at q
      by_cases z : I 0 4 = 0
      · rw [if_pos z]
      · rw [if_neg z] at q ⊢
        by_cases y : inb x1 0 (I 68 5 - 1) = true
        · rw [if_pos y] at q; exact absurd rfl q
        · rw [if_neg y]
    simp only [e, Bool.false_eq_true, if_false]
    rw [n1]
    exact ⟨trivial, trivial, trivial, h.badB (by decide)⟩
