noncomputable def lp_X11_note_11  : Nat → Int32 → (Nat → Nat → Int32) → Int32 × (Nat → Nat → Int32)
  | 0, l1, I1 => (l1, I1)
  | n + 1, l1, I1 => (if 105 ≤ l1 then (l1, I1) else (lp_X11_note_11  n (l1 + 1) (va_up I1 71 (upd (I1 71) l1.toNatClampNeg (I1 71 (l1 + 7).toNatClampNeg)))))
def oklp_X11_note_11  : Nat → Int32 → (Nat → Nat → Int32) → Prop
  | 0, l1, I1 => True
  | n + 1, l1, I1 => (if 105 ≤ l1 then True else (vp_in (l1 + 7) (sz 71) ∧ (vp_in l1 (sz 71) ∧ oklp_X11_note_11  n (l1 + 1) (va_up I1 71 (upd (I1 71) l1.toNatClampNeg (I1 71 (l1 + 7).toNatClampNeg))))))
set_option maxHeartbeats 800000 in
set_option maxRecDepth 4000 in
theorem k_lp_X11_note_11 {k : KT} {ex : Bool} {J : Nat → Nat → Int64} {w : Bool}  {F : FinT} : ∀ (n : Nat) (l1 : Int32) (I1 : (Nat → Nat → Int32)), mu_up 105 l1 < n → oklp_X11_note_11  n l1 I1 → G k mX11_note (roomOf 2 0 0) F 0 0 38 [some (.ref (ka k 65)), some (.int ((lp_X11_note_11  n l1 I1).1))] [] (81, ex, (lp_X11_note_11  n l1 I1).2, J, Pw w) → G k mX11_note (roomOf 2 0 0) F 0 0 11 [some (.ref (ka k 65)), some (.int l1)] [] (81, ex, I1, J, Pw w) := by
  intro n
  induction n with
  | zero => intro l1 I1 hmu hok hj; exact absurd hmu (Nat.not_lt_zero _)
  | succ n ih =>
    intro l1 I1 hmu hok hj
    rw [oklp_X11_note_11] at hok
    refine g_iload_n1 rfl d_X11_note_11 ?_
    refine g_bipush 105 d_X11_note_12 (by decide) ?_
    refine g_icmp_ge 38 d_X11_note_14 (by decide) (fun h1 => ?_) (fun h1 => ?_)
    · skip
      (try simp only [lp_X11_note_11, if_pos h1, opv_eq, if_true, if_false, Bool.false_eq_true, reduceCtorEq, b2i_t, b2i_f] at hj); exact hj
    · skip
      rw [if_neg h1] at hok
      refine g_aload_n0 rfl d_X11_note_17 ?_
      refine g_getP (b := 71) f_X11_29 d_X11_note_18 rfl (Nat.le_of_ble_eq_true rfl) rfl rfl ?_
      refine g_iload_n1 rfl d_X11_note_21 ?_
      refine g_aload_n0 rfl d_X11_note_22 ?_
      refine g_getP (b := 71) f_X11_29 d_X11_note_23 rfl (Nat.le_of_ble_eq_true rfl) rfl rfl ?_
      refine g_iload_n1 rfl d_X11_note_26 ?_
      refine g_bipush 7 d_X11_note_27 (by decide) ?_
      refine g_iadd d_X11_note_29 ?_
      obtain ⟨ho1, hok⟩ := hok
      refine g_iald d_X11_note_30 rfl (Nat.le_of_ble_eq_true rfl) ho1 ?_
      obtain ⟨ho2, hok⟩ := hok
      refine g_iast d_X11_note_31 rfl (Nat.le_of_ble_eq_true rfl) ho2 ?_
      refine g_ic1 (l1 + 1) rfl rfl d_X11_note_32 ?_
      refine g_goto 11 d_X11_note_35 (by decide) ?_
      exact ih (l1 + 1) (va_up I1 71 (upd (I1 71) l1.toNatClampNeg (I1 71 (l1 + 7).toNatClampNeg))) (Nat.lt_of_lt_of_le (mu_up_lt h1) (Nat.le_of_lt_succ hmu)) (by (try simp only [if_neg h1, opv_eq, if_true, if_false, Bool.false_eq_true, reduceCtorEq, b2i_t, b2i_f] at hok); exact hok) (by (try simp only [lp_X11_note_11, if_neg h1, opv_eq, if_true, if_false, Bool.false_eq_true, reduceCtorEq, b2i_t, b2i_f] at hj); exact hj)
noncomputable def u0_X11_note (I : Nat → Nat → Int32) : Nat → Nat → Int32 := opv (if (I 65 20) = 16 then (st2 ((lp_X11_note_11  (mu_up 105 0 + 1) 0 I).2) 65 20 ((((lp_X11_note_11  (mu_up 105 0 + 1) 0 I).2) 65 20) - 1)) else I)
noncomputable def m_X11_note (I : Nat → Nat → Int32)  : Nat → Nat → Int32 := opv (st2 (m_X11_copy (u0_X11_note I) 70 0 71 (7 * ((u0_X11_note I) 65 20)) 7) 65 20 (((m_X11_copy (u0_X11_note I) 70 0 71 (7 * ((u0_X11_note I) 65 20)) 7) 65 20) + 1))
noncomputable def ok_X11_note (I : Nat → Nat → Int32)  : Prop := opv ((if (I 65 20) = 16 then oklp_X11_note_11  (mu_up 105 0 + 1) 0 I else True) ∧ ok_X11_copy (u0_X11_note I) 70 0 71 (7 * ((u0_X11_note I) 65 20)) 7)
set_option maxHeartbeats 800000 in
set_option maxRecDepth 4000 in
theorem c_X11_note {k : KT} {ex : Bool} {J : Nat → Nat → Int64} {w : Bool} (I : Nat → Nat → Int32)   (hok : ok_X11_note I) : Cx k mX11_note 2 [.ref (ka k 65)] (81, ex, I, J, Pw w) none (81, ex, m_X11_note I, J, Pw w) := by
  refine Ct.of rfl [some (.ref (ka k 65)), none] rfl rfl (Nat.le_of_ble_eq_true rfl) ?_
  rw [ok_X11_note, opv_eq] at hok
  refine g_aload_n0 rfl d_X11_note_0 ?_
  refine g_getI f_X11_188 d_X11_note_1 rfl (Nat.le_of_ble_eq_true rfl) rfl ?_
  refine g_bipush 16 d_X11_note_4 (by decide) ?_
  obtain ⟨hoa, hob⟩ := hok
  refine g_cut (pc' := 48) (vs' := [some (.ref (ka k 65)), none]) (st' := []) (M' := (81, ex, (u0_X11_note I), J, Pw w)) (fun hj => ?_) ?_
  · skip
    refine g_icmp_ne 48 d_X11_note_6 (by decide) (fun h2 => ?_) (fun h2 => ?_)
    · skip
      (try simp only [if_neg h2, opv_eq, if_true, if_false, Bool.false_eq_true, reduceCtorEq, b2i_t, b2i_f, u0_X11_note] at hj); exact hj
    · skip
      rw [if_pos h2] at hoa
      refine g_iconst 0 d_X11_note_9 (by decide) ?_
      refine g_isn1 rfl d_X11_note_10 ?_
      refine k_lp_X11_note_11  _ 0 I (Nat.lt_succ_self _) hoa ?_
      refine g_aload_n0 rfl d_X11_note_38 ?_
      refine g_dup rfl d_X11_note_39 ?_
      refine g_getI f_X11_188 d_X11_note_40 rfl (Nat.le_of_ble_eq_true rfl) rfl ?_
      refine g_iconst 1 d_X11_note_43 (by decide) ?_
      refine g_isub d_X11_note_44 ?_
      refine g_putI f_X11_188 d_X11_note_45 rfl (Nat.le_of_ble_eq_true rfl) rfl rfl rfl ?_
      refine G.weak (wks (wkn wk0)) ?_; (try simp only [if_pos h2, opv_eq, if_true, if_false, Bool.false_eq_true, reduceCtorEq, b2i_t, b2i_f, u0_X11_note] at hj); exact hj
  · skip
    refine g_aload_n0 rfl d_X11_note_48 ?_
    refine g_getP (b := 70) f_X11_26 d_X11_note_49 rfl (Nat.le_of_ble_eq_true rfl) rfl rfl ?_
    refine g_iconst 0 d_X11_note_52 (by decide) ?_
    refine g_aload_n0 rfl d_X11_note_53 ?_
    refine g_getP (b := 71) f_X11_29 d_X11_note_54 rfl (Nat.le_of_ble_eq_true rfl) rfl rfl ?_
    refine g_bipush 7 d_X11_note_57 (by decide) ?_
    refine g_aload_n0 rfl d_X11_note_59 ?_
    refine g_getI f_X11_188 d_X11_note_60 rfl (Nat.le_of_ble_eq_true rfl) rfl ?_
    refine g_imul d_X11_note_63 ?_
    refine g_bipush 7 d_X11_note_64 (by decide) ?_
    have ho3 := hob
    refine g_callS0 (c_X11_copy (u0_X11_note I) 70 rfl 0 71 rfl (7 * ((u0_X11_note I) 65 20)) 7 ho3) w_X11_copy l_X11_177 d_X11_note_66 rfl rfl (Nat.le_of_ble_eq_true rfl) ⟨Nat.le_of_ble_eq_true rfl, Nat.le_of_ble_eq_true rfl⟩ ⟨Nat.zero_le _, Nat.zero_le _⟩ ⟨rfl, rfl⟩ ?_
    refine g_aload_n0 rfl d_X11_note_69 ?_
    refine g_dup rfl d_X11_note_70 ?_
    refine g_getI f_X11_188 d_X11_note_71 rfl (Nat.le_of_ble_eq_true rfl) rfl ?_
    refine g_iconst 1 d_X11_note_74 (by decide) ?_
    refine g_iadd d_X11_note_75 ?_
    refine g_putI f_X11_188 d_X11_note_76 rfl (Nat.le_of_ble_eq_true rfl) rfl rfl rfl ?_
    exact g_vret rfl d_X11_note_79 ⟨rfl, by simp only [m_X11_note, opv_eq, if_true, if_false, Bool.false_eq_true, reduceCtorEq, b2i_t, b2i_f]⟩ (Nat.le_refl _) (Nat.le_refl _)
noncomputable def f_X11_open (I : Nat → Nat → Int32) (x1 : Int32) : Bool := opv (if (f_X11_isVent (m_X11_good I) x1) = true then (if (f_X11_hasBit (m_X11_good I) ((m_X11_good I) 70 3) x1) = true then f_X11_isNot (m_X11_good I) 5 else true) else f_X11_isNot (m_X11_good I) 1)
noncomputable def m_X11_open (I : Nat → Nat → Int32) (x1 : Int32) : Nat → Nat → Int32 := opv (if (f_X11_isVent (m_X11_good I) x1) = true then (if (f_X11_hasBit (m_X11_good I) ((m_X11_good I) 70 3) x1) = true then (m_X11_isNot (m_X11_good I) 5) else (st2 (m_X11_note (m_X11_good I)) 70 3 (((m_X11_note (m_X11_good I)) 70 3) ||| (1 <<< (x1 &&& 31))))) else (m_X11_isNot (m_X11_good I) 1))
noncomputable def ok_X11_open (I : Nat → Nat → Int32) (x1 : Int32) : Prop := opv (if (f_X11_isVent (m_X11_good I) x1) = true then (if (f_X11_hasBit (m_X11_good I) ((m_X11_good I) 70 3) x1) = true then True else ok_X11_note (m_X11_good I)) else True)
set_option maxHeartbeats 800000 in
set_option maxRecDepth 4000 in
theorem c_X11_open {k : KT} {ex : Bool} {J : Nat → Nat → Int64} {w : Bool} (I : Nat → Nat → Int32) (x1 : Int32)  (hok : ok_X11_open I x1) : Cx k mX11_open 3 [.ref (ka k 65), .int x1] (81, ex, I, J, Pw w) (some (.int (b2i (f_X11_open I x1)))) (81, ex, m_X11_open I x1, J, Pw w) := by
  refine Ct.of rfl [some (.ref (ka k 65)), some (.int x1)] rfl rfl (Nat.le_of_ble_eq_true rfl) ?_
  rw [ok_X11_open, opv_eq] at hok
  refine g_aload_n0 rfl d_X11_open_0 ?_
  refine g_callV0 (c_X11_good I ) w_X11_good l_X11_168 d_X11_open_1 rfl (Nat.le_of_ble_eq_true rfl) rfl rfl (Nat.le_of_ble_eq_true rfl) ⟨Nat.le_of_ble_eq_true rfl, Nat.le_of_ble_eq_true rfl⟩ ⟨Nat.zero_le _, Nat.zero_le _⟩ ⟨rfl, rfl⟩ ?_
  refine g_aload_n0 rfl d_X11_open_4 ?_
  refine g_iload_n1 rfl d_X11_open_5 ?_
  refine g_callV1 (c_X11_isVent (m_X11_good I) x1) w_X11_isVent l_X11_292 d_X11_open_6 rfl (Nat.le_of_ble_eq_true rfl) rfl rfl (Nat.le_of_ble_eq_true rfl) ⟨Nat.le_of_ble_eq_true rfl, Nat.le_of_ble_eq_true rfl⟩ ⟨Nat.zero_le _, Nat.zero_le _⟩ ⟨rfl, rfl⟩ ?_
  refine g_ifnz 18 d_X11_open_9 (by decide) (fun h1 => ?_) (fun h1 => ?_)
  · skip
    rw [if_pos h1] at hok
    refine g_aload_n0 rfl d_X11_open_18 ?_
    refine g_getP (b := 70) f_X11_26 d_X11_open_19 rfl (Nat.le_of_ble_eq_true rfl) rfl rfl ?_
    refine g_iconst 3 d_X11_open_22 (by decide) ?_
    refine g_ialdv ((m_X11_good I) 70 3) rfl d_X11_open_23 rfl (Nat.le_of_ble_eq_true rfl) (vp_c (by decide +kernel)) ?_
    refine g_iload_n1 rfl d_X11_open_24 ?_
    refine g_callS1 (c_X11_hasBit (m_X11_good I) ((m_X11_good I) 70 3) x1) w_X11_hasBit l_X11_261 d_X11_open_25 rfl rfl (Nat.le_of_ble_eq_true rfl) ⟨Nat.le_of_ble_eq_true rfl, Nat.le_of_ble_eq_true rfl⟩ ⟨Nat.zero_le _, Nat.zero_le _⟩ ⟨rfl, rfl⟩ ?_
    refine g_ifz 37 d_X11_open_28 (by decide) (fun h2 => ?_) (fun h2 => ?_)
    · skip
      rw [if_neg (nb h2)] at hok
      refine g_aload_n0 rfl d_X11_open_37 ?_
      have ho1 := hok
      refine g_callV0 (c_X11_note (m_X11_good I)  ho1) w_X11_note l_X11_411 d_X11_open_38 rfl (Nat.le_of_ble_eq_true rfl) rfl rfl (Nat.le_of_ble_eq_true rfl) ⟨Nat.le_of_ble_eq_true rfl, Nat.le_of_ble_eq_true rfl⟩ ⟨Nat.zero_le _, Nat.zero_le _⟩ ⟨rfl, rfl⟩ ?_
      refine g_aload_n0 rfl d_X11_open_41 ?_
      refine g_getP (b := 70) f_X11_26 d_X11_open_42 rfl (Nat.le_of_ble_eq_true rfl) rfl rfl ?_
      refine g_iconst 3 d_X11_open_45 (by decide) ?_
      refine g_dup2 rfl rfl d_X11_open_46 ?_
      refine g_ialdv ((m_X11_note (m_X11_good I)) 70 3) rfl d_X11_open_47 rfl (Nat.le_of_ble_eq_true rfl) (vp_c (by decide +kernel)) ?_
      refine g_iconst 1 d_X11_open_48 (by decide) ?_
      refine g_iload_n1 rfl d_X11_open_49 ?_
      refine g_ishl d_X11_open_50 ?_
      refine g_ior d_X11_open_51 ?_
      refine g_iasts (n := 3) rfl d_X11_open_52 rfl (Nat.le_of_ble_eq_true rfl) (vp_c (by decide +kernel)) ?_
      refine g_iconst 1 d_X11_open_53 (by decide) ?_
      exact g_zret rfl (by decide) d_X11_open_54 ⟨by simp only [f_X11_open, m_X11_open, if_pos h1, if_neg (nb h2), opv_eq, if_true, if_false, Bool.false_eq_true, reduceCtorEq, b2i_t, b2i_f], by simp only [f_X11_open, m_X11_open, if_pos h1, if_neg (nb h2), opv_eq, if_true, if_false, Bool.false_eq_true, reduceCtorEq, b2i_t, b2i_f]⟩ (Nat.le_refl _) (Nat.le_refl _)
    · skip
      refine g_aload_n0 rfl d_X11_open_31 ?_
      refine g_iconst 5 d_X11_open_32 (by decide) ?_
      refine g_callV1 (c_X11_isNot (m_X11_good I) 5) w_X11_isNot l_X11_408 d_X11_open_33 rfl (Nat.le_of_ble_eq_true rfl) rfl rfl (Nat.le_of_ble_eq_true rfl) ⟨Nat.le_of_ble_eq_true rfl, Nat.le_of_ble_eq_true rfl⟩ ⟨Nat.zero_le _, Nat.zero_le _⟩ ⟨rfl, rfl⟩ ?_
      exact g_zret rfl (nar_b _) d_X11_open_36 ⟨by simp only [f_X11_open, m_X11_open, if_pos h1, if_pos h2, opv_eq, if_true, if_false, Bool.false_eq_true, reduceCtorEq, b2i_t, b2i_f], by simp only [f_X11_open, m_X11_open, if_pos h1, if_pos h2, opv_eq, if_true, if_false, Bool.false_eq_true, reduceCtorEq, b2i_t, b2i_f]⟩ (Nat.le_refl _) (Nat.le_refl _)
  · skip
    refine g_aload_n0 rfl d_X11_open_12 ?_
    refine g_iconst 1 d_X11_open_13 (by decide) ?_
    refine g_callV1 (c_X11_isNot (m_X11_good I) 1) w_X11_isNot l_X11_408 d_X11_open_14 rfl (Nat.le_of_ble_eq_true rfl) rfl rfl (Nat.le_of_ble_eq_true rfl) ⟨Nat.le_of_ble_eq_true rfl, Nat.le_of_ble_eq_true rfl⟩ ⟨Nat.zero_le _, Nat.zero_le _⟩ ⟨rfl, rfl⟩ ?_
    exact g_zret rfl (nar_b _) d_X11_open_17 ⟨by simp only [f_X11_open, m_X11_open, if_neg (nb h1), opv_eq, if_true, if_false, Bool.false_eq_true, reduceCtorEq, b2i_t, b2i_f], by simp only [f_X11_open, m_X11_open, if_neg (nb h1), opv_eq, if_true, if_false, Bool.false_eq_true, reduceCtorEq, b2i_t, b2i_f]⟩ (Nat.le_refl _) (Nat.le_refl _)
noncomputable def f_X11_oil (I : Nat → Nat → Int32)  : Int32 := opv (if ((m_X11_good I) 65 14) = 0 then f_X11_no (m_X11_good I) 1 else (if ((m_X11_good I) 70 2) = 3 then f_X11_no (m_X11_good I) 5 else ((m_X11_note (m_X11_good I)) 70 2) + 1))
noncomputable def m_X11_oil (I : Nat → Nat → Int32)  : Nat → Nat → Int32 := opv (if ((m_X11_good I) 65 14) = 0 then (m_X11_no (m_X11_good I) 1) else (if ((m_X11_good I) 70 2) = 3 then (m_X11_no (m_X11_good I) 5) else (st2 (m_X11_note (m_X11_good I)) 70 2 (((m_X11_note (m_X11_good I)) 70 2) + 1))))
noncomputable def ok_X11_oil (I : Nat → Nat → Int32)  : Prop := opv (if ((m_X11_good I) 65 14) = 0 then True else (if ((m_X11_good I) 70 2) = 3 then True else ok_X11_note (m_X11_good I)))
set_option maxHeartbeats 800000 in
set_option maxRecDepth 4000 in
theorem c_X11_oil {k : KT} {ex : Bool} {J : Nat → Nat → Int64} {w : Bool} (I : Nat → Nat → Int32)   (hok : ok_X11_oil I) : Cx k mX11_oil 3 [.ref (ka k 65)] (81, ex, I, J, Pw w) (some (.int (f_X11_oil I))) (81, ex, m_X11_oil I, J, Pw w) := by
  refine Ct.of rfl [some (.ref (ka k 65))] rfl rfl (Nat.le_of_ble_eq_true rfl) ?_
  rw [ok_X11_oil, opv_eq] at hok
  refine g_aload_n0 rfl d_X11_oil_0 ?_
  refine g_callV0 (c_X11_good I ) w_X11_good l_X11_168 d_X11_oil_1 rfl (Nat.le_of_ble_eq_true rfl) rfl rfl (Nat.le_of_ble_eq_true rfl) ⟨Nat.le_of_ble_eq_true rfl, Nat.le_of_ble_eq_true rfl⟩ ⟨Nat.zero_le _, Nat.zero_le _⟩ ⟨rfl, rfl⟩ ?_
  refine g_aload_n0 rfl d_X11_oil_4 ?_
  refine g_getI f_X11_185 d_X11_oil_5 rfl (Nat.le_of_ble_eq_true rfl) rfl ?_
  refine g_if_ne 17 d_X11_oil_8 (by decide) (fun h1 => ?_) (fun h1 => ?_)
  · skip
    rw [if_neg h1] at hok
    refine g_aload_n0 rfl d_X11_oil_17 ?_
    refine g_getP (b := 70) f_X11_26 d_X11_oil_18 rfl (Nat.le_of_ble_eq_true rfl) rfl rfl ?_
    refine g_iconst 2 d_X11_oil_21 (by decide) ?_
    refine g_ialdv ((m_X11_good I) 70 2) rfl d_X11_oil_22 rfl (Nat.le_of_ble_eq_true rfl) (vp_c (by decide +kernel)) ?_
    refine g_iconst 3 d_X11_oil_23 (by decide) ?_
    refine g_icmp_ne 33 d_X11_oil_24 (by decide) (fun h2 => ?_) (fun h2 => ?_)
    · skip
      rw [if_neg h2] at hok
      refine g_aload_n0 rfl d_X11_oil_33 ?_
      have ho1 := hok
      refine g_callV0 (c_X11_note (m_X11_good I)  ho1) w_X11_note l_X11_411 d_X11_oil_34 rfl (Nat.le_of_ble_eq_true rfl) rfl rfl (Nat.le_of_ble_eq_true rfl) ⟨Nat.le_of_ble_eq_true rfl, Nat.le_of_ble_eq_true rfl⟩ ⟨Nat.zero_le _, Nat.zero_le _⟩ ⟨rfl, rfl⟩ ?_
      refine g_aload_n0 rfl d_X11_oil_37 ?_
      refine g_getP (b := 70) f_X11_26 d_X11_oil_38 rfl (Nat.le_of_ble_eq_true rfl) rfl rfl ?_
      refine g_iconst 2 d_X11_oil_41 (by decide) ?_
      refine g_dup2 rfl rfl d_X11_oil_42 ?_
      refine g_ialdv ((m_X11_note (m_X11_good I)) 70 2) rfl d_X11_oil_43 rfl (Nat.le_of_ble_eq_true rfl) (vp_c (by decide +kernel)) ?_
      refine g_iconst 1 d_X11_oil_44 (by decide) ?_
      refine g_iadd d_X11_oil_45 ?_
      refine g_iasts (n := 2) rfl d_X11_oil_46 rfl (Nat.le_of_ble_eq_true rfl) (vp_c (by decide +kernel)) ?_
      refine g_aload_n0 rfl d_X11_oil_47 ?_
      refine g_getP (b := 70) f_X11_26 d_X11_oil_48 rfl (Nat.le_of_ble_eq_true rfl) rfl rfl ?_
      refine g_iconst 2 d_X11_oil_51 (by decide) ?_
      refine g_ialdv (((m_X11_note (m_X11_good I)) 70 2) + 1) (st2_s _ _ _ _) d_X11_oil_52 rfl (Nat.le_of_ble_eq_true rfl) (vp_c (by decide +kernel)) ?_
      exact g_iret rfl d_X11_oil_53 ⟨by simp only [f_X11_oil, m_X11_oil, if_neg h1, if_neg h2, opv_eq, if_true, if_false, Bool.false_eq_true, reduceCtorEq, b2i_t, b2i_f], by simp only [f_X11_oil, m_X11_oil, if_neg h1, if_neg h2, opv_eq, if_true, if_false, Bool.false_eq_true, reduceCtorEq, b2i_t, b2i_f]⟩ (Nat.le_refl _) (Nat.le_refl _)
    · skip
      refine g_aload_n0 rfl d_X11_oil_27 ?_
      refine g_iconst 5 d_X11_oil_28 (by decide) ?_
      refine g_callV1 (c_X11_no (m_X11_good I) 5) w_X11_no l_X11_171 d_X11_oil_29 rfl (Nat.le_of_ble_eq_true rfl) rfl rfl (Nat.le_of_ble_eq_true rfl) ⟨Nat.le_of_ble_eq_true rfl, Nat.le_of_ble_eq_true rfl⟩ ⟨Nat.zero_le _, Nat.zero_le _⟩ ⟨rfl, rfl⟩ ?_
      exact g_iret rfl d_X11_oil_32 ⟨by simp only [f_X11_oil, m_X11_oil, if_neg h1, if_pos h2, opv_eq, if_true, if_false, Bool.false_eq_true, reduceCtorEq, b2i_t, b2i_f], by simp only [f_X11_oil, m_X11_oil, if_neg h1, if_pos h2, opv_eq, if_true, if_false, Bool.false_eq_true, reduceCtorEq, b2i_t, b2i_f]⟩ (Nat.le_refl _) (Nat.le_refl _)
  · skip
    refine g_aload_n0 rfl d_X11_oil_11 ?_
    refine g_iconst 1 d_X11_oil_12 (by decide) ?_
    refine g_callV1 (c_X11_no (m_X11_good I) 1) w_X11_no l_X11_171 d_X11_oil_13 rfl (Nat.le_of_ble_eq_true rfl) rfl rfl (Nat.le_of_ble_eq_true rfl) ⟨Nat.le_of_ble_eq_true rfl, Nat.le_of_ble_eq_true rfl⟩ ⟨Nat.zero_le _, Nat.zero_le _⟩ ⟨rfl, rfl⟩ ?_
    exact g_iret rfl d_X11_oil_16 ⟨by simp only [f_X11_oil, m_X11_oil, if_pos h1, opv_eq, if_true, if_false, Bool.false_eq_true, reduceCtorEq, b2i_t, b2i_f], by simp only [f_X11_oil, m_X11_oil, if_pos h1, opv_eq, if_true, if_false, Bool.false_eq_true, reduceCtorEq, b2i_t, b2i_f]⟩ (Nat.le_refl _) (Nat.le_refl _)
noncomputable def f_X11_day (I : Nat → Nat → Int32)  : Int32 := opv (if ((m_X11_good I) 65 14) = 0 then f_X11_no (m_X11_good I) 1 else (if ((m_X11_good I) 70 4) = 999 then f_X11_no (m_X11_good I) 3 else (m_X11_dayOf (m_X11_note (m_X11_good I)) 70) 70 5))
noncomputable def m_X11_day (I : Nat → Nat → Int32)  : Nat → Nat → Int32 := opv (if ((m_X11_good I) 65 14) = 0 then (m_X11_no (m_X11_good I) 1) else (if ((m_X11_good I) 70 4) = 999 then (m_X11_no (m_X11_good I) 3) else (m_X11_dayOf (m_X11_note (m_X11_good I)) 70)))
noncomputable def ok_X11_day (I : Nat → Nat → Int32)  : Prop := opv (if ((m_X11_good I) 65 14) = 0 then True else (if ((m_X11_good I) 70 4) = 999 then True else (ok_X11_note (m_X11_good I) ∧ ok_X11_dayOf (m_X11_note (m_X11_good I)) 70)))
set_option maxHeartbeats 800000 in
set_option maxRecDepth 4000 in
theorem c_X11_day {k : KT} {ex : Bool} {J : Nat → Nat → Int64} {w : Bool} (I : Nat → Nat → Int32)   (hok : ok_X11_day I) : Cx k mX11_day 5 [.ref (ka k 65)] (81, ex, I, J, Pw w) (some (.int (f_X11_day I))) (81, ex, m_X11_day I, J, Pw w) := by
  refine Ct.of rfl [some (.ref (ka k 65))] rfl rfl (Nat.le_of_ble_eq_true rfl) ?_
  rw [ok_X11_day, opv_eq] at hok
  refine g_aload_n0 rfl d_X11_day_0 ?_
  refine g_callV0 (c_X11_good I ) w_X11_good l_X11_168 d_X11_day_1 rfl (Nat.le_of_ble_eq_true rfl) rfl rfl (Nat.le_of_ble_eq_true rfl) ⟨Nat.le_of_ble_eq_true rfl, Nat.le_of_ble_eq_true rfl⟩ ⟨Nat.zero_le _, Nat.zero_le _⟩ ⟨rfl, rfl⟩ ?_
  refine g_aload_n0 rfl d_X11_day_4 ?_
  refine g_getI f_X11_185 d_X11_day_5 rfl (Nat.le_of_ble_eq_true rfl) rfl ?_
  refine g_if_ne 17 d_X11_day_8 (by decide) (fun h1 => ?_) (fun h1 => ?_)
  · skip
    rw [if_neg h1] at hok
    refine g_aload_n0 rfl d_X11_day_17 ?_
    refine g_getP (b := 70) f_X11_26 d_X11_day_18 rfl (Nat.le_of_ble_eq_true rfl) rfl rfl ?_
    refine g_iconst 4 d_X11_day_21 (by decide) ?_
    refine g_ialdv ((m_X11_good I) 70 4) rfl d_X11_day_22 rfl (Nat.le_of_ble_eq_true rfl) (vp_c (by decide +kernel)) ?_
    refine g_sipush 999 d_X11_day_23 (by decide) ?_
    refine g_icmp_ne 35 d_X11_day_26 (by decide) (fun h2 => ?_) (fun h2 => ?_)
    · skip
      rw [if_neg h2] at hok
      refine g_aload_n0 rfl d_X11_day_35 ?_
      obtain ⟨ho1, hok⟩ := hok
      refine g_callV0 (c_X11_note (m_X11_good I)  ho1) w_X11_note l_X11_411 d_X11_day_36 rfl (Nat.le_of_ble_eq_true rfl) rfl rfl (Nat.le_of_ble_eq_true rfl) ⟨Nat.le_of_ble_eq_true rfl, Nat.le_of_ble_eq_true rfl⟩ ⟨Nat.zero_le _, Nat.zero_le _⟩ ⟨rfl, rfl⟩ ?_
      refine g_aload_n0 rfl d_X11_day_39 ?_
      refine g_aload_n0 rfl d_X11_day_40 ?_
      refine g_getP (b := 70) f_X11_26 d_X11_day_41 rfl (Nat.le_of_ble_eq_true rfl) rfl rfl ?_
      have ho2 := hok
      refine g_callV0 (c_X11_dayOf (m_X11_note (m_X11_good I)) 70 rfl (by decide) ho2) w_X11_dayOf l_X11_288 d_X11_day_44 rfl (Nat.le_of_ble_eq_true rfl) rfl rfl (Nat.le_of_ble_eq_true rfl) ⟨Nat.le_of_ble_eq_true rfl, Nat.le_of_ble_eq_true rfl⟩ ⟨Nat.zero_le _, Nat.zero_le _⟩ ⟨rfl, rfl⟩ ?_
      refine g_aload_n0 rfl d_X11_day_47 ?_
      refine g_getP (b := 70) f_X11_26 d_X11_day_48 rfl (Nat.le_of_ble_eq_true rfl) rfl rfl ?_
      refine g_iconst 5 d_X11_day_51 (by decide) ?_
      refine g_ialdv ((m_X11_dayOf (m_X11_note (m_X11_good I)) 70) 70 5) rfl d_X11_day_52 rfl (Nat.le_of_ble_eq_true rfl) (vp_c (by decide +kernel)) ?_
      exact g_iret rfl d_X11_day_53 ⟨by simp only [f_X11_day, m_X11_day, if_neg h1, if_neg h2, opv_eq, if_true, if_false, Bool.false_eq_true, reduceCtorEq, b2i_t, b2i_f], by simp only [f_X11_day, m_X11_day, if_neg h1, if_neg h2, opv_eq, if_true, if_false, Bool.false_eq_true, reduceCtorEq, b2i_t, b2i_f]⟩ (Nat.le_refl _) (Nat.le_refl _)
    · skip
      refine g_aload_n0 rfl d_X11_day_29 ?_
      refine g_iconst 3 d_X11_day_30 (by decide) ?_
      refine g_callV1 (c_X11_no (m_X11_good I) 3) w_X11_no l_X11_171 d_X11_day_31 rfl (Nat.le_of_ble_eq_true rfl) rfl rfl (Nat.le_of_ble_eq_true rfl) ⟨Nat.le_of_ble_eq_true rfl, Nat.le_of_ble_eq_true rfl⟩ ⟨Nat.zero_le _, Nat.zero_le _⟩ ⟨rfl, rfl⟩ ?_
      exact g_iret rfl d_X11_day_34 ⟨by simp only [f_X11_day, m_X11_day, if_neg h1, if_pos h2, opv_eq, if_true, if_false, Bool.false_eq_true, reduceCtorEq, b2i_t, b2i_f], by simp only [f_X11_day, m_X11_day, if_neg h1, if_pos h2, opv_eq, if_true, if_false, Bool.false_eq_true, reduceCtorEq, b2i_t, b2i_f]⟩ (Nat.le_refl _) (Nat.le_refl _)
  · skip
    refine g_aload_n0 rfl d_X11_day_11 ?_
    refine g_iconst 1 d_X11_day_12 (by decide) ?_
    refine g_callV1 (c_X11_no (m_X11_good I) 1) w_X11_no l_X11_171 d_X11_day_13 rfl (Nat.le_of_ble_eq_true rfl) rfl rfl (Nat.le_of_ble_eq_true rfl) ⟨Nat.le_of_ble_eq_true rfl, Nat.le_of_ble_eq_true rfl⟩ ⟨Nat.zero_le _, Nat.zero_le _⟩ ⟨rfl, rfl⟩ ?_
    exact g_iret rfl d_X11_day_16 ⟨by simp only [f_X11_day, m_X11_day, if_pos h1, opv_eq, if_true, if_false, Bool.false_eq_true, reduceCtorEq, b2i_t, b2i_f], by simp only [f_X11_day, m_X11_day, if_pos h1, opv_eq, if_true, if_false, Bool.false_eq_true, reduceCtorEq, b2i_t, b2i_f]⟩ (Nat.le_refl _) (Nat.le_refl _)
noncomputable def u0_X11_undo (I : Nat → Nat → Int32) : Nat → Nat → Int32 := opv (m_X11_copy (st2 (m_X11_good I) 65 20 (((m_X11_good I) 65 20) - 1)) 71 (7 * (((m_X11_good I) 65 20) - 1)) 70 0 7)
noncomputable def f_X11_undo (I : Nat → Nat → Int32)  : Bool := opv (if ((m_X11_good I) 65 20) = 0 then f_X11_isNot (m_X11_good I) 6 else true)
noncomputable def m_X11_undo (I : Nat → Nat → Int32)  : Nat → Nat → Int32 := opv (if ((m_X11_good I) 65 20) = 0 then (m_X11_isNot (m_X11_good I) 6) else (u0_X11_undo I))
noncomputable def ok_X11_undo (I : Nat → Nat → Int32)  : Prop := opv (if ((m_X11_good I) 65 20) = 0 then True else ok_X11_copy (st2 (m_X11_good I) 65 20 (((m_X11_good I) 65 20) - 1)) 71 (7 * (((m_X11_good I) 65 20) - 1)) 70 0 7)
set_option maxHeartbeats 800000 in
set_option maxRecDepth 4000 in
theorem c_X11_undo {k : KT} {ex : Bool} {J : Nat → Nat → Int64} {w : Bool} (I : Nat → Nat → Int32)   (hok : ok_X11_undo I) : Cx k mX11_undo 2 [.ref (ka k 65)] (81, ex, I, J, Pw w) (some (.int (b2i (f_X11_undo I)))) (81, ex, m_X11_undo I, J, Pw w) := by
  refine Ct.of rfl [some (.ref (ka k 65))] rfl rfl (Nat.le_of_ble_eq_true rfl) ?_
  rw [ok_X11_undo, opv_eq] at hok
  refine g_aload_n0 rfl d_X11_undo_0 ?_
  refine g_callV0 (c_X11_good I ) w_X11_good l_X11_168 d_X11_undo_1 rfl (Nat.le_of_ble_eq_true rfl) rfl rfl (Nat.le_of_ble_eq_true rfl) ⟨Nat.le_of_ble_eq_true rfl, Nat.le_of_ble_eq_true rfl⟩ ⟨Nat.zero_le _, Nat.zero_le _⟩ ⟨rfl, rfl⟩ ?_
  refine g_aload_n0 rfl d_X11_undo_4 ?_
  refine g_getI f_X11_188 d_X11_undo_5 rfl (Nat.le_of_ble_eq_true rfl) rfl ?_
  refine g_if_ne 18 d_X11_undo_8 (by decide) (fun h1 => ?_) (fun h1 => ?_)
  · skip
    rw [if_neg h1] at hok
    refine g_aload_n0 rfl d_X11_undo_18 ?_
    refine g_dup rfl d_X11_undo_19 ?_
    refine g_getI f_X11_188 d_X11_undo_20 rfl (Nat.le_of_ble_eq_true rfl) rfl ?_
    refine g_iconst 1 d_X11_undo_23 (by decide) ?_
    refine g_isub d_X11_undo_24 ?_
    refine g_putI f_X11_188 d_X11_undo_25 rfl (Nat.le_of_ble_eq_true rfl) rfl rfl rfl ?_
    refine g_aload_n0 rfl d_X11_undo_28 ?_
    refine g_getP (b := 71) f_X11_29 d_X11_undo_29 rfl (Nat.le_of_ble_eq_true rfl) rfl rfl ?_
    refine g_bipush 7 d_X11_undo_32 (by decide) ?_
    refine g_aload_n0 rfl d_X11_undo_34 ?_
    refine g_getIv (((m_X11_good I) 65 20) - 1) (st2_s _ _ _ _) f_X11_188 d_X11_undo_35 rfl (Nat.le_of_ble_eq_true rfl) rfl ?_
    refine g_imul d_X11_undo_38 ?_
    refine g_aload_n0 rfl d_X11_undo_39 ?_
    refine g_getP (b := 70) f_X11_26 d_X11_undo_40 rfl (Nat.le_of_ble_eq_true rfl) rfl rfl ?_
    refine g_iconst 0 d_X11_undo_43 (by decide) ?_
    refine g_bipush 7 d_X11_undo_44 (by decide) ?_
    have ho1 := hok
    refine g_callS0 (c_X11_copy (st2 (m_X11_good I) 65 20 (((m_X11_good I) 65 20) - 1)) 71 rfl (7 * (((m_X11_good I) 65 20) - 1)) 70 rfl 0 7 ho1) w_X11_copy l_X11_177 d_X11_undo_46 rfl rfl (Nat.le_of_ble_eq_true rfl) ⟨Nat.le_of_ble_eq_true rfl, Nat.le_of_ble_eq_true rfl⟩ ⟨Nat.zero_le _, Nat.zero_le _⟩ ⟨rfl, rfl⟩ ?_
    refine G.toI (I' := (u0_X11_undo I)) (by rw [u0_X11_undo, opv_eq]) ?_
    refine g_iconst 1 d_X11_undo_49 (by decide) ?_
    exact g_zret rfl (by decide) d_X11_undo_50 ⟨by simp only [f_X11_undo, m_X11_undo, if_neg h1, opv_eq, if_true, if_false, Bool.false_eq_true, reduceCtorEq, b2i_t, b2i_f], by simp only [f_X11_undo, m_X11_undo, if_neg h1, opv_eq, if_true, if_false, Bool.false_eq_true, reduceCtorEq, b2i_t, b2i_f]⟩ (Nat.le_refl _) (Nat.le_refl _)
  · skip
    refine g_aload_n0 rfl d_X11_undo_11 ?_
    refine g_bipush 6 d_X11_undo_12 (by decide) ?_
    refine g_callV1 (c_X11_isNot (m_X11_good I) 6) w_X11_isNot l_X11_408 d_X11_undo_14 rfl (Nat.le_of_ble_eq_true rfl) rfl rfl (Nat.le_of_ble_eq_true rfl) ⟨Nat.le_of_ble_eq_true rfl, Nat.le_of_ble_eq_true rfl⟩ ⟨Nat.zero_le _, Nat.zero_le _⟩ ⟨rfl, rfl⟩ ?_
    exact g_zret rfl (nar_b _) d_X11_undo_17 ⟨by simp only [f_X11_undo, m_X11_undo, if_pos h1, opv_eq, if_true, if_false, Bool.false_eq_true, reduceCtorEq, b2i_t, b2i_f], by simp only [f_X11_undo, m_X11_undo, if_pos h1, opv_eq, if_true, if_false, Bool.false_eq_true, reduceCtorEq, b2i_t, b2i_f]⟩ (Nat.le_refl _) (Nat.le_refl _)
noncomputable def f_X11_image (I : Nat → Nat → Int32)  : Int32 := opv (if ((m_X11_good I) 65 14) = 0 then f_X11_no (m_X11_good I) 1 else (if ((m_X11_good I) 65 21) = 3 then f_X11_no (m_X11_good I) 3 else (((m_X11_copy (m_X11_good I) 70 0 72 (7 * ((m_X11_good I) 65 21)) 7) 65 21) + 1) - 1))
noncomputable def m_X11_image (I : Nat → Nat → Int32)  : Nat → Nat → Int32 := opv (if ((m_X11_good I) 65 14) = 0 then (m_X11_no (m_X11_good I) 1) else (if ((m_X11_good I) 65 21) = 3 then (m_X11_no (m_X11_good I) 3) else (st2 (m_X11_copy (m_X11_good I) 70 0 72 (7 * ((m_X11_good I) 65 21)) 7) 65 21 (((m_X11_copy (m_X11_good I) 70 0 72 (7 * ((m_X11_good I) 65 21)) 7) 65 21) + 1))))
noncomputable def ok_X11_image (I : Nat → Nat → Int32)  : Prop := opv (if ((m_X11_good I) 65 14) = 0 then True else (if ((m_X11_good I) 65 21) = 3 then True else ok_X11_copy (m_X11_good I) 70 0 72 (7 * ((m_X11_good I) 65 21)) 7))
set_option maxHeartbeats 800000 in
set_option maxRecDepth 4000 in
theorem c_X11_image {k : KT} {ex : Bool} {J : Nat → Nat → Int64} {w : Bool} (I : Nat → Nat → Int32)   (hok : ok_X11_image I) : Cx k mX11_image 2 [.ref (ka k 65)] (81, ex, I, J, Pw w) (some (.int (f_X11_image I))) (81, ex, m_X11_image I, J, Pw w) := by
  refine Ct.of rfl [some (.ref (ka k 65))] rfl rfl (Nat.le_of_ble_eq_true rfl) ?_
  rw [ok_X11_image, opv_eq] at hok
  refine g_aload_n0 rfl d_X11_image_0 ?_
  refine g_callV0 (c_X11_good I ) w_X11_good l_X11_168 d_X11_image_1 rfl (Nat.le_of_ble_eq_true rfl) rfl rfl (Nat.le_of_ble_eq_true rfl) ⟨Nat.le_of_ble_eq_true rfl, Nat.le_of_ble_eq_true rfl⟩ ⟨Nat.zero_le _, Nat.zero_le _⟩ ⟨rfl, rfl⟩ ?_
  refine g_aload_n0 rfl d_X11_image_4 ?_
  refine g_getI f_X11_185 d_X11_image_5 rfl (Nat.le_of_ble_eq_true rfl) rfl ?_
  refine g_if_ne 17 d_X11_image_8 (by decide) (fun h1 => ?_) (fun h1 => ?_)
  · skip
    rw [if_neg h1] at hok
    refine g_aload_n0 rfl d_X11_image_17 ?_
    refine g_getI f_X11_191 d_X11_image_18 rfl (Nat.le_of_ble_eq_true rfl) rfl ?_
    refine g_iconst 3 d_X11_image_21 (by decide) ?_
    refine g_icmp_ne 31 d_X11_image_22 (by decide) (fun h2 => ?_) (fun h2 => ?_)
    · skip
      rw [if_neg h2] at hok
      refine g_aload_n0 rfl d_X11_image_31 ?_
      refine g_getP (b := 70) f_X11_26 d_X11_image_32 rfl (Nat.le_of_ble_eq_true rfl) rfl rfl ?_
      refine g_iconst 0 d_X11_image_35 (by decide) ?_
      refine g_aload_n0 rfl d_X11_image_36 ?_
      refine g_getP (b := 72) f_X11_32 d_X11_image_37 rfl (Nat.le_of_ble_eq_true rfl) rfl rfl ?_
      refine g_bipush 7 d_X11_image_40 (by decide) ?_
      refine g_aload_n0 rfl d_X11_image_42 ?_
      refine g_getI f_X11_191 d_X11_image_43 rfl (Nat.le_of_ble_eq_true rfl) rfl ?_
      refine g_imul d_X11_image_46 ?_
      refine g_bipush 7 d_X11_image_47 (by decide) ?_
      have ho1 := hok
      refine g_callS0 (c_X11_copy (m_X11_good I) 70 rfl 0 72 rfl (7 * ((m_X11_good I) 65 21)) 7 ho1) w_X11_copy l_X11_177 d_X11_image_49 rfl rfl (Nat.le_of_ble_eq_true rfl) ⟨Nat.le_of_ble_eq_true rfl, Nat.le_of_ble_eq_true rfl⟩ ⟨Nat.zero_le _, Nat.zero_le _⟩ ⟨rfl, rfl⟩ ?_
      refine g_aload_n0 rfl d_X11_image_52 ?_
      refine g_dup rfl d_X11_image_53 ?_
      refine g_getI f_X11_191 d_X11_image_54 rfl (Nat.le_of_ble_eq_true rfl) rfl ?_
      refine g_iconst 1 d_X11_image_57 (by decide) ?_
      refine g_iadd d_X11_image_58 ?_
      refine g_putI f_X11_191 d_X11_image_59 rfl (Nat.le_of_ble_eq_true rfl) rfl rfl rfl ?_
      refine g_aload_n0 rfl d_X11_image_62 ?_
      refine g_getIv (((m_X11_copy (m_X11_good I) 70 0 72 (7 * ((m_X11_good I) 65 21)) 7) 65 21) + 1) (st2_s _ _ _ _) f_X11_191 d_X11_image_63 rfl (Nat.le_of_ble_eq_true rfl) rfl ?_
      refine g_iconst 1 d_X11_image_66 (by decide) ?_
      refine g_isub d_X11_image_67 ?_
      exact g_iret rfl d_X11_image_68 ⟨by simp only [f_X11_image, m_X11_image, if_neg h1, if_neg h2, opv_eq, if_true, if_false, Bool.false_eq_true, reduceCtorEq, b2i_t, b2i_f], by simp only [f_X11_image, m_X11_image, if_neg h1, if_neg h2, opv_eq, if_true, if_false, Bool.false_eq_true, reduceCtorEq, b2i_t, b2i_f]⟩ (Nat.le_refl _) (Nat.le_refl _)
    · skip
      refine g_aload_n0 rfl d_X11_image_25 ?_
      refine g_iconst 3 d_X11_image_26 (by decide) ?_
      refine g_callV1 (c_X11_no (m_X11_good I) 3) w_X11_no l_X11_171 d_X11_image_27 rfl (Nat.le_of_ble_eq_true rfl) rfl rfl (Nat.le_of_ble_eq_true rfl) ⟨Nat.le_of_ble_eq_true rfl, Nat.le_of_ble_eq_true rfl⟩ ⟨Nat.zero_le _, Nat.zero_le _⟩ ⟨rfl, rfl⟩ ?_
      exact g_iret rfl d_X11_image_30 ⟨by simp only [f_X11_image, m_X11_image, if_neg h1, if_pos h2, opv_eq, if_true, if_false, Bool.false_eq_true, reduceCtorEq, b2i_t, b2i_f], by simp only [f_X11_image, m_X11_image, if_neg h1, if_pos h2, opv_eq, if_true, if_false, Bool.false_eq_true, reduceCtorEq, b2i_t, b2i_f]⟩ (Nat.le_refl _) (Nat.le_refl _)
  · skip
    refine g_aload_n0 rfl d_X11_image_11 ?_
    refine g_iconst 1 d_X11_image_12 (by decide) ?_
    refine g_callV1 (c_X11_no (m_X11_good I) 1) w_X11_no l_X11_171 d_X11_image_13 rfl (Nat.le_of_ble_eq_true rfl) rfl rfl (Nat.le_of_ble_eq_true rfl) ⟨Nat.le_of_ble_eq_true rfl, Nat.le_of_ble_eq_true rfl⟩ ⟨Nat.zero_le _, Nat.zero_le _⟩ ⟨rfl, rfl⟩ ?_
    exact g_iret rfl d_X11_image_16 ⟨by simp only [f_X11_image, m_X11_image, if_pos h1, opv_eq, if_true, if_false, Bool.false_eq_true, reduceCtorEq, b2i_t, b2i_f], by simp only [f_X11_image, m_X11_image, if_pos h1, opv_eq, if_true, if_false, Bool.false_eq_true, reduceCtorEq, b2i_t, b2i_f]⟩ (Nat.le_refl _) (Nat.le_refl _)
noncomputable def f_X11_back (I : Nat → Nat → Int32) (x1 : Int32) : Bool := opv (if (f_X11_in (m_X11_good I) x1 0 (((m_X11_good I) 65 21) - 1)) = true then true else f_X11_isNot (m_X11_good I) 1)
noncomputable def m_X11_back (I : Nat → Nat → Int32) (x1 : Int32) : Nat → Nat → Int32 := opv (if (f_X11_in (m_X11_good I) x1 0 (((m_X11_good I) 65 21) - 1)) = true then (st2 (m_X11_copy (m_X11_good I) 72 (7 * x1) 70 0 7) 65 20 0) else (m_X11_isNot (m_X11_good I) 1))
noncomputable def ok_X11_back (I : Nat → Nat → Int32) (x1 : Int32) : Prop := opv (if (f_X11_in (m_X11_good I) x1 0 (((m_X11_good I) 65 21) - 1)) = true then ok_X11_copy (m_X11_good I) 72 (7 * x1) 70 0 7 else True)
set_option maxHeartbeats 800000 in
set_option maxRecDepth 4000 in
theorem c_X11_back {k : KT} {ex : Bool} {J : Nat → Nat → Int64} {w : Bool} (I : Nat → Nat → Int32) (x1 : Int32)  (hok : ok_X11_back I x1) : Cx k mX11_back 2 [.ref (ka k 65), .int x1] (81, ex, I, J, Pw w) (some (.int (b2i (f_X11_back I x1)))) (81, ex, m_X11_back I x1, J, Pw w) := by
  refine Ct.of rfl [some (.ref (ka k 65)), some (.int x1)] rfl rfl (Nat.le_of_ble_eq_true rfl) ?_
  rw [ok_X11_back, opv_eq] at hok
  refine g_aload_n0 rfl d_X11_back_0 ?_
  refine g_callV0 (c_X11_good I ) w_X11_good l_X11_168 d_X11_back_1 rfl (Nat.le_of_ble_eq_true rfl) rfl rfl (Nat.le_of_ble_eq_true rfl) ⟨Nat.le_of_ble_eq_true rfl, Nat.le_of_ble_eq_true rfl⟩ ⟨Nat.zero_le _, Nat.zero_le _⟩ ⟨rfl, rfl⟩ ?_
  refine g_iload_n1 rfl d_X11_back_4 ?_
  refine g_iconst 0 d_X11_back_5 (by decide) ?_
  refine g_aload_n0 rfl d_X11_back_6 ?_
  refine g_getI f_X11_191 d_X11_back_7 rfl (Nat.le_of_ble_eq_true rfl) rfl ?_
  refine g_iconst 1 d_X11_back_10 (by decide) ?_
  refine g_isub d_X11_back_11 ?_
  refine g_callS1 (c_X11_in (m_X11_good I) x1 0 (((m_X11_good I) 65 21) - 1)) w_X11_in l_X11_149 d_X11_back_12 rfl rfl (Nat.le_of_ble_eq_true rfl) ⟨Nat.le_of_ble_eq_true rfl, Nat.le_of_ble_eq_true rfl⟩ ⟨Nat.zero_le _, Nat.zero_le _⟩ ⟨rfl, rfl⟩ ?_
  refine g_ifnz 24 d_X11_back_15 (by decide) (fun h1 => ?_) (fun h1 => ?_)
  · skip
    rw [if_pos h1] at hok
    refine g_aload_n0 rfl d_X11_back_24 ?_
    refine g_getP (b := 72) f_X11_32 d_X11_back_25 rfl (Nat.le_of_ble_eq_true rfl) rfl rfl ?_
    refine g_bipush 7 d_X11_back_28 (by decide) ?_
    refine g_iload_n1 rfl d_X11_back_30 ?_
    refine g_imul d_X11_back_31 ?_
    refine g_aload_n0 rfl d_X11_back_32 ?_
    refine g_getP (b := 70) f_X11_26 d_X11_back_33 rfl (Nat.le_of_ble_eq_true rfl) rfl rfl ?_
    refine g_iconst 0 d_X11_back_36 (by decide) ?_
    refine g_bipush 7 d_X11_back_37 (by decide) ?_
    have ho1 := hok
    refine g_callS0 (c_X11_copy (m_X11_good I) 72 rfl (7 * x1) 70 rfl 0 7 ho1) w_X11_copy l_X11_177 d_X11_back_39 rfl rfl (Nat.le_of_ble_eq_true rfl) ⟨Nat.le_of_ble_eq_true rfl, Nat.le_of_ble_eq_true rfl⟩ ⟨Nat.zero_le _, Nat.zero_le _⟩ ⟨rfl, rfl⟩ ?_
    refine g_aload_n0 rfl d_X11_back_42 ?_
    refine g_iconst 0 d_X11_back_43 (by decide) ?_
    refine g_putI f_X11_188 d_X11_back_44 rfl (Nat.le_of_ble_eq_true rfl) rfl rfl rfl ?_
    refine g_iconst 1 d_X11_back_47 (by decide) ?_
    exact g_zret rfl (by decide) d_X11_back_48 ⟨by simp only [f_X11_back, m_X11_back, if_pos h1, opv_eq, if_true, if_false, Bool.false_eq_true, reduceCtorEq, b2i_t, b2i_f], by simp only [f_X11_back, m_X11_back, if_pos h1, opv_eq, if_true, if_false, Bool.false_eq_true, reduceCtorEq, b2i_t, b2i_f]⟩ (Nat.le_refl _) (Nat.le_refl _)
  · skip
    refine g_aload_n0 rfl d_X11_back_18 ?_
    refine g_iconst 1 d_X11_back_19 (by decide) ?_
    refine g_callV1 (c_X11_isNot (m_X11_good I) 1) w_X11_isNot l_X11_408 d_X11_back_20 rfl (Nat.le_of_ble_eq_true rfl) rfl rfl (Nat.le_of_ble_eq_true rfl) ⟨Nat.le_of_ble_eq_true rfl, Nat.le_of_ble_eq_true rfl⟩ ⟨Nat.zero_le _, Nat.zero_le _⟩ ⟨rfl, rfl⟩ ?_
    exact g_zret rfl (nar_b _) d_X11_back_23 ⟨by simp only [f_X11_back, m_X11_back, if_neg (nb h1), opv_eq, if_true, if_false, Bool.false_eq_true, reduceCtorEq, b2i_t, b2i_f], by simp only [f_X11_back, m_X11_back, if_neg (nb h1), opv_eq, if_true, if_false, Bool.false_eq_true, reduceCtorEq, b2i_t, b2i_f]⟩ (Nat.le_refl _) (Nat.le_refl _)
noncomputable def u0_X11_size (I : Nat → Nat → Int32) (x1 : Int32) : Int32 := opv (if x1 = 10 then I 70 4 else (if x1 = 11 then I 65 20 else (if x1 = 12 then I 65 21 else (-1))))
noncomputable def u1_X11_size (I : Nat → Nat → Int32) (x1 : Int32) : Int32 := opv (if (f_X11_in (st2 I 65 0 0) x1 0 12) = true then 0 else (-1))
noncomputable def f_X11_size (I : Nat → Nat → Int32) (x1 : Int32) : Int32 := opv (if x1 = 13 then I 65 2 else (if (I 65 14) = 0 then (u1_X11_size I x1) else (if (f_X11_in (st2 I 65 0 0) x1 0 9) = true then (st2 I 65 0 0) 68 x1.toNatClampNeg else (u0_X11_size I x1))))
noncomputable def m_X11_size (I : Nat → Nat → Int32) (x1 : Int32) : Nat → Nat → Int32 := opv (st2 I 65 0 0)
noncomputable def ok_X11_size (I : Nat → Nat → Int32) (x1 : Int32) : Prop := opv (if x1 = 13 then True else (if (I 65 14) = 0 then True else (if (f_X11_in (st2 I 65 0 0) x1 0 9) = true then vp_in x1 (sz 68) else True)))
set_option maxHeartbeats 800000 in
set_option maxRecDepth 4000 in
theorem c_X11_size {k : KT} {ex : Bool} {J : Nat → Nat → Int64} {w : Bool} (I : Nat → Nat → Int32) (x1 : Int32)  (hok : ok_X11_size I x1) : Cx k mX11_size 2 [.ref (ka k 65), .int x1] (81, ex, I, J, Pw w) (some (.int (f_X11_size I x1))) (81, ex, m_X11_size I x1, J, Pw w) := by
  refine Ct.of rfl [some (.ref (ka k 65)), some (.int x1)] rfl rfl (Nat.le_of_ble_eq_true rfl) ?_
  rw [ok_X11_size, opv_eq] at hok
  refine g_aload_n0 rfl d_X11_size_0 ?_
  refine g_iconst 0 d_X11_size_1 (by decide) ?_
  refine g_putI f_X11_60 d_X11_size_2 rfl (Nat.le_of_ble_eq_true rfl) rfl rfl rfl ?_
  refine g_iload_n1 rfl d_X11_size_5 ?_
  refine g_bipush 13 d_X11_size_6 (by decide) ?_
  refine g_icmp_ne 16 d_X11_size_8 (by decide) (fun h1 => ?_) (fun h1 => ?_)
  · skip
    rw [if_neg h1] at hok
    refine g_aload_n0 rfl d_X11_size_16 ?_
    refine g_getIv (I 65 14) (st2_o _ _ _ (by decide)) f_X11_185 d_X11_size_17 rfl (Nat.le_of_ble_eq_true rfl) rfl ?_
    refine g_if_ne 39 d_X11_size_20 (by decide) (fun h2 => ?_) (fun h2 => ?_)
    · skip
      rw [if_neg h2] at hok
      refine g_iload_n1 rfl d_X11_size_39 ?_
      refine g_iconst 0 d_X11_size_40 (by decide) ?_
      refine g_bipush 9 d_X11_size_41 (by decide) ?_
      refine g_callS1 (c_X11_in (st2 I 65 0 0) x1 0 9) w_X11_in l_X11_149 d_X11_size_43 rfl rfl (Nat.le_of_ble_eq_true rfl) ⟨Nat.le_of_ble_eq_true rfl, Nat.le_of_ble_eq_true rfl⟩ ⟨Nat.zero_le _, Nat.zero_le _⟩ ⟨rfl, rfl⟩ ?_
      refine g_ifz 56 d_X11_size_46 (by decide) (fun h3 => ?_) (fun h3 => ?_)
      · skip
        refine g_iload_n1 rfl d_X11_size_56 ?_
        refine g_bipush 10 d_X11_size_57 (by decide) ?_
        refine g_cut (pc' := 98) (vs' := [some (.ref (ka k 65)), some (.int x1)]) (st' := [.int (u0_X11_size I x1)]) (M' := (81, ex, (st2 I 65 0 0), J, Pw w)) (fun hj => ?_) ?_
        · skip
          refine g_icmp_ne 71 d_X11_size_59 (by decide) (fun h4 => ?_) (fun h4 => ?_)
          · skip
            refine g_iload_n1 rfl d_X11_size_71 ?_
            refine g_bipush 11 d_X11_size_72 (by decide) ?_
            refine g_icmp_ne 84 d_X11_size_74 (by decide) (fun h5 => ?_) (fun h5 => ?_)
            · skip
              refine g_iload_n1 rfl d_X11_size_84 ?_
              refine g_bipush 12 d_X11_size_85 (by decide) ?_
              refine g_icmp_ne 97 d_X11_size_87 (by decide) (fun h6 => ?_) (fun h6 => ?_)
              · skip
                refine g_iconst (-1) d_X11_size_97 (by decide) ?_
                (try simp only [if_neg h4, if_neg h5, if_neg h6, opv_eq, if_true, if_false, Bool.false_eq_true, reduceCtorEq, b2i_t, b2i_f, u0_X11_size] at hj); exact hj
              · skip
                refine g_aload_n0 rfl d_X11_size_90 ?_
                refine g_getIv (I 65 21) (st2_o _ _ _ (by decide)) f_X11_191 d_X11_size_91 rfl (Nat.le_of_ble_eq_true rfl) rfl ?_
                refine g_goto 98 d_X11_size_94 (by decide) ?_
                (try simp only [if_neg h4, if_neg h5, if_pos h6, opv_eq, if_true, if_false, Bool.false_eq_true, reduceCtorEq, b2i_t, b2i_f, u0_X11_size] at hj); exact hj
            · skip
              refine g_aload_n0 rfl d_X11_size_77 ?_
              refine g_getIv (I 65 20) (st2_o _ _ _ (by decide)) f_X11_188 d_X11_size_78 rfl (Nat.le_of_ble_eq_true rfl) rfl ?_
              refine g_goto 98 d_X11_size_81 (by decide) ?_
              (try simp only [if_neg h4, if_pos h5, opv_eq, if_true, if_false, Bool.false_eq_true, reduceCtorEq, b2i_t, b2i_f, u0_X11_size] at hj); exact hj
          · skip
            refine g_aload_n0 rfl d_X11_size_62 ?_
            refine g_getP (b := 70) f_X11_26 d_X11_size_63 rfl (Nat.le_of_ble_eq_true rfl) rfl rfl ?_
            refine g_iconst 4 d_X11_size_66 (by decide) ?_
            refine g_ialdv (I 70 4) (st2_a _ _ (by decide)) d_X11_size_67 rfl (Nat.le_of_ble_eq_true rfl) (vp_c (by decide +kernel)) ?_
            refine g_goto 98 d_X11_size_68 (by decide) ?_
            (try simp only [if_pos h4, opv_eq, if_true, if_false, Bool.false_eq_true, reduceCtorEq, b2i_t, b2i_f, u0_X11_size] at hj); exact hj
        · skip
          exact g_iret rfl d_X11_size_98 ⟨by simp only [f_X11_size, m_X11_size, if_neg h1, if_neg h2, if_neg (nb h3), opv_eq, if_true, if_false, Bool.false_eq_true, reduceCtorEq, b2i_t, b2i_f], by simp only [f_X11_size, m_X11_size, if_neg h1, if_neg h2, if_neg (nb h3), opv_eq, if_true, if_false, Bool.false_eq_true, reduceCtorEq, b2i_t, b2i_f]⟩ (Nat.le_refl _) (Nat.le_refl _)
      · skip
        rw [if_pos h3] at hok
        refine g_aload_n0 rfl d_X11_size_49 ?_
        refine g_getP (b := 68) f_X11_20 d_X11_size_50 rfl (Nat.le_of_ble_eq_true rfl) rfl rfl ?_
        refine g_iload_n1 rfl d_X11_size_53 ?_
        have ho1 := hok
        refine g_iald d_X11_size_54 rfl (Nat.le_of_ble_eq_true rfl) ho1 ?_
        exact g_iret rfl d_X11_size_55 ⟨by simp only [f_X11_size, m_X11_size, if_neg h1, if_neg h2, if_pos h3, opv_eq, if_true, if_false, Bool.false_eq_true, reduceCtorEq, b2i_t, b2i_f], by simp only [f_X11_size, m_X11_size, if_neg h1, if_neg h2, if_pos h3, opv_eq, if_true, if_false, Bool.false_eq_true, reduceCtorEq, b2i_t, b2i_f]⟩ (Nat.le_refl _) (Nat.le_refl _)
    · skip
      refine g_iload_n1 rfl d_X11_size_23 ?_
      refine g_iconst 0 d_X11_size_24 (by decide) ?_
      refine g_bipush 12 d_X11_size_25 (by decide) ?_
      refine g_callS1 (c_X11_in (st2 I 65 0 0) x1 0 12) w_X11_in l_X11_149 d_X11_size_27 rfl rfl (Nat.le_of_ble_eq_true rfl) ⟨Nat.le_of_ble_eq_true rfl, Nat.le_of_ble_eq_true rfl⟩ ⟨Nat.zero_le _, Nat.zero_le _⟩ ⟨rfl, rfl⟩ ?_
      refine g_cut (pc' := 38) (vs' := [some (.ref (ka k 65)), some (.int x1)]) (st' := [.int (u1_X11_size I x1)]) (M' := (81, ex, (st2 I 65 0 0), J, Pw w)) (fun hj => ?_) ?_
      · skip
        refine g_ifz 37 d_X11_size_30 (by decide) (fun h7 => ?_) (fun h7 => ?_)
        · skip
          refine g_iconst (-1) d_X11_size_37 (by decide) ?_
          (try simp only [if_neg (nb h7), opv_eq, if_true, if_false, Bool.false_eq_true, reduceCtorEq, b2i_t, b2i_f, u1_X11_size] at hj); exact hj
        · skip
          refine g_iconst 0 d_X11_size_33 (by decide) ?_
          refine g_goto 38 d_X11_size_34 (by decide) ?_
          (try simp only [if_pos h7, opv_eq, if_true, if_false, Bool.false_eq_true, reduceCtorEq, b2i_t, b2i_f, u1_X11_size] at hj); exact hj
      · skip
        exact g_iret rfl d_X11_size_38 ⟨by simp only [f_X11_size, m_X11_size, if_neg h1, if_pos h2, opv_eq, if_true, if_false, Bool.false_eq_true, reduceCtorEq, b2i_t, b2i_f], by simp only [f_X11_size, m_X11_size, if_neg h1, if_pos h2, opv_eq, if_true, if_false, Bool.false_eq_true, reduceCtorEq, b2i_t, b2i_f]⟩ (Nat.le_refl _) (Nat.le_refl _)
  · skip
    refine g_aload_n0 rfl d_X11_size_11 ?_
    refine g_getIv (I 65 2) (st2_o _ _ _ (by decide)) f_X11_66 d_X11_size_12 rfl (Nat.le_of_ble_eq_true rfl) rfl ?_
    exact g_iret rfl d_X11_size_15 ⟨by simp only [f_X11_size, m_X11_size, if_pos h1, opv_eq, if_true, if_false, Bool.false_eq_true, reduceCtorEq, b2i_t, b2i_f], by simp only [f_X11_size, m_X11_size, if_pos h1, opv_eq, if_true, if_false, Bool.false_eq_true, reduceCtorEq, b2i_t, b2i_f]⟩ (Nat.le_refl _) (Nat.le_refl _)
noncomputable def lp_X11_led_4 (x1 : Int32) : Nat → Int32 → Int32 → (Nat → Nat → Int32) → Int32 × (Nat → Nat → Int32)
  | 0, l2, l3, I1 => (0, I1)
  | n + 1, l2, l3, I1 => (if (I1 65 14) = 0 then (0, (st2 I1 65 0 1)) else (if (I1 68 6) ≤ l3 then (0, (st2 I1 65 0 1)) else (if (I1 70 4) ≤ (I1 68 (25 + (3 * l3)).toNatClampNeg) then (lp_X11_led_4 x1 n l2 (l3 + 1) I1) else (if (f_X11_hasBit I1 (I1 70 6) l3) = true then (if l2 = x1 then (l3, (st2 I1 65 0 0)) else (lp_X11_led_4 x1 n (l2 + 1) (l3 + 1) I1)) else (lp_X11_led_4 x1 n l2 (l3 + 1) I1)))))
def oklp_X11_led_4 (x1 : Int32) : Nat → Int32 → Int32 → (Nat → Nat → Int32) → Prop
  | 0, l2, l3, I1 => True
  | n + 1, l2, l3, I1 => (if (I1 65 14) = 0 then True else (if (I1 68 6) ≤ l3 then True else (vp_in (25 + (3 * l3)) (sz 68) ∧ (if (I1 70 4) ≤ (I1 68 (25 + (3 * l3)).toNatClampNeg) then oklp_X11_led_4 x1 n l2 (l3 + 1) I1 else (if (f_X11_hasBit I1 (I1 70 6) l3) = true then (if l2 = x1 then True else oklp_X11_led_4 x1 n (l2 + 1) (l3 + 1) I1) else oklp_X11_led_4 x1 n l2 (l3 + 1) I1)))))
set_option maxHeartbeats 800000 in
set_option maxRecDepth 4000 in
theorem k_lp_X11_led_4 {k : KT} {ex : Bool} {J : Nat → Nat → Int64} {w : Bool} (x1 : Int32) {Q : Option Value → MM → Prop} : ∀ (n : Nat) (l2 : Int32) (l3 : Int32) (I1 : (Nat → Nat → Int32)), mu_up (I1 68 6) l3 < n → oklp_X11_led_4 x1 n l2 l3 I1 → Q (some (.int (lp_X11_led_4 x1 n l2 l3 I1).1)) (81, ex, (lp_X11_led_4 x1 n l2 l3 I1).2, J, Pw w) → G k mX11_led (roomOf 2 0 0) (FinM k Q 0 0) 0 0 4 [some (.ref (ka k 65)), some (.int x1), some (.int l2), some (.int l3)] [] (81, ex, I1, J, Pw w) := by
  intro n
  induction n with
  | zero => intro l2 l3 I1 hmu hok hq; exact absurd hmu (Nat.not_lt_zero _)
  | succ n ih =>
    intro l2 l3 I1 hmu hok hq
    rw [oklp_X11_led_4] at hok
    refine g_aload_n0 rfl d_X11_led_4 ?_
    refine g_getI f_X11_185 d_X11_led_5 rfl (Nat.le_of_ble_eq_true rfl) rfl ?_
    refine g_if_eq 80 d_X11_led_8 (by decide) (fun h1 => ?_) (fun h1 => ?_)
    · skip
      refine g_aload_n0 rfl d_X11_led_80 ?_
      refine g_iconst 1 d_X11_led_81 (by decide) ?_
      refine g_putI f_X11_60 d_X11_led_82 rfl (Nat.le_of_ble_eq_true rfl) rfl rfl rfl ?_
      refine g_iconst 0 d_X11_led_85 (by decide) ?_
      exact g_iret rfl d_X11_led_86 (by (try simp only [lp_X11_led_4, if_pos h1, opv_eq, if_true, if_false, Bool.false_eq_true, reduceCtorEq, b2i_t, b2i_f] at hq); exact hq) (Nat.le_refl _) (Nat.le_refl _)
    · skip
      rw [if_neg h1] at hok
      refine g_iload_n3 rfl d_X11_led_11 ?_
      refine g_aload_n0 rfl d_X11_led_12 ?_
      refine g_getP (b := 68) f_X11_20 d_X11_led_13 rfl (Nat.le_of_ble_eq_true rfl) rfl rfl ?_
      refine g_bipush 6 d_X11_led_16 (by decide) ?_
      refine g_ialdv (I1 68 6) rfl d_X11_led_18 rfl (Nat.le_of_ble_eq_true rfl) (vp_c (by decide +kernel)) ?_
      refine g_icmp_ge 80 d_X11_led_19 (by decide) (fun h2 => ?_) (fun h2 => ?_)
      · skip
        refine g_aload_n0 rfl d_X11_led_80 ?_
        refine g_iconst 1 d_X11_led_81 (by decide) ?_
        refine g_putI f_X11_60 d_X11_led_82 rfl (Nat.le_of_ble_eq_true rfl) rfl rfl rfl ?_
        refine g_iconst 0 d_X11_led_85 (by decide) ?_
        exact g_iret rfl d_X11_led_86 (by (try simp only [lp_X11_led_4, if_neg h1, if_pos h2, opv_eq, if_true, if_false, Bool.false_eq_true, reduceCtorEq, b2i_t, b2i_f] at hq); exact hq) (Nat.le_refl _) (Nat.le_refl _)
      · skip
        rw [if_neg h2] at hok
        refine g_aload_n0 rfl d_X11_led_22 ?_
        refine g_getP (b := 68) f_X11_20 d_X11_led_23 rfl (Nat.le_of_ble_eq_true rfl) rfl rfl ?_
        refine g_bipush 25 d_X11_led_26 (by decide) ?_
        refine g_iconst 3 d_X11_led_28 (by decide) ?_
        refine g_iload_n3 rfl d_X11_led_29 ?_
        refine g_imul d_X11_led_30 ?_
        refine g_iadd d_X11_led_31 ?_
        obtain ⟨ho1, hok⟩ := hok
        refine g_iald d_X11_led_32 rfl (Nat.le_of_ble_eq_true rfl) ho1 ?_
        refine g_aload_n0 rfl d_X11_led_33 ?_
        refine g_getP (b := 70) f_X11_26 d_X11_led_34 rfl (Nat.le_of_ble_eq_true rfl) rfl rfl ?_
        refine g_iconst 4 d_X11_led_37 (by decide) ?_
        refine g_ialdv (I1 70 4) rfl d_X11_led_38 rfl (Nat.le_of_ble_eq_true rfl) (vp_c (by decide +kernel)) ?_
        refine g_icmp_ge 74 d_X11_led_39 (by decide) (fun h3 => ?_) (fun h3 => ?_)
        · skip
          rw [if_pos h3] at hok
          refine g_ic3 (l3 + 1) rfl rfl d_X11_led_74 ?_
          refine g_goto 4 d_X11_led_77 (by decide) ?_
          exact ih l2 (l3 + 1) I1 (Nat.lt_of_lt_of_le (mu_up_lt h2) (Nat.le_of_lt_succ hmu)) (by (try simp only [if_neg h1, if_neg h2, if_pos h3, opv_eq, if_true, if_false, Bool.false_eq_true, reduceCtorEq, b2i_t, b2i_f] at hok); exact hok) (by (try simp only [lp_X11_led_4, if_neg h1, if_neg h2, if_pos h3, opv_eq, if_true, if_false, Bool.false_eq_true, reduceCtorEq, b2i_t, b2i_f] at hq); exact hq)
        · skip
          rw [if_neg h3] at hok
          refine g_aload_n0 rfl d_X11_led_42 ?_
          refine g_getP (b := 70) f_X11_26 d_X11_led_43 rfl (Nat.le_of_ble_eq_true rfl) rfl rfl ?_
          refine g_bipush 6 d_X11_led_46 (by decide) ?_
          refine g_ialdv (I1 70 6) rfl d_X11_led_48 rfl (Nat.le_of_ble_eq_true rfl) (vp_c (by decide +kernel)) ?_
          refine g_iload_n3 rfl d_X11_led_49 ?_
          refine g_callS1 (c_X11_hasBit I1 (I1 70 6) l3) w_X11_hasBit l_X11_261 d_X11_led_50 rfl rfl (Nat.le_of_ble_eq_true rfl) ⟨Nat.le_of_ble_eq_true rfl, Nat.le_of_ble_eq_true rfl⟩ ⟨Nat.zero_le _, Nat.zero_le _⟩ ⟨rfl, rfl⟩ ?_
          refine g_ifnz 59 d_X11_led_53 (by decide) (fun h4 => ?_) (fun h4 => ?_)
          · skip
            rw [if_pos h4] at hok
            refine g_iload_n2 rfl d_X11_led_59 ?_
            refine g_iload_n1 rfl d_X11_led_60 ?_
            refine g_icmp_ne 71 d_X11_led_61 (by decide) (fun h5 => ?_) (fun h5 => ?_)
            · skip
              rw [if_neg h5] at hok
              refine g_ic2 (l2 + 1) rfl rfl d_X11_led_71 ?_
              refine g_ic3 (l3 + 1) rfl rfl d_X11_led_74 ?_
              refine g_goto 4 d_X11_led_77 (by decide) ?_
              exact ih (l2 + 1) (l3 + 1) I1 (Nat.lt_of_lt_of_le (mu_up_lt h2) (Nat.le_of_lt_succ hmu)) (by (try simp only [if_neg h1, if_neg h2, if_neg h3, if_pos h4, if_neg h5, opv_eq, if_true, if_false, Bool.false_eq_true, reduceCtorEq, b2i_t, b2i_f] at hok); exact hok) (by (try simp only [lp_X11_led_4, if_neg h1, if_neg h2, if_neg h3, if_pos h4, if_neg h5, opv_eq, if_true, if_false, Bool.false_eq_true, reduceCtorEq, b2i_t, b2i_f] at hq); exact hq)
            · skip
              refine g_aload_n0 rfl d_X11_led_64 ?_
              refine g_iconst 0 d_X11_led_65 (by decide) ?_
              refine g_putI f_X11_60 d_X11_led_66 rfl (Nat.le_of_ble_eq_true rfl) rfl rfl rfl ?_
              refine g_iload_n3 rfl d_X11_led_69 ?_
              exact g_iret rfl d_X11_led_70 (by (try simp only [lp_X11_led_4, if_neg h1, if_neg h2, if_neg h3, if_pos h4, if_pos h5, opv_eq, if_true, if_false, Bool.false_eq_true, reduceCtorEq, b2i_t, b2i_f] at hq); exact hq) (Nat.le_refl _) (Nat.le_refl _)
          · skip
            rw [if_neg (nb h4)] at hok
            refine g_goto 74 d_X11_led_56 (by decide) ?_
            refine g_ic3 (l3 + 1) rfl rfl d_X11_led_74 ?_
            refine g_goto 4 d_X11_led_77 (by decide) ?_
            exact ih l2 (l3 + 1) I1 (Nat.lt_of_lt_of_le (mu_up_lt h2) (Nat.le_of_lt_succ hmu)) (by (try simp only [if_neg h1, if_neg h2, if_neg h3, if_neg (nb h4), opv_eq, if_true, if_false, Bool.false_eq_true, reduceCtorEq, b2i_t, b2i_f] at hok); exact hok) (by (try simp only [lp_X11_led_4, if_neg h1, if_neg h2, if_neg h3, if_neg (nb h4), opv_eq, if_true, if_false, Bool.false_eq_true, reduceCtorEq, b2i_t, b2i_f] at hq); exact hq)
noncomputable def f_X11_led (I : Nat → Nat → Int32) (x1 : Int32) : Int32 := opv ((lp_X11_led_4 x1 (mu_up (I 68 6) 0 + 1) 0 0 I).1)
noncomputable def m_X11_led (I : Nat → Nat → Int32) (x1 : Int32) : Nat → Nat → Int32 := opv ((lp_X11_led_4 x1 (mu_up (I 68 6) 0 + 1) 0 0 I).2)
noncomputable def ok_X11_led (I : Nat → Nat → Int32) (x1 : Int32) : Prop := opv (oklp_X11_led_4 x1 (mu_up (I 68 6) 0 + 1) 0 0 I)
set_option maxHeartbeats 800000 in
set_option maxRecDepth 4000 in
theorem c_X11_led {k : KT} {ex : Bool} {J : Nat → Nat → Int64} {w : Bool} (I : Nat → Nat → Int32) (x1 : Int32)  (hok : ok_X11_led I x1) : Cx k mX11_led 2 [.ref (ka k 65), .int x1] (81, ex, I, J, Pw w) (some (.int (f_X11_led I x1))) (81, ex, m_X11_led I x1, J, Pw w) := by
  refine Ct.of rfl [some (.ref (ka k 65)), some (.int x1), none, none] rfl rfl (Nat.le_of_ble_eq_true rfl) ?_
  rw [ok_X11_led, opv_eq] at hok
  refine g_iconst 0 d_X11_led_0 (by decide) ?_
  refine g_isn2 rfl d_X11_led_1 ?_
  refine g_iconst 0 d_X11_led_2 (by decide) ?_
  refine g_isn3 rfl d_X11_led_3 ?_
  exact k_lp_X11_led_4 x1 _ 0 0 I (Nat.lt_succ_self _) hok ⟨by simp only [f_X11_led, m_X11_led, opv_eq, if_true, if_false, Bool.false_eq_true, reduceCtorEq, b2i_t, b2i_f], by simp only [f_X11_led, m_X11_led, opv_eq, if_true, if_false, Bool.false_eq_true, reduceCtorEq, b2i_t, b2i_f]⟩
