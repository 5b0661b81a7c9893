noncomputable def m_X11_wrong (I : Nat → Nat → Int32) (x1 : Int32) (x2 : Int32) : Nat → Nat → Int32 := opv (if (I 65 13) = 0 then (st2 (st2 (st2 I 65 13 1) 65 9 x1) 65 10 x2) else I)
set_option maxHeartbeats 800000 in
set_option maxRecDepth 4000 in
theorem c_X11_wrong {k : KT} {ex : Bool} {J : Nat → Nat → Int64} {w : Bool} (I : Nat → Nat → Int32) (x1 : Int32) (x2 : Int32)  : Cx k mX11_wrong 1 [.ref (ka k 65), .int x1, .int x2] (81, ex, I, J, Pw w) none (81, ex, m_X11_wrong I x1 x2, J, Pw w) := by
  refine Ct.of rfl [some (.ref (ka k 65)), some (.int x1), some (.int x2)] rfl rfl (Nat.le_of_ble_eq_true rfl) ?_
  refine g_aload_n0 rfl d_X11_wrong_0 ?_
  refine g_getI f_X11_98 d_X11_wrong_1 rfl (Nat.le_of_ble_eq_true rfl) rfl ?_
  refine g_if_eq 8 d_X11_wrong_4 (by decide) (fun h1 => ?_) (fun h1 => ?_)
  · skip
    refine g_aload_n0 rfl d_X11_wrong_8 ?_
    refine g_iconst 1 d_X11_wrong_9 (by decide) ?_
    refine g_putI f_X11_98 d_X11_wrong_10 rfl (Nat.le_of_ble_eq_true rfl) rfl (by decide) (by decide) ?_
    refine g_aload_n0 rfl d_X11_wrong_13 ?_
    refine g_iload_n1 rfl d_X11_wrong_14 ?_
    refine g_putI f_X11_102 d_X11_wrong_15 rfl (Nat.le_of_ble_eq_true rfl) rfl rfl rfl ?_
    refine g_aload_n0 rfl d_X11_wrong_18 ?_
    refine g_iload_n2 rfl d_X11_wrong_19 ?_
    refine g_putI f_X11_13 d_X11_wrong_20 rfl (Nat.le_of_ble_eq_true rfl) rfl rfl rfl ?_
    exact g_vret rfl d_X11_wrong_23 ⟨rfl, by simp only [m_X11_wrong, if_pos h1, opv_eq, if_true, if_false, Bool.false_eq_true, reduceCtorEq, b2i_t, b2i_f]⟩ (Nat.le_refl _) (Nat.le_refl _)
  · skip
    exact g_vret rfl d_X11_wrong_7 ⟨rfl, by simp only [m_X11_wrong, if_neg h1, opv_eq, if_true, if_false, Bool.false_eq_true, reduceCtorEq, b2i_t, b2i_f]⟩ (Nat.le_refl _) (Nat.le_refl _)
theorem wrong_o (I : Nat → Nat → Int32) (x y : Int32) {c : Nat} (h : c ≠ 65) (j : Nat) : m_X11_wrong I x y c j = I c j := by
  simp only [m_X11_wrong, opv_eq]
  split <;> simp [st2, va_up, h]
noncomputable def u0_X11_isWord (I : Nat → Nat → Int32) (x1 : Nat) (l2 : Bool) (l3 : Int32) : Bool := opv (if l2 = true then (if (I 67 l3.toNatClampNeg) = (sCh x1 l3) then true else false) else false)
noncomputable def lp_X11_isWord_32 (I : Nat → Nat → Int32) (x1 : Nat) : Nat → Bool → Int32 → Bool × Int32
  | 0, l2, l3 => (l2, l3)
  | n + 1, l2, l3 => (if (I 65 8) ≤ l3 then (l2, l3) else (lp_X11_isWord_32 I x1 n (u0_X11_isWord I x1 l2 l3) (l3 + 1)))
def oklp_X11_isWord_32 (I : Nat → Nat → Int32) (x1 : Nat) : Nat → Bool → Int32 → Prop
  | 0, l2, l3 => True
  | n + 1, l2, l3 => (if (I 65 8) ≤ l3 then True else ((if l2 = true then (vp_in l3 (sz 67) ∧ vp_in l3 (lenS.getD x1 0)) else True) ∧ oklp_X11_isWord_32 I x1 n (u0_X11_isWord I x1 l2 l3) (l3 + 1)))
set_option maxHeartbeats 800000 in
set_option maxRecDepth 4000 in
theorem k_lp_X11_isWord_32 {k : KT} {ex : Bool} {J : Nat → Nat → Int64} {w : Bool} (I : Nat → Nat → Int32) (x1 : Nat) (hx1 : x1 < nStr) {F : FinT} : ∀ (n : Nat) (l2 : Bool) (l3 : Int32), mu_up (I 65 8) l3 < n → oklp_X11_isWord_32 I x1 n l2 l3 → G k mX11_isWord (roomOf 5 0 0) F 0 0 70 [some (.ref (ka k 65)), some (.ref (adK k x1)), some (.int (b2i ((lp_X11_isWord_32 I x1 n l2 l3).1))), some (.int ((lp_X11_isWord_32 I x1 n l2 l3).2))] [] (81, ex, I, J, Pw w) → G k mX11_isWord (roomOf 5 0 0) F 0 0 32 [some (.ref (ka k 65)), some (.ref (adK k x1)), some (.int (b2i l2)), some (.int l3)] [] (81, ex, I, J, Pw w) := by
  intro n
  induction n with
  | zero => intro l2 l3 hmu hok hj; exact absurd hmu (Nat.not_lt_zero _)
  | succ n ih =>
    intro l2 l3 hmu hok hj
    rw [oklp_X11_isWord_32] at hok
    refine g_iload_n3 rfl d_X11_isWord_32 ?_
    refine g_aload_n0 rfl d_X11_isWord_33 ?_
    refine g_getI f_X11_82 d_X11_isWord_34 rfl (Nat.le_of_ble_eq_true rfl) rfl ?_
    refine g_icmp_ge 70 d_X11_isWord_37 (by decide) (fun h1 => ?_) (fun h1 => ?_)
    · skip
      (try simp only [lp_X11_isWord_32, if_pos h1, opv_eq, if_true, if_false, Bool.false_eq_true, reduceCtorEq, b2i_t, b2i_f] at hj); exact hj
    · skip
      rw [if_neg h1] at hok
      refine g_iload_n2 rfl d_X11_isWord_40 ?_
      obtain ⟨hoa, hob⟩ := hok
      refine g_cut (pc' := 63) (vs' := [some (.ref (ka k 65)), some (.ref (adK k x1)), some (.int (b2i l2)), some (.int l3)]) (st' := [.int (b2i (u0_X11_isWord I x1 l2 l3))]) (M' := (81, ex, I, J, Pw w)) (fun hj => ?_) ?_
      · skip
        refine g_ifz 62 d_X11_isWord_41 (by decide) (fun h2 => ?_) (fun h2 => ?_)
        · skip
          refine g_iconst 0 d_X11_isWord_62 (by decide) ?_
          (try simp only [if_neg (nb h2), opv_eq, if_true, if_false, Bool.false_eq_true, reduceCtorEq, b2i_t, b2i_f, u0_X11_isWord] at hj); exact hj
        · skip
          rw [if_pos h2] at hoa
          refine g_aload_n0 rfl d_X11_isWord_44 ?_
          refine g_getP (b := 67) f_X11_17 d_X11_isWord_45 rfl (Nat.le_of_ble_eq_true rfl) rfl rfl ?_
          refine g_iload_n3 rfl d_X11_isWord_48 ?_
          obtain ⟨ho1, hok⟩ := hoa
          refine g_iald d_X11_isWord_49 rfl (Nat.le_of_ble_eq_true rfl) ho1 ?_
          refine g_aload_n1 rfl d_X11_isWord_50 ?_
          refine g_iload_n3 rfl d_X11_isWord_51 ?_
          have ho2 := hok
          refine g_callK1 (c_J0_charAt_5068e x1 hx1 l3 ho2) w_J0_charAt_5068e rfl hx1 l_X11_111 d_X11_isWord_52 rfl rfl (Nat.le_of_ble_eq_true rfl) ⟨Nat.le_of_ble_eq_true rfl, Nat.le_of_ble_eq_true rfl⟩ ⟨Nat.zero_le _, Nat.zero_le _⟩ ⟨rfl, rfl⟩ ?_
          refine g_icmp_ne 62 d_X11_isWord_55 (by decide) (fun h3 => ?_) (fun h3 => ?_)
          · skip
            refine g_iconst 0 d_X11_isWord_62 (by decide) ?_
            (try simp only [if_pos h2, if_neg h3, opv_eq, if_true, if_false, Bool.false_eq_true, reduceCtorEq, b2i_t, b2i_f, u0_X11_isWord] at hj); exact hj
          · skip
            refine g_iconst 1 d_X11_isWord_58 (by decide) ?_
            refine g_goto 63 d_X11_isWord_59 (by decide) ?_
            (try simp only [if_pos h2, if_pos h3, opv_eq, if_true, if_false, Bool.false_eq_true, reduceCtorEq, b2i_t, b2i_f, u0_X11_isWord] at hj); exact hj
      · skip
        refine g_isn2 rfl d_X11_isWord_63 ?_
        refine g_ic3 (l3 + 1) rfl rfl d_X11_isWord_64 ?_
        refine g_goto 32 d_X11_isWord_67 (by decide) ?_
        exact ih (u0_X11_isWord I x1 l2 l3) (l3 + 1) (Nat.lt_of_lt_of_le (mu_up_lt h1) (Nat.le_of_lt_succ hmu)) (by (try simp only [if_neg h1, opv_eq, if_true, if_false, Bool.false_eq_true, reduceCtorEq, b2i_t, b2i_f] at hob); exact hob) (by (try simp only [lp_X11_isWord_32, if_neg h1, opv_eq, if_true, if_false, Bool.false_eq_true, reduceCtorEq, b2i_t, b2i_f] at hj); exact hj)
noncomputable def f_X11_isWord (I : Nat → Nat → Int32) (x1 : Nat) : Bool := opv (if (I 65 13) = 0 then (if (I 65 6) = 2 then (if (I 65 8) = (sLen x1) then (lp_X11_isWord_32 I x1 (mu_up (I 65 8) 0 + 1) true 0).1 else false) else false) else false)
noncomputable def ok_X11_isWord (I : Nat → Nat → Int32) (x1 : Nat) : Prop := opv (if (I 65 13) = 0 then (if (I 65 6) = 2 then (if (I 65 8) = (sLen x1) then oklp_X11_isWord_32 I x1 (mu_up (I 65 8) 0 + 1) true 0 else True) else True) else True)
set_option maxHeartbeats 800000 in
set_option maxRecDepth 4000 in
theorem c_X11_isWord {k : KT} {ex : Bool} {J : Nat → Nat → Int64} {w : Bool} (I : Nat → Nat → Int32) (x1 : Nat) (hx1 : x1 < nStr)  (hok : ok_X11_isWord I x1) : Cx k mX11_isWord 5 [.ref (ka k 65), .ref (adK k x1)] (81, ex, I, J, Pw w) (some (.int (b2i (f_X11_isWord I x1)))) (81, ex, I, J, Pw w) := by
  refine Ct.of rfl [some (.ref (ka k 65)), some (.ref (adK k x1)), none, none] rfl rfl (Nat.le_of_ble_eq_true rfl) ?_
  rw [ok_X11_isWord, opv_eq] at hok
  refine g_aload_n0 rfl d_X11_isWord_0 ?_
  refine g_getI f_X11_98 d_X11_isWord_1 rfl (Nat.le_of_ble_eq_true rfl) rfl ?_
  refine g_if_ne 26 d_X11_isWord_4 (by decide) (fun h4 => ?_) (fun h4 => ?_)
  · skip
    refine g_iconst 0 d_X11_isWord_26 (by decide) ?_
    exact g_zret rfl (by decide) d_X11_isWord_27 ⟨by simp only [f_X11_isWord, if_neg h4, opv_eq, if_true, if_false, Bool.false_eq_true, reduceCtorEq, b2i_t, b2i_f], rfl⟩ (Nat.le_refl _) (Nat.le_refl _)
  · skip
    rw [if_pos h4] at hok
    refine g_aload_n0 rfl d_X11_isWord_7 ?_
    refine g_getI f_X11_88 d_X11_isWord_8 rfl (Nat.le_of_ble_eq_true rfl) rfl ?_
    refine g_iconst 2 d_X11_isWord_11 (by decide) ?_
    refine g_icmp_ne 26 d_X11_isWord_12 (by decide) (fun h5 => ?_) (fun h5 => ?_)
    · skip
      refine g_iconst 0 d_X11_isWord_26 (by decide) ?_
      exact g_zret rfl (by decide) d_X11_isWord_27 ⟨by simp only [f_X11_isWord, if_pos h4, if_neg h5, opv_eq, if_true, if_false, Bool.false_eq_true, reduceCtorEq, b2i_t, b2i_f], rfl⟩ (Nat.le_refl _) (Nat.le_refl _)
    · skip
      rw [if_pos h5] at hok
      refine g_aload_n0 rfl d_X11_isWord_15 ?_
      refine g_getI f_X11_82 d_X11_isWord_16 rfl (Nat.le_of_ble_eq_true rfl) rfl ?_
      refine g_aload_n1 rfl d_X11_isWord_19 ?_
      refine g_callK1 (c_J0_length_8abf5 x1 hx1) w_J0_length_8abf5 rfl hx1 l_X11_105 d_X11_isWord_20 rfl rfl (Nat.le_of_ble_eq_true rfl) ⟨Nat.le_of_ble_eq_true rfl, Nat.le_of_ble_eq_true rfl⟩ ⟨Nat.zero_le _, Nat.zero_le _⟩ ⟨rfl, rfl⟩ ?_
      refine g_icmp_eq 28 d_X11_isWord_23 (by decide) (fun h6 => ?_) (fun h6 => ?_)
      · skip
        rw [if_pos h6] at hok
        refine g_iconst 1 d_X11_isWord_28 (by decide) ?_
        refine g_isn2 rfl d_X11_isWord_29 ?_
        refine g_iconst 0 d_X11_isWord_30 (by decide) ?_
        refine g_isn3 rfl d_X11_isWord_31 ?_
        refine k_lp_X11_isWord_32 I x1 hx1 _ true 0 (Nat.lt_succ_self _) hok ?_
        refine g_iload_n2 rfl d_X11_isWord_70 ?_
        exact g_zret rfl (nar_b _) d_X11_isWord_71 ⟨by simp only [f_X11_isWord, if_pos h4, if_pos h5, if_pos h6, opv_eq, if_true, if_false, Bool.false_eq_true, reduceCtorEq, b2i_t, b2i_f], rfl⟩ (Nat.le_refl _) (Nat.le_refl _)
      · skip
        refine g_iconst 0 d_X11_isWord_26 (by decide) ?_
        exact g_zret rfl (by decide) d_X11_isWord_27 ⟨by simp only [f_X11_isWord, if_pos h4, if_pos h5, if_neg h6, opv_eq, if_true, if_false, Bool.false_eq_true, reduceCtorEq, b2i_t, b2i_f], rfl⟩ (Nat.le_refl _) (Nat.le_refl _)
noncomputable def f_X11_takesWord (I : Nat → Nat → Int32) (x1 : Nat) : Bool := opv (if (f_X11_isWord I x1) = true then true else false)
noncomputable def m_X11_takesWord (I : Nat → Nat → Int32) (x1 : Nat) : Nat → Nat → Int32 := opv (if (f_X11_isWord I x1) = true then (m_X11_next I) else I)
noncomputable def ok_X11_takesWord (I : Nat → Nat → Int32) (x1 : Nat) : Prop := opv (ok_X11_isWord I x1 ∧ (if (f_X11_isWord I x1) = true then ok_X11_next I else True))
set_option maxHeartbeats 800000 in
set_option maxRecDepth 4000 in
theorem c_X11_takesWord {k : KT} {ex : Bool} {J : Nat → Nat → Int64} {w : Bool} (I : Nat → Nat → Int32) (x1 : Nat) (hx1 : x1 < nStr)  (hok : ok_X11_takesWord I x1) : Cx k mX11_takesWord 6 [.ref (ka k 65), .ref (adK k x1)] (81, ex, I, J, Pw w) (some (.int (b2i (f_X11_takesWord I x1)))) (81, ex, m_X11_takesWord I x1, J, Pw w) := by
  refine Ct.of rfl [some (.ref (ka k 65)), some (.ref (adK k x1))] rfl rfl (Nat.le_of_ble_eq_true rfl) ?_
  rw [ok_X11_takesWord, opv_eq] at hok
  refine g_aload_n0 rfl d_X11_takesWord_0 ?_
  refine g_aload_n1 rfl d_X11_takesWord_1 ?_
  obtain ⟨ho1, hok⟩ := hok
  refine g_callV1 (c_X11_isWord I x1 hx1 ho1) w_X11_isWord l_X11_115 d_X11_takesWord_2 rfl (Nat.le_of_ble_eq_true rfl) rfl rfl (Nat.le_of_ble_eq_true rfl) ⟨Nat.le_of_ble_eq_true rfl, Nat.le_of_ble_eq_true rfl⟩ ⟨Nat.zero_le _, Nat.zero_le _⟩ ⟨rfl, rfl⟩ ?_
  refine g_ifnz 10 d_X11_takesWord_5 (by decide) (fun h1 => ?_) (fun h1 => ?_)
  · skip
    rw [if_pos h1] at hok
    refine g_aload_n0 rfl d_X11_takesWord_10 ?_
    have ho2 := hok
    refine g_callV0 (c_X11_next I  ho2) w_X11_next l_X11_119 d_X11_takesWord_11 rfl (Nat.le_of_ble_eq_true rfl) rfl rfl (Nat.le_of_ble_eq_true rfl) ⟨Nat.le_of_ble_eq_true rfl, Nat.le_of_ble_eq_true rfl⟩ ⟨Nat.zero_le _, Nat.zero_le _⟩ ⟨rfl, rfl⟩ ?_
    refine g_iconst 1 d_X11_takesWord_14 (by decide) ?_
    exact g_zret rfl (by decide) d_X11_takesWord_15 ⟨by simp only [f_X11_takesWord, m_X11_takesWord, if_pos h1, opv_eq, if_true, if_false, Bool.false_eq_true, reduceCtorEq, b2i_t, b2i_f], by simp only [f_X11_takesWord, m_X11_takesWord, if_pos h1, opv_eq, if_true, if_false, Bool.false_eq_true, reduceCtorEq, b2i_t, b2i_f]⟩ (Nat.le_refl _) (Nat.le_refl _)
  · skip
    refine g_iconst 0 d_X11_takesWord_8 (by decide) ?_
    exact g_zret rfl (by decide) d_X11_takesWord_9 ⟨by simp only [f_X11_takesWord, m_X11_takesWord, if_neg (nb h1), opv_eq, if_true, if_false, Bool.false_eq_true, reduceCtorEq, b2i_t, b2i_f], by simp only [f_X11_takesWord, m_X11_takesWord, if_neg (nb h1), opv_eq, if_true, if_false, Bool.false_eq_true, reduceCtorEq, b2i_t, b2i_f]⟩ (Nat.le_refl _) (Nat.le_refl _)
noncomputable def u0_X11_must (I : Nat → Nat → Int32) (x1 : Nat) : Nat → Nat → Int32 := opv (if (I 65 13) = 0 then (if (f_X11_takesWord I x1) = true then (m_X11_takesWord I x1) else (m_X11_wrong (m_X11_takesWord I x1) 1 ((m_X11_takesWord I x1) 65 4))) else I)
noncomputable def m_X11_must (I : Nat → Nat → Int32) (x1 : Nat) : Nat → Nat → Int32 := opv (u0_X11_must I x1)
noncomputable def ok_X11_must (I : Nat → Nat → Int32) (x1 : Nat) : Prop := opv (if (I 65 13) = 0 then ok_X11_takesWord I x1 else True)
set_option maxHeartbeats 800000 in
set_option maxRecDepth 4000 in
theorem c_X11_must {k : KT} {ex : Bool} {J : Nat → Nat → Int64} {w : Bool} (I : Nat → Nat → Int32) (x1 : Nat) (hx1 : x1 < nStr)  (hok : ok_X11_must I x1) : Cx k mX11_must 7 [.ref (ka k 65), .ref (adK k x1)] (81, ex, I, J, Pw w) none (81, ex, m_X11_must I x1, J, Pw w) := by
  refine Ct.of rfl [some (.ref (ka k 65)), some (.ref (adK k x1))] rfl rfl (Nat.le_of_ble_eq_true rfl) ?_
  rw [ok_X11_must, opv_eq] at hok
  refine g_aload_n0 rfl d_X11_must_0 ?_
  refine g_getI f_X11_98 d_X11_must_1 rfl (Nat.le_of_ble_eq_true rfl) rfl ?_
  refine g_cut (pc' := 24) (vs' := [some (.ref (ka k 65)), some (.ref (adK k x1))]) (st' := []) (M' := (81, ex, (u0_X11_must I x1), J, Pw w)) (fun hj => ?_) ?_
  · skip
    refine g_if_ne 24 d_X11_must_4 (by decide) (fun h1 => ?_) (fun h1 => ?_)
    · skip
      (try simp only [if_neg h1, opv_eq, if_true, if_false, Bool.false_eq_true, reduceCtorEq, b2i_t, b2i_f, u0_X11_must] at hj); exact hj
    · skip
      rw [if_pos h1] at hok
      refine g_aload_n0 rfl d_X11_must_7 ?_
      refine g_aload_n1 rfl d_X11_must_8 ?_
      have ho1 := hok
      refine g_callV1 (c_X11_takesWord I x1 hx1 ho1) w_X11_takesWord l_X11_122 d_X11_must_9 rfl (Nat.le_of_ble_eq_true rfl) rfl rfl (Nat.le_of_ble_eq_true rfl) ⟨Nat.le_of_ble_eq_true rfl, Nat.le_of_ble_eq_true rfl⟩ ⟨Nat.zero_le _, Nat.zero_le _⟩ ⟨rfl, rfl⟩ ?_
      refine g_ifnz 24 d_X11_must_12 (by decide) (fun h2 => ?_) (fun h2 => ?_)
      · skip
        (try simp only [if_pos h1, if_pos h2, opv_eq, if_true, if_false, Bool.false_eq_true, reduceCtorEq, b2i_t, b2i_f, u0_X11_must] at hj); exact hj
      · skip
        refine g_aload_n0 rfl d_X11_must_15 ?_
        refine g_iconst 1 d_X11_must_16 (by decide) ?_
        refine g_aload_n0 rfl d_X11_must_17 ?_
        refine g_getI f_X11_79 d_X11_must_18 rfl (Nat.le_of_ble_eq_true rfl) rfl ?_
        refine g_callV0 (c_X11_wrong (m_X11_takesWord I x1) 1 ((m_X11_takesWord I x1) 65 4)) w_X11_wrong l_X11_125 d_X11_must_21 rfl (Nat.le_of_ble_eq_true rfl) rfl rfl (Nat.le_of_ble_eq_true rfl) ⟨Nat.le_of_ble_eq_true rfl, Nat.le_of_ble_eq_true rfl⟩ ⟨Nat.zero_le _, Nat.zero_le _⟩ ⟨rfl, rfl⟩ ?_
        (try simp only [if_pos h1, if_neg (nb h2), opv_eq, if_true, if_false, Bool.false_eq_true, reduceCtorEq, b2i_t, b2i_f, u0_X11_must] at hj); exact hj
  · skip
    exact g_vret rfl d_X11_must_24 ⟨rfl, by simp only [m_X11_must, opv_eq, if_true, if_false, Bool.false_eq_true, reduceCtorEq, b2i_t, b2i_f]⟩ (Nat.le_refl _) (Nat.le_refl _)
noncomputable def u0_X11_mustName (I : Nat → Nat → Int32) : Nat → Nat → Int32 := opv (if (I 65 6) = 2 then (if (f_X11_isWord I 0) = true then (m_X11_wrong I 1 (I 65 4)) else (if (f_X11_isWord I 1) = true then (m_X11_wrong I 1 (I 65 4)) else (if (f_X11_isWord I 2) = true then (m_X11_wrong I 1 (I 65 4)) else (if (f_X11_isWord I 3) = true then (m_X11_wrong I 1 (I 65 4)) else (if (f_X11_isWord I 4) = true then (m_X11_wrong I 1 (I 65 4)) else (if (f_X11_isWord I 5) = true then (m_X11_wrong I 1 (I 65 4)) else (if (f_X11_isWord I 6) = true then (m_X11_wrong I 1 (I 65 4)) else I))))))) else (m_X11_wrong I 1 (I 65 4)))
noncomputable def m_X11_mustName (I : Nat → Nat → Int32)  : Nat → Nat → Int32 := opv (u0_X11_mustName I)
noncomputable def ok_X11_mustName (I : Nat → Nat → Int32)  : Prop := opv (if (I 65 6) = 2 then (ok_X11_isWord I 0 ∧ (if (f_X11_isWord I 0) = true then True else (ok_X11_isWord I 1 ∧ (if (f_X11_isWord I 1) = true then True else (ok_X11_isWord I 2 ∧ (if (f_X11_isWord I 2) = true then True else (ok_X11_isWord I 3 ∧ (if (f_X11_isWord I 3) = true then True else (ok_X11_isWord I 4 ∧ (if (f_X11_isWord I 4) = true then True else (ok_X11_isWord I 5 ∧ (if (f_X11_isWord I 5) = true then True else ok_X11_isWord I 6)))))))))))) else True)
set_option maxHeartbeats 800000 in
set_option maxRecDepth 4000 in
theorem c_X11_mustName {k : KT} {ex : Bool} {J : Nat → Nat → Int64} {w : Bool} (I : Nat → Nat → Int32)   (hok : ok_X11_mustName I) : Cx k mX11_mustName 6 [.ref (ka k 65)] (81, ex, I, J, Pw w) none (81, ex, m_X11_mustName I, J, Pw w) := by
  refine Ct.of rfl [some (.ref (ka k 65))] rfl rfl (Nat.le_of_ble_eq_true rfl) ?_
  rw [ok_X11_mustName, opv_eq] at hok
  refine g_aload_n0 rfl d_X11_mustName_0 ?_
  refine g_getI f_X11_88 d_X11_mustName_1 rfl (Nat.le_of_ble_eq_true rfl) rfl ?_
  refine g_iconst 2 d_X11_mustName_4 (by decide) ?_
  refine g_cut (pc' := 80) (vs' := [some (.ref (ka k 65))]) (st' := []) (M' := (81, ex, (u0_X11_mustName I), J, Pw w)) (fun hj => ?_) ?_
  · skip
    refine g_icmp_ne 71 d_X11_mustName_5 (by decide) (fun h1 => ?_) (fun h1 => ?_)
    · skip
      refine g_aload_n0 rfl d_X11_mustName_71 ?_
      refine g_iconst 1 d_X11_mustName_72 (by decide) ?_
      refine g_aload_n0 rfl d_X11_mustName_73 ?_
      refine g_getI f_X11_79 d_X11_mustName_74 rfl (Nat.le_of_ble_eq_true rfl) rfl ?_
      refine g_callV0 (c_X11_wrong I 1 (I 65 4)) w_X11_wrong l_X11_125 d_X11_mustName_77 rfl (Nat.le_of_ble_eq_true rfl) rfl rfl (Nat.le_of_ble_eq_true rfl) ⟨Nat.le_of_ble_eq_true rfl, Nat.le_of_ble_eq_true rfl⟩ ⟨Nat.zero_le _, Nat.zero_le _⟩ ⟨rfl, rfl⟩ ?_
      (try simp only [if_neg h1, opv_eq, if_true, if_false, Bool.false_eq_true, reduceCtorEq, b2i_t, b2i_f, u0_X11_mustName] at hj); exact hj
    · skip
      rw [if_pos h1] at hok
      refine g_aload_n0 rfl d_X11_mustName_8 ?_
      refine g_ldcS (n := 0) (tx := "chalet") (by decide) d_X11_mustName_9 ?_
      obtain ⟨ho1, hok⟩ := hok
      refine g_callV1 (c_X11_isWord I 0 (by decide) ho1) w_X11_isWord l_X11_115 d_X11_mustName_11 rfl (Nat.le_of_ble_eq_true rfl) rfl rfl (Nat.le_of_ble_eq_true rfl) ⟨Nat.le_of_ble_eq_true rfl, Nat.le_of_ble_eq_true rfl⟩ ⟨Nat.zero_le _, Nat.zero_le _⟩ ⟨rfl, rfl⟩ ?_
      refine g_ifnz 71 d_X11_mustName_14 (by decide) (fun h2 => ?_) (fun h2 => ?_)
      · skip
        refine g_aload_n0 rfl d_X11_mustName_71 ?_
        refine g_iconst 1 d_X11_mustName_72 (by decide) ?_
        refine g_aload_n0 rfl d_X11_mustName_73 ?_
        refine g_getI f_X11_79 d_X11_mustName_74 rfl (Nat.le_of_ble_eq_true rfl) rfl ?_
        refine g_callV0 (c_X11_wrong I 1 (I 65 4)) w_X11_wrong l_X11_125 d_X11_mustName_77 rfl (Nat.le_of_ble_eq_true rfl) rfl rfl (Nat.le_of_ble_eq_true rfl) ⟨Nat.le_of_ble_eq_true rfl, Nat.le_of_ble_eq_true rfl⟩ ⟨Nat.zero_le _, Nat.zero_le _⟩ ⟨rfl, rfl⟩ ?_
        (try simp only [if_pos h1, if_pos h2, opv_eq, if_true, if_false, Bool.false_eq_true, reduceCtorEq, b2i_t, b2i_f, u0_X11_mustName] at hj); exact hj
      · skip
        rw [if_neg (nb h2)] at hok
        refine g_aload_n0 rfl d_X11_mustName_17 ?_
        refine g_ldcS (n := 1) (tx := "weather") (by decide) d_X11_mustName_18 ?_
        obtain ⟨ho2, hok⟩ := hok
        refine g_callV1 (c_X11_isWord I 1 (by decide) ho2) w_X11_isWord l_X11_115 d_X11_mustName_20 rfl (Nat.le_of_ble_eq_true rfl) rfl rfl (Nat.le_of_ble_eq_true rfl) ⟨Nat.le_of_ble_eq_true rfl, Nat.le_of_ble_eq_true rfl⟩ ⟨Nat.zero_le _, Nat.zero_le _⟩ ⟨rfl, rfl⟩ ?_
        refine g_ifnz 71 d_X11_mustName_23 (by decide) (fun h3 => ?_) (fun h3 => ?_)
        · skip
          refine g_aload_n0 rfl d_X11_mustName_71 ?_
          refine g_iconst 1 d_X11_mustName_72 (by decide) ?_
          refine g_aload_n0 rfl d_X11_mustName_73 ?_
          refine g_getI f_X11_79 d_X11_mustName_74 rfl (Nat.le_of_ble_eq_true rfl) rfl ?_
          refine g_callV0 (c_X11_wrong I 1 (I 65 4)) w_X11_wrong l_X11_125 d_X11_mustName_77 rfl (Nat.le_of_ble_eq_true rfl) rfl rfl (Nat.le_of_ble_eq_true rfl) ⟨Nat.le_of_ble_eq_true rfl, Nat.le_of_ble_eq_true rfl⟩ ⟨Nat.zero_le _, Nat.zero_le _⟩ ⟨rfl, rfl⟩ ?_
          (try simp only [if_pos h1, if_neg (nb h2), if_pos h3, opv_eq, if_true, if_false, Bool.false_eq_true, reduceCtorEq, b2i_t, b2i_f, u0_X11_mustName] at hj); exact hj
        · skip
          rw [if_neg (nb h3)] at hok
          refine g_aload_n0 rfl d_X11_mustName_26 ?_
          refine g_ldcS (n := 2) (tx := "vent") (by decide) d_X11_mustName_27 ?_
          obtain ⟨ho3, hok⟩ := hok
          refine g_callV1 (c_X11_isWord I 2 (by decide) ho3) w_X11_isWord l_X11_115 d_X11_mustName_29 rfl (Nat.le_of_ble_eq_true rfl) rfl rfl (Nat.le_of_ble_eq_true rfl) ⟨Nat.le_of_ble_eq_true rfl, Nat.le_of_ble_eq_true rfl⟩ ⟨Nat.zero_le _, Nat.zero_le _⟩ ⟨rfl, rfl⟩ ?_
          refine g_ifnz 71 d_X11_mustName_32 (by decide) (fun h4 => ?_) (fun h4 => ?_)
          · skip
            refine g_aload_n0 rfl d_X11_mustName_71 ?_
            refine g_iconst 1 d_X11_mustName_72 (by decide) ?_
            refine g_aload_n0 rfl d_X11_mustName_73 ?_
            refine g_getI f_X11_79 d_X11_mustName_74 rfl (Nat.le_of_ble_eq_true rfl) rfl ?_
            refine g_callV0 (c_X11_wrong I 1 (I 65 4)) w_X11_wrong l_X11_125 d_X11_mustName_77 rfl (Nat.le_of_ble_eq_true rfl) rfl rfl (Nat.le_of_ble_eq_true rfl) ⟨Nat.le_of_ble_eq_true rfl, Nat.le_of_ble_eq_true rfl⟩ ⟨Nat.zero_le _, Nat.zero_le _⟩ ⟨rfl, rfl⟩ ?_
            (try simp only [if_pos h1, if_neg (nb h2), if_neg (nb h3), if_pos h4, opv_eq, if_true, if_false, Bool.false_eq_true, reduceCtorEq, b2i_t, b2i_f, u0_X11_mustName] at hj); exact hj
          · skip
            rw [if_neg (nb h4)] at hok
            refine g_aload_n0 rfl d_X11_mustName_35 ?_
            refine g_ldcS (n := 3) (tx := "plan") (by decide) d_X11_mustName_36 ?_
            obtain ⟨ho4, hok⟩ := hok
            refine g_callV1 (c_X11_isWord I 3 (by decide) ho4) w_X11_isWord l_X11_115 d_X11_mustName_38 rfl (Nat.le_of_ble_eq_true rfl) rfl rfl (Nat.le_of_ble_eq_true rfl) ⟨Nat.le_of_ble_eq_true rfl, Nat.le_of_ble_eq_true rfl⟩ ⟨Nat.zero_le _, Nat.zero_le _⟩ ⟨rfl, rfl⟩ ?_
            refine g_ifnz 71 d_X11_mustName_41 (by decide) (fun h5 => ?_) (fun h5 => ?_)
            · skip
              refine g_aload_n0 rfl d_X11_mustName_71 ?_
              refine g_iconst 1 d_X11_mustName_72 (by decide) ?_
              refine g_aload_n0 rfl d_X11_mustName_73 ?_
              refine g_getI f_X11_79 d_X11_mustName_74 rfl (Nat.le_of_ble_eq_true rfl) rfl ?_
              refine g_callV0 (c_X11_wrong I 1 (I 65 4)) w_X11_wrong l_X11_125 d_X11_mustName_77 rfl (Nat.le_of_ble_eq_true rfl) rfl rfl (Nat.le_of_ble_eq_true rfl) ⟨Nat.le_of_ble_eq_true rfl, Nat.le_of_ble_eq_true rfl⟩ ⟨Nat.zero_le _, Nat.zero_le _⟩ ⟨rfl, rfl⟩ ?_
              (try simp only [if_pos h1, if_neg (nb h2), if_neg (nb h3), if_neg (nb h4), if_pos h5, opv_eq, if_true, if_false, Bool.false_eq_true, reduceCtorEq, b2i_t, b2i_f, u0_X11_mustName] at hj); exact hj
            · skip
              rw [if_neg (nb h5)] at hok
              refine g_aload_n0 rfl d_X11_mustName_44 ?_
              refine g_ldcS (n := 4) (tx := "saw") (by decide) d_X11_mustName_45 ?_
              obtain ⟨ho5, hok⟩ := hok
              refine g_callV1 (c_X11_isWord I 4 (by decide) ho5) w_X11_isWord l_X11_115 d_X11_mustName_47 rfl (Nat.le_of_ble_eq_true rfl) rfl rfl (Nat.le_of_ble_eq_true rfl) ⟨Nat.le_of_ble_eq_true rfl, Nat.le_of_ble_eq_true rfl⟩ ⟨Nat.zero_le _, Nat.zero_le _⟩ ⟨rfl, rfl⟩ ?_
              refine g_ifnz 71 d_X11_mustName_50 (by decide) (fun h6 => ?_) (fun h6 => ?_)
              · skip
                refine g_aload_n0 rfl d_X11_mustName_71 ?_
                refine g_iconst 1 d_X11_mustName_72 (by decide) ?_
                refine g_aload_n0 rfl d_X11_mustName_73 ?_
                refine g_getI f_X11_79 d_X11_mustName_74 rfl (Nat.le_of_ble_eq_true rfl) rfl ?_
                refine g_callV0 (c_X11_wrong I 1 (I 65 4)) w_X11_wrong l_X11_125 d_X11_mustName_77 rfl (Nat.le_of_ble_eq_true rfl) rfl rfl (Nat.le_of_ble_eq_true rfl) ⟨Nat.le_of_ble_eq_true rfl, Nat.le_of_ble_eq_true rfl⟩ ⟨Nat.zero_le _, Nat.zero_le _⟩ ⟨rfl, rfl⟩ ?_
                (try simp only [if_pos h1, if_neg (nb h2), if_neg (nb h3), if_neg (nb h4), if_neg (nb h5), if_pos h6, opv_eq, if_true, if_false, Bool.false_eq_true, reduceCtorEq, b2i_t, b2i_f, u0_X11_mustName] at hj); exact hj
              · skip
                rw [if_neg (nb h6)] at hok
                refine g_aload_n0 rfl d_X11_mustName_53 ?_
                refine g_ldcS (n := 5) (tx := "field") (by decide) d_X11_mustName_54 ?_
                obtain ⟨ho6, hok⟩ := hok
                refine g_callV1 (c_X11_isWord I 5 (by decide) ho6) w_X11_isWord l_X11_115 d_X11_mustName_56 rfl (Nat.le_of_ble_eq_true rfl) rfl rfl (Nat.le_of_ble_eq_true rfl) ⟨Nat.le_of_ble_eq_true rfl, Nat.le_of_ble_eq_true rfl⟩ ⟨Nat.zero_le _, Nat.zero_le _⟩ ⟨rfl, rfl⟩ ?_
                refine g_ifnz 71 d_X11_mustName_59 (by decide) (fun h7 => ?_) (fun h7 => ?_)
                · skip
                  refine g_aload_n0 rfl d_X11_mustName_71 ?_
                  refine g_iconst 1 d_X11_mustName_72 (by decide) ?_
                  refine g_aload_n0 rfl d_X11_mustName_73 ?_
                  refine g_getI f_X11_79 d_X11_mustName_74 rfl (Nat.le_of_ble_eq_true rfl) rfl ?_
                  refine g_callV0 (c_X11_wrong I 1 (I 65 4)) w_X11_wrong l_X11_125 d_X11_mustName_77 rfl (Nat.le_of_ble_eq_true rfl) rfl rfl (Nat.le_of_ble_eq_true rfl) ⟨Nat.le_of_ble_eq_true rfl, Nat.le_of_ble_eq_true rfl⟩ ⟨Nat.zero_le _, Nat.zero_le _⟩ ⟨rfl, rfl⟩ ?_
                  (try simp only [if_pos h1, if_neg (nb h2), if_neg (nb h3), if_neg (nb h4), if_neg (nb h5), if_neg (nb h6), if_pos h7, opv_eq, if_true, if_false, Bool.false_eq_true, reduceCtorEq, b2i_t, b2i_f, u0_X11_mustName] at hj); exact hj
                · skip
                  rw [if_neg (nb h7)] at hok
                  refine g_aload_n0 rfl d_X11_mustName_62 ?_
                  refine g_ldcS (n := 6) (tx := "ditch") (by decide) d_X11_mustName_63 ?_
                  have ho7 := hok
                  refine g_callV1 (c_X11_isWord I 6 (by decide) ho7) w_X11_isWord l_X11_115 d_X11_mustName_65 rfl (Nat.le_of_ble_eq_true rfl) rfl rfl (Nat.le_of_ble_eq_true rfl) ⟨Nat.le_of_ble_eq_true rfl, Nat.le_of_ble_eq_true rfl⟩ ⟨Nat.zero_le _, Nat.zero_le _⟩ ⟨rfl, rfl⟩ ?_
                  refine g_ifz 80 d_X11_mustName_68 (by decide) (fun h8 => ?_) (fun h8 => ?_)
                  · skip
                    (try simp only [if_pos h1, if_neg (nb h2), if_neg (nb h3), if_neg (nb h4), if_neg (nb h5), if_neg (nb h6), if_neg (nb h7), if_neg (nb h8), opv_eq, if_true, if_false, Bool.false_eq_true, reduceCtorEq, b2i_t, b2i_f, u0_X11_mustName] at hj); exact hj
                  · skip
                    refine g_aload_n0 rfl d_X11_mustName_71 ?_
                    refine g_iconst 1 d_X11_mustName_72 (by decide) ?_
                    refine g_aload_n0 rfl d_X11_mustName_73 ?_
                    refine g_getI f_X11_79 d_X11_mustName_74 rfl (Nat.le_of_ble_eq_true rfl) rfl ?_
                    refine g_callV0 (c_X11_wrong I 1 (I 65 4)) w_X11_wrong l_X11_125 d_X11_mustName_77 rfl (Nat.le_of_ble_eq_true rfl) rfl rfl (Nat.le_of_ble_eq_true rfl) ⟨Nat.le_of_ble_eq_true rfl, Nat.le_of_ble_eq_true rfl⟩ ⟨Nat.zero_le _, Nat.zero_le _⟩ ⟨rfl, rfl⟩ ?_
                    (try simp only [if_pos h1, if_neg (nb h2), if_neg (nb h3), if_neg (nb h4), if_neg (nb h5), if_neg (nb h6), if_neg (nb h7), if_pos h8, opv_eq, if_true, if_false, Bool.false_eq_true, reduceCtorEq, b2i_t, b2i_f, u0_X11_mustName] at hj); exact hj
  · skip
    exact g_vret rfl d_X11_mustName_80 ⟨rfl, by simp only [m_X11_mustName, opv_eq, if_true, if_false, Bool.false_eq_true, reduceCtorEq, b2i_t, b2i_f]⟩ (Nat.le_refl _) (Nat.le_refl _)
noncomputable def u0_X11_find (I : Nat → Nat → Int32) (l1 : Int32) : Bool := opv (if (I 69 (80 + l1).toNatClampNeg) ≤ 0 then false else (if (I 69 (80 + l1).toNatClampNeg) = (I 65 8) then true else false))
noncomputable def u1_X11_find (I : Nat → Nat → Int32) (l1 : Int32) (l3 : Int32) : Bool := opv (if (I 69 ((96 + (8 * l1)) + l3).toNatClampNeg) = (I 67 l3.toNatClampNeg) then true else false)
noncomputable def lp_X11_find_44 (I : Nat → Nat → Int32) (l1 : Int32) : Nat → Bool → Int32 → Bool × Int32
  | 0, l2, l3 => (l2, l3)
  | n + 1, l2, l3 => (if (I 65 8) ≤ l3 then (l2, l3) else (if l2 = true then (lp_X11_find_44 I l1 n (u1_X11_find I l1 l3) (l3 + 1)) else (l2, l3)))
def oklp_X11_find_44 (I : Nat → Nat → Int32) (l1 : Int32) : Nat → Bool → Int32 → Prop
  | 0, l2, l3 => True
  | n + 1, l2, l3 => (if (I 65 8) ≤ l3 then True else (if l2 = true then (vp_in ((96 + (8 * l1)) + l3) (sz 69) ∧ (vp_in l3 (sz 67) ∧ oklp_X11_find_44 I l1 n (u1_X11_find I l1 l3) (l3 + 1))) else True))
set_option maxHeartbeats 800000 in
set_option maxRecDepth 4000 in
theorem k_lp_X11_find_44 {k : KT} {ex : Bool} {J : Nat → Nat → Int64} {w : Bool} (I : Nat → Nat → Int32) (l1 : Int32) {F : FinT} : ∀ (n : Nat) (l2 : Bool) (l3 : Int32), mu_up (I 65 8) l3 < n → oklp_X11_find_44 I l1 n l2 l3 → G k mX11_find (roomOf 1 0 0) F 0 0 91 [some (.ref (ka k 65)), some (.int l1), some (.int (b2i ((lp_X11_find_44 I l1 n l2 l3).1))), some (.int ((lp_X11_find_44 I l1 n l2 l3).2))] [] (81, ex, I, J, Pw w) → G k mX11_find (roomOf 1 0 0) F 0 0 44 [some (.ref (ka k 65)), some (.int l1), some (.int (b2i l2)), some (.int l3)] [] (81, ex, I, J, Pw w) := by
  intro n
  induction n with
  | zero => intro l2 l3 hmu hok hj; exact absurd hmu (Nat.not_lt_zero _)
  | succ n ih =>
    intro l2 l3 hmu hok hj
    rw [oklp_X11_find_44] at hok
    refine g_iload_n3 rfl d_X11_find_44 ?_
    refine g_aload_n0 rfl d_X11_find_45 ?_
    refine g_getI f_X11_82 d_X11_find_46 rfl (Nat.le_of_ble_eq_true rfl) rfl ?_
    refine g_icmp_ge 91 d_X11_find_49 (by decide) (fun h1 => ?_) (fun h1 => ?_)
    · skip
      (try simp only [lp_X11_find_44, if_pos h1, opv_eq, if_true, if_false, Bool.false_eq_true, reduceCtorEq, b2i_t, b2i_f] at hj); exact hj
    · skip
      rw [if_neg h1] at hok
      refine g_iload_n2 rfl d_X11_find_52 ?_
      refine g_ifz 91 d_X11_find_53 (by decide) (fun h2 => ?_) (fun h2 => ?_)
      · skip
        (try simp only [lp_X11_find_44, if_neg h1, if_neg (nb h2), opv_eq, if_true, if_false, Bool.false_eq_true, reduceCtorEq, b2i_t, b2i_f] at hj); exact hj
      · skip
        rw [if_pos h2] at hok
        refine g_aload_n0 rfl d_X11_find_56 ?_
        refine g_getP (b := 69) f_X11_23 d_X11_find_57 rfl (Nat.le_of_ble_eq_true rfl) rfl rfl ?_
        refine g_bipush 96 d_X11_find_60 (by decide) ?_
        refine g_bipush 8 d_X11_find_62 (by decide) ?_
        refine g_iload_n1 rfl d_X11_find_64 ?_
        refine g_imul d_X11_find_65 ?_
        refine g_iadd d_X11_find_66 ?_
        refine g_iload_n3 rfl d_X11_find_67 ?_
        refine g_iadd d_X11_find_68 ?_
        obtain ⟨ho3, hok⟩ := hok
        refine g_iald d_X11_find_69 rfl (Nat.le_of_ble_eq_true rfl) ho3 ?_
        refine g_aload_n0 rfl d_X11_find_70 ?_
        refine g_getP (b := 67) f_X11_17 d_X11_find_71 rfl (Nat.le_of_ble_eq_true rfl) rfl rfl ?_
        refine g_iload_n3 rfl d_X11_find_74 ?_
        obtain ⟨ho4, hok⟩ := hok
        refine g_iald d_X11_find_75 rfl (Nat.le_of_ble_eq_true rfl) ho4 ?_
        refine g_cut (pc' := 84) (vs' := [some (.ref (ka k 65)), some (.int l1), some (.int (b2i l2)), some (.int l3)]) (st' := [.int (b2i (u1_X11_find I l1 l3))]) (M' := (81, ex, I, J, Pw w)) (fun hj => ?_) ?_
        · skip
          refine g_icmp_ne 83 d_X11_find_76 (by decide) (fun h3 => ?_) (fun h3 => ?_)
          · skip
            refine g_iconst 0 d_X11_find_83 (by decide) ?_
            (try simp only [if_neg h3, opv_eq, if_true, if_false, Bool.false_eq_true, reduceCtorEq, b2i_t, b2i_f, u1_X11_find] at hj); exact hj
          · skip
            refine g_iconst 1 d_X11_find_79 (by decide) ?_
            refine g_goto 84 d_X11_find_80 (by decide) ?_
            (try simp only [if_pos h3, opv_eq, if_true, if_false, Bool.false_eq_true, reduceCtorEq, b2i_t, b2i_f, u1_X11_find] at hj); exact hj
        · skip
          refine g_isn2 rfl d_X11_find_84 ?_
          refine g_ic3 (l3 + 1) rfl rfl d_X11_find_85 ?_
          refine g_goto 44 d_X11_find_88 (by decide) ?_
          exact ih (u1_X11_find I l1 l3) (l3 + 1) (Nat.lt_of_lt_of_le (mu_up_lt h1) (Nat.le_of_lt_succ hmu)) (by (try simp only [if_neg h1, if_pos h2, opv_eq, if_true, if_false, Bool.false_eq_true, reduceCtorEq, b2i_t, b2i_f] at hok); exact hok) (by (try simp only [lp_X11_find_44, if_neg h1, if_pos h2, opv_eq, if_true, if_false, Bool.false_eq_true, reduceCtorEq, b2i_t, b2i_f] at hj); exact hj)
noncomputable def lp_X11_find_2 (I : Nat → Nat → Int32) : Nat → Int32 → Int32
  | 0, l1 => 0
  | n + 1, l1 => (if 16 ≤ l1 then (-1) else (if ((lp_X11_find_44 I l1 (mu_up (I 65 8) 0 + 1) (u0_X11_find I l1) 0).1) = true then l1 else (lp_X11_find_2 I n (l1 + 1))))
def oklp_X11_find_2 (I : Nat → Nat → Int32) : Nat → Int32 → Prop
  | 0, l1 => False
  | n + 1, l1 => (if 16 ≤ l1 then True else (vp_in (80 + l1) (sz 69) ∧ ((if (I 69 (80 + l1).toNatClampNeg) ≤ 0 then True else vp_in (80 + l1) (sz 69)) ∧ (oklp_X11_find_44 I l1 (mu_up (I 65 8) 0 + 1) (u0_X11_find I l1) 0 ∧ (if ((lp_X11_find_44 I l1 (mu_up (I 65 8) 0 + 1) (u0_X11_find I l1) 0).1) = true then True else oklp_X11_find_2 I n (l1 + 1))))))
set_option maxHeartbeats 800000 in
set_option maxRecDepth 4000 in
theorem k_lp_X11_find_2 {k : KT} {ex : Bool} {J : Nat → Nat → Int64} {w : Bool} (I : Nat → Nat → Int32) {Q : Option Value → MM → Prop} : ∀ (n : Nat) (l1 : Int32), oklp_X11_find_2 I n l1 → Q (some (.int (lp_X11_find_2 I n l1))) (81, ex, I, J, Pw w) → G k mX11_find (roomOf 1 0 0) (FinM k Q 0 0) 0 0 2 [some (.ref (ka k 65)), some (.int l1), none, none] [] (81, ex, I, J, Pw w) := by
  intro n
  induction n with
  | zero => intro l1 hok hq; exact absurd hok (by rw [oklp_X11_find_2]; exact id)
  | succ n ih =>
    intro l1 hok hq
    rw [oklp_X11_find_2] at hok
    refine g_iload_n1 rfl d_X11_find_2 ?_
    refine g_bipush 16 d_X11_find_3 (by decide) ?_
    refine g_icmp_ge 103 d_X11_find_5 (by decide) (fun h4 => ?_) (fun h4 => ?_)
    · skip
      refine g_iconst (-1) d_X11_find_103 (by decide) ?_
      exact g_iret rfl d_X11_find_104 (by (try simp only [lp_X11_find_2, if_pos h4, opv_eq, if_true, if_false, Bool.false_eq_true, reduceCtorEq, b2i_t, b2i_f] at hq); exact hq) (Nat.le_refl _) (Nat.le_refl _)
    · skip
      rw [if_neg h4] at hok
      refine g_aload_n0 rfl d_X11_find_8 ?_
      refine g_getP (b := 69) f_X11_23 d_X11_find_9 rfl (Nat.le_of_ble_eq_true rfl) rfl rfl ?_
      refine g_bipush 80 d_X11_find_12 (by decide) ?_
      refine g_iload_n1 rfl d_X11_find_14 ?_
      refine g_iadd d_X11_find_15 ?_
      obtain ⟨ho1, hok⟩ := hok
      refine g_iald d_X11_find_16 rfl (Nat.le_of_ble_eq_true rfl) ho1 ?_
      obtain ⟨hoa, hob⟩ := hok
      refine g_cut (pc' := 41) (vs' := [some (.ref (ka k 65)), some (.int l1), none, none]) (st' := [.int (b2i (u0_X11_find I l1))]) (M' := (81, ex, I, J, Pw w)) (fun hj => ?_) ?_
      · skip
        refine g_if_le 40 d_X11_find_17 (by decide) (fun h5 => ?_) (fun h5 => ?_)
        · skip
          refine g_iconst 0 d_X11_find_40 (by decide) ?_
          (try simp only [if_pos h5, opv_eq, if_true, if_false, Bool.false_eq_true, reduceCtorEq, b2i_t, b2i_f, u0_X11_find] at hj); exact hj
        · skip
          rw [if_neg h5] at hoa
          refine g_aload_n0 rfl d_X11_find_20 ?_
          refine g_getP (b := 69) f_X11_23 d_X11_find_21 rfl (Nat.le_of_ble_eq_true rfl) rfl rfl ?_
          refine g_bipush 80 d_X11_find_24 (by decide) ?_
          refine g_iload_n1 rfl d_X11_find_26 ?_
          refine g_iadd d_X11_find_27 ?_
          have ho2 := hoa
          refine g_iald d_X11_find_28 rfl (Nat.le_of_ble_eq_true rfl) ho2 ?_
          refine g_aload_n0 rfl d_X11_find_29 ?_
          refine g_getI f_X11_82 d_X11_find_30 rfl (Nat.le_of_ble_eq_true rfl) rfl ?_
          refine g_icmp_ne 40 d_X11_find_33 (by decide) (fun h6 => ?_) (fun h6 => ?_)
          · skip
            refine g_iconst 0 d_X11_find_40 (by decide) ?_
            (try simp only [if_neg h5, if_neg h6, opv_eq, if_true, if_false, Bool.false_eq_true, reduceCtorEq, b2i_t, b2i_f, u0_X11_find] at hj); exact hj
          · skip
            refine g_iconst 1 d_X11_find_36 (by decide) ?_
            refine g_goto 41 d_X11_find_37 (by decide) ?_
            (try simp only [if_neg h5, if_pos h6, opv_eq, if_true, if_false, Bool.false_eq_true, reduceCtorEq, b2i_t, b2i_f, u0_X11_find] at hj); exact hj
      · skip
        refine g_isn2 rfl d_X11_find_41 ?_
        refine g_iconst 0 d_X11_find_42 (by decide) ?_
        refine g_isn3 rfl d_X11_find_43 ?_
        obtain ⟨hol, hok⟩ := hob
        refine k_lp_X11_find_44 I l1 _ (u0_X11_find I l1) 0 (Nat.lt_succ_self _) hol ?_
        refine g_iload_n2 rfl d_X11_find_91 ?_
        refine g_ifz 97 d_X11_find_92 (by decide) (fun h7 => ?_) (fun h7 => ?_)
        · skip
          rw [if_neg (nb h7)] at hok
          refine g_ic1 (l1 + 1) rfl rfl d_X11_find_97 ?_
          refine g_goto 2 d_X11_find_100 (by decide) ?_
          refine G.weak (wks (wks (wkn (wkn wk0)))) ?_; exact ih (l1 + 1) (by (try simp only [if_neg h4, if_neg (nb h7), opv_eq, if_true, if_false, Bool.false_eq_true, reduceCtorEq, b2i_t, b2i_f] at hok); exact hok) (by (try simp only [lp_X11_find_2, if_neg h4, if_neg (nb h7), opv_eq, if_true, if_false, Bool.false_eq_true, reduceCtorEq, b2i_t, b2i_f] at hq); exact hq)
        · skip
          refine g_iload_n1 rfl d_X11_find_95 ?_
          exact g_iret rfl d_X11_find_96 (by (try simp only [lp_X11_find_2, if_neg h4, if_pos h7, opv_eq, if_true, if_false, Bool.false_eq_true, reduceCtorEq, b2i_t, b2i_f] at hq); exact hq) (Nat.le_refl _) (Nat.le_refl _)
noncomputable def f_X11_find (I : Nat → Nat → Int32)  : Int32 := opv (lp_X11_find_2 I (opq 100) 0)
noncomputable def ok_X11_find (I : Nat → Nat → Int32)  : Prop := opv (oklp_X11_find_2 I (opq 100) 0)
set_option maxHeartbeats 800000 in
set_option maxRecDepth 4000 in
theorem c_X11_find {k : KT} {ex : Bool} {J : Nat → Nat → Int64} {w : Bool} (I : Nat → Nat → Int32)   (hok : ok_X11_find I) : Cx k mX11_find 1 [.ref (ka k 65)] (81, ex, I, J, Pw w) (some (.int (f_X11_find I))) (81, ex, I, J, Pw w) := by
  refine Ct.of rfl [some (.ref (ka k 65)), none, none, none] rfl rfl (Nat.le_of_ble_eq_true rfl) ?_
  rw [ok_X11_find, opv_eq] at hok
  refine g_iconst 0 d_X11_find_0 (by decide) ?_
  refine g_isn1 rfl d_X11_find_1 ?_
  exact k_lp_X11_find_2 I _ 0 hok ⟨by simp only [f_X11_find, opv_eq, if_true, if_false, Bool.false_eq_true, reduceCtorEq, b2i_t, b2i_f], rfl⟩
noncomputable def u0_X11_newName (I : Nat → Nat → Int32) : Nat → Nat → Int32 := opv (if ((m_X11_mustName I) 65 13) = 0 then (if (f_X11_find (m_X11_mustName I)) < 0 then (m_X11_mustName I) else (m_X11_wrong (m_X11_mustName I) 3 ((m_X11_mustName I) 65 4))) else (m_X11_mustName I))
noncomputable def lp_X11_newName_45 (x1 : Int32) : Nat → Int32 → (Nat → Nat → Int32) → Int32 × (Nat → Nat → Int32)
  | 0, l2, I1 => (l2, I1)
  | n + 1, l2, I1 => (if (I1 65 8) ≤ l2 then (l2, I1) else (lp_X11_newName_45 x1 n (l2 + 1) (va_up I1 69 (upd (I1 69) ((96 + (8 * x1)) + l2).toNatClampNeg (I1 67 l2.toNatClampNeg)))))
def oklp_X11_newName_45 (x1 : Int32) : Nat → Int32 → (Nat → Nat → Int32) → Prop
  | 0, l2, I1 => True
  | n + 1, l2, I1 => (if (I1 65 8) ≤ l2 then True else (vp_in l2 (sz 67) ∧ (vp_in ((96 + (8 * x1)) + l2) (sz 69) ∧ oklp_X11_newName_45 x1 n (l2 + 1) (va_up I1 69 (upd (I1 69) ((96 + (8 * x1)) + l2).toNatClampNeg (I1 67 l2.toNatClampNeg))))))
set_option maxHeartbeats 800000 in
set_option maxRecDepth 4000 in
theorem k_lp_X11_newName_45 {k : KT} {ex : Bool} {J : Nat → Nat → Int64} {w : Bool} (x1 : Int32) {F : FinT} : ∀ (n : Nat) (l2 : Int32) (I1 : (Nat → Nat → Int32)), mu_up (I1 65 8) l2 < n → oklp_X11_newName_45 x1 n l2 I1 → G k mX11_newName (roomOf 7 0 0) F 0 0 79 [some (.ref (ka k 65)), some (.int x1), some (.int ((lp_X11_newName_45 x1 n l2 I1).1))] [] (81, ex, (lp_X11_newName_45 x1 n l2 I1).2, J, Pw w) → G k mX11_newName (roomOf 7 0 0) F 0 0 45 [some (.ref (ka k 65)), some (.int x1), some (.int l2)] [] (81, ex, I1, J, Pw w) := by
  intro n
  induction n with
  | zero => intro l2 I1 hmu hok hj; exact absurd hmu (Nat.not_lt_zero _)
  | succ n ih =>
    intro l2 I1 hmu hok hj
    rw [oklp_X11_newName_45] at hok
    refine g_iload_n2 rfl d_X11_newName_45 ?_
    refine g_aload_n0 rfl d_X11_newName_46 ?_
    refine g_getI f_X11_82 d_X11_newName_47 rfl (Nat.le_of_ble_eq_true rfl) rfl ?_
    refine g_icmp_ge 79 d_X11_newName_50 (by decide) (fun h1 => ?_) (fun h1 => ?_)
    · skip
      (try simp only [lp_X11_newName_45, if_pos h1, opv_eq, if_true, if_false, Bool.false_eq_true, reduceCtorEq, b2i_t, b2i_f] at hj); exact hj
    · skip
      rw [if_neg h1] at hok
      refine g_aload_n0 rfl d_X11_newName_53 ?_
      refine g_getP (b := 69) f_X11_23 d_X11_newName_54 rfl (Nat.le_of_ble_eq_true rfl) rfl rfl ?_
      refine g_bipush 96 d_X11_newName_57 (by decide) ?_
      refine g_bipush 8 d_X11_newName_59 (by decide) ?_
      refine g_iload_n1 rfl d_X11_newName_61 ?_
      refine g_imul d_X11_newName_62 ?_
      refine g_iadd d_X11_newName_63 ?_
      refine g_iload_n2 rfl d_X11_newName_64 ?_
      refine g_iadd d_X11_newName_65 ?_
      refine g_aload_n0 rfl d_X11_newName_66 ?_
      refine g_getP (b := 67) f_X11_17 d_X11_newName_67 rfl (Nat.le_of_ble_eq_true rfl) rfl rfl ?_
      refine g_iload_n2 rfl d_X11_newName_70 ?_
      obtain ⟨ho3, hok⟩ := hok
      refine g_iald d_X11_newName_71 rfl (Nat.le_of_ble_eq_true rfl) ho3 ?_
      obtain ⟨ho4, hok⟩ := hok
      refine g_iast d_X11_newName_72 rfl (Nat.le_of_ble_eq_true rfl) ho4 ?_
      refine g_ic2 (l2 + 1) rfl rfl d_X11_newName_73 ?_
      refine g_goto 45 d_X11_newName_76 (by decide) ?_
      exact ih (l2 + 1) (va_up I1 69 (upd (I1 69) ((96 + (8 * x1)) + l2).toNatClampNeg (I1 67 l2.toNatClampNeg))) (Nat.lt_of_lt_of_le (by simpa [st2, va_up] using mu_up_lt h1) (Nat.le_of_lt_succ hmu)) (by (try simp only [if_neg h1, opv_eq, if_true, if_false, Bool.false_eq_true, reduceCtorEq, b2i_t, b2i_f] at hok); exact hok) (by (try simp only [lp_X11_newName_45, if_neg h1, opv_eq, if_true, if_false, Bool.false_eq_true, reduceCtorEq, b2i_t, b2i_f] at hj); exact hj)
noncomputable def u1_X11_newName (I : Nat → Nat → Int32) (x1 : Int32) : Nat → Nat → Int32 := opv (m_X11_next (va_up ((lp_X11_newName_45 x1 (mu_up ((u0_X11_newName I) 65 8) 0 + 1) 0 (u0_X11_newName I)).2) 69 (upd (((lp_X11_newName_45 x1 (mu_up ((u0_X11_newName I) 65 8) 0 + 1) 0 (u0_X11_newName I)).2) 69) (80 + x1).toNatClampNeg (((lp_X11_newName_45 x1 (mu_up ((u0_X11_newName I) 65 8) 0 + 1) 0 (u0_X11_newName I)).2) 65 8))))
noncomputable def m_X11_newName (I : Nat → Nat → Int32) (x1 : Int32) : Nat → Nat → Int32 := opv (if (I 65 13) = 0 then (if ((u0_X11_newName I) 65 13) = 0 then (u1_X11_newName I x1) else (u0_X11_newName I)) else I)
noncomputable def ok_X11_newName (I : Nat → Nat → Int32) (x1 : Int32) : Prop := opv (if (I 65 13) = 0 then (ok_X11_mustName I ∧ ((if ((m_X11_mustName I) 65 13) = 0 then ok_X11_find (m_X11_mustName I) else True) ∧ (if ((u0_X11_newName I) 65 13) = 0 then (oklp_X11_newName_45 x1 (mu_up ((u0_X11_newName I) 65 8) 0 + 1) 0 (u0_X11_newName I) ∧ (vp_in (80 + x1) (sz 69) ∧ ok_X11_next (va_up ((lp_X11_newName_45 x1 (mu_up ((u0_X11_newName I) 65 8) 0 + 1) 0 (u0_X11_newName I)).2) 69 (upd (((lp_X11_newName_45 x1 (mu_up ((u0_X11_newName I) 65 8) 0 + 1) 0 (u0_X11_newName I)).2) 69) (80 + x1).toNatClampNeg (((lp_X11_newName_45 x1 (mu_up ((u0_X11_newName I) 65 8) 0 + 1) 0 (u0_X11_newName I)).2) 65 8))))) else True))) else True)
set_option maxHeartbeats 800000 in
set_option maxRecDepth 4000 in
theorem c_X11_newName {k : KT} {ex : Bool} {J : Nat → Nat → Int64} {w : Bool} (I : Nat → Nat → Int32) (x1 : Int32)  (hok : ok_X11_newName I x1) : Cx k mX11_newName 7 [.ref (ka k 65), .int x1] (81, ex, I, J, Pw w) none (81, ex, m_X11_newName I x1, J, Pw w) := by
  refine Ct.of rfl [some (.ref (ka k 65)), some (.int x1), none] rfl rfl (Nat.le_of_ble_eq_true rfl) ?_
  rw [ok_X11_newName, opv_eq] at hok
  refine g_aload_n0 rfl d_X11_newName_0 ?_
  refine g_getI f_X11_98 d_X11_newName_1 rfl (Nat.le_of_ble_eq_true rfl) rfl ?_
  refine g_if_eq 8 d_X11_newName_4 (by decide) (fun h2 => ?_) (fun h2 => ?_)
  · skip
    rw [if_pos h2] at hok
    refine g_aload_n0 rfl d_X11_newName_8 ?_
    obtain ⟨ho1, hok⟩ := hok
    refine g_callV0 (c_X11_mustName I  ho1) w_X11_mustName l_X11_143 d_X11_newName_9 rfl (Nat.le_of_ble_eq_true rfl) rfl rfl (Nat.le_of_ble_eq_true rfl) ⟨Nat.le_of_ble_eq_true rfl, Nat.le_of_ble_eq_true rfl⟩ ⟨Nat.zero_le _, Nat.zero_le _⟩ ⟨rfl, rfl⟩ ?_
    refine g_aload_n0 rfl d_X11_newName_12 ?_
    refine g_getI f_X11_98 d_X11_newName_13 rfl (Nat.le_of_ble_eq_true rfl) rfl ?_
    obtain ⟨hoa, hob⟩ := hok
    refine g_cut (pc' := 35) (vs' := [some (.ref (ka k 65)), some (.int x1), none]) (st' := []) (M' := (81, ex, (u0_X11_newName I), J, Pw w)) (fun hj => ?_) ?_
    · skip
      refine g_if_ne 35 d_X11_newName_16 (by decide) (fun h3 => ?_) (fun h3 => ?_)
      · skip
        (try simp only [if_neg h3, opv_eq, if_true, if_false, Bool.false_eq_true, reduceCtorEq, b2i_t, b2i_f, u0_X11_newName] at hj); exact hj
      · skip
        rw [if_pos h3] at hoa
        refine g_aload_n0 rfl d_X11_newName_19 ?_
        have ho2 := hoa
        refine g_callV1 (c_X11_find (m_X11_mustName I)  ho2) w_X11_find l_X11_146 d_X11_newName_20 rfl (Nat.le_of_ble_eq_true rfl) rfl rfl (Nat.le_of_ble_eq_true rfl) ⟨Nat.le_of_ble_eq_true rfl, Nat.le_of_ble_eq_true rfl⟩ ⟨Nat.zero_le _, Nat.zero_le _⟩ ⟨rfl, rfl⟩ ?_
        refine g_if_lt 35 d_X11_newName_23 (by decide) (fun h4 => ?_) (fun h4 => ?_)
        · skip
          (try simp only [if_pos h3, if_pos h4, opv_eq, if_true, if_false, Bool.false_eq_true, reduceCtorEq, b2i_t, b2i_f, u0_X11_newName] at hj); exact hj
        · skip
          refine g_aload_n0 rfl d_X11_newName_26 ?_
          refine g_iconst 3 d_X11_newName_27 (by decide) ?_
          refine g_aload_n0 rfl d_X11_newName_28 ?_
          refine g_getI f_X11_79 d_X11_newName_29 rfl (Nat.le_of_ble_eq_true rfl) rfl ?_
          refine g_callV0 (c_X11_wrong (m_X11_mustName I) 3 ((m_X11_mustName I) 65 4)) w_X11_wrong l_X11_125 d_X11_newName_32 rfl (Nat.le_of_ble_eq_true rfl) rfl rfl (Nat.le_of_ble_eq_true rfl) ⟨Nat.le_of_ble_eq_true rfl, Nat.le_of_ble_eq_true rfl⟩ ⟨Nat.zero_le _, Nat.zero_le _⟩ ⟨rfl, rfl⟩ ?_
          (try simp only [if_pos h3, if_neg h4, opv_eq, if_true, if_false, Bool.false_eq_true, reduceCtorEq, b2i_t, b2i_f, u0_X11_newName] at hj); exact hj
    · skip
      refine g_aload_n0 rfl d_X11_newName_35 ?_
      refine g_getI f_X11_98 d_X11_newName_36 rfl (Nat.le_of_ble_eq_true rfl) rfl ?_
      refine g_if_eq 43 d_X11_newName_39 (by decide) (fun h5 => ?_) (fun h5 => ?_)
      · skip
        rw [if_pos h5] at hob
        refine g_iconst 0 d_X11_newName_43 (by decide) ?_
        refine g_isn2 rfl d_X11_newName_44 ?_
        obtain ⟨hol, hok⟩ := hob
        refine k_lp_X11_newName_45 x1 _ 0 (u0_X11_newName I) (Nat.lt_succ_self _) hol ?_
        refine g_aload_n0 rfl d_X11_newName_79 ?_
        refine g_getP (b := 69) f_X11_23 d_X11_newName_80 rfl (Nat.le_of_ble_eq_true rfl) rfl rfl ?_
        refine g_bipush 80 d_X11_newName_83 (by decide) ?_
        refine g_iload_n1 rfl d_X11_newName_85 ?_
        refine g_iadd d_X11_newName_86 ?_
        refine g_aload_n0 rfl d_X11_newName_87 ?_
        refine g_getI f_X11_82 d_X11_newName_88 rfl (Nat.le_of_ble_eq_true rfl) rfl ?_
        obtain ⟨ho5, hok⟩ := hok
        refine g_iast d_X11_newName_91 rfl (Nat.le_of_ble_eq_true rfl) ho5 ?_
        refine g_aload_n0 rfl d_X11_newName_92 ?_
        have ho6 := hok
        refine g_callV0 (c_X11_next (va_up ((lp_X11_newName_45 x1 (mu_up ((u0_X11_newName I) 65 8) 0 + 1) 0 (u0_X11_newName I)).2) 69 (upd (((lp_X11_newName_45 x1 (mu_up ((u0_X11_newName I) 65 8) 0 + 1) 0 (u0_X11_newName I)).2) 69) (80 + x1).toNatClampNeg (((lp_X11_newName_45 x1 (mu_up ((u0_X11_newName I) 65 8) 0 + 1) 0 (u0_X11_newName I)).2) 65 8)))  ho6) w_X11_next l_X11_119 d_X11_newName_93 rfl (Nat.le_of_ble_eq_true rfl) rfl rfl (Nat.le_of_ble_eq_true rfl) ⟨Nat.le_of_ble_eq_true rfl, Nat.le_of_ble_eq_true rfl⟩ ⟨Nat.zero_le _, Nat.zero_le _⟩ ⟨rfl, rfl⟩ ?_
        refine G.toI (I' := (u1_X11_newName I x1)) (by rw [u1_X11_newName, opv_eq]) ?_
        exact g_vret rfl d_X11_newName_96 ⟨rfl, by simp only [m_X11_newName, if_pos h2, if_pos h5, opv_eq, if_true, if_false, Bool.false_eq_true, reduceCtorEq, b2i_t, b2i_f]⟩ (Nat.le_refl _) (Nat.le_refl _)
      · skip
        exact g_vret rfl d_X11_newName_42 ⟨rfl, by simp only [m_X11_newName, if_pos h2, if_neg h5, opv_eq, if_true, if_false, Bool.false_eq_true, reduceCtorEq, b2i_t, b2i_f]⟩ (Nat.le_refl _) (Nat.le_refl _)
  · skip
    exact g_vret rfl d_X11_newName_7 ⟨rfl, by simp only [m_X11_newName, if_neg h2, opv_eq, if_true, if_false, Bool.false_eq_true, reduceCtorEq, b2i_t, b2i_f]⟩ (Nat.le_refl _) (Nat.le_refl _)
noncomputable def u0_X11_fieldHere (I : Nat → Nat → Int32) : Nat → Nat → Int32 := opv (if (f_X11_in (m_X11_mustName I) (f_X11_find (m_X11_mustName I)) 0 5) = true then (m_X11_mustName I) else (m_X11_wrong (m_X11_mustName I) 2 ((m_X11_mustName I) 65 4)))
noncomputable def u1_X11_fieldHere (I : Nat → Nat → Int32) : Int32 := opv (if ((u0_X11_fieldHere I) 65 13) = 0 then f_X11_find (m_X11_mustName I) else 0)
noncomputable def f_X11_fieldHere (I : Nat → Nat → Int32)  : Int32 := opv (if (I 65 13) = 0 then (if ((m_X11_mustName I) 65 13) = 0 then (u1_X11_fieldHere I) else 0) else 0)
noncomputable def m_X11_fieldHere (I : Nat → Nat → Int32)  : Nat → Nat → Int32 := opv (if (I 65 13) = 0 then (if ((m_X11_mustName I) 65 13) = 0 then (u0_X11_fieldHere I) else (m_X11_mustName I)) else I)
noncomputable def ok_X11_fieldHere (I : Nat → Nat → Int32)  : Prop := opv (if (I 65 13) = 0 then (ok_X11_mustName I ∧ (if ((m_X11_mustName I) 65 13) = 0 then ok_X11_find (m_X11_mustName I) else True)) else True)
set_option maxHeartbeats 800000 in
set_option maxRecDepth 4000 in
theorem c_X11_fieldHere {k : KT} {ex : Bool} {J : Nat → Nat → Int64} {w : Bool} (I : Nat → Nat → Int32)   (hok : ok_X11_fieldHere I) : Cx k mX11_fieldHere 7 [.ref (ka k 65)] (81, ex, I, J, Pw w) (some (.int (f_X11_fieldHere I))) (81, ex, m_X11_fieldHere I, J, Pw w) := by
  refine Ct.of rfl [some (.ref (ka k 65)), none] rfl rfl (Nat.le_of_ble_eq_true rfl) ?_
  rw [ok_X11_fieldHere, opv_eq] at hok
  refine g_aload_n0 rfl d_X11_fieldHere_0 ?_
  refine g_getI f_X11_98 d_X11_fieldHere_1 rfl (Nat.le_of_ble_eq_true rfl) rfl ?_
  refine g_if_eq 9 d_X11_fieldHere_4 (by decide) (fun h1 => ?_) (fun h1 => ?_)
  · skip
    rw [if_pos h1] at hok
    refine g_aload_n0 rfl d_X11_fieldHere_9 ?_
    obtain ⟨ho1, hok⟩ := hok
    refine g_callV0 (c_X11_mustName I  ho1) w_X11_mustName l_X11_143 d_X11_fieldHere_10 rfl (Nat.le_of_ble_eq_true rfl) rfl rfl (Nat.le_of_ble_eq_true rfl) ⟨Nat.le_of_ble_eq_true rfl, Nat.le_of_ble_eq_true rfl⟩ ⟨Nat.zero_le _, Nat.zero_le _⟩ ⟨rfl, rfl⟩ ?_
    refine g_aload_n0 rfl d_X11_fieldHere_13 ?_
    refine g_getI f_X11_98 d_X11_fieldHere_14 rfl (Nat.le_of_ble_eq_true rfl) rfl ?_
    refine g_if_eq 22 d_X11_fieldHere_17 (by decide) (fun h2 => ?_) (fun h2 => ?_)
    · skip
      rw [if_pos h2] at hok
      refine g_aload_n0 rfl d_X11_fieldHere_22 ?_
      have ho2 := hok
      refine g_callV1 (c_X11_find (m_X11_mustName I)  ho2) w_X11_find l_X11_146 d_X11_fieldHere_23 rfl (Nat.le_of_ble_eq_true rfl) rfl rfl (Nat.le_of_ble_eq_true rfl) ⟨Nat.le_of_ble_eq_true rfl, Nat.le_of_ble_eq_true rfl⟩ ⟨Nat.zero_le _, Nat.zero_le _⟩ ⟨rfl, rfl⟩ ?_
      refine g_isn1 rfl d_X11_fieldHere_26 ?_
      refine g_iload_n1 rfl d_X11_fieldHere_27 ?_
      refine g_iconst 0 d_X11_fieldHere_28 (by decide) ?_
      refine g_iconst 5 d_X11_fieldHere_29 (by decide) ?_
      refine g_callS1 (c_X11_in (m_X11_mustName I) (f_X11_find (m_X11_mustName I)) 0 5) w_X11_in l_X11_149 d_X11_fieldHere_30 rfl rfl (Nat.le_of_ble_eq_true rfl) ⟨Nat.le_of_ble_eq_true rfl, Nat.le_of_ble_eq_true rfl⟩ ⟨Nat.zero_le _, Nat.zero_le _⟩ ⟨rfl, rfl⟩ ?_
      refine g_cut (pc' := 45) (vs' := [some (.ref (ka k 65)), some (.int (f_X11_find (m_X11_mustName I)))]) (st' := []) (M' := (81, ex, (u0_X11_fieldHere I), J, Pw w)) (fun hj => ?_) ?_
      · skip
        refine g_ifnz 45 d_X11_fieldHere_33 (by decide) (fun h3 => ?_) (fun h3 => ?_)
        · skip
          (try simp only [if_pos h3, opv_eq, if_true, if_false, Bool.false_eq_true, reduceCtorEq, b2i_t, b2i_f, u0_X11_fieldHere] at hj); exact hj
        · skip
          refine g_aload_n0 rfl d_X11_fieldHere_36 ?_
          refine g_iconst 2 d_X11_fieldHere_37 (by decide) ?_
          refine g_aload_n0 rfl d_X11_fieldHere_38 ?_
          refine g_getI f_X11_79 d_X11_fieldHere_39 rfl (Nat.le_of_ble_eq_true rfl) rfl ?_
          refine g_callV0 (c_X11_wrong (m_X11_mustName I) 2 ((m_X11_mustName I) 65 4)) w_X11_wrong l_X11_125 d_X11_fieldHere_42 rfl (Nat.le_of_ble_eq_true rfl) rfl rfl (Nat.le_of_ble_eq_true rfl) ⟨Nat.le_of_ble_eq_true rfl, Nat.le_of_ble_eq_true rfl⟩ ⟨Nat.zero_le _, Nat.zero_le _⟩ ⟨rfl, rfl⟩ ?_
          (try simp only [if_neg (nb h3), opv_eq, if_true, if_false, Bool.false_eq_true, reduceCtorEq, b2i_t, b2i_f, u0_X11_fieldHere] at hj); exact hj
      · skip
        refine g_aload_n0 rfl d_X11_fieldHere_45 ?_
        refine g_getI f_X11_98 d_X11_fieldHere_46 rfl (Nat.le_of_ble_eq_true rfl) rfl ?_
        refine g_cut (pc' := 57) (vs' := [some (.ref (ka k 65)), some (.int (f_X11_find (m_X11_mustName I)))]) (st' := [.int (u1_X11_fieldHere I)]) (M' := (81, ex, (u0_X11_fieldHere I), J, Pw w)) (fun hj => ?_) ?_
        · skip
          refine g_if_eq 56 d_X11_fieldHere_49 (by decide) (fun h4 => ?_) (fun h4 => ?_)
          · skip
            refine g_iload_n1 rfl d_X11_fieldHere_56 ?_
            (try simp only [if_pos h4, opv_eq, if_true, if_false, Bool.false_eq_true, reduceCtorEq, b2i_t, b2i_f, u1_X11_fieldHere] at hj); exact hj
          · skip
            refine g_iconst 0 d_X11_fieldHere_52 (by decide) ?_
            refine g_goto 57 d_X11_fieldHere_53 (by decide) ?_
            (try simp only [if_neg h4, opv_eq, if_true, if_false, Bool.false_eq_true, reduceCtorEq, b2i_t, b2i_f, u1_X11_fieldHere] at hj); exact hj
        · skip
          exact g_iret rfl d_X11_fieldHere_57 ⟨by simp only [f_X11_fieldHere, m_X11_fieldHere, if_pos h1, if_pos h2, opv_eq, if_true, if_false, Bool.false_eq_true, reduceCtorEq, b2i_t, b2i_f], by simp only [f_X11_fieldHere, m_X11_fieldHere, if_pos h1, if_pos h2, opv_eq, if_true, if_false, Bool.false_eq_true, reduceCtorEq, b2i_t, b2i_f]⟩ (Nat.le_refl _) (Nat.le_refl _)
    · skip
      refine g_iconst 0 d_X11_fieldHere_20 (by decide) ?_
      exact g_iret rfl d_X11_fieldHere_21 ⟨by simp only [f_X11_fieldHere, m_X11_fieldHere, if_pos h1, if_neg h2, opv_eq, if_true, if_false, Bool.false_eq_true, reduceCtorEq, b2i_t, b2i_f], by simp only [f_X11_fieldHere, m_X11_fieldHere, if_pos h1, if_neg h2, opv_eq, if_true, if_false, Bool.false_eq_true, reduceCtorEq, b2i_t, b2i_f]⟩ (Nat.le_refl _) (Nat.le_refl _)
  · skip
    refine g_iconst 0 d_X11_fieldHere_7 (by decide) ?_
    exact g_iret rfl d_X11_fieldHere_8 ⟨by simp only [f_X11_fieldHere, m_X11_fieldHere, if_neg h1, opv_eq, if_true, if_false, Bool.false_eq_true, reduceCtorEq, b2i_t, b2i_f], by simp only [f_X11_fieldHere, m_X11_fieldHere, if_neg h1, opv_eq, if_true, if_false, Bool.false_eq_true, reduceCtorEq, b2i_t, b2i_f]⟩ (Nat.le_refl _) (Nat.le_refl _)
noncomputable def u0_X11_numberHere (I : Nat → Nat → Int32) (x1 : Int32) (x2 : Int32) : Nat → Nat → Int32 := opv (if (I 65 6) = 3 then (if (f_X11_in I (I 65 7) x1 x2) = true then I else (m_X11_wrong I 4 (I 65 4))) else (m_X11_wrong I 1 (I 65 4)))
noncomputable def u1_X11_numberHere (I : Nat → Nat → Int32) (x1 : Int32) (x2 : Int32) : Int32 := opv (if ((u0_X11_numberHere I x1 x2) 65 13) = 0 then (u0_X11_numberHere I x1 x2) 65 7 else x1)
noncomputable def f_X11_numberHere (I : Nat → Nat → Int32) (x1 : Int32) (x2 : Int32) : Int32 := opv (if (I 65 13) = 0 then (u1_X11_numberHere I x1 x2) else x1)
noncomputable def m_X11_numberHere (I : Nat → Nat → Int32) (x1 : Int32) (x2 : Int32) : Nat → Nat → Int32 := opv (if (I 65 13) = 0 then (u0_X11_numberHere I x1 x2) else I)
set_option maxHeartbeats 800000 in
set_option maxRecDepth 4000 in
theorem c_X11_numberHere {k : KT} {ex : Bool} {J : Nat → Nat → Int64} {w : Bool} (I : Nat → Nat → Int32) (x1 : Int32) (x2 : Int32)  : Cx k mX11_numberHere 2 [.ref (ka k 65), .int x1, .int x2] (81, ex, I, J, Pw w) (some (.int (f_X11_numberHere I x1 x2))) (81, ex, m_X11_numberHere I x1 x2, J, Pw w) := by
  refine Ct.of rfl [some (.ref (ka k 65)), some (.int x1), some (.int x2)] rfl rfl (Nat.le_of_ble_eq_true rfl) ?_
  refine g_aload_n0 rfl d_X11_numberHere_0 ?_
  refine g_getI f_X11_98 d_X11_numberHere_1 rfl (Nat.le_of_ble_eq_true rfl) rfl ?_
  refine g_if_eq 9 d_X11_numberHere_4 (by decide) (fun h1 => ?_) (fun h1 => ?_)
  · skip
    refine g_aload_n0 rfl d_X11_numberHere_9 ?_
    refine g_getI f_X11_88 d_X11_numberHere_10 rfl (Nat.le_of_ble_eq_true rfl) rfl ?_
    refine g_iconst 3 d_X11_numberHere_13 (by decide) ?_
    refine g_cut (pc' := 50) (vs' := [some (.ref (ka k 65)), some (.int x1), some (.int x2)]) (st' := []) (M' := (81, ex, (u0_X11_numberHere I x1 x2), J, Pw w)) (fun hj => ?_) ?_
    · skip
      refine g_icmp_eq 29 d_X11_numberHere_14 (by decide) (fun h2 => ?_) (fun h2 => ?_)
      · skip
        refine g_aload_n0 rfl d_X11_numberHere_29 ?_
        refine g_getI f_X11_85 d_X11_numberHere_30 rfl (Nat.le_of_ble_eq_true rfl) rfl ?_
        refine g_iload_n1 rfl d_X11_numberHere_33 ?_
        refine g_iload_n2 rfl d_X11_numberHere_34 ?_
        refine g_callS1 (c_X11_in I (I 65 7) x1 x2) w_X11_in l_X11_149 d_X11_numberHere_35 rfl rfl (Nat.le_of_ble_eq_true rfl) ⟨Nat.le_of_ble_eq_true rfl, Nat.le_of_ble_eq_true rfl⟩ ⟨Nat.zero_le _, Nat.zero_le _⟩ ⟨rfl, rfl⟩ ?_
        refine g_ifnz 50 d_X11_numberHere_38 (by decide) (fun h3 => ?_) (fun h3 => ?_)
        · skip
          (try simp only [if_pos h2, if_pos h3, opv_eq, if_true, if_false, Bool.false_eq_true, reduceCtorEq, b2i_t, b2i_f, u0_X11_numberHere] at hj); exact hj
        · skip
          refine g_aload_n0 rfl d_X11_numberHere_41 ?_
          refine g_iconst 4 d_X11_numberHere_42 (by decide) ?_
          refine g_aload_n0 rfl d_X11_numberHere_43 ?_
          refine g_getI f_X11_79 d_X11_numberHere_44 rfl (Nat.le_of_ble_eq_true rfl) rfl ?_
          refine g_callV0 (c_X11_wrong I 4 (I 65 4)) w_X11_wrong l_X11_125 d_X11_numberHere_47 rfl (Nat.le_of_ble_eq_true rfl) rfl rfl (Nat.le_of_ble_eq_true rfl) ⟨Nat.le_of_ble_eq_true rfl, Nat.le_of_ble_eq_true rfl⟩ ⟨Nat.zero_le _, Nat.zero_le _⟩ ⟨rfl, rfl⟩ ?_
          (try simp only [if_pos h2, if_neg (nb h3), opv_eq, if_true, if_false, Bool.false_eq_true, reduceCtorEq, b2i_t, b2i_f, u0_X11_numberHere] at hj); exact hj
      · skip
        refine g_aload_n0 rfl d_X11_numberHere_17 ?_
        refine g_iconst 1 d_X11_numberHere_18 (by decide) ?_
        refine g_aload_n0 rfl d_X11_numberHere_19 ?_
        refine g_getI f_X11_79 d_X11_numberHere_20 rfl (Nat.le_of_ble_eq_true rfl) rfl ?_
        refine g_callV0 (c_X11_wrong I 1 (I 65 4)) w_X11_wrong l_X11_125 d_X11_numberHere_23 rfl (Nat.le_of_ble_eq_true rfl) rfl rfl (Nat.le_of_ble_eq_true rfl) ⟨Nat.le_of_ble_eq_true rfl, Nat.le_of_ble_eq_true rfl⟩ ⟨Nat.zero_le _, Nat.zero_le _⟩ ⟨rfl, rfl⟩ ?_
        refine g_goto 50 d_X11_numberHere_26 (by decide) ?_
        (try simp only [if_neg h2, opv_eq, if_true, if_false, Bool.false_eq_true, reduceCtorEq, b2i_t, b2i_f, u0_X11_numberHere] at hj); exact hj
    · skip
      refine g_aload_n0 rfl d_X11_numberHere_50 ?_
      refine g_getI f_X11_98 d_X11_numberHere_51 rfl (Nat.le_of_ble_eq_true rfl) rfl ?_
      refine g_cut (pc' := 65) (vs' := [some (.ref (ka k 65)), some (.int x1), some (.int x2)]) (st' := [.int (u1_X11_numberHere I x1 x2)]) (M' := (81, ex, (u0_X11_numberHere I x1 x2), J, Pw w)) (fun hj => ?_) ?_
      · skip
        refine g_if_eq 61 d_X11_numberHere_54 (by decide) (fun h4 => ?_) (fun h4 => ?_)
        · skip
          refine g_aload_n0 rfl d_X11_numberHere_61 ?_
          refine g_getI f_X11_85 d_X11_numberHere_62 rfl (Nat.le_of_ble_eq_true rfl) rfl ?_
          (try simp only [if_pos h4, opv_eq, if_true, if_false, Bool.false_eq_true, reduceCtorEq, b2i_t, b2i_f, u1_X11_numberHere] at hj); exact hj
        · skip
          refine g_iload_n1 rfl d_X11_numberHere_57 ?_
          refine g_goto 65 d_X11_numberHere_58 (by decide) ?_
          (try simp only [if_neg h4, opv_eq, if_true, if_false, Bool.false_eq_true, reduceCtorEq, b2i_t, b2i_f, u1_X11_numberHere] at hj); exact hj
      · skip
        exact g_iret rfl d_X11_numberHere_65 ⟨by simp only [f_X11_numberHere, m_X11_numberHere, if_pos h1, opv_eq, if_true, if_false, Bool.false_eq_true, reduceCtorEq, b2i_t, b2i_f], by simp only [f_X11_numberHere, m_X11_numberHere, if_pos h1, opv_eq, if_true, if_false, Bool.false_eq_true, reduceCtorEq, b2i_t, b2i_f]⟩ (Nat.le_refl _) (Nat.le_refl _)
  · skip
    refine g_iload_n1 rfl d_X11_numberHere_7 ?_
    exact g_iret rfl d_X11_numberHere_8 ⟨by simp only [f_X11_numberHere, m_X11_numberHere, if_neg h1, opv_eq, if_true, if_false, Bool.false_eq_true, reduceCtorEq, b2i_t, b2i_f], by simp only [f_X11_numberHere, m_X11_numberHere, if_neg h1, opv_eq, if_true, if_false, Bool.false_eq_true, reduceCtorEq, b2i_t, b2i_f]⟩ (Nat.le_refl _) (Nat.le_refl _)
noncomputable def u0_X11_number (I : Nat → Nat → Int32) (x1 : Int32) (x2 : Int32) : Nat → Nat → Int32 := opv (if ((m_X11_numberHere I x1 x2) 65 13) = 0 then (m_X11_next (m_X11_numberHere I x1 x2)) else (m_X11_numberHere I x1 x2))
noncomputable def f_X11_number (I : Nat → Nat → Int32) (x1 : Int32) (x2 : Int32) : Int32 := opv (f_X11_numberHere I x1 x2)
noncomputable def m_X11_number (I : Nat → Nat → Int32) (x1 : Int32) (x2 : Int32) : Nat → Nat → Int32 := opv (u0_X11_number I x1 x2)
noncomputable def ok_X11_number (I : Nat → Nat → Int32) (x1 : Int32) (x2 : Int32) : Prop := opv (if ((m_X11_numberHere I x1 x2) 65 13) = 0 then ok_X11_next (m_X11_numberHere I x1 x2) else True)
set_option maxHeartbeats 800000 in
set_option maxRecDepth 4000 in
theorem c_X11_number {k : KT} {ex : Bool} {J : Nat → Nat → Int64} {w : Bool} (I : Nat → Nat → Int32) (x1 : Int32) (x2 : Int32)  (hok : ok_X11_number I x1 x2) : Cx k mX11_number 3 [.ref (ka k 65), .int x1, .int x2] (81, ex, I, J, Pw w) (some (.int (f_X11_number I x1 x2))) (81, ex, m_X11_number I x1 x2, J, Pw w) := by
  refine Ct.of rfl [some (.ref (ka k 65)), some (.int x1), some (.int x2), none] rfl rfl (Nat.le_of_ble_eq_true rfl) ?_
  rw [ok_X11_number, opv_eq] at hok
  refine g_aload_n0 rfl d_X11_number_0 ?_
  refine g_iload_n1 rfl d_X11_number_1 ?_
  refine g_iload_n2 rfl d_X11_number_2 ?_
  refine g_callV1 (c_X11_numberHere I x1 x2) w_X11_numberHere l_X11_153 d_X11_number_3 rfl (Nat.le_of_ble_eq_true rfl) rfl rfl (Nat.le_of_ble_eq_true rfl) ⟨Nat.le_of_ble_eq_true rfl, Nat.le_of_ble_eq_true rfl⟩ ⟨Nat.zero_le _, Nat.zero_le _⟩ ⟨rfl, rfl⟩ ?_
  refine g_isn3 rfl d_X11_number_6 ?_
  refine g_aload_n0 rfl d_X11_number_7 ?_
  refine g_getI f_X11_98 d_X11_number_8 rfl (Nat.le_of_ble_eq_true rfl) rfl ?_
  refine g_cut (pc' := 18) (vs' := [some (.ref (ka k 65)), some (.int x1), some (.int x2), some (.int (f_X11_numberHere I x1 x2))]) (st' := []) (M' := (81, ex, (u0_X11_number I x1 x2), J, Pw w)) (fun hj => ?_) ?_
  · skip
    refine g_if_ne 18 d_X11_number_11 (by decide) (fun h1 => ?_) (fun h1 => ?_)
    · skip
      (try simp only [if_neg h1, opv_eq, if_true, if_false, Bool.false_eq_true, reduceCtorEq, b2i_t, b2i_f, u0_X11_number] at hj); exact hj
    · skip
      rw [if_pos h1] at hok
      refine g_aload_n0 rfl d_X11_number_14 ?_
      have ho1 := hok
      refine g_callV0 (c_X11_next (m_X11_numberHere I x1 x2)  ho1) w_X11_next l_X11_119 d_X11_number_15 rfl (Nat.le_of_ble_eq_true rfl) rfl rfl (Nat.le_of_ble_eq_true rfl) ⟨Nat.le_of_ble_eq_true rfl, Nat.le_of_ble_eq_true rfl⟩ ⟨Nat.zero_le _, Nat.zero_le _⟩ ⟨rfl, rfl⟩ ?_
      (try simp only [if_pos h1, opv_eq, if_true, if_false, Bool.false_eq_true, reduceCtorEq, b2i_t, b2i_f, u0_X11_number] at hj); exact hj
  · skip
    refine g_iload_n3 rfl d_X11_number_18 ?_
    exact g_iret rfl d_X11_number_19 ⟨by simp only [f_X11_number, m_X11_number, opv_eq, if_true, if_false, Bool.false_eq_true, reduceCtorEq, b2i_t, b2i_f], by simp only [f_X11_number, m_X11_number, opv_eq, if_true, if_false, Bool.false_eq_true, reduceCtorEq, b2i_t, b2i_f]⟩ (Nat.le_refl _) (Nat.le_refl _)
noncomputable def f_X11_after (I : Nat → Nat → Int32) (x1 : Nat) (x2 : Int32) (x3 : Int32) : Int32 := opv (f_X11_number (m_X11_must I x1) x2 x3)
noncomputable def m_X11_after (I : Nat → Nat → Int32) (x1 : Nat) (x2 : Int32) (x3 : Int32) : Nat → Nat → Int32 := opv (m_X11_number (m_X11_must I x1) x2 x3)
noncomputable def ok_X11_after (I : Nat → Nat → Int32) (x1 : Nat) (x2 : Int32) (x3 : Int32) : Prop := opv (ok_X11_must I x1 ∧ ok_X11_number (m_X11_must I x1) x2 x3)
set_option maxHeartbeats 800000 in
set_option maxRecDepth 4000 in
theorem c_X11_after {k : KT} {ex : Bool} {J : Nat → Nat → Int64} {w : Bool} (I : Nat → Nat → Int32) (x1 : Nat) (hx1 : x1 < nStr) (x2 : Int32) (x3 : Int32)  (hok : ok_X11_after I x1 x2 x3) : Cx k mX11_after 8 [.ref (ka k 65), .ref (adK k x1), .int x2, .int x3] (81, ex, I, J, Pw w) (some (.int (f_X11_after I x1 x2 x3))) (81, ex, m_X11_after I x1 x2 x3, J, Pw w) := by
  refine Ct.of rfl [some (.ref (ka k 65)), some (.ref (adK k x1)), some (.int x2), some (.int x3)] rfl rfl (Nat.le_of_ble_eq_true rfl) ?_
  rw [ok_X11_after, opv_eq] at hok
  refine g_aload_n0 rfl d_X11_after_0 ?_
  refine g_aload_n1 rfl d_X11_after_1 ?_
  obtain ⟨ho1, hok⟩ := hok
  refine g_callV0 (c_X11_must I x1 hx1 ho1) w_X11_must l_X11_157 d_X11_after_2 rfl (Nat.le_of_ble_eq_true rfl) rfl rfl (Nat.le_of_ble_eq_true rfl) ⟨Nat.le_of_ble_eq_true rfl, Nat.le_of_ble_eq_true rfl⟩ ⟨Nat.zero_le _, Nat.zero_le _⟩ ⟨rfl, rfl⟩ ?_
  refine g_aload_n0 rfl d_X11_after_5 ?_
  refine g_iload_n2 rfl d_X11_after_6 ?_
  refine g_iload_n3 rfl d_X11_after_7 ?_
  have ho2 := hok
  refine g_callV1 (c_X11_number (m_X11_must I x1) x2 x3 ho2) w_X11_number l_X11_161 d_X11_after_8 rfl (Nat.le_of_ble_eq_true rfl) rfl rfl (Nat.le_of_ble_eq_true rfl) ⟨Nat.le_of_ble_eq_true rfl, Nat.le_of_ble_eq_true rfl⟩ ⟨Nat.zero_le _, Nat.zero_le _⟩ ⟨rfl, rfl⟩ ?_
  exact g_iret rfl d_X11_after_11 ⟨by simp only [f_X11_after, m_X11_after, opv_eq, if_true, if_false, Bool.false_eq_true, reduceCtorEq, b2i_t, b2i_f], by simp only [f_X11_after, m_X11_after, opv_eq, if_true, if_false, Bool.false_eq_true, reduceCtorEq, b2i_t, b2i_f]⟩ (Nat.le_refl _) (Nat.le_refl _)
noncomputable def f_X11_weather (I : Nat → Nat → Int32)  : Int32 := opv (if (f_X11_takesWord I 11) = true then 1 else 2)
noncomputable def m_X11_weather (I : Nat → Nat → Int32)  : Nat → Nat → Int32 := opv (if (f_X11_takesWord I 11) = true then (m_X11_takesWord I 11) else (m_X11_must (m_X11_takesWord I 11) 12))
noncomputable def ok_X11_weather (I : Nat → Nat → Int32)  : Prop := opv (ok_X11_takesWord I 11 ∧ (if (f_X11_takesWord I 11) = true then True else ok_X11_must (m_X11_takesWord I 11) 12))
set_option maxHeartbeats 800000 in
set_option maxRecDepth 4000 in
theorem c_X11_weather {k : KT} {ex : Bool} {J : Nat → Nat → Int64} {w : Bool} (I : Nat → Nat → Int32)   (hok : ok_X11_weather I) : Cx k mX11_weather 8 [.ref (ka k 65)] (81, ex, I, J, Pw w) (some (.int (f_X11_weather I))) (81, ex, m_X11_weather I, J, Pw w) := by
  refine Ct.of rfl [some (.ref (ka k 65))] rfl rfl (Nat.le_of_ble_eq_true rfl) ?_
  rw [ok_X11_weather, opv_eq] at hok
  refine g_aload_n0 rfl d_X11_weather_0 ?_
  refine g_ldcS (n := 11) (tx := "wet") (by decide) d_X11_weather_1 ?_
  obtain ⟨ho1, hok⟩ := hok
  refine g_callV1 (c_X11_takesWord I 11 (by decide) ho1) w_X11_takesWord l_X11_122 d_X11_weather_3 rfl (Nat.le_of_ble_eq_true rfl) rfl rfl (Nat.le_of_ble_eq_true rfl) ⟨Nat.le_of_ble_eq_true rfl, Nat.le_of_ble_eq_true rfl⟩ ⟨Nat.zero_le _, Nat.zero_le _⟩ ⟨rfl, rfl⟩ ?_
  refine g_ifz 11 d_X11_weather_6 (by decide) (fun h1 => ?_) (fun h1 => ?_)
  · skip
    rw [if_neg (nb h1)] at hok
    refine g_aload_n0 rfl d_X11_weather_11 ?_
    refine g_ldcS (n := 12) (tx := "fine") (by decide) d_X11_weather_12 ?_
    have ho2 := hok
    refine g_callV0 (c_X11_must (m_X11_takesWord I 11) 12 (by decide) ho2) w_X11_must l_X11_157 d_X11_weather_14 rfl (Nat.le_of_ble_eq_true rfl) rfl rfl (Nat.le_of_ble_eq_true rfl) ⟨Nat.le_of_ble_eq_true rfl, Nat.le_of_ble_eq_true rfl⟩ ⟨Nat.zero_le _, Nat.zero_le _⟩ ⟨rfl, rfl⟩ ?_
    refine g_iconst 2 d_X11_weather_17 (by decide) ?_
    exact g_iret rfl d_X11_weather_18 ⟨by simp only [f_X11_weather, m_X11_weather, if_neg (nb h1), opv_eq, if_true, if_false, Bool.false_eq_true, reduceCtorEq, b2i_t, b2i_f], by simp only [f_X11_weather, m_X11_weather, if_neg (nb h1), opv_eq, if_true, if_false, Bool.false_eq_true, reduceCtorEq, b2i_t, b2i_f]⟩ (Nat.le_refl _) (Nat.le_refl _)
  · skip
    refine g_iconst 1 d_X11_weather_9 (by decide) ?_
    exact g_iret rfl d_X11_weather_10 ⟨by simp only [f_X11_weather, m_X11_weather, if_pos h1, opv_eq, if_true, if_false, Bool.false_eq_true, reduceCtorEq, b2i_t, b2i_f], by simp only [f_X11_weather, m_X11_weather, if_pos h1, opv_eq, if_true, if_false, Bool.false_eq_true, reduceCtorEq, b2i_t, b2i_f]⟩ (Nat.le_refl _) (Nat.le_refl _)
noncomputable def lp_X11_begins_2 (x1 : Nat) (x2 : Int32) : Nat → Int32 → (Nat → Nat → Int32) → Int32 × (Nat → Nat → Int32)
  | 0, l3, I1 => (l3, I1)
  | n + 1, l3, I1 => (if 7 ≤ l3 then (l3, I1) else (lp_X11_begins_2 x1 x2 n (l3 + 1) (va_up I1 x1 (upd (I1 x1) l3.toNatClampNeg 0))))
def oklp_X11_begins_2 (x1 : Nat) (x2 : Int32) : Nat → Int32 → (Nat → Nat → Int32) → Prop
  | 0, l3, I1 => True
  | n + 1, l3, I1 => (if 7 ≤ l3 then True else (vp_in l3 (sz x1) ∧ oklp_X11_begins_2 x1 x2 n (l3 + 1) (va_up I1 x1 (upd (I1 x1) l3.toNatClampNeg 0))))
set_option maxHeartbeats 800000 in
set_option maxRecDepth 4000 in
theorem k_lp_X11_begins_2 {k : KT} {ex : Bool} {J : Nat → Nat → Int64} {w : Bool} (x1 : Nat) (hx1 : kd x1 = 12) (x2 : Int32) {F : FinT} : ∀ (n : Nat) (l3 : Int32) (I1 : (Nat → Nat → Int32)), mu_up 7 l3 < n → oklp_X11_begins_2 x1 x2 n l3 I1 → G k mX11_begins (roomOf 1 0 0) F 0 0 18 [some (.ref (ka k 65)), some (.ref (ka k x1)), some (.int x2), some (.int ((lp_X11_begins_2 x1 x2 n l3 I1).1))] [] (81, ex, (lp_X11_begins_2 x1 x2 n l3 I1).2, J, Pw w) → G k mX11_begins (roomOf 1 0 0) F 0 0 2 [some (.ref (ka k 65)), some (.ref (ka k x1)), some (.int x2), some (.int l3)] [] (81, ex, I1, J, Pw w) := by
  intro n
  induction n with
  | zero => intro l3 I1 hmu hok hj; exact absurd hmu (Nat.not_lt_zero _)
  | succ n ih =>
    intro l3 I1 hmu hok hj
    rw [oklp_X11_begins_2] at hok
    refine g_iload_n3 rfl d_X11_begins_2 ?_
    refine g_bipush 7 d_X11_begins_3 (by decide) ?_
    refine g_icmp_ge 18 d_X11_begins_5 (by decide) (fun h1 => ?_) (fun h1 => ?_)
    · skip
      (try simp only [lp_X11_begins_2, if_pos h1, opv_eq, if_true, if_false, Bool.false_eq_true, reduceCtorEq, b2i_t, b2i_f] at hj); exact hj
    · skip
      rw [if_neg h1] at hok
      refine g_aload_n1 rfl d_X11_begins_8 ?_
      refine g_iload_n3 rfl d_X11_begins_9 ?_
      refine g_iconst 0 d_X11_begins_10 (by decide) ?_
      obtain ⟨ho1, hok⟩ := hok
      refine g_iast d_X11_begins_11 hx1 (kd_sg hx1 (by decide)) ho1 ?_
      refine g_ic3 (l3 + 1) rfl rfl d_X11_begins_12 ?_
      refine g_goto 2 d_X11_begins_15 (by decide) ?_
      exact ih (l3 + 1) (va_up I1 x1 (upd (I1 x1) l3.toNatClampNeg 0)) (Nat.lt_of_lt_of_le (mu_up_lt h1) (Nat.le_of_lt_succ hmu)) (by (try simp only [if_neg h1, opv_eq, if_true, if_false, Bool.false_eq_true, reduceCtorEq, b2i_t, b2i_f] at hok); exact hok) (by (try simp only [lp_X11_begins_2, if_neg h1, opv_eq, if_true, if_false, Bool.false_eq_true, reduceCtorEq, b2i_t, b2i_f] at hj); exact hj)
noncomputable def m_X11_begins (I : Nat → Nat → Int32) (x1 : Nat) (x2 : Int32) : Nat → Nat → Int32 := opv (st2 (st2 ((lp_X11_begins_2 x1 x2 (mu_up 7 0 + 1) 0 I).2) x1 1 (((lp_X11_begins_2 x1 x2 (mu_up 7 0 + 1) 0 I).2) 68 10)) x1 2 x2)
noncomputable def ok_X11_begins (I : Nat → Nat → Int32) (x1 : Nat) (x2 : Int32) : Prop := opv (oklp_X11_begins_2 x1 x2 (mu_up 7 0 + 1) 0 I ∧ (vp_in (1 : Int32) (sz x1) ∧ vp_in (2 : Int32) (sz x1)))
set_option maxHeartbeats 800000 in
set_option maxRecDepth 4000 in
theorem c_X11_begins {k : KT} {ex : Bool} {J : Nat → Nat → Int64} {w : Bool} (I : Nat → Nat → Int32) (x1 : Nat) (hx1 : kd x1 = 12) (x2 : Int32)  (hok : ok_X11_begins I x1 x2) : Cx k mX11_begins 1 [.ref (ka k 65), .ref (ka k x1), .int x2] (81, ex, I, J, Pw w) none (81, ex, m_X11_begins I x1 x2, J, Pw w) := by
  refine Ct.of rfl [some (.ref (ka k 65)), some (.ref (ka k x1)), some (.int x2), none] rfl rfl (Nat.le_of_ble_eq_true rfl) ?_
  rw [ok_X11_begins, opv_eq] at hok
  refine g_iconst 0 d_X11_begins_0 (by decide) ?_
  refine g_isn3 rfl d_X11_begins_1 ?_
  obtain ⟨hol, hok⟩ := hok
  refine k_lp_X11_begins_2 x1 hx1 x2 _ 0 I (Nat.lt_succ_self _) hol ?_
  refine g_aload_n1 rfl d_X11_begins_18 ?_
  refine g_iconst 1 d_X11_begins_19 (by decide) ?_
  refine g_aload_n0 rfl d_X11_begins_20 ?_
  refine g_getP (b := 68) f_X11_20 d_X11_begins_21 rfl (Nat.le_of_ble_eq_true rfl) rfl rfl ?_
  refine g_bipush 10 d_X11_begins_24 (by decide) ?_
  refine g_ialdv (((lp_X11_begins_2 x1 x2 (mu_up 7 0 + 1) 0 I).2) 68 10) rfl d_X11_begins_26 rfl (Nat.le_of_ble_eq_true rfl) (vp_c (by decide +kernel)) ?_
  obtain ⟨ho2, hok⟩ := hok
  refine g_iasts (n := 1) rfl d_X11_begins_27 hx1 (kd_sg hx1 (by decide)) ho2 ?_
  refine g_aload_n1 rfl d_X11_begins_28 ?_
  refine g_iconst 2 d_X11_begins_29 (by decide) ?_
  refine g_iload_n2 rfl d_X11_begins_30 ?_
  have ho3 := hok
  refine g_iasts (n := 2) rfl d_X11_begins_31 hx1 (kd_sg hx1 (by decide)) ho3 ?_
  exact g_vret rfl d_X11_begins_32 ⟨rfl, by simp only [m_X11_begins, opv_eq, if_true, if_false, Bool.false_eq_true, reduceCtorEq, b2i_t, b2i_f]⟩ (Nat.le_refl _) (Nat.le_refl _)
noncomputable def u0_X11_isLine (I : Nat → Nat → Int32) (x2 : Bool) : Nat → Nat → Int32 := opv (m_X11_wrong (if x2 = true then I else (m_X11_wrong I 5 (I 65 4))) 6 ((if x2 = true then I else (m_X11_wrong I 5 (I 65 4))) 65 4))
noncomputable def u1_X11_isLine (I : Nat → Nat → Int32) (x2 : Bool) : Nat → Nat → Int32 := opv (if ((if x2 = true then I else (m_X11_wrong I 5 (I 65 4))) 69 11) = 0 then (u0_X11_isLine I x2) else (if x2 = true then I else (m_X11_wrong I 5 (I 65 4))))
noncomputable def f_X11_isLine (I : Nat → Nat → Int32) (x1 : Nat) (x2 : Bool) : Bool := opv (if (f_X11_isWord I x1) = true then true else false)
noncomputable def m_X11_isLine (I : Nat → Nat → Int32) (x1 : Nat) (x2 : Bool) : Nat → Nat → Int32 := opv (if (f_X11_isWord I x1) = true then (u1_X11_isLine I x2) else I)
noncomputable def ok_X11_isLine (I : Nat → Nat → Int32) (x1 : Nat) (x2 : Bool) : Prop := opv (ok_X11_isWord I x1)
set_option maxHeartbeats 800000 in
set_option maxRecDepth 4000 in
theorem c_X11_isLine {k : KT} {ex : Bool} {J : Nat → Nat → Int64} {w : Bool} (I : Nat → Nat → Int32) (x1 : Nat) (hx1 : x1 < nStr) (x2 : Bool)  (hok : ok_X11_isLine I x1 x2) : Cx k mX11_isLine 6 [.ref (ka k 65), .ref (adK k x1), .int (b2i x2)] (81, ex, I, J, Pw w) (some (.int (b2i (f_X11_isLine I x1 x2)))) (81, ex, m_X11_isLine I x1 x2, J, Pw w) := by
  refine Ct.of rfl [some (.ref (ka k 65)), some (.ref (adK k x1)), some (.int (b2i x2))] rfl rfl (Nat.le_of_ble_eq_true rfl) ?_
  rw [ok_X11_isLine, opv_eq] at hok
  refine g_aload_n0 rfl d_X11_isLine_0 ?_
  refine g_aload_n1 rfl d_X11_isLine_1 ?_
  have ho1 := hok
  refine g_callV1 (c_X11_isWord I x1 hx1 ho1) w_X11_isWord l_X11_115 d_X11_isLine_2 rfl (Nat.le_of_ble_eq_true rfl) rfl rfl (Nat.le_of_ble_eq_true rfl) ⟨Nat.le_of_ble_eq_true rfl, Nat.le_of_ble_eq_true rfl⟩ ⟨Nat.zero_le _, Nat.zero_le _⟩ ⟨rfl, rfl⟩ ?_
  refine g_ifnz 10 d_X11_isLine_5 (by decide) (fun h1 => ?_) (fun h1 => ?_)
  · skip
    refine g_iload_n2 rfl d_X11_isLine_10 ?_
    refine g_cut (pc' := 23) (vs' := [some (.ref (ka k 65)), some (.ref (adK k x1)), some (.int (b2i x2))]) (st' := []) (M' := (81, ex, (if x2 = true then I else (m_X11_wrong I 5 (I 65 4))), J, Pw w)) (fun hj => ?_) ?_
    · skip
      refine g_ifnz 23 d_X11_isLine_11 (by decide) (fun h2 => ?_) (fun h2 => ?_)
      · skip
        (try simp only [if_pos h2, opv_eq, if_true, if_false, Bool.false_eq_true, reduceCtorEq, b2i_t, b2i_f] at hj); exact hj
      · skip
        refine g_aload_n0 rfl d_X11_isLine_14 ?_
        refine g_iconst 5 d_X11_isLine_15 (by decide) ?_
        refine g_aload_n0 rfl d_X11_isLine_16 ?_
        refine g_getI f_X11_79 d_X11_isLine_17 rfl (Nat.le_of_ble_eq_true rfl) rfl ?_
        refine g_callV0 (c_X11_wrong I 5 (I 65 4)) w_X11_wrong l_X11_125 d_X11_isLine_20 rfl (Nat.le_of_ble_eq_true rfl) rfl rfl (Nat.le_of_ble_eq_true rfl) ⟨Nat.le_of_ble_eq_true rfl, Nat.le_of_ble_eq_true rfl⟩ ⟨Nat.zero_le _, Nat.zero_le _⟩ ⟨rfl, rfl⟩ ?_
        (try simp only [if_neg (nb h2), opv_eq, if_true, if_false, Bool.false_eq_true, reduceCtorEq, b2i_t, b2i_f] at hj); exact hj
    · skip
      refine g_aload_n0 rfl d_X11_isLine_23 ?_
      refine g_getP (b := 69) f_X11_23 d_X11_isLine_24 rfl (Nat.le_of_ble_eq_true rfl) rfl rfl ?_
      refine g_bipush 11 d_X11_isLine_27 (by decide) ?_
      refine g_ialdv ((if x2 = true then I else (m_X11_wrong I 5 (I 65 4))) 69 11) rfl d_X11_isLine_29 rfl (Nat.le_of_ble_eq_true rfl) (vp_c (by decide +kernel)) ?_
      refine g_cut (pc' := 43) (vs' := [some (.ref (ka k 65)), some (.ref (adK k x1)), some (.int (b2i x2))]) (st' := []) (M' := (81, ex, (u1_X11_isLine I x2), J, Pw w)) (fun hj => ?_) ?_
      · skip
        refine g_if_ne 43 d_X11_isLine_30 (by decide) (fun h3 => ?_) (fun h3 => ?_)
        · skip
          (try simp only [if_neg h3, opv_eq, if_true, if_false, Bool.false_eq_true, reduceCtorEq, b2i_t, b2i_f, u1_X11_isLine] at hj); exact hj
        · skip
          refine g_aload_n0 rfl d_X11_isLine_33 ?_
          refine g_bipush 6 d_X11_isLine_34 (by decide) ?_
          refine g_aload_n0 rfl d_X11_isLine_36 ?_
          refine g_getI f_X11_79 d_X11_isLine_37 rfl (Nat.le_of_ble_eq_true rfl) rfl ?_
          refine g_callV0 (c_X11_wrong (if x2 = true then I else (m_X11_wrong I 5 (I 65 4))) 6 ((if x2 = true then I else (m_X11_wrong I 5 (I 65 4))) 65 4)) w_X11_wrong l_X11_125 d_X11_isLine_40 rfl (Nat.le_of_ble_eq_true rfl) rfl rfl (Nat.le_of_ble_eq_true rfl) ⟨Nat.le_of_ble_eq_true rfl, Nat.le_of_ble_eq_true rfl⟩ ⟨Nat.zero_le _, Nat.zero_le _⟩ ⟨rfl, rfl⟩ ?_
          refine G.toI (I' := (u0_X11_isLine I x2)) (by rw [u0_X11_isLine, opv_eq]) ?_
          (try simp only [if_pos h3, opv_eq, if_true, if_false, Bool.false_eq_true, reduceCtorEq, b2i_t, b2i_f, u1_X11_isLine] at hj); exact hj
      · skip
        refine g_iconst 1 d_X11_isLine_43 (by decide) ?_
        exact g_zret rfl (by decide) d_X11_isLine_44 ⟨by simp only [f_X11_isLine, m_X11_isLine, if_pos h1, opv_eq, if_true, if_false, Bool.false_eq_true, reduceCtorEq, b2i_t, b2i_f], by simp only [f_X11_isLine, m_X11_isLine, if_pos h1, opv_eq, if_true, if_false, Bool.false_eq_true, reduceCtorEq, b2i_t, b2i_f]⟩ (Nat.le_refl _) (Nat.le_refl _)
  · skip
    refine g_iconst 0 d_X11_isLine_8 (by decide) ?_
    exact g_zret rfl (by decide) d_X11_isLine_9 ⟨by simp only [f_X11_isLine, m_X11_isLine, if_neg (nb h1), opv_eq, if_true, if_false, Bool.false_eq_true, reduceCtorEq, b2i_t, b2i_f], by simp only [f_X11_isLine, m_X11_isLine, if_neg (nb h1), opv_eq, if_true, if_false, Bool.false_eq_true, reduceCtorEq, b2i_t, b2i_f]⟩ (Nat.le_refl _) (Nat.le_refl _)
noncomputable def u0_X11_chaletLine (I : Nat → Nat → Int32) : Nat → Nat → Int32 := opv (m_X11_after (m_X11_next (if (I 69 11) ≤ 0 then I else (m_X11_wrong I 3 (I 65 4)))) 7 0 100)
noncomputable def u1_X11_chaletLine (I : Nat → Nat → Int32) : Nat → Nat → Int32 := opv (m_X11_after (st2 (u0_X11_chaletLine I) 69 10 (f_X11_after (m_X11_next (if (I 69 11) ≤ 0 then I else (m_X11_wrong I 3 (I 65 4)))) 7 0 100)) 8 0 9)
noncomputable def u2_X11_chaletLine (I : Nat → Nat → Int32) : Nat → Nat → Int32 := opv (m_X11_after (st2 (u1_X11_chaletLine I) 69 0 (f_X11_after (st2 (u0_X11_chaletLine I) 69 10 (f_X11_after (m_X11_next (if (I 69 11) ≤ 0 then I else (m_X11_wrong I 3 (I 65 4)))) 7 0 100)) 8 0 9)) 9 0 3)
noncomputable def u3_X11_chaletLine (I : Nat → Nat → Int32) : Nat → Nat → Int32 := opv (m_X11_after (st2 (u2_X11_chaletLine I) 69 1 (f_X11_after (st2 (u1_X11_chaletLine I) 69 0 (f_X11_after (st2 (u0_X11_chaletLine I) 69 10 (f_X11_after (m_X11_next (if (I 69 11) ≤ 0 then I else (m_X11_wrong I 3 (I 65 4)))) 7 0 100)) 8 0 9)) 9 0 3)) 10 0 100)
noncomputable def u4_X11_chaletLine (I : Nat → Nat → Int32) : Nat → Nat → Int32 := opv (if ((u3_X11_chaletLine I) 65 13) = 0 then (st2 (st2 (u3_X11_chaletLine I) 69 2 (f_X11_after (st2 (u2_X11_chaletLine I) 69 1 (f_X11_after (st2 (u1_X11_chaletLine I) 69 0 (f_X11_after (st2 (u0_X11_chaletLine I) 69 10 (f_X11_after (m_X11_next (if (I 69 11) ≤ 0 then I else (m_X11_wrong I 3 (I 65 4)))) 7 0 100)) 8 0 9)) 9 0 3)) 10 0 100)) 69 11 1) else (st2 (u3_X11_chaletLine I) 69 2 (f_X11_after (st2 (u2_X11_chaletLine I) 69 1 (f_X11_after (st2 (u1_X11_chaletLine I) 69 0 (f_X11_after (st2 (u0_X11_chaletLine I) 69 10 (f_X11_after (m_X11_next (if (I 69 11) ≤ 0 then I else (m_X11_wrong I 3 (I 65 4)))) 7 0 100)) 8 0 9)) 9 0 3)) 10 0 100)))
noncomputable def m_X11_chaletLine (I : Nat → Nat → Int32)  : Nat → Nat → Int32 := opv (if ((if (I 69 11) ≤ 0 then I else (m_X11_wrong I 3 (I 65 4))) 65 13) = 0 then (u4_X11_chaletLine I) else (if (I 69 11) ≤ 0 then I else (m_X11_wrong I 3 (I 65 4))))
noncomputable def ok_X11_chaletLine (I : Nat → Nat → Int32)  : Prop := opv (if ((if (I 69 11) ≤ 0 then I else (m_X11_wrong I 3 (I 65 4))) 65 13) = 0 then (ok_X11_next (if (I 69 11) ≤ 0 then I else (m_X11_wrong I 3 (I 65 4))) ∧ (ok_X11_after (m_X11_next (if (I 69 11) ≤ 0 then I else (m_X11_wrong I 3 (I 65 4)))) 7 0 100 ∧ (ok_X11_after (st2 (u0_X11_chaletLine I) 69 10 (f_X11_after (m_X11_next (if (I 69 11) ≤ 0 then I else (m_X11_wrong I 3 (I 65 4)))) 7 0 100)) 8 0 9 ∧ (ok_X11_after (st2 (u1_X11_chaletLine I) 69 0 (f_X11_after (st2 (u0_X11_chaletLine I) 69 10 (f_X11_after (m_X11_next (if (I 69 11) ≤ 0 then I else (m_X11_wrong I 3 (I 65 4)))) 7 0 100)) 8 0 9)) 9 0 3 ∧ ok_X11_after (st2 (u2_X11_chaletLine I) 69 1 (f_X11_after (st2 (u1_X11_chaletLine I) 69 0 (f_X11_after (st2 (u0_X11_chaletLine I) 69 10 (f_X11_after (m_X11_next (if (I 69 11) ≤ 0 then I else (m_X11_wrong I 3 (I 65 4)))) 7 0 100)) 8 0 9)) 9 0 3)) 10 0 100)))) else True)
set_option maxHeartbeats 800000 in
set_option maxRecDepth 4000 in
theorem c_X11_chaletLine {k : KT} {ex : Bool} {J : Nat → Nat → Int64} {w : Bool} (I : Nat → Nat → Int32)   (hok : ok_X11_chaletLine I) : Cx k mX11_chaletLine 9 [.ref (ka k 65)] (81, ex, I, J, Pw w) none (81, ex, m_X11_chaletLine I, J, Pw w) := by
  refine Ct.of rfl [some (.ref (ka k 65))] rfl rfl (Nat.le_of_ble_eq_true rfl) ?_
  rw [ok_X11_chaletLine, opv_eq] at hok
  refine g_aload_n0 rfl d_X11_chaletLine_0 ?_
  refine g_getP (b := 69) f_X11_23 d_X11_chaletLine_1 rfl (Nat.le_of_ble_eq_true rfl) rfl rfl ?_
  refine g_bipush 11 d_X11_chaletLine_4 (by decide) ?_
  refine g_ialdv (I 69 11) rfl d_X11_chaletLine_6 rfl (Nat.le_of_ble_eq_true rfl) (vp_c (by decide +kernel)) ?_
  refine g_cut (pc' := 19) (vs' := [some (.ref (ka k 65))]) (st' := []) (M' := (81, ex, (if (I 69 11) ≤ 0 then I else (m_X11_wrong I 3 (I 65 4))), J, Pw w)) (fun hj => ?_) ?_
  · skip
    refine g_if_le 19 d_X11_chaletLine_7 (by decide) (fun h1 => ?_) (fun h1 => ?_)
    · skip
      (try simp only [if_pos h1, opv_eq, if_true, if_false, Bool.false_eq_true, reduceCtorEq, b2i_t, b2i_f] at hj); exact hj
    · skip
      refine g_aload_n0 rfl d_X11_chaletLine_10 ?_
      refine g_iconst 3 d_X11_chaletLine_11 (by decide) ?_
      refine g_aload_n0 rfl d_X11_chaletLine_12 ?_
      refine g_getI f_X11_79 d_X11_chaletLine_13 rfl (Nat.le_of_ble_eq_true rfl) rfl ?_
      refine g_callV0 (c_X11_wrong I 3 (I 65 4)) w_X11_wrong l_X11_125 d_X11_chaletLine_16 rfl (Nat.le_of_ble_eq_true rfl) rfl rfl (Nat.le_of_ble_eq_true rfl) ⟨Nat.le_of_ble_eq_true rfl, Nat.le_of_ble_eq_true rfl⟩ ⟨Nat.zero_le _, Nat.zero_le _⟩ ⟨rfl, rfl⟩ ?_
      (try simp only [if_neg h1, opv_eq, if_true, if_false, Bool.false_eq_true, reduceCtorEq, b2i_t, b2i_f] at hj); exact hj
  · skip
    refine g_aload_n0 rfl d_X11_chaletLine_19 ?_
    refine g_getI f_X11_98 d_X11_chaletLine_20 rfl (Nat.le_of_ble_eq_true rfl) rfl ?_
    refine g_if_eq 27 d_X11_chaletLine_23 (by decide) (fun h2 => ?_) (fun h2 => ?_)
    · skip
      rw [if_pos h2] at hok
      refine g_aload_n0 rfl d_X11_chaletLine_27 ?_
      obtain ⟨ho1, hok⟩ := hok
      refine g_callV0 (c_X11_next (if (I 69 11) ≤ 0 then I else (m_X11_wrong I 3 (I 65 4)))  ho1) w_X11_next l_X11_119 d_X11_chaletLine_28 rfl (Nat.le_of_ble_eq_true rfl) rfl rfl (Nat.le_of_ble_eq_true rfl) ⟨Nat.le_of_ble_eq_true rfl, Nat.le_of_ble_eq_true rfl⟩ ⟨Nat.zero_le _, Nat.zero_le _⟩ ⟨rfl, rfl⟩ ?_
      refine g_aload_n0 rfl d_X11_chaletLine_31 ?_
      refine g_getP (b := 69) f_X11_23 d_X11_chaletLine_32 rfl (Nat.le_of_ble_eq_true rfl) rfl rfl ?_
      refine g_bipush 10 d_X11_chaletLine_35 (by decide) ?_
      refine g_aload_n0 rfl d_X11_chaletLine_37 ?_
      refine g_ldcS (n := 7) (tx := "damp") (by decide) d_X11_chaletLine_38 ?_
      refine g_iconst 0 d_X11_chaletLine_40 (by decide) ?_
      refine g_bipush 100 d_X11_chaletLine_41 (by decide) ?_
      obtain ⟨ho2, hok⟩ := hok
      refine g_callV1 (c_X11_after (m_X11_next (if (I 69 11) ≤ 0 then I else (m_X11_wrong I 3 (I 65 4)))) 7 (by decide) 0 100 ho2) w_X11_after l_X11_221 d_X11_chaletLine_43 rfl (Nat.le_of_ble_eq_true rfl) rfl rfl (Nat.le_of_ble_eq_true rfl) ⟨Nat.le_of_ble_eq_true rfl, Nat.le_of_ble_eq_true rfl⟩ ⟨Nat.zero_le _, Nat.zero_le _⟩ ⟨rfl, rfl⟩ ?_
      refine G.toI (I' := (u0_X11_chaletLine I)) (by rw [u0_X11_chaletLine, opv_eq]) ?_
      refine g_iasts (n := 10) rfl d_X11_chaletLine_46 rfl (Nat.le_of_ble_eq_true rfl) (vp_c (by decide +kernel)) ?_
      refine g_aload_n0 rfl d_X11_chaletLine_47 ?_
      refine g_getP (b := 69) f_X11_23 d_X11_chaletLine_48 rfl (Nat.le_of_ble_eq_true rfl) rfl rfl ?_
      refine g_iconst 0 d_X11_chaletLine_51 (by decide) ?_
      refine g_aload_n0 rfl d_X11_chaletLine_52 ?_
      refine g_ldcS (n := 8) (tx := "wood") (by decide) d_X11_chaletLine_53 ?_
      refine g_iconst 0 d_X11_chaletLine_55 (by decide) ?_
      refine g_bipush 9 d_X11_chaletLine_56 (by decide) ?_
      obtain ⟨ho3, hok⟩ := hok
      refine g_callV1 (c_X11_after (st2 (u0_X11_chaletLine I) 69 10 (f_X11_after (m_X11_next (if (I 69 11) ≤ 0 then I else (m_X11_wrong I 3 (I 65 4)))) 7 0 100)) 8 (by decide) 0 9 ho3) w_X11_after l_X11_221 d_X11_chaletLine_58 rfl (Nat.le_of_ble_eq_true rfl) rfl rfl (Nat.le_of_ble_eq_true rfl) ⟨Nat.le_of_ble_eq_true rfl, Nat.le_of_ble_eq_true rfl⟩ ⟨Nat.zero_le _, Nat.zero_le _⟩ ⟨rfl, rfl⟩ ?_
      refine G.toI (I' := (u1_X11_chaletLine I)) (by rw [u1_X11_chaletLine, opv_eq]) ?_
      refine g_iasts (n := 0) rfl d_X11_chaletLine_61 rfl (Nat.le_of_ble_eq_true rfl) (vp_c (by decide +kernel)) ?_
      refine g_aload_n0 rfl d_X11_chaletLine_62 ?_
      refine g_getP (b := 69) f_X11_23 d_X11_chaletLine_63 rfl (Nat.le_of_ble_eq_true rfl) rfl rfl ?_
      refine g_iconst 1 d_X11_chaletLine_66 (by decide) ?_
      refine g_aload_n0 rfl d_X11_chaletLine_67 ?_
      refine g_ldcS (n := 9) (tx := "oil") (by decide) d_X11_chaletLine_68 ?_
      refine g_iconst 0 d_X11_chaletLine_70 (by decide) ?_
      refine g_iconst 3 d_X11_chaletLine_71 (by decide) ?_
      obtain ⟨ho4, hok⟩ := hok
      refine g_callV1 (c_X11_after (st2 (u1_X11_chaletLine I) 69 0 (f_X11_after (st2 (u0_X11_chaletLine I) 69 10 (f_X11_after (m_X11_next (if (I 69 11) ≤ 0 then I else (m_X11_wrong I 3 (I 65 4)))) 7 0 100)) 8 0 9)) 9 (by decide) 0 3 ho4) w_X11_after l_X11_221 d_X11_chaletLine_72 rfl (Nat.le_of_ble_eq_true rfl) rfl rfl (Nat.le_of_ble_eq_true rfl) ⟨Nat.le_of_ble_eq_true rfl, Nat.le_of_ble_eq_true rfl⟩ ⟨Nat.zero_le _, Nat.zero_le _⟩ ⟨rfl, rfl⟩ ?_
      refine G.toI (I' := (u2_X11_chaletLine I)) (by rw [u2_X11_chaletLine, opv_eq]) ?_
      refine g_iasts (n := 1) rfl d_X11_chaletLine_75 rfl (Nat.le_of_ble_eq_true rfl) (vp_c (by decide +kernel)) ?_
      refine g_aload_n0 rfl d_X11_chaletLine_76 ?_
      refine g_getP (b := 69) f_X11_23 d_X11_chaletLine_77 rfl (Nat.le_of_ble_eq_true rfl) rfl rfl ?_
      refine g_iconst 2 d_X11_chaletLine_80 (by decide) ?_
      refine g_aload_n0 rfl d_X11_chaletLine_81 ?_
      refine g_ldcS (n := 10) (tx := "gust") (by decide) d_X11_chaletLine_82 ?_
      refine g_iconst 0 d_X11_chaletLine_84 (by decide) ?_
      refine g_bipush 100 d_X11_chaletLine_85 (by decide) ?_
      have ho5 := hok
      refine g_callV1 (c_X11_after (st2 (u2_X11_chaletLine I) 69 1 (f_X11_after (st2 (u1_X11_chaletLine I) 69 0 (f_X11_after (st2 (u0_X11_chaletLine I) 69 10 (f_X11_after (m_X11_next (if (I 69 11) ≤ 0 then I else (m_X11_wrong I 3 (I 65 4)))) 7 0 100)) 8 0 9)) 9 0 3)) 10 (by decide) 0 100 ho5) w_X11_after l_X11_221 d_X11_chaletLine_87 rfl (Nat.le_of_ble_eq_true rfl) rfl rfl (Nat.le_of_ble_eq_true rfl) ⟨Nat.le_of_ble_eq_true rfl, Nat.le_of_ble_eq_true rfl⟩ ⟨Nat.zero_le _, Nat.zero_le _⟩ ⟨rfl, rfl⟩ ?_
      refine G.toI (I' := (u3_X11_chaletLine I)) (by rw [u3_X11_chaletLine, opv_eq]) ?_
      refine g_iasts (n := 2) rfl d_X11_chaletLine_90 rfl (Nat.le_of_ble_eq_true rfl) (vp_c (by decide +kernel)) ?_
      refine g_aload_n0 rfl d_X11_chaletLine_91 ?_
      refine g_getIv ((u3_X11_chaletLine I) 65 13) (st2_a _ _ (by decide)) f_X11_98 d_X11_chaletLine_92 rfl (Nat.le_of_ble_eq_true rfl) rfl ?_
      refine g_cut (pc' := 106) (vs' := [some (.ref (ka k 65))]) (st' := []) (M' := (81, ex, (u4_X11_chaletLine I), J, Pw w)) (fun hj => ?_) ?_
      · skip
        refine g_if_ne 106 d_X11_chaletLine_95 (by decide) (fun h3 => ?_) (fun h3 => ?_)
        · skip
          (try simp only [if_neg h3, opv_eq, if_true, if_false, Bool.false_eq_true, reduceCtorEq, b2i_t, b2i_f, u4_X11_chaletLine] at hj); exact hj
        · skip
          refine g_aload_n0 rfl d_X11_chaletLine_98 ?_
          refine g_getP (b := 69) f_X11_23 d_X11_chaletLine_99 rfl (Nat.le_of_ble_eq_true rfl) rfl rfl ?_
          refine g_bipush 11 d_X11_chaletLine_102 (by decide) ?_
          refine g_iconst 1 d_X11_chaletLine_104 (by decide) ?_
          refine g_iasts (n := 11) rfl d_X11_chaletLine_105 rfl (Nat.le_of_ble_eq_true rfl) (vp_c (by decide +kernel)) ?_
          (try simp only [if_pos h3, opv_eq, if_true, if_false, Bool.false_eq_true, reduceCtorEq, b2i_t, b2i_f, u4_X11_chaletLine] at hj); exact hj
      · skip
        exact g_vret rfl d_X11_chaletLine_106 ⟨rfl, by simp only [m_X11_chaletLine, if_pos h2, opv_eq, if_true, if_false, Bool.false_eq_true, reduceCtorEq, b2i_t, b2i_f]⟩ (Nat.le_refl _) (Nat.le_refl _)
    · skip
      exact g_vret rfl d_X11_chaletLine_26 ⟨rfl, by simp only [m_X11_chaletLine, if_neg h2, opv_eq, if_true, if_false, Bool.false_eq_true, reduceCtorEq, b2i_t, b2i_f]⟩ (Nat.le_refl _) (Nat.le_refl _)
noncomputable def u0_X11_weatherLine (I : Nat → Nat → Int32) : Nat → Nat → Int32 := opv (if (I 65 13) = 0 then (if (I 69 12) ≤ 0 then I else (m_X11_wrong I 3 (I 65 4))) else I)
noncomputable def u1_X11_weatherLine (I : Nat → Nat → Int32) : Nat → Nat → Int32 := opv (m_X11_after (st2 (m_X11_after (m_X11_next (u0_X11_weatherLine I)) 11 0 30) 69 3 (f_X11_after (m_X11_next (u0_X11_weatherLine I)) 11 0 30)) 12 0 30)
noncomputable def m_X11_weatherLine (I : Nat → Nat → Int32)  : Nat → Nat → Int32 := opv (if ((u0_X11_weatherLine I) 65 13) = 0 then (st2 (st2 (u1_X11_weatherLine I) 69 4 (f_X11_after (st2 (m_X11_after (m_X11_next (u0_X11_weatherLine I)) 11 0 30) 69 3 (f_X11_after (m_X11_next (u0_X11_weatherLine I)) 11 0 30)) 12 0 30)) 69 12 1) else (u0_X11_weatherLine I))
noncomputable def ok_X11_weatherLine (I : Nat → Nat → Int32)  : Prop := opv (if ((u0_X11_weatherLine I) 65 13) = 0 then (ok_X11_next (u0_X11_weatherLine I) ∧ (ok_X11_after (m_X11_next (u0_X11_weatherLine I)) 11 0 30 ∧ ok_X11_after (st2 (m_X11_after (m_X11_next (u0_X11_weatherLine I)) 11 0 30) 69 3 (f_X11_after (m_X11_next (u0_X11_weatherLine I)) 11 0 30)) 12 0 30)) else True)
set_option maxHeartbeats 800000 in
set_option maxRecDepth 4000 in
theorem c_X11_weatherLine {k : KT} {ex : Bool} {J : Nat → Nat → Int64} {w : Bool} (I : Nat → Nat → Int32)   (hok : ok_X11_weatherLine I) : Cx k mX11_weatherLine 9 [.ref (ka k 65)] (81, ex, I, J, Pw w) none (81, ex, m_X11_weatherLine I, J, Pw w) := by
  refine Ct.of rfl [some (.ref (ka k 65))] rfl rfl (Nat.le_of_ble_eq_true rfl) ?_
  rw [ok_X11_weatherLine, opv_eq] at hok
  refine g_aload_n0 rfl d_X11_weatherLine_0 ?_
  refine g_getI f_X11_98 d_X11_weatherLine_1 rfl (Nat.le_of_ble_eq_true rfl) rfl ?_
  refine g_cut (pc' := 26) (vs' := [some (.ref (ka k 65))]) (st' := []) (M' := (81, ex, (u0_X11_weatherLine I), J, Pw w)) (fun hj => ?_) ?_
  · skip
    refine g_if_ne 26 d_X11_weatherLine_4 (by decide) (fun h1 => ?_) (fun h1 => ?_)
    · skip
      (try simp only [if_neg h1, opv_eq, if_true, if_false, Bool.false_eq_true, reduceCtorEq, b2i_t, b2i_f, u0_X11_weatherLine] at hj); exact hj
    · skip
      refine g_aload_n0 rfl d_X11_weatherLine_7 ?_
      refine g_getP (b := 69) f_X11_23 d_X11_weatherLine_8 rfl (Nat.le_of_ble_eq_true rfl) rfl rfl ?_
      refine g_bipush 12 d_X11_weatherLine_11 (by decide) ?_
      refine g_ialdv (I 69 12) rfl d_X11_weatherLine_13 rfl (Nat.le_of_ble_eq_true rfl) (vp_c (by decide +kernel)) ?_
      refine g_if_le 26 d_X11_weatherLine_14 (by decide) (fun h2 => ?_) (fun h2 => ?_)
      · skip
        (try simp only [if_pos h1, if_pos h2, opv_eq, if_true, if_false, Bool.false_eq_true, reduceCtorEq, b2i_t, b2i_f, u0_X11_weatherLine] at hj); exact hj
      · skip
        refine g_aload_n0 rfl d_X11_weatherLine_17 ?_
        refine g_iconst 3 d_X11_weatherLine_18 (by decide) ?_
        refine g_aload_n0 rfl d_X11_weatherLine_19 ?_
        refine g_getI f_X11_79 d_X11_weatherLine_20 rfl (Nat.le_of_ble_eq_true rfl) rfl ?_
        refine g_callV0 (c_X11_wrong I 3 (I 65 4)) w_X11_wrong l_X11_125 d_X11_weatherLine_23 rfl (Nat.le_of_ble_eq_true rfl) rfl rfl (Nat.le_of_ble_eq_true rfl) ⟨Nat.le_of_ble_eq_true rfl, Nat.le_of_ble_eq_true rfl⟩ ⟨Nat.zero_le _, Nat.zero_le _⟩ ⟨rfl, rfl⟩ ?_
        (try simp only [if_pos h1, if_neg h2, opv_eq, if_true, if_false, Bool.false_eq_true, reduceCtorEq, b2i_t, b2i_f, u0_X11_weatherLine] at hj); exact hj
  · skip
    refine g_aload_n0 rfl d_X11_weatherLine_26 ?_
    refine g_getI f_X11_98 d_X11_weatherLine_27 rfl (Nat.le_of_ble_eq_true rfl) rfl ?_
    refine g_if_eq 34 d_X11_weatherLine_30 (by decide) (fun h3 => ?_) (fun h3 => ?_)
    · skip
      rw [if_pos h3] at hok
      refine g_aload_n0 rfl d_X11_weatherLine_34 ?_
      obtain ⟨ho1, hok⟩ := hok
      refine g_callV0 (c_X11_next (u0_X11_weatherLine I)  ho1) w_X11_next l_X11_119 d_X11_weatherLine_35 rfl (Nat.le_of_ble_eq_true rfl) rfl rfl (Nat.le_of_ble_eq_true rfl) ⟨Nat.le_of_ble_eq_true rfl, Nat.le_of_ble_eq_true rfl⟩ ⟨Nat.zero_le _, Nat.zero_le _⟩ ⟨rfl, rfl⟩ ?_
      refine g_aload_n0 rfl d_X11_weatherLine_38 ?_
      refine g_getP (b := 69) f_X11_23 d_X11_weatherLine_39 rfl (Nat.le_of_ble_eq_true rfl) rfl rfl ?_
      refine g_iconst 3 d_X11_weatherLine_42 (by decide) ?_
      refine g_aload_n0 rfl d_X11_weatherLine_43 ?_
      refine g_ldcS (n := 11) (tx := "wet") (by decide) d_X11_weatherLine_44 ?_
      refine g_iconst 0 d_X11_weatherLine_46 (by decide) ?_
      refine g_bipush 30 d_X11_weatherLine_47 (by decide) ?_
      obtain ⟨ho2, hok⟩ := hok
      refine g_callV1 (c_X11_after (m_X11_next (u0_X11_weatherLine I)) 11 (by decide) 0 30 ho2) w_X11_after l_X11_221 d_X11_weatherLine_49 rfl (Nat.le_of_ble_eq_true rfl) rfl rfl (Nat.le_of_ble_eq_true rfl) ⟨Nat.le_of_ble_eq_true rfl, Nat.le_of_ble_eq_true rfl⟩ ⟨Nat.zero_le _, Nat.zero_le _⟩ ⟨rfl, rfl⟩ ?_
      refine g_iasts (n := 3) rfl d_X11_weatherLine_52 rfl (Nat.le_of_ble_eq_true rfl) (vp_c (by decide +kernel)) ?_
      refine g_aload_n0 rfl d_X11_weatherLine_53 ?_
      refine g_getP (b := 69) f_X11_23 d_X11_weatherLine_54 rfl (Nat.le_of_ble_eq_true rfl) rfl rfl ?_
      refine g_iconst 4 d_X11_weatherLine_57 (by decide) ?_
      refine g_aload_n0 rfl d_X11_weatherLine_58 ?_
      refine g_ldcS (n := 12) (tx := "fine") (by decide) d_X11_weatherLine_59 ?_
      refine g_iconst 0 d_X11_weatherLine_61 (by decide) ?_
      refine g_bipush 30 d_X11_weatherLine_62 (by decide) ?_
      have ho3 := hok
      refine g_callV1 (c_X11_after (st2 (m_X11_after (m_X11_next (u0_X11_weatherLine I)) 11 0 30) 69 3 (f_X11_after (m_X11_next (u0_X11_weatherLine I)) 11 0 30)) 12 (by decide) 0 30 ho3) w_X11_after l_X11_221 d_X11_weatherLine_64 rfl (Nat.le_of_ble_eq_true rfl) rfl rfl (Nat.le_of_ble_eq_true rfl) ⟨Nat.le_of_ble_eq_true rfl, Nat.le_of_ble_eq_true rfl⟩ ⟨Nat.zero_le _, Nat.zero_le _⟩ ⟨rfl, rfl⟩ ?_
      refine G.toI (I' := (u1_X11_weatherLine I)) (by rw [u1_X11_weatherLine, opv_eq]) ?_
      refine g_iasts (n := 4) rfl d_X11_weatherLine_67 rfl (Nat.le_of_ble_eq_true rfl) (vp_c (by decide +kernel)) ?_
      refine g_aload_n0 rfl d_X11_weatherLine_68 ?_
      refine g_getP (b := 69) f_X11_23 d_X11_weatherLine_69 rfl (Nat.le_of_ble_eq_true rfl) rfl rfl ?_
      refine g_bipush 12 d_X11_weatherLine_72 (by decide) ?_
      refine g_iconst 1 d_X11_weatherLine_74 (by decide) ?_
      refine g_iasts (n := 12) rfl d_X11_weatherLine_75 rfl (Nat.le_of_ble_eq_true rfl) (vp_c (by decide +kernel)) ?_
      exact g_vret rfl d_X11_weatherLine_76 ⟨rfl, by simp only [m_X11_weatherLine, if_pos h3, opv_eq, if_true, if_false, Bool.false_eq_true, reduceCtorEq, b2i_t, b2i_f]⟩ (Nat.le_refl _) (Nat.le_refl _)
    · skip
      exact g_vret rfl d_X11_weatherLine_33 ⟨rfl, by simp only [m_X11_weatherLine, if_neg h3, opv_eq, if_true, if_false, Bool.false_eq_true, reduceCtorEq, b2i_t, b2i_f]⟩ (Nat.le_refl _) (Nat.le_refl _)
noncomputable def u0_X11_ventLine (I : Nat → Nat → Int32) : Nat → Nat → Int32 := opv (m_X11_weather (m_X11_newName (m_X11_next I) (6 + ((m_X11_next I) 69 5))))
noncomputable def u1_X11_ventLine (I : Nat → Nat → Int32) : Nat → Nat → Int32 := opv (m_X11_number (va_up (u0_X11_ventLine I) 69 (upd ((u0_X11_ventLine I) 69) (13 + (3 * ((m_X11_next I) 69 5))).toNatClampNeg (f_X11_weather (m_X11_newName (m_X11_next I) (6 + ((m_X11_next I) 69 5)))))) 1 9)
noncomputable def u2_X11_ventLine (I : Nat → Nat → Int32) : Nat → Nat → Int32 := opv (m_X11_after (va_up (u1_X11_ventLine I) 69 (upd ((u1_X11_ventLine I) 69) ((13 + (3 * ((m_X11_next I) 69 5))) + 1).toNatClampNeg (f_X11_number (va_up (u0_X11_ventLine I) 69 (upd ((u0_X11_ventLine I) 69) (13 + (3 * ((m_X11_next I) 69 5))).toNatClampNeg (f_X11_weather (m_X11_newName (m_X11_next I) (6 + ((m_X11_next I) 69 5)))))) 1 9))) 13 0 99)
noncomputable def u3_X11_ventLine (I : Nat → Nat → Int32) : Nat → Nat → Int32 := opv (if ((u2_X11_ventLine I) 65 13) = 0 then (st2 (va_up (u2_X11_ventLine I) 69 (upd ((u2_X11_ventLine I) 69) ((13 + (3 * ((m_X11_next I) 69 5))) + 2).toNatClampNeg (f_X11_after (va_up (u1_X11_ventLine I) 69 (upd ((u1_X11_ventLine I) 69) ((13 + (3 * ((m_X11_next I) 69 5))) + 1).toNatClampNeg (f_X11_number (va_up (u0_X11_ventLine I) 69 (upd ((u0_X11_ventLine I) 69) (13 + (3 * ((m_X11_next I) 69 5))).toNatClampNeg (f_X11_weather (m_X11_newName (m_X11_next I) (6 + ((m_X11_next I) 69 5)))))) 1 9))) 13 0 99))) 69 5 (((va_up (u2_X11_ventLine I) 69 (upd ((u2_X11_ventLine I) 69) ((13 + (3 * ((m_X11_next I) 69 5))) + 2).toNatClampNeg (f_X11_after (va_up (u1_X11_ventLine I) 69 (upd ((u1_X11_ventLine I) 69) ((13 + (3 * ((m_X11_next I) 69 5))) + 1).toNatClampNeg (f_X11_number (va_up (u0_X11_ventLine I) 69 (upd ((u0_X11_ventLine I) 69) (13 + (3 * ((m_X11_next I) 69 5))).toNatClampNeg (f_X11_weather (m_X11_newName (m_X11_next I) (6 + ((m_X11_next I) 69 5)))))) 1 9))) 13 0 99))) 69 5) + 1)) else (va_up (u2_X11_ventLine I) 69 (upd ((u2_X11_ventLine I) 69) ((13 + (3 * ((m_X11_next I) 69 5))) + 2).toNatClampNeg (f_X11_after (va_up (u1_X11_ventLine I) 69 (upd ((u1_X11_ventLine I) 69) ((13 + (3 * ((m_X11_next I) 69 5))) + 1).toNatClampNeg (f_X11_number (va_up (u0_X11_ventLine I) 69 (upd ((u0_X11_ventLine I) 69) (13 + (3 * ((m_X11_next I) 69 5))).toNatClampNeg (f_X11_weather (m_X11_newName (m_X11_next I) (6 + ((m_X11_next I) 69 5)))))) 1 9))) 13 0 99))))
noncomputable def m_X11_ventLine (I : Nat → Nat → Int32)  : Nat → Nat → Int32 := opv (if (I 65 13) = 0 then (u3_X11_ventLine I) else I)
noncomputable def ok_X11_ventLine (I : Nat → Nat → Int32)  : Prop := opv (if (I 65 13) = 0 then (ok_X11_next I ∧ (ok_X11_newName (m_X11_next I) (6 + ((m_X11_next I) 69 5)) ∧ (ok_X11_weather (m_X11_newName (m_X11_next I) (6 + ((m_X11_next I) 69 5))) ∧ (vp_in (13 + (3 * ((m_X11_next I) 69 5))) (sz 69) ∧ (ok_X11_number (va_up (u0_X11_ventLine I) 69 (upd ((u0_X11_ventLine I) 69) (13 + (3 * ((m_X11_next I) 69 5))).toNatClampNeg (f_X11_weather (m_X11_newName (m_X11_next I) (6 + ((m_X11_next I) 69 5)))))) 1 9 ∧ (vp_in ((13 + (3 * ((m_X11_next I) 69 5))) + 1) (sz 69) ∧ (ok_X11_after (va_up (u1_X11_ventLine I) 69 (upd ((u1_X11_ventLine I) 69) ((13 + (3 * ((m_X11_next I) 69 5))) + 1).toNatClampNeg (f_X11_number (va_up (u0_X11_ventLine I) 69 (upd ((u0_X11_ventLine I) 69) (13 + (3 * ((m_X11_next I) 69 5))).toNatClampNeg (f_X11_weather (m_X11_newName (m_X11_next I) (6 + ((m_X11_next I) 69 5)))))) 1 9))) 13 0 99 ∧ vp_in ((13 + (3 * ((m_X11_next I) 69 5))) + 2) (sz 69)))))))) else True)
set_option maxHeartbeats 800000 in
set_option maxRecDepth 4000 in
theorem c_X11_ventLine {k : KT} {ex : Bool} {J : Nat → Nat → Int64} {w : Bool} (I : Nat → Nat → Int32)   (hok : ok_X11_ventLine I) : Cx k mX11_ventLine 9 [.ref (ka k 65)] (81, ex, I, J, Pw w) none (81, ex, m_X11_ventLine I, J, Pw w) := by
  refine Ct.of rfl [some (.ref (ka k 65)), none] rfl rfl (Nat.le_of_ble_eq_true rfl) ?_
  rw [ok_X11_ventLine, opv_eq] at hok
  refine g_aload_n0 rfl d_X11_ventLine_0 ?_
  refine g_getI f_X11_98 d_X11_ventLine_1 rfl (Nat.le_of_ble_eq_true rfl) rfl ?_
  refine g_if_eq 8 d_X11_ventLine_4 (by decide) (fun h1 => ?_) (fun h1 => ?_)
  · skip
    rw [if_pos h1] at hok
    refine g_aload_n0 rfl d_X11_ventLine_8 ?_
    obtain ⟨ho1, hok⟩ := hok
    refine g_callV0 (c_X11_next I  ho1) w_X11_next l_X11_119 d_X11_ventLine_9 rfl (Nat.le_of_ble_eq_true rfl) rfl rfl (Nat.le_of_ble_eq_true rfl) ⟨Nat.le_of_ble_eq_true rfl, Nat.le_of_ble_eq_true rfl⟩ ⟨Nat.zero_le _, Nat.zero_le _⟩ ⟨rfl, rfl⟩ ?_
    refine g_bipush 13 d_X11_ventLine_12 (by decide) ?_
    refine g_iconst 3 d_X11_ventLine_14 (by decide) ?_
    refine g_aload_n0 rfl d_X11_ventLine_15 ?_
    refine g_getP (b := 69) f_X11_23 d_X11_ventLine_16 rfl (Nat.le_of_ble_eq_true rfl) rfl rfl ?_
    refine g_iconst 5 d_X11_ventLine_19 (by decide) ?_
    refine g_ialdv ((m_X11_next I) 69 5) rfl d_X11_ventLine_20 rfl (Nat.le_of_ble_eq_true rfl) (vp_c (by decide +kernel)) ?_
    refine g_imul d_X11_ventLine_21 ?_
    refine g_iadd d_X11_ventLine_22 ?_
    refine g_isn1 rfl d_X11_ventLine_23 ?_
    refine g_aload_n0 rfl d_X11_ventLine_24 ?_
    refine g_bipush 6 d_X11_ventLine_25 (by decide) ?_
    refine g_aload_n0 rfl d_X11_ventLine_27 ?_
    refine g_getP (b := 69) f_X11_23 d_X11_ventLine_28 rfl (Nat.le_of_ble_eq_true rfl) rfl rfl ?_
    refine g_iconst 5 d_X11_ventLine_31 (by decide) ?_
    refine g_ialdv ((m_X11_next I) 69 5) rfl d_X11_ventLine_32 rfl (Nat.le_of_ble_eq_true rfl) (vp_c (by decide +kernel)) ?_
    refine g_iadd d_X11_ventLine_33 ?_
    obtain ⟨ho2, hok⟩ := hok
    refine g_callV0 (c_X11_newName (m_X11_next I) (6 + ((m_X11_next I) 69 5)) ho2) w_X11_newName l_X11_231 d_X11_ventLine_34 rfl (Nat.le_of_ble_eq_true rfl) rfl rfl (Nat.le_of_ble_eq_true rfl) ⟨Nat.le_of_ble_eq_true rfl, Nat.le_of_ble_eq_true rfl⟩ ⟨Nat.zero_le _, Nat.zero_le _⟩ ⟨rfl, rfl⟩ ?_
    refine g_aload_n0 rfl d_X11_ventLine_37 ?_
    refine g_getP (b := 69) f_X11_23 d_X11_ventLine_38 rfl (Nat.le_of_ble_eq_true rfl) rfl rfl ?_
    refine g_iload_n1 rfl d_X11_ventLine_41 ?_
    refine g_aload_n0 rfl d_X11_ventLine_42 ?_
    obtain ⟨ho3, hok⟩ := hok
    refine g_callV1 (c_X11_weather (m_X11_newName (m_X11_next I) (6 + ((m_X11_next I) 69 5)))  ho3) w_X11_weather l_X11_235 d_X11_ventLine_43 rfl (Nat.le_of_ble_eq_true rfl) rfl rfl (Nat.le_of_ble_eq_true rfl) ⟨Nat.le_of_ble_eq_true rfl, Nat.le_of_ble_eq_true rfl⟩ ⟨Nat.zero_le _, Nat.zero_le _⟩ ⟨rfl, rfl⟩ ?_
    refine G.toI (I' := (u0_X11_ventLine I)) (by rw [u0_X11_ventLine, opv_eq]) ?_
    obtain ⟨ho4, hok⟩ := hok
    refine g_iast d_X11_ventLine_46 rfl (Nat.le_of_ble_eq_true rfl) ho4 ?_
    refine g_aload_n0 rfl d_X11_ventLine_47 ?_
    refine g_getP (b := 69) f_X11_23 d_X11_ventLine_48 rfl (Nat.le_of_ble_eq_true rfl) rfl rfl ?_
    refine g_iload_n1 rfl d_X11_ventLine_51 ?_
    refine g_iconst 1 d_X11_ventLine_52 (by decide) ?_
    refine g_iadd d_X11_ventLine_53 ?_
    refine g_aload_n0 rfl d_X11_ventLine_54 ?_
    refine g_iconst 1 d_X11_ventLine_55 (by decide) ?_
    refine g_bipush 9 d_X11_ventLine_56 (by decide) ?_
    obtain ⟨ho5, hok⟩ := hok
    refine g_callV1 (c_X11_number (va_up (u0_X11_ventLine I) 69 (upd ((u0_X11_ventLine I) 69) (13 + (3 * ((m_X11_next I) 69 5))).toNatClampNeg (f_X11_weather (m_X11_newName (m_X11_next I) (6 + ((m_X11_next I) 69 5)))))) 1 9 ho5) w_X11_number l_X11_161 d_X11_ventLine_58 rfl (Nat.le_of_ble_eq_true rfl) rfl rfl (Nat.le_of_ble_eq_true rfl) ⟨Nat.le_of_ble_eq_true rfl, Nat.le_of_ble_eq_true rfl⟩ ⟨Nat.zero_le _, Nat.zero_le _⟩ ⟨rfl, rfl⟩ ?_
    refine G.toI (I' := (u1_X11_ventLine I)) (by rw [u1_X11_ventLine, opv_eq]) ?_
    obtain ⟨ho6, hok⟩ := hok
    refine g_iast d_X11_ventLine_61 rfl (Nat.le_of_ble_eq_true rfl) ho6 ?_
    refine g_aload_n0 rfl d_X11_ventLine_62 ?_
    refine g_getP (b := 69) f_X11_23 d_X11_ventLine_63 rfl (Nat.le_of_ble_eq_true rfl) rfl rfl ?_
    refine g_iload_n1 rfl d_X11_ventLine_66 ?_
    refine g_iconst 2 d_X11_ventLine_67 (by decide) ?_
    refine g_iadd d_X11_ventLine_68 ?_
    refine g_aload_n0 rfl d_X11_ventLine_69 ?_
    refine g_ldcS (n := 13) (tx := "costs") (by decide) d_X11_ventLine_70 ?_
    refine g_iconst 0 d_X11_ventLine_72 (by decide) ?_
    refine g_bipush 99 d_X11_ventLine_73 (by decide) ?_
    obtain ⟨ho7, hok⟩ := hok
    refine g_callV1 (c_X11_after (va_up (u1_X11_ventLine I) 69 (upd ((u1_X11_ventLine I) 69) ((13 + (3 * ((m_X11_next I) 69 5))) + 1).toNatClampNeg (f_X11_number (va_up (u0_X11_ventLine I) 69 (upd ((u0_X11_ventLine I) 69) (13 + (3 * ((m_X11_next I) 69 5))).toNatClampNeg (f_X11_weather (m_X11_newName (m_X11_next I) (6 + ((m_X11_next I) 69 5)))))) 1 9))) 13 (by decide) 0 99 ho7) w_X11_after l_X11_221 d_X11_ventLine_75 rfl (Nat.le_of_ble_eq_true rfl) rfl rfl (Nat.le_of_ble_eq_true rfl) ⟨Nat.le_of_ble_eq_true rfl, Nat.le_of_ble_eq_true rfl⟩ ⟨Nat.zero_le _, Nat.zero_le _⟩ ⟨rfl, rfl⟩ ?_
    refine G.toI (I' := (u2_X11_ventLine I)) (by rw [u2_X11_ventLine, opv_eq]) ?_
    have ho8 := hok
    refine g_iast d_X11_ventLine_78 rfl (Nat.le_of_ble_eq_true rfl) ho8 ?_
    refine g_aload_n0 rfl d_X11_ventLine_79 ?_
    refine g_getIv ((u2_X11_ventLine I) 65 13) (vu_a _ _ (by decide) _) f_X11_98 d_X11_ventLine_80 rfl (Nat.le_of_ble_eq_true rfl) rfl ?_
    refine g_cut (pc' := 96) (vs' := [some (.ref (ka k 65)), some (.int (13 + (3 * ((m_X11_next I) 69 5))))]) (st' := []) (M' := (81, ex, (u3_X11_ventLine I), J, Pw w)) (fun hj => ?_) ?_
    · skip
      refine g_if_ne 96 d_X11_ventLine_83 (by decide) (fun h2 => ?_) (fun h2 => ?_)
      · skip
        (try simp only [if_neg h2, opv_eq, if_true, if_false, Bool.false_eq_true, reduceCtorEq, b2i_t, b2i_f, u3_X11_ventLine] at hj); exact hj
      · skip
        refine g_aload_n0 rfl d_X11_ventLine_86 ?_
        refine g_getP (b := 69) f_X11_23 d_X11_ventLine_87 rfl (Nat.le_of_ble_eq_true rfl) rfl rfl ?_
        refine g_iconst 5 d_X11_ventLine_90 (by decide) ?_
        refine g_dup2 rfl rfl d_X11_ventLine_91 ?_
        refine g_ialdv ((va_up (u2_X11_ventLine I) 69 (upd ((u2_X11_ventLine I) 69) ((13 + (3 * ((m_X11_next I) 69 5))) + 2).toNatClampNeg (f_X11_after (va_up (u1_X11_ventLine I) 69 (upd ((u1_X11_ventLine I) 69) ((13 + (3 * ((m_X11_next I) 69 5))) + 1).toNatClampNeg (f_X11_number (va_up (u0_X11_ventLine I) 69 (upd ((u0_X11_ventLine I) 69) (13 + (3 * ((m_X11_next I) 69 5))).toNatClampNeg (f_X11_weather (m_X11_newName (m_X11_next I) (6 + ((m_X11_next I) 69 5)))))) 1 9))) 13 0 99))) 69 5) rfl d_X11_ventLine_92 rfl (Nat.le_of_ble_eq_true rfl) (vp_c (by decide +kernel)) ?_
        refine g_iconst 1 d_X11_ventLine_93 (by decide) ?_
        refine g_iadd d_X11_ventLine_94 ?_
        refine g_iasts (n := 5) rfl d_X11_ventLine_95 rfl (Nat.le_of_ble_eq_true rfl) (vp_c (by decide +kernel)) ?_
        (try simp only [if_pos h2, opv_eq, if_true, if_false, Bool.false_eq_true, reduceCtorEq, b2i_t, b2i_f, u3_X11_ventLine] at hj); exact hj
    · skip
      exact g_vret rfl d_X11_ventLine_96 ⟨rfl, by simp only [m_X11_ventLine, if_pos h1, opv_eq, if_true, if_false, Bool.false_eq_true, reduceCtorEq, b2i_t, b2i_f]⟩ (Nat.le_refl _) (Nat.le_refl _)
  · skip
    exact g_vret rfl d_X11_ventLine_7 ⟨rfl, by simp only [m_X11_ventLine, if_neg h1, opv_eq, if_true, if_false, Bool.false_eq_true, reduceCtorEq, b2i_t, b2i_f]⟩ (Nat.le_refl _) (Nat.le_refl _)
noncomputable def u0_X11_planLine (I : Nat → Nat → Int32) : Nat → Nat → Int32 := opv (m_X11_after (m_X11_newName (m_X11_next I) (10 + ((m_X11_next I) 69 6))) 14 0 20)
noncomputable def u1_X11_planLine (I : Nat → Nat → Int32) : Nat → Nat → Int32 := opv (m_X11_weather (va_up (u0_X11_planLine I) 69 (upd ((u0_X11_planLine I) 69) (25 + (3 * ((m_X11_next I) 69 6))).toNatClampNeg (f_X11_after (m_X11_newName (m_X11_next I) (10 + ((m_X11_next I) 69 6))) 14 0 20))))
noncomputable def u2_X11_planLine (I : Nat → Nat → Int32) : Nat → Nat → Int32 := opv (m_X11_after (va_up (u1_X11_planLine I) 69 (upd ((u1_X11_planLine I) 69) ((25 + (3 * ((m_X11_next I) 69 6))) + 1).toNatClampNeg (f_X11_weather (va_up (u0_X11_planLine I) 69 (upd ((u0_X11_planLine I) 69) (25 + (3 * ((m_X11_next I) 69 6))).toNatClampNeg (f_X11_after (m_X11_newName (m_X11_next I) (10 + ((m_X11_next I) 69 6))) 14 0 20)))))) 15 0 99)
noncomputable def u3_X11_planLine (I : Nat → Nat → Int32) : Nat → Nat → Int32 := opv (if ((u2_X11_planLine I) 65 13) = 0 then (st2 (va_up (u2_X11_planLine I) 69 (upd ((u2_X11_planLine I) 69) ((25 + (3 * ((m_X11_next I) 69 6))) + 2).toNatClampNeg (f_X11_after (va_up (u1_X11_planLine I) 69 (upd ((u1_X11_planLine I) 69) ((25 + (3 * ((m_X11_next I) 69 6))) + 1).toNatClampNeg (f_X11_weather (va_up (u0_X11_planLine I) 69 (upd ((u0_X11_planLine I) 69) (25 + (3 * ((m_X11_next I) 69 6))).toNatClampNeg (f_X11_after (m_X11_newName (m_X11_next I) (10 + ((m_X11_next I) 69 6))) 14 0 20)))))) 15 0 99))) 69 6 (((va_up (u2_X11_planLine I) 69 (upd ((u2_X11_planLine I) 69) ((25 + (3 * ((m_X11_next I) 69 6))) + 2).toNatClampNeg (f_X11_after (va_up (u1_X11_planLine I) 69 (upd ((u1_X11_planLine I) 69) ((25 + (3 * ((m_X11_next I) 69 6))) + 1).toNatClampNeg (f_X11_weather (va_up (u0_X11_planLine I) 69 (upd ((u0_X11_planLine I) 69) (25 + (3 * ((m_X11_next I) 69 6))).toNatClampNeg (f_X11_after (m_X11_newName (m_X11_next I) (10 + ((m_X11_next I) 69 6))) 14 0 20)))))) 15 0 99))) 69 6) + 1)) else (va_up (u2_X11_planLine I) 69 (upd ((u2_X11_planLine I) 69) ((25 + (3 * ((m_X11_next I) 69 6))) + 2).toNatClampNeg (f_X11_after (va_up (u1_X11_planLine I) 69 (upd ((u1_X11_planLine I) 69) ((25 + (3 * ((m_X11_next I) 69 6))) + 1).toNatClampNeg (f_X11_weather (va_up (u0_X11_planLine I) 69 (upd ((u0_X11_planLine I) 69) (25 + (3 * ((m_X11_next I) 69 6))).toNatClampNeg (f_X11_after (m_X11_newName (m_X11_next I) (10 + ((m_X11_next I) 69 6))) 14 0 20)))))) 15 0 99))))
noncomputable def m_X11_planLine (I : Nat → Nat → Int32)  : Nat → Nat → Int32 := opv (if (I 65 13) = 0 then (u3_X11_planLine I) else I)
noncomputable def ok_X11_planLine (I : Nat → Nat → Int32)  : Prop := opv (if (I 65 13) = 0 then (ok_X11_next I ∧ (ok_X11_newName (m_X11_next I) (10 + ((m_X11_next I) 69 6)) ∧ (ok_X11_after (m_X11_newName (m_X11_next I) (10 + ((m_X11_next I) 69 6))) 14 0 20 ∧ (vp_in (25 + (3 * ((m_X11_next I) 69 6))) (sz 69) ∧ (ok_X11_weather (va_up (u0_X11_planLine I) 69 (upd ((u0_X11_planLine I) 69) (25 + (3 * ((m_X11_next I) 69 6))).toNatClampNeg (f_X11_after (m_X11_newName (m_X11_next I) (10 + ((m_X11_next I) 69 6))) 14 0 20))) ∧ (vp_in ((25 + (3 * ((m_X11_next I) 69 6))) + 1) (sz 69) ∧ (ok_X11_after (va_up (u1_X11_planLine I) 69 (upd ((u1_X11_planLine I) 69) ((25 + (3 * ((m_X11_next I) 69 6))) + 1).toNatClampNeg (f_X11_weather (va_up (u0_X11_planLine I) 69 (upd ((u0_X11_planLine I) 69) (25 + (3 * ((m_X11_next I) 69 6))).toNatClampNeg (f_X11_after (m_X11_newName (m_X11_next I) (10 + ((m_X11_next I) 69 6))) 14 0 20)))))) 15 0 99 ∧ vp_in ((25 + (3 * ((m_X11_next I) 69 6))) + 2) (sz 69)))))))) else True)
set_option maxHeartbeats 800000 in
set_option maxRecDepth 4000 in
theorem c_X11_planLine {k : KT} {ex : Bool} {J : Nat → Nat → Int64} {w : Bool} (I : Nat → Nat → Int32)   (hok : ok_X11_planLine I) : Cx k mX11_planLine 9 [.ref (ka k 65)] (81, ex, I, J, Pw w) none (81, ex, m_X11_planLine I, J, Pw w) := by
  refine Ct.of rfl [some (.ref (ka k 65)), none] rfl rfl (Nat.le_of_ble_eq_true rfl) ?_
  rw [ok_X11_planLine, opv_eq] at hok
  refine g_aload_n0 rfl d_X11_planLine_0 ?_
  refine g_getI f_X11_98 d_X11_planLine_1 rfl (Nat.le_of_ble_eq_true rfl) rfl ?_
  refine g_if_eq 8 d_X11_planLine_4 (by decide) (fun h1 => ?_) (fun h1 => ?_)
  · skip
    rw [if_pos h1] at hok
    refine g_aload_n0 rfl d_X11_planLine_8 ?_
    obtain ⟨ho1, hok⟩ := hok
    refine g_callV0 (c_X11_next I  ho1) w_X11_next l_X11_119 d_X11_planLine_9 rfl (Nat.le_of_ble_eq_true rfl) rfl rfl (Nat.le_of_ble_eq_true rfl) ⟨Nat.le_of_ble_eq_true rfl, Nat.le_of_ble_eq_true rfl⟩ ⟨Nat.zero_le _, Nat.zero_le _⟩ ⟨rfl, rfl⟩ ?_
    refine g_bipush 25 d_X11_planLine_12 (by decide) ?_
    refine g_iconst 3 d_X11_planLine_14 (by decide) ?_
    refine g_aload_n0 rfl d_X11_planLine_15 ?_
    refine g_getP (b := 69) f_X11_23 d_X11_planLine_16 rfl (Nat.le_of_ble_eq_true rfl) rfl rfl ?_
    refine g_bipush 6 d_X11_planLine_19 (by decide) ?_
    refine g_ialdv ((m_X11_next I) 69 6) rfl d_X11_planLine_21 rfl (Nat.le_of_ble_eq_true rfl) (vp_c (by decide +kernel)) ?_
    refine g_imul d_X11_planLine_22 ?_
    refine g_iadd d_X11_planLine_23 ?_
    refine g_isn1 rfl d_X11_planLine_24 ?_
    refine g_aload_n0 rfl d_X11_planLine_25 ?_
    refine g_bipush 10 d_X11_planLine_26 (by decide) ?_
    refine g_aload_n0 rfl d_X11_planLine_28 ?_
    refine g_getP (b := 69) f_X11_23 d_X11_planLine_29 rfl (Nat.le_of_ble_eq_true rfl) rfl rfl ?_
    refine g_bipush 6 d_X11_planLine_32 (by decide) ?_
    refine g_ialdv ((m_X11_next I) 69 6) rfl d_X11_planLine_34 rfl (Nat.le_of_ble_eq_true rfl) (vp_c (by decide +kernel)) ?_
    refine g_iadd d_X11_planLine_35 ?_
    obtain ⟨ho2, hok⟩ := hok
    refine g_callV0 (c_X11_newName (m_X11_next I) (10 + ((m_X11_next I) 69 6)) ho2) w_X11_newName l_X11_231 d_X11_planLine_36 rfl (Nat.le_of_ble_eq_true rfl) rfl rfl (Nat.le_of_ble_eq_true rfl) ⟨Nat.le_of_ble_eq_true rfl, Nat.le_of_ble_eq_true rfl⟩ ⟨Nat.zero_le _, Nat.zero_le _⟩ ⟨rfl, rfl⟩ ?_
    refine g_aload_n0 rfl d_X11_planLine_39 ?_
    refine g_getP (b := 69) f_X11_23 d_X11_planLine_40 rfl (Nat.le_of_ble_eq_true rfl) rfl rfl ?_
    refine g_iload_n1 rfl d_X11_planLine_43 ?_
    refine g_aload_n0 rfl d_X11_planLine_44 ?_
    refine g_ldcS (n := 14) (tx := "on") (by decide) d_X11_planLine_45 ?_
    refine g_iconst 0 d_X11_planLine_47 (by decide) ?_
    refine g_bipush 20 d_X11_planLine_48 (by decide) ?_
    obtain ⟨ho3, hok⟩ := hok
    refine g_callV1 (c_X11_after (m_X11_newName (m_X11_next I) (10 + ((m_X11_next I) 69 6))) 14 (by decide) 0 20 ho3) w_X11_after l_X11_221 d_X11_planLine_50 rfl (Nat.le_of_ble_eq_true rfl) rfl rfl (Nat.le_of_ble_eq_true rfl) ⟨Nat.le_of_ble_eq_true rfl, Nat.le_of_ble_eq_true rfl⟩ ⟨Nat.zero_le _, Nat.zero_le _⟩ ⟨rfl, rfl⟩ ?_
    refine G.toI (I' := (u0_X11_planLine I)) (by rw [u0_X11_planLine, opv_eq]) ?_
    obtain ⟨ho4, hok⟩ := hok
    refine g_iast d_X11_planLine_53 rfl (Nat.le_of_ble_eq_true rfl) ho4 ?_
    refine g_aload_n0 rfl d_X11_planLine_54 ?_
    refine g_getP (b := 69) f_X11_23 d_X11_planLine_55 rfl (Nat.le_of_ble_eq_true rfl) rfl rfl ?_
    refine g_iload_n1 rfl d_X11_planLine_58 ?_
    refine g_iconst 1 d_X11_planLine_59 (by decide) ?_
    refine g_iadd d_X11_planLine_60 ?_
    refine g_aload_n0 rfl d_X11_planLine_61 ?_
    obtain ⟨ho5, hok⟩ := hok
    refine g_callV1 (c_X11_weather (va_up (u0_X11_planLine I) 69 (upd ((u0_X11_planLine I) 69) (25 + (3 * ((m_X11_next I) 69 6))).toNatClampNeg (f_X11_after (m_X11_newName (m_X11_next I) (10 + ((m_X11_next I) 69 6))) 14 0 20)))  ho5) w_X11_weather l_X11_235 d_X11_planLine_62 rfl (Nat.le_of_ble_eq_true rfl) rfl rfl (Nat.le_of_ble_eq_true rfl) ⟨Nat.le_of_ble_eq_true rfl, Nat.le_of_ble_eq_true rfl⟩ ⟨Nat.zero_le _, Nat.zero_le _⟩ ⟨rfl, rfl⟩ ?_
    refine G.toI (I' := (u1_X11_planLine I)) (by rw [u1_X11_planLine, opv_eq]) ?_
    obtain ⟨ho6, hok⟩ := hok
    refine g_iast d_X11_planLine_65 rfl (Nat.le_of_ble_eq_true rfl) ho6 ?_
    refine g_aload_n0 rfl d_X11_planLine_66 ?_
    refine g_getP (b := 69) f_X11_23 d_X11_planLine_67 rfl (Nat.le_of_ble_eq_true rfl) rfl rfl ?_
    refine g_iload_n1 rfl d_X11_planLine_70 ?_
    refine g_iconst 2 d_X11_planLine_71 (by decide) ?_
    refine g_iadd d_X11_planLine_72 ?_
    refine g_aload_n0 rfl d_X11_planLine_73 ?_
    refine g_ldcS (n := 15) (tx := "worth") (by decide) d_X11_planLine_74 ?_
    refine g_iconst 0 d_X11_planLine_76 (by decide) ?_
    refine g_bipush 99 d_X11_planLine_77 (by decide) ?_
    obtain ⟨ho7, hok⟩ := hok
    refine g_callV1 (c_X11_after (va_up (u1_X11_planLine I) 69 (upd ((u1_X11_planLine I) 69) ((25 + (3 * ((m_X11_next I) 69 6))) + 1).toNatClampNeg (f_X11_weather (va_up (u0_X11_planLine I) 69 (upd ((u0_X11_planLine I) 69) (25 + (3 * ((m_X11_next I) 69 6))).toNatClampNeg (f_X11_after (m_X11_newName (m_X11_next I) (10 + ((m_X11_next I) 69 6))) 14 0 20)))))) 15 (by decide) 0 99 ho7) w_X11_after l_X11_221 d_X11_planLine_79 rfl (Nat.le_of_ble_eq_true rfl) rfl rfl (Nat.le_of_ble_eq_true rfl) ⟨Nat.le_of_ble_eq_true rfl, Nat.le_of_ble_eq_true rfl⟩ ⟨Nat.zero_le _, Nat.zero_le _⟩ ⟨rfl, rfl⟩ ?_
    refine G.toI (I' := (u2_X11_planLine I)) (by rw [u2_X11_planLine, opv_eq]) ?_
    have ho8 := hok
    refine g_iast d_X11_planLine_82 rfl (Nat.le_of_ble_eq_true rfl) ho8 ?_
    refine g_aload_n0 rfl d_X11_planLine_83 ?_
    refine g_getIv ((u2_X11_planLine I) 65 13) (vu_a _ _ (by decide) _) f_X11_98 d_X11_planLine_84 rfl (Nat.le_of_ble_eq_true rfl) rfl ?_
    refine g_cut (pc' := 101) (vs' := [some (.ref (ka k 65)), some (.int (25 + (3 * ((m_X11_next I) 69 6))))]) (st' := []) (M' := (81, ex, (u3_X11_planLine I), J, Pw w)) (fun hj => ?_) ?_
    · skip
      refine g_if_ne 101 d_X11_planLine_87 (by decide) (fun h2 => ?_) (fun h2 => ?_)
      · skip
        (try simp only [if_neg h2, opv_eq, if_true, if_false, Bool.false_eq_true, reduceCtorEq, b2i_t, b2i_f, u3_X11_planLine] at hj); exact hj
      · skip
        refine g_aload_n0 rfl d_X11_planLine_90 ?_
        refine g_getP (b := 69) f_X11_23 d_X11_planLine_91 rfl (Nat.le_of_ble_eq_true rfl) rfl rfl ?_
        refine g_bipush 6 d_X11_planLine_94 (by decide) ?_
        refine g_dup2 rfl rfl d_X11_planLine_96 ?_
        refine g_ialdv ((va_up (u2_X11_planLine I) 69 (upd ((u2_X11_planLine I) 69) ((25 + (3 * ((m_X11_next I) 69 6))) + 2).toNatClampNeg (f_X11_after (va_up (u1_X11_planLine I) 69 (upd ((u1_X11_planLine I) 69) ((25 + (3 * ((m_X11_next I) 69 6))) + 1).toNatClampNeg (f_X11_weather (va_up (u0_X11_planLine I) 69 (upd ((u0_X11_planLine I) 69) (25 + (3 * ((m_X11_next I) 69 6))).toNatClampNeg (f_X11_after (m_X11_newName (m_X11_next I) (10 + ((m_X11_next I) 69 6))) 14 0 20)))))) 15 0 99))) 69 6) rfl d_X11_planLine_97 rfl (Nat.le_of_ble_eq_true rfl) (vp_c (by decide +kernel)) ?_
        refine g_iconst 1 d_X11_planLine_98 (by decide) ?_
        refine g_iadd d_X11_planLine_99 ?_
        refine g_iasts (n := 6) rfl d_X11_planLine_100 rfl (Nat.le_of_ble_eq_true rfl) (vp_c (by decide +kernel)) ?_
        (try simp only [if_pos h2, opv_eq, if_true, if_false, Bool.false_eq_true, reduceCtorEq, b2i_t, b2i_f, u3_X11_planLine] at hj); exact hj
    · skip
      exact g_vret rfl d_X11_planLine_101 ⟨rfl, by simp only [m_X11_planLine, if_pos h1, opv_eq, if_true, if_false, Bool.false_eq_true, reduceCtorEq, b2i_t, b2i_f]⟩ (Nat.le_refl _) (Nat.le_refl _)
  · skip
    exact g_vret rfl d_X11_planLine_7 ⟨rfl, by simp only [m_X11_planLine, if_neg h1, opv_eq, if_true, if_false, Bool.false_eq_true, reduceCtorEq, b2i_t, b2i_f]⟩ (Nat.le_refl _) (Nat.le_refl _)
noncomputable def u0_X11_sawLine (l2 : Int32) (l3 : Int32) (I1 : Nat → Nat → Int32) : Nat → Nat → Int32 := opv (if (I1 65 13) = 0 then (if (I1 69 (43 + (2 * l3)).toNatClampNeg) = l2 then (m_X11_wrong I1 3 (I1 65 4)) else I1) else I1)
noncomputable def lp_X11_sawLine_41 (l1 : Int32) (l2 : Int32) : Nat → Int32 → (Nat → Nat → Int32) → Int32 × (Nat → Nat → Int32)
  | 0, l3, I1 => (l3, I1)
  | n + 1, l3, I1 => (if (I1 69 7) ≤ l3 then (l3, I1) else (lp_X11_sawLine_41 l1 l2 n (l3 + 1) (u0_X11_sawLine l2 l3 I1)))
def oklp_X11_sawLine_41 (l1 : Int32) (l2 : Int32) : Nat → Int32 → (Nat → Nat → Int32) → Prop
  | 0, l3, I1 => False
  | n + 1, l3, I1 => (if (I1 69 7) ≤ l3 then True else ((if (I1 65 13) = 0 then vp_in (43 + (2 * l3)) (sz 69) else True) ∧ oklp_X11_sawLine_41 l1 l2 n (l3 + 1) (u0_X11_sawLine l2 l3 I1)))
set_option maxHeartbeats 800000 in
set_option maxRecDepth 4000 in
theorem k_lp_X11_sawLine_41 {k : KT} {ex : Bool} {J : Nat → Nat → Int64} {w : Bool} (l1 : Int32) (l2 : Int32) {F : FinT} : ∀ (n : Nat) (l3 : Int32) (I1 : (Nat → Nat → Int32)), oklp_X11_sawLine_41 l1 l2 n l3 I1 → G k mX11_sawLine (roomOf 8 0 0) F 0 0 89 [some (.ref (ka k 65)), some (.int l1), some (.int l2), some (.int ((lp_X11_sawLine_41 l1 l2 n l3 I1).1))] [] (81, ex, (lp_X11_sawLine_41 l1 l2 n l3 I1).2, J, Pw w) → G k mX11_sawLine (roomOf 8 0 0) F 0 0 41 [some (.ref (ka k 65)), some (.int l1), some (.int l2), some (.int l3)] [] (81, ex, I1, J, Pw w) := by
  intro n
  induction n with
  | zero => intro l3 I1 hok hj; exact absurd hok (by rw [oklp_X11_sawLine_41]; exact id)
  | succ n ih =>
    intro l3 I1 hok hj
    rw [oklp_X11_sawLine_41] at hok
    refine g_iload_n3 rfl d_X11_sawLine_41 ?_
    refine g_aload_n0 rfl d_X11_sawLine_42 ?_
    refine g_getP (b := 69) f_X11_23 d_X11_sawLine_43 rfl (Nat.le_of_ble_eq_true rfl) rfl rfl ?_
    refine g_bipush 7 d_X11_sawLine_46 (by decide) ?_
    refine g_ialdv (I1 69 7) rfl d_X11_sawLine_48 rfl (Nat.le_of_ble_eq_true rfl) (vp_c (by decide +kernel)) ?_
    refine g_icmp_ge 89 d_X11_sawLine_49 (by decide) (fun h1 => ?_) (fun h1 => ?_)
    · skip
      (try simp only [lp_X11_sawLine_41, if_pos h1, opv_eq, if_true, if_false, Bool.false_eq_true, reduceCtorEq, b2i_t, b2i_f] at hj); exact hj
    · skip
      rw [if_neg h1] at hok
      refine g_aload_n0 rfl d_X11_sawLine_52 ?_
      refine g_getI f_X11_98 d_X11_sawLine_53 rfl (Nat.le_of_ble_eq_true rfl) rfl ?_
      obtain ⟨hoa, hob⟩ := hok
      refine g_cut (pc' := 83) (vs' := [some (.ref (ka k 65)), some (.int l1), some (.int l2), some (.int l3)]) (st' := []) (M' := (81, ex, (u0_X11_sawLine l2 l3 I1), J, Pw w)) (fun hj => ?_) ?_
      · skip
        refine g_if_ne 83 d_X11_sawLine_56 (by decide) (fun h2 => ?_) (fun h2 => ?_)
        · skip
          (try simp only [if_neg h2, opv_eq, if_true, if_false, Bool.false_eq_true, reduceCtorEq, b2i_t, b2i_f, u0_X11_sawLine] at hj); exact hj
        · skip
          rw [if_pos h2] at hoa
          refine g_aload_n0 rfl d_X11_sawLine_59 ?_
          refine g_getP (b := 69) f_X11_23 d_X11_sawLine_60 rfl (Nat.le_of_ble_eq_true rfl) rfl rfl ?_
          refine g_bipush 43 d_X11_sawLine_63 (by decide) ?_
          refine g_iconst 2 d_X11_sawLine_65 (by decide) ?_
          refine g_iload_n3 rfl d_X11_sawLine_66 ?_
          refine g_imul d_X11_sawLine_67 ?_
          refine g_iadd d_X11_sawLine_68 ?_
          have ho3 := hoa
          refine g_iald d_X11_sawLine_69 rfl (Nat.le_of_ble_eq_true rfl) ho3 ?_
          refine g_iload_n2 rfl d_X11_sawLine_70 ?_
          refine g_icmp_ne 83 d_X11_sawLine_71 (by decide) (fun h3 => ?_) (fun h3 => ?_)
          · skip
            (try simp only [if_pos h2, if_neg h3, opv_eq, if_true, if_false, Bool.false_eq_true, reduceCtorEq, b2i_t, b2i_f, u0_X11_sawLine] at hj); exact hj
          · skip
            refine g_aload_n0 rfl d_X11_sawLine_74 ?_
            refine g_iconst 3 d_X11_sawLine_75 (by decide) ?_
            refine g_aload_n0 rfl d_X11_sawLine_76 ?_
            refine g_getI f_X11_79 d_X11_sawLine_77 rfl (Nat.le_of_ble_eq_true rfl) rfl ?_
            refine g_callV0 (c_X11_wrong I1 3 (I1 65 4)) w_X11_wrong l_X11_125 d_X11_sawLine_80 rfl (Nat.le_of_ble_eq_true rfl) rfl rfl (Nat.le_of_ble_eq_true rfl) ⟨Nat.le_of_ble_eq_true rfl, Nat.le_of_ble_eq_true rfl⟩ ⟨Nat.zero_le _, Nat.zero_le _⟩ ⟨rfl, rfl⟩ ?_
            (try simp only [if_pos h2, if_pos h3, opv_eq, if_true, if_false, Bool.false_eq_true, reduceCtorEq, b2i_t, b2i_f, u0_X11_sawLine] at hj); exact hj
      · skip
        refine g_ic3 (l3 + 1) rfl rfl d_X11_sawLine_83 ?_
        refine g_goto 41 d_X11_sawLine_86 (by decide) ?_
        exact ih (l3 + 1) (u0_X11_sawLine l2 l3 I1) (by (try simp only [if_neg h1, opv_eq, if_true, if_false, Bool.false_eq_true, reduceCtorEq, b2i_t, b2i_f] at hob); exact hob) (by (try simp only [lp_X11_sawLine_41, if_neg h1, opv_eq, if_true, if_false, Bool.false_eq_true, reduceCtorEq, b2i_t, b2i_f] at hj); exact hj)
noncomputable def u1_X11_sawLine (I : Nat → Nat → Int32) : Nat → Nat → Int32 := opv (m_X11_next ((lp_X11_sawLine_41 (43 + (2 * ((m_X11_next I) 69 7))) (f_X11_numberHere (m_X11_must (m_X11_next I) 16) 0 20) (opq 100) 0 (m_X11_numberHere (m_X11_must (m_X11_next I) 16) 0 20)).2))
noncomputable def u2_X11_sawLine (I : Nat → Nat → Int32) : Int32 := opv (if (f_X11_isWord (u1_X11_sawLine I) 17) = true then 0 else (if (f_X11_isWord (u1_X11_sawLine I) 18) = true then 1 else (if (f_X11_isWord (u1_X11_sawLine I) 19) = true then 2 else (if (f_X11_isWord (u1_X11_sawLine I) 20) = true then 3 else (-1)))))
noncomputable def u3_X11_sawLine (I : Nat → Nat → Int32) : Nat → Nat → Int32 := opv (if 0 ≤ (u2_X11_sawLine I) then (u1_X11_sawLine I) else (m_X11_wrong (u1_X11_sawLine I) 1 ((u1_X11_sawLine I) 65 4)))
noncomputable def m_X11_sawLine (I : Nat → Nat → Int32)  : Nat → Nat → Int32 := opv (if (I 65 13) = 0 then (if (((lp_X11_sawLine_41 (43 + (2 * ((m_X11_next I) 69 7))) (f_X11_numberHere (m_X11_must (m_X11_next I) 16) 0 20) (opq 100) 0 (m_X11_numberHere (m_X11_must (m_X11_next I) 16) 0 20)).2) 65 13) = 0 then (if ((u3_X11_sawLine I) 65 13) = 0 then (st2 (va_up (va_up (m_X11_next (u3_X11_sawLine I)) 69 (upd ((m_X11_next (u3_X11_sawLine I)) 69) (43 + (2 * ((m_X11_next I) 69 7))).toNatClampNeg (f_X11_numberHere (m_X11_must (m_X11_next I) 16) 0 20))) 69 (upd ((va_up (m_X11_next (u3_X11_sawLine I)) 69 (upd ((m_X11_next (u3_X11_sawLine I)) 69) (43 + (2 * ((m_X11_next I) 69 7))).toNatClampNeg (f_X11_numberHere (m_X11_must (m_X11_next I) 16) 0 20))) 69) ((43 + (2 * ((m_X11_next I) 69 7))) + 1).toNatClampNeg (u2_X11_sawLine I))) 69 7 (((va_up (va_up (m_X11_next (u3_X11_sawLine I)) 69 (upd ((m_X11_next (u3_X11_sawLine I)) 69) (43 + (2 * ((m_X11_next I) 69 7))).toNatClampNeg (f_X11_numberHere (m_X11_must (m_X11_next I) 16) 0 20))) 69 (upd ((va_up (m_X11_next (u3_X11_sawLine I)) 69 (upd ((m_X11_next (u3_X11_sawLine I)) 69) (43 + (2 * ((m_X11_next I) 69 7))).toNatClampNeg (f_X11_numberHere (m_X11_must (m_X11_next I) 16) 0 20))) 69) ((43 + (2 * ((m_X11_next I) 69 7))) + 1).toNatClampNeg (u2_X11_sawLine I))) 69 7) + 1)) else (u3_X11_sawLine I)) else (lp_X11_sawLine_41 (43 + (2 * ((m_X11_next I) 69 7))) (f_X11_numberHere (m_X11_must (m_X11_next I) 16) 0 20) (opq 100) 0 (m_X11_numberHere (m_X11_must (m_X11_next I) 16) 0 20)).2) else I)
noncomputable def ok_X11_sawLine (I : Nat → Nat → Int32)  : Prop := opv (if (I 65 13) = 0 then (ok_X11_next I ∧ (ok_X11_must (m_X11_next I) 16 ∧ (oklp_X11_sawLine_41 (43 + (2 * ((m_X11_next I) 69 7))) (f_X11_numberHere (m_X11_must (m_X11_next I) 16) 0 20) (opq 100) 0 (m_X11_numberHere (m_X11_must (m_X11_next I) 16) 0 20) ∧ (if (((lp_X11_sawLine_41 (43 + (2 * ((m_X11_next I) 69 7))) (f_X11_numberHere (m_X11_must (m_X11_next I) 16) 0 20) (opq 100) 0 (m_X11_numberHere (m_X11_must (m_X11_next I) 16) 0 20)).2) 65 13) = 0 then (ok_X11_next ((lp_X11_sawLine_41 (43 + (2 * ((m_X11_next I) 69 7))) (f_X11_numberHere (m_X11_must (m_X11_next I) 16) 0 20) (opq 100) 0 (m_X11_numberHere (m_X11_must (m_X11_next I) 16) 0 20)).2) ∧ (ok_X11_isWord (u1_X11_sawLine I) 17 ∧ ((if (f_X11_isWord (u1_X11_sawLine I) 17) = true then True else (ok_X11_isWord (u1_X11_sawLine I) 18 ∧ (if (f_X11_isWord (u1_X11_sawLine I) 18) = true then True else (ok_X11_isWord (u1_X11_sawLine I) 19 ∧ (if (f_X11_isWord (u1_X11_sawLine I) 19) = true then True else ok_X11_isWord (u1_X11_sawLine I) 20))))) ∧ (if ((u3_X11_sawLine I) 65 13) = 0 then (ok_X11_next (u3_X11_sawLine I) ∧ (vp_in (43 + (2 * ((m_X11_next I) 69 7))) (sz 69) ∧ vp_in ((43 + (2 * ((m_X11_next I) 69 7))) + 1) (sz 69))) else True)))) else True)))) else True)
set_option maxHeartbeats 800000 in
set_option maxRecDepth 4000 in
theorem c_X11_sawLine {k : KT} {ex : Bool} {J : Nat → Nat → Int64} {w : Bool} (I : Nat → Nat → Int32)   (hok : ok_X11_sawLine I) : Cx k mX11_sawLine 8 [.ref (ka k 65)] (81, ex, I, J, Pw w) none (81, ex, m_X11_sawLine I, J, Pw w) := by
  refine Ct.of rfl [some (.ref (ka k 65)), none, none, none] rfl rfl (Nat.le_of_ble_eq_true rfl) ?_
  rw [ok_X11_sawLine, opv_eq] at hok
  refine g_aload_n0 rfl d_X11_sawLine_0 ?_
  refine g_getI f_X11_98 d_X11_sawLine_1 rfl (Nat.le_of_ble_eq_true rfl) rfl ?_
  refine g_if_eq 8 d_X11_sawLine_4 (by decide) (fun h4 => ?_) (fun h4 => ?_)
  · skip
    rw [if_pos h4] at hok
    refine g_aload_n0 rfl d_X11_sawLine_8 ?_
    obtain ⟨ho1, hok⟩ := hok
    refine g_callV0 (c_X11_next I  ho1) w_X11_next l_X11_119 d_X11_sawLine_9 rfl (Nat.le_of_ble_eq_true rfl) rfl rfl (Nat.le_of_ble_eq_true rfl) ⟨Nat.le_of_ble_eq_true rfl, Nat.le_of_ble_eq_true rfl⟩ ⟨Nat.zero_le _, Nat.zero_le _⟩ ⟨rfl, rfl⟩ ?_
    refine g_bipush 43 d_X11_sawLine_12 (by decide) ?_
    refine g_iconst 2 d_X11_sawLine_14 (by decide) ?_
    refine g_aload_n0 rfl d_X11_sawLine_15 ?_
    refine g_getP (b := 69) f_X11_23 d_X11_sawLine_16 rfl (Nat.le_of_ble_eq_true rfl) rfl rfl ?_
    refine g_bipush 7 d_X11_sawLine_19 (by decide) ?_
    refine g_ialdv ((m_X11_next I) 69 7) rfl d_X11_sawLine_21 rfl (Nat.le_of_ble_eq_true rfl) (vp_c (by decide +kernel)) ?_
    refine g_imul d_X11_sawLine_22 ?_
    refine g_iadd d_X11_sawLine_23 ?_
    refine g_isn1 rfl d_X11_sawLine_24 ?_
    refine g_aload_n0 rfl d_X11_sawLine_25 ?_
    refine g_ldcS (n := 16) (tx := "day") (by decide) d_X11_sawLine_26 ?_
    obtain ⟨ho2, hok⟩ := hok
    refine g_callV0 (c_X11_must (m_X11_next I) 16 (by decide) ho2) w_X11_must l_X11_157 d_X11_sawLine_28 rfl (Nat.le_of_ble_eq_true rfl) rfl rfl (Nat.le_of_ble_eq_true rfl) ⟨Nat.le_of_ble_eq_true rfl, Nat.le_of_ble_eq_true rfl⟩ ⟨Nat.zero_le _, Nat.zero_le _⟩ ⟨rfl, rfl⟩ ?_
    refine g_aload_n0 rfl d_X11_sawLine_31 ?_
    refine g_iconst 0 d_X11_sawLine_32 (by decide) ?_
    refine g_bipush 20 d_X11_sawLine_33 (by decide) ?_
    refine g_callV1 (c_X11_numberHere (m_X11_must (m_X11_next I) 16) 0 20) w_X11_numberHere l_X11_153 d_X11_sawLine_35 rfl (Nat.le_of_ble_eq_true rfl) rfl rfl (Nat.le_of_ble_eq_true rfl) ⟨Nat.le_of_ble_eq_true rfl, Nat.le_of_ble_eq_true rfl⟩ ⟨Nat.zero_le _, Nat.zero_le _⟩ ⟨rfl, rfl⟩ ?_
    refine g_isn2 rfl d_X11_sawLine_38 ?_
    refine g_iconst 0 d_X11_sawLine_39 (by decide) ?_
    refine g_isn3 rfl d_X11_sawLine_40 ?_
    obtain ⟨hol, hok⟩ := hok
    refine k_lp_X11_sawLine_41 (43 + (2 * ((m_X11_next I) 69 7))) (f_X11_numberHere (m_X11_must (m_X11_next I) 16) 0 20) _ 0 (m_X11_numberHere (m_X11_must (m_X11_next I) 16) 0 20) hol ?_
    refine g_aload_n0 rfl d_X11_sawLine_89 ?_
    refine g_getI f_X11_98 d_X11_sawLine_90 rfl (Nat.le_of_ble_eq_true rfl) rfl ?_
    refine g_if_eq 97 d_X11_sawLine_93 (by decide) (fun h5 => ?_) (fun h5 => ?_)
    · skip
      rw [if_pos h5] at hok
      refine g_aload_n0 rfl d_X11_sawLine_97 ?_
      obtain ⟨ho4, hok⟩ := hok
      refine g_callV0 (c_X11_next ((lp_X11_sawLine_41 (43 + (2 * ((m_X11_next I) 69 7))) (f_X11_numberHere (m_X11_must (m_X11_next I) 16) 0 20) (opq 100) 0 (m_X11_numberHere (m_X11_must (m_X11_next I) 16) 0 20)).2)  ho4) w_X11_next l_X11_119 d_X11_sawLine_98 rfl (Nat.le_of_ble_eq_true rfl) rfl rfl (Nat.le_of_ble_eq_true rfl) ⟨Nat.le_of_ble_eq_true rfl, Nat.le_of_ble_eq_true rfl⟩ ⟨Nat.zero_le _, Nat.zero_le _⟩ ⟨rfl, rfl⟩ ?_
      refine G.toI (I' := (u1_X11_sawLine I)) (by rw [u1_X11_sawLine, opv_eq]) ?_
      refine g_aload_n0 rfl d_X11_sawLine_101 ?_
      refine g_ldcS (n := 17) (tx := "none") (by decide) d_X11_sawLine_102 ?_
      obtain ⟨ho5, hok⟩ := hok
      refine g_callV1 (c_X11_isWord (u1_X11_sawLine I) 17 (by decide) ho5) w_X11_isWord l_X11_115 d_X11_sawLine_104 rfl (Nat.le_of_ble_eq_true rfl) rfl rfl (Nat.le_of_ble_eq_true rfl) ⟨Nat.le_of_ble_eq_true rfl, Nat.le_of_ble_eq_true rfl⟩ ⟨Nat.zero_le _, Nat.zero_le _⟩ ⟨rfl, rfl⟩ ?_
      obtain ⟨hoa, hob⟩ := hok
      refine g_cut (pc' := 154) (vs' := [some (.ref (ka k 65)), some (.int (43 + (2 * ((m_X11_next I) 69 7)))), some (.int (f_X11_numberHere (m_X11_must (m_X11_next I) 16) 0 20)), some (.int ((lp_X11_sawLine_41 (43 + (2 * ((m_X11_next I) 69 7))) (f_X11_numberHere (m_X11_must (m_X11_next I) 16) 0 20) (opq 100) 0 (m_X11_numberHere (m_X11_must (m_X11_next I) 16) 0 20)).1))]) (st' := [.int (u2_X11_sawLine I)]) (M' := (81, ex, (u1_X11_sawLine I), J, Pw w)) (fun hj => ?_) ?_
      · skip
        refine g_ifz 114 d_X11_sawLine_107 (by decide) (fun h6 => ?_) (fun h6 => ?_)
        · skip
          rw [if_neg (nb h6)] at hoa
          refine g_aload_n0 rfl d_X11_sawLine_114 ?_
          refine g_ldcS (n := 18) (tx := "he") (by decide) d_X11_sawLine_115 ?_
          obtain ⟨ho6, hok⟩ := hoa
          refine g_callV1 (c_X11_isWord (u1_X11_sawLine I) 18 (by decide) ho6) w_X11_isWord l_X11_115 d_X11_sawLine_117 rfl (Nat.le_of_ble_eq_true rfl) rfl rfl (Nat.le_of_ble_eq_true rfl) ⟨Nat.le_of_ble_eq_true rfl, Nat.le_of_ble_eq_true rfl⟩ ⟨Nat.zero_le _, Nat.zero_le _⟩ ⟨rfl, rfl⟩ ?_
          refine g_ifz 127 d_X11_sawLine_120 (by decide) (fun h7 => ?_) (fun h7 => ?_)
          · skip
            rw [if_neg (nb h7)] at hok
            refine g_aload_n0 rfl d_X11_sawLine_127 ?_
            refine g_ldcS (n := 19) (tx := "she") (by decide) d_X11_sawLine_128 ?_
            obtain ⟨ho7, hok⟩ := hok
            refine g_callV1 (c_X11_isWord (u1_X11_sawLine I) 19 (by decide) ho7) w_X11_isWord l_X11_115 d_X11_sawLine_130 rfl (Nat.le_of_ble_eq_true rfl) rfl rfl (Nat.le_of_ble_eq_true rfl) ⟨Nat.le_of_ble_eq_true rfl, Nat.le_of_ble_eq_true rfl⟩ ⟨Nat.zero_le _, Nat.zero_le _⟩ ⟨rfl, rfl⟩ ?_
            refine g_ifz 140 d_X11_sawLine_133 (by decide) (fun h8 => ?_) (fun h8 => ?_)
            · skip
              rw [if_neg (nb h8)] at hok
              refine g_aload_n0 rfl d_X11_sawLine_140 ?_
              refine g_ldcS (n := 20) (tx := "both") (by decide) d_X11_sawLine_141 ?_
              have ho8 := hok
              refine g_callV1 (c_X11_isWord (u1_X11_sawLine I) 20 (by decide) ho8) w_X11_isWord l_X11_115 d_X11_sawLine_143 rfl (Nat.le_of_ble_eq_true rfl) rfl rfl (Nat.le_of_ble_eq_true rfl) ⟨Nat.le_of_ble_eq_true rfl, Nat.le_of_ble_eq_true rfl⟩ ⟨Nat.zero_le _, Nat.zero_le _⟩ ⟨rfl, rfl⟩ ?_
              refine g_ifz 153 d_X11_sawLine_146 (by decide) (fun h9 => ?_) (fun h9 => ?_)
              · skip
                refine g_iconst (-1) d_X11_sawLine_153 (by decide) ?_
                (try simp only [if_neg (nb h6), if_neg (nb h7), if_neg (nb h8), if_neg (nb h9), opv_eq, if_true, if_false, Bool.false_eq_true, reduceCtorEq, b2i_t, b2i_f, u2_X11_sawLine] at hj); exact hj
              · skip
                refine g_iconst 3 d_X11_sawLine_149 (by decide) ?_
                refine g_goto 154 d_X11_sawLine_150 (by decide) ?_
                (try simp only [if_neg (nb h6), if_neg (nb h7), if_neg (nb h8), if_pos h9, opv_eq, if_true, if_false, Bool.false_eq_true, reduceCtorEq, b2i_t, b2i_f, u2_X11_sawLine] at hj); exact hj
            · skip
              refine g_iconst 2 d_X11_sawLine_136 (by decide) ?_
              refine g_goto 154 d_X11_sawLine_137 (by decide) ?_
              (try simp only [if_neg (nb h6), if_neg (nb h7), if_pos h8, opv_eq, if_true, if_false, Bool.false_eq_true, reduceCtorEq, b2i_t, b2i_f, u2_X11_sawLine] at hj); exact hj
          · skip
            refine g_iconst 1 d_X11_sawLine_123 (by decide) ?_
            refine g_goto 154 d_X11_sawLine_124 (by decide) ?_
            (try simp only [if_neg (nb h6), if_pos h7, opv_eq, if_true, if_false, Bool.false_eq_true, reduceCtorEq, b2i_t, b2i_f, u2_X11_sawLine] at hj); exact hj
        · skip
          refine g_iconst 0 d_X11_sawLine_110 (by decide) ?_
          refine g_goto 154 d_X11_sawLine_111 (by decide) ?_
          (try simp only [if_pos h6, opv_eq, if_true, if_false, Bool.false_eq_true, reduceCtorEq, b2i_t, b2i_f, u2_X11_sawLine] at hj); exact hj
      · skip
        refine g_isn3 rfl d_X11_sawLine_154 ?_
        refine g_iload_n3 rfl d_X11_sawLine_155 ?_
        refine g_cut (pc' := 168) (vs' := [some (.ref (ka k 65)), some (.int (43 + (2 * ((m_X11_next I) 69 7)))), some (.int (f_X11_numberHere (m_X11_must (m_X11_next I) 16) 0 20)), some (.int (u2_X11_sawLine I))]) (st' := []) (M' := (81, ex, (u3_X11_sawLine I), J, Pw w)) (fun hj => ?_) ?_
        · skip
          refine g_if_ge 168 d_X11_sawLine_156 (by decide) (fun h10 => ?_) (fun h10 => ?_)
          · skip
            (try simp only [if_pos h10, opv_eq, if_true, if_false, Bool.false_eq_true, reduceCtorEq, b2i_t, b2i_f, u3_X11_sawLine] at hj); exact hj
          · skip
            refine g_aload_n0 rfl d_X11_sawLine_159 ?_
            refine g_iconst 1 d_X11_sawLine_160 (by decide) ?_
            refine g_aload_n0 rfl d_X11_sawLine_161 ?_
            refine g_getI f_X11_79 d_X11_sawLine_162 rfl (Nat.le_of_ble_eq_true rfl) rfl ?_
            refine g_callV0 (c_X11_wrong (u1_X11_sawLine I) 1 ((u1_X11_sawLine I) 65 4)) w_X11_wrong l_X11_125 d_X11_sawLine_165 rfl (Nat.le_of_ble_eq_true rfl) rfl rfl (Nat.le_of_ble_eq_true rfl) ⟨Nat.le_of_ble_eq_true rfl, Nat.le_of_ble_eq_true rfl⟩ ⟨Nat.zero_le _, Nat.zero_le _⟩ ⟨rfl, rfl⟩ ?_
            (try simp only [if_neg h10, opv_eq, if_true, if_false, Bool.false_eq_true, reduceCtorEq, b2i_t, b2i_f, u3_X11_sawLine] at hj); exact hj
        · skip
          refine g_aload_n0 rfl d_X11_sawLine_168 ?_
          refine g_getI f_X11_98 d_X11_sawLine_169 rfl (Nat.le_of_ble_eq_true rfl) rfl ?_
          refine g_if_eq 176 d_X11_sawLine_172 (by decide) (fun h11 => ?_) (fun h11 => ?_)
          · skip
            rw [if_pos h11] at hob
            refine g_aload_n0 rfl d_X11_sawLine_176 ?_
            obtain ⟨ho9, hok⟩ := hob
            refine g_callV0 (c_X11_next (u3_X11_sawLine I)  ho9) w_X11_next l_X11_119 d_X11_sawLine_177 rfl (Nat.le_of_ble_eq_true rfl) rfl rfl (Nat.le_of_ble_eq_true rfl) ⟨Nat.le_of_ble_eq_true rfl, Nat.le_of_ble_eq_true rfl⟩ ⟨Nat.zero_le _, Nat.zero_le _⟩ ⟨rfl, rfl⟩ ?_
            refine g_aload_n0 rfl d_X11_sawLine_180 ?_
            refine g_getP (b := 69) f_X11_23 d_X11_sawLine_181 rfl (Nat.le_of_ble_eq_true rfl) rfl rfl ?_
            refine g_iload_n1 rfl d_X11_sawLine_184 ?_
            refine g_iload_n2 rfl d_X11_sawLine_185 ?_
            obtain ⟨ho10, hok⟩ := hok
            refine g_iast d_X11_sawLine_186 rfl (Nat.le_of_ble_eq_true rfl) ho10 ?_
            refine g_aload_n0 rfl d_X11_sawLine_187 ?_
            refine g_getP (b := 69) f_X11_23 d_X11_sawLine_188 rfl (Nat.le_of_ble_eq_true rfl) rfl rfl ?_
            refine g_iload_n1 rfl d_X11_sawLine_191 ?_
            refine g_iconst 1 d_X11_sawLine_192 (by decide) ?_
            refine g_iadd d_X11_sawLine_193 ?_
            refine g_iload_n3 rfl d_X11_sawLine_194 ?_
            have ho11 := hok
            refine g_iast d_X11_sawLine_195 rfl (Nat.le_of_ble_eq_true rfl) ho11 ?_
            refine g_aload_n0 rfl d_X11_sawLine_196 ?_
            refine g_getP (b := 69) f_X11_23 d_X11_sawLine_197 rfl (Nat.le_of_ble_eq_true rfl) rfl rfl ?_
            refine g_bipush 7 d_X11_sawLine_200 (by decide) ?_
            refine g_dup2 rfl rfl d_X11_sawLine_202 ?_
            refine g_ialdv ((va_up (va_up (m_X11_next (u3_X11_sawLine I)) 69 (upd ((m_X11_next (u3_X11_sawLine I)) 69) (43 + (2 * ((m_X11_next I) 69 7))).toNatClampNeg (f_X11_numberHere (m_X11_must (m_X11_next I) 16) 0 20))) 69 (upd ((va_up (m_X11_next (u3_X11_sawLine I)) 69 (upd ((m_X11_next (u3_X11_sawLine I)) 69) (43 + (2 * ((m_X11_next I) 69 7))).toNatClampNeg (f_X11_numberHere (m_X11_must (m_X11_next I) 16) 0 20))) 69) ((43 + (2 * ((m_X11_next I) 69 7))) + 1).toNatClampNeg (u2_X11_sawLine I))) 69 7) rfl d_X11_sawLine_203 rfl (Nat.le_of_ble_eq_true rfl) (vp_c (by decide +kernel)) ?_
            refine g_iconst 1 d_X11_sawLine_204 (by decide) ?_
            refine g_iadd d_X11_sawLine_205 ?_
            refine g_iasts (n := 7) rfl d_X11_sawLine_206 rfl (Nat.le_of_ble_eq_true rfl) (vp_c (by decide +kernel)) ?_
            exact g_vret rfl d_X11_sawLine_207 ⟨rfl, by simp only [m_X11_sawLine, if_pos h4, if_pos h5, if_pos h11, opv_eq, if_true, if_false, Bool.false_eq_true, reduceCtorEq, b2i_t, b2i_f]⟩ (Nat.le_refl _) (Nat.le_refl _)
          · skip
            exact g_vret rfl d_X11_sawLine_175 ⟨rfl, by simp only [m_X11_sawLine, if_pos h4, if_pos h5, if_neg h11, opv_eq, if_true, if_false, Bool.false_eq_true, reduceCtorEq, b2i_t, b2i_f]⟩ (Nat.le_refl _) (Nat.le_refl _)
    · skip
      exact g_vret rfl d_X11_sawLine_96 ⟨rfl, by simp only [m_X11_sawLine, if_pos h4, if_neg h5, opv_eq, if_true, if_false, Bool.false_eq_true, reduceCtorEq, b2i_t, b2i_f]⟩ (Nat.le_refl _) (Nat.le_refl _)
  · skip
    exact g_vret rfl d_X11_sawLine_7 ⟨rfl, by simp only [m_X11_sawLine, if_neg h4, opv_eq, if_true, if_false, Bool.false_eq_true, reduceCtorEq, b2i_t, b2i_f]⟩ (Nat.le_refl _) (Nat.le_refl _)
noncomputable def u0_X11_fieldLine (I : Nat → Nat → Int32) : Nat → Nat → Int32 := opv (if ((m_X11_newName (m_X11_next I) ((m_X11_next I) 69 8)) 65 13) = 0 then (st2 (m_X11_newName (m_X11_next I) ((m_X11_next I) 69 8)) 69 8 (((m_X11_newName (m_X11_next I) ((m_X11_next I) 69 8)) 69 8) + 1)) else (m_X11_newName (m_X11_next I) ((m_X11_next I) 69 8)))
noncomputable def m_X11_fieldLine (I : Nat → Nat → Int32)  : Nat → Nat → Int32 := opv (if (I 65 13) = 0 then (u0_X11_fieldLine I) else I)
noncomputable def ok_X11_fieldLine (I : Nat → Nat → Int32)  : Prop := opv (if (I 65 13) = 0 then (ok_X11_next I ∧ ok_X11_newName (m_X11_next I) ((m_X11_next I) 69 8)) else True)
set_option maxHeartbeats 800000 in
set_option maxRecDepth 4000 in
theorem c_X11_fieldLine {k : KT} {ex : Bool} {J : Nat → Nat → Int64} {w : Bool} (I : Nat → Nat → Int32)   (hok : ok_X11_fieldLine I) : Cx k mX11_fieldLine 8 [.ref (ka k 65)] (81, ex, I, J, Pw w) none (81, ex, m_X11_fieldLine I, J, Pw w) := by
  refine Ct.of rfl [some (.ref (ka k 65))] rfl rfl (Nat.le_of_ble_eq_true rfl) ?_
  rw [ok_X11_fieldLine, opv_eq] at hok
  refine g_aload_n0 rfl d_X11_fieldLine_0 ?_
  refine g_getI f_X11_98 d_X11_fieldLine_1 rfl (Nat.le_of_ble_eq_true rfl) rfl ?_
  refine g_if_eq 8 d_X11_fieldLine_4 (by decide) (fun h1 => ?_) (fun h1 => ?_)
  · skip
    rw [if_pos h1] at hok
    refine g_aload_n0 rfl d_X11_fieldLine_8 ?_
    obtain ⟨ho1, hok⟩ := hok
    refine g_callV0 (c_X11_next I  ho1) w_X11_next l_X11_119 d_X11_fieldLine_9 rfl (Nat.le_of_ble_eq_true rfl) rfl rfl (Nat.le_of_ble_eq_true rfl) ⟨Nat.le_of_ble_eq_true rfl, Nat.le_of_ble_eq_true rfl⟩ ⟨Nat.zero_le _, Nat.zero_le _⟩ ⟨rfl, rfl⟩ ?_
    refine g_aload_n0 rfl d_X11_fieldLine_12 ?_
    refine g_aload_n0 rfl d_X11_fieldLine_13 ?_
    refine g_getP (b := 69) f_X11_23 d_X11_fieldLine_14 rfl (Nat.le_of_ble_eq_true rfl) rfl rfl ?_
    refine g_bipush 8 d_X11_fieldLine_17 (by decide) ?_
    refine g_ialdv ((m_X11_next I) 69 8) rfl d_X11_fieldLine_19 rfl (Nat.le_of_ble_eq_true rfl) (vp_c (by decide +kernel)) ?_
    have ho2 := hok
    refine g_callV0 (c_X11_newName (m_X11_next I) ((m_X11_next I) 69 8) ho2) w_X11_newName l_X11_231 d_X11_fieldLine_20 rfl (Nat.le_of_ble_eq_true rfl) rfl rfl (Nat.le_of_ble_eq_true rfl) ⟨Nat.le_of_ble_eq_true rfl, Nat.le_of_ble_eq_true rfl⟩ ⟨Nat.zero_le _, Nat.zero_le _⟩ ⟨rfl, rfl⟩ ?_
    refine g_aload_n0 rfl d_X11_fieldLine_23 ?_
    refine g_getI f_X11_98 d_X11_fieldLine_24 rfl (Nat.le_of_ble_eq_true rfl) rfl ?_
    refine g_cut (pc' := 41) (vs' := [some (.ref (ka k 65))]) (st' := []) (M' := (81, ex, (u0_X11_fieldLine I), J, Pw w)) (fun hj => ?_) ?_
    · skip
      refine g_if_ne 41 d_X11_fieldLine_27 (by decide) (fun h2 => ?_) (fun h2 => ?_)
      · skip
        (try simp only [if_neg h2, opv_eq, if_true, if_false, Bool.false_eq_true, reduceCtorEq, b2i_t, b2i_f, u0_X11_fieldLine] at hj); exact hj
      · skip
        refine g_aload_n0 rfl d_X11_fieldLine_30 ?_
        refine g_getP (b := 69) f_X11_23 d_X11_fieldLine_31 rfl (Nat.le_of_ble_eq_true rfl) rfl rfl ?_
        refine g_bipush 8 d_X11_fieldLine_34 (by decide) ?_
        refine g_dup2 rfl rfl d_X11_fieldLine_36 ?_
        refine g_ialdv ((m_X11_newName (m_X11_next I) ((m_X11_next I) 69 8)) 69 8) rfl d_X11_fieldLine_37 rfl (Nat.le_of_ble_eq_true rfl) (vp_c (by decide +kernel)) ?_
        refine g_iconst 1 d_X11_fieldLine_38 (by decide) ?_
        refine g_iadd d_X11_fieldLine_39 ?_
        refine g_iasts (n := 8) rfl d_X11_fieldLine_40 rfl (Nat.le_of_ble_eq_true rfl) (vp_c (by decide +kernel)) ?_
        (try simp only [if_pos h2, opv_eq, if_true, if_false, Bool.false_eq_true, reduceCtorEq, b2i_t, b2i_f, u0_X11_fieldLine] at hj); exact hj
    · skip
      exact g_vret rfl d_X11_fieldLine_41 ⟨rfl, by simp only [m_X11_fieldLine, if_pos h1, opv_eq, if_true, if_false, Bool.false_eq_true, reduceCtorEq, b2i_t, b2i_f]⟩ (Nat.le_refl _) (Nat.le_refl _)
  · skip
    exact g_vret rfl d_X11_fieldLine_7 ⟨rfl, by simp only [m_X11_fieldLine, if_neg h1, opv_eq, if_true, if_false, Bool.false_eq_true, reduceCtorEq, b2i_t, b2i_f]⟩ (Nat.le_refl _) (Nat.le_refl _)
noncomputable def u0_X11_ditchLine (I : Nat → Nat → Int32) : Bool := opv (if (f_X11_fieldHere (m_X11_next I)) = (f_X11_fieldHere (m_X11_next (m_X11_fieldHere (m_X11_next I)))) then true else false)
noncomputable def u1_X11_ditchLine (I1 : Nat → Nat → Int32) (l2 : Int32) (l3 : Int32) (l4 : Bool) (l5 : Int32) : Bool := opv (if l4 = true then true else (if (I1 69 (53 + (3 * l5)).toNatClampNeg) = l2 then (if (I1 69 ((53 + (3 * l5)) + 1).toNatClampNeg) = l3 then true else false) else false))
noncomputable def lp_X11_ditchLine_62 (I1 : Nat → Nat → Int32) (l1 : Int32) (l2 : Int32) (l3 : Int32) : Nat → Bool → Int32 → Bool × Int32
  | 0, l4, l5 => (l4, l5)
  | n + 1, l4, l5 => (if (I1 69 9) ≤ l5 then (l4, l5) else (lp_X11_ditchLine_62 I1 l1 l2 l3 n (u1_X11_ditchLine I1 l2 l3 l4 l5) (l5 + 1)))
def oklp_X11_ditchLine_62 (I1 : Nat → Nat → Int32) (l1 : Int32) (l2 : Int32) (l3 : Int32) : Nat → Bool → Int32 → Prop
  | 0, l4, l5 => True
  | n + 1, l4, l5 => (if (I1 69 9) ≤ l5 then True else ((if l4 = true then True else (vp_in (53 + (3 * l5)) (sz 69) ∧ (if (I1 69 (53 + (3 * l5)).toNatClampNeg) = l2 then vp_in ((53 + (3 * l5)) + 1) (sz 69) else True))) ∧ oklp_X11_ditchLine_62 I1 l1 l2 l3 n (u1_X11_ditchLine I1 l2 l3 l4 l5) (l5 + 1)))
set_option maxHeartbeats 800000 in
set_option maxRecDepth 4000 in
theorem k_lp_X11_ditchLine_62 {k : KT} {ex : Bool} {J : Nat → Nat → Int64} {w : Bool} (I1 : Nat → Nat → Int32) (l1 : Int32) (l2 : Int32) (l3 : Int32) {F : FinT} : ∀ (n : Nat) (l4 : Bool) (l5 : Int32), mu_up (I1 69 9) l5 < n → oklp_X11_ditchLine_62 I1 l1 l2 l3 n l4 l5 → G k mX11_ditchLine (roomOf 9 0 0) F 0 0 126 [some (.ref (ka k 65)), some (.int l1), some (.int l2), some (.int l3), some (.int (b2i ((lp_X11_ditchLine_62 I1 l1 l2 l3 n l4 l5).1))), some (.int ((lp_X11_ditchLine_62 I1 l1 l2 l3 n l4 l5).2))] [] (81, ex, I1, J, Pw w) → G k mX11_ditchLine (roomOf 9 0 0) F 0 0 62 [some (.ref (ka k 65)), some (.int l1), some (.int l2), some (.int l3), some (.int (b2i l4)), some (.int l5)] [] (81, ex, I1, J, Pw w) := by
  intro n
  induction n with
  | zero => intro l4 l5 hmu hok hj; exact absurd hmu (Nat.not_lt_zero _)
  | succ n ih =>
    intro l4 l5 hmu hok hj
    rw [oklp_X11_ditchLine_62] at hok
    refine g_iload (i := 5) rfl d_X11_ditchLine_62 ?_
    refine g_aload_n0 rfl d_X11_ditchLine_64 ?_
    refine g_getP (b := 69) f_X11_23 d_X11_ditchLine_65 rfl (Nat.le_of_ble_eq_true rfl) rfl rfl ?_
    refine g_bipush 9 d_X11_ditchLine_68 (by decide) ?_
    refine g_ialdv (I1 69 9) rfl d_X11_ditchLine_70 rfl (Nat.le_of_ble_eq_true rfl) (vp_c (by decide +kernel)) ?_
    refine g_icmp_ge 126 d_X11_ditchLine_71 (by decide) (fun h1 => ?_) (fun h1 => ?_)
    · skip
      (try simp only [lp_X11_ditchLine_62, if_pos h1, opv_eq, if_true, if_false, Bool.false_eq_true, reduceCtorEq, b2i_t, b2i_f] at hj); exact hj
    · skip
      rw [if_neg h1] at hok
      refine g_iload (i := 4) rfl d_X11_ditchLine_74 ?_
      obtain ⟨hoa, hob⟩ := hok
      refine g_cut (pc' := 118) (vs' := [some (.ref (ka k 65)), some (.int l1), some (.int l2), some (.int l3), some (.int (b2i l4)), some (.int l5)]) (st' := [.int (b2i (u1_X11_ditchLine I1 l2 l3 l4 l5))]) (M' := (81, ex, I1, J, Pw w)) (fun hj => ?_) ?_
      · skip
        refine g_ifnz 113 d_X11_ditchLine_76 (by decide) (fun h2 => ?_) (fun h2 => ?_)
        · skip
          refine g_iconst 1 d_X11_ditchLine_113 (by decide) ?_
          refine g_goto 118 d_X11_ditchLine_114 (by decide) ?_
          (try simp only [if_pos h2, opv_eq, if_true, if_false, Bool.false_eq_true, reduceCtorEq, b2i_t, b2i_f, u1_X11_ditchLine] at hj); exact hj
        · skip
          rw [if_neg (nb h2)] at hoa
          refine g_aload_n0 rfl d_X11_ditchLine_79 ?_
          refine g_getP (b := 69) f_X11_23 d_X11_ditchLine_80 rfl (Nat.le_of_ble_eq_true rfl) rfl rfl ?_
          refine g_bipush 53 d_X11_ditchLine_83 (by decide) ?_
          refine g_iconst 3 d_X11_ditchLine_85 (by decide) ?_
          refine g_iload (i := 5) rfl d_X11_ditchLine_86 ?_
          refine g_imul d_X11_ditchLine_88 ?_
          refine g_iadd d_X11_ditchLine_89 ?_
          obtain ⟨ho5, hok⟩ := hoa
          refine g_iald d_X11_ditchLine_90 rfl (Nat.le_of_ble_eq_true rfl) ho5 ?_
          refine g_iload_n2 rfl d_X11_ditchLine_91 ?_
          refine g_icmp_ne 117 d_X11_ditchLine_92 (by decide) (fun h3 => ?_) (fun h3 => ?_)
          · skip
            refine g_iconst 0 d_X11_ditchLine_117 (by decide) ?_
            (try simp only [if_neg (nb h2), if_neg h3, opv_eq, if_true, if_false, Bool.false_eq_true, reduceCtorEq, b2i_t, b2i_f, u1_X11_ditchLine] at hj); exact hj
          · skip
            rw [if_pos h3] at hok
            refine g_aload_n0 rfl d_X11_ditchLine_95 ?_
            refine g_getP (b := 69) f_X11_23 d_X11_ditchLine_96 rfl (Nat.le_of_ble_eq_true rfl) rfl rfl ?_
            refine g_bipush 53 d_X11_ditchLine_99 (by decide) ?_
            refine g_iconst 3 d_X11_ditchLine_101 (by decide) ?_
            refine g_iload (i := 5) rfl d_X11_ditchLine_102 ?_
            refine g_imul d_X11_ditchLine_104 ?_
            refine g_iadd d_X11_ditchLine_105 ?_
            refine g_iconst 1 d_X11_ditchLine_106 (by decide) ?_
            refine g_iadd d_X11_ditchLine_107 ?_
            have ho6 := hok
            refine g_iald d_X11_ditchLine_108 rfl (Nat.le_of_ble_eq_true rfl) ho6 ?_
            refine g_iload_n3 rfl d_X11_ditchLine_109 ?_
            refine g_icmp_ne 117 d_X11_ditchLine_110 (by decide) (fun h4 => ?_) (fun h4 => ?_)
            · skip
              refine g_iconst 0 d_X11_ditchLine_117 (by decide) ?_
              (try simp only [if_neg (nb h2), if_pos h3, if_neg h4, opv_eq, if_true, if_false, Bool.false_eq_true, reduceCtorEq, b2i_t, b2i_f, u1_X11_ditchLine] at hj); exact hj
            · skip
              refine g_iconst 1 d_X11_ditchLine_113 (by decide) ?_
              refine g_goto 118 d_X11_ditchLine_114 (by decide) ?_
              (try simp only [if_neg (nb h2), if_pos h3, if_pos h4, opv_eq, if_true, if_false, Bool.false_eq_true, reduceCtorEq, b2i_t, b2i_f, u1_X11_ditchLine] at hj); exact hj
      · skip
        refine g_is4 rfl d_X11_ditchLine_118 ?_
        refine g_ic5 (l5 + 1) rfl rfl d_X11_ditchLine_120 ?_
        refine g_goto 62 d_X11_ditchLine_123 (by decide) ?_
        exact ih (u1_X11_ditchLine I1 l2 l3 l4 l5) (l5 + 1) (Nat.lt_of_lt_of_le (mu_up_lt h1) (Nat.le_of_lt_succ hmu)) (by (try simp only [if_neg h1, opv_eq, if_true, if_false, Bool.false_eq_true, reduceCtorEq, b2i_t, b2i_f] at hob); exact hob) (by (try simp only [lp_X11_ditchLine_62, if_neg h1, opv_eq, if_true, if_false, Bool.false_eq_true, reduceCtorEq, b2i_t, b2i_f] at hj); exact hj)
noncomputable def u2_X11_ditchLine (I : Nat → Nat → Int32) : Nat → Nat → Int32 := opv (m_X11_wrong (m_X11_fieldHere (m_X11_next (m_X11_fieldHere (m_X11_next I)))) 3 ((m_X11_fieldHere (m_X11_next (m_X11_fieldHere (m_X11_next I)))) 65 4))
noncomputable def u3_X11_ditchLine (I : Nat → Nat → Int32) : Nat → Nat → Int32 := opv (if ((m_X11_fieldHere (m_X11_next (m_X11_fieldHere (m_X11_next I)))) 65 13) = 0 then (if ((lp_X11_ditchLine_62 (m_X11_fieldHere (m_X11_next (m_X11_fieldHere (m_X11_next I)))) (53 + (3 * ((m_X11_next I) 69 9))) (f_X11_fieldHere (m_X11_next I)) (f_X11_fieldHere (m_X11_next (m_X11_fieldHere (m_X11_next I)))) (mu_up ((m_X11_fieldHere (m_X11_next (m_X11_fieldHere (m_X11_next I)))) 69 9) 0 + 1) (u0_X11_ditchLine I) 0).1) = true then (u2_X11_ditchLine I) else (m_X11_fieldHere (m_X11_next (m_X11_fieldHere (m_X11_next I))))) else (m_X11_fieldHere (m_X11_next (m_X11_fieldHere (m_X11_next I)))))
noncomputable def u4_X11_ditchLine (I : Nat → Nat → Int32) : Nat → Nat → Int32 := opv (m_X11_after (va_up (va_up (m_X11_next (u3_X11_ditchLine I)) 69 (upd ((m_X11_next (u3_X11_ditchLine I)) 69) (53 + (3 * ((m_X11_next I) 69 9))).toNatClampNeg (f_X11_fieldHere (m_X11_next I)))) 69 (upd ((va_up (m_X11_next (u3_X11_ditchLine I)) 69 (upd ((m_X11_next (u3_X11_ditchLine I)) 69) (53 + (3 * ((m_X11_next I) 69 9))).toNatClampNeg (f_X11_fieldHere (m_X11_next I)))) 69) ((53 + (3 * ((m_X11_next I) 69 9))) + 1).toNatClampNeg (f_X11_fieldHere (m_X11_next (m_X11_fieldHere (m_X11_next I)))))) 21 1 99)
noncomputable def u5_X11_ditchLine (I : Nat → Nat → Int32) : Nat → Nat → Int32 := opv (if ((u4_X11_ditchLine I) 65 13) = 0 then (st2 (va_up (u4_X11_ditchLine I) 69 (upd ((u4_X11_ditchLine I) 69) ((53 + (3 * ((m_X11_next I) 69 9))) + 2).toNatClampNeg (f_X11_after (va_up (va_up (m_X11_next (u3_X11_ditchLine I)) 69 (upd ((m_X11_next (u3_X11_ditchLine I)) 69) (53 + (3 * ((m_X11_next I) 69 9))).toNatClampNeg (f_X11_fieldHere (m_X11_next I)))) 69 (upd ((va_up (m_X11_next (u3_X11_ditchLine I)) 69 (upd ((m_X11_next (u3_X11_ditchLine I)) 69) (53 + (3 * ((m_X11_next I) 69 9))).toNatClampNeg (f_X11_fieldHere (m_X11_next I)))) 69) ((53 + (3 * ((m_X11_next I) 69 9))) + 1).toNatClampNeg (f_X11_fieldHere (m_X11_next (m_X11_fieldHere (m_X11_next I)))))) 21 1 99))) 69 9 (((va_up (u4_X11_ditchLine I) 69 (upd ((u4_X11_ditchLine I) 69) ((53 + (3 * ((m_X11_next I) 69 9))) + 2).toNatClampNeg (f_X11_after (va_up (va_up (m_X11_next (u3_X11_ditchLine I)) 69 (upd ((m_X11_next (u3_X11_ditchLine I)) 69) (53 + (3 * ((m_X11_next I) 69 9))).toNatClampNeg (f_X11_fieldHere (m_X11_next I)))) 69 (upd ((va_up (m_X11_next (u3_X11_ditchLine I)) 69 (upd ((m_X11_next (u3_X11_ditchLine I)) 69) (53 + (3 * ((m_X11_next I) 69 9))).toNatClampNeg (f_X11_fieldHere (m_X11_next I)))) 69) ((53 + (3 * ((m_X11_next I) 69 9))) + 1).toNatClampNeg (f_X11_fieldHere (m_X11_next (m_X11_fieldHere (m_X11_next I)))))) 21 1 99))) 69 9) + 1)) else (va_up (u4_X11_ditchLine I) 69 (upd ((u4_X11_ditchLine I) 69) ((53 + (3 * ((m_X11_next I) 69 9))) + 2).toNatClampNeg (f_X11_after (va_up (va_up (m_X11_next (u3_X11_ditchLine I)) 69 (upd ((m_X11_next (u3_X11_ditchLine I)) 69) (53 + (3 * ((m_X11_next I) 69 9))).toNatClampNeg (f_X11_fieldHere (m_X11_next I)))) 69 (upd ((va_up (m_X11_next (u3_X11_ditchLine I)) 69 (upd ((m_X11_next (u3_X11_ditchLine I)) 69) (53 + (3 * ((m_X11_next I) 69 9))).toNatClampNeg (f_X11_fieldHere (m_X11_next I)))) 69) ((53 + (3 * ((m_X11_next I) 69 9))) + 1).toNatClampNeg (f_X11_fieldHere (m_X11_next (m_X11_fieldHere (m_X11_next I)))))) 21 1 99))))
noncomputable def m_X11_ditchLine (I : Nat → Nat → Int32)  : Nat → Nat → Int32 := opv (if (I 65 13) = 0 then (if ((m_X11_fieldHere (m_X11_next I)) 65 13) = 0 then (if ((u3_X11_ditchLine I) 65 13) = 0 then (u5_X11_ditchLine I) else (u3_X11_ditchLine I)) else (m_X11_fieldHere (m_X11_next I))) else I)
noncomputable def ok_X11_ditchLine (I : Nat → Nat → Int32)  : Prop := opv (if (I 65 13) = 0 then (ok_X11_next I ∧ (ok_X11_fieldHere (m_X11_next I) ∧ (if ((m_X11_fieldHere (m_X11_next I)) 65 13) = 0 then (ok_X11_next (m_X11_fieldHere (m_X11_next I)) ∧ (ok_X11_fieldHere (m_X11_next (m_X11_fieldHere (m_X11_next I))) ∧ (oklp_X11_ditchLine_62 (m_X11_fieldHere (m_X11_next (m_X11_fieldHere (m_X11_next I)))) (53 + (3 * ((m_X11_next I) 69 9))) (f_X11_fieldHere (m_X11_next I)) (f_X11_fieldHere (m_X11_next (m_X11_fieldHere (m_X11_next I)))) (mu_up ((m_X11_fieldHere (m_X11_next (m_X11_fieldHere (m_X11_next I)))) 69 9) 0 + 1) (u0_X11_ditchLine I) 0 ∧ (if ((u3_X11_ditchLine I) 65 13) = 0 then (ok_X11_next (u3_X11_ditchLine I) ∧ (vp_in (53 + (3 * ((m_X11_next I) 69 9))) (sz 69) ∧ (vp_in ((53 + (3 * ((m_X11_next I) 69 9))) + 1) (sz 69) ∧ (ok_X11_after (va_up (va_up (m_X11_next (u3_X11_ditchLine I)) 69 (upd ((m_X11_next (u3_X11_ditchLine I)) 69) (53 + (3 * ((m_X11_next I) 69 9))).toNatClampNeg (f_X11_fieldHere (m_X11_next I)))) 69 (upd ((va_up (m_X11_next (u3_X11_ditchLine I)) 69 (upd ((m_X11_next (u3_X11_ditchLine I)) 69) (53 + (3 * ((m_X11_next I) 69 9))).toNatClampNeg (f_X11_fieldHere (m_X11_next I)))) 69) ((53 + (3 * ((m_X11_next I) 69 9))) + 1).toNatClampNeg (f_X11_fieldHere (m_X11_next (m_X11_fieldHere (m_X11_next I)))))) 21 1 99 ∧ vp_in ((53 + (3 * ((m_X11_next I) 69 9))) + 2) (sz 69))))) else True)))) else True))) else True)
set_option maxHeartbeats 800000 in
set_option maxRecDepth 4000 in
theorem c_X11_ditchLine {k : KT} {ex : Bool} {J : Nat → Nat → Int64} {w : Bool} (I : Nat → Nat → Int32)   (hok : ok_X11_ditchLine I) : Cx k mX11_ditchLine 9 [.ref (ka k 65)] (81, ex, I, J, Pw w) none (81, ex, m_X11_ditchLine I, J, Pw w) := by
  refine Ct.of rfl [some (.ref (ka k 65)), none, none, none, none, none] rfl rfl (Nat.le_of_ble_eq_true rfl) ?_
  rw [ok_X11_ditchLine, opv_eq] at hok
  refine g_aload_n0 rfl d_X11_ditchLine_0 ?_
  refine g_getI f_X11_98 d_X11_ditchLine_1 rfl (Nat.le_of_ble_eq_true rfl) rfl ?_
  refine g_if_eq 8 d_X11_ditchLine_4 (by decide) (fun h5 => ?_) (fun h5 => ?_)
  · skip
    rw [if_pos h5] at hok
    refine g_aload_n0 rfl d_X11_ditchLine_8 ?_
    obtain ⟨ho1, hok⟩ := hok
    refine g_callV0 (c_X11_next I  ho1) w_X11_next l_X11_119 d_X11_ditchLine_9 rfl (Nat.le_of_ble_eq_true rfl) rfl rfl (Nat.le_of_ble_eq_true rfl) ⟨Nat.le_of_ble_eq_true rfl, Nat.le_of_ble_eq_true rfl⟩ ⟨Nat.zero_le _, Nat.zero_le _⟩ ⟨rfl, rfl⟩ ?_
    refine g_bipush 53 d_X11_ditchLine_12 (by decide) ?_
    refine g_iconst 3 d_X11_ditchLine_14 (by decide) ?_
    refine g_aload_n0 rfl d_X11_ditchLine_15 ?_
    refine g_getP (b := 69) f_X11_23 d_X11_ditchLine_16 rfl (Nat.le_of_ble_eq_true rfl) rfl rfl ?_
    refine g_bipush 9 d_X11_ditchLine_19 (by decide) ?_
    refine g_ialdv ((m_X11_next I) 69 9) rfl d_X11_ditchLine_21 rfl (Nat.le_of_ble_eq_true rfl) (vp_c (by decide +kernel)) ?_
    refine g_imul d_X11_ditchLine_22 ?_
    refine g_iadd d_X11_ditchLine_23 ?_
    refine g_isn1 rfl d_X11_ditchLine_24 ?_
    refine g_aload_n0 rfl d_X11_ditchLine_25 ?_
    obtain ⟨ho2, hok⟩ := hok
    refine g_callV1 (c_X11_fieldHere (m_X11_next I)  ho2) w_X11_fieldHere l_X11_253 d_X11_ditchLine_26 rfl (Nat.le_of_ble_eq_true rfl) rfl rfl (Nat.le_of_ble_eq_true rfl) ⟨Nat.le_of_ble_eq_true rfl, Nat.le_of_ble_eq_true rfl⟩ ⟨Nat.zero_le _, Nat.zero_le _⟩ ⟨rfl, rfl⟩ ?_
    refine g_isn2 rfl d_X11_ditchLine_29 ?_
    refine g_aload_n0 rfl d_X11_ditchLine_30 ?_
    refine g_getI f_X11_98 d_X11_ditchLine_31 rfl (Nat.le_of_ble_eq_true rfl) rfl ?_
    refine g_if_eq 38 d_X11_ditchLine_34 (by decide) (fun h6 => ?_) (fun h6 => ?_)
    · skip
      rw [if_pos h6] at hok
      refine g_aload_n0 rfl d_X11_ditchLine_38 ?_
      obtain ⟨ho3, hok⟩ := hok
      refine g_callV0 (c_X11_next (m_X11_fieldHere (m_X11_next I))  ho3) w_X11_next l_X11_119 d_X11_ditchLine_39 rfl (Nat.le_of_ble_eq_true rfl) rfl rfl (Nat.le_of_ble_eq_true rfl) ⟨Nat.le_of_ble_eq_true rfl, Nat.le_of_ble_eq_true rfl⟩ ⟨Nat.zero_le _, Nat.zero_le _⟩ ⟨rfl, rfl⟩ ?_
      refine g_aload_n0 rfl d_X11_ditchLine_42 ?_
      obtain ⟨ho4, hok⟩ := hok
      refine g_callV1 (c_X11_fieldHere (m_X11_next (m_X11_fieldHere (m_X11_next I)))  ho4) w_X11_fieldHere l_X11_253 d_X11_ditchLine_43 rfl (Nat.le_of_ble_eq_true rfl) rfl rfl (Nat.le_of_ble_eq_true rfl) ⟨Nat.le_of_ble_eq_true rfl, Nat.le_of_ble_eq_true rfl⟩ ⟨Nat.zero_le _, Nat.zero_le _⟩ ⟨rfl, rfl⟩ ?_
      refine g_isn3 rfl d_X11_ditchLine_46 ?_
      refine g_iload_n2 rfl d_X11_ditchLine_47 ?_
      refine g_iload_n3 rfl d_X11_ditchLine_48 ?_
      refine g_cut (pc' := 57) (vs' := [some (.ref (ka k 65)), some (.int (53 + (3 * ((m_X11_next I) 69 9)))), some (.int (f_X11_fieldHere (m_X11_next I))), some (.int (f_X11_fieldHere (m_X11_next (m_X11_fieldHere (m_X11_next I))))), none, none]) (st' := [.int (b2i (u0_X11_ditchLine I))]) (M' := (81, ex, (m_X11_fieldHere (m_X11_next (m_X11_fieldHere (m_X11_next I)))), J, Pw w)) (fun hj => ?_) ?_
      · skip
        refine g_icmp_ne 56 d_X11_ditchLine_49 (by decide) (fun h7 => ?_) (fun h7 => ?_)
        · skip
          refine g_iconst 0 d_X11_ditchLine_56 (by decide) ?_
          (try simp only [if_neg h7, opv_eq, if_true, if_false, Bool.false_eq_true, reduceCtorEq, b2i_t, b2i_f, u0_X11_ditchLine] at hj); exact hj
        · skip
          refine g_iconst 1 d_X11_ditchLine_52 (by decide) ?_
          refine g_goto 57 d_X11_ditchLine_53 (by decide) ?_
          (try simp only [if_pos h7, opv_eq, if_true, if_false, Bool.false_eq_true, reduceCtorEq, b2i_t, b2i_f, u0_X11_ditchLine] at hj); exact hj
      · skip
        refine g_is4 rfl d_X11_ditchLine_57 ?_
        refine g_iconst 0 d_X11_ditchLine_59 (by decide) ?_
        refine g_is5 rfl d_X11_ditchLine_60 ?_
        obtain ⟨hol, hok⟩ := hok
        refine k_lp_X11_ditchLine_62 (m_X11_fieldHere (m_X11_next (m_X11_fieldHere (m_X11_next I)))) (53 + (3 * ((m_X11_next I) 69 9))) (f_X11_fieldHere (m_X11_next I)) (f_X11_fieldHere (m_X11_next (m_X11_fieldHere (m_X11_next I)))) _ (u0_X11_ditchLine I) 0 (Nat.lt_succ_self _) hol ?_
        refine g_aload_n0 rfl d_X11_ditchLine_126 ?_
        refine g_getI f_X11_98 d_X11_ditchLine_127 rfl (Nat.le_of_ble_eq_true rfl) rfl ?_
        refine g_cut (pc' := 147) (vs' := [some (.ref (ka k 65)), some (.int (53 + (3 * ((m_X11_next I) 69 9)))), some (.int (f_X11_fieldHere (m_X11_next I))), some (.int (f_X11_fieldHere (m_X11_next (m_X11_fieldHere (m_X11_next I))))), some (.int (b2i ((lp_X11_ditchLine_62 (m_X11_fieldHere (m_X11_next (m_X11_fieldHere (m_X11_next I)))) (53 + (3 * ((m_X11_next I) 69 9))) (f_X11_fieldHere (m_X11_next I)) (f_X11_fieldHere (m_X11_next (m_X11_fieldHere (m_X11_next I)))) (mu_up ((m_X11_fieldHere (m_X11_next (m_X11_fieldHere (m_X11_next I)))) 69 9) 0 + 1) (u0_X11_ditchLine I) 0).1))), some (.int ((lp_X11_ditchLine_62 (m_X11_fieldHere (m_X11_next (m_X11_fieldHere (m_X11_next I)))) (53 + (3 * ((m_X11_next I) 69 9))) (f_X11_fieldHere (m_X11_next I)) (f_X11_fieldHere (m_X11_next (m_X11_fieldHere (m_X11_next I)))) (mu_up ((m_X11_fieldHere (m_X11_next (m_X11_fieldHere (m_X11_next I)))) 69 9) 0 + 1) (u0_X11_ditchLine I) 0).2))]) (st' := []) (M' := (81, ex, (u3_X11_ditchLine I), J, Pw w)) (fun hj => ?_) ?_
        · skip
          refine g_if_ne 147 d_X11_ditchLine_130 (by decide) (fun h8 => ?_) (fun h8 => ?_)
          · skip
            (try simp only [if_neg h8, opv_eq, if_true, if_false, Bool.false_eq_true, reduceCtorEq, b2i_t, b2i_f, u3_X11_ditchLine] at hj); exact hj
          · skip
            refine g_iload (i := 4) rfl d_X11_ditchLine_133 ?_
            refine g_ifz 147 d_X11_ditchLine_135 (by decide) (fun h9 => ?_) (fun h9 => ?_)
            · skip
              (try simp only [if_pos h8, if_neg (nb h9), opv_eq, if_true, if_false, Bool.false_eq_true, reduceCtorEq, b2i_t, b2i_f, u3_X11_ditchLine] at hj); exact hj
            · skip
              refine g_aload_n0 rfl d_X11_ditchLine_138 ?_
              refine g_iconst 3 d_X11_ditchLine_139 (by decide) ?_
              refine g_aload_n0 rfl d_X11_ditchLine_140 ?_
              refine g_getI f_X11_79 d_X11_ditchLine_141 rfl (Nat.le_of_ble_eq_true rfl) rfl ?_
              refine g_callV0 (c_X11_wrong (m_X11_fieldHere (m_X11_next (m_X11_fieldHere (m_X11_next I)))) 3 ((m_X11_fieldHere (m_X11_next (m_X11_fieldHere (m_X11_next I)))) 65 4)) w_X11_wrong l_X11_125 d_X11_ditchLine_144 rfl (Nat.le_of_ble_eq_true rfl) rfl rfl (Nat.le_of_ble_eq_true rfl) ⟨Nat.le_of_ble_eq_true rfl, Nat.le_of_ble_eq_true rfl⟩ ⟨Nat.zero_le _, Nat.zero_le _⟩ ⟨rfl, rfl⟩ ?_
              refine G.toI (I' := (u2_X11_ditchLine I)) (by rw [u2_X11_ditchLine, opv_eq]) ?_
              (try simp only [if_pos h8, if_pos h9, opv_eq, if_true, if_false, Bool.false_eq_true, reduceCtorEq, b2i_t, b2i_f, u3_X11_ditchLine] at hj); exact hj
        · skip
          refine g_aload_n0 rfl d_X11_ditchLine_147 ?_
          refine g_getI f_X11_98 d_X11_ditchLine_148 rfl (Nat.le_of_ble_eq_true rfl) rfl ?_
          refine g_if_eq 155 d_X11_ditchLine_151 (by decide) (fun h10 => ?_) (fun h10 => ?_)
          · skip
            rw [if_pos h10] at hok
            refine g_aload_n0 rfl d_X11_ditchLine_155 ?_
            obtain ⟨ho7, hok⟩ := hok
            refine g_callV0 (c_X11_next (u3_X11_ditchLine I)  ho7) w_X11_next l_X11_119 d_X11_ditchLine_156 rfl (Nat.le_of_ble_eq_true rfl) rfl rfl (Nat.le_of_ble_eq_true rfl) ⟨Nat.le_of_ble_eq_true rfl, Nat.le_of_ble_eq_true rfl⟩ ⟨Nat.zero_le _, Nat.zero_le _⟩ ⟨rfl, rfl⟩ ?_
            refine g_aload_n0 rfl d_X11_ditchLine_159 ?_
            refine g_getP (b := 69) f_X11_23 d_X11_ditchLine_160 rfl (Nat.le_of_ble_eq_true rfl) rfl rfl ?_
            refine g_iload_n1 rfl d_X11_ditchLine_163 ?_
            refine g_iload_n2 rfl d_X11_ditchLine_164 ?_
            obtain ⟨ho8, hok⟩ := hok
            refine g_iast d_X11_ditchLine_165 rfl (Nat.le_of_ble_eq_true rfl) ho8 ?_
            refine g_aload_n0 rfl d_X11_ditchLine_166 ?_
            refine g_getP (b := 69) f_X11_23 d_X11_ditchLine_167 rfl (Nat.le_of_ble_eq_true rfl) rfl rfl ?_
            refine g_iload_n1 rfl d_X11_ditchLine_170 ?_
            refine g_iconst 1 d_X11_ditchLine_171 (by decide) ?_
            refine g_iadd d_X11_ditchLine_172 ?_
            refine g_iload_n3 rfl d_X11_ditchLine_173 ?_
            obtain ⟨ho9, hok⟩ := hok
            refine g_iast d_X11_ditchLine_174 rfl (Nat.le_of_ble_eq_true rfl) ho9 ?_
            refine g_aload_n0 rfl d_X11_ditchLine_175 ?_
            refine g_getP (b := 69) f_X11_23 d_X11_ditchLine_176 rfl (Nat.le_of_ble_eq_true rfl) rfl rfl ?_
            refine g_iload_n1 rfl d_X11_ditchLine_179 ?_
            refine g_iconst 2 d_X11_ditchLine_180 (by decide) ?_
            refine g_iadd d_X11_ditchLine_181 ?_
            refine g_aload_n0 rfl d_X11_ditchLine_182 ?_
            refine g_ldcSw (n := 21) (tx := "carries") (by decide) d_X11_ditchLine_183 ?_
            refine g_iconst 1 d_X11_ditchLine_186 (by decide) ?_
            refine g_bipush 99 d_X11_ditchLine_187 (by decide) ?_
            obtain ⟨ho10, hok⟩ := hok
            refine g_callV1 (c_X11_after (va_up (va_up (m_X11_next (u3_X11_ditchLine I)) 69 (upd ((m_X11_next (u3_X11_ditchLine I)) 69) (53 + (3 * ((m_X11_next I) 69 9))).toNatClampNeg (f_X11_fieldHere (m_X11_next I)))) 69 (upd ((va_up (m_X11_next (u3_X11_ditchLine I)) 69 (upd ((m_X11_next (u3_X11_ditchLine I)) 69) (53 + (3 * ((m_X11_next I) 69 9))).toNatClampNeg (f_X11_fieldHere (m_X11_next I)))) 69) ((53 + (3 * ((m_X11_next I) 69 9))) + 1).toNatClampNeg (f_X11_fieldHere (m_X11_next (m_X11_fieldHere (m_X11_next I)))))) 21 (by decide) 1 99 ho10) w_X11_after l_X11_221 d_X11_ditchLine_189 rfl (Nat.le_of_ble_eq_true rfl) rfl rfl (Nat.le_of_ble_eq_true rfl) ⟨Nat.le_of_ble_eq_true rfl, Nat.le_of_ble_eq_true rfl⟩ ⟨Nat.zero_le _, Nat.zero_le _⟩ ⟨rfl, rfl⟩ ?_
            refine G.toI (I' := (u4_X11_ditchLine I)) (by rw [u4_X11_ditchLine, opv_eq]) ?_
            have ho11 := hok
            refine g_iast d_X11_ditchLine_192 rfl (Nat.le_of_ble_eq_true rfl) ho11 ?_
            refine g_aload_n0 rfl d_X11_ditchLine_193 ?_
            refine g_getIv ((u4_X11_ditchLine I) 65 13) (vu_a _ _ (by decide) _) f_X11_98 d_X11_ditchLine_194 rfl (Nat.le_of_ble_eq_true rfl) rfl ?_
            refine g_cut (pc' := 211) (vs' := [some (.ref (ka k 65)), some (.int (53 + (3 * ((m_X11_next I) 69 9)))), some (.int (f_X11_fieldHere (m_X11_next I))), some (.int (f_X11_fieldHere (m_X11_next (m_X11_fieldHere (m_X11_next I))))), some (.int (b2i ((lp_X11_ditchLine_62 (m_X11_fieldHere (m_X11_next (m_X11_fieldHere (m_X11_next I)))) (53 + (3 * ((m_X11_next I) 69 9))) (f_X11_fieldHere (m_X11_next I)) (f_X11_fieldHere (m_X11_next (m_X11_fieldHere (m_X11_next I)))) (mu_up ((m_X11_fieldHere (m_X11_next (m_X11_fieldHere (m_X11_next I)))) 69 9) 0 + 1) (u0_X11_ditchLine I) 0).1))), some (.int ((lp_X11_ditchLine_62 (m_X11_fieldHere (m_X11_next (m_X11_fieldHere (m_X11_next I)))) (53 + (3 * ((m_X11_next I) 69 9))) (f_X11_fieldHere (m_X11_next I)) (f_X11_fieldHere (m_X11_next (m_X11_fieldHere (m_X11_next I)))) (mu_up ((m_X11_fieldHere (m_X11_next (m_X11_fieldHere (m_X11_next I)))) 69 9) 0 + 1) (u0_X11_ditchLine I) 0).2))]) (st' := []) (M' := (81, ex, (u5_X11_ditchLine I), J, Pw w)) (fun hj => ?_) ?_
            · skip
              refine g_if_ne 211 d_X11_ditchLine_197 (by decide) (fun h11 => ?_) (fun h11 => ?_)
              · skip
                (try simp only [if_neg h11, opv_eq, if_true, if_false, Bool.false_eq_true, reduceCtorEq, b2i_t, b2i_f, u5_X11_ditchLine] at hj); exact hj
              · skip
                refine g_aload_n0 rfl d_X11_ditchLine_200 ?_
                refine g_getP (b := 69) f_X11_23 d_X11_ditchLine_201 rfl (Nat.le_of_ble_eq_true rfl) rfl rfl ?_
                refine g_bipush 9 d_X11_ditchLine_204 (by decide) ?_
                refine g_dup2 rfl rfl d_X11_ditchLine_206 ?_
                refine g_ialdv ((va_up (u4_X11_ditchLine I) 69 (upd ((u4_X11_ditchLine I) 69) ((53 + (3 * ((m_X11_next I) 69 9))) + 2).toNatClampNeg (f_X11_after (va_up (va_up (m_X11_next (u3_X11_ditchLine I)) 69 (upd ((m_X11_next (u3_X11_ditchLine I)) 69) (53 + (3 * ((m_X11_next I) 69 9))).toNatClampNeg (f_X11_fieldHere (m_X11_next I)))) 69 (upd ((va_up (m_X11_next (u3_X11_ditchLine I)) 69 (upd ((m_X11_next (u3_X11_ditchLine I)) 69) (53 + (3 * ((m_X11_next I) 69 9))).toNatClampNeg (f_X11_fieldHere (m_X11_next I)))) 69) ((53 + (3 * ((m_X11_next I) 69 9))) + 1).toNatClampNeg (f_X11_fieldHere (m_X11_next (m_X11_fieldHere (m_X11_next I)))))) 21 1 99))) 69 9) rfl d_X11_ditchLine_207 rfl (Nat.le_of_ble_eq_true rfl) (vp_c (by decide +kernel)) ?_
                refine g_iconst 1 d_X11_ditchLine_208 (by decide) ?_
                refine g_iadd d_X11_ditchLine_209 ?_
                refine g_iasts (n := 9) rfl d_X11_ditchLine_210 rfl (Nat.le_of_ble_eq_true rfl) (vp_c (by decide +kernel)) ?_
                (try simp only [if_pos h11, opv_eq, if_true, if_false, Bool.false_eq_true, reduceCtorEq, b2i_t, b2i_f, u5_X11_ditchLine] at hj); exact hj
            · skip
              exact g_vret rfl d_X11_ditchLine_211 ⟨rfl, by simp only [m_X11_ditchLine, if_pos h5, if_pos h6, if_pos h10, opv_eq, if_true, if_false, Bool.false_eq_true, reduceCtorEq, b2i_t, b2i_f]⟩ (Nat.le_refl _) (Nat.le_refl _)
          · skip
            exact g_vret rfl d_X11_ditchLine_154 ⟨rfl, by simp only [m_X11_ditchLine, if_pos h5, if_pos h6, if_neg h10, opv_eq, if_true, if_false, Bool.false_eq_true, reduceCtorEq, b2i_t, b2i_f]⟩ (Nat.le_refl _) (Nat.le_refl _)
    · skip
      exact g_vret rfl d_X11_ditchLine_37 ⟨rfl, by simp only [m_X11_ditchLine, if_pos h5, if_neg h6, opv_eq, if_true, if_false, Bool.false_eq_true, reduceCtorEq, b2i_t, b2i_f]⟩ (Nat.le_refl _) (Nat.le_refl _)
  · skip
    exact g_vret rfl d_X11_ditchLine_7 ⟨rfl, by simp only [m_X11_ditchLine, if_neg h5, opv_eq, if_true, if_false, Bool.false_eq_true, reduceCtorEq, b2i_t, b2i_f]⟩ (Nat.le_refl _) (Nat.le_refl _)
noncomputable def u0_X11_readLine (I : Nat → Nat → Int32) : Bool := opv (if 4 ≤ ((m_X11_isLine I 1 true) 69 5) then false else true)
noncomputable def u1_X11_readLine (I : Nat → Nat → Int32) : Bool := opv (if 6 ≤ ((m_X11_isLine (m_X11_isLine I 1 true) 2 (u0_X11_readLine I)) 69 6) then false else true)
noncomputable def u2_X11_readLine (I : Nat → Nat → Int32) : Nat → Nat → Int32 := opv (m_X11_isLine (m_X11_isLine (m_X11_isLine I 1 true) 2 (u0_X11_readLine I)) 3 (u1_X11_readLine I))
noncomputable def u3_X11_readLine (I : Nat → Nat → Int32) : Nat → Nat → Int32 := opv (m_X11_isLine (u2_X11_readLine I) 4 (if 5 ≤ ((u2_X11_readLine I) 69 7) then false else true))
noncomputable def u4_X11_readLine (I : Nat → Nat → Int32) : Nat → Nat → Int32 := opv (m_X11_isLine (u3_X11_readLine I) 5 (if 6 ≤ ((u3_X11_readLine I) 69 8) then false else true))
noncomputable def u5_X11_readLine (I : Nat → Nat → Int32) : Nat → Nat → Int32 := opv (m_X11_isLine (u4_X11_readLine I) 6 (if 9 ≤ ((u4_X11_readLine I) 69 9) then false else true))
noncomputable def u6_X11_readLine (I : Nat → Nat → Int32) : Nat → Nat → Int32 := opv (m_X11_ventLine (m_X11_isLine (m_X11_isLine I 1 true) 2 (u0_X11_readLine I)))
noncomputable def u7_X11_readLine (I : Nat → Nat → Int32) : Nat → Nat → Int32 := opv (if (f_X11_isWord I 0) = true then (m_X11_chaletLine I) else (if (f_X11_isLine I 1 true) = true then (m_X11_weatherLine (m_X11_isLine I 1 true)) else (if (f_X11_isLine (m_X11_isLine I 1 true) 2 (u0_X11_readLine I)) = true then (u6_X11_readLine I) else (if (f_X11_isLine (m_X11_isLine (m_X11_isLine I 1 true) 2 (u0_X11_readLine I)) 3 (u1_X11_readLine I)) = true then (m_X11_planLine (u2_X11_readLine I)) else (if (f_X11_isLine (u2_X11_readLine I) 4 (if 5 ≤ ((u2_X11_readLine I) 69 7) then false else true)) = true then (m_X11_sawLine (u3_X11_readLine I)) else (if (f_X11_isLine (u3_X11_readLine I) 5 (if 6 ≤ ((u3_X11_readLine I) 69 8) then false else true)) = true then (m_X11_fieldLine (u4_X11_readLine I)) else (if (f_X11_isLine (u4_X11_readLine I) 6 (if 9 ≤ ((u4_X11_readLine I) 69 9) then false else true)) = true then (m_X11_ditchLine (u5_X11_readLine I)) else (m_X11_wrong (u5_X11_readLine I) 1 ((u5_X11_readLine I) 65 4)))))))))
noncomputable def m_X11_readLine (I : Nat → Nat → Int32)  : Nat → Nat → Int32 := opv (u7_X11_readLine I)
noncomputable def ok_X11_readLine (I : Nat → Nat → Int32)  : Prop := opv (ok_X11_isWord I 0 ∧ (if (f_X11_isWord I 0) = true then ok_X11_chaletLine I else (ok_X11_isLine I 1 true ∧ (if (f_X11_isLine I 1 true) = true then ok_X11_weatherLine (m_X11_isLine I 1 true) else (ok_X11_isLine (m_X11_isLine I 1 true) 2 (u0_X11_readLine I) ∧ (if (f_X11_isLine (m_X11_isLine I 1 true) 2 (u0_X11_readLine I)) = true then ok_X11_ventLine (m_X11_isLine (m_X11_isLine I 1 true) 2 (u0_X11_readLine I)) else (ok_X11_isLine (m_X11_isLine (m_X11_isLine I 1 true) 2 (u0_X11_readLine I)) 3 (u1_X11_readLine I) ∧ (if (f_X11_isLine (m_X11_isLine (m_X11_isLine I 1 true) 2 (u0_X11_readLine I)) 3 (u1_X11_readLine I)) = true then ok_X11_planLine (u2_X11_readLine I) else (ok_X11_isLine (u2_X11_readLine I) 4 (if 5 ≤ ((u2_X11_readLine I) 69 7) then false else true) ∧ (if (f_X11_isLine (u2_X11_readLine I) 4 (if 5 ≤ ((u2_X11_readLine I) 69 7) then false else true)) = true then ok_X11_sawLine (u3_X11_readLine I) else (ok_X11_isLine (u3_X11_readLine I) 5 (if 6 ≤ ((u3_X11_readLine I) 69 8) then false else true) ∧ (if (f_X11_isLine (u3_X11_readLine I) 5 (if 6 ≤ ((u3_X11_readLine I) 69 8) then false else true)) = true then ok_X11_fieldLine (u4_X11_readLine I) else (ok_X11_isLine (u4_X11_readLine I) 6 (if 9 ≤ ((u4_X11_readLine I) 69 9) then false else true) ∧ (if (f_X11_isLine (u4_X11_readLine I) 6 (if 9 ≤ ((u4_X11_readLine I) 69 9) then false else true)) = true then ok_X11_ditchLine (u5_X11_readLine I) else True))))))))))))))
set_option maxHeartbeats 800000 in
set_option maxRecDepth 4000 in
theorem c_X11_readLine {k : KT} {ex : Bool} {J : Nat → Nat → Int64} {w : Bool} (I : Nat → Nat → Int32)   (hok : ok_X11_readLine I) : Cx k mX11_readLine 10 [.ref (ka k 65)] (81, ex, I, J, Pw w) none (81, ex, m_X11_readLine I, J, Pw w) := by
  refine Ct.of rfl [some (.ref (ka k 65))] rfl rfl (Nat.le_of_ble_eq_true rfl) ?_
  rw [ok_X11_readLine, opv_eq] at hok
  refine g_aload_n0 rfl d_X11_readLine_0 ?_
  refine g_ldcS (n := 0) (tx := "chalet") (by decide) d_X11_readLine_1 ?_
  obtain ⟨ho1, hok⟩ := hok
  refine g_callV1 (c_X11_isWord I 0 (by decide) ho1) w_X11_isWord l_X11_115 d_X11_readLine_3 rfl (Nat.le_of_ble_eq_true rfl) rfl rfl (Nat.le_of_ble_eq_true rfl) ⟨Nat.le_of_ble_eq_true rfl, Nat.le_of_ble_eq_true rfl⟩ ⟨Nat.zero_le _, Nat.zero_le _⟩ ⟨rfl, rfl⟩ ?_
  refine g_cut (pc' := 204) (vs' := [some (.ref (ka k 65))]) (st' := []) (M' := (81, ex, (u7_X11_readLine I), J, Pw w)) (fun hj => ?_) ?_
  · skip
    refine g_ifz 16 d_X11_readLine_6 (by decide) (fun h1 => ?_) (fun h1 => ?_)
    · skip
      rw [if_neg (nb h1)] at hok
      refine g_aload_n0 rfl d_X11_readLine_16 ?_
      refine g_ldcS (n := 1) (tx := "weather") (by decide) d_X11_readLine_17 ?_
      refine g_iconst 1 d_X11_readLine_19 (by decide) ?_
      obtain ⟨ho2, hok⟩ := hok
      refine g_callV1 (c_X11_isLine I 1 (by decide) true ho2) w_X11_isLine l_X11_197 d_X11_readLine_20 rfl (Nat.le_of_ble_eq_true rfl) rfl rfl (Nat.le_of_ble_eq_true rfl) ⟨Nat.le_of_ble_eq_true rfl, Nat.le_of_ble_eq_true rfl⟩ ⟨Nat.zero_le _, Nat.zero_le _⟩ ⟨rfl, rfl⟩ ?_
      refine g_ifz 33 d_X11_readLine_23 (by decide) (fun h2 => ?_) (fun h2 => ?_)
      · skip
        rw [if_neg (nb h2)] at hok
        refine g_aload_n0 rfl d_X11_readLine_33 ?_
        refine g_ldcS (n := 2) (tx := "vent") (by decide) d_X11_readLine_34 ?_
        refine g_aload_n0 rfl d_X11_readLine_36 ?_
        refine g_getP (b := 69) f_X11_23 d_X11_readLine_37 rfl (Nat.le_of_ble_eq_true rfl) rfl rfl ?_
        refine g_iconst 5 d_X11_readLine_40 (by decide) ?_
        refine g_ialdv ((m_X11_isLine I 1 true) 69 5) rfl d_X11_readLine_41 rfl (Nat.le_of_ble_eq_true rfl) (vp_c (by decide +kernel)) ?_
        refine g_iconst 4 d_X11_readLine_42 (by decide) ?_
        refine g_cut (pc' := 51) (vs' := [some (.ref (ka k 65))]) (st' := [.int (b2i (u0_X11_readLine I)), .ref (adK k 2), .ref (ka k 65)]) (M' := (81, ex, (m_X11_isLine I 1 true), J, Pw w)) (fun hj => ?_) ?_
        · skip
          refine g_icmp_ge 50 d_X11_readLine_43 (by decide) (fun h3 => ?_) (fun h3 => ?_)
          · skip
            refine g_iconst 0 d_X11_readLine_50 (by decide) ?_
            (try simp only [if_pos h3, opv_eq, if_true, if_false, Bool.false_eq_true, reduceCtorEq, b2i_t, b2i_f, u0_X11_readLine] at hj); exact hj
          · skip
            refine g_iconst 1 d_X11_readLine_46 (by decide) ?_
            refine g_goto 51 d_X11_readLine_47 (by decide) ?_
            (try simp only [if_neg h3, opv_eq, if_true, if_false, Bool.false_eq_true, reduceCtorEq, b2i_t, b2i_f, u0_X11_readLine] at hj); exact hj
        · skip
          obtain ⟨ho3, hok⟩ := hok
          refine g_callV1 (c_X11_isLine (m_X11_isLine I 1 true) 2 (by decide) (u0_X11_readLine I) ho3) w_X11_isLine l_X11_197 d_X11_readLine_51 rfl (Nat.le_of_ble_eq_true rfl) rfl rfl (Nat.le_of_ble_eq_true rfl) ⟨Nat.le_of_ble_eq_true rfl, Nat.le_of_ble_eq_true rfl⟩ ⟨Nat.zero_le _, Nat.zero_le _⟩ ⟨rfl, rfl⟩ ?_
          refine g_ifz 64 d_X11_readLine_54 (by decide) (fun h4 => ?_) (fun h4 => ?_)
          · skip
            rw [if_neg (nb h4)] at hok
            refine g_aload_n0 rfl d_X11_readLine_64 ?_
            refine g_ldcS (n := 3) (tx := "plan") (by decide) d_X11_readLine_65 ?_
            refine g_aload_n0 rfl d_X11_readLine_67 ?_
            refine g_getP (b := 69) f_X11_23 d_X11_readLine_68 rfl (Nat.le_of_ble_eq_true rfl) rfl rfl ?_
            refine g_bipush 6 d_X11_readLine_71 (by decide) ?_
            refine g_ialdv ((m_X11_isLine (m_X11_isLine I 1 true) 2 (u0_X11_readLine I)) 69 6) rfl d_X11_readLine_73 rfl (Nat.le_of_ble_eq_true rfl) (vp_c (by decide +kernel)) ?_
            refine g_bipush 6 d_X11_readLine_74 (by decide) ?_
            refine g_cut (pc' := 84) (vs' := [some (.ref (ka k 65))]) (st' := [.int (b2i (u1_X11_readLine I)), .ref (adK k 3), .ref (ka k 65)]) (M' := (81, ex, (m_X11_isLine (m_X11_isLine I 1 true) 2 (u0_X11_readLine I)), J, Pw w)) (fun hj => ?_) ?_
            · skip
              refine g_icmp_ge 83 d_X11_readLine_76 (by decide) (fun h5 => ?_) (fun h5 => ?_)
              · skip
                refine g_iconst 0 d_X11_readLine_83 (by decide) ?_
                (try simp only [if_pos h5, opv_eq, if_true, if_false, Bool.false_eq_true, reduceCtorEq, b2i_t, b2i_f, u1_X11_readLine] at hj); exact hj
              · skip
                refine g_iconst 1 d_X11_readLine_79 (by decide) ?_
                refine g_goto 84 d_X11_readLine_80 (by decide) ?_
                (try simp only [if_neg h5, opv_eq, if_true, if_false, Bool.false_eq_true, reduceCtorEq, b2i_t, b2i_f, u1_X11_readLine] at hj); exact hj
            · skip
              obtain ⟨ho4, hok⟩ := hok
              refine g_callV1 (c_X11_isLine (m_X11_isLine (m_X11_isLine I 1 true) 2 (u0_X11_readLine I)) 3 (by decide) (u1_X11_readLine I) ho4) w_X11_isLine l_X11_197 d_X11_readLine_84 rfl (Nat.le_of_ble_eq_true rfl) rfl rfl (Nat.le_of_ble_eq_true rfl) ⟨Nat.le_of_ble_eq_true rfl, Nat.le_of_ble_eq_true rfl⟩ ⟨Nat.zero_le _, Nat.zero_le _⟩ ⟨rfl, rfl⟩ ?_
              refine G.toI (I' := (u2_X11_readLine I)) (by rw [u2_X11_readLine, opv_eq]) ?_
              refine g_ifz 97 d_X11_readLine_87 (by decide) (fun h6 => ?_) (fun h6 => ?_)
              · skip
                rw [if_neg (nb h6)] at hok
                refine g_aload_n0 rfl d_X11_readLine_97 ?_
                refine g_ldcS (n := 4) (tx := "saw") (by decide) d_X11_readLine_98 ?_
                refine g_aload_n0 rfl d_X11_readLine_100 ?_
                refine g_getP (b := 69) f_X11_23 d_X11_readLine_101 rfl (Nat.le_of_ble_eq_true rfl) rfl rfl ?_
                refine g_bipush 7 d_X11_readLine_104 (by decide) ?_
                refine g_ialdv ((u2_X11_readLine I) 69 7) rfl d_X11_readLine_106 rfl (Nat.le_of_ble_eq_true rfl) (vp_c (by decide +kernel)) ?_
                refine g_iconst 5 d_X11_readLine_107 (by decide) ?_
                refine g_cut (pc' := 116) (vs' := [some (.ref (ka k 65))]) (st' := [.int (b2i (if 5 ≤ ((u2_X11_readLine I) 69 7) then false else true)), .ref (adK k 4), .ref (ka k 65)]) (M' := (81, ex, (u2_X11_readLine I), J, Pw w)) (fun hj => ?_) ?_
                · skip
                  refine g_icmp_ge 115 d_X11_readLine_108 (by decide) (fun h7 => ?_) (fun h7 => ?_)
                  · skip
                    refine g_iconst 0 d_X11_readLine_115 (by decide) ?_
                    (try simp only [if_pos h7, opv_eq, if_true, if_false, Bool.false_eq_true, reduceCtorEq, b2i_t, b2i_f] at hj); exact hj
                  · skip
                    refine g_iconst 1 d_X11_readLine_111 (by decide) ?_
                    refine g_goto 116 d_X11_readLine_112 (by decide) ?_
                    (try simp only [if_neg h7, opv_eq, if_true, if_false, Bool.false_eq_true, reduceCtorEq, b2i_t, b2i_f] at hj); exact hj
                · skip
                  obtain ⟨ho5, hok⟩ := hok
                  refine g_callV1 (c_X11_isLine (u2_X11_readLine I) 4 (by decide) (if 5 ≤ ((u2_X11_readLine I) 69 7) then false else true) ho5) w_X11_isLine l_X11_197 d_X11_readLine_116 rfl (Nat.le_of_ble_eq_true rfl) rfl rfl (Nat.le_of_ble_eq_true rfl) ⟨Nat.le_of_ble_eq_true rfl, Nat.le_of_ble_eq_true rfl⟩ ⟨Nat.zero_le _, Nat.zero_le _⟩ ⟨rfl, rfl⟩ ?_
                  refine G.toI (I' := (u3_X11_readLine I)) (by rw [u3_X11_readLine, opv_eq]) ?_
                  refine g_ifz 129 d_X11_readLine_119 (by decide) (fun h8 => ?_) (fun h8 => ?_)
                  · skip
                    rw [if_neg (nb h8)] at hok
                    refine g_aload_n0 rfl d_X11_readLine_129 ?_
                    refine g_ldcS (n := 5) (tx := "field") (by decide) d_X11_readLine_130 ?_
                    refine g_aload_n0 rfl d_X11_readLine_132 ?_
                    refine g_getP (b := 69) f_X11_23 d_X11_readLine_133 rfl (Nat.le_of_ble_eq_true rfl) rfl rfl ?_
                    refine g_bipush 8 d_X11_readLine_136 (by decide) ?_
                    refine g_ialdv ((u3_X11_readLine I) 69 8) rfl d_X11_readLine_138 rfl (Nat.le_of_ble_eq_true rfl) (vp_c (by decide +kernel)) ?_
                    refine g_bipush 6 d_X11_readLine_139 (by decide) ?_
                    refine g_cut (pc' := 149) (vs' := [some (.ref (ka k 65))]) (st' := [.int (b2i (if 6 ≤ ((u3_X11_readLine I) 69 8) then false else true)), .ref (adK k 5), .ref (ka k 65)]) (M' := (81, ex, (u3_X11_readLine I), J, Pw w)) (fun hj => ?_) ?_
                    · skip
                      refine g_icmp_ge 148 d_X11_readLine_141 (by decide) (fun h9 => ?_) (fun h9 => ?_)
                      · skip
                        refine g_iconst 0 d_X11_readLine_148 (by decide) ?_
                        (try simp only [if_pos h9, opv_eq, if_true, if_false, Bool.false_eq_true, reduceCtorEq, b2i_t, b2i_f] at hj); exact hj
                      · skip
                        refine g_iconst 1 d_X11_readLine_144 (by decide) ?_
                        refine g_goto 149 d_X11_readLine_145 (by decide) ?_
                        (try simp only [if_neg h9, opv_eq, if_true, if_false, Bool.false_eq_true, reduceCtorEq, b2i_t, b2i_f] at hj); exact hj
                    · skip
                      obtain ⟨ho6, hok⟩ := hok
                      refine g_callV1 (c_X11_isLine (u3_X11_readLine I) 5 (by decide) (if 6 ≤ ((u3_X11_readLine I) 69 8) then false else true) ho6) w_X11_isLine l_X11_197 d_X11_readLine_149 rfl (Nat.le_of_ble_eq_true rfl) rfl rfl (Nat.le_of_ble_eq_true rfl) ⟨Nat.le_of_ble_eq_true rfl, Nat.le_of_ble_eq_true rfl⟩ ⟨Nat.zero_le _, Nat.zero_le _⟩ ⟨rfl, rfl⟩ ?_
                      refine G.toI (I' := (u4_X11_readLine I)) (by rw [u4_X11_readLine, opv_eq]) ?_
                      refine g_ifz 162 d_X11_readLine_152 (by decide) (fun h10 => ?_) (fun h10 => ?_)
                      · skip
                        rw [if_neg (nb h10)] at hok
                        refine g_aload_n0 rfl d_X11_readLine_162 ?_
                        refine g_ldcS (n := 6) (tx := "ditch") (by decide) d_X11_readLine_163 ?_
                        refine g_aload_n0 rfl d_X11_readLine_165 ?_
                        refine g_getP (b := 69) f_X11_23 d_X11_readLine_166 rfl (Nat.le_of_ble_eq_true rfl) rfl rfl ?_
                        refine g_bipush 9 d_X11_readLine_169 (by decide) ?_
                        refine g_ialdv ((u4_X11_readLine I) 69 9) rfl d_X11_readLine_171 rfl (Nat.le_of_ble_eq_true rfl) (vp_c (by decide +kernel)) ?_
                        refine g_bipush 9 d_X11_readLine_172 (by decide) ?_
                        refine g_cut (pc' := 182) (vs' := [some (.ref (ka k 65))]) (st' := [.int (b2i (if 9 ≤ ((u4_X11_readLine I) 69 9) then false else true)), .ref (adK k 6), .ref (ka k 65)]) (M' := (81, ex, (u4_X11_readLine I), J, Pw w)) (fun hj => ?_) ?_
                        · skip
                          refine g_icmp_ge 181 d_X11_readLine_174 (by decide) (fun h11 => ?_) (fun h11 => ?_)
                          · skip
                            refine g_iconst 0 d_X11_readLine_181 (by decide) ?_
                            (try simp only [if_pos h11, opv_eq, if_true, if_false, Bool.false_eq_true, reduceCtorEq, b2i_t, b2i_f] at hj); exact hj
                          · skip
                            refine g_iconst 1 d_X11_readLine_177 (by decide) ?_
                            refine g_goto 182 d_X11_readLine_178 (by decide) ?_
                            (try simp only [if_neg h11, opv_eq, if_true, if_false, Bool.false_eq_true, reduceCtorEq, b2i_t, b2i_f] at hj); exact hj
                        · skip
                          obtain ⟨ho7, hok⟩ := hok
                          refine g_callV1 (c_X11_isLine (u4_X11_readLine I) 6 (by decide) (if 9 ≤ ((u4_X11_readLine I) 69 9) then false else true) ho7) w_X11_isLine l_X11_197 d_X11_readLine_182 rfl (Nat.le_of_ble_eq_true rfl) rfl rfl (Nat.le_of_ble_eq_true rfl) ⟨Nat.le_of_ble_eq_true rfl, Nat.le_of_ble_eq_true rfl⟩ ⟨Nat.zero_le _, Nat.zero_le _⟩ ⟨rfl, rfl⟩ ?_
                          refine G.toI (I' := (u5_X11_readLine I)) (by rw [u5_X11_readLine, opv_eq]) ?_
                          refine g_ifz 195 d_X11_readLine_185 (by decide) (fun h12 => ?_) (fun h12 => ?_)
                          · skip
                            refine g_aload_n0 rfl d_X11_readLine_195 ?_
                            refine g_iconst 1 d_X11_readLine_196 (by decide) ?_
                            refine g_aload_n0 rfl d_X11_readLine_197 ?_
                            refine g_getI f_X11_79 d_X11_readLine_198 rfl (Nat.le_of_ble_eq_true rfl) rfl ?_
                            refine g_callV0 (c_X11_wrong (u5_X11_readLine I) 1 ((u5_X11_readLine I) 65 4)) w_X11_wrong l_X11_125 d_X11_readLine_201 rfl (Nat.le_of_ble_eq_true rfl) rfl rfl (Nat.le_of_ble_eq_true rfl) ⟨Nat.le_of_ble_eq_true rfl, Nat.le_of_ble_eq_true rfl⟩ ⟨Nat.zero_le _, Nat.zero_le _⟩ ⟨rfl, rfl⟩ ?_
                            (try simp only [if_neg (nb h1), if_neg (nb h2), if_neg (nb h4), if_neg (nb h6), if_neg (nb h8), if_neg (nb h10), if_neg (nb h12), opv_eq, if_true, if_false, Bool.false_eq_true, reduceCtorEq, b2i_t, b2i_f, u7_X11_readLine] at hj); exact hj
                          · skip
                            rw [if_pos h12] at hok
                            refine g_aload_n0 rfl d_X11_readLine_188 ?_
                            have ho8 := hok
                            refine g_callV0 (c_X11_ditchLine (u5_X11_readLine I)  ho8) w_X11_ditchLine l_X11_216 d_X11_readLine_189 rfl (Nat.le_of_ble_eq_true rfl) rfl rfl (Nat.le_of_ble_eq_true rfl) ⟨Nat.le_of_ble_eq_true rfl, Nat.le_of_ble_eq_true rfl⟩ ⟨Nat.zero_le _, Nat.zero_le _⟩ ⟨rfl, rfl⟩ ?_
                            refine g_goto 204 d_X11_readLine_192 (by decide) ?_
                            (try simp only [if_neg (nb h1), if_neg (nb h2), if_neg (nb h4), if_neg (nb h6), if_neg (nb h8), if_neg (nb h10), if_pos h12, opv_eq, if_true, if_false, Bool.false_eq_true, reduceCtorEq, b2i_t, b2i_f, u7_X11_readLine] at hj); exact hj
                      · skip
                        rw [if_pos h10] at hok
                        refine g_aload_n0 rfl d_X11_readLine_155 ?_
                        have ho9 := hok
                        refine g_callV0 (c_X11_fieldLine (u4_X11_readLine I)  ho9) w_X11_fieldLine l_X11_213 d_X11_readLine_156 rfl (Nat.le_of_ble_eq_true rfl) rfl rfl (Nat.le_of_ble_eq_true rfl) ⟨Nat.le_of_ble_eq_true rfl, Nat.le_of_ble_eq_true rfl⟩ ⟨Nat.zero_le _, Nat.zero_le _⟩ ⟨rfl, rfl⟩ ?_
                        refine g_goto 204 d_X11_readLine_159 (by decide) ?_
                        (try simp only [if_neg (nb h1), if_neg (nb h2), if_neg (nb h4), if_neg (nb h6), if_neg (nb h8), if_pos h10, opv_eq, if_true, if_false, Bool.false_eq_true, reduceCtorEq, b2i_t, b2i_f, u7_X11_readLine] at hj); exact hj
                  · skip
                    rw [if_pos h8] at hok
                    refine g_aload_n0 rfl d_X11_readLine_122 ?_
                    have ho10 := hok
                    refine g_callV0 (c_X11_sawLine (u3_X11_readLine I)  ho10) w_X11_sawLine l_X11_210 d_X11_readLine_123 rfl (Nat.le_of_ble_eq_true rfl) rfl rfl (Nat.le_of_ble_eq_true rfl) ⟨Nat.le_of_ble_eq_true rfl, Nat.le_of_ble_eq_true rfl⟩ ⟨Nat.zero_le _, Nat.zero_le _⟩ ⟨rfl, rfl⟩ ?_
                    refine g_goto 204 d_X11_readLine_126 (by decide) ?_
                    (try simp only [if_neg (nb h1), if_neg (nb h2), if_neg (nb h4), if_neg (nb h6), if_pos h8, opv_eq, if_true, if_false, Bool.false_eq_true, reduceCtorEq, b2i_t, b2i_f, u7_X11_readLine] at hj); exact hj
              · skip
                rw [if_pos h6] at hok
                refine g_aload_n0 rfl d_X11_readLine_90 ?_
                have ho11 := hok
                refine g_callV0 (c_X11_planLine (u2_X11_readLine I)  ho11) w_X11_planLine l_X11_207 d_X11_readLine_91 rfl (Nat.le_of_ble_eq_true rfl) rfl rfl (Nat.le_of_ble_eq_true rfl) ⟨Nat.le_of_ble_eq_true rfl, Nat.le_of_ble_eq_true rfl⟩ ⟨Nat.zero_le _, Nat.zero_le _⟩ ⟨rfl, rfl⟩ ?_
                refine g_goto 204 d_X11_readLine_94 (by decide) ?_
                (try simp only [if_neg (nb h1), if_neg (nb h2), if_neg (nb h4), if_pos h6, opv_eq, if_true, if_false, Bool.false_eq_true, reduceCtorEq, b2i_t, b2i_f, u7_X11_readLine] at hj); exact hj
          · skip
            rw [if_pos h4] at hok
            refine g_aload_n0 rfl d_X11_readLine_57 ?_
            have ho12 := hok
            refine g_callV0 (c_X11_ventLine (m_X11_isLine (m_X11_isLine I 1 true) 2 (u0_X11_readLine I))  ho12) w_X11_ventLine l_X11_204 d_X11_readLine_58 rfl (Nat.le_of_ble_eq_true rfl) rfl rfl (Nat.le_of_ble_eq_true rfl) ⟨Nat.le_of_ble_eq_true rfl, Nat.le_of_ble_eq_true rfl⟩ ⟨Nat.zero_le _, Nat.zero_le _⟩ ⟨rfl, rfl⟩ ?_
            refine G.toI (I' := (u6_X11_readLine I)) (by rw [u6_X11_readLine, opv_eq]) ?_
            refine g_goto 204 d_X11_readLine_61 (by decide) ?_
            (try simp only [if_neg (nb h1), if_neg (nb h2), if_pos h4, opv_eq, if_true, if_false, Bool.false_eq_true, reduceCtorEq, b2i_t, b2i_f, u7_X11_readLine] at hj); exact hj
      · skip
        rw [if_pos h2] at hok
        refine g_aload_n0 rfl d_X11_readLine_26 ?_
        have ho13 := hok
        refine g_callV0 (c_X11_weatherLine (m_X11_isLine I 1 true)  ho13) w_X11_weatherLine l_X11_201 d_X11_readLine_27 rfl (Nat.le_of_ble_eq_true rfl) rfl rfl (Nat.le_of_ble_eq_true rfl) ⟨Nat.le_of_ble_eq_true rfl, Nat.le_of_ble_eq_true rfl⟩ ⟨Nat.zero_le _, Nat.zero_le _⟩ ⟨rfl, rfl⟩ ?_
        refine g_goto 204 d_X11_readLine_30 (by decide) ?_
        (try simp only [if_neg (nb h1), if_pos h2, opv_eq, if_true, if_false, Bool.false_eq_true, reduceCtorEq, b2i_t, b2i_f, u7_X11_readLine] at hj); exact hj
    · skip
      rw [if_pos h1] at hok
      refine g_aload_n0 rfl d_X11_readLine_9 ?_
      have ho14 := hok
      refine g_callV0 (c_X11_chaletLine I  ho14) w_X11_chaletLine l_X11_194 d_X11_readLine_10 rfl (Nat.le_of_ble_eq_true rfl) rfl rfl (Nat.le_of_ble_eq_true rfl) ⟨Nat.le_of_ble_eq_true rfl, Nat.le_of_ble_eq_true rfl⟩ ⟨Nat.zero_le _, Nat.zero_le _⟩ ⟨rfl, rfl⟩ ?_
      refine g_goto 204 d_X11_readLine_13 (by decide) ?_
      (try simp only [if_pos h1, opv_eq, if_true, if_false, Bool.false_eq_true, reduceCtorEq, b2i_t, b2i_f, u7_X11_readLine] at hj); exact hj
  · skip
    exact g_vret rfl d_X11_readLine_204 ⟨rfl, by simp only [m_X11_readLine, opv_eq, if_true, if_false, Bool.false_eq_true, reduceCtorEq, b2i_t, b2i_f]⟩ (Nat.le_refl _) (Nat.le_refl _)
