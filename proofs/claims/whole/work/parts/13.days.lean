noncomputable def lp_X2_behind_11 (x1 : Nat) (x2 : Nat) (x3 : Int32) : Nat → Int32 → (Nat → Nat → Int32) → Int32 × (Nat → Nat → Int32)
  | 0, l4, I1 => (l4, I1)
  | n + 1, l4, I1 => (if x3 ≤ l4 then (l4, I1) else (lp_X2_behind_11 x1 x2 x3 n (l4 + 1) (m_X0_passDay I1 47 x1)))
set_option maxHeartbeats 800000 in
set_option maxRecDepth 4000 in
theorem k_lp_X2_behind_11 {k : KT} {ex : Bool} {J : Nat → Nat → Int64} {w : Bool} (x1 : Nat) (hx1 : kd x1 = 7) (x2 : Nat) (hx2 : kd x2 = 0) (x3 : Int32) {F : FinT} : ∀ (n : Nat) (l4 : Int32) (I1 : (Nat → Nat → Int32)), mu_up x3 l4 < n → G k mX2_behind (roomOf 5 0 0) F 0 0 31 [some (.ref (ka k 46)), some (.ref (ka k x1)), some (.ref (ka k x2)), some (.int x3), some (.int ((lp_X2_behind_11 x1 x2 x3 n l4 I1).1))] [] (81, ex, (lp_X2_behind_11 x1 x2 x3 n l4 I1).2, J, Pw w) → G k mX2_behind (roomOf 5 0 0) F 0 0 11 [some (.ref (ka k 46)), some (.ref (ka k x1)), some (.ref (ka k x2)), some (.int x3), some (.int l4)] [] (81, ex, I1, J, Pw w) := by
  intro n
  induction n with
  | zero => intro l4 I1 hmu hj; exact absurd hmu (Nat.not_lt_zero _)
  | succ n ih =>
    intro l4 I1 hmu hj
    refine g_iload (i := 4) rfl d_X2_behind_11 ?_
    refine g_iload_n3 rfl d_X2_behind_13 ?_
    refine g_icmp_ge 31 d_X2_behind_14 (by decide) (fun h1 => ?_) (fun h1 => ?_)
    · skip
      (try simp only [lp_X2_behind_11, if_pos h1, opv_eq, if_true, if_false, Bool.false_eq_true, reduceCtorEq, b2i_t, b2i_f] at hj); exact hj
    · skip
      refine g_aload_n0 rfl d_X2_behind_17 ?_
      refine g_getP (b := 47) f_X2_14 d_X2_behind_18 rfl (Nat.le_of_ble_eq_true rfl) rfl rfl ?_
      refine g_aload_n1 rfl d_X2_behind_21 ?_
      refine g_callV0 (c_X0_passDay I1 47 rfl x1 hx1) w_X0_passDay l_X2_26 d_X2_behind_22 rfl (Nat.le_of_ble_eq_true rfl) rfl rfl (Nat.le_of_ble_eq_true rfl) ⟨Nat.le_of_ble_eq_true rfl, Nat.le_of_ble_eq_true rfl⟩ ⟨Nat.zero_le _, Nat.zero_le _⟩ ⟨rfl, rfl⟩ ?_
      refine g_ic4 (l4 + 1) rfl rfl d_X2_behind_25 ?_
      refine g_goto 11 d_X2_behind_28 (by decide) ?_
      exact ih (l4 + 1) (m_X0_passDay I1 47 x1) (Nat.lt_of_lt_of_le (mu_up_lt h1) (Nat.le_of_lt_succ hmu)) (by (try simp only [lp_X2_behind_11, if_neg h1, opv_eq, if_true, if_false, Bool.false_eq_true, reduceCtorEq, b2i_t, b2i_f] at hj); exact hj)
noncomputable def m_X2_behind (I : Nat → Nat → Int32) (x1 : Nat) (x2 : Nat) (x3 : Int32) : Nat → Nat → Int32 := opv ((lp_X2_behind_11 x1 x2 x3 (mu_up x3 0 + 1) 0 (m_X0_copy I 47 x2)).2)
noncomputable def ok_X2_behind (I : Nat → Nat → Int32) (x1 : Nat) (x2 : Nat) (x3 : Int32) : Prop := opv (x2 ≠ 47)
set_option maxHeartbeats 800000 in
set_option maxRecDepth 4000 in
theorem c_X2_behind {k : KT} {ex : Bool} {J : Nat → Nat → Int64} {w : Bool} (I : Nat → Nat → Int32) (x1 : Nat) (hx1 : kd x1 = 7) (x2 : Nat) (hx2 : kd x2 = 0) (x3 : Int32)  (hok : ok_X2_behind I x1 x2 x3) : Cx k mX2_behind 5 [.ref (ka k 46), .ref (ka k x1), .ref (ka k x2), .int x3] (81, ex, I, J, Pw w) (some (.ref (ka k 47))) (81, ex, m_X2_behind I x1 x2 x3, J, Pw w) := by
  refine Ct.of rfl [some (.ref (ka k 46)), some (.ref (ka k x1)), some (.ref (ka k x2)), some (.int x3), none] rfl rfl (Nat.le_of_ble_eq_true rfl) ?_
  rw [ok_X2_behind, opv_eq] at hok
  refine g_aload_n0 rfl d_X2_behind_0 ?_
  refine g_getP (b := 47) f_X2_14 d_X2_behind_1 rfl (Nat.le_of_ble_eq_true rfl) rfl rfl ?_
  refine g_aload_n2 rfl d_X2_behind_4 ?_
  have ho1 := hok
  refine g_callV0 (c_X0_copy I 47 rfl x2 hx2 ho1) w_X0_copy l_X2_22 d_X2_behind_5 rfl (Nat.le_of_ble_eq_true rfl) rfl rfl (Nat.le_of_ble_eq_true rfl) ⟨Nat.le_of_ble_eq_true rfl, Nat.le_of_ble_eq_true rfl⟩ ⟨Nat.zero_le _, Nat.zero_le _⟩ ⟨rfl, rfl⟩ ?_
  refine g_iconst 0 d_X2_behind_8 (by decide) ?_
  refine g_is4 rfl d_X2_behind_9 ?_
  refine k_lp_X2_behind_11 x1 hx1 x2 hx2 x3 _ 0 (m_X0_copy I 47 x2) (Nat.lt_succ_self _) ?_
  refine g_aload_n0 rfl d_X2_behind_31 ?_
  refine g_getP (b := 47) f_X2_14 d_X2_behind_32 rfl (Nat.le_of_ble_eq_true rfl) rfl rfl ?_
  exact g_aret rfl d_X2_behind_35 ⟨rfl, by simp only [m_X2_behind, opv_eq, if_true, if_false, Bool.false_eq_true, reduceCtorEq, b2i_t, b2i_f]⟩ (Nat.le_refl _) (Nat.le_refl _)
noncomputable def u0_X2_daysWith (x1 : Nat) (x3 : Int32) (I1 : Nat → Nat → Int32) : Bool := opv (if ((m_X0_passDay I1 47 x1) 47 5) = x3 then true else false)
noncomputable def lp_X2_daysWith_14 (x1 : Nat) (x2 : Nat) (x3 : Int32) (x4 : Int32) : Nat → Int32 → Int32 → (Nat → Nat → Int32) → Int32 × Int32 × (Nat → Nat → Int32)
  | 0, l5, l6, I1 => (l5, l6, I1)
  | n + 1, l5, l6, I1 => (if x4 ≤ l6 then (l5, l6, I1) else (lp_X2_daysWith_14 x1 x2 x3 x4 n (l5 + (b2i (u0_X2_daysWith x1 x3 I1))) (l6 + 1) (m_X0_passDay I1 47 x1)))
set_option maxHeartbeats 800000 in
set_option maxRecDepth 4000 in
theorem k_lp_X2_daysWith_14 {k : KT} {ex : Bool} {J : Nat → Nat → Int64} {w : Bool} (x1 : Nat) (hx1 : kd x1 = 7) (x2 : Nat) (hx2 : kd x2 = 0) (x3 : Int32) (x4 : Int32) {F : FinT} : ∀ (n : Nat) (l5 : Int32) (l6 : Int32) (I1 : (Nat → Nat → Int32)), mu_up x4 l6 < n → G k mX2_daysWith (roomOf 5 0 0) F 0 0 56 [some (.ref (ka k 46)), some (.ref (ka k x1)), some (.ref (ka k x2)), some (.int x3), some (.int x4), some (.int ((lp_X2_daysWith_14 x1 x2 x3 x4 n l5 l6 I1).1)), some (.int ((lp_X2_daysWith_14 x1 x2 x3 x4 n l5 l6 I1).2.1))] [] (81, ex, (lp_X2_daysWith_14 x1 x2 x3 x4 n l5 l6 I1).2.2, J, Pw w) → G k mX2_daysWith (roomOf 5 0 0) F 0 0 14 [some (.ref (ka k 46)), some (.ref (ka k x1)), some (.ref (ka k x2)), some (.int x3), some (.int x4), some (.int l5), some (.int l6)] [] (81, ex, I1, J, Pw w) := by
  intro n
  induction n with
  | zero => intro l5 l6 I1 hmu hj; exact absurd hmu (Nat.not_lt_zero _)
  | succ n ih =>
    intro l5 l6 I1 hmu hj
    refine g_iload (i := 6) rfl d_X2_daysWith_14 ?_
    refine g_iload (i := 4) rfl d_X2_daysWith_16 ?_
    refine g_icmp_ge 56 d_X2_daysWith_18 (by decide) (fun h1 => ?_) (fun h1 => ?_)
    · skip
      (try simp only [lp_X2_daysWith_14, if_pos h1, opv_eq, if_true, if_false, Bool.false_eq_true, reduceCtorEq, b2i_t, b2i_f] at hj); exact hj
    · skip
      refine g_aload_n0 rfl d_X2_daysWith_21 ?_
      refine g_getP (b := 47) f_X2_14 d_X2_daysWith_22 rfl (Nat.le_of_ble_eq_true rfl) rfl rfl ?_
      refine g_aload_n1 rfl d_X2_daysWith_25 ?_
      refine g_callV0 (c_X0_passDay I1 47 rfl x1 hx1) w_X0_passDay l_X2_26 d_X2_daysWith_26 rfl (Nat.le_of_ble_eq_true rfl) rfl rfl (Nat.le_of_ble_eq_true rfl) ⟨Nat.le_of_ble_eq_true rfl, Nat.le_of_ble_eq_true rfl⟩ ⟨Nat.zero_le _, Nat.zero_le _⟩ ⟨rfl, rfl⟩ ?_
      refine g_iload (i := 5) rfl d_X2_daysWith_29 ?_
      refine g_aload_n0 rfl d_X2_daysWith_31 ?_
      refine g_getP (b := 47) f_X2_14 d_X2_daysWith_32 rfl (Nat.le_of_ble_eq_true rfl) rfl rfl ?_
      refine g_getI f_X2_54 d_X2_daysWith_35 rfl (Nat.le_of_ble_eq_true rfl) rfl ?_
      refine g_iload_n3 rfl d_X2_daysWith_38 ?_
      refine g_cut (pc' := 47) (vs' := [some (.ref (ka k 46)), some (.ref (ka k x1)), some (.ref (ka k x2)), some (.int x3), some (.int x4), some (.int l5), some (.int l6)]) (st' := [.int (b2i (u0_X2_daysWith x1 x3 I1)), .int l5]) (M' := (81, ex, (m_X0_passDay I1 47 x1), J, Pw w)) (fun hj => ?_) ?_
      · skip
        refine g_icmp_ne 46 d_X2_daysWith_39 (by decide) (fun h2 => ?_) (fun h2 => ?_)
        · skip
          refine g_iconst 0 d_X2_daysWith_46 (by decide) ?_
          (try simp only [if_neg h2, opv_eq, if_true, if_false, Bool.false_eq_true, reduceCtorEq, b2i_t, b2i_f, u0_X2_daysWith] at hj); exact hj
        · skip
          refine g_iconst 1 d_X2_daysWith_42 (by decide) ?_
          refine g_goto 47 d_X2_daysWith_43 (by decide) ?_
          (try simp only [if_pos h2, opv_eq, if_true, if_false, Bool.false_eq_true, reduceCtorEq, b2i_t, b2i_f, u0_X2_daysWith] at hj); exact hj
      · skip
        refine g_iadd d_X2_daysWith_47 ?_
        refine g_is5 rfl d_X2_daysWith_48 ?_
        refine g_ic6 (l6 + 1) rfl rfl d_X2_daysWith_50 ?_
        refine g_goto 14 d_X2_daysWith_53 (by decide) ?_
        exact ih (l5 + (b2i (u0_X2_daysWith x1 x3 I1))) (l6 + 1) (m_X0_passDay I1 47 x1) (Nat.lt_of_lt_of_le (mu_up_lt h1) (Nat.le_of_lt_succ hmu)) (by (try simp only [lp_X2_daysWith_14, if_neg h1, opv_eq, if_true, if_false, Bool.false_eq_true, reduceCtorEq, b2i_t, b2i_f] at hj); exact hj)
noncomputable def f_X2_daysWith (I : Nat → Nat → Int32) (x1 : Nat) (x2 : Nat) (x3 : Int32) (x4 : Int32) : Int32 := opv ((lp_X2_daysWith_14 x1 x2 x3 x4 (mu_up x4 0 + 1) 0 0 (m_X0_copy I 47 x2)).1)
noncomputable def m_X2_daysWith (I : Nat → Nat → Int32) (x1 : Nat) (x2 : Nat) (x3 : Int32) (x4 : Int32) : Nat → Nat → Int32 := opv ((lp_X2_daysWith_14 x1 x2 x3 x4 (mu_up x4 0 + 1) 0 0 (m_X0_copy I 47 x2)).2.2)
noncomputable def ok_X2_daysWith (I : Nat → Nat → Int32) (x1 : Nat) (x2 : Nat) (x3 : Int32) (x4 : Int32) : Prop := opv (x2 ≠ 47)
set_option maxHeartbeats 800000 in
set_option maxRecDepth 4000 in
theorem c_X2_daysWith {k : KT} {ex : Bool} {J : Nat → Nat → Int64} {w : Bool} (I : Nat → Nat → Int32) (x1 : Nat) (hx1 : kd x1 = 7) (x2 : Nat) (hx2 : kd x2 = 0) (x3 : Int32) (x4 : Int32)  (hok : ok_X2_daysWith I x1 x2 x3 x4) : Cx k mX2_daysWith 5 [.ref (ka k 46), .ref (ka k x1), .ref (ka k x2), .int x3, .int x4] (81, ex, I, J, Pw w) (some (.int (f_X2_daysWith I x1 x2 x3 x4))) (81, ex, m_X2_daysWith I x1 x2 x3 x4, J, Pw w) := by
  refine Ct.of rfl [some (.ref (ka k 46)), some (.ref (ka k x1)), some (.ref (ka k x2)), some (.int x3), some (.int x4), none, none] rfl rfl (Nat.le_of_ble_eq_true rfl) ?_
  rw [ok_X2_daysWith, opv_eq] at hok
  refine g_iconst 0 d_X2_daysWith_0 (by decide) ?_
  refine g_is5 rfl d_X2_daysWith_1 ?_
  refine g_aload_n0 rfl d_X2_daysWith_3 ?_
  refine g_getP (b := 47) f_X2_14 d_X2_daysWith_4 rfl (Nat.le_of_ble_eq_true rfl) rfl rfl ?_
  refine g_aload_n2 rfl d_X2_daysWith_7 ?_
  have ho1 := hok
  refine g_callV0 (c_X0_copy I 47 rfl x2 hx2 ho1) w_X0_copy l_X2_22 d_X2_daysWith_8 rfl (Nat.le_of_ble_eq_true rfl) rfl rfl (Nat.le_of_ble_eq_true rfl) ⟨Nat.le_of_ble_eq_true rfl, Nat.le_of_ble_eq_true rfl⟩ ⟨Nat.zero_le _, Nat.zero_le _⟩ ⟨rfl, rfl⟩ ?_
  refine g_iconst 0 d_X2_daysWith_11 (by decide) ?_
  refine g_is6 rfl d_X2_daysWith_12 ?_
  refine k_lp_X2_daysWith_14 x1 hx1 x2 hx2 x3 x4 _ 0 0 (m_X0_copy I 47 x2) (Nat.lt_succ_self _) ?_
  refine g_iload (i := 5) rfl d_X2_daysWith_56 ?_
  exact g_iret rfl d_X2_daysWith_58 ⟨by simp only [f_X2_daysWith, m_X2_daysWith, opv_eq, if_true, if_false, Bool.false_eq_true, reduceCtorEq, b2i_t, b2i_f], by simp only [f_X2_daysWith, m_X2_daysWith, opv_eq, if_true, if_false, Bool.false_eq_true, reduceCtorEq, b2i_t, b2i_f]⟩ (Nat.le_refl _) (Nat.le_refl _)
noncomputable def lp_X2_daysUntil_11 (x1 : Nat) (x2 : Nat) (x3 : Int32) : Nat → Int32 → (Nat → Nat → Int32) → Int32 × (Nat → Nat → Int32)
  | 0, l4, I1 => (0, I1)
  | n + 1, l4, I1 => (if 60 < l4 then ((-2), I1) else (if (f_X0_whoIsOut I1 47) = x3 then (l4, I1) else (lp_X2_daysUntil_11 x1 x2 x3 n (l4 + 1) (m_X0_passDay I1 47 x1))))
set_option maxHeartbeats 800000 in
set_option maxRecDepth 4000 in
theorem k_lp_X2_daysUntil_11 {k : KT} {ex : Bool} {J : Nat → Nat → Int64} {w : Bool} (x1 : Nat) (hx1 : kd x1 = 7) (x2 : Nat) (hx2 : kd x2 = 0) (x3 : Int32) {Q : Option Value → MM → Prop} : ∀ (n : Nat) (l4 : Int32) (I1 : (Nat → Nat → Int32)), mu_le 60 l4 < n → Q (some (.int (lp_X2_daysUntil_11 x1 x2 x3 n l4 I1).1)) (81, ex, (lp_X2_daysUntil_11 x1 x2 x3 n l4 I1).2, J, Pw w) → G k mX2_daysUntil (roomOf 5 0 0) (FinM k Q 0 0) 0 0 11 [some (.ref (ka k 46)), some (.ref (ka k x1)), some (.ref (ka k x2)), some (.int x3), some (.int l4)] [] (81, ex, I1, J, Pw w) := by
  intro n
  induction n with
  | zero => intro l4 I1 hmu hq; exact absurd hmu (Nat.not_lt_zero _)
  | succ n ih =>
    intro l4 I1 hmu hq
    refine g_iload (i := 4) rfl d_X2_daysUntil_11 ?_
    refine g_bipush 60 d_X2_daysUntil_13 (by decide) ?_
    refine g_icmp_gt 46 d_X2_daysUntil_15 (by decide) (fun h1 => ?_) (fun h1 => ?_)
    · skip
      refine g_bipush (-2) d_X2_daysUntil_46 (by decide) ?_
      exact g_iret rfl d_X2_daysUntil_48 (by (try simp only [lp_X2_daysUntil_11, if_pos h1, opv_eq, if_true, if_false, Bool.false_eq_true, reduceCtorEq, b2i_t, b2i_f] at hq); exact hq) (Nat.le_refl _) (Nat.le_refl _)
    · skip
      refine g_aload_n0 rfl d_X2_daysUntil_18 ?_
      refine g_getP (b := 47) f_X2_14 d_X2_daysUntil_19 rfl (Nat.le_of_ble_eq_true rfl) rfl rfl ?_
      refine g_callV1 (c_X0_whoIsOut I1 47 rfl) w_X0_whoIsOut l_X2_57 d_X2_daysUntil_22 rfl (Nat.le_of_ble_eq_true rfl) rfl rfl (Nat.le_of_ble_eq_true rfl) ⟨Nat.le_of_ble_eq_true rfl, Nat.le_of_ble_eq_true rfl⟩ ⟨Nat.zero_le _, Nat.zero_le _⟩ ⟨rfl, rfl⟩ ?_
      refine g_iload_n3 rfl d_X2_daysUntil_25 ?_
      refine g_icmp_ne 32 d_X2_daysUntil_26 (by decide) (fun h2 => ?_) (fun h2 => ?_)
      · skip
        refine g_aload_n0 rfl d_X2_daysUntil_32 ?_
        refine g_getP (b := 47) f_X2_14 d_X2_daysUntil_33 rfl (Nat.le_of_ble_eq_true rfl) rfl rfl ?_
        refine g_aload_n1 rfl d_X2_daysUntil_36 ?_
        refine g_callV0 (c_X0_passDay I1 47 rfl x1 hx1) w_X0_passDay l_X2_26 d_X2_daysUntil_37 rfl (Nat.le_of_ble_eq_true rfl) rfl rfl (Nat.le_of_ble_eq_true rfl) ⟨Nat.le_of_ble_eq_true rfl, Nat.le_of_ble_eq_true rfl⟩ ⟨Nat.zero_le _, Nat.zero_le _⟩ ⟨rfl, rfl⟩ ?_
        refine g_ic4 (l4 + 1) rfl rfl d_X2_daysUntil_40 ?_
        refine g_goto 11 d_X2_daysUntil_43 (by decide) ?_
        exact ih (l4 + 1) (m_X0_passDay I1 47 x1) (Nat.lt_of_lt_of_le (mu_le_lt (by decide) h1) (Nat.le_of_lt_succ hmu)) (by (try simp only [lp_X2_daysUntil_11, if_neg h1, if_neg h2, opv_eq, if_true, if_false, Bool.false_eq_true, reduceCtorEq, b2i_t, b2i_f] at hq); exact hq)
      · skip
        refine g_iload (i := 4) rfl d_X2_daysUntil_29 ?_
        exact g_iret rfl d_X2_daysUntil_31 (by (try simp only [lp_X2_daysUntil_11, if_neg h1, if_pos h2, opv_eq, if_true, if_false, Bool.false_eq_true, reduceCtorEq, b2i_t, b2i_f] at hq); exact hq) (Nat.le_refl _) (Nat.le_refl _)
noncomputable def f_X2_daysUntil (I : Nat → Nat → Int32) (x1 : Nat) (x2 : Nat) (x3 : Int32) : Int32 := opv ((lp_X2_daysUntil_11 x1 x2 x3 (mu_le 60 0 + 1) 0 (m_X0_copy I 47 x2)).1)
noncomputable def m_X2_daysUntil (I : Nat → Nat → Int32) (x1 : Nat) (x2 : Nat) (x3 : Int32) : Nat → Nat → Int32 := opv ((lp_X2_daysUntil_11 x1 x2 x3 (mu_le 60 0 + 1) 0 (m_X0_copy I 47 x2)).2)
noncomputable def ok_X2_daysUntil (I : Nat → Nat → Int32) (x1 : Nat) (x2 : Nat) (x3 : Int32) : Prop := opv (x2 ≠ 47)
set_option maxHeartbeats 800000 in
set_option maxRecDepth 4000 in
theorem c_X2_daysUntil {k : KT} {ex : Bool} {J : Nat → Nat → Int64} {w : Bool} (I : Nat → Nat → Int32) (x1 : Nat) (hx1 : kd x1 = 7) (x2 : Nat) (hx2 : kd x2 = 0) (x3 : Int32)  (hok : ok_X2_daysUntil I x1 x2 x3) : Cx k mX2_daysUntil 5 [.ref (ka k 46), .ref (ka k x1), .ref (ka k x2), .int x3] (81, ex, I, J, Pw w) (some (.int (f_X2_daysUntil I x1 x2 x3))) (81, ex, m_X2_daysUntil I x1 x2 x3, J, Pw w) := by
  refine Ct.of rfl [some (.ref (ka k 46)), some (.ref (ka k x1)), some (.ref (ka k x2)), some (.int x3), none] rfl rfl (Nat.le_of_ble_eq_true rfl) ?_
  rw [ok_X2_daysUntil, opv_eq] at hok
  refine g_aload_n0 rfl d_X2_daysUntil_0 ?_
  refine g_getP (b := 47) f_X2_14 d_X2_daysUntil_1 rfl (Nat.le_of_ble_eq_true rfl) rfl rfl ?_
  refine g_aload_n2 rfl d_X2_daysUntil_4 ?_
  have ho1 := hok
  refine g_callV0 (c_X0_copy I 47 rfl x2 hx2 ho1) w_X0_copy l_X2_22 d_X2_daysUntil_5 rfl (Nat.le_of_ble_eq_true rfl) rfl rfl (Nat.le_of_ble_eq_true rfl) ⟨Nat.le_of_ble_eq_true rfl, Nat.le_of_ble_eq_true rfl⟩ ⟨Nat.zero_le _, Nat.zero_le _⟩ ⟨rfl, rfl⟩ ?_
  refine g_iconst 0 d_X2_daysUntil_8 (by decide) ?_
  refine g_is4 rfl d_X2_daysUntil_9 ?_
  exact k_lp_X2_daysUntil_11 x1 hx1 x2 hx2 x3 _ 0 (m_X0_copy I 47 x2) (Nat.lt_succ_self _) ⟨by simp only [f_X2_daysUntil, m_X2_daysUntil, opv_eq, if_true, if_false, Bool.false_eq_true, reduceCtorEq, b2i_t, b2i_f], by simp only [f_X2_daysUntil, m_X2_daysUntil, opv_eq, if_true, if_false, Bool.false_eq_true, reduceCtorEq, b2i_t, b2i_f]⟩
noncomputable def lp_J7_fill_53178_5 (x1 : Nat) (x2 : Int32) (l3 : Int32) : Nat → Int32 → (Nat → Nat → Int32) → Int32 × (Nat → Nat → Int32)
  | 0, l2, I1 => (l2, I1)
  | n + 1, l2, I1 => (if l3 ≤ l2 then (l2, I1) else (lp_J7_fill_53178_5 x1 x2 l3 n (l2 + 1) (va_up I1 x1 (upd (I1 x1) l2.toNatClampNeg x2))))
def oklp_J7_fill_53178_5 (x1 : Nat) (x2 : Int32) (l3 : Int32) : Nat → Int32 → (Nat → Nat → Int32) → Prop
  | 0, l2, I1 => True
  | n + 1, l2, I1 => (if l3 ≤ l2 then True else (vp_in l2 (sz x1) ∧ oklp_J7_fill_53178_5 x1 x2 l3 n (l2 + 1) (va_up I1 x1 (upd (I1 x1) l2.toNatClampNeg x2))))
set_option maxHeartbeats 800000 in
set_option maxRecDepth 4000 in
theorem k_lp_J7_fill_53178_5 {k : KT} {ex : Bool} {J : Nat → Nat → Int64} {w : Bool} (x1 : Nat) (hx1 : kd x1 = 12) (x2 : Int32) (l3 : Int32) {F : FinT} : ∀ (n : Nat) (l2 : Int32) (I1 : (Nat → Nat → Int32)), mu_up l3 l2 < n → oklp_J7_fill_53178_5 x1 x2 l3 n l2 I1 → G k mJ7_fill_53178 (roomOf 1 0 0) F 0 0 20 [some (.ref (ka k x1)), some (.int x2), some (.int ((lp_J7_fill_53178_5 x1 x2 l3 n l2 I1).1)), some (.int l3)] [] (81, ex, (lp_J7_fill_53178_5 x1 x2 l3 n l2 I1).2, J, Pw w) → G k mJ7_fill_53178 (roomOf 1 0 0) F 0 0 5 [some (.ref (ka k x1)), some (.int x2), some (.int l2), some (.int l3)] [] (81, ex, I1, J, Pw w) := by
  intro n
  induction n with
  | zero => intro l2 I1 hmu hok hj; exact absurd hmu (Nat.not_lt_zero _)
  | succ n ih =>
    intro l2 I1 hmu hok hj
    rw [oklp_J7_fill_53178_5] at hok
    refine g_iload_n2 rfl d_J7_fill_53178_5 ?_
    refine g_iload_n3 rfl d_J7_fill_53178_6 ?_
    refine g_icmp_ge 20 d_J7_fill_53178_7 (by decide) (fun h1 => ?_) (fun h1 => ?_)
    · skip
      (try simp only [lp_J7_fill_53178_5, if_pos h1, opv_eq, if_true, if_false, Bool.false_eq_true, reduceCtorEq, b2i_t, b2i_f] at hj); exact hj
    · skip
      rw [if_neg h1] at hok
      refine g_aload_n0 rfl d_J7_fill_53178_10 ?_
      refine g_iload_n2 rfl d_J7_fill_53178_11 ?_
      refine g_iload_n1 rfl d_J7_fill_53178_12 ?_
      obtain ⟨ho1, hok⟩ := hok
      refine g_iast d_J7_fill_53178_13 hx1 (kd_sg hx1 (by decide)) ho1 ?_
      refine g_ic2 (l2 + 1) rfl rfl d_J7_fill_53178_14 ?_
      refine g_goto 5 d_J7_fill_53178_17 (by decide) ?_
      exact ih (l2 + 1) (va_up I1 x1 (upd (I1 x1) l2.toNatClampNeg x2)) (Nat.lt_of_lt_of_le (mu_up_lt h1) (Nat.le_of_lt_succ hmu)) (by (try simp only [if_neg h1, opv_eq, if_true, if_false, Bool.false_eq_true, reduceCtorEq, b2i_t, b2i_f] at hok); exact hok) (by (try simp only [lp_J7_fill_53178_5, if_neg h1, opv_eq, if_true, if_false, Bool.false_eq_true, reduceCtorEq, b2i_t, b2i_f] at hj); exact hj)
noncomputable def m_J7_fill_53178 (I : Nat → Nat → Int32) (x1 : Nat) (x2 : Int32) : Nat → Nat → Int32 := opv ((lp_J7_fill_53178_5 x1 x2 (Int32.ofNat (sz x1)) (mu_up (Int32.ofNat (sz x1)) 0 + 1) 0 I).2)
noncomputable def ok_J7_fill_53178 (I : Nat → Nat → Int32) (x1 : Nat) (x2 : Int32) : Prop := opv (oklp_J7_fill_53178_5 x1 x2 (Int32.ofNat (sz x1)) (mu_up (Int32.ofNat (sz x1)) 0 + 1) 0 I)
set_option maxHeartbeats 800000 in
set_option maxRecDepth 4000 in
theorem c_J7_fill_53178 {k : KT} {ex : Bool} {J : Nat → Nat → Int64} {w : Bool} (I : Nat → Nat → Int32) (x1 : Nat) (hx1 : kd x1 = 12) (x2 : Int32)  (hok : ok_J7_fill_53178 I x1 x2) : Cx k mJ7_fill_53178 1 [.ref (ka k x1), .int x2] (81, ex, I, J, Pw w) none (81, ex, m_J7_fill_53178 I x1 x2, J, Pw w) := by
  refine Ct.of rfl [some (.ref (ka k x1)), some (.int x2), none, none] rfl rfl (Nat.le_of_ble_eq_true rfl) ?_
  rw [ok_J7_fill_53178, opv_eq] at hok
  refine g_iconst 0 d_J7_fill_53178_0 (by decide) ?_
  refine g_isn2 rfl d_J7_fill_53178_1 ?_
  refine g_aload_n0 rfl d_J7_fill_53178_2 ?_
  refine g_alen12 d_J7_fill_53178_3 hx1 (kd_sg hx1 (by decide)) ?_
  refine g_isn3 rfl d_J7_fill_53178_4 ?_
  refine k_lp_J7_fill_53178_5 x1 hx1 x2 (Int32.ofNat (sz x1)) _ 0 I (Nat.lt_succ_self _) hok ?_
  exact g_vret rfl d_J7_fill_53178_20 ⟨rfl, by simp only [m_J7_fill_53178, opv_eq, if_true, if_false, Bool.false_eq_true, reduceCtorEq, b2i_t, b2i_f]⟩ (Nat.le_refl _) (Nat.le_refl _)
noncomputable def f_X2_keeps (I : Nat → Nat → Int32) (x1 : Nat) (x2 : Nat) (x3 : Int32) : Bool := opv (f_X8_isKept (m_X2_behind I x1 x2 (((f_X7_cell I (rt x1 8) x3 0) + 1) - (I x2 6))) x1 x3 47)
noncomputable def m_X2_keeps (I : Nat → Nat → Int32) (x1 : Nat) (x2 : Nat) (x3 : Int32) : Nat → Nat → Int32 := opv (m_X2_behind I x1 x2 (((f_X7_cell I (rt x1 8) x3 0) + 1) - (I x2 6)))
noncomputable def ok_X2_keeps (I : Nat → Nat → Int32) (x1 : Nat) (x2 : Nat) (x3 : Int32) : Prop := opv (ok_X2_behind I x1 x2 (((f_X7_cell I (rt x1 8) x3 0) + 1) - (I x2 6)))
set_option maxHeartbeats 800000 in
set_option maxRecDepth 4000 in
theorem c_X2_keeps {k : KT} {ex : Bool} {J : Nat → Nat → Int64} {w : Bool} (I : Nat → Nat → Int32) (x1 : Nat) (hx1 : kd x1 = 7) (x2 : Nat) (hx2 : kd x2 = 0) (x3 : Int32)  (hok : ok_X2_keeps I x1 x2 x3) : Cx k mX2_keeps 6 [.ref (ka k 46), .ref (ka k x1), .ref (ka k x2), .int x3] (81, ex, I, J, Pw w) (some (.int (b2i (f_X2_keeps I x1 x2 x3)))) (81, ex, m_X2_keeps I x1 x2 x3, J, Pw w) := by
  refine Ct.of rfl [some (.ref (ka k 46)), some (.ref (ka k x1)), some (.ref (ka k x2)), some (.int x3), none] rfl rfl (Nat.le_of_ble_eq_true rfl) ?_
  rw [ok_X2_keeps, opv_eq] at hok
  refine g_aload_n1 rfl d_X2_keeps_0 ?_
  refine g_getP (b := rt x1 8) f_X2_30 d_X2_keeps_1 hx1 (kd_sg hx1 (by decide)) rfl (pw_rt hx1 (by decide) (by decide)) ?_
  refine g_iload_n3 rfl d_X2_keeps_4 ?_
  refine g_iconst 0 d_X2_keeps_5 (by decide) ?_
  refine g_callV1 (c_X7_cell I (rt x1 8) (kt7 hx1).2.1 x3 0 (okt_X7_cell I (rt x1 8) (kt7 hx1).2.1 x3 0)) w_X7_cell l_X2_36 d_X2_keeps_6 (kt7 hx1).2.1 (kd_sg ((kt7 hx1).2.1) (by decide)) rfl rfl (Nat.le_of_ble_eq_true rfl) ⟨Nat.le_of_ble_eq_true rfl, Nat.le_of_ble_eq_true rfl⟩ ⟨Nat.zero_le _, Nat.zero_le _⟩ ⟨rfl, rfl⟩ ?_
  refine g_iconst 1 d_X2_keeps_9 (by decide) ?_
  refine g_iadd d_X2_keeps_10 ?_
  refine g_aload_n2 rfl d_X2_keeps_11 ?_
  refine g_getI f_X2_42 d_X2_keeps_12 hx2 (kd_sg hx2 (by decide)) rfl ?_
  refine g_isub d_X2_keeps_15 ?_
  refine g_is4 rfl d_X2_keeps_16 ?_
  refine g_aload_n1 rfl d_X2_keeps_18 ?_
  refine g_iload_n3 rfl d_X2_keeps_19 ?_
  refine g_aload_n0 rfl d_X2_keeps_20 ?_
  refine g_aload_n1 rfl d_X2_keeps_21 ?_
  refine g_aload_n2 rfl d_X2_keeps_22 ?_
  refine g_iload (i := 4) rfl d_X2_keeps_23 ?_
  have ho1 := hok
  refine g_callV1 (c_X2_behind I x1 hx1 x2 hx2 (((f_X7_cell I (rt x1 8) x3 0) + 1) - (I x2 6)) ho1) w_X2_behind l_X2_46 d_X2_keeps_25 rfl (Nat.le_of_ble_eq_true rfl) rfl rfl (Nat.le_of_ble_eq_true rfl) ⟨Nat.le_of_ble_eq_true rfl, Nat.le_of_ble_eq_true rfl⟩ ⟨Nat.zero_le _, Nat.zero_le _⟩ ⟨rfl, rfl⟩ ?_
  refine g_callV1 (c_X8_isKept (m_X2_behind I x1 x2 (((f_X7_cell I (rt x1 8) x3 0) + 1) - (I x2 6))) x1 hx1 x3 47 rfl) w_X8_isKept l_X2_50 d_X2_keeps_28 hx1 (kd_sg hx1 (by decide)) rfl rfl (Nat.le_of_ble_eq_true rfl) ⟨Nat.le_of_ble_eq_true rfl, Nat.le_of_ble_eq_true rfl⟩ ⟨Nat.zero_le _, Nat.zero_le _⟩ ⟨rfl, rfl⟩ ?_
  exact g_zret rfl (nar_b _) d_X2_keeps_31 ⟨by simp only [f_X2_keeps, m_X2_keeps, opv_eq, if_true, if_false, Bool.false_eq_true, reduceCtorEq, b2i_t, b2i_f], by simp only [f_X2_keeps, m_X2_keeps, opv_eq, if_true, if_false, Bool.false_eq_true, reduceCtorEq, b2i_t, b2i_f]⟩ (Nat.le_refl _) (Nat.le_refl _)
noncomputable def u0_X3_draw (x1 : Nat) (I1 : Nat → Nat → Int32) : Bool := opv (if ((m_X0_passDay I1 64 x1) 64 5) = 1 then true else false)
noncomputable def u1_X3_draw (x1 : Nat) (I1 : Nat → Nat → Int32) : Nat → Nat → Int32 := opv (m_X0_gust (st2 (m_X0_passDay I1 64 x1) 63 2 (((m_X0_passDay I1 64 x1) 63 2) + (b2i (u0_X3_draw x1 I1)))) 64)
noncomputable def u2_X3_draw (x1 : Nat) (l5 : Int32) (I1 : Nat → Nat → Int32) : Nat → Nat → Int32 := opv (if ((m_X0_passDay I1 64 x1) x1 3) ≤ ((((75 * l5) + 74) - ((75 * l5) + 74) / 65537 * 65537) - (((75 * l5) + 74) - ((75 * l5) + 74) / 65537 * 65537) / 100 * 100) then (st2 (m_X0_passDay I1 64 x1) 63 2 (((m_X0_passDay I1 64 x1) 63 2) + (b2i (u0_X3_draw x1 I1)))) else (u1_X3_draw x1 I1))
noncomputable def lp_X3_draw_19 (x1 : Nat) (x2 : Nat) (x3 : Int32) (x4 : Int32) : Nat → Int32 → Int32 → (Nat → Nat → Int32) → Int32 × Int32 × (Nat → Nat → Int32)
  | 0, l5, l6, I1 => (l5, l6, I1)
  | n + 1, l5, l6, I1 => (if x4 ≤ l6 then (l5, l6, I1) else (lp_X3_draw_19 x1 x2 x3 x4 n (((75 * l5) + 74) - ((75 * l5) + 74) / 65537 * 65537) (l6 + 1) (u2_X3_draw x1 l5 I1)))
set_option maxHeartbeats 800000 in
set_option maxRecDepth 4000 in
theorem k_lp_X3_draw_19 {k : KT} {ex : Bool} {J : Nat → Nat → Int64} {w : Bool} (x1 : Nat) (hx1 : kd x1 = 7) (x2 : Nat) (hx2 : kd x2 = 0) (x3 : Int32) (x4 : Int32) {F : FinT} : ∀ (n : Nat) (l5 : Int32) (l6 : Int32) (I1 : (Nat → Nat → Int32)), mu_up x4 l6 < n → G k mX3_draw (roomOf 5 0 0) F 0 0 97 [some (.ref (ka k 63)), some (.ref (ka k x1)), some (.ref (ka k x2)), some (.int x3), some (.int x4), some (.int ((lp_X3_draw_19 x1 x2 x3 x4 n l5 l6 I1).1)), some (.int ((lp_X3_draw_19 x1 x2 x3 x4 n l5 l6 I1).2.1))] [] (81, ex, (lp_X3_draw_19 x1 x2 x3 x4 n l5 l6 I1).2.2, J, Pw w) → G k mX3_draw (roomOf 5 0 0) F 0 0 19 [some (.ref (ka k 63)), some (.ref (ka k x1)), some (.ref (ka k x2)), some (.int x3), some (.int x4), some (.int l5), some (.int l6)] [] (81, ex, I1, J, Pw w) := by
  intro n
  induction n with
  | zero => intro l5 l6 I1 hmu hj; exact absurd hmu (Nat.not_lt_zero _)
  | succ n ih =>
    intro l5 l6 I1 hmu hj
    refine g_iload (i := 6) rfl d_X3_draw_19 ?_
    refine g_iload (i := 4) rfl d_X3_draw_21 ?_
    refine g_icmp_ge 97 d_X3_draw_23 (by decide) (fun h1 => ?_) (fun h1 => ?_)
    · skip
      (try simp only [lp_X3_draw_19, if_pos h1, opv_eq, if_true, if_false, Bool.false_eq_true, reduceCtorEq, b2i_t, b2i_f] at hj); exact hj
    · skip
      refine g_aload_n0 rfl d_X3_draw_26 ?_
      refine g_getP (b := 64) f_X3_12 d_X3_draw_27 rfl (Nat.le_of_ble_eq_true rfl) rfl rfl ?_
      refine g_aload_n1 rfl d_X3_draw_30 ?_
      refine g_callV0 (c_X0_passDay I1 64 rfl x1 hx1) w_X0_passDay l_X3_46 d_X3_draw_31 rfl (Nat.le_of_ble_eq_true rfl) rfl rfl (Nat.le_of_ble_eq_true rfl) ⟨Nat.le_of_ble_eq_true rfl, Nat.le_of_ble_eq_true rfl⟩ ⟨Nat.zero_le _, Nat.zero_le _⟩ ⟨rfl, rfl⟩ ?_
      refine g_aload_n0 rfl d_X3_draw_34 ?_
      refine g_dup rfl d_X3_draw_35 ?_
      refine g_getI f_X3_57 d_X3_draw_36 rfl (Nat.le_of_ble_eq_true rfl) rfl ?_
      refine g_aload_n0 rfl d_X3_draw_39 ?_
      refine g_getP (b := 64) f_X3_12 d_X3_draw_40 rfl (Nat.le_of_ble_eq_true rfl) rfl rfl ?_
      refine g_getI f_X3_60 d_X3_draw_43 rfl (Nat.le_of_ble_eq_true rfl) rfl ?_
      refine g_iconst 1 d_X3_draw_46 (by decide) ?_
      refine g_cut (pc' := 55) (vs' := [some (.ref (ka k 63)), some (.ref (ka k x1)), some (.ref (ka k x2)), some (.int x3), some (.int x4), some (.int l5), some (.int l6)]) (st' := [.int (b2i (u0_X3_draw x1 I1)), .int ((m_X0_passDay I1 64 x1) 63 2), .ref (ka k 63)]) (M' := (81, ex, (m_X0_passDay I1 64 x1), J, Pw w)) (fun hj => ?_) ?_
      · skip
        refine g_icmp_ne 54 d_X3_draw_47 (by decide) (fun h2 => ?_) (fun h2 => ?_)
        · skip
          refine g_iconst 0 d_X3_draw_54 (by decide) ?_
          (try simp only [if_neg h2, opv_eq, if_true, if_false, Bool.false_eq_true, reduceCtorEq, b2i_t, b2i_f, u0_X3_draw] at hj); exact hj
        · skip
          refine g_iconst 1 d_X3_draw_50 (by decide) ?_
          refine g_goto 55 d_X3_draw_51 (by decide) ?_
          (try simp only [if_pos h2, opv_eq, if_true, if_false, Bool.false_eq_true, reduceCtorEq, b2i_t, b2i_f, u0_X3_draw] at hj); exact hj
      · skip
        refine g_iadd d_X3_draw_55 ?_
        refine g_putI f_X3_57 d_X3_draw_56 rfl (Nat.le_of_ble_eq_true rfl) rfl rfl rfl ?_
        refine g_bipush 75 d_X3_draw_59 (by decide) ?_
        refine g_iload (i := 5) rfl d_X3_draw_61 ?_
        refine g_imul d_X3_draw_63 ?_
        refine g_bipush 74 d_X3_draw_64 (by decide) ?_
        refine g_iadd d_X3_draw_66 ?_
        refine g_ldc (v := 65537) (in5 91 (by decide +kernel) rfl) d_X3_draw_67 ?_
        refine g_irem (by decide) d_X3_draw_69 ?_
        refine g_is5 rfl d_X3_draw_70 ?_
        refine g_iload (i := 5) rfl d_X3_draw_72 ?_
        refine g_bipush 100 d_X3_draw_74 (by decide) ?_
        refine g_irem (by decide) d_X3_draw_76 ?_
        refine g_aload_n1 rfl d_X3_draw_77 ?_
        refine g_getIv ((m_X0_passDay I1 64 x1) x1 3) (st2_a _ _ (ne_kd hx1 (rfl : kd 63 = 2) (by decide))) f_X3_53 d_X3_draw_78 hx1 (kd_sg hx1 (by decide)) rfl ?_
        refine g_cut (pc' := 91) (vs' := [some (.ref (ka k 63)), some (.ref (ka k x1)), some (.ref (ka k x2)), some (.int x3), some (.int x4), some (.int (((75 * l5) + 74) - ((75 * l5) + 74) / 65537 * 65537)), some (.int l6)]) (st' := []) (M' := (81, ex, (u2_X3_draw x1 l5 I1), J, Pw w)) (fun hj => ?_) ?_
        · skip
          refine g_icmp_ge 91 d_X3_draw_81 (by decide) (fun h3 => ?_) (fun h3 => ?_)
          · skip
            (try simp only [if_pos h3, opv_eq, if_true, if_false, Bool.false_eq_true, reduceCtorEq, b2i_t, b2i_f, u2_X3_draw] at hj); exact hj
          · skip
            refine g_aload_n0 rfl d_X3_draw_84 ?_
            refine g_getP (b := 64) f_X3_12 d_X3_draw_85 rfl (Nat.le_of_ble_eq_true rfl) rfl rfl ?_
            refine g_callV0 (c_X0_gust (st2 (m_X0_passDay I1 64 x1) 63 2 (((m_X0_passDay I1 64 x1) 63 2) + (b2i (u0_X3_draw x1 I1)))) 64 rfl) w_X0_gust l_X3_50 d_X3_draw_88 rfl (Nat.le_of_ble_eq_true rfl) rfl rfl (Nat.le_of_ble_eq_true rfl) ⟨Nat.le_of_ble_eq_true rfl, Nat.le_of_ble_eq_true rfl⟩ ⟨Nat.zero_le _, Nat.zero_le _⟩ ⟨rfl, rfl⟩ ?_
            refine G.toI (I' := (u1_X3_draw x1 I1)) (by rw [u1_X3_draw, opv_eq]) ?_
            (try simp only [if_neg h3, opv_eq, if_true, if_false, Bool.false_eq_true, reduceCtorEq, b2i_t, b2i_f, u2_X3_draw] at hj); exact hj
        · skip
          refine g_ic6 (l6 + 1) rfl rfl d_X3_draw_91 ?_
          refine g_goto 19 d_X3_draw_94 (by decide) ?_
          exact ih (((75 * l5) + 74) - ((75 * l5) + 74) / 65537 * 65537) (l6 + 1) (u2_X3_draw x1 l5 I1) (Nat.lt_of_lt_of_le (mu_up_lt h1) (Nat.le_of_lt_succ hmu)) (by (try simp only [lp_X3_draw_19, if_neg h1, opv_eq, if_true, if_false, Bool.false_eq_true, reduceCtorEq, b2i_t, b2i_f] at hj); exact hj)
noncomputable def m_X3_draw (I : Nat → Nat → Int32) (x1 : Nat) (x2 : Nat) (x3 : Int32) (x4 : Int32) : Nat → Nat → Int32 := opv ((lp_X3_draw_19 x1 x2 x3 x4 (mu_up x4 0 + 1) x3 0 (m_X0_copy (st2 I 63 2 0) 64 x2)).2.2)
noncomputable def ok_X3_draw (I : Nat → Nat → Int32) (x1 : Nat) (x2 : Nat) (x3 : Int32) (x4 : Int32) : Prop := opv (x2 ≠ 64)
set_option maxHeartbeats 800000 in
set_option maxRecDepth 4000 in
theorem c_X3_draw {k : KT} {ex : Bool} {J : Nat → Nat → Int64} {w : Bool} (I : Nat → Nat → Int32) (x1 : Nat) (hx1 : kd x1 = 7) (x2 : Nat) (hx2 : kd x2 = 0) (x3 : Int32) (x4 : Int32)  (hok : ok_X3_draw I x1 x2 x3 x4) : Cx k mX3_draw 5 [.ref (ka k 63), .ref (ka k x1), .ref (ka k x2), .int x3, .int x4] (81, ex, I, J, Pw w) none (81, ex, m_X3_draw I x1 x2 x3 x4, J, Pw w) := by
  refine Ct.of rfl [some (.ref (ka k 63)), some (.ref (ka k x1)), some (.ref (ka k x2)), some (.int x3), some (.int x4), none, none] rfl rfl (Nat.le_of_ble_eq_true rfl) ?_
  rw [ok_X3_draw, opv_eq] at hok
  refine g_iload_n3 rfl d_X3_draw_0 ?_
  refine g_is5 rfl d_X3_draw_1 ?_
  refine g_aload_n0 rfl d_X3_draw_3 ?_
  refine g_iconst 0 d_X3_draw_4 (by decide) ?_
  refine g_putI f_X3_57 d_X3_draw_5 rfl (Nat.le_of_ble_eq_true rfl) rfl rfl rfl ?_
  refine g_aload_n0 rfl d_X3_draw_8 ?_
  refine g_getP (b := 64) f_X3_12 d_X3_draw_9 rfl (Nat.le_of_ble_eq_true rfl) rfl rfl ?_
  refine g_aload_n2 rfl d_X3_draw_12 ?_
  have ho1 := hok
  refine g_callV0 (c_X0_copy (st2 I 63 2 0) 64 rfl x2 hx2 ho1) w_X0_copy l_X3_42 d_X3_draw_13 rfl (Nat.le_of_ble_eq_true rfl) rfl rfl (Nat.le_of_ble_eq_true rfl) ⟨Nat.le_of_ble_eq_true rfl, Nat.le_of_ble_eq_true rfl⟩ ⟨Nat.zero_le _, Nat.zero_le _⟩ ⟨rfl, rfl⟩ ?_
  refine g_iconst 0 d_X3_draw_16 (by decide) ?_
  refine g_is6 rfl d_X3_draw_17 ?_
  refine k_lp_X3_draw_19 x1 hx1 x2 hx2 x3 x4 _ x3 0 (m_X0_copy (st2 I 63 2 0) 64 x2) (Nat.lt_succ_self _) ?_
  exact g_vret rfl d_X3_draw_97 ⟨rfl, by simp only [m_X3_draw, opv_eq, if_true, if_false, Bool.false_eq_true, reduceCtorEq, b2i_t, b2i_f]⟩ (Nat.le_refl _) (Nat.le_refl _)
noncomputable def u0_X3_blow (x1 : Nat) (x4 : Int32) (l5 : Int64) (l7 : Int32) (I1 : Nat → Nat → Int32) : Int64 := opv (if ((x4 >>> (l7 &&& 31)) &&& 1) = 1 then l5 * (((m_X0_gust (m_X0_passDay I1 64 x1) 64) x1 3).toInt64) else l5 * ((100 - ((m_X0_passDay I1 64 x1) x1 3)).toInt64))
noncomputable def u1_X3_blow (x1 : Nat) (x4 : Int32) (l7 : Int32) (I1 : Nat → Nat → Int32) : Nat → Nat → Int32 := opv (if ((x4 >>> (l7 &&& 31)) &&& 1) = 1 then (m_X0_gust (m_X0_passDay I1 64 x1) 64) else (m_X0_passDay I1 64 x1))
noncomputable def lp_X3_blow_14 (x1 : Nat) (x2 : Nat) (x3 : Int32) (x4 : Int32) : Nat → Int64 → Int32 → (Nat → Nat → Int32) → Int64 × Int32 × (Nat → Nat → Int32)
  | 0, l5, l7, I1 => (l5, l7, I1)
  | n + 1, l5, l7, I1 => (if x3 ≤ l7 then (l5, l7, I1) else (lp_X3_blow_14 x1 x2 x3 x4 n (u0_X3_blow x1 x4 l5 l7 I1) (l7 + 1) (u1_X3_blow x1 x4 l7 I1)))
set_option maxHeartbeats 800000 in
set_option maxRecDepth 4000 in
theorem k_lp_X3_blow_14 {k : KT} {ex : Bool} {J : Nat → Nat → Int64} {w : Bool} (x1 : Nat) (hx1 : kd x1 = 7) (x2 : Nat) (hx2 : kd x2 = 0) (x3 : Int32) (x4 : Int32) {F : FinT} : ∀ (n : Nat) (l5 : Int64) (l7 : Int32) (I1 : (Nat → Nat → Int32)), mu_up x3 l7 < n → G k mX3_blow (roomOf 5 0 0) F 0 0 78 [some (.ref (ka k 63)), some (.ref (ka k x1)), some (.ref (ka k x2)), some (.int x3), some (.int x4), some (.long ((lp_X3_blow_14 x1 x2 x3 x4 n l5 l7 I1).1)), none, some (.int ((lp_X3_blow_14 x1 x2 x3 x4 n l5 l7 I1).2.1))] [] (81, ex, (lp_X3_blow_14 x1 x2 x3 x4 n l5 l7 I1).2.2, J, Pw w) → G k mX3_blow (roomOf 5 0 0) F 0 0 14 [some (.ref (ka k 63)), some (.ref (ka k x1)), some (.ref (ka k x2)), some (.int x3), some (.int x4), some (.long l5), none, some (.int l7)] [] (81, ex, I1, J, Pw w) := by
  intro n
  induction n with
  | zero => intro l5 l7 I1 hmu hj; exact absurd hmu (Nat.not_lt_zero _)
  | succ n ih =>
    intro l5 l7 I1 hmu hj
    refine g_iload (i := 7) rfl d_X3_blow_14 ?_
    refine g_iload_n3 rfl d_X3_blow_16 ?_
    refine g_icmp_ge 78 d_X3_blow_17 (by decide) (fun h1 => ?_) (fun h1 => ?_)
    · skip
      (try simp only [lp_X3_blow_14, if_pos h1, opv_eq, if_true, if_false, Bool.false_eq_true, reduceCtorEq, b2i_t, b2i_f] at hj); exact hj
    · skip
      refine g_aload_n0 rfl d_X3_blow_20 ?_
      refine g_getP (b := 64) f_X3_12 d_X3_blow_21 rfl (Nat.le_of_ble_eq_true rfl) rfl rfl ?_
      refine g_aload_n1 rfl d_X3_blow_24 ?_
      refine g_callV0 (c_X0_passDay I1 64 rfl x1 hx1) w_X0_passDay l_X3_46 d_X3_blow_25 rfl (Nat.le_of_ble_eq_true rfl) rfl rfl (Nat.le_of_ble_eq_true rfl) ⟨Nat.le_of_ble_eq_true rfl, Nat.le_of_ble_eq_true rfl⟩ ⟨Nat.zero_le _, Nat.zero_le _⟩ ⟨rfl, rfl⟩ ?_
      refine g_iload (i := 4) rfl d_X3_blow_28 ?_
      refine g_iload (i := 7) rfl d_X3_blow_30 ?_
      refine g_ishr d_X3_blow_32 ?_
      refine g_iconst 1 d_X3_blow_33 (by decide) ?_
      refine g_iand d_X3_blow_34 ?_
      refine g_iconst 1 d_X3_blow_35 (by decide) ?_
      refine g_cut (pc' := 72) (vs' := [some (.ref (ka k 63)), some (.ref (ka k x1)), some (.ref (ka k x2)), some (.int x3), some (.int x4), some (.long (u0_X3_blow x1 x4 l5 l7 I1)), none, some (.int l7)]) (st' := []) (M' := (81, ex, (u1_X3_blow x1 x4 l7 I1), J, Pw w)) (fun hj => ?_) ?_
      · skip
        refine g_icmp_ne 59 d_X3_blow_36 (by decide) (fun h2 => ?_) (fun h2 => ?_)
        · skip
          refine g_lload (i := 5) rfl d_X3_blow_59 ?_
          refine g_bipush 100 d_X3_blow_61 (by decide) ?_
          refine g_aload_n1 rfl d_X3_blow_63 ?_
          refine g_getI f_X3_53 d_X3_blow_64 hx1 (kd_sg hx1 (by decide)) rfl ?_
          refine g_isub d_X3_blow_67 ?_
          refine g_i2l d_X3_blow_68 ?_
          refine g_lmul d_X3_blow_69 ?_
          refine g_ls5 rfl d_X3_blow_70 ?_
          (try simp only [if_neg h2, opv_eq, if_true, if_false, Bool.false_eq_true, reduceCtorEq, b2i_t, b2i_f, u0_X3_blow, u1_X3_blow] at hj); exact hj
        · skip
          refine g_aload_n0 rfl d_X3_blow_39 ?_
          refine g_getP (b := 64) f_X3_12 d_X3_blow_40 rfl (Nat.le_of_ble_eq_true rfl) rfl rfl ?_
          refine g_callV0 (c_X0_gust (m_X0_passDay I1 64 x1) 64 rfl) w_X0_gust l_X3_50 d_X3_blow_43 rfl (Nat.le_of_ble_eq_true rfl) rfl rfl (Nat.le_of_ble_eq_true rfl) ⟨Nat.le_of_ble_eq_true rfl, Nat.le_of_ble_eq_true rfl⟩ ⟨Nat.zero_le _, Nat.zero_le _⟩ ⟨rfl, rfl⟩ ?_
          refine g_lload (i := 5) rfl d_X3_blow_46 ?_
          refine g_aload_n1 rfl d_X3_blow_48 ?_
          refine g_getI f_X3_53 d_X3_blow_49 hx1 (kd_sg hx1 (by decide)) rfl ?_
          refine g_i2l d_X3_blow_52 ?_
          refine g_lmul d_X3_blow_53 ?_
          refine g_ls5 rfl d_X3_blow_54 ?_
          refine g_goto 72 d_X3_blow_56 (by decide) ?_
          (try simp only [if_pos h2, opv_eq, if_true, if_false, Bool.false_eq_true, reduceCtorEq, b2i_t, b2i_f, u0_X3_blow, u1_X3_blow] at hj); exact hj
      · skip
        refine g_ic7 (l7 + 1) rfl rfl d_X3_blow_72 ?_
        refine g_goto 14 d_X3_blow_75 (by decide) ?_
        exact ih (u0_X3_blow x1 x4 l5 l7 I1) (l7 + 1) (u1_X3_blow x1 x4 l7 I1) (Nat.lt_of_lt_of_le (mu_up_lt h1) (Nat.le_of_lt_succ hmu)) (by (try simp only [lp_X3_blow_14, if_neg h1, opv_eq, if_true, if_false, Bool.false_eq_true, reduceCtorEq, b2i_t, b2i_f] at hj); exact hj)
noncomputable def f_X3_blow (I : Nat → Nat → Int32) (x1 : Nat) (x2 : Nat) (x3 : Int32) (x4 : Int32) : Int64 := opv ((lp_X3_blow_14 x1 x2 x3 x4 (mu_up x3 0 + 1) 1 0 (m_X0_copy I 64 x2)).1)
noncomputable def m_X3_blow (I : Nat → Nat → Int32) (x1 : Nat) (x2 : Nat) (x3 : Int32) (x4 : Int32) : Nat → Nat → Int32 := opv ((lp_X3_blow_14 x1 x2 x3 x4 (mu_up x3 0 + 1) 1 0 (m_X0_copy I 64 x2)).2.2)
noncomputable def ok_X3_blow (I : Nat → Nat → Int32) (x1 : Nat) (x2 : Nat) (x3 : Int32) (x4 : Int32) : Prop := opv (x2 ≠ 64)
set_option maxHeartbeats 800000 in
set_option maxRecDepth 4000 in
theorem c_X3_blow {k : KT} {ex : Bool} {J : Nat → Nat → Int64} {w : Bool} (I : Nat → Nat → Int32) (x1 : Nat) (hx1 : kd x1 = 7) (x2 : Nat) (hx2 : kd x2 = 0) (x3 : Int32) (x4 : Int32)  (hok : ok_X3_blow I x1 x2 x3 x4) : Cx k mX3_blow 5 [.ref (ka k 63), .ref (ka k x1), .ref (ka k x2), .int x3, .int x4] (81, ex, I, J, Pw w) (some (.long (f_X3_blow I x1 x2 x3 x4))) (81, ex, m_X3_blow I x1 x2 x3 x4, J, Pw w) := by
  refine Ct.of rfl [some (.ref (ka k 63)), some (.ref (ka k x1)), some (.ref (ka k x2)), some (.int x3), some (.int x4), none, none, none] rfl rfl (Nat.le_of_ble_eq_true rfl) ?_
  rw [ok_X3_blow, opv_eq] at hok
  refine g_lconst 1 d_X3_blow_0 (by decide) ?_
  refine g_ls5 rfl d_X3_blow_1 ?_
  refine g_aload_n0 rfl d_X3_blow_3 ?_
  refine g_getP (b := 64) f_X3_12 d_X3_blow_4 rfl (Nat.le_of_ble_eq_true rfl) rfl rfl ?_
  refine g_aload_n2 rfl d_X3_blow_7 ?_
  have ho1 := hok
  refine g_callV0 (c_X0_copy I 64 rfl x2 hx2 ho1) w_X0_copy l_X3_42 d_X3_blow_8 rfl (Nat.le_of_ble_eq_true rfl) rfl rfl (Nat.le_of_ble_eq_true rfl) ⟨Nat.le_of_ble_eq_true rfl, Nat.le_of_ble_eq_true rfl⟩ ⟨Nat.zero_le _, Nat.zero_le _⟩ ⟨rfl, rfl⟩ ?_
  refine g_iconst 0 d_X3_blow_11 (by decide) ?_
  refine g_is7 rfl d_X3_blow_12 ?_
  refine k_lp_X3_blow_14 x1 hx1 x2 hx2 x3 x4 _ 1 0 (m_X0_copy I 64 x2) (Nat.lt_succ_self _) ?_
  refine g_lload (i := 5) rfl d_X3_blow_78 ?_
  exact g_lret rfl d_X3_blow_80 ⟨by simp only [f_X3_blow, m_X3_blow, opv_eq, if_true, if_false, Bool.false_eq_true, reduceCtorEq, b2i_t, b2i_f], by simp only [f_X3_blow, m_X3_blow, opv_eq, if_true, if_false, Bool.false_eq_true, reduceCtorEq, b2i_t, b2i_f]⟩ (Nat.le_refl _) (Nat.le_refl _)
noncomputable def m_X5_forget (I : Nat → Nat → Int32)  : Nat → Nat → Int32 := opv (st2 (st2 I 24 0 0) 24 1 0)
set_option maxHeartbeats 800000 in
set_option maxRecDepth 4000 in
theorem c_X5_forget {k : KT} {ex : Bool} {J : Nat → Nat → Int64} {w : Bool} (I : Nat → Nat → Int32)   : Cx k mX5_forget 1 [.ref (ka k 24)] (81, ex, I, J, Pw w) none (81, ex, m_X5_forget I, J, Pw w) := by
  refine Ct.of rfl [some (.ref (ka k 24))] rfl rfl (Nat.le_of_ble_eq_true rfl) ?_
  refine g_aload_n0 rfl d_X5_forget_0 ?_
  refine g_iconst 0 d_X5_forget_1 (by decide) ?_
  refine g_putI f_X5_21 d_X5_forget_2 rfl (Nat.le_of_ble_eq_true rfl) rfl rfl rfl ?_
  refine g_aload_n0 rfl d_X5_forget_5 ?_
  refine g_iconst 0 d_X5_forget_6 (by decide) ?_
  refine g_putI f_X5_25 d_X5_forget_7 rfl (Nat.le_of_ble_eq_true rfl) rfl rfl rfl ?_
  exact g_vret rfl d_X5_forget_10 ⟨rfl, by simp only [m_X5_forget, opv_eq, if_true, if_false, Bool.false_eq_true, reduceCtorEq, b2i_t, b2i_f]⟩ (Nat.le_refl _) (Nat.le_refl _)
noncomputable def m_X5_keep (I : Nat → Nat → Int32) (x1 : Nat) : Nat → Nat → Int32 := opv (if (f_X10_within I (I 24 2) 0 15) = true then (st2 (st2 (m_X0_copy I (rt 25 (I 24 2).toNatClampNeg) x1) 24 2 ((((m_X0_copy I (rt 25 (I 24 2).toNatClampNeg) x1) 24 2) + 1) - (((m_X0_copy I (rt 25 (I 24 2).toNatClampNeg) x1) 24 2) + 1) / 16 * 16)) 24 0 (imin (((m_X0_copy I (rt 25 (I 24 2).toNatClampNeg) x1) 24 0) + 1) 16)) else I)
noncomputable def ok_X5_keep (I : Nat → Nat → Int32) (x1 : Nat) : Prop := opv (if (f_X10_within I (I 24 2) 0 15) = true then (vp_in (I 24 2) (sz 25) ∧ x1 ≠ (rt 25 (I 24 2).toNatClampNeg)) else True)
set_option maxHeartbeats 800000 in
set_option maxRecDepth 4000 in
theorem c_X5_keep {k : KT} {ex : Bool} {J : Nat → Nat → Int64} {w : Bool} (I : Nat → Nat → Int32) (x1 : Nat) (hx1 : kd x1 = 0)  (hok : ok_X5_keep I x1) : Cx k mX5_keep 2 [.ref (ka k 24), .ref (ka k x1)] (81, ex, I, J, Pw w) none (81, ex, m_X5_keep I x1, J, Pw w) := by
  refine Ct.of rfl [some (.ref (ka k 24)), some (.ref (ka k x1))] rfl rfl (Nat.le_of_ble_eq_true rfl) ?_
  rw [ok_X5_keep, opv_eq] at hok
  refine g_aload_n0 rfl d_X5_keep_0 ?_
  refine g_getI f_X5_28 d_X5_keep_1 rfl (Nat.le_of_ble_eq_true rfl) rfl ?_
  refine g_iconst 0 d_X5_keep_4 (by decide) ?_
  refine g_bipush 15 d_X5_keep_5 (by decide) ?_
  refine g_callN1 (c_X10_within I (I 24 2) 0 15) w_X10_within nest5 d_X5_keep_7 rfl rfl (Nat.le_of_ble_eq_true rfl) ⟨Nat.le_of_ble_eq_true rfl, Nat.le_of_ble_eq_true rfl⟩ ⟨Nat.zero_le _, Nat.zero_le _⟩ ⟨rfl, rfl⟩ ?_
  refine g_ifnz 14 d_X5_keep_10 (by decide) (fun h1 => ?_) (fun h1 => ?_)
  · skip
    rw [if_pos h1] at hok
    refine g_aload_n0 rfl d_X5_keep_14 ?_
    refine g_getP (b := 25) f_X5_13 d_X5_keep_15 rfl (Nat.le_of_ble_eq_true rfl) rfl rfl ?_
    refine g_aload_n0 rfl d_X5_keep_18 ?_
    refine g_getI f_X5_28 d_X5_keep_19 rfl (Nat.le_of_ble_eq_true rfl) rfl ?_
    obtain ⟨ho1, hok⟩ := hok
    refine g_aald (b := rt 25 (I 24 2).toNatClampNeg) d_X5_keep_22 rfl (Nat.le_of_ble_eq_true rfl) ho1 (pw_rt rfl (by decide) (by decide)) ?_
    refine g_aload_n1 rfl d_X5_keep_23 ?_
    have ho2 := hok
    refine g_callV0 (c_X0_copy I (rt 25 (I 24 2).toNatClampNeg) (kt14 rfl ho1) x1 hx1 ho2) w_X0_copy l_X5_35 d_X5_keep_24 (kt14 rfl ho1) (kd_sg (kt14 rfl ho1) (by decide)) rfl rfl (Nat.le_of_ble_eq_true rfl) ⟨Nat.le_of_ble_eq_true rfl, Nat.le_of_ble_eq_true rfl⟩ ⟨Nat.zero_le _, Nat.zero_le _⟩ ⟨rfl, rfl⟩ ?_
    refine g_aload_n0 rfl d_X5_keep_27 ?_
    refine g_aload_n0 rfl d_X5_keep_28 ?_
    refine g_getI f_X5_28 d_X5_keep_29 rfl (Nat.le_of_ble_eq_true rfl) rfl ?_
    refine g_iconst 1 d_X5_keep_32 (by decide) ?_
    refine g_iadd d_X5_keep_33 ?_
    refine g_bipush 16 d_X5_keep_34 (by decide) ?_
    refine g_irem (by decide) d_X5_keep_36 ?_
    refine g_putI f_X5_28 d_X5_keep_37 rfl (Nat.le_of_ble_eq_true rfl) rfl rfl rfl ?_
    refine g_aload_n0 rfl d_X5_keep_40 ?_
    refine g_aload_n0 rfl d_X5_keep_41 ?_
    refine g_getIv ((m_X0_copy I (rt 25 (I 24 2).toNatClampNeg) x1) 24 0) (st2_o _ _ _ (by decide)) f_X5_21 d_X5_keep_42 rfl (Nat.le_of_ble_eq_true rfl) rfl ?_
    refine g_iconst 1 d_X5_keep_45 (by decide) ?_
    refine g_iadd d_X5_keep_46 ?_
    refine g_bipush 16 d_X5_keep_47 (by decide) ?_
    refine g_mmin lm_X5_39 d_X5_keep_49 (Nat.le_of_ble_eq_true rfl) ⟨Nat.le_of_ble_eq_true rfl, Nat.le_of_ble_eq_true rfl⟩ ⟨Nat.zero_le _, Nat.zero_le _⟩ ?_
    refine g_putI f_X5_21 d_X5_keep_52 rfl (Nat.le_of_ble_eq_true rfl) rfl rfl rfl ?_
    exact g_vret rfl d_X5_keep_55 ⟨rfl, by simp only [m_X5_keep, if_pos h1, opv_eq, if_true, if_false, Bool.false_eq_true, reduceCtorEq, b2i_t, b2i_f]⟩ (Nat.le_refl _) (Nat.le_refl _)
  · skip
    exact g_vret rfl d_X5_keep_13 ⟨rfl, by simp only [m_X5_keep, if_neg (nb h1), opv_eq, if_true, if_false, Bool.false_eq_true, reduceCtorEq, b2i_t, b2i_f]⟩ (Nat.le_refl _) (Nat.le_refl _)
noncomputable def u0_X5_takeBack (I : Nat → Nat → Int32) (x1 : Nat) : Nat → Nat → Int32 := opv (m_X0_copy I x1 (rt 25 ((((I 24 2) + 16) - 1) - (((I 24 2) + 16) - 1) / 16 * 16).toNatClampNeg))
noncomputable def f_X5_takeBack (I : Nat → Nat → Int32) (x1 : Nat) : Bool := opv (if (I 24 0) = 0 then false else (if (f_X10_within I ((((I 24 2) + 16) - 1) - (((I 24 2) + 16) - 1) / 16 * 16) 0 15) = true then true else false))
noncomputable def m_X5_takeBack (I : Nat → Nat → Int32) (x1 : Nat) : Nat → Nat → Int32 := opv (if (I 24 0) = 0 then I else (if (f_X10_within I ((((I 24 2) + 16) - 1) - (((I 24 2) + 16) - 1) / 16 * 16) 0 15) = true then (st2 (st2 (u0_X5_takeBack I x1) 24 2 ((((I 24 2) + 16) - 1) - (((I 24 2) + 16) - 1) / 16 * 16)) 24 0 (((u0_X5_takeBack I x1) 24 0) - 1)) else I))
noncomputable def ok_X5_takeBack (I : Nat → Nat → Int32) (x1 : Nat) : Prop := opv (if (I 24 0) = 0 then True else (if (f_X10_within I ((((I 24 2) + 16) - 1) - (((I 24 2) + 16) - 1) / 16 * 16) 0 15) = true then (vp_in ((((I 24 2) + 16) - 1) - (((I 24 2) + 16) - 1) / 16 * 16) (sz 25) ∧ (rt 25 ((((I 24 2) + 16) - 1) - (((I 24 2) + 16) - 1) / 16 * 16).toNatClampNeg) ≠ x1) else True))
set_option maxHeartbeats 800000 in
set_option maxRecDepth 4000 in
theorem c_X5_takeBack {k : KT} {ex : Bool} {J : Nat → Nat → Int64} {w : Bool} (I : Nat → Nat → Int32) (x1 : Nat) (hx1 : kd x1 = 0)  (hok : ok_X5_takeBack I x1) : Cx k mX5_takeBack 2 [.ref (ka k 24), .ref (ka k x1)] (81, ex, I, J, Pw w) (some (.int (b2i (f_X5_takeBack I x1)))) (81, ex, m_X5_takeBack I x1, J, Pw w) := by
  refine Ct.of rfl [some (.ref (ka k 24)), some (.ref (ka k x1)), none] rfl rfl (Nat.le_of_ble_eq_true rfl) ?_
  rw [ok_X5_takeBack, opv_eq] at hok
  refine g_aload_n0 rfl d_X5_takeBack_0 ?_
  refine g_getI f_X5_28 d_X5_takeBack_1 rfl (Nat.le_of_ble_eq_true rfl) rfl ?_
  refine g_bipush 16 d_X5_takeBack_4 (by decide) ?_
  refine g_iadd d_X5_takeBack_6 ?_
  refine g_iconst 1 d_X5_takeBack_7 (by decide) ?_
  refine g_isub d_X5_takeBack_8 ?_
  refine g_bipush 16 d_X5_takeBack_9 (by decide) ?_
  refine g_irem (by decide) d_X5_takeBack_11 ?_
  refine g_isn2 rfl d_X5_takeBack_12 ?_
  refine g_aload_n0 rfl d_X5_takeBack_13 ?_
  refine g_getI f_X5_21 d_X5_takeBack_14 rfl (Nat.le_of_ble_eq_true rfl) rfl ?_
  refine g_if_eq 30 d_X5_takeBack_17 (by decide) (fun h1 => ?_) (fun h1 => ?_)
  · skip
    refine g_iconst 0 d_X5_takeBack_30 (by decide) ?_
    exact g_zret rfl (by decide) d_X5_takeBack_31 ⟨by simp only [f_X5_takeBack, m_X5_takeBack, if_pos h1, opv_eq, if_true, if_false, Bool.false_eq_true, reduceCtorEq, b2i_t, b2i_f], by simp only [f_X5_takeBack, m_X5_takeBack, if_pos h1, opv_eq, if_true, if_false, Bool.false_eq_true, reduceCtorEq, b2i_t, b2i_f]⟩ (Nat.le_refl _) (Nat.le_refl _)
  · skip
    rw [if_neg h1] at hok
    refine g_iload_n2 rfl d_X5_takeBack_20 ?_
    refine g_iconst 0 d_X5_takeBack_21 (by decide) ?_
    refine g_bipush 15 d_X5_takeBack_22 (by decide) ?_
    refine g_callN1 (c_X10_within I ((((I 24 2) + 16) - 1) - (((I 24 2) + 16) - 1) / 16 * 16) 0 15) w_X10_within nest5 d_X5_takeBack_24 rfl rfl (Nat.le_of_ble_eq_true rfl) ⟨Nat.le_of_ble_eq_true rfl, Nat.le_of_ble_eq_true rfl⟩ ⟨Nat.zero_le _, Nat.zero_le _⟩ ⟨rfl, rfl⟩ ?_
    refine g_ifnz 32 d_X5_takeBack_27 (by decide) (fun h2 => ?_) (fun h2 => ?_)
    · skip
      rw [if_pos h2] at hok
      refine g_aload_n1 rfl d_X5_takeBack_32 ?_
      refine g_aload_n0 rfl d_X5_takeBack_33 ?_
      refine g_getP (b := 25) f_X5_13 d_X5_takeBack_34 rfl (Nat.le_of_ble_eq_true rfl) rfl rfl ?_
      refine g_iload_n2 rfl d_X5_takeBack_37 ?_
      obtain ⟨ho1, hok⟩ := hok
      refine g_aald (b := rt 25 ((((I 24 2) + 16) - 1) - (((I 24 2) + 16) - 1) / 16 * 16).toNatClampNeg) d_X5_takeBack_38 rfl (Nat.le_of_ble_eq_true rfl) ho1 (pw_rt rfl (by decide) (by decide)) ?_
      have ho2 := hok
      refine g_callV0 (c_X0_copy I x1 hx1 (rt 25 ((((I 24 2) + 16) - 1) - (((I 24 2) + 16) - 1) / 16 * 16).toNatClampNeg) (kt14 rfl ho1) ho2) w_X0_copy l_X5_35 d_X5_takeBack_39 hx1 (kd_sg hx1 (by decide)) rfl rfl (Nat.le_of_ble_eq_true rfl) ⟨Nat.le_of_ble_eq_true rfl, Nat.le_of_ble_eq_true rfl⟩ ⟨Nat.zero_le _, Nat.zero_le _⟩ ⟨rfl, rfl⟩ ?_
      refine G.toI (I' := (u0_X5_takeBack I x1)) (by rw [u0_X5_takeBack, opv_eq]) ?_
      refine g_aload_n0 rfl d_X5_takeBack_42 ?_
      refine g_iload_n2 rfl d_X5_takeBack_43 ?_
      refine g_putI f_X5_28 d_X5_takeBack_44 rfl (Nat.le_of_ble_eq_true rfl) rfl rfl rfl ?_
      refine g_aload_n0 rfl d_X5_takeBack_47 ?_
      refine g_dup rfl d_X5_takeBack_48 ?_
      refine g_getIv ((u0_X5_takeBack I x1) 24 0) (st2_o _ _ _ (by decide)) f_X5_21 d_X5_takeBack_49 rfl (Nat.le_of_ble_eq_true rfl) rfl ?_
      refine g_iconst 1 d_X5_takeBack_52 (by decide) ?_
      refine g_isub d_X5_takeBack_53 ?_
      refine g_putI f_X5_21 d_X5_takeBack_54 rfl (Nat.le_of_ble_eq_true rfl) rfl rfl rfl ?_
      refine g_iconst 1 d_X5_takeBack_57 (by decide) ?_
      exact g_zret rfl (by decide) d_X5_takeBack_58 ⟨by simp only [f_X5_takeBack, m_X5_takeBack, if_neg h1, if_pos h2, opv_eq, if_true, if_false, Bool.false_eq_true, reduceCtorEq, b2i_t, b2i_f], by simp only [f_X5_takeBack, m_X5_takeBack, if_neg h1, if_pos h2, opv_eq, if_true, if_false, Bool.false_eq_true, reduceCtorEq, b2i_t, b2i_f]⟩ (Nat.le_refl _) (Nat.le_refl _)
    · skip
      refine g_iconst 0 d_X5_takeBack_30 (by decide) ?_
      exact g_zret rfl (by decide) d_X5_takeBack_31 ⟨by simp only [f_X5_takeBack, m_X5_takeBack, if_neg h1, if_neg (nb h2), opv_eq, if_true, if_false, Bool.false_eq_true, reduceCtorEq, b2i_t, b2i_f], by simp only [f_X5_takeBack, m_X5_takeBack, if_neg h1, if_neg (nb h2), opv_eq, if_true, if_false, Bool.false_eq_true, reduceCtorEq, b2i_t, b2i_f]⟩ (Nat.le_refl _) (Nat.le_refl _)
noncomputable def f_X5_paint (I : Nat → Nat → Int32) (x1 : Nat) : Int32 := opv (if (I 24 1) < 3 then (((m_X0_copy I (rt 26 (I 24 1).toNatClampNeg) x1) 24 1) + 1) - 1 else (-1))
noncomputable def m_X5_paint (I : Nat → Nat → Int32) (x1 : Nat) : Nat → Nat → Int32 := opv (if (I 24 1) < 3 then (st2 (m_X0_copy I (rt 26 (I 24 1).toNatClampNeg) x1) 24 1 (((m_X0_copy I (rt 26 (I 24 1).toNatClampNeg) x1) 24 1) + 1)) else I)
noncomputable def ok_X5_paint (I : Nat → Nat → Int32) (x1 : Nat) : Prop := opv (if (I 24 1) < 3 then (vp_in (I 24 1) (sz 26) ∧ x1 ≠ (rt 26 (I 24 1).toNatClampNeg)) else True)
set_option maxHeartbeats 800000 in
set_option maxRecDepth 4000 in
theorem c_X5_paint {k : KT} {ex : Bool} {J : Nat → Nat → Int64} {w : Bool} (I : Nat → Nat → Int32) (x1 : Nat) (hx1 : kd x1 = 0)  (hok : ok_X5_paint I x1) : Cx k mX5_paint 2 [.ref (ka k 24), .ref (ka k x1)] (81, ex, I, J, Pw w) (some (.int (f_X5_paint I x1))) (81, ex, m_X5_paint I x1, J, Pw w) := by
  refine Ct.of rfl [some (.ref (ka k 24)), some (.ref (ka k x1))] rfl rfl (Nat.le_of_ble_eq_true rfl) ?_
  rw [ok_X5_paint, opv_eq] at hok
  refine g_aload_n0 rfl d_X5_paint_0 ?_
  refine g_getI f_X5_25 d_X5_paint_1 rfl (Nat.le_of_ble_eq_true rfl) rfl ?_
  refine g_iconst 3 d_X5_paint_4 (by decide) ?_
  refine g_icmp_lt 10 d_X5_paint_5 (by decide) (fun h1 => ?_) (fun h1 => ?_)
  · skip
    rw [if_pos h1] at hok
    refine g_aload_n0 rfl d_X5_paint_10 ?_
    refine g_getP (b := 26) f_X5_17 d_X5_paint_11 rfl (Nat.le_of_ble_eq_true rfl) rfl rfl ?_
    refine g_aload_n0 rfl d_X5_paint_14 ?_
    refine g_getI f_X5_25 d_X5_paint_15 rfl (Nat.le_of_ble_eq_true rfl) rfl ?_
    obtain ⟨ho1, hok⟩ := hok
    refine g_aald (b := rt 26 (I 24 1).toNatClampNeg) d_X5_paint_18 rfl (Nat.le_of_ble_eq_true rfl) ho1 (pw_rt rfl (by decide) (by decide)) ?_
    refine g_aload_n1 rfl d_X5_paint_19 ?_
    have ho2 := hok
    refine g_callV0 (c_X0_copy I (rt 26 (I 24 1).toNatClampNeg) (kt14 rfl ho1) x1 hx1 ho2) w_X0_copy l_X5_35 d_X5_paint_20 (kt14 rfl ho1) (kd_sg (kt14 rfl ho1) (by decide)) rfl rfl (Nat.le_of_ble_eq_true rfl) ⟨Nat.le_of_ble_eq_true rfl, Nat.le_of_ble_eq_true rfl⟩ ⟨Nat.zero_le _, Nat.zero_le _⟩ ⟨rfl, rfl⟩ ?_
    refine g_aload_n0 rfl d_X5_paint_23 ?_
    refine g_dup rfl d_X5_paint_24 ?_
    refine g_getI f_X5_25 d_X5_paint_25 rfl (Nat.le_of_ble_eq_true rfl) rfl ?_
    refine g_iconst 1 d_X5_paint_28 (by decide) ?_
    refine g_iadd d_X5_paint_29 ?_
    refine g_putI f_X5_25 d_X5_paint_30 rfl (Nat.le_of_ble_eq_true rfl) rfl rfl rfl ?_
    refine g_aload_n0 rfl d_X5_paint_33 ?_
    refine g_getIv (((m_X0_copy I (rt 26 (I 24 1).toNatClampNeg) x1) 24 1) + 1) (st2_s _ _ _ _) f_X5_25 d_X5_paint_34 rfl (Nat.le_of_ble_eq_true rfl) rfl ?_
    refine g_iconst 1 d_X5_paint_37 (by decide) ?_
    refine g_isub d_X5_paint_38 ?_
    exact g_iret rfl d_X5_paint_39 ⟨by simp only [f_X5_paint, m_X5_paint, if_pos h1, opv_eq, if_true, if_false, Bool.false_eq_true, reduceCtorEq, b2i_t, b2i_f], by simp only [f_X5_paint, m_X5_paint, if_pos h1, opv_eq, if_true, if_false, Bool.false_eq_true, reduceCtorEq, b2i_t, b2i_f]⟩ (Nat.le_refl _) (Nat.le_refl _)
  · skip
    refine g_iconst (-1) d_X5_paint_8 (by decide) ?_
    exact g_iret rfl d_X5_paint_9 ⟨by simp only [f_X5_paint, m_X5_paint, if_neg h1, opv_eq, if_true, if_false, Bool.false_eq_true, reduceCtorEq, b2i_t, b2i_f], by simp only [f_X5_paint, m_X5_paint, if_neg h1, opv_eq, if_true, if_false, Bool.false_eq_true, reduceCtorEq, b2i_t, b2i_f]⟩ (Nat.le_refl _) (Nat.le_refl _)
noncomputable def f_X5_recall (I : Nat → Nat → Int32) (x1 : Int32) (x2 : Nat) : Bool := opv (if x1 < 0 then false else (if (I 24 1) ≤ x1 then false else (if x1 < 3 then true else false)))
noncomputable def m_X5_recall (I : Nat → Nat → Int32) (x1 : Int32) (x2 : Nat) : Nat → Nat → Int32 := opv (if x1 < 0 then I else (if (I 24 1) ≤ x1 then I else (if x1 < 3 then (st2 (m_X0_copy I x2 (rt 26 x1.toNatClampNeg)) 24 0 0) else I)))
noncomputable def ok_X5_recall (I : Nat → Nat → Int32) (x1 : Int32) (x2 : Nat) : Prop := opv (if x1 < 0 then True else (if (I 24 1) ≤ x1 then True else (if x1 < 3 then (vp_in x1 (sz 26) ∧ (rt 26 x1.toNatClampNeg) ≠ x2) else True)))
set_option maxHeartbeats 800000 in
set_option maxRecDepth 4000 in
theorem c_X5_recall {k : KT} {ex : Bool} {J : Nat → Nat → Int64} {w : Bool} (I : Nat → Nat → Int32) (x1 : Int32) (x2 : Nat) (hx2 : kd x2 = 0)  (hok : ok_X5_recall I x1 x2) : Cx k mX5_recall 2 [.ref (ka k 24), .int x1, .ref (ka k x2)] (81, ex, I, J, Pw w) (some (.int (b2i (f_X5_recall I x1 x2)))) (81, ex, m_X5_recall I x1 x2, J, Pw w) := by
  refine Ct.of rfl [some (.ref (ka k 24)), some (.int x1), some (.ref (ka k x2))] rfl rfl (Nat.le_of_ble_eq_true rfl) ?_
  rw [ok_X5_recall, opv_eq] at hok
  refine g_iload_n1 rfl d_X5_recall_0 ?_
  refine g_if_lt 17 d_X5_recall_1 (by decide) (fun h1 => ?_) (fun h1 => ?_)
  · skip
    refine g_iconst 0 d_X5_recall_17 (by decide) ?_
    exact g_zret rfl (by decide) d_X5_recall_18 ⟨by simp only [f_X5_recall, m_X5_recall, if_pos h1, opv_eq, if_true, if_false, Bool.false_eq_true, reduceCtorEq, b2i_t, b2i_f], by simp only [f_X5_recall, m_X5_recall, if_pos h1, opv_eq, if_true, if_false, Bool.false_eq_true, reduceCtorEq, b2i_t, b2i_f]⟩ (Nat.le_refl _) (Nat.le_refl _)
  · skip
    rw [if_neg h1] at hok
    refine g_iload_n1 rfl d_X5_recall_4 ?_
    refine g_aload_n0 rfl d_X5_recall_5 ?_
    refine g_getI f_X5_25 d_X5_recall_6 rfl (Nat.le_of_ble_eq_true rfl) rfl ?_
    refine g_icmp_ge 17 d_X5_recall_9 (by decide) (fun h2 => ?_) (fun h2 => ?_)
    · skip
      refine g_iconst 0 d_X5_recall_17 (by decide) ?_
      exact g_zret rfl (by decide) d_X5_recall_18 ⟨by simp only [f_X5_recall, m_X5_recall, if_neg h1, if_pos h2, opv_eq, if_true, if_false, Bool.false_eq_true, reduceCtorEq, b2i_t, b2i_f], by simp only [f_X5_recall, m_X5_recall, if_neg h1, if_pos h2, opv_eq, if_true, if_false, Bool.false_eq_true, reduceCtorEq, b2i_t, b2i_f]⟩ (Nat.le_refl _) (Nat.le_refl _)
    · skip
      rw [if_neg h2] at hok
      refine g_iload_n1 rfl d_X5_recall_12 ?_
      refine g_iconst 3 d_X5_recall_13 (by decide) ?_
      refine g_icmp_lt 19 d_X5_recall_14 (by decide) (fun h3 => ?_) (fun h3 => ?_)
      · skip
        rw [if_pos h3] at hok
        refine g_aload_n2 rfl d_X5_recall_19 ?_
        refine g_aload_n0 rfl d_X5_recall_20 ?_
        refine g_getP (b := 26) f_X5_17 d_X5_recall_21 rfl (Nat.le_of_ble_eq_true rfl) rfl rfl ?_
        refine g_iload_n1 rfl d_X5_recall_24 ?_
        obtain ⟨ho1, hok⟩ := hok
        refine g_aald (b := rt 26 x1.toNatClampNeg) d_X5_recall_25 rfl (Nat.le_of_ble_eq_true rfl) ho1 (pw_rt rfl (by decide) (by decide)) ?_
        have ho2 := hok
        refine g_callV0 (c_X0_copy I x2 hx2 (rt 26 x1.toNatClampNeg) (kt14 rfl ho1) ho2) w_X0_copy l_X5_35 d_X5_recall_26 hx2 (kd_sg hx2 (by decide)) rfl rfl (Nat.le_of_ble_eq_true rfl) ⟨Nat.le_of_ble_eq_true rfl, Nat.le_of_ble_eq_true rfl⟩ ⟨Nat.zero_le _, Nat.zero_le _⟩ ⟨rfl, rfl⟩ ?_
        refine g_aload_n0 rfl d_X5_recall_29 ?_
        refine g_iconst 0 d_X5_recall_30 (by decide) ?_
        refine g_putI f_X5_21 d_X5_recall_31 rfl (Nat.le_of_ble_eq_true rfl) rfl rfl rfl ?_
        refine g_iconst 1 d_X5_recall_34 (by decide) ?_
        exact g_zret rfl (by decide) d_X5_recall_35 ⟨by simp only [f_X5_recall, m_X5_recall, if_neg h1, if_neg h2, if_pos h3, opv_eq, if_true, if_false, Bool.false_eq_true, reduceCtorEq, b2i_t, b2i_f], by simp only [f_X5_recall, m_X5_recall, if_neg h1, if_neg h2, if_pos h3, opv_eq, if_true, if_false, Bool.false_eq_true, reduceCtorEq, b2i_t, b2i_f]⟩ (Nat.le_refl _) (Nat.le_refl _)
      · skip
        refine g_iconst 0 d_X5_recall_17 (by decide) ?_
        exact g_zret rfl (by decide) d_X5_recall_18 ⟨by simp only [f_X5_recall, m_X5_recall, if_neg h1, if_neg h2, if_neg h3, opv_eq, if_true, if_false, Bool.false_eq_true, reduceCtorEq, b2i_t, b2i_f], by simp only [f_X5_recall, m_X5_recall, if_neg h1, if_neg h2, if_neg h3, opv_eq, if_true, if_false, Bool.false_eq_true, reduceCtorEq, b2i_t, b2i_f]⟩ (Nat.le_refl _) (Nat.le_refl _)
