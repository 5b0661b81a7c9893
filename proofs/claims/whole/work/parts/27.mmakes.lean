noncomputable def lp_X11_layOuts_13 (x1 : Int32) : Nat → Int32 → (Nat → Nat → Int32) → Int32 × (Nat → Nat → Int32)
  | 0, l2, I1 => (l2, I1)
  | n + 1, l2, I1 => (if 21 ≤ l2 then (l2, I1) else (lp_X11_layOuts_13 x1 n (l2 + 1) (va_up (m_X11_dayBy I1 73 (x1 / 4)) 75 (upd ((m_X11_dayBy I1 73 (x1 / 4)) 75) l2.toNatClampNeg (f_X11_whoOf (m_X11_dayBy I1 73 (x1 / 4)) 73)))))
def oklp_X11_layOuts_13 (x1 : Int32) : Nat → Int32 → (Nat → Nat → Int32) → Prop
  | 0, l2, I1 => True
  | n + 1, l2, I1 => (if 21 ≤ l2 then True else (ok_X11_dayBy I1 73 (x1 / 4) ∧ (ok_X11_whoOf (m_X11_dayBy I1 73 (x1 / 4)) 73 ∧ (vp_in l2 (sz 75) ∧ oklp_X11_layOuts_13 x1 n (l2 + 1) (va_up (m_X11_dayBy I1 73 (x1 / 4)) 75 (upd ((m_X11_dayBy I1 73 (x1 / 4)) 75) l2.toNatClampNeg (f_X11_whoOf (m_X11_dayBy I1 73 (x1 / 4)) 73)))))))
set_option maxHeartbeats 800000 in
set_option maxRecDepth 4000 in
theorem k_lp_X11_layOuts_13 {k : KT} {ex : Bool} {J : Nat → Nat → Int64} {w : Bool} (x1 : Int32) {F : FinT} : ∀ (n : Nat) (l2 : Int32) (I1 : (Nat → Nat → Int32)), mu_up 21 l2 < n → oklp_X11_layOuts_13 x1 n l2 I1 → G k mX11_layOuts (roomOf 4 0 0) F 0 0 49 [some (.ref (ka k 65)), some (.int x1), some (.int ((lp_X11_layOuts_13 x1 n l2 I1).1))] [] (81, ex, (lp_X11_layOuts_13 x1 n l2 I1).2, J, Pw w) → G k mX11_layOuts (roomOf 4 0 0) F 0 0 13 [some (.ref (ka k 65)), some (.int x1), some (.int l2)] [] (81, ex, I1, J, Pw w) := by
  intro n
  induction n with
  | zero => intro l2 I1 hmu hok hj; exact absurd hmu (Nat.not_lt_zero _)
  | succ n ih =>
    intro l2 I1 hmu hok hj
    rw [oklp_X11_layOuts_13] at hok
    refine g_iload_n2 rfl d_X11_layOuts_13 ?_
    refine g_bipush 21 d_X11_layOuts_14 (by decide) ?_
    refine g_icmp_ge 49 d_X11_layOuts_16 (by decide) (fun h1 => ?_) (fun h1 => ?_)
    · skip
      (try simp only [lp_X11_layOuts_13, if_pos h1, opv_eq, if_true, if_false, Bool.false_eq_true, reduceCtorEq, b2i_t, b2i_f] at hj); exact hj
    · skip
      rw [if_neg h1] at hok
      refine g_aload_n0 rfl d_X11_layOuts_19 ?_
      refine g_aload_n0 rfl d_X11_layOuts_20 ?_
      refine g_getP (b := 73) f_X11_35 d_X11_layOuts_21 rfl (Nat.le_of_ble_eq_true rfl) rfl rfl ?_
      refine g_iload_n1 rfl d_X11_layOuts_24 ?_
      refine g_iconst 4 d_X11_layOuts_25 (by decide) ?_
      refine g_idiv (by decide) d_X11_layOuts_26 ?_
      obtain ⟨ho2, hok⟩ := hok
      refine g_callV0 (c_X11_dayBy I1 73 rfl (x1 / 4) (by decide) ho2) w_X11_dayBy l_X11_282 d_X11_layOuts_27 rfl (Nat.le_of_ble_eq_true rfl) rfl rfl (Nat.le_of_ble_eq_true rfl) ⟨Nat.le_of_ble_eq_true rfl, Nat.le_of_ble_eq_true rfl⟩ ⟨Nat.zero_le _, Nat.zero_le _⟩ ⟨rfl, rfl⟩ ?_
      refine g_aload_n0 rfl d_X11_layOuts_30 ?_
      refine g_getP (b := 75) f_X11_41 d_X11_layOuts_31 rfl (Nat.le_of_ble_eq_true rfl) rfl rfl ?_
      refine g_iload_n2 rfl d_X11_layOuts_34 ?_
      refine g_aload_n0 rfl d_X11_layOuts_35 ?_
      refine g_getP (b := 73) f_X11_35 d_X11_layOuts_36 rfl (Nat.le_of_ble_eq_true rfl) rfl rfl ?_
      obtain ⟨ho3, hok⟩ := hok
      refine g_callS1 (c_X11_whoOf (m_X11_dayBy I1 73 (x1 / 4)) 73 rfl ho3) w_X11_whoOf l_X11_268 d_X11_layOuts_39 rfl rfl (Nat.le_of_ble_eq_true rfl) ⟨Nat.le_of_ble_eq_true rfl, Nat.le_of_ble_eq_true rfl⟩ ⟨Nat.zero_le _, Nat.zero_le _⟩ ⟨rfl, rfl⟩ ?_
      obtain ⟨ho4, hok⟩ := hok
      refine g_iast d_X11_layOuts_42 rfl (Nat.le_of_ble_eq_true rfl) ho4 ?_
      refine g_ic2 (l2 + 1) rfl rfl d_X11_layOuts_43 ?_
      refine g_goto 13 d_X11_layOuts_46 (by decide) ?_
      exact ih (l2 + 1) (va_up (m_X11_dayBy I1 73 (x1 / 4)) 75 (upd ((m_X11_dayBy I1 73 (x1 / 4)) 75) l2.toNatClampNeg (f_X11_whoOf (m_X11_dayBy I1 73 (x1 / 4)) 73))) (Nat.lt_of_lt_of_le (mu_up_lt h1) (Nat.le_of_lt_succ hmu)) (by (try simp only [if_neg h1, opv_eq, if_true, if_false, Bool.false_eq_true, reduceCtorEq, b2i_t, b2i_f] at hok); exact hok) (by (try simp only [lp_X11_layOuts_13, if_neg h1, opv_eq, if_true, if_false, Bool.false_eq_true, reduceCtorEq, b2i_t, b2i_f] at hj); exact hj)
noncomputable def m_X11_layOuts (I : Nat → Nat → Int32) (x1 : Int32) : Nat → Nat → Int32 := opv ((lp_X11_layOuts_13 x1 (mu_up 21 0 + 1) 0 (m_X11_begins I 73 (x1 - x1 / 4 * 4))).2)
noncomputable def ok_X11_layOuts (I : Nat → Nat → Int32) (x1 : Int32) : Prop := opv (ok_X11_begins I 73 (x1 - x1 / 4 * 4) ∧ oklp_X11_layOuts_13 x1 (mu_up 21 0 + 1) 0 (m_X11_begins I 73 (x1 - x1 / 4 * 4)))
set_option maxHeartbeats 800000 in
set_option maxRecDepth 4000 in
theorem c_X11_layOuts {k : KT} {ex : Bool} {J : Nat → Nat → Int64} {w : Bool} (I : Nat → Nat → Int32) (x1 : Int32)  (hok : ok_X11_layOuts I x1) : Cx k mX11_layOuts 4 [.ref (ka k 65), .int x1] (81, ex, I, J, Pw w) none (81, ex, m_X11_layOuts I x1, J, Pw w) := by
  refine Ct.of rfl [some (.ref (ka k 65)), some (.int x1), none] rfl rfl (Nat.le_of_ble_eq_true rfl) ?_
  rw [ok_X11_layOuts, opv_eq] at hok
  refine g_aload_n0 rfl d_X11_layOuts_0 ?_
  refine g_aload_n0 rfl d_X11_layOuts_1 ?_
  refine g_getP (b := 73) f_X11_35 d_X11_layOuts_2 rfl (Nat.le_of_ble_eq_true rfl) rfl rfl ?_
  refine g_iload_n1 rfl d_X11_layOuts_5 ?_
  refine g_iconst 4 d_X11_layOuts_6 (by decide) ?_
  refine g_irem (by decide) d_X11_layOuts_7 ?_
  obtain ⟨ho1, hok⟩ := hok
  refine g_callV0 (c_X11_begins I 73 rfl (x1 - x1 / 4 * 4) ho1) w_X11_begins l_X11_181 d_X11_layOuts_8 rfl (Nat.le_of_ble_eq_true rfl) rfl rfl (Nat.le_of_ble_eq_true rfl) ⟨Nat.le_of_ble_eq_true rfl, Nat.le_of_ble_eq_true rfl⟩ ⟨Nat.zero_le _, Nat.zero_le _⟩ ⟨rfl, rfl⟩ ?_
  refine g_iconst 0 d_X11_layOuts_11 (by decide) ?_
  refine g_isn2 rfl d_X11_layOuts_12 ?_
  refine k_lp_X11_layOuts_13 x1 _ 0 (m_X11_begins I 73 (x1 - x1 / 4 * 4)) (Nat.lt_succ_self _) hok ?_
  exact g_vret rfl d_X11_layOuts_49 ⟨rfl, by simp only [m_X11_layOuts, opv_eq, if_true, if_false, Bool.false_eq_true, reduceCtorEq, b2i_t, b2i_f]⟩ (Nat.le_refl _) (Nat.le_refl _)
noncomputable def lp_X11_wrongSeen_2 (I : Nat → Nat → Int32) : Nat → Int32 → Int32
  | 0, l1 => 0
  | n + 1, l1 => (if (I 68 7) ≤ l1 then (-2) else (if (I 75 (I 68 (43 + (2 * l1)).toNatClampNeg).toNatClampNeg) = (I 68 ((43 + (2 * l1)) + 1).toNatClampNeg) then (lp_X11_wrongSeen_2 I n (l1 + 1)) else l1))
def oklp_X11_wrongSeen_2 (I : Nat → Nat → Int32) : Nat → Int32 → Prop
  | 0, l1 => True
  | n + 1, l1 => (if (I 68 7) ≤ l1 then True else (vp_in (43 + (2 * l1)) (sz 68) ∧ (vp_in (I 68 (43 + (2 * l1)).toNatClampNeg) (sz 75) ∧ (vp_in ((43 + (2 * l1)) + 1) (sz 68) ∧ (if (I 75 (I 68 (43 + (2 * l1)).toNatClampNeg).toNatClampNeg) = (I 68 ((43 + (2 * l1)) + 1).toNatClampNeg) then oklp_X11_wrongSeen_2 I n (l1 + 1) else True)))))
set_option maxHeartbeats 800000 in
set_option maxRecDepth 4000 in
theorem k_lp_X11_wrongSeen_2 {k : KT} {ex : Bool} {J : Nat → Nat → Int64} {w : Bool} (I : Nat → Nat → Int32) {Q : Option Value → MM → Prop} : ∀ (n : Nat) (l1 : Int32), mu_up (I 68 7) l1 < n → oklp_X11_wrongSeen_2 I n l1 → Q (some (.int (lp_X11_wrongSeen_2 I n l1))) (81, ex, I, J, Pw w) → G k mX11_wrongSeen (roomOf 1 0 0) (FinM k Q 0 0) 0 0 2 [some (.ref (ka k 65)), some (.int l1)] [] (81, ex, I, J, Pw w) := by
  intro n
  induction n with
  | zero => intro l1 hmu hok hq; exact absurd hmu (Nat.not_lt_zero _)
  | succ n ih =>
    intro l1 hmu hok hq
    rw [oklp_X11_wrongSeen_2] at hok
    refine g_iload_n1 rfl d_X11_wrongSeen_2 ?_
    refine g_aload_n0 rfl d_X11_wrongSeen_3 ?_
    refine g_getP (b := 68) f_X11_20 d_X11_wrongSeen_4 rfl (Nat.le_of_ble_eq_true rfl) rfl rfl ?_
    refine g_bipush 7 d_X11_wrongSeen_7 (by decide) ?_
    refine g_ialdv (I 68 7) rfl d_X11_wrongSeen_9 rfl (Nat.le_of_ble_eq_true rfl) (vp_c (by decide +kernel)) ?_
    refine g_icmp_ge 53 d_X11_wrongSeen_10 (by decide) (fun h1 => ?_) (fun h1 => ?_)
    · skip
      refine g_bipush (-2) d_X11_wrongSeen_53 (by decide) ?_
      exact g_iret rfl d_X11_wrongSeen_55 (by (try simp only [lp_X11_wrongSeen_2, if_pos h1, opv_eq, if_true, if_false, Bool.false_eq_true, reduceCtorEq, b2i_t, b2i_f] at hq); exact hq) (Nat.le_refl _) (Nat.le_refl _)
    · skip
      rw [if_neg h1] at hok
      refine g_aload_n0 rfl d_X11_wrongSeen_13 ?_
      refine g_getP (b := 75) f_X11_41 d_X11_wrongSeen_14 rfl (Nat.le_of_ble_eq_true rfl) rfl rfl ?_
      refine g_aload_n0 rfl d_X11_wrongSeen_17 ?_
      refine g_getP (b := 68) f_X11_20 d_X11_wrongSeen_18 rfl (Nat.le_of_ble_eq_true rfl) rfl rfl ?_
      refine g_bipush 43 d_X11_wrongSeen_21 (by decide) ?_
      refine g_iconst 2 d_X11_wrongSeen_23 (by decide) ?_
      refine g_iload_n1 rfl d_X11_wrongSeen_24 ?_
      refine g_imul d_X11_wrongSeen_25 ?_
      refine g_iadd d_X11_wrongSeen_26 ?_
      obtain ⟨ho1, hok⟩ := hok
      refine g_iald d_X11_wrongSeen_27 rfl (Nat.le_of_ble_eq_true rfl) ho1 ?_
      obtain ⟨ho2, hok⟩ := hok
      refine g_iald d_X11_wrongSeen_28 rfl (Nat.le_of_ble_eq_true rfl) ho2 ?_
      refine g_aload_n0 rfl d_X11_wrongSeen_29 ?_
      refine g_getP (b := 68) f_X11_20 d_X11_wrongSeen_30 rfl (Nat.le_of_ble_eq_true rfl) rfl rfl ?_
      refine g_bipush 43 d_X11_wrongSeen_33 (by decide) ?_
      refine g_iconst 2 d_X11_wrongSeen_35 (by decide) ?_
      refine g_iload_n1 rfl d_X11_wrongSeen_36 ?_
      refine g_imul d_X11_wrongSeen_37 ?_
      refine g_iadd d_X11_wrongSeen_38 ?_
      refine g_iconst 1 d_X11_wrongSeen_39 (by decide) ?_
      refine g_iadd d_X11_wrongSeen_40 ?_
      obtain ⟨ho3, hok⟩ := hok
      refine g_iald d_X11_wrongSeen_41 rfl (Nat.le_of_ble_eq_true rfl) ho3 ?_
      refine g_icmp_eq 47 d_X11_wrongSeen_42 (by decide) (fun h2 => ?_) (fun h2 => ?_)
      · skip
        rw [if_pos h2] at hok
        refine g_ic1 (l1 + 1) rfl rfl d_X11_wrongSeen_47 ?_
        refine g_goto 2 d_X11_wrongSeen_50 (by decide) ?_
        exact ih (l1 + 1) (Nat.lt_of_lt_of_le (mu_up_lt h1) (Nat.le_of_lt_succ hmu)) (by (try simp only [if_neg h1, if_pos h2, opv_eq, if_true, if_false, Bool.false_eq_true, reduceCtorEq, b2i_t, b2i_f] at hok); exact hok) (by (try simp only [lp_X11_wrongSeen_2, if_neg h1, if_pos h2, opv_eq, if_true, if_false, Bool.false_eq_true, reduceCtorEq, b2i_t, b2i_f] at hq); exact hq)
      · skip
        refine g_iload_n1 rfl d_X11_wrongSeen_45 ?_
        exact g_iret rfl d_X11_wrongSeen_46 (by (try simp only [lp_X11_wrongSeen_2, if_neg h1, if_neg h2, opv_eq, if_true, if_false, Bool.false_eq_true, reduceCtorEq, b2i_t, b2i_f] at hq); exact hq) (Nat.le_refl _) (Nat.le_refl _)
noncomputable def f_X11_wrongSeen (I : Nat → Nat → Int32)  : Int32 := opv (lp_X11_wrongSeen_2 I (mu_up (I 68 7) 0 + 1) 0)
noncomputable def ok_X11_wrongSeen (I : Nat → Nat → Int32)  : Prop := opv (oklp_X11_wrongSeen_2 I (mu_up (I 68 7) 0 + 1) 0)
set_option maxHeartbeats 800000 in
set_option maxRecDepth 4000 in
theorem c_X11_wrongSeen {k : KT} {ex : Bool} {J : Nat → Nat → Int64} {w : Bool} (I : Nat → Nat → Int32)   (hok : ok_X11_wrongSeen I) : Cx k mX11_wrongSeen 1 [.ref (ka k 65)] (81, ex, I, J, Pw w) (some (.int (f_X11_wrongSeen I))) (81, ex, I, J, Pw w) := by
  refine Ct.of rfl [some (.ref (ka k 65)), none] rfl rfl (Nat.le_of_ble_eq_true rfl) ?_
  rw [ok_X11_wrongSeen, opv_eq] at hok
  refine g_iconst 0 d_X11_wrongSeen_0 (by decide) ?_
  refine g_isn1 rfl d_X11_wrongSeen_1 ?_
  exact k_lp_X11_wrongSeen_2 I _ 0 (Nat.lt_succ_self _) hok ⟨by simp only [f_X11_wrongSeen, opv_eq, if_true, if_false, Bool.false_eq_true, reduceCtorEq, b2i_t, b2i_f], rfl⟩
noncomputable def lp_X11_seekMakes_19 (x1 : Int32) : Nat → Int32 → (Nat → Nat → Int32) → Int32 × (Nat → Nat → Int32)
  | 0, l3, I1 => (l3, I1)
  | n + 1, l3, I1 => (if 84 ≤ l3 then (l3, I1) else (lp_X11_seekMakes_19 x1 n (l3 + 1) (va_up I1 76 (upd (I1 76) l3.toNatClampNeg 0))))
def oklp_X11_seekMakes_19 (x1 : Int32) : Nat → Int32 → (Nat → Nat → Int32) → Prop
  | 0, l3, I1 => True
  | n + 1, l3, I1 => (if 84 ≤ l3 then True else (vp_in l3 (sz 76) ∧ oklp_X11_seekMakes_19 x1 n (l3 + 1) (va_up I1 76 (upd (I1 76) l3.toNatClampNeg 0))))
set_option maxHeartbeats 800000 in
set_option maxRecDepth 4000 in
theorem k_lp_X11_seekMakes_19 {k : KT} {ex : Bool} {J : Nat → Nat → Int64} {w : Bool} (x1 : Int32) {F : FinT} : ∀ (n : Nat) (l3 : Int32) (I1 : (Nat → Nat → Int32)), mu_up 84 l3 < n → oklp_X11_seekMakes_19 x1 n l3 I1 → G k mX11_seekMakes (roomOf 5 0 0) F 0 0 38 [some (.ref (ka k 65)), some (.int x1), some (.int (-1)), some (.int ((lp_X11_seekMakes_19 x1 n l3 I1).1)), none] [] (81, ex, (lp_X11_seekMakes_19 x1 n l3 I1).2, J, Pw w) → G k mX11_seekMakes (roomOf 5 0 0) F 0 0 19 [some (.ref (ka k 65)), some (.int x1), some (.int (-1)), some (.int l3), none] [] (81, ex, I1, J, Pw w) := by
  intro n
  induction n with
  | zero => intro l3 I1 hmu hok hj; exact absurd hmu (Nat.not_lt_zero _)
  | succ n ih =>
    intro l3 I1 hmu hok hj
    rw [oklp_X11_seekMakes_19] at hok
    refine g_iload_n3 rfl d_X11_seekMakes_19 ?_
    refine g_bipush 84 d_X11_seekMakes_20 (by decide) ?_
    refine g_icmp_ge 38 d_X11_seekMakes_22 (by decide) (fun h1 => ?_) (fun h1 => ?_)
    · skip
      (try simp only [lp_X11_seekMakes_19, if_pos h1, opv_eq, if_true, if_false, Bool.false_eq_true, reduceCtorEq, b2i_t, b2i_f] at hj); exact hj
    · skip
      rw [if_neg h1] at hok
      refine g_aload_n0 rfl d_X11_seekMakes_25 ?_
      refine g_getP (b := 76) f_X11_44 d_X11_seekMakes_26 rfl (Nat.le_of_ble_eq_true rfl) rfl rfl ?_
      refine g_iload_n3 rfl d_X11_seekMakes_29 ?_
      refine g_iconst 0 d_X11_seekMakes_30 (by decide) ?_
      obtain ⟨ho1, hok⟩ := hok
      refine g_iast d_X11_seekMakes_31 rfl (Nat.le_of_ble_eq_true rfl) ho1 ?_
      refine g_ic3 (l3 + 1) rfl rfl d_X11_seekMakes_32 ?_
      refine g_goto 19 d_X11_seekMakes_35 (by decide) ?_
      exact ih (l3 + 1) (va_up I1 76 (upd (I1 76) l3.toNatClampNeg 0)) (Nat.lt_of_lt_of_le (mu_up_lt h1) (Nat.le_of_lt_succ hmu)) (by (try simp only [if_neg h1, opv_eq, if_true, if_false, Bool.false_eq_true, reduceCtorEq, b2i_t, b2i_f] at hok); exact hok) (by (try simp only [lp_X11_seekMakes_19, if_neg h1, opv_eq, if_true, if_false, Bool.false_eq_true, reduceCtorEq, b2i_t, b2i_f] at hj); exact hj)
noncomputable def u0_X11_seekMakes (x1 : Int32) (l2 : Int32) (l3 : Int32) (I1 : Nat → Nat → Int32) : Int32 := opv (if ((m_X11_layOuts I1 l3) 65 28) = x1 then (10 * (l3 / 4)) + (l3 - l3 / 4 * 4) else l2)
noncomputable def lp_X11_seekMakes_123 (x1 : Int32) (l2 : Int32) (l3 : Int32) : Nat → Int32 → (Nat → Nat → Int32) → Int32 × (Nat → Nat → Int32)
  | 0, l4, I1 => (l4, I1)
  | n + 1, l4, I1 => (if 21 ≤ l4 then (l4, I1) else (lp_X11_seekMakes_123 x1 l2 l3 n (l4 + 1) (va_up I1 76 (upd (I1 76) ((4 * l4) + (I1 75 l4.toNatClampNeg)).toNatClampNeg ((I1 76 ((4 * l4) + (I1 75 l4.toNatClampNeg)).toNatClampNeg) + 1)))))
def oklp_X11_seekMakes_123 (x1 : Int32) (l2 : Int32) (l3 : Int32) : Nat → Int32 → (Nat → Nat → Int32) → Prop
  | 0, l4, I1 => True
  | n + 1, l4, I1 => (if 21 ≤ l4 then True else (vp_in l4 (sz 75) ∧ (vp_in ((4 * l4) + (I1 75 l4.toNatClampNeg)) (sz 76) ∧ (vp_in ((4 * l4) + (I1 75 l4.toNatClampNeg)) (sz 76) ∧ oklp_X11_seekMakes_123 x1 l2 l3 n (l4 + 1) (va_up I1 76 (upd (I1 76) ((4 * l4) + (I1 75 l4.toNatClampNeg)).toNatClampNeg ((I1 76 ((4 * l4) + (I1 75 l4.toNatClampNeg)).toNatClampNeg) + 1)))))))
set_option maxHeartbeats 800000 in
set_option maxRecDepth 4000 in
theorem k_lp_X11_seekMakes_123 {k : KT} {ex : Bool} {J : Nat → Nat → Int64} {w : Bool} (x1 : Int32) (l2 : Int32) (l3 : Int32) {F : FinT} : ∀ (n : Nat) (l4 : Int32) (I1 : (Nat → Nat → Int32)), mu_up 21 l4 < n → oklp_X11_seekMakes_123 x1 l2 l3 n l4 I1 → G k mX11_seekMakes (roomOf 5 0 0) F 0 0 157 [some (.ref (ka k 65)), some (.int x1), some (.int l2), some (.int l3), some (.int ((lp_X11_seekMakes_123 x1 l2 l3 n l4 I1).1))] [] (81, ex, (lp_X11_seekMakes_123 x1 l2 l3 n l4 I1).2, J, Pw w) → G k mX11_seekMakes (roomOf 5 0 0) F 0 0 123 [some (.ref (ka k 65)), some (.int x1), some (.int l2), some (.int l3), some (.int l4)] [] (81, ex, I1, J, Pw w) := by
  intro n
  induction n with
  | zero => intro l4 I1 hmu hok hj; exact absurd hmu (Nat.not_lt_zero _)
  | succ n ih =>
    intro l4 I1 hmu hok hj
    rw [oklp_X11_seekMakes_123] at hok
    refine g_iload (i := 4) rfl d_X11_seekMakes_123 ?_
    refine g_bipush 21 d_X11_seekMakes_125 (by decide) ?_
    refine g_icmp_ge 157 d_X11_seekMakes_127 (by decide) (fun h2 => ?_) (fun h2 => ?_)
    · skip
      (try simp only [lp_X11_seekMakes_123, if_pos h2, opv_eq, if_true, if_false, Bool.false_eq_true, reduceCtorEq, b2i_t, b2i_f] at hj); exact hj
    · skip
      rw [if_neg h2] at hok
      refine g_aload_n0 rfl d_X11_seekMakes_130 ?_
      refine g_getP (b := 76) f_X11_44 d_X11_seekMakes_131 rfl (Nat.le_of_ble_eq_true rfl) rfl rfl ?_
      refine g_iconst 4 d_X11_seekMakes_134 (by decide) ?_
      refine g_iload (i := 4) rfl d_X11_seekMakes_135 ?_
      refine g_imul d_X11_seekMakes_137 ?_
      refine g_aload_n0 rfl d_X11_seekMakes_138 ?_
      refine g_getP (b := 75) f_X11_41 d_X11_seekMakes_139 rfl (Nat.le_of_ble_eq_true rfl) rfl rfl ?_
      refine g_iload (i := 4) rfl d_X11_seekMakes_142 ?_
      obtain ⟨ho4, hok⟩ := hok
      refine g_iald d_X11_seekMakes_144 rfl (Nat.le_of_ble_eq_true rfl) ho4 ?_
      refine g_iadd d_X11_seekMakes_145 ?_
      refine g_dup2 rfl rfl d_X11_seekMakes_146 ?_
      obtain ⟨ho5, hok⟩ := hok
      refine g_iald d_X11_seekMakes_147 rfl (Nat.le_of_ble_eq_true rfl) ho5 ?_
      refine g_iconst 1 d_X11_seekMakes_148 (by decide) ?_
      refine g_iadd d_X11_seekMakes_149 ?_
      obtain ⟨ho6, hok⟩ := hok
      refine g_iast d_X11_seekMakes_150 rfl (Nat.le_of_ble_eq_true rfl) ho6 ?_
      refine g_ic4 (l4 + 1) rfl rfl d_X11_seekMakes_151 ?_
      refine g_goto 123 d_X11_seekMakes_154 (by decide) ?_
      exact ih (l4 + 1) (va_up I1 76 (upd (I1 76) ((4 * l4) + (I1 75 l4.toNatClampNeg)).toNatClampNeg ((I1 76 ((4 * l4) + (I1 75 l4.toNatClampNeg)).toNatClampNeg) + 1))) (Nat.lt_of_lt_of_le (mu_up_lt h2) (Nat.le_of_lt_succ hmu)) (by (try simp only [if_neg h2, opv_eq, if_true, if_false, Bool.false_eq_true, reduceCtorEq, b2i_t, b2i_f] at hok); exact hok) (by (try simp only [lp_X11_seekMakes_123, if_neg h2, opv_eq, if_true, if_false, Bool.false_eq_true, reduceCtorEq, b2i_t, b2i_f] at hj); exact hj)
noncomputable def u1_X11_seekMakes (x1 : Int32) (l2 : Int32) (l3 : Int32) (I1 : Nat → Nat → Int32) : Int32 := opv (if (f_X11_wrongSeen (m_X11_layOuts I1 l3)) = (-2) then (u0_X11_seekMakes x1 l2 l3 I1) else l2)
noncomputable def u2_X11_seekMakes (x1 : Int32) (l2 : Int32) (l3 : Int32) (I1 : Nat → Nat → Int32) : Nat → Nat → Int32 := opv (if (f_X11_wrongSeen (m_X11_layOuts I1 l3)) = (-2) then (lp_X11_seekMakes_123 x1 (u0_X11_seekMakes x1 l2 l3 I1) l3 (mu_up 21 0 + 1) 0 (st2 (st2 (st2 (m_X11_layOuts I1 l3) 65 28 (((m_X11_layOuts I1 l3) 65 28) + 1)) 65 29 (((m_X11_layOuts I1 l3) 65 29) ||| (1 <<< ((l3 / 4) &&& 31)))) 65 30 (((m_X11_layOuts I1 l3) 65 30) ||| (1 <<< ((l3 - l3 / 4 * 4) &&& 31))))).2 else (m_X11_layOuts I1 l3))
noncomputable def lp_X11_seekMakes_40 (x1 : Int32) : Nat → Int32 → Int32 → (Nat → Nat → Int32) → Int32 × Int32 × (Nat → Nat → Int32)
  | 0, l2, l3, I1 => (l2, l3, I1)
  | n + 1, l2, l3, I1 => (if 40 ≤ l3 then (l2, l3, I1) else (lp_X11_seekMakes_40 x1 n (u1_X11_seekMakes x1 l2 l3 I1) (l3 + 1) (u2_X11_seekMakes x1 l2 l3 I1)))
def oklp_X11_seekMakes_40 (x1 : Int32) : Nat → Int32 → Int32 → (Nat → Nat → Int32) → Prop
  | 0, l2, l3, I1 => True
  | n + 1, l2, l3, I1 => (if 40 ≤ l3 then True else (ok_X11_layOuts I1 l3 ∧ (ok_X11_wrongSeen (m_X11_layOuts I1 l3) ∧ ((if (f_X11_wrongSeen (m_X11_layOuts I1 l3)) = (-2) then oklp_X11_seekMakes_123 x1 (u0_X11_seekMakes x1 l2 l3 I1) l3 (mu_up 21 0 + 1) 0 (st2 (st2 (st2 (m_X11_layOuts I1 l3) 65 28 (((m_X11_layOuts I1 l3) 65 28) + 1)) 65 29 (((m_X11_layOuts I1 l3) 65 29) ||| (1 <<< ((l3 / 4) &&& 31)))) 65 30 (((m_X11_layOuts I1 l3) 65 30) ||| (1 <<< ((l3 - l3 / 4 * 4) &&& 31)))) else True) ∧ oklp_X11_seekMakes_40 x1 n (u1_X11_seekMakes x1 l2 l3 I1) (l3 + 1) (u2_X11_seekMakes x1 l2 l3 I1)))))
set_option maxHeartbeats 800000 in
set_option maxRecDepth 4000 in
theorem k_lp_X11_seekMakes_40 {k : KT} {ex : Bool} {J : Nat → Nat → Int64} {w : Bool} (x1 : Int32) {F : FinT} : ∀ (n : Nat) (l2 : Int32) (l3 : Int32) (I1 : (Nat → Nat → Int32)), mu_up 40 l3 < n → oklp_X11_seekMakes_40 x1 n l2 l3 I1 → G k mX11_seekMakes (roomOf 5 0 0) F 0 0 163 [some (.ref (ka k 65)), some (.int x1), some (.int ((lp_X11_seekMakes_40 x1 n l2 l3 I1).1)), some (.int ((lp_X11_seekMakes_40 x1 n l2 l3 I1).2.1)), none] [] (81, ex, (lp_X11_seekMakes_40 x1 n l2 l3 I1).2.2, J, Pw w) → G k mX11_seekMakes (roomOf 5 0 0) F 0 0 40 [some (.ref (ka k 65)), some (.int x1), some (.int l2), some (.int l3), none] [] (81, ex, I1, J, Pw w) := by
  intro n
  induction n with
  | zero => intro l2 l3 I1 hmu hok hj; exact absurd hmu (Nat.not_lt_zero _)
  | succ n ih =>
    intro l2 l3 I1 hmu hok hj
    rw [oklp_X11_seekMakes_40] at hok
    refine g_iload_n3 rfl d_X11_seekMakes_40 ?_
    refine g_bipush 40 d_X11_seekMakes_41 (by decide) ?_
    refine g_icmp_ge 163 d_X11_seekMakes_43 (by decide) (fun h3 => ?_) (fun h3 => ?_)
    · skip
      (try simp only [lp_X11_seekMakes_40, if_pos h3, opv_eq, if_true, if_false, Bool.false_eq_true, reduceCtorEq, b2i_t, b2i_f] at hj); exact hj
    · skip
      rw [if_neg h3] at hok
      refine g_aload_n0 rfl d_X11_seekMakes_46 ?_
      refine g_iload_n3 rfl d_X11_seekMakes_47 ?_
      obtain ⟨ho2, hok⟩ := hok
      refine g_callV0 (c_X11_layOuts I1 l3 ho2) w_X11_layOuts l_X11_345 d_X11_seekMakes_48 rfl (Nat.le_of_ble_eq_true rfl) rfl rfl (Nat.le_of_ble_eq_true rfl) ⟨Nat.le_of_ble_eq_true rfl, Nat.le_of_ble_eq_true rfl⟩ ⟨Nat.zero_le _, Nat.zero_le _⟩ ⟨rfl, rfl⟩ ?_
      refine g_aload_n0 rfl d_X11_seekMakes_51 ?_
      obtain ⟨ho3, hok⟩ := hok
      refine g_callV1 (c_X11_wrongSeen (m_X11_layOuts I1 l3)  ho3) w_X11_wrongSeen l_X11_348 d_X11_seekMakes_52 rfl (Nat.le_of_ble_eq_true rfl) rfl rfl (Nat.le_of_ble_eq_true rfl) ⟨Nat.le_of_ble_eq_true rfl, Nat.le_of_ble_eq_true rfl⟩ ⟨Nat.zero_le _, Nat.zero_le _⟩ ⟨rfl, rfl⟩ ?_
      refine g_bipush (-2) d_X11_seekMakes_55 (by decide) ?_
      obtain ⟨hoa, hob⟩ := hok
      refine g_cut (pc' := 157) (vs' := [some (.ref (ka k 65)), some (.int x1), some (.int (u1_X11_seekMakes x1 l2 l3 I1)), some (.int l3), none]) (st' := []) (M' := (81, ex, (u2_X11_seekMakes x1 l2 l3 I1), J, Pw w)) (fun hj => ?_) ?_
      · skip
        refine g_icmp_eq 63 d_X11_seekMakes_57 (by decide) (fun h4 => ?_) (fun h4 => ?_)
        · skip
          rw [if_pos h4] at hoa
          refine g_aload_n0 rfl d_X11_seekMakes_63 ?_
          refine g_getI f_X11_336 d_X11_seekMakes_64 rfl (Nat.le_of_ble_eq_true rfl) rfl ?_
          refine g_iload_n1 rfl d_X11_seekMakes_67 ?_
          refine g_cut (pc' := 82) (vs' := [some (.ref (ka k 65)), some (.int x1), some (.int (u0_X11_seekMakes x1 l2 l3 I1)), some (.int l3), none]) (st' := []) (M' := (81, ex, (m_X11_layOuts I1 l3), J, Pw w)) (fun hj => ?_) ?_
          · skip
            refine g_icmp_ne 82 d_X11_seekMakes_68 (by decide) (fun h5 => ?_) (fun h5 => ?_)
            · skip
              (try simp only [if_neg h5, opv_eq, if_true, if_false, Bool.false_eq_true, reduceCtorEq, b2i_t, b2i_f, u0_X11_seekMakes] at hj); exact hj
            · skip
              refine g_bipush 10 d_X11_seekMakes_71 (by decide) ?_
              refine g_iload_n3 rfl d_X11_seekMakes_73 ?_
              refine g_iconst 4 d_X11_seekMakes_74 (by decide) ?_
              refine g_idiv (by decide) d_X11_seekMakes_75 ?_
              refine g_imul d_X11_seekMakes_76 ?_
              refine g_iload_n3 rfl d_X11_seekMakes_77 ?_
              refine g_iconst 4 d_X11_seekMakes_78 (by decide) ?_
              refine g_irem (by decide) d_X11_seekMakes_79 ?_
              refine g_iadd d_X11_seekMakes_80 ?_
              refine g_isn2 rfl d_X11_seekMakes_81 ?_
              (try simp only [if_pos h5, opv_eq, if_true, if_false, Bool.false_eq_true, reduceCtorEq, b2i_t, b2i_f, u0_X11_seekMakes] at hj); exact hj
          · skip
            refine g_aload_n0 rfl d_X11_seekMakes_82 ?_
            refine g_dup rfl d_X11_seekMakes_83 ?_
            refine g_getI f_X11_336 d_X11_seekMakes_84 rfl (Nat.le_of_ble_eq_true rfl) rfl ?_
            refine g_iconst 1 d_X11_seekMakes_87 (by decide) ?_
            refine g_iadd d_X11_seekMakes_88 ?_
            refine g_putI f_X11_336 d_X11_seekMakes_89 rfl (Nat.le_of_ble_eq_true rfl) rfl rfl rfl ?_
            refine g_aload_n0 rfl d_X11_seekMakes_92 ?_
            refine g_dup rfl d_X11_seekMakes_93 ?_
            refine g_getIv ((m_X11_layOuts I1 l3) 65 29) (st2_o _ _ _ (by decide)) f_X11_339 d_X11_seekMakes_94 rfl (Nat.le_of_ble_eq_true rfl) rfl ?_
            refine g_iconst 1 d_X11_seekMakes_97 (by decide) ?_
            refine g_iload_n3 rfl d_X11_seekMakes_98 ?_
            refine g_iconst 4 d_X11_seekMakes_99 (by decide) ?_
            refine g_idiv (by decide) d_X11_seekMakes_100 ?_
            refine g_ishl d_X11_seekMakes_101 ?_
            refine g_ior d_X11_seekMakes_102 ?_
            refine g_putI f_X11_339 d_X11_seekMakes_103 rfl (Nat.le_of_ble_eq_true rfl) rfl rfl rfl ?_
            refine g_aload_n0 rfl d_X11_seekMakes_106 ?_
            refine g_dup rfl d_X11_seekMakes_107 ?_
            refine g_getIv ((m_X11_layOuts I1 l3) 65 30) ((st2_o _ _ _ (by decide)).trans (st2_o _ _ _ (by decide))) f_X11_342 d_X11_seekMakes_108 rfl (Nat.le_of_ble_eq_true rfl) rfl ?_
            refine g_iconst 1 d_X11_seekMakes_111 (by decide) ?_
            refine g_iload_n3 rfl d_X11_seekMakes_112 ?_
            refine g_iconst 4 d_X11_seekMakes_113 (by decide) ?_
            refine g_irem (by decide) d_X11_seekMakes_114 ?_
            refine g_ishl d_X11_seekMakes_115 ?_
            refine g_ior d_X11_seekMakes_116 ?_
            refine g_putI f_X11_342 d_X11_seekMakes_117 rfl (Nat.le_of_ble_eq_true rfl) rfl rfl rfl ?_
            refine g_iconst 0 d_X11_seekMakes_120 (by decide) ?_
            refine g_is4 rfl d_X11_seekMakes_121 ?_
            refine k_lp_X11_seekMakes_123 x1 (u0_X11_seekMakes x1 l2 l3 I1) l3 _ 0 (st2 (st2 (st2 (m_X11_layOuts I1 l3) 65 28 (((m_X11_layOuts I1 l3) 65 28) + 1)) 65 29 (((m_X11_layOuts I1 l3) 65 29) ||| (1 <<< ((l3 / 4) &&& 31)))) 65 30 (((m_X11_layOuts I1 l3) 65 30) ||| (1 <<< ((l3 - l3 / 4 * 4) &&& 31)))) (Nat.lt_succ_self _) hoa ?_
            refine G.weak (wks (wks (wks (wks (wkn wk0))))) ?_; (try simp only [if_pos h4, opv_eq, if_true, if_false, Bool.false_eq_true, reduceCtorEq, b2i_t, b2i_f, u1_X11_seekMakes, u2_X11_seekMakes] at hj); exact hj
        · skip
          refine g_goto 157 d_X11_seekMakes_60 (by decide) ?_
          (try simp only [if_neg h4, opv_eq, if_true, if_false, Bool.false_eq_true, reduceCtorEq, b2i_t, b2i_f, u1_X11_seekMakes, u2_X11_seekMakes] at hj); exact hj
      · skip
        refine g_ic3 (l3 + 1) rfl rfl d_X11_seekMakes_157 ?_
        refine g_goto 40 d_X11_seekMakes_160 (by decide) ?_
        exact ih (u1_X11_seekMakes x1 l2 l3 I1) (l3 + 1) (u2_X11_seekMakes x1 l2 l3 I1) (Nat.lt_of_lt_of_le (mu_up_lt h3) (Nat.le_of_lt_succ hmu)) (by (try simp only [if_neg h3, opv_eq, if_true, if_false, Bool.false_eq_true, reduceCtorEq, b2i_t, b2i_f] at hob); exact hob) (by (try simp only [lp_X11_seekMakes_40, if_neg h3, opv_eq, if_true, if_false, Bool.false_eq_true, reduceCtorEq, b2i_t, b2i_f] at hj); exact hj)
noncomputable def f_X11_seekMakes (I : Nat → Nat → Int32) (x1 : Int32) : Int32 := opv ((lp_X11_seekMakes_40 x1 (mu_up 40 0 + 1) (-1) 0 ((lp_X11_seekMakes_19 x1 (mu_up 84 0 + 1) 0 (st2 (st2 (st2 I 65 28 0) 65 29 0) 65 30 0)).2)).1)
noncomputable def m_X11_seekMakes (I : Nat → Nat → Int32) (x1 : Int32) : Nat → Nat → Int32 := opv ((lp_X11_seekMakes_40 x1 (mu_up 40 0 + 1) (-1) 0 ((lp_X11_seekMakes_19 x1 (mu_up 84 0 + 1) 0 (st2 (st2 (st2 I 65 28 0) 65 29 0) 65 30 0)).2)).2.2)
noncomputable def ok_X11_seekMakes (I : Nat → Nat → Int32) (x1 : Int32) : Prop := opv (oklp_X11_seekMakes_19 x1 (mu_up 84 0 + 1) 0 (st2 (st2 (st2 I 65 28 0) 65 29 0) 65 30 0) ∧ oklp_X11_seekMakes_40 x1 (mu_up 40 0 + 1) (-1) 0 ((lp_X11_seekMakes_19 x1 (mu_up 84 0 + 1) 0 (st2 (st2 (st2 I 65 28 0) 65 29 0) 65 30 0)).2))
set_option maxHeartbeats 800000 in
set_option maxRecDepth 4000 in
theorem c_X11_seekMakes {k : KT} {ex : Bool} {J : Nat → Nat → Int64} {w : Bool} (I : Nat → Nat → Int32) (x1 : Int32)  (hok : ok_X11_seekMakes I x1) : Cx k mX11_seekMakes 5 [.ref (ka k 65), .int x1] (81, ex, I, J, Pw w) (some (.int (f_X11_seekMakes I x1))) (81, ex, m_X11_seekMakes I x1, J, Pw w) := by
  refine Ct.of rfl [some (.ref (ka k 65)), some (.int x1), none, none, none] rfl rfl (Nat.le_of_ble_eq_true rfl) ?_
  rw [ok_X11_seekMakes, opv_eq] at hok
  refine g_iconst (-1) d_X11_seekMakes_0 (by decide) ?_
  refine g_isn2 rfl d_X11_seekMakes_1 ?_
  refine g_aload_n0 rfl d_X11_seekMakes_2 ?_
  refine g_iconst 0 d_X11_seekMakes_3 (by decide) ?_
  refine g_putI f_X11_336 d_X11_seekMakes_4 rfl (Nat.le_of_ble_eq_true rfl) rfl rfl rfl ?_
  refine g_aload_n0 rfl d_X11_seekMakes_7 ?_
  refine g_iconst 0 d_X11_seekMakes_8 (by decide) ?_
  refine g_putI f_X11_339 d_X11_seekMakes_9 rfl (Nat.le_of_ble_eq_true rfl) rfl rfl rfl ?_
  refine g_aload_n0 rfl d_X11_seekMakes_12 ?_
  refine g_iconst 0 d_X11_seekMakes_13 (by decide) ?_
  refine g_putI f_X11_342 d_X11_seekMakes_14 rfl (Nat.le_of_ble_eq_true rfl) rfl rfl rfl ?_
  refine g_iconst 0 d_X11_seekMakes_17 (by decide) ?_
  refine g_isn3 rfl d_X11_seekMakes_18 ?_
  obtain ⟨hol, hok⟩ := hok
  refine k_lp_X11_seekMakes_19 x1 _ 0 (st2 (st2 (st2 I 65 28 0) 65 29 0) 65 30 0) (Nat.lt_succ_self _) hol ?_
  refine g_iconst 0 d_X11_seekMakes_38 (by decide) ?_
  refine g_isn3 rfl d_X11_seekMakes_39 ?_
  refine k_lp_X11_seekMakes_40 x1 _ (-1) 0 ((lp_X11_seekMakes_19 x1 (mu_up 84 0 + 1) 0 (st2 (st2 (st2 I 65 28 0) 65 29 0) 65 30 0)).2) (Nat.lt_succ_self _) hok ?_
  refine g_iload_n2 rfl d_X11_seekMakes_163 ?_
  exact g_iret rfl d_X11_seekMakes_164 ⟨by simp only [f_X11_seekMakes, m_X11_seekMakes, opv_eq, if_true, if_false, Bool.false_eq_true, reduceCtorEq, b2i_t, b2i_f], by simp only [f_X11_seekMakes, m_X11_seekMakes, opv_eq, if_true, if_false, Bool.false_eq_true, reduceCtorEq, b2i_t, b2i_f]⟩ (Nat.le_refl _) (Nat.le_refl _)
noncomputable def f_X11_makes (I : Nat → Nat → Int32)  : Int32 := opv (if ((m_X11_good I) 65 14) = 0 then f_X11_no (m_X11_good I) 1 else (m_X11_seekMakes (m_X11_good I) (-1)) 65 28)
noncomputable def m_X11_makes (I : Nat → Nat → Int32)  : Nat → Nat → Int32 := opv (if ((m_X11_good I) 65 14) = 0 then (m_X11_no (m_X11_good I) 1) else (m_X11_seekMakes (m_X11_good I) (-1)))
noncomputable def ok_X11_makes (I : Nat → Nat → Int32)  : Prop := opv (if ((m_X11_good I) 65 14) = 0 then True else ok_X11_seekMakes (m_X11_good I) (-1))
set_option maxHeartbeats 800000 in
set_option maxRecDepth 4000 in
theorem c_X11_makes {k : KT} {ex : Bool} {J : Nat → Nat → Int64} {w : Bool} (I : Nat → Nat → Int32)   (hok : ok_X11_makes I) : Cx k mX11_makes 6 [.ref (ka k 65)] (81, ex, I, J, Pw w) (some (.int (f_X11_makes I))) (81, ex, m_X11_makes I, J, Pw w) := by
  refine Ct.of rfl [some (.ref (ka k 65))] rfl rfl (Nat.le_of_ble_eq_true rfl) ?_
  rw [ok_X11_makes, opv_eq] at hok
  refine g_aload_n0 rfl d_X11_makes_0 ?_
  refine g_callV0 (c_X11_good I ) w_X11_good l_X11_168 d_X11_makes_1 rfl (Nat.le_of_ble_eq_true rfl) rfl rfl (Nat.le_of_ble_eq_true rfl) ⟨Nat.le_of_ble_eq_true rfl, Nat.le_of_ble_eq_true rfl⟩ ⟨Nat.zero_le _, Nat.zero_le _⟩ ⟨rfl, rfl⟩ ?_
  refine g_aload_n0 rfl d_X11_makes_4 ?_
  refine g_getI f_X11_185 d_X11_makes_5 rfl (Nat.le_of_ble_eq_true rfl) rfl ?_
  refine g_if_ne 17 d_X11_makes_8 (by decide) (fun h1 => ?_) (fun h1 => ?_)
  · skip
    rw [if_neg h1] at hok
    refine g_aload_n0 rfl d_X11_makes_17 ?_
    refine g_iconst (-1) d_X11_makes_18 (by decide) ?_
    have ho1 := hok
    refine g_callV1 (c_X11_seekMakes (m_X11_good I) (-1) ho1) w_X11_seekMakes l_X11_351 d_X11_makes_19 rfl (Nat.le_of_ble_eq_true rfl) rfl rfl (Nat.le_of_ble_eq_true rfl) ⟨Nat.le_of_ble_eq_true rfl, Nat.le_of_ble_eq_true rfl⟩ ⟨Nat.zero_le _, Nat.zero_le _⟩ ⟨rfl, rfl⟩ ?_
    refine g_pop rfl d_X11_makes_22 ?_
    refine g_aload_n0 rfl d_X11_makes_23 ?_
    refine g_getI f_X11_336 d_X11_makes_24 rfl (Nat.le_of_ble_eq_true rfl) rfl ?_
    exact g_iret rfl d_X11_makes_27 ⟨by simp only [f_X11_makes, m_X11_makes, if_neg h1, opv_eq, if_true, if_false, Bool.false_eq_true, reduceCtorEq, b2i_t, b2i_f], by simp only [f_X11_makes, m_X11_makes, if_neg h1, opv_eq, if_true, if_false, Bool.false_eq_true, reduceCtorEq, b2i_t, b2i_f]⟩ (Nat.le_refl _) (Nat.le_refl _)
  · skip
    refine g_aload_n0 rfl d_X11_makes_11 ?_
    refine g_iconst 1 d_X11_makes_12 (by decide) ?_
    refine g_callV1 (c_X11_no (m_X11_good I) 1) w_X11_no l_X11_171 d_X11_makes_13 rfl (Nat.le_of_ble_eq_true rfl) rfl rfl (Nat.le_of_ble_eq_true rfl) ⟨Nat.le_of_ble_eq_true rfl, Nat.le_of_ble_eq_true rfl⟩ ⟨Nat.zero_le _, Nat.zero_le _⟩ ⟨rfl, rfl⟩ ?_
    exact g_iret rfl d_X11_makes_16 ⟨by simp only [f_X11_makes, m_X11_makes, if_pos h1, opv_eq, if_true, if_false, Bool.false_eq_true, reduceCtorEq, b2i_t, b2i_f], by simp only [f_X11_makes, m_X11_makes, if_pos h1, opv_eq, if_true, if_false, Bool.false_eq_true, reduceCtorEq, b2i_t, b2i_f]⟩ (Nat.le_refl _) (Nat.le_refl _)
noncomputable def u0_X11_makeAt (I : Nat → Nat → Int32) (x1 : Int32) : Int32 := opv (if 0 ≤ (f_X11_seekMakes (m_X11_good I) x1) then f_X11_seekMakes (m_X11_good I) x1 else f_X11_no (m_X11_seekMakes (m_X11_good I) x1) 1)
noncomputable def u1_X11_makeAt (I : Nat → Nat → Int32) (x1 : Int32) : Nat → Nat → Int32 := opv (if 0 ≤ (f_X11_seekMakes (m_X11_good I) x1) then (m_X11_seekMakes (m_X11_good I) x1) else (m_X11_no (m_X11_seekMakes (m_X11_good I) x1) 1))
noncomputable def f_X11_makeAt (I : Nat → Nat → Int32) (x1 : Int32) : Int32 := opv (if ((m_X11_good I) 65 14) = 0 then f_X11_no (m_X11_good I) 1 else (if 0 ≤ x1 then (u0_X11_makeAt I x1) else f_X11_no (m_X11_good I) 1))
noncomputable def m_X11_makeAt (I : Nat → Nat → Int32) (x1 : Int32) : Nat → Nat → Int32 := opv (if ((m_X11_good I) 65 14) = 0 then (m_X11_no (m_X11_good I) 1) else (if 0 ≤ x1 then (u1_X11_makeAt I x1) else (m_X11_no (m_X11_good I) 1)))
noncomputable def ok_X11_makeAt (I : Nat → Nat → Int32) (x1 : Int32) : Prop := opv (if ((m_X11_good I) 65 14) = 0 then True else (if 0 ≤ x1 then ok_X11_seekMakes (m_X11_good I) x1 else True))
set_option maxHeartbeats 800000 in
set_option maxRecDepth 4000 in
theorem c_X11_makeAt {k : KT} {ex : Bool} {J : Nat → Nat → Int64} {w : Bool} (I : Nat → Nat → Int32) (x1 : Int32)  (hok : ok_X11_makeAt I x1) : Cx k mX11_makeAt 6 [.ref (ka k 65), .int x1] (81, ex, I, J, Pw w) (some (.int (f_X11_makeAt I x1))) (81, ex, m_X11_makeAt I x1, J, Pw w) := by
  refine Ct.of rfl [some (.ref (ka k 65)), some (.int x1), none] rfl rfl (Nat.le_of_ble_eq_true rfl) ?_
  rw [ok_X11_makeAt, opv_eq] at hok
  refine g_aload_n0 rfl d_X11_makeAt_0 ?_
  refine g_callV0 (c_X11_good I ) w_X11_good l_X11_168 d_X11_makeAt_1 rfl (Nat.le_of_ble_eq_true rfl) rfl rfl (Nat.le_of_ble_eq_true rfl) ⟨Nat.le_of_ble_eq_true rfl, Nat.le_of_ble_eq_true rfl⟩ ⟨Nat.zero_le _, Nat.zero_le _⟩ ⟨rfl, rfl⟩ ?_
  refine g_aload_n0 rfl d_X11_makeAt_4 ?_
  refine g_getI f_X11_185 d_X11_makeAt_5 rfl (Nat.le_of_ble_eq_true rfl) rfl ?_
  refine g_if_eq 15 d_X11_makeAt_8 (by decide) (fun h1 => ?_) (fun h1 => ?_)
  · skip
    refine g_aload_n0 rfl d_X11_makeAt_15 ?_
    refine g_iconst 1 d_X11_makeAt_16 (by decide) ?_
    refine g_callV1 (c_X11_no (m_X11_good I) 1) w_X11_no l_X11_171 d_X11_makeAt_17 rfl (Nat.le_of_ble_eq_true rfl) rfl rfl (Nat.le_of_ble_eq_true rfl) ⟨Nat.le_of_ble_eq_true rfl, Nat.le_of_ble_eq_true rfl⟩ ⟨Nat.zero_le _, Nat.zero_le _⟩ ⟨rfl, rfl⟩ ?_
    exact g_iret rfl d_X11_makeAt_20 ⟨by simp only [f_X11_makeAt, m_X11_makeAt, if_pos h1, opv_eq, if_true, if_false, Bool.false_eq_true, reduceCtorEq, b2i_t, b2i_f], by simp only [f_X11_makeAt, m_X11_makeAt, if_pos h1, opv_eq, if_true, if_false, Bool.false_eq_true, reduceCtorEq, b2i_t, b2i_f]⟩ (Nat.le_refl _) (Nat.le_refl _)
  · skip
    rw [if_neg h1] at hok
    refine g_iload_n1 rfl d_X11_makeAt_11 ?_
    refine g_if_ge 21 d_X11_makeAt_12 (by decide) (fun h2 => ?_) (fun h2 => ?_)
    · skip
      rw [if_pos h2] at hok
      refine g_aload_n0 rfl d_X11_makeAt_21 ?_
      refine g_iload_n1 rfl d_X11_makeAt_22 ?_
      have ho1 := hok
      refine g_callV1 (c_X11_seekMakes (m_X11_good I) x1 ho1) w_X11_seekMakes l_X11_351 d_X11_makeAt_23 rfl (Nat.le_of_ble_eq_true rfl) rfl rfl (Nat.le_of_ble_eq_true rfl) ⟨Nat.le_of_ble_eq_true rfl, Nat.le_of_ble_eq_true rfl⟩ ⟨Nat.zero_le _, Nat.zero_le _⟩ ⟨rfl, rfl⟩ ?_
      refine g_isn2 rfl d_X11_makeAt_26 ?_
      refine g_iload_n2 rfl d_X11_makeAt_27 ?_
      refine g_cut (pc' := 40) (vs' := [some (.ref (ka k 65)), some (.int x1), some (.int (f_X11_seekMakes (m_X11_good I) x1))]) (st' := [.int (u0_X11_makeAt I x1)]) (M' := (81, ex, (u1_X11_makeAt I x1), J, Pw w)) (fun hj => ?_) ?_
      · skip
        refine g_if_ge 39 d_X11_makeAt_28 (by decide) (fun h3 => ?_) (fun h3 => ?_)
        · skip
          refine g_iload_n2 rfl d_X11_makeAt_39 ?_
          (try simp only [if_pos h3, opv_eq, if_true, if_false, Bool.false_eq_true, reduceCtorEq, b2i_t, b2i_f, u0_X11_makeAt, u1_X11_makeAt] at hj); exact hj
        · skip
          refine g_aload_n0 rfl d_X11_makeAt_31 ?_
          refine g_iconst 1 d_X11_makeAt_32 (by decide) ?_
          refine g_callV1 (c_X11_no (m_X11_seekMakes (m_X11_good I) x1) 1) w_X11_no l_X11_171 d_X11_makeAt_33 rfl (Nat.le_of_ble_eq_true rfl) rfl rfl (Nat.le_of_ble_eq_true rfl) ⟨Nat.le_of_ble_eq_true rfl, Nat.le_of_ble_eq_true rfl⟩ ⟨Nat.zero_le _, Nat.zero_le _⟩ ⟨rfl, rfl⟩ ?_
          refine g_goto 40 d_X11_makeAt_36 (by decide) ?_
          (try simp only [if_neg h3, opv_eq, if_true, if_false, Bool.false_eq_true, reduceCtorEq, b2i_t, b2i_f, u0_X11_makeAt, u1_X11_makeAt] at hj); exact hj
      · skip
        exact g_iret rfl d_X11_makeAt_40 ⟨by simp only [f_X11_makeAt, m_X11_makeAt, if_neg h1, if_pos h2, opv_eq, if_true, if_false, Bool.false_eq_true, reduceCtorEq, b2i_t, b2i_f], by simp only [f_X11_makeAt, m_X11_makeAt, if_neg h1, if_pos h2, opv_eq, if_true, if_false, Bool.false_eq_true, reduceCtorEq, b2i_t, b2i_f]⟩ (Nat.le_refl _) (Nat.le_refl _)
    · skip
      refine g_aload_n0 rfl d_X11_makeAt_15 ?_
      refine g_iconst 1 d_X11_makeAt_16 (by decide) ?_
      refine g_callV1 (c_X11_no (m_X11_good I) 1) w_X11_no l_X11_171 d_X11_makeAt_17 rfl (Nat.le_of_ble_eq_true rfl) rfl rfl (Nat.le_of_ble_eq_true rfl) ⟨Nat.le_of_ble_eq_true rfl, Nat.le_of_ble_eq_true rfl⟩ ⟨Nat.zero_le _, Nat.zero_le _⟩ ⟨rfl, rfl⟩ ?_
      exact g_iret rfl d_X11_makeAt_20 ⟨by simp only [f_X11_makeAt, m_X11_makeAt, if_neg h1, if_neg h2, opv_eq, if_true, if_false, Bool.false_eq_true, reduceCtorEq, b2i_t, b2i_f], by simp only [f_X11_makeAt, m_X11_makeAt, if_neg h1, if_neg h2, opv_eq, if_true, if_false, Bool.false_eq_true, reduceCtorEq, b2i_t, b2i_f]⟩ (Nat.le_refl _) (Nat.le_refl _)
noncomputable def u0_X11_could (I : Nat → Nat → Int32) (x1 : Bool) : Int32 := opv (if x1 = true then (m_X11_seekMakes (m_X11_good I) (-1)) 65 30 else (m_X11_seekMakes (m_X11_good I) (-1)) 65 29)
noncomputable def f_X11_could (I : Nat → Nat → Int32) (x1 : Bool) : Int32 := opv (if ((m_X11_good I) 65 14) = 0 then f_X11_no (m_X11_good I) 1 else (u0_X11_could I x1))
noncomputable def m_X11_could (I : Nat → Nat → Int32) (x1 : Bool) : Nat → Nat → Int32 := opv (if ((m_X11_good I) 65 14) = 0 then (m_X11_no (m_X11_good I) 1) else (m_X11_seekMakes (m_X11_good I) (-1)))
noncomputable def ok_X11_could (I : Nat → Nat → Int32) (x1 : Bool) : Prop := opv (if ((m_X11_good I) 65 14) = 0 then True else ok_X11_seekMakes (m_X11_good I) (-1))
set_option maxHeartbeats 800000 in
set_option maxRecDepth 4000 in
theorem c_X11_could {k : KT} {ex : Bool} {J : Nat → Nat → Int64} {w : Bool} (I : Nat → Nat → Int32) (x1 : Bool)  (hok : ok_X11_could I x1) : Cx k mX11_could 6 [.ref (ka k 65), .int (b2i x1)] (81, ex, I, J, Pw w) (some (.int (f_X11_could I x1))) (81, ex, m_X11_could I x1, J, Pw w) := by
  refine Ct.of rfl [some (.ref (ka k 65)), some (.int (b2i x1))] rfl rfl (Nat.le_of_ble_eq_true rfl) ?_
  rw [ok_X11_could, opv_eq] at hok
  refine g_aload_n0 rfl d_X11_could_0 ?_
  refine g_callV0 (c_X11_good I ) w_X11_good l_X11_168 d_X11_could_1 rfl (Nat.le_of_ble_eq_true rfl) rfl rfl (Nat.le_of_ble_eq_true rfl) ⟨Nat.le_of_ble_eq_true rfl, Nat.le_of_ble_eq_true rfl⟩ ⟨Nat.zero_le _, Nat.zero_le _⟩ ⟨rfl, rfl⟩ ?_
  refine g_aload_n0 rfl d_X11_could_4 ?_
  refine g_getI f_X11_185 d_X11_could_5 rfl (Nat.le_of_ble_eq_true rfl) rfl ?_
  refine g_if_ne 17 d_X11_could_8 (by decide) (fun h1 => ?_) (fun h1 => ?_)
  · skip
    rw [if_neg h1] at hok
    refine g_aload_n0 rfl d_X11_could_17 ?_
    refine g_iconst (-1) d_X11_could_18 (by decide) ?_
    have ho1 := hok
    refine g_callV1 (c_X11_seekMakes (m_X11_good I) (-1) ho1) w_X11_seekMakes l_X11_351 d_X11_could_19 rfl (Nat.le_of_ble_eq_true rfl) rfl rfl (Nat.le_of_ble_eq_true rfl) ⟨Nat.le_of_ble_eq_true rfl, Nat.le_of_ble_eq_true rfl⟩ ⟨Nat.zero_le _, Nat.zero_le _⟩ ⟨rfl, rfl⟩ ?_
    refine g_pop rfl d_X11_could_22 ?_
    refine g_iload_n1 rfl d_X11_could_23 ?_
    refine g_cut (pc' := 38) (vs' := [some (.ref (ka k 65)), some (.int (b2i x1))]) (st' := [.int (u0_X11_could I x1)]) (M' := (81, ex, (m_X11_seekMakes (m_X11_good I) (-1)), J, Pw w)) (fun hj => ?_) ?_
    · skip
      refine g_ifz 34 d_X11_could_24 (by decide) (fun h2 => ?_) (fun h2 => ?_)
      · skip
        refine g_aload_n0 rfl d_X11_could_34 ?_
        refine g_getI f_X11_339 d_X11_could_35 rfl (Nat.le_of_ble_eq_true rfl) rfl ?_
        (try simp only [if_neg (nb h2), opv_eq, if_true, if_false, Bool.false_eq_true, reduceCtorEq, b2i_t, b2i_f, u0_X11_could] at hj); exact hj
      · skip
        refine g_aload_n0 rfl d_X11_could_27 ?_
        refine g_getI f_X11_342 d_X11_could_28 rfl (Nat.le_of_ble_eq_true rfl) rfl ?_
        refine g_goto 38 d_X11_could_31 (by decide) ?_
        (try simp only [if_pos h2, opv_eq, if_true, if_false, Bool.false_eq_true, reduceCtorEq, b2i_t, b2i_f, u0_X11_could] at hj); exact hj
    · skip
      exact g_iret rfl d_X11_could_38 ⟨by simp only [f_X11_could, m_X11_could, if_neg h1, opv_eq, if_true, if_false, Bool.false_eq_true, reduceCtorEq, b2i_t, b2i_f], by simp only [f_X11_could, m_X11_could, if_neg h1, opv_eq, if_true, if_false, Bool.false_eq_true, reduceCtorEq, b2i_t, b2i_f]⟩ (Nat.le_refl _) (Nat.le_refl _)
  · skip
    refine g_aload_n0 rfl d_X11_could_11 ?_
    refine g_iconst 1 d_X11_could_12 (by decide) ?_
    refine g_callV1 (c_X11_no (m_X11_good I) 1) w_X11_no l_X11_171 d_X11_could_13 rfl (Nat.le_of_ble_eq_true rfl) rfl rfl (Nat.le_of_ble_eq_true rfl) ⟨Nat.le_of_ble_eq_true rfl, Nat.le_of_ble_eq_true rfl⟩ ⟨Nat.zero_le _, Nat.zero_le _⟩ ⟨rfl, rfl⟩ ?_
    exact g_iret rfl d_X11_could_16 ⟨by simp only [f_X11_could, m_X11_could, if_pos h1, opv_eq, if_true, if_false, Bool.false_eq_true, reduceCtorEq, b2i_t, b2i_f], by simp only [f_X11_could, m_X11_could, if_pos h1, opv_eq, if_true, if_false, Bool.false_eq_true, reduceCtorEq, b2i_t, b2i_f]⟩ (Nat.le_refl _) (Nat.le_refl _)
noncomputable def lp_X11_surely_25 (I1 : Nat → Nat → Int32) (x1 : Bool) : Nat → Int32 → Int32 × (Nat → Nat → Int32)
  | 0, l2 => (0, I1)
  | n + 1, l2 => (if 10 ≤ l2 then ((-2), I1) else (if (if x1 = true then I1 65 30 else I1 65 29) = (1 <<< (l2 &&& 31)) then (l2, I1) else (lp_X11_surely_25 I1 x1 n (l2 + 1))))
set_option maxHeartbeats 800000 in
set_option maxRecDepth 4000 in
theorem k_lp_X11_surely_25 {k : KT} {ex : Bool} {J : Nat → Nat → Int64} {w : Bool} (I1 : Nat → Nat → Int32) (x1 : Bool) {Q : Option Value → MM → Prop} : ∀ (n : Nat) (l2 : Int32), mu_up 10 l2 < n → Q (some (.int (lp_X11_surely_25 I1 x1 n l2).1)) (81, ex, (lp_X11_surely_25 I1 x1 n l2).2, J, Pw w) → G k mX11_surely (roomOf 6 0 0) (FinM k Q 0 0) 0 0 25 [some (.ref (ka k 65)), some (.int (b2i x1)), some (.int l2)] [] (81, ex, I1, J, Pw w) := by
  intro n
  induction n with
  | zero => intro l2 hmu hq; exact absurd hmu (Nat.not_lt_zero _)
  | succ n ih =>
    intro l2 hmu hq
    refine g_iload_n2 rfl d_X11_surely_25 ?_
    refine g_bipush 10 d_X11_surely_26 (by decide) ?_
    refine g_icmp_ge 60 d_X11_surely_28 (by decide) (fun h1 => ?_) (fun h1 => ?_)
    · skip
      refine g_bipush (-2) d_X11_surely_60 (by decide) ?_
      exact g_iret rfl d_X11_surely_62 (by (try simp only [lp_X11_surely_25, if_pos h1, opv_eq, if_true, if_false, Bool.false_eq_true, reduceCtorEq, b2i_t, b2i_f] at hq); exact hq) (Nat.le_refl _) (Nat.le_refl _)
    · skip
      refine g_iload_n1 rfl d_X11_surely_31 ?_
      refine g_cut (pc' := 46) (vs' := [some (.ref (ka k 65)), some (.int (b2i x1)), some (.int l2)]) (st' := [.int (if x1 = true then I1 65 30 else I1 65 29)]) (M' := (81, ex, I1, J, Pw w)) (fun hj => ?_) ?_
      · skip
        refine g_ifz 42 d_X11_surely_32 (by decide) (fun h2 => ?_) (fun h2 => ?_)
        · skip
          refine g_aload_n0 rfl d_X11_surely_42 ?_
          refine g_getI f_X11_339 d_X11_surely_43 rfl (Nat.le_of_ble_eq_true rfl) rfl ?_
          (try simp only [if_neg (nb h2), opv_eq, if_true, if_false, Bool.false_eq_true, reduceCtorEq, b2i_t, b2i_f] at hj); exact hj
        · skip
          refine g_aload_n0 rfl d_X11_surely_35 ?_
          refine g_getI f_X11_342 d_X11_surely_36 rfl (Nat.le_of_ble_eq_true rfl) rfl ?_
          refine g_goto 46 d_X11_surely_39 (by decide) ?_
          (try simp only [if_pos h2, opv_eq, if_true, if_false, Bool.false_eq_true, reduceCtorEq, b2i_t, b2i_f] at hj); exact hj
      · skip
        refine g_iconst 1 d_X11_surely_46 (by decide) ?_
        refine g_iload_n2 rfl d_X11_surely_47 ?_
        refine g_ishl d_X11_surely_48 ?_
        refine g_icmp_ne 54 d_X11_surely_49 (by decide) (fun h3 => ?_) (fun h3 => ?_)
        · skip
          refine g_ic2 (l2 + 1) rfl rfl d_X11_surely_54 ?_
          refine g_goto 25 d_X11_surely_57 (by decide) ?_
          exact ih (l2 + 1) (Nat.lt_of_lt_of_le (mu_up_lt h1) (Nat.le_of_lt_succ hmu)) (by (try simp only [lp_X11_surely_25, if_neg h1, if_neg h3, opv_eq, if_true, if_false, Bool.false_eq_true, reduceCtorEq, b2i_t, b2i_f] at hq); exact hq)
        · skip
          refine g_iload_n2 rfl d_X11_surely_52 ?_
          exact g_iret rfl d_X11_surely_53 (by (try simp only [lp_X11_surely_25, if_neg h1, if_pos h3, opv_eq, if_true, if_false, Bool.false_eq_true, reduceCtorEq, b2i_t, b2i_f] at hq); exact hq) (Nat.le_refl _) (Nat.le_refl _)
noncomputable def f_X11_surely (I : Nat → Nat → Int32) (x1 : Bool) : Int32 := opv (if ((m_X11_good I) 65 14) = 0 then f_X11_no (m_X11_good I) 1 else (lp_X11_surely_25 (m_X11_seekMakes (m_X11_good I) (-1)) x1 (mu_up 10 0 + 1) 0).1)
noncomputable def m_X11_surely (I : Nat → Nat → Int32) (x1 : Bool) : Nat → Nat → Int32 := opv (if ((m_X11_good I) 65 14) = 0 then (m_X11_no (m_X11_good I) 1) else (lp_X11_surely_25 (m_X11_seekMakes (m_X11_good I) (-1)) x1 (mu_up 10 0 + 1) 0).2)
noncomputable def ok_X11_surely (I : Nat → Nat → Int32) (x1 : Bool) : Prop := opv (if ((m_X11_good I) 65 14) = 0 then True else ok_X11_seekMakes (m_X11_good I) (-1))
set_option maxHeartbeats 800000 in
set_option maxRecDepth 4000 in
theorem c_X11_surely {k : KT} {ex : Bool} {J : Nat → Nat → Int64} {w : Bool} (I : Nat → Nat → Int32) (x1 : Bool)  (hok : ok_X11_surely I x1) : Cx k mX11_surely 6 [.ref (ka k 65), .int (b2i x1)] (81, ex, I, J, Pw w) (some (.int (f_X11_surely I x1))) (81, ex, m_X11_surely I x1, J, Pw w) := by
  refine Ct.of rfl [some (.ref (ka k 65)), some (.int (b2i x1)), none] rfl rfl (Nat.le_of_ble_eq_true rfl) ?_
  rw [ok_X11_surely, opv_eq] at hok
  refine g_aload_n0 rfl d_X11_surely_0 ?_
  refine g_callV0 (c_X11_good I ) w_X11_good l_X11_168 d_X11_surely_1 rfl (Nat.le_of_ble_eq_true rfl) rfl rfl (Nat.le_of_ble_eq_true rfl) ⟨Nat.le_of_ble_eq_true rfl, Nat.le_of_ble_eq_true rfl⟩ ⟨Nat.zero_le _, Nat.zero_le _⟩ ⟨rfl, rfl⟩ ?_
  refine g_aload_n0 rfl d_X11_surely_4 ?_
  refine g_getI f_X11_185 d_X11_surely_5 rfl (Nat.le_of_ble_eq_true rfl) rfl ?_
  refine g_if_ne 17 d_X11_surely_8 (by decide) (fun h4 => ?_) (fun h4 => ?_)
  · skip
    rw [if_neg h4] at hok
    refine g_aload_n0 rfl d_X11_surely_17 ?_
    refine g_iconst (-1) d_X11_surely_18 (by decide) ?_
    have ho1 := hok
    refine g_callV1 (c_X11_seekMakes (m_X11_good I) (-1) ho1) w_X11_seekMakes l_X11_351 d_X11_surely_19 rfl (Nat.le_of_ble_eq_true rfl) rfl rfl (Nat.le_of_ble_eq_true rfl) ⟨Nat.le_of_ble_eq_true rfl, Nat.le_of_ble_eq_true rfl⟩ ⟨Nat.zero_le _, Nat.zero_le _⟩ ⟨rfl, rfl⟩ ?_
    refine g_pop rfl d_X11_surely_22 ?_
    refine g_iconst 0 d_X11_surely_23 (by decide) ?_
    refine g_isn2 rfl d_X11_surely_24 ?_
    exact k_lp_X11_surely_25 (m_X11_seekMakes (m_X11_good I) (-1)) x1 _ 0 (Nat.lt_succ_self _) ⟨by simp only [f_X11_surely, m_X11_surely, if_neg h4, opv_eq, if_true, if_false, Bool.false_eq_true, reduceCtorEq, b2i_t, b2i_f], by simp only [f_X11_surely, m_X11_surely, if_neg h4, opv_eq, if_true, if_false, Bool.false_eq_true, reduceCtorEq, b2i_t, b2i_f]⟩
  · skip
    refine g_aload_n0 rfl d_X11_surely_11 ?_
    refine g_iconst 1 d_X11_surely_12 (by decide) ?_
    refine g_callV1 (c_X11_no (m_X11_good I) 1) w_X11_no l_X11_171 d_X11_surely_13 rfl (Nat.le_of_ble_eq_true rfl) rfl rfl (Nat.le_of_ble_eq_true rfl) ⟨Nat.le_of_ble_eq_true rfl, Nat.le_of_ble_eq_true rfl⟩ ⟨Nat.zero_le _, Nat.zero_le _⟩ ⟨rfl, rfl⟩ ?_
    exact g_iret rfl d_X11_surely_16 ⟨by simp only [f_X11_surely, m_X11_surely, if_pos h4, opv_eq, if_true, if_false, Bool.false_eq_true, reduceCtorEq, b2i_t, b2i_f], by simp only [f_X11_surely, m_X11_surely, if_pos h4, opv_eq, if_true, if_false, Bool.false_eq_true, reduceCtorEq, b2i_t, b2i_f]⟩ (Nat.le_refl _) (Nat.le_refl _)
noncomputable def u0_X11_lookOf (I1 : Nat → Nat → Int32) (l2 : Int32) (l3 : Int32) (l4 : Int32) : Int32 := opv (if (I1 76 ((4 * l2) + l4).toNatClampNeg) ≤ l3 then l3 else I1 76 ((4 * l2) + l4).toNatClampNeg)
noncomputable def lp_X11_lookOf_35 (I1 : Nat → Nat → Int32) (l1 : Int32) (l2 : Int32) : Nat → Int32 → Int32 → Int32 × Int32
  | 0, l3, l4 => (l3, l4)
  | n + 1, l3, l4 => (if 4 ≤ l4 then (l3, l4) else (lp_X11_lookOf_35 I1 l1 l2 n (u0_X11_lookOf I1 l2 l3 l4) (l4 + 1)))
def oklp_X11_lookOf_35 (I1 : Nat → Nat → Int32) (l1 : Int32) (l2 : Int32) : Nat → Int32 → Int32 → Prop
  | 0, l3, l4 => True
  | n + 1, l3, l4 => (if 4 ≤ l4 then True else (vp_in ((4 * l2) + l4) (sz 76) ∧ ((if (I1 76 ((4 * l2) + l4).toNatClampNeg) ≤ l3 then True else vp_in ((4 * l2) + l4) (sz 76)) ∧ oklp_X11_lookOf_35 I1 l1 l2 n (u0_X11_lookOf I1 l2 l3 l4) (l4 + 1))))
set_option maxHeartbeats 800000 in
set_option maxRecDepth 4000 in
theorem k_lp_X11_lookOf_35 {k : KT} {ex : Bool} {J : Nat → Nat → Int64} {w : Bool} (I1 : Nat → Nat → Int32) (l1 : Int32) (l2 : Int32) {F : FinT} : ∀ (n : Nat) (l3 : Int32) (l4 : Int32), mu_up 4 l4 < n → oklp_X11_lookOf_35 I1 l1 l2 n l3 l4 → G k mX11_lookOf (roomOf 6 0 0) F 0 0 78 [some (.ref (ka k 65)), some (.int l1), some (.int l2), some (.int ((lp_X11_lookOf_35 I1 l1 l2 n l3 l4).1)), some (.int ((lp_X11_lookOf_35 I1 l1 l2 n l3 l4).2))] [] (81, ex, I1, J, Pw w) → G k mX11_lookOf (roomOf 6 0 0) F 0 0 35 [some (.ref (ka k 65)), some (.int l1), some (.int l2), some (.int l3), some (.int l4)] [] (81, ex, I1, J, Pw w) := by
  intro n
  induction n with
  | zero => intro l3 l4 hmu hok hj; exact absurd hmu (Nat.not_lt_zero _)
  | succ n ih =>
    intro l3 l4 hmu hok hj
    rw [oklp_X11_lookOf_35] at hok
    refine g_iload (i := 4) rfl d_X11_lookOf_35 ?_
    refine g_iconst 4 d_X11_lookOf_37 (by decide) ?_
    refine g_icmp_ge 78 d_X11_lookOf_38 (by decide) (fun h1 => ?_) (fun h1 => ?_)
    · skip
      (try simp only [lp_X11_lookOf_35, if_pos h1, opv_eq, if_true, if_false, Bool.false_eq_true, reduceCtorEq, b2i_t, b2i_f] at hj); exact hj
    · skip
      rw [if_neg h1] at hok
      refine g_aload_n0 rfl d_X11_lookOf_41 ?_
      refine g_getP (b := 76) f_X11_44 d_X11_lookOf_42 rfl (Nat.le_of_ble_eq_true rfl) rfl rfl ?_
      refine g_iconst 4 d_X11_lookOf_45 (by decide) ?_
      refine g_iload_n2 rfl d_X11_lookOf_46 ?_
      refine g_imul d_X11_lookOf_47 ?_
      refine g_iload (i := 4) rfl d_X11_lookOf_48 ?_
      refine g_iadd d_X11_lookOf_50 ?_
      obtain ⟨ho2, hok⟩ := hok
      refine g_iald d_X11_lookOf_51 rfl (Nat.le_of_ble_eq_true rfl) ho2 ?_
      refine g_iload_n3 rfl d_X11_lookOf_52 ?_
      obtain ⟨hoa, hob⟩ := hok
      refine g_cut (pc' := 71) (vs' := [some (.ref (ka k 65)), some (.int l1), some (.int l2), some (.int l3), some (.int l4)]) (st' := [.int (u0_X11_lookOf I1 l2 l3 l4)]) (M' := (81, ex, I1, J, Pw w)) (fun hj => ?_) ?_
      · skip
        refine g_icmp_le 70 d_X11_lookOf_53 (by decide) (fun h2 => ?_) (fun h2 => ?_)
        · skip
          refine g_iload_n3 rfl d_X11_lookOf_70 ?_
          (try simp only [if_pos h2, opv_eq, if_true, if_false, Bool.false_eq_true, reduceCtorEq, b2i_t, b2i_f, u0_X11_lookOf] at hj); exact hj
        · skip
          rw [if_neg h2] at hoa
          refine g_aload_n0 rfl d_X11_lookOf_56 ?_
          refine g_getP (b := 76) f_X11_44 d_X11_lookOf_57 rfl (Nat.le_of_ble_eq_true rfl) rfl rfl ?_
          refine g_iconst 4 d_X11_lookOf_60 (by decide) ?_
          refine g_iload_n2 rfl d_X11_lookOf_61 ?_
          refine g_imul d_X11_lookOf_62 ?_
          refine g_iload (i := 4) rfl d_X11_lookOf_63 ?_
          refine g_iadd d_X11_lookOf_65 ?_
          have ho3 := hoa
          refine g_iald d_X11_lookOf_66 rfl (Nat.le_of_ble_eq_true rfl) ho3 ?_
          refine g_goto 71 d_X11_lookOf_67 (by decide) ?_
          (try simp only [if_neg h2, opv_eq, if_true, if_false, Bool.false_eq_true, reduceCtorEq, b2i_t, b2i_f, u0_X11_lookOf] at hj); exact hj
      · skip
        refine g_isn3 rfl d_X11_lookOf_71 ?_
        refine g_ic4 (l4 + 1) rfl rfl d_X11_lookOf_72 ?_
        refine g_goto 35 d_X11_lookOf_75 (by decide) ?_
        exact ih (u0_X11_lookOf I1 l2 l3 l4) (l4 + 1) (Nat.lt_of_lt_of_le (mu_up_lt h1) (Nat.le_of_lt_succ hmu)) (by (try simp only [if_neg h1, opv_eq, if_true, if_false, Bool.false_eq_true, reduceCtorEq, b2i_t, b2i_f] at hob); exact hob) (by (try simp only [lp_X11_lookOf_35, if_neg h1, opv_eq, if_true, if_false, Bool.false_eq_true, reduceCtorEq, b2i_t, b2i_f] at hj); exact hj)
noncomputable def u1_X11_lookOf (l1 : Int32) (l2 : Int32) (I1 : Nat → Nat → Int32) : Int32 := opv (if l1 < 0 then l2 else (if ((lp_X11_lookOf_35 I1 l1 l2 (mu_up 4 0 + 1) 0 0).1) < (I1 65 31) then l2 else l1))
noncomputable def u2_X11_lookOf (l1 : Int32) (l2 : Int32) (I1 : Nat → Nat → Int32) : Nat → Nat → Int32 := opv (if l1 < 0 then (st2 I1 65 31 ((lp_X11_lookOf_35 I1 l1 l2 (mu_up 4 0 + 1) 0 0).1)) else (if ((lp_X11_lookOf_35 I1 l1 l2 (mu_up 4 0 + 1) 0 0).1) < (I1 65 31) then (st2 I1 65 31 ((lp_X11_lookOf_35 I1 l1 l2 (mu_up 4 0 + 1) 0 0).1)) else I1))
noncomputable def lp_X11_lookOf_17  : Nat → Int32 → Int32 → (Nat → Nat → Int32) → Int32 × Int32 × (Nat → Nat → Int32)
  | 0, l1, l2, I1 => (l1, l2, I1)
  | n + 1, l1, l2, I1 => (if 21 ≤ l2 then (l1, l2, I1) else (if (I1 65 28) ≤ 0 then (l1, l2, I1) else (lp_X11_lookOf_17  n (u1_X11_lookOf l1 l2 I1) (l2 + 1) (u2_X11_lookOf l1 l2 I1))))
def oklp_X11_lookOf_17  : Nat → Int32 → Int32 → (Nat → Nat → Int32) → Prop
  | 0, l1, l2, I1 => True
  | n + 1, l1, l2, I1 => (if 21 ≤ l2 then True else (if (I1 65 28) ≤ 0 then True else (oklp_X11_lookOf_35 I1 l1 l2 (mu_up 4 0 + 1) 0 0 ∧ oklp_X11_lookOf_17  n (u1_X11_lookOf l1 l2 I1) (l2 + 1) (u2_X11_lookOf l1 l2 I1))))
set_option maxHeartbeats 800000 in
set_option maxRecDepth 4000 in
theorem k_lp_X11_lookOf_17 {k : KT} {ex : Bool} {J : Nat → Nat → Int64} {w : Bool}  {F : FinT} : ∀ (n : Nat) (l1 : Int32) (l2 : Int32) (I1 : (Nat → Nat → Int32)), mu_up 21 l2 < n → oklp_X11_lookOf_17  n l1 l2 I1 → G k mX11_lookOf (roomOf 6 0 0) F 0 0 106 [some (.ref (ka k 65)), some (.int ((lp_X11_lookOf_17  n l1 l2 I1).1)), some (.int ((lp_X11_lookOf_17  n l1 l2 I1).2.1)), none, none] [] (81, ex, (lp_X11_lookOf_17  n l1 l2 I1).2.2, J, Pw w) → G k mX11_lookOf (roomOf 6 0 0) F 0 0 17 [some (.ref (ka k 65)), some (.int l1), some (.int l2), none, none] [] (81, ex, I1, J, Pw w) := by
  intro n
  induction n with
  | zero => intro l1 l2 I1 hmu hok hj; exact absurd hmu (Nat.not_lt_zero _)
  | succ n ih =>
    intro l1 l2 I1 hmu hok hj
    rw [oklp_X11_lookOf_17] at hok
    refine g_iload_n2 rfl d_X11_lookOf_17 ?_
    refine g_bipush 21 d_X11_lookOf_18 (by decide) ?_
    refine g_icmp_ge 106 d_X11_lookOf_20 (by decide) (fun h3 => ?_) (fun h3 => ?_)
    · skip
      (try simp only [lp_X11_lookOf_17, if_pos h3, opv_eq, if_true, if_false, Bool.false_eq_true, reduceCtorEq, b2i_t, b2i_f] at hj); exact hj
    · skip
      rw [if_neg h3] at hok
      refine g_aload_n0 rfl d_X11_lookOf_23 ?_
      refine g_getI f_X11_336 d_X11_lookOf_24 rfl (Nat.le_of_ble_eq_true rfl) rfl ?_
      refine g_if_le 106 d_X11_lookOf_27 (by decide) (fun h4 => ?_) (fun h4 => ?_)
      · skip
        (try simp only [lp_X11_lookOf_17, if_neg h3, if_pos h4, opv_eq, if_true, if_false, Bool.false_eq_true, reduceCtorEq, b2i_t, b2i_f] at hj); exact hj
      · skip
        rw [if_neg h4] at hok
        refine g_iconst 0 d_X11_lookOf_30 (by decide) ?_
        refine g_isn3 rfl d_X11_lookOf_31 ?_
        refine g_iconst 0 d_X11_lookOf_32 (by decide) ?_
        refine g_is4 rfl d_X11_lookOf_33 ?_
        obtain ⟨hol, hok⟩ := hok
        refine k_lp_X11_lookOf_35 I1 l1 l2 _ 0 0 (Nat.lt_succ_self _) hol ?_
        refine g_iload_n1 rfl d_X11_lookOf_78 ?_
        refine g_cut (pc' := 100) (vs' := [some (.ref (ka k 65)), some (.int (u1_X11_lookOf l1 l2 I1)), some (.int l2), some (.int ((lp_X11_lookOf_35 I1 l1 l2 (mu_up 4 0 + 1) 0 0).1)), some (.int ((lp_X11_lookOf_35 I1 l1 l2 (mu_up 4 0 + 1) 0 0).2))]) (st' := []) (M' := (81, ex, (u2_X11_lookOf l1 l2 I1), J, Pw w)) (fun hj => ?_) ?_
        · skip
          refine g_if_lt 93 d_X11_lookOf_79 (by decide) (fun h5 => ?_) (fun h5 => ?_)
          · skip
            refine g_iload_n2 rfl d_X11_lookOf_93 ?_
            refine g_isn1 rfl d_X11_lookOf_94 ?_
            refine g_aload_n0 rfl d_X11_lookOf_95 ?_
            refine g_iload_n3 rfl d_X11_lookOf_96 ?_
            refine g_putI f_X11_354 d_X11_lookOf_97 rfl (Nat.le_of_ble_eq_true rfl) rfl rfl rfl ?_
            (try simp only [if_pos h5, opv_eq, if_true, if_false, Bool.false_eq_true, reduceCtorEq, b2i_t, b2i_f, u1_X11_lookOf, u2_X11_lookOf] at hj); exact hj
          · skip
            refine g_iload_n3 rfl d_X11_lookOf_82 ?_
            refine g_aload_n0 rfl d_X11_lookOf_83 ?_
            refine g_getI f_X11_354 d_X11_lookOf_84 rfl (Nat.le_of_ble_eq_true rfl) rfl ?_
            refine g_icmp_lt 93 d_X11_lookOf_87 (by decide) (fun h6 => ?_) (fun h6 => ?_)
            · skip
              refine g_iload_n2 rfl d_X11_lookOf_93 ?_
              refine g_isn1 rfl d_X11_lookOf_94 ?_
              refine g_aload_n0 rfl d_X11_lookOf_95 ?_
              refine g_iload_n3 rfl d_X11_lookOf_96 ?_
              refine g_putI f_X11_354 d_X11_lookOf_97 rfl (Nat.le_of_ble_eq_true rfl) rfl rfl rfl ?_
              (try simp only [if_neg h5, if_pos h6, opv_eq, if_true, if_false, Bool.false_eq_true, reduceCtorEq, b2i_t, b2i_f, u1_X11_lookOf, u2_X11_lookOf] at hj); exact hj
            · skip
              refine g_goto 100 d_X11_lookOf_90 (by decide) ?_
              (try simp only [if_neg h5, if_neg h6, opv_eq, if_true, if_false, Bool.false_eq_true, reduceCtorEq, b2i_t, b2i_f, u1_X11_lookOf, u2_X11_lookOf] at hj); exact hj
        · skip
          refine g_ic2 (l2 + 1) rfl rfl d_X11_lookOf_100 ?_
          refine g_goto 17 d_X11_lookOf_103 (by decide) ?_
          refine G.weak (wks (wks (wks (wkn (wkn wk0))))) ?_; exact ih (u1_X11_lookOf l1 l2 I1) (l2 + 1) (u2_X11_lookOf l1 l2 I1) (Nat.lt_of_lt_of_le (mu_up_lt h3) (Nat.le_of_lt_succ hmu)) (by (try simp only [if_neg h3, if_neg h4, opv_eq, if_true, if_false, Bool.false_eq_true, reduceCtorEq, b2i_t, b2i_f] at hok); exact hok) (by (try simp only [lp_X11_lookOf_17, if_neg h3, if_neg h4, opv_eq, if_true, if_false, Bool.false_eq_true, reduceCtorEq, b2i_t, b2i_f] at hj); exact hj)
noncomputable def f_X11_lookOf (I : Nat → Nat → Int32)  : Int32 := opv ((lp_X11_lookOf_17  (mu_up 21 0 + 1) (-2) 0 (st2 (m_X11_seekMakes I (-1)) 65 31 (-2))).1)
noncomputable def m_X11_lookOf (I : Nat → Nat → Int32)  : Nat → Nat → Int32 := opv ((lp_X11_lookOf_17  (mu_up 21 0 + 1) (-2) 0 (st2 (m_X11_seekMakes I (-1)) 65 31 (-2))).2.2)
noncomputable def ok_X11_lookOf (I : Nat → Nat → Int32)  : Prop := opv (ok_X11_seekMakes I (-1) ∧ oklp_X11_lookOf_17  (mu_up 21 0 + 1) (-2) 0 (st2 (m_X11_seekMakes I (-1)) 65 31 (-2)))
set_option maxHeartbeats 800000 in
set_option maxRecDepth 4000 in
theorem c_X11_lookOf {k : KT} {ex : Bool} {J : Nat → Nat → Int64} {w : Bool} (I : Nat → Nat → Int32)   (hok : ok_X11_lookOf I) : Cx k mX11_lookOf 6 [.ref (ka k 65)] (81, ex, I, J, Pw w) (some (.int (f_X11_lookOf I))) (81, ex, m_X11_lookOf I, J, Pw w) := by
  refine Ct.of rfl [some (.ref (ka k 65)), none, none, none, none] rfl rfl (Nat.le_of_ble_eq_true rfl) ?_
  rw [ok_X11_lookOf, opv_eq] at hok
  refine g_aload_n0 rfl d_X11_lookOf_0 ?_
  refine g_iconst (-1) d_X11_lookOf_1 (by decide) ?_
  obtain ⟨ho1, hok⟩ := hok
  refine g_callV1 (c_X11_seekMakes I (-1) ho1) w_X11_seekMakes l_X11_351 d_X11_lookOf_2 rfl (Nat.le_of_ble_eq_true rfl) rfl rfl (Nat.le_of_ble_eq_true rfl) ⟨Nat.le_of_ble_eq_true rfl, Nat.le_of_ble_eq_true rfl⟩ ⟨Nat.zero_le _, Nat.zero_le _⟩ ⟨rfl, rfl⟩ ?_
  refine g_pop rfl d_X11_lookOf_5 ?_
  refine g_bipush (-2) d_X11_lookOf_6 (by decide) ?_
  refine g_isn1 rfl d_X11_lookOf_8 ?_
  refine g_aload_n0 rfl d_X11_lookOf_9 ?_
  refine g_bipush (-2) d_X11_lookOf_10 (by decide) ?_
  refine g_putI f_X11_354 d_X11_lookOf_12 rfl (Nat.le_of_ble_eq_true rfl) rfl rfl rfl ?_
  refine g_iconst 0 d_X11_lookOf_15 (by decide) ?_
  refine g_isn2 rfl d_X11_lookOf_16 ?_
  refine k_lp_X11_lookOf_17  _ (-2) 0 (st2 (m_X11_seekMakes I (-1)) 65 31 (-2)) (Nat.lt_succ_self _) hok ?_
  refine g_iload_n1 rfl d_X11_lookOf_106 ?_
  exact g_iret rfl d_X11_lookOf_107 ⟨by simp only [f_X11_lookOf, m_X11_lookOf, opv_eq, if_true, if_false, Bool.false_eq_true, reduceCtorEq, b2i_t, b2i_f], by simp only [f_X11_lookOf, m_X11_lookOf, opv_eq, if_true, if_false, Bool.false_eq_true, reduceCtorEq, b2i_t, b2i_f]⟩ (Nat.le_refl _) (Nat.le_refl _)
noncomputable def u0_X11_look (I : Nat → Nat → Int32) : Int32 := opv (if ((m_X11_good I) 65 14) = 0 then f_X11_no (m_X11_good I) 1 else f_X11_lookOf (m_X11_good I))
noncomputable def u1_X11_look (I : Nat → Nat → Int32) : Nat → Nat → Int32 := opv (if ((m_X11_good I) 65 14) = 0 then (m_X11_no (m_X11_good I) 1) else (m_X11_lookOf (m_X11_good I)))
noncomputable def f_X11_look (I : Nat → Nat → Int32)  : Int32 := opv (u0_X11_look I)
noncomputable def m_X11_look (I : Nat → Nat → Int32)  : Nat → Nat → Int32 := opv (u1_X11_look I)
noncomputable def ok_X11_look (I : Nat → Nat → Int32)  : Prop := opv (if ((m_X11_good I) 65 14) = 0 then True else ok_X11_lookOf (m_X11_good I))
set_option maxHeartbeats 800000 in
set_option maxRecDepth 4000 in
theorem c_X11_look {k : KT} {ex : Bool} {J : Nat → Nat → Int64} {w : Bool} (I : Nat → Nat → Int32)   (hok : ok_X11_look I) : Cx k mX11_look 7 [.ref (ka k 65)] (81, ex, I, J, Pw w) (some (.int (f_X11_look I))) (81, ex, m_X11_look I, J, Pw w) := by
  refine Ct.of rfl [some (.ref (ka k 65))] rfl rfl (Nat.le_of_ble_eq_true rfl) ?_
  rw [ok_X11_look, opv_eq] at hok
  refine g_aload_n0 rfl d_X11_look_0 ?_
  refine g_callV0 (c_X11_good I ) w_X11_good l_X11_168 d_X11_look_1 rfl (Nat.le_of_ble_eq_true rfl) rfl rfl (Nat.le_of_ble_eq_true rfl) ⟨Nat.le_of_ble_eq_true rfl, Nat.le_of_ble_eq_true rfl⟩ ⟨Nat.zero_le _, Nat.zero_le _⟩ ⟨rfl, rfl⟩ ?_
  refine g_aload_n0 rfl d_X11_look_4 ?_
  refine g_getI f_X11_185 d_X11_look_5 rfl (Nat.le_of_ble_eq_true rfl) rfl ?_
  refine g_cut (pc' := 23) (vs' := [some (.ref (ka k 65))]) (st' := [.int (u0_X11_look I)]) (M' := (81, ex, (u1_X11_look I), J, Pw w)) (fun hj => ?_) ?_
  · skip
    refine g_if_eq 18 d_X11_look_8 (by decide) (fun h1 => ?_) (fun h1 => ?_)
    · skip
      refine g_aload_n0 rfl d_X11_look_18 ?_
      refine g_iconst 1 d_X11_look_19 (by decide) ?_
      refine g_callV1 (c_X11_no (m_X11_good I) 1) w_X11_no l_X11_171 d_X11_look_20 rfl (Nat.le_of_ble_eq_true rfl) rfl rfl (Nat.le_of_ble_eq_true rfl) ⟨Nat.le_of_ble_eq_true rfl, Nat.le_of_ble_eq_true rfl⟩ ⟨Nat.zero_le _, Nat.zero_le _⟩ ⟨rfl, rfl⟩ ?_
      (try simp only [if_pos h1, opv_eq, if_true, if_false, Bool.false_eq_true, reduceCtorEq, b2i_t, b2i_f, u0_X11_look, u1_X11_look] at hj); exact hj
    · skip
      rw [if_neg h1] at hok
      refine g_aload_n0 rfl d_X11_look_11 ?_
      have ho1 := hok
      refine g_callV1 (c_X11_lookOf (m_X11_good I)  ho1) w_X11_lookOf l_X11_357 d_X11_look_12 rfl (Nat.le_of_ble_eq_true rfl) rfl rfl (Nat.le_of_ble_eq_true rfl) ⟨Nat.le_of_ble_eq_true rfl, Nat.le_of_ble_eq_true rfl⟩ ⟨Nat.zero_le _, Nat.zero_le _⟩ ⟨rfl, rfl⟩ ?_
      refine g_goto 23 d_X11_look_15 (by decide) ?_
      (try simp only [if_neg h1, opv_eq, if_true, if_false, Bool.false_eq_true, reduceCtorEq, b2i_t, b2i_f, u0_X11_look, u1_X11_look] at hj); exact hj
  · skip
    exact g_iret rfl d_X11_look_23 ⟨by simp only [f_X11_look, m_X11_look, opv_eq, if_true, if_false, Bool.false_eq_true, reduceCtorEq, b2i_t, b2i_f], by simp only [f_X11_look, m_X11_look, opv_eq, if_true, if_false, Bool.false_eq_true, reduceCtorEq, b2i_t, b2i_f]⟩ (Nat.le_refl _) (Nat.le_refl _)
noncomputable def f_X11_lookLeaves (I : Nat → Nat → Int32)  : Int32 := opv (if ((m_X11_good I) 65 14) = 0 then f_X11_no (m_X11_good I) 1 else (m_X11_lookOf (m_X11_good I)) 65 31)
noncomputable def m_X11_lookLeaves (I : Nat → Nat → Int32)  : Nat → Nat → Int32 := opv (if ((m_X11_good I) 65 14) = 0 then (m_X11_no (m_X11_good I) 1) else (m_X11_lookOf (m_X11_good I)))
noncomputable def ok_X11_lookLeaves (I : Nat → Nat → Int32)  : Prop := opv (if ((m_X11_good I) 65 14) = 0 then True else ok_X11_lookOf (m_X11_good I))
set_option maxHeartbeats 800000 in
set_option maxRecDepth 4000 in
theorem c_X11_lookLeaves {k : KT} {ex : Bool} {J : Nat → Nat → Int64} {w : Bool} (I : Nat → Nat → Int32)   (hok : ok_X11_lookLeaves I) : Cx k mX11_lookLeaves 7 [.ref (ka k 65)] (81, ex, I, J, Pw w) (some (.int (f_X11_lookLeaves I))) (81, ex, m_X11_lookLeaves I, J, Pw w) := by
  refine Ct.of rfl [some (.ref (ka k 65))] rfl rfl (Nat.le_of_ble_eq_true rfl) ?_
  rw [ok_X11_lookLeaves, opv_eq] at hok
  refine g_aload_n0 rfl d_X11_lookLeaves_0 ?_
  refine g_callV0 (c_X11_good I ) w_X11_good l_X11_168 d_X11_lookLeaves_1 rfl (Nat.le_of_ble_eq_true rfl) rfl rfl (Nat.le_of_ble_eq_true rfl) ⟨Nat.le_of_ble_eq_true rfl, Nat.le_of_ble_eq_true rfl⟩ ⟨Nat.zero_le _, Nat.zero_le _⟩ ⟨rfl, rfl⟩ ?_
  refine g_aload_n0 rfl d_X11_lookLeaves_4 ?_
  refine g_getI f_X11_185 d_X11_lookLeaves_5 rfl (Nat.le_of_ble_eq_true rfl) rfl ?_
  refine g_if_ne 17 d_X11_lookLeaves_8 (by decide) (fun h1 => ?_) (fun h1 => ?_)
  · skip
    rw [if_neg h1] at hok
    refine g_aload_n0 rfl d_X11_lookLeaves_17 ?_
    have ho1 := hok
    refine g_callV1 (c_X11_lookOf (m_X11_good I)  ho1) w_X11_lookOf l_X11_357 d_X11_lookLeaves_18 rfl (Nat.le_of_ble_eq_true rfl) rfl rfl (Nat.le_of_ble_eq_true rfl) ⟨Nat.le_of_ble_eq_true rfl, Nat.le_of_ble_eq_true rfl⟩ ⟨Nat.zero_le _, Nat.zero_le _⟩ ⟨rfl, rfl⟩ ?_
    refine g_pop rfl d_X11_lookLeaves_21 ?_
    refine g_aload_n0 rfl d_X11_lookLeaves_22 ?_
    refine g_getI f_X11_354 d_X11_lookLeaves_23 rfl (Nat.le_of_ble_eq_true rfl) rfl ?_
    exact g_iret rfl d_X11_lookLeaves_26 ⟨by simp only [f_X11_lookLeaves, m_X11_lookLeaves, if_neg h1, opv_eq, if_true, if_false, Bool.false_eq_true, reduceCtorEq, b2i_t, b2i_f], by simp only [f_X11_lookLeaves, m_X11_lookLeaves, if_neg h1, opv_eq, if_true, if_false, Bool.false_eq_true, reduceCtorEq, b2i_t, b2i_f]⟩ (Nat.le_refl _) (Nat.le_refl _)
  · skip
    refine g_aload_n0 rfl d_X11_lookLeaves_11 ?_
    refine g_iconst 1 d_X11_lookLeaves_12 (by decide) ?_
    refine g_callV1 (c_X11_no (m_X11_good I) 1) w_X11_no l_X11_171 d_X11_lookLeaves_13 rfl (Nat.le_of_ble_eq_true rfl) rfl rfl (Nat.le_of_ble_eq_true rfl) ⟨Nat.le_of_ble_eq_true rfl, Nat.le_of_ble_eq_true rfl⟩ ⟨Nat.zero_le _, Nat.zero_le _⟩ ⟨rfl, rfl⟩ ?_
    exact g_iret rfl d_X11_lookLeaves_16 ⟨by simp only [f_X11_lookLeaves, m_X11_lookLeaves, if_pos h1, opv_eq, if_true, if_false, Bool.false_eq_true, reduceCtorEq, b2i_t, b2i_f], by simp only [f_X11_lookLeaves, m_X11_lookLeaves, if_pos h1, opv_eq, if_true, if_false, Bool.false_eq_true, reduceCtorEq, b2i_t, b2i_f]⟩ (Nat.le_refl _) (Nat.le_refl _)
noncomputable def u0_X11_judge (I : Nat → Nat → Int32) : Nat → Nat → Int32 := opv (m_X11_layOuts (m_X11_good I) ((4 * ((m_X11_good I) 68 0)) + ((m_X11_good I) 68 1)))
noncomputable def f_X11_judge (I : Nat → Nat → Int32)  : Int32 := opv (if ((m_X11_good I) 65 14) = 0 then f_X11_no (m_X11_good I) 1 else f_X11_wrongSeen (u0_X11_judge I))
noncomputable def m_X11_judge (I : Nat → Nat → Int32)  : Nat → Nat → Int32 := opv (if ((m_X11_good I) 65 14) = 0 then (m_X11_no (m_X11_good I) 1) else (u0_X11_judge I))
noncomputable def ok_X11_judge (I : Nat → Nat → Int32)  : Prop := opv (if ((m_X11_good I) 65 14) = 0 then True else (ok_X11_layOuts (m_X11_good I) ((4 * ((m_X11_good I) 68 0)) + ((m_X11_good I) 68 1)) ∧ ok_X11_wrongSeen (u0_X11_judge I)))
set_option maxHeartbeats 800000 in
set_option maxRecDepth 4000 in
theorem c_X11_judge {k : KT} {ex : Bool} {J : Nat → Nat → Int64} {w : Bool} (I : Nat → Nat → Int32)   (hok : ok_X11_judge I) : Cx k mX11_judge 5 [.ref (ka k 65)] (81, ex, I, J, Pw w) (some (.int (f_X11_judge I))) (81, ex, m_X11_judge I, J, Pw w) := by
  refine Ct.of rfl [some (.ref (ka k 65))] rfl rfl (Nat.le_of_ble_eq_true rfl) ?_
  rw [ok_X11_judge, opv_eq] at hok
  refine g_aload_n0 rfl d_X11_judge_0 ?_
  refine g_callV0 (c_X11_good I ) w_X11_good l_X11_168 d_X11_judge_1 rfl (Nat.le_of_ble_eq_true rfl) rfl rfl (Nat.le_of_ble_eq_true rfl) ⟨Nat.le_of_ble_eq_true rfl, Nat.le_of_ble_eq_true rfl⟩ ⟨Nat.zero_le _, Nat.zero_le _⟩ ⟨rfl, rfl⟩ ?_
  refine g_aload_n0 rfl d_X11_judge_4 ?_
  refine g_getI f_X11_185 d_X11_judge_5 rfl (Nat.le_of_ble_eq_true rfl) rfl ?_
  refine g_if_ne 17 d_X11_judge_8 (by decide) (fun h1 => ?_) (fun h1 => ?_)
  · skip
    rw [if_neg h1] at hok
    refine g_aload_n0 rfl d_X11_judge_17 ?_
    refine g_iconst 4 d_X11_judge_18 (by decide) ?_
    refine g_aload_n0 rfl d_X11_judge_19 ?_
    refine g_getP (b := 68) f_X11_20 d_X11_judge_20 rfl (Nat.le_of_ble_eq_true rfl) rfl rfl ?_
    refine g_iconst 0 d_X11_judge_23 (by decide) ?_
    refine g_ialdv ((m_X11_good I) 68 0) rfl d_X11_judge_24 rfl (Nat.le_of_ble_eq_true rfl) (vp_c (by decide +kernel)) ?_
    refine g_imul d_X11_judge_25 ?_
    refine g_aload_n0 rfl d_X11_judge_26 ?_
    refine g_getP (b := 68) f_X11_20 d_X11_judge_27 rfl (Nat.le_of_ble_eq_true rfl) rfl rfl ?_
    refine g_iconst 1 d_X11_judge_30 (by decide) ?_
    refine g_ialdv ((m_X11_good I) 68 1) rfl d_X11_judge_31 rfl (Nat.le_of_ble_eq_true rfl) (vp_c (by decide +kernel)) ?_
    refine g_iadd d_X11_judge_32 ?_
    obtain ⟨ho1, hok⟩ := hok
    refine g_callV0 (c_X11_layOuts (m_X11_good I) ((4 * ((m_X11_good I) 68 0)) + ((m_X11_good I) 68 1)) ho1) w_X11_layOuts l_X11_345 d_X11_judge_33 rfl (Nat.le_of_ble_eq_true rfl) rfl rfl (Nat.le_of_ble_eq_true rfl) ⟨Nat.le_of_ble_eq_true rfl, Nat.le_of_ble_eq_true rfl⟩ ⟨Nat.zero_le _, Nat.zero_le _⟩ ⟨rfl, rfl⟩ ?_
    refine G.toI (I' := (u0_X11_judge I)) (by rw [u0_X11_judge, opv_eq]) ?_
    refine g_aload_n0 rfl d_X11_judge_36 ?_
    have ho2 := hok
    refine g_callV1 (c_X11_wrongSeen (u0_X11_judge I)  ho2) w_X11_wrongSeen l_X11_348 d_X11_judge_37 rfl (Nat.le_of_ble_eq_true rfl) rfl rfl (Nat.le_of_ble_eq_true rfl) ⟨Nat.le_of_ble_eq_true rfl, Nat.le_of_ble_eq_true rfl⟩ ⟨Nat.zero_le _, Nat.zero_le _⟩ ⟨rfl, rfl⟩ ?_
    exact g_iret rfl d_X11_judge_40 ⟨by simp only [f_X11_judge, m_X11_judge, if_neg h1, opv_eq, if_true, if_false, Bool.false_eq_true, reduceCtorEq, b2i_t, b2i_f], by simp only [f_X11_judge, m_X11_judge, if_neg h1, opv_eq, if_true, if_false, Bool.false_eq_true, reduceCtorEq, b2i_t, b2i_f]⟩ (Nat.le_refl _) (Nat.le_refl _)
  · skip
    refine g_aload_n0 rfl d_X11_judge_11 ?_
    refine g_iconst 1 d_X11_judge_12 (by decide) ?_
    refine g_callV1 (c_X11_no (m_X11_good I) 1) w_X11_no l_X11_171 d_X11_judge_13 rfl (Nat.le_of_ble_eq_true rfl) rfl rfl (Nat.le_of_ble_eq_true rfl) ⟨Nat.le_of_ble_eq_true rfl, Nat.le_of_ble_eq_true rfl⟩ ⟨Nat.zero_le _, Nat.zero_le _⟩ ⟨rfl, rfl⟩ ?_
    exact g_iret rfl d_X11_judge_16 ⟨by simp only [f_X11_judge, m_X11_judge, if_pos h1, opv_eq, if_true, if_false, Bool.false_eq_true, reduceCtorEq, b2i_t, b2i_f], by simp only [f_X11_judge, m_X11_judge, if_pos h1, opv_eq, if_true, if_false, Bool.false_eq_true, reduceCtorEq, b2i_t, b2i_f]⟩ (Nat.le_refl _) (Nat.le_refl _)
