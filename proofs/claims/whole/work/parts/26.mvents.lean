noncomputable def lp_X11_goBy_14 (I1 : Nat → Nat → Int32) (x1 : Int32) (x2 : Int32) : Nat → Int32 → Int32 → Int32 × Int32
  | 0, l3, l4 => (l3, l4)
  | n + 1, l3, l4 => (if x2 ≤ l4 then (l3, l4) else (lp_X11_goBy_14 I1 x1 x2 n (l3 * 10) (l4 + 1)))
set_option maxHeartbeats 800000 in
set_option maxRecDepth 4000 in
theorem k_lp_X11_goBy_14 {k : KT} {ex : Bool} {J : Nat → Nat → Int64} {w : Bool} (I1 : Nat → Nat → Int32) (x1 : Int32) (x2 : Int32) {F : FinT} : ∀ (n : Nat) (l3 : Int32) (l4 : Int32), mu_up x2 l4 < n → G k mX11_goBy (roomOf 5 0 0) F 0 0 31 [some (.ref (ka k 65)), some (.int x1), some (.int x2), some (.int ((lp_X11_goBy_14 I1 x1 x2 n l3 l4).1)), some (.int ((lp_X11_goBy_14 I1 x1 x2 n l3 l4).2)), none] [] (81, ex, I1, J, Pw w) → G k mX11_goBy (roomOf 5 0 0) F 0 0 14 [some (.ref (ka k 65)), some (.int x1), some (.int x2), some (.int l3), some (.int l4), none] [] (81, ex, I1, J, Pw w) := by
  intro n
  induction n with
  | zero => intro l3 l4 hmu hj; exact absurd hmu (Nat.not_lt_zero _)
  | succ n ih =>
    intro l3 l4 hmu hj
    refine g_iload (i := 4) rfl d_X11_goBy_14 ?_
    refine g_iload_n2 rfl d_X11_goBy_16 ?_
    refine g_icmp_ge 31 d_X11_goBy_17 (by decide) (fun h1 => ?_) (fun h1 => ?_)
    · skip
      (try simp only [lp_X11_goBy_14, if_pos h1, opv_eq, if_true, if_false, Bool.false_eq_true, reduceCtorEq, b2i_t, b2i_f] at hj); exact hj
    · skip
      refine g_iload_n3 rfl d_X11_goBy_20 ?_
      refine g_bipush 10 d_X11_goBy_21 (by decide) ?_
      refine g_imul d_X11_goBy_23 ?_
      refine g_isn3 rfl d_X11_goBy_24 ?_
      refine g_ic4 (l4 + 1) rfl rfl d_X11_goBy_25 ?_
      refine g_goto 14 d_X11_goBy_28 (by decide) ?_
      exact ih (l3 * 10) (l4 + 1) (Nat.lt_of_lt_of_le (mu_up_lt h1) (Nat.le_of_lt_succ hmu)) (by (try simp only [lp_X11_goBy_14, if_neg h1, opv_eq, if_true, if_false, Bool.false_eq_true, reduceCtorEq, b2i_t, b2i_f] at hj); exact hj)
noncomputable def u0_X11_goBy (x1 : Int32) (l3 : Int32) (I1 : Nat → Nat → Int32) : Nat → Nat → Int32 := opv (if ((x1 / l3) - (x1 / l3) / 10 * 10) ≤ 0 then I1 else (st2 (st2 I1 73 3 ((I1 73 3) ||| (1 <<< ((((x1 / l3) - (x1 / l3) / 10 * 10) - 1) &&& 31)))) 65 24 ((I1 65 24) + ((st2 I1 73 3 ((I1 73 3) ||| (1 <<< ((((x1 / l3) - (x1 / l3) / 10 * 10) - 1) &&& 31)))) 68 ((13 + (3 * (((x1 / l3) - (x1 / l3) / 10 * 10) - 1))) + 2).toNatClampNeg))))
noncomputable def lp_X11_goBy_34 (x1 : Int32) (x2 : Int32) : Nat → Int32 → Int32 → (Nat → Nat → Int32) → Int32 × Int32 × (Nat → Nat → Int32)
  | 0, l3, l4, I1 => (l3, l4, I1)
  | n + 1, l3, l4, I1 => (if x2 ≤ l4 then (l3, l4, I1) else (lp_X11_goBy_34 x1 x2 n (l3 / 10) (l4 + 1) (m_X11_dayOf (u0_X11_goBy x1 l3 I1) 73)))
def oklp_X11_goBy_34 (x1 : Int32) (x2 : Int32) : Nat → Int32 → Int32 → (Nat → Nat → Int32) → Prop
  | 0, l3, l4, I1 => True
  | n + 1, l3, l4, I1 => (if x2 ≤ l4 then True else (¬ l3 = 0 ∧ ((if ((x1 / l3) - (x1 / l3) / 10 * 10) ≤ 0 then True else vp_in ((13 + (3 * (((x1 / l3) - (x1 / l3) / 10 * 10) - 1))) + 2) (sz 68)) ∧ (ok_X11_dayOf (u0_X11_goBy x1 l3 I1) 73 ∧ oklp_X11_goBy_34 x1 x2 n (l3 / 10) (l4 + 1) (m_X11_dayOf (u0_X11_goBy x1 l3 I1) 73)))))
set_option maxHeartbeats 800000 in
set_option maxRecDepth 4000 in
theorem k_lp_X11_goBy_34 {k : KT} {ex : Bool} {J : Nat → Nat → Int64} {w : Bool} (x1 : Int32) (x2 : Int32) {F : FinT} : ∀ (n : Nat) (l3 : Int32) (l4 : Int32) (I1 : (Nat → Nat → Int32)), mu_up x2 l4 < n → oklp_X11_goBy_34 x1 x2 n l3 l4 I1 → G k mX11_goBy (roomOf 5 0 0) F 0 0 112 [some (.ref (ka k 65)), some (.int x1), some (.int x2), some (.int ((lp_X11_goBy_34 x1 x2 n l3 l4 I1).1)), some (.int ((lp_X11_goBy_34 x1 x2 n l3 l4 I1).2.1)), none] [] (81, ex, (lp_X11_goBy_34 x1 x2 n l3 l4 I1).2.2, J, Pw w) → G k mX11_goBy (roomOf 5 0 0) F 0 0 34 [some (.ref (ka k 65)), some (.int x1), some (.int x2), some (.int l3), some (.int l4), none] [] (81, ex, I1, J, Pw w) := by
  intro n
  induction n with
  | zero => intro l3 l4 I1 hmu hok hj; exact absurd hmu (Nat.not_lt_zero _)
  | succ n ih =>
    intro l3 l4 I1 hmu hok hj
    rw [oklp_X11_goBy_34] at hok
    refine g_iload (i := 4) rfl d_X11_goBy_34 ?_
    refine g_iload_n2 rfl d_X11_goBy_36 ?_
    refine g_icmp_ge 112 d_X11_goBy_37 (by decide) (fun h2 => ?_) (fun h2 => ?_)
    · skip
      (try simp only [lp_X11_goBy_34, if_pos h2, opv_eq, if_true, if_false, Bool.false_eq_true, reduceCtorEq, b2i_t, b2i_f] at hj); exact hj
    · skip
      rw [if_neg h2] at hok
      refine g_iload_n1 rfl d_X11_goBy_40 ?_
      refine g_iload_n3 rfl d_X11_goBy_41 ?_
      obtain ⟨ho2, hok⟩ := hok
      refine g_idiv ho2 d_X11_goBy_42 ?_
      refine g_bipush 10 d_X11_goBy_43 (by decide) ?_
      refine g_irem (by decide) d_X11_goBy_45 ?_
      refine g_is5 rfl d_X11_goBy_46 ?_
      refine g_iload (i := 5) rfl d_X11_goBy_48 ?_
      obtain ⟨hoa, hob⟩ := hok
      refine g_cut (pc' := 93) (vs' := [some (.ref (ka k 65)), some (.int x1), some (.int x2), some (.int l3), some (.int l4), some (.int ((x1 / l3) - (x1 / l3) / 10 * 10))]) (st' := []) (M' := (81, ex, (u0_X11_goBy x1 l3 I1), J, Pw w)) (fun hj => ?_) ?_
      · skip
        refine g_if_le 93 d_X11_goBy_50 (by decide) (fun h3 => ?_) (fun h3 => ?_)
        · skip
          (try simp only [if_pos h3, opv_eq, if_true, if_false, Bool.false_eq_true, reduceCtorEq, b2i_t, b2i_f, u0_X11_goBy] at hj); exact hj
        · skip
          rw [if_neg h3] at hoa
          refine g_aload_n0 rfl d_X11_goBy_53 ?_
          refine g_getP (b := 73) f_X11_35 d_X11_goBy_54 rfl (Nat.le_of_ble_eq_true rfl) rfl rfl ?_
          refine g_iconst 3 d_X11_goBy_57 (by decide) ?_
          refine g_dup2 rfl rfl d_X11_goBy_58 ?_
          refine g_ialdv (I1 73 3) rfl d_X11_goBy_59 rfl (Nat.le_of_ble_eq_true rfl) (vp_c (by decide +kernel)) ?_
          refine g_iconst 1 d_X11_goBy_60 (by decide) ?_
          refine g_iload (i := 5) rfl d_X11_goBy_61 ?_
          refine g_iconst 1 d_X11_goBy_63 (by decide) ?_
          refine g_isub d_X11_goBy_64 ?_
          refine g_ishl d_X11_goBy_65 ?_
          refine g_ior d_X11_goBy_66 ?_
          refine g_iasts (n := 3) rfl d_X11_goBy_67 rfl (Nat.le_of_ble_eq_true rfl) (vp_c (by decide +kernel)) ?_
          refine g_aload_n0 rfl d_X11_goBy_68 ?_
          refine g_dup rfl d_X11_goBy_69 ?_
          refine g_getIv (I1 65 24) (st2_a _ _ (by decide)) f_X11_305 d_X11_goBy_70 rfl (Nat.le_of_ble_eq_true rfl) rfl ?_
          refine g_aload_n0 rfl d_X11_goBy_73 ?_
          refine g_getP (b := 68) f_X11_20 d_X11_goBy_74 rfl (Nat.le_of_ble_eq_true rfl) rfl rfl ?_
          refine g_bipush 13 d_X11_goBy_77 (by decide) ?_
          refine g_iconst 3 d_X11_goBy_79 (by decide) ?_
          refine g_iload (i := 5) rfl d_X11_goBy_80 ?_
          refine g_iconst 1 d_X11_goBy_82 (by decide) ?_
          refine g_isub d_X11_goBy_83 ?_
          refine g_imul d_X11_goBy_84 ?_
          refine g_iadd d_X11_goBy_85 ?_
          refine g_iconst 2 d_X11_goBy_86 (by decide) ?_
          refine g_iadd d_X11_goBy_87 ?_
          have ho3 := hoa
          refine g_iald d_X11_goBy_88 rfl (Nat.le_of_ble_eq_true rfl) ho3 ?_
          refine g_iadd d_X11_goBy_89 ?_
          refine g_putI f_X11_305 d_X11_goBy_90 rfl (Nat.le_of_ble_eq_true rfl) rfl rfl rfl ?_
          (try simp only [if_neg h3, opv_eq, if_true, if_false, Bool.false_eq_true, reduceCtorEq, b2i_t, b2i_f, u0_X11_goBy] at hj); exact hj
      · skip
        refine g_aload_n0 rfl d_X11_goBy_93 ?_
        refine g_aload_n0 rfl d_X11_goBy_94 ?_
        refine g_getP (b := 73) f_X11_35 d_X11_goBy_95 rfl (Nat.le_of_ble_eq_true rfl) rfl rfl ?_
        obtain ⟨ho4, hok⟩ := hob
        refine g_callV0 (c_X11_dayOf (u0_X11_goBy x1 l3 I1) 73 rfl (by decide) ho4) w_X11_dayOf l_X11_288 d_X11_goBy_98 rfl (Nat.le_of_ble_eq_true rfl) rfl rfl (Nat.le_of_ble_eq_true rfl) ⟨Nat.le_of_ble_eq_true rfl, Nat.le_of_ble_eq_true rfl⟩ ⟨Nat.zero_le _, Nat.zero_le _⟩ ⟨rfl, rfl⟩ ?_
        refine g_iload_n3 rfl d_X11_goBy_101 ?_
        refine g_bipush 10 d_X11_goBy_102 (by decide) ?_
        refine g_idiv (by decide) d_X11_goBy_104 ?_
        refine g_isn3 rfl d_X11_goBy_105 ?_
        refine g_ic4 (l4 + 1) rfl rfl d_X11_goBy_106 ?_
        refine g_goto 34 d_X11_goBy_109 (by decide) ?_
        refine G.weak (wks (wks (wks (wks (wks (wkn wk0)))))) ?_; exact ih (l3 / 10) (l4 + 1) (m_X11_dayOf (u0_X11_goBy x1 l3 I1) 73) (Nat.lt_of_lt_of_le (mu_up_lt h2) (Nat.le_of_lt_succ hmu)) (by (try simp only [if_neg h2, opv_eq, if_true, if_false, Bool.false_eq_true, reduceCtorEq, b2i_t, b2i_f] at hok); exact hok) (by (try simp only [lp_X11_goBy_34, if_neg h2, opv_eq, if_true, if_false, Bool.false_eq_true, reduceCtorEq, b2i_t, b2i_f] at hj); exact hj)
noncomputable def m_X11_goBy (I : Nat → Nat → Int32) (x1 : Int32) (x2 : Int32) : Nat → Nat → Int32 := opv ((lp_X11_goBy_34 x1 x2 (mu_up x2 0 + 1) ((lp_X11_goBy_14 (st2 (m_X11_begin I) 65 24 0) x1 x2 (mu_up x2 1 + 1) 1 1).1) 0 (st2 (m_X11_begin I) 65 24 0)).2.2)
noncomputable def ok_X11_goBy (I : Nat → Nat → Int32) (x1 : Int32) (x2 : Int32) : Prop := opv (ok_X11_begin I ∧ oklp_X11_goBy_34 x1 x2 (mu_up x2 0 + 1) ((lp_X11_goBy_14 (st2 (m_X11_begin I) 65 24 0) x1 x2 (mu_up x2 1 + 1) 1 1).1) 0 (st2 (m_X11_begin I) 65 24 0))
set_option maxHeartbeats 800000 in
set_option maxRecDepth 4000 in
theorem c_X11_goBy {k : KT} {ex : Bool} {J : Nat → Nat → Int64} {w : Bool} (I : Nat → Nat → Int32) (x1 : Int32) (x2 : Int32)  (hok : ok_X11_goBy I x1 x2) : Cx k mX11_goBy 5 [.ref (ka k 65), .int x1, .int x2] (81, ex, I, J, Pw w) none (81, ex, m_X11_goBy I x1 x2, J, Pw w) := by
  refine Ct.of rfl [some (.ref (ka k 65)), some (.int x1), some (.int x2), none, none, none] rfl rfl (Nat.le_of_ble_eq_true rfl) ?_
  rw [ok_X11_goBy, opv_eq] at hok
  refine g_aload_n0 rfl d_X11_goBy_0 ?_
  obtain ⟨ho1, hok⟩ := hok
  refine g_callV0 (c_X11_begin I  ho1) w_X11_begin l_X11_285 d_X11_goBy_1 rfl (Nat.le_of_ble_eq_true rfl) rfl rfl (Nat.le_of_ble_eq_true rfl) ⟨Nat.le_of_ble_eq_true rfl, Nat.le_of_ble_eq_true rfl⟩ ⟨Nat.zero_le _, Nat.zero_le _⟩ ⟨rfl, rfl⟩ ?_
  refine g_aload_n0 rfl d_X11_goBy_4 ?_
  refine g_iconst 0 d_X11_goBy_5 (by decide) ?_
  refine g_putI f_X11_305 d_X11_goBy_6 rfl (Nat.le_of_ble_eq_true rfl) rfl rfl rfl ?_
  refine g_iconst 1 d_X11_goBy_9 (by decide) ?_
  refine g_isn3 rfl d_X11_goBy_10 ?_
  refine g_iconst 1 d_X11_goBy_11 (by decide) ?_
  refine g_is4 rfl d_X11_goBy_12 ?_
  refine k_lp_X11_goBy_14 (st2 (m_X11_begin I) 65 24 0) x1 x2 _ 1 1 (Nat.lt_succ_self _) ?_
  refine g_iconst 0 d_X11_goBy_31 (by decide) ?_
  refine g_is4 rfl d_X11_goBy_32 ?_
  refine k_lp_X11_goBy_34 x1 x2 _ ((lp_X11_goBy_14 (st2 (m_X11_begin I) 65 24 0) x1 x2 (mu_up x2 1 + 1) 1 1).1) 0 (st2 (m_X11_begin I) 65 24 0) (Nat.lt_succ_self _) hok ?_
  exact g_vret rfl d_X11_goBy_112 ⟨rfl, by simp only [m_X11_goBy, opv_eq, if_true, if_false, Bool.false_eq_true, reduceCtorEq, b2i_t, b2i_f]⟩ (Nat.le_refl _) (Nat.le_refl _)
noncomputable def f_X11_worthBy (I : Nat → Nat → Int32) (x1 : Int32) (x2 : Int32) : Int32 := opv ((f_X11_worthsOf (m_X11_goBy I x1 x2) 73 ((m_X11_goBy I x1 x2) 70 4) (((m_X11_goBy I x1 x2) 70 4) + x2)) - ((m_X11_goBy I x1 x2) 65 24))
noncomputable def m_X11_worthBy (I : Nat → Nat → Int32) (x1 : Int32) (x2 : Int32) : Nat → Nat → Int32 := opv (m_X11_goBy I x1 x2)
noncomputable def ok_X11_worthBy (I : Nat → Nat → Int32) (x1 : Int32) (x2 : Int32) : Prop := opv (ok_X11_goBy I x1 x2 ∧ ok_X11_worthsOf (m_X11_goBy I x1 x2) 73 ((m_X11_goBy I x1 x2) 70 4) (((m_X11_goBy I x1 x2) 70 4) + x2))
set_option maxHeartbeats 800000 in
set_option maxRecDepth 4000 in
theorem c_X11_worthBy {k : KT} {ex : Bool} {J : Nat → Nat → Int64} {w : Bool} (I : Nat → Nat → Int32) (x1 : Int32) (x2 : Int32)  (hok : ok_X11_worthBy I x1 x2) : Cx k mX11_worthBy 6 [.ref (ka k 65), .int x1, .int x2] (81, ex, I, J, Pw w) (some (.int (f_X11_worthBy I x1 x2))) (81, ex, m_X11_worthBy I x1 x2, J, Pw w) := by
  refine Ct.of rfl [some (.ref (ka k 65)), some (.int x1), some (.int x2)] rfl rfl (Nat.le_of_ble_eq_true rfl) ?_
  rw [ok_X11_worthBy, opv_eq] at hok
  refine g_aload_n0 rfl d_X11_worthBy_0 ?_
  refine g_iload_n1 rfl d_X11_worthBy_1 ?_
  refine g_iload_n2 rfl d_X11_worthBy_2 ?_
  obtain ⟨ho1, hok⟩ := hok
  refine g_callV0 (c_X11_goBy I x1 x2 ho1) w_X11_goBy l_X11_308 d_X11_worthBy_3 rfl (Nat.le_of_ble_eq_true rfl) rfl rfl (Nat.le_of_ble_eq_true rfl) ⟨Nat.le_of_ble_eq_true rfl, Nat.le_of_ble_eq_true rfl⟩ ⟨Nat.zero_le _, Nat.zero_le _⟩ ⟨rfl, rfl⟩ ?_
  refine g_aload_n0 rfl d_X11_worthBy_6 ?_
  refine g_aload_n0 rfl d_X11_worthBy_7 ?_
  refine g_getP (b := 73) f_X11_35 d_X11_worthBy_8 rfl (Nat.le_of_ble_eq_true rfl) rfl rfl ?_
  refine g_aload_n0 rfl d_X11_worthBy_11 ?_
  refine g_getP (b := 70) f_X11_26 d_X11_worthBy_12 rfl (Nat.le_of_ble_eq_true rfl) rfl rfl ?_
  refine g_iconst 4 d_X11_worthBy_15 (by decide) ?_
  refine g_ialdv ((m_X11_goBy I x1 x2) 70 4) rfl d_X11_worthBy_16 rfl (Nat.le_of_ble_eq_true rfl) (vp_c (by decide +kernel)) ?_
  refine g_aload_n0 rfl d_X11_worthBy_17 ?_
  refine g_getP (b := 70) f_X11_26 d_X11_worthBy_18 rfl (Nat.le_of_ble_eq_true rfl) rfl rfl ?_
  refine g_iconst 4 d_X11_worthBy_21 (by decide) ?_
  refine g_ialdv ((m_X11_goBy I x1 x2) 70 4) rfl d_X11_worthBy_22 rfl (Nat.le_of_ble_eq_true rfl) (vp_c (by decide +kernel)) ?_
  refine g_iload_n2 rfl d_X11_worthBy_23 ?_
  refine g_iadd d_X11_worthBy_24 ?_
  have ho2 := hok
  refine g_callV1 (c_X11_worthsOf (m_X11_goBy I x1 x2) 73 rfl ((m_X11_goBy I x1 x2) 70 4) (((m_X11_goBy I x1 x2) 70 4) + x2) ho2) w_X11_worthsOf l_X11_301 d_X11_worthBy_25 rfl (Nat.le_of_ble_eq_true rfl) rfl rfl (Nat.le_of_ble_eq_true rfl) ⟨Nat.le_of_ble_eq_true rfl, Nat.le_of_ble_eq_true rfl⟩ ⟨Nat.zero_le _, Nat.zero_le _⟩ ⟨rfl, rfl⟩ ?_
  refine g_aload_n0 rfl d_X11_worthBy_28 ?_
  refine g_getI f_X11_305 d_X11_worthBy_29 rfl (Nat.le_of_ble_eq_true rfl) rfl ?_
  refine g_isub d_X11_worthBy_32 ?_
  exact g_iret rfl d_X11_worthBy_33 ⟨by simp only [f_X11_worthBy, m_X11_worthBy, opv_eq, if_true, if_false, Bool.false_eq_true, reduceCtorEq, b2i_t, b2i_f], by simp only [f_X11_worthBy, m_X11_worthBy, opv_eq, if_true, if_false, Bool.false_eq_true, reduceCtorEq, b2i_t, b2i_f]⟩ (Nat.le_refl _) (Nat.le_refl _)
noncomputable def u0_X11_isRowOf (I : Nat → Nat → Int32) (l3 : Int32) (l4 : Bool) : Bool := opv (if l4 = true then (if (I 68 5) < (l3 - l3 / 10 * 10) then false else true) else false)
noncomputable def lp_X11_isRowOf_14 (I : Nat → Nat → Int32) (x1 : Int32) (x2 : Int32) : Nat → Int32 → Bool → Int32 → Int32 × Bool × Int32
  | 0, l3, l4, l5 => (l3, l4, l5)
  | n + 1, l3, l4, l5 => (if x2 ≤ l5 then (l3, l4, l5) else (lp_X11_isRowOf_14 I x1 x2 n (l3 / 10) (u0_X11_isRowOf I l3 l4) (l5 + 1)))
set_option maxHeartbeats 800000 in
set_option maxRecDepth 4000 in
theorem k_lp_X11_isRowOf_14 {k : KT} {ex : Bool} {J : Nat → Nat → Int64} {w : Bool} (I : Nat → Nat → Int32) (x1 : Int32) (x2 : Int32) {F : FinT} : ∀ (n : Nat) (l3 : Int32) (l4 : Bool) (l5 : Int32), mu_up x2 l5 < n → G k mX11_isRowOf (roomOf 1 0 0) F 0 0 56 [some (.ref (ka k 65)), some (.int x1), some (.int x2), some (.int ((lp_X11_isRowOf_14 I x1 x2 n l3 l4 l5).1)), some (.int (b2i ((lp_X11_isRowOf_14 I x1 x2 n l3 l4 l5).2.1))), some (.int ((lp_X11_isRowOf_14 I x1 x2 n l3 l4 l5).2.2))] [] (81, ex, I, J, Pw w) → G k mX11_isRowOf (roomOf 1 0 0) F 0 0 14 [some (.ref (ka k 65)), some (.int x1), some (.int x2), some (.int l3), some (.int (b2i l4)), some (.int l5)] [] (81, ex, I, J, Pw w) := by
  intro n
  induction n with
  | zero => intro l3 l4 l5 hmu hj; exact absurd hmu (Nat.not_lt_zero _)
  | succ n ih =>
    intro l3 l4 l5 hmu hj
    refine g_iload (i := 5) rfl d_X11_isRowOf_14 ?_
    refine g_iload_n2 rfl d_X11_isRowOf_16 ?_
    refine g_icmp_ge 56 d_X11_isRowOf_17 (by decide) (fun h1 => ?_) (fun h1 => ?_)
    · skip
      (try simp only [lp_X11_isRowOf_14, if_pos h1, opv_eq, if_true, if_false, Bool.false_eq_true, reduceCtorEq, b2i_t, b2i_f] at hj); exact hj
    · skip
      refine g_iload (i := 4) rfl d_X11_isRowOf_20 ?_
      refine g_cut (pc' := 43) (vs' := [some (.ref (ka k 65)), some (.int x1), some (.int x2), some (.int l3), some (.int (b2i l4)), some (.int l5)]) (st' := [.int (b2i (u0_X11_isRowOf I l3 l4))]) (M' := (81, ex, I, J, Pw w)) (fun hj => ?_) ?_
      · skip
        refine g_ifz 42 d_X11_isRowOf_22 (by decide) (fun h2 => ?_) (fun h2 => ?_)
        · skip
          refine g_iconst 0 d_X11_isRowOf_42 (by decide) ?_
          (try simp only [if_neg (nb h2), opv_eq, if_true, if_false, Bool.false_eq_true, reduceCtorEq, b2i_t, b2i_f, u0_X11_isRowOf] at hj); exact hj
        · skip
          refine g_iload_n3 rfl d_X11_isRowOf_25 ?_
          refine g_bipush 10 d_X11_isRowOf_26 (by decide) ?_
          refine g_irem (by decide) d_X11_isRowOf_28 ?_
          refine g_aload_n0 rfl d_X11_isRowOf_29 ?_
          refine g_getP (b := 68) f_X11_20 d_X11_isRowOf_30 rfl (Nat.le_of_ble_eq_true rfl) rfl rfl ?_
          refine g_iconst 5 d_X11_isRowOf_33 (by decide) ?_
          refine g_ialdv (I 68 5) rfl d_X11_isRowOf_34 rfl (Nat.le_of_ble_eq_true rfl) (vp_c (by decide +kernel)) ?_
          refine g_icmp_gt 42 d_X11_isRowOf_35 (by decide) (fun h3 => ?_) (fun h3 => ?_)
          · skip
            refine g_iconst 0 d_X11_isRowOf_42 (by decide) ?_
            (try simp only [if_pos h2, if_pos h3, opv_eq, if_true, if_false, Bool.false_eq_true, reduceCtorEq, b2i_t, b2i_f, u0_X11_isRowOf] at hj); exact hj
          · skip
            refine g_iconst 1 d_X11_isRowOf_38 (by decide) ?_
            refine g_goto 43 d_X11_isRowOf_39 (by decide) ?_
            (try simp only [if_pos h2, if_neg h3, opv_eq, if_true, if_false, Bool.false_eq_true, reduceCtorEq, b2i_t, b2i_f, u0_X11_isRowOf] at hj); exact hj
      · skip
        refine g_is4 rfl d_X11_isRowOf_43 ?_
        refine g_iload_n3 rfl d_X11_isRowOf_45 ?_
        refine g_bipush 10 d_X11_isRowOf_46 (by decide) ?_
        refine g_idiv (by decide) d_X11_isRowOf_48 ?_
        refine g_isn3 rfl d_X11_isRowOf_49 ?_
        refine g_ic5 (l5 + 1) rfl rfl d_X11_isRowOf_50 ?_
        refine g_goto 14 d_X11_isRowOf_53 (by decide) ?_
        exact ih (l3 / 10) (u0_X11_isRowOf I l3 l4) (l5 + 1) (Nat.lt_of_lt_of_le (mu_up_lt h1) (Nat.le_of_lt_succ hmu)) (by (try simp only [lp_X11_isRowOf_14, if_neg h1, opv_eq, if_true, if_false, Bool.false_eq_true, reduceCtorEq, b2i_t, b2i_f] at hj); exact hj)
noncomputable def u1_X11_isRowOf (I : Nat → Nat → Int32) (x1 : Int32) (x2 : Int32) : Bool := opv (if ((lp_X11_isRowOf_14 I x1 x2 (mu_up x2 0 + 1) x1 true 0).2.1) = true then (if ((lp_X11_isRowOf_14 I x1 x2 (mu_up x2 0 + 1) x1 true 0).1) = 0 then true else false) else false)
noncomputable def f_X11_isRowOf (I : Nat → Nat → Int32) (x1 : Int32) (x2 : Int32) : Bool := opv (if 0 ≤ x1 then (u1_X11_isRowOf I x1 x2) else false)
set_option maxHeartbeats 800000 in
set_option maxRecDepth 4000 in
theorem c_X11_isRowOf {k : KT} {ex : Bool} {J : Nat → Nat → Int64} {w : Bool} (I : Nat → Nat → Int32) (x1 : Int32) (x2 : Int32)  : Cx k mX11_isRowOf 1 [.ref (ka k 65), .int x1, .int x2] (81, ex, I, J, Pw w) (some (.int (b2i (f_X11_isRowOf I x1 x2)))) (81, ex, I, J, Pw w) := by
  refine Ct.of rfl [some (.ref (ka k 65)), some (.int x1), some (.int x2), none, none, none] rfl rfl (Nat.le_of_ble_eq_true rfl) ?_
  refine g_iload_n1 rfl d_X11_isRowOf_0 ?_
  refine g_if_ge 6 d_X11_isRowOf_1 (by decide) (fun h4 => ?_) (fun h4 => ?_)
  · skip
    refine g_iload_n1 rfl d_X11_isRowOf_6 ?_
    refine g_isn3 rfl d_X11_isRowOf_7 ?_
    refine g_iconst 1 d_X11_isRowOf_8 (by decide) ?_
    refine g_is4 rfl d_X11_isRowOf_9 ?_
    refine g_iconst 0 d_X11_isRowOf_11 (by decide) ?_
    refine g_is5 rfl d_X11_isRowOf_12 ?_
    refine k_lp_X11_isRowOf_14 I x1 x2 _ x1 true 0 (Nat.lt_succ_self _) ?_
    refine g_iload (i := 4) rfl d_X11_isRowOf_56 ?_
    refine g_cut (pc' := 70) (vs' := [some (.ref (ka k 65)), some (.int x1), some (.int x2), some (.int ((lp_X11_isRowOf_14 I x1 x2 (mu_up x2 0 + 1) x1 true 0).1)), some (.int (b2i ((lp_X11_isRowOf_14 I x1 x2 (mu_up x2 0 + 1) x1 true 0).2.1))), some (.int ((lp_X11_isRowOf_14 I x1 x2 (mu_up x2 0 + 1) x1 true 0).2.2))]) (st' := [.int (b2i (u1_X11_isRowOf I x1 x2))]) (M' := (81, ex, I, J, Pw w)) (fun hj => ?_) ?_
    · skip
      refine g_ifz 69 d_X11_isRowOf_58 (by decide) (fun h5 => ?_) (fun h5 => ?_)
      · skip
        refine g_iconst 0 d_X11_isRowOf_69 (by decide) ?_
        (try simp only [if_neg (nb h5), opv_eq, if_true, if_false, Bool.false_eq_true, reduceCtorEq, b2i_t, b2i_f, u1_X11_isRowOf] at hj); exact hj
      · skip
        refine g_iload_n3 rfl d_X11_isRowOf_61 ?_
        refine g_if_ne 69 d_X11_isRowOf_62 (by decide) (fun h6 => ?_) (fun h6 => ?_)
        · skip
          refine g_iconst 0 d_X11_isRowOf_69 (by decide) ?_
          (try simp only [if_pos h5, if_neg h6, opv_eq, if_true, if_false, Bool.false_eq_true, reduceCtorEq, b2i_t, b2i_f, u1_X11_isRowOf] at hj); exact hj
        · skip
          refine g_iconst 1 d_X11_isRowOf_65 (by decide) ?_
          refine g_goto 70 d_X11_isRowOf_66 (by decide) ?_
          (try simp only [if_pos h5, if_pos h6, opv_eq, if_true, if_false, Bool.false_eq_true, reduceCtorEq, b2i_t, b2i_f, u1_X11_isRowOf] at hj); exact hj
    · skip
      exact g_zret rfl (nar_b _) d_X11_isRowOf_70 ⟨by simp only [f_X11_isRowOf, if_pos h4, opv_eq, if_true, if_false, Bool.false_eq_true, reduceCtorEq, b2i_t, b2i_f], rfl⟩ (Nat.le_refl _) (Nat.le_refl _)
  · skip
    refine g_iconst 0 d_X11_isRowOf_4 (by decide) ?_
    exact g_zret rfl (by decide) d_X11_isRowOf_5 ⟨by simp only [f_X11_isRowOf, if_neg h4, opv_eq, if_true, if_false, Bool.false_eq_true, reduceCtorEq, b2i_t, b2i_f], rfl⟩ (Nat.le_refl _) (Nat.le_refl _)
noncomputable def f_X11_worthOf (I : Nat → Nat → Int32) (x1 : Int32) (x2 : Int32) : Int32 := opv (if ((m_X11_good I) 65 14) = 0 then f_X11_no (m_X11_good I) 1 else (if (f_X11_in (m_X11_good I) x2 1 4) = true then (if (f_X11_isRowOf (m_X11_good I) x1 x2) = true then (f_X11_worthBy (m_X11_good I) x1 x2) + 1000 else f_X11_no (m_X11_good I) 2) else f_X11_no (m_X11_good I) 2))
noncomputable def m_X11_worthOf (I : Nat → Nat → Int32) (x1 : Int32) (x2 : Int32) : Nat → Nat → Int32 := opv (if ((m_X11_good I) 65 14) = 0 then (m_X11_no (m_X11_good I) 1) else (if (f_X11_in (m_X11_good I) x2 1 4) = true then (if (f_X11_isRowOf (m_X11_good I) x1 x2) = true then (m_X11_worthBy (m_X11_good I) x1 x2) else (m_X11_no (m_X11_good I) 2)) else (m_X11_no (m_X11_good I) 2)))
noncomputable def ok_X11_worthOf (I : Nat → Nat → Int32) (x1 : Int32) (x2 : Int32) : Prop := opv (if ((m_X11_good I) 65 14) = 0 then True else (if (f_X11_in (m_X11_good I) x2 1 4) = true then (if (f_X11_isRowOf (m_X11_good I) x1 x2) = true then ok_X11_worthBy (m_X11_good I) x1 x2 else True) else True))
set_option maxHeartbeats 800000 in
set_option maxRecDepth 4000 in
theorem c_X11_worthOf {k : KT} {ex : Bool} {J : Nat → Nat → Int64} {w : Bool} (I : Nat → Nat → Int32) (x1 : Int32) (x2 : Int32)  (hok : ok_X11_worthOf I x1 x2) : Cx k mX11_worthOf 7 [.ref (ka k 65), .int x1, .int x2] (81, ex, I, J, Pw w) (some (.int (f_X11_worthOf I x1 x2))) (81, ex, m_X11_worthOf I x1 x2, J, Pw w) := by
  refine Ct.of rfl [some (.ref (ka k 65)), some (.int x1), some (.int x2)] rfl rfl (Nat.le_of_ble_eq_true rfl) ?_
  rw [ok_X11_worthOf, opv_eq] at hok
  refine g_aload_n0 rfl d_X11_worthOf_0 ?_
  refine g_callV0 (c_X11_good I ) w_X11_good l_X11_168 d_X11_worthOf_1 rfl (Nat.le_of_ble_eq_true rfl) rfl rfl (Nat.le_of_ble_eq_true rfl) ⟨Nat.le_of_ble_eq_true rfl, Nat.le_of_ble_eq_true rfl⟩ ⟨Nat.zero_le _, Nat.zero_le _⟩ ⟨rfl, rfl⟩ ?_
  refine g_aload_n0 rfl d_X11_worthOf_4 ?_
  refine g_getI f_X11_185 d_X11_worthOf_5 rfl (Nat.le_of_ble_eq_true rfl) rfl ?_
  refine g_if_ne 17 d_X11_worthOf_8 (by decide) (fun h1 => ?_) (fun h1 => ?_)
  · skip
    rw [if_neg h1] at hok
    refine g_iload_n2 rfl d_X11_worthOf_17 ?_
    refine g_iconst 1 d_X11_worthOf_18 (by decide) ?_
    refine g_iconst 4 d_X11_worthOf_19 (by decide) ?_
    refine g_callS1 (c_X11_in (m_X11_good I) x2 1 4) w_X11_in l_X11_149 d_X11_worthOf_20 rfl rfl (Nat.le_of_ble_eq_true rfl) ⟨Nat.le_of_ble_eq_true rfl, Nat.le_of_ble_eq_true rfl⟩ ⟨Nat.zero_le _, Nat.zero_le _⟩ ⟨rfl, rfl⟩ ?_
    refine g_ifz 35 d_X11_worthOf_23 (by decide) (fun h2 => ?_) (fun h2 => ?_)
    · skip
      refine g_aload_n0 rfl d_X11_worthOf_35 ?_
      refine g_iconst 2 d_X11_worthOf_36 (by decide) ?_
      refine g_callV1 (c_X11_no (m_X11_good I) 2) w_X11_no l_X11_171 d_X11_worthOf_37 rfl (Nat.le_of_ble_eq_true rfl) rfl rfl (Nat.le_of_ble_eq_true rfl) ⟨Nat.le_of_ble_eq_true rfl, Nat.le_of_ble_eq_true rfl⟩ ⟨Nat.zero_le _, Nat.zero_le _⟩ ⟨rfl, rfl⟩ ?_
      exact g_iret rfl d_X11_worthOf_40 ⟨by simp only [f_X11_worthOf, m_X11_worthOf, if_neg h1, if_neg (nb h2), opv_eq, if_true, if_false, Bool.false_eq_true, reduceCtorEq, b2i_t, b2i_f], by simp only [f_X11_worthOf, m_X11_worthOf, if_neg h1, if_neg (nb h2), opv_eq, if_true, if_false, Bool.false_eq_true, reduceCtorEq, b2i_t, b2i_f]⟩ (Nat.le_refl _) (Nat.le_refl _)
    · skip
      rw [if_pos h2] at hok
      refine g_aload_n0 rfl d_X11_worthOf_26 ?_
      refine g_iload_n1 rfl d_X11_worthOf_27 ?_
      refine g_iload_n2 rfl d_X11_worthOf_28 ?_
      refine g_callV1 (c_X11_isRowOf (m_X11_good I) x1 x2) w_X11_isRowOf l_X11_311 d_X11_worthOf_29 rfl (Nat.le_of_ble_eq_true rfl) rfl rfl (Nat.le_of_ble_eq_true rfl) ⟨Nat.le_of_ble_eq_true rfl, Nat.le_of_ble_eq_true rfl⟩ ⟨Nat.zero_le _, Nat.zero_le _⟩ ⟨rfl, rfl⟩ ?_
      refine g_ifnz 41 d_X11_worthOf_32 (by decide) (fun h3 => ?_) (fun h3 => ?_)
      · skip
        rw [if_pos h3] at hok
        refine g_aload_n0 rfl d_X11_worthOf_41 ?_
        refine g_iload_n1 rfl d_X11_worthOf_42 ?_
        refine g_iload_n2 rfl d_X11_worthOf_43 ?_
        have ho1 := hok
        refine g_callV1 (c_X11_worthBy (m_X11_good I) x1 x2 ho1) w_X11_worthBy l_X11_314 d_X11_worthOf_44 rfl (Nat.le_of_ble_eq_true rfl) rfl rfl (Nat.le_of_ble_eq_true rfl) ⟨Nat.le_of_ble_eq_true rfl, Nat.le_of_ble_eq_true rfl⟩ ⟨Nat.zero_le _, Nat.zero_le _⟩ ⟨rfl, rfl⟩ ?_
        refine g_sipush 1000 d_X11_worthOf_47 (by decide) ?_
        refine g_iadd d_X11_worthOf_50 ?_
        exact g_iret rfl d_X11_worthOf_51 ⟨by simp only [f_X11_worthOf, m_X11_worthOf, if_neg h1, if_pos h2, if_pos h3, opv_eq, if_true, if_false, Bool.false_eq_true, reduceCtorEq, b2i_t, b2i_f], by simp only [f_X11_worthOf, m_X11_worthOf, if_neg h1, if_pos h2, if_pos h3, opv_eq, if_true, if_false, Bool.false_eq_true, reduceCtorEq, b2i_t, b2i_f]⟩ (Nat.le_refl _) (Nat.le_refl _)
      · skip
        refine g_aload_n0 rfl d_X11_worthOf_35 ?_
        refine g_iconst 2 d_X11_worthOf_36 (by decide) ?_
        refine g_callV1 (c_X11_no (m_X11_good I) 2) w_X11_no l_X11_171 d_X11_worthOf_37 rfl (Nat.le_of_ble_eq_true rfl) rfl rfl (Nat.le_of_ble_eq_true rfl) ⟨Nat.le_of_ble_eq_true rfl, Nat.le_of_ble_eq_true rfl⟩ ⟨Nat.zero_le _, Nat.zero_le _⟩ ⟨rfl, rfl⟩ ?_
        exact g_iret rfl d_X11_worthOf_40 ⟨by simp only [f_X11_worthOf, m_X11_worthOf, if_neg h1, if_pos h2, if_neg (nb h3), opv_eq, if_true, if_false, Bool.false_eq_true, reduceCtorEq, b2i_t, b2i_f], by simp only [f_X11_worthOf, m_X11_worthOf, if_neg h1, if_pos h2, if_neg (nb h3), opv_eq, if_true, if_false, Bool.false_eq_true, reduceCtorEq, b2i_t, b2i_f]⟩ (Nat.le_refl _) (Nat.le_refl _)
  · skip
    refine g_aload_n0 rfl d_X11_worthOf_11 ?_
    refine g_iconst 1 d_X11_worthOf_12 (by decide) ?_
    refine g_callV1 (c_X11_no (m_X11_good I) 1) w_X11_no l_X11_171 d_X11_worthOf_13 rfl (Nat.le_of_ble_eq_true rfl) rfl rfl (Nat.le_of_ble_eq_true rfl) ⟨Nat.le_of_ble_eq_true rfl, Nat.le_of_ble_eq_true rfl⟩ ⟨Nat.zero_le _, Nat.zero_le _⟩ ⟨rfl, rfl⟩ ?_
    exact g_iret rfl d_X11_worthOf_16 ⟨by simp only [f_X11_worthOf, m_X11_worthOf, if_pos h1, opv_eq, if_true, if_false, Bool.false_eq_true, reduceCtorEq, b2i_t, b2i_f], by simp only [f_X11_worthOf, m_X11_worthOf, if_pos h1, opv_eq, if_true, if_false, Bool.false_eq_true, reduceCtorEq, b2i_t, b2i_f]⟩ (Nat.le_refl _) (Nat.le_refl _)
noncomputable def lp_X11_rowsFor_4 (I : Nat → Nat → Int32) (x1 : Int32) : Nat → Int32 → Int32 → Int32 × Int32
  | 0, l1, l2 => (l1, l2)
  | n + 1, l1, l2 => (if x1 ≤ l2 then (l1, l2) else (lp_X11_rowsFor_4 I x1 n (l1 * 10) (l2 + 1)))
set_option maxHeartbeats 800000 in
set_option maxRecDepth 4000 in
theorem k_lp_X11_rowsFor_4 {k : KT} {ex : Bool} {J : Nat → Nat → Int64} {w : Bool} (I : Nat → Nat → Int32) (x1 : Int32) {F : FinT} : ∀ (n : Nat) (l1 : Int32) (l2 : Int32), mu_up x1 l2 < n → G k mX11_rowsFor (roomOf 1 0 0) F 0 0 20 [some (.int x1), some (.int ((lp_X11_rowsFor_4 I x1 n l1 l2).1)), some (.int ((lp_X11_rowsFor_4 I x1 n l1 l2).2))] [] (81, ex, I, J, Pw w) → G k mX11_rowsFor (roomOf 1 0 0) F 0 0 4 [some (.int x1), some (.int l1), some (.int l2)] [] (81, ex, I, J, Pw w) := by
  intro n
  induction n with
  | zero => intro l1 l2 hmu hj; exact absurd hmu (Nat.not_lt_zero _)
  | succ n ih =>
    intro l1 l2 hmu hj
    refine g_iload_n2 rfl d_X11_rowsFor_4 ?_
    refine g_iload_n0 rfl d_X11_rowsFor_5 ?_
    refine g_icmp_ge 20 d_X11_rowsFor_6 (by decide) (fun h1 => ?_) (fun h1 => ?_)
    · skip
      (try simp only [lp_X11_rowsFor_4, if_pos h1, opv_eq, if_true, if_false, Bool.false_eq_true, reduceCtorEq, b2i_t, b2i_f] at hj); exact hj
    · skip
      refine g_iload_n1 rfl d_X11_rowsFor_9 ?_
      refine g_bipush 10 d_X11_rowsFor_10 (by decide) ?_
      refine g_imul d_X11_rowsFor_12 ?_
      refine g_isn1 rfl d_X11_rowsFor_13 ?_
      refine g_ic2 (l2 + 1) rfl rfl d_X11_rowsFor_14 ?_
      refine g_goto 4 d_X11_rowsFor_17 (by decide) ?_
      exact ih (l1 * 10) (l2 + 1) (Nat.lt_of_lt_of_le (mu_up_lt h1) (Nat.le_of_lt_succ hmu)) (by (try simp only [lp_X11_rowsFor_4, if_neg h1, opv_eq, if_true, if_false, Bool.false_eq_true, reduceCtorEq, b2i_t, b2i_f] at hj); exact hj)
noncomputable def f_X11_rowsFor (I : Nat → Nat → Int32) (x1 : Int32) : Int32 := opv ((lp_X11_rowsFor_4 I x1 (mu_up x1 0 + 1) 1 0).1)
set_option maxHeartbeats 800000 in
set_option maxRecDepth 4000 in
theorem c_X11_rowsFor {k : KT} {ex : Bool} {J : Nat → Nat → Int64} {w : Bool} (I : Nat → Nat → Int32) (x1 : Int32)  : Cx k mX11_rowsFor 1 [.int x1] (81, ex, I, J, Pw w) (some (.int (f_X11_rowsFor I x1))) (81, ex, I, J, Pw w) := by
  refine Ct.of rfl [some (.int x1), none, none] rfl rfl (Nat.le_of_ble_eq_true rfl) ?_
  refine g_iconst 1 d_X11_rowsFor_0 (by decide) ?_
  refine g_isn1 rfl d_X11_rowsFor_1 ?_
  refine g_iconst 0 d_X11_rowsFor_2 (by decide) ?_
  refine g_isn2 rfl d_X11_rowsFor_3 ?_
  refine k_lp_X11_rowsFor_4 I x1 _ 1 0 (Nat.lt_succ_self _) ?_
  refine g_iload_n1 rfl d_X11_rowsFor_20 ?_
  exact g_iret rfl d_X11_rowsFor_21 ⟨by simp only [f_X11_rowsFor, opv_eq, if_true, if_false, Bool.false_eq_true, reduceCtorEq, b2i_t, b2i_f], rfl⟩ (Nat.le_refl _) (Nat.le_refl _)
theorem rows_lp (I I' : Nat → Nat → Int32) (x : Int32) : ∀ (n : Nat) (a b : Int32), lp_X11_rowsFor_4 I x n a b = lp_X11_rowsFor_4 I' x n a b := by
  intro n
  induction n with
  | zero => intro a b; rfl
  | succ n ih => intro a b; simp only [lp_X11_rowsFor_4, ih]
theorem rows_I (I I' : Nat → Nat → Int32) (x : Int32) : f_X11_rowsFor I x = f_X11_rowsFor I' x := by
  simp only [f_X11_rowsFor, opv_eq, rows_lp I I' x]
noncomputable def u0_X11_bestOf (x1 : Int32) (l4 : Int32) (I1 : Nat → Nat → Int32) : Int32 := opv (if (f_X11_isRowOf I1 l4 x1) = true then f_X11_worthBy I1 l4 x1 else (-1000000))
noncomputable def u1_X11_bestOf (x1 : Int32) (l4 : Int32) (I1 : Nat → Nat → Int32) : Nat → Nat → Int32 := opv (if (f_X11_isRowOf I1 l4 x1) = true then (m_X11_worthBy I1 l4 x1) else I1)
noncomputable def u2_X11_bestOf (x1 : Int32) (l3 : Int32) (l4 : Int32) (I1 : Nat → Nat → Int32) : Int32 := opv (if l3 < (u0_X11_bestOf x1 l4 I1) then (u0_X11_bestOf x1 l4 I1) else l3)
noncomputable def lp_X11_bestOf_12 (x1 : Int32) : Nat → Int32 → Int32 → Int32 → (Nat → Nat → Int32) → Int32 × Int32 × Int32 × (Nat → Nat → Int32)
  | 0, l2, l3, l4, I1 => (l2, l3, l4, I1)
  | n + 1, l2, l3, l4, I1 => (if (f_X11_rowsFor I1 x1) ≤ l4 then (l2, l3, l4, I1) else (lp_X11_bestOf_12 x1 n (if l3 < (u0_X11_bestOf x1 l4 I1) then l4 else l2) (u2_X11_bestOf x1 l3 l4 I1) (l4 + 1) (u1_X11_bestOf x1 l4 I1)))
def oklp_X11_bestOf_12 (x1 : Int32) : Nat → Int32 → Int32 → Int32 → (Nat → Nat → Int32) → Prop
  | 0, l2, l3, l4, I1 => True
  | n + 1, l2, l3, l4, I1 => (if (f_X11_rowsFor I1 x1) ≤ l4 then True else ((if (f_X11_isRowOf I1 l4 x1) = true then ok_X11_worthBy I1 l4 x1 else True) ∧ oklp_X11_bestOf_12 x1 n (if l3 < (u0_X11_bestOf x1 l4 I1) then l4 else l2) (u2_X11_bestOf x1 l3 l4 I1) (l4 + 1) (u1_X11_bestOf x1 l4 I1)))
set_option maxHeartbeats 800000 in
set_option maxRecDepth 4000 in
theorem k_lp_X11_bestOf_12 {k : KT} {ex : Bool} {J : Nat → Nat → Int64} {w : Bool} (x1 : Int32) {F : FinT} : ∀ (n : Nat) (l2 : Int32) (l3 : Int32) (l4 : Int32) (I1 : (Nat → Nat → Int32)), mu_up (f_X11_rowsFor I1 x1) l4 < n → oklp_X11_bestOf_12 x1 n l2 l3 l4 I1 → G k mX11_bestOf (roomOf 7 0 0) F 0 0 67 [some (.ref (ka k 65)), some (.int x1), some (.int ((lp_X11_bestOf_12 x1 n l2 l3 l4 I1).1)), some (.int ((lp_X11_bestOf_12 x1 n l2 l3 l4 I1).2.1)), some (.int ((lp_X11_bestOf_12 x1 n l2 l3 l4 I1).2.2.1)), none] [] (81, ex, (lp_X11_bestOf_12 x1 n l2 l3 l4 I1).2.2.2, J, Pw w) → G k mX11_bestOf (roomOf 7 0 0) F 0 0 12 [some (.ref (ka k 65)), some (.int x1), some (.int l2), some (.int l3), some (.int l4), none] [] (81, ex, I1, J, Pw w) := by
  intro n
  induction n with
  | zero => intro l2 l3 l4 I1 hmu hok hj; exact absurd hmu (Nat.not_lt_zero _)
  | succ n ih =>
    intro l2 l3 l4 I1 hmu hok hj
    rw [oklp_X11_bestOf_12] at hok
    refine g_iload (i := 4) rfl d_X11_bestOf_12 ?_
    refine g_iload_n1 rfl d_X11_bestOf_14 ?_
    refine g_callS1 (c_X11_rowsFor I1 x1) w_X11_rowsFor l_X11_317 d_X11_bestOf_15 rfl rfl (Nat.le_of_ble_eq_true rfl) ⟨Nat.le_of_ble_eq_true rfl, Nat.le_of_ble_eq_true rfl⟩ ⟨Nat.zero_le _, Nat.zero_le _⟩ ⟨rfl, rfl⟩ ?_
    refine g_icmp_ge 67 d_X11_bestOf_18 (by decide) (fun h1 => ?_) (fun h1 => ?_)
    · skip
      (try simp only [lp_X11_bestOf_12, if_pos h1, opv_eq, if_true, if_false, Bool.false_eq_true, reduceCtorEq, b2i_t, b2i_f] at hj); exact hj
    · skip
      rw [if_neg h1] at hok
      refine g_aload_n0 rfl d_X11_bestOf_21 ?_
      refine g_iload (i := 4) rfl d_X11_bestOf_22 ?_
      refine g_iload_n1 rfl d_X11_bestOf_24 ?_
      refine g_callV1 (c_X11_isRowOf I1 l4 x1) w_X11_isRowOf l_X11_311 d_X11_bestOf_25 rfl (Nat.le_of_ble_eq_true rfl) rfl rfl (Nat.le_of_ble_eq_true rfl) ⟨Nat.le_of_ble_eq_true rfl, Nat.le_of_ble_eq_true rfl⟩ ⟨Nat.zero_le _, Nat.zero_le _⟩ ⟨rfl, rfl⟩ ?_
      obtain ⟨hoa, hob⟩ := hok
      refine g_cut (pc' := 44) (vs' := [some (.ref (ka k 65)), some (.int x1), some (.int l2), some (.int l3), some (.int l4), none]) (st' := [.int (u0_X11_bestOf x1 l4 I1)]) (M' := (81, ex, (u1_X11_bestOf x1 l4 I1), J, Pw w)) (fun hj => ?_) ?_
      · skip
        refine g_ifz 41 d_X11_bestOf_28 (by decide) (fun h2 => ?_) (fun h2 => ?_)
        · skip
          refine g_ldcw (v := (-1000000)) (in7 155 (by decide +kernel) rfl) d_X11_bestOf_41 ?_
          (try simp only [if_neg (nb h2), opv_eq, if_true, if_false, Bool.false_eq_true, reduceCtorEq, b2i_t, b2i_f, u0_X11_bestOf, u1_X11_bestOf] at hj); exact hj
        · skip
          rw [if_pos h2] at hoa
          refine g_aload_n0 rfl d_X11_bestOf_31 ?_
          refine g_iload (i := 4) rfl d_X11_bestOf_32 ?_
          refine g_iload_n1 rfl d_X11_bestOf_34 ?_
          have ho2 := hoa
          refine g_callV1 (c_X11_worthBy I1 l4 x1 ho2) w_X11_worthBy l_X11_314 d_X11_bestOf_35 rfl (Nat.le_of_ble_eq_true rfl) rfl rfl (Nat.le_of_ble_eq_true rfl) ⟨Nat.le_of_ble_eq_true rfl, Nat.le_of_ble_eq_true rfl⟩ ⟨Nat.zero_le _, Nat.zero_le _⟩ ⟨rfl, rfl⟩ ?_
          refine g_goto 44 d_X11_bestOf_38 (by decide) ?_
          (try simp only [if_pos h2, opv_eq, if_true, if_false, Bool.false_eq_true, reduceCtorEq, b2i_t, b2i_f, u0_X11_bestOf, u1_X11_bestOf] at hj); exact hj
      · skip
        refine g_is5 rfl d_X11_bestOf_44 ?_
        refine g_iload (i := 5) rfl d_X11_bestOf_46 ?_
        refine g_iload_n3 rfl d_X11_bestOf_48 ?_
        refine g_cut (pc' := 61) (vs' := [some (.ref (ka k 65)), some (.int x1), some (.int (if l3 < (u0_X11_bestOf x1 l4 I1) then l4 else l2)), some (.int (u2_X11_bestOf x1 l3 l4 I1)), some (.int l4), some (.int (u0_X11_bestOf x1 l4 I1))]) (st' := []) (M' := (81, ex, (u1_X11_bestOf x1 l4 I1), J, Pw w)) (fun hj => ?_) ?_
        · skip
          refine g_icmp_gt 55 d_X11_bestOf_49 (by decide) (fun h3 => ?_) (fun h3 => ?_)
          · skip
            refine g_iload (i := 4) rfl d_X11_bestOf_55 ?_
            refine g_isn2 rfl d_X11_bestOf_57 ?_
            refine g_iload (i := 5) rfl d_X11_bestOf_58 ?_
            refine g_isn3 rfl d_X11_bestOf_60 ?_
            (try simp only [if_pos h3, opv_eq, if_true, if_false, Bool.false_eq_true, reduceCtorEq, b2i_t, b2i_f, u2_X11_bestOf] at hj); exact hj
          · skip
            refine g_goto 61 d_X11_bestOf_52 (by decide) ?_
            (try simp only [if_neg h3, opv_eq, if_true, if_false, Bool.false_eq_true, reduceCtorEq, b2i_t, b2i_f, u2_X11_bestOf] at hj); exact hj
        · skip
          refine g_ic4 (l4 + 1) rfl rfl d_X11_bestOf_61 ?_
          refine g_goto 12 d_X11_bestOf_64 (by decide) ?_
          refine G.weak (wks (wks (wks (wks (wks (wkn wk0)))))) ?_; exact ih (if l3 < (u0_X11_bestOf x1 l4 I1) then l4 else l2) (u2_X11_bestOf x1 l3 l4 I1) (l4 + 1) (u1_X11_bestOf x1 l4 I1) (Nat.lt_of_lt_of_le (by rw [rows_I _ I1]; exact mu_up_lt h1) (Nat.le_of_lt_succ hmu)) (by (try simp only [if_neg h1, opv_eq, if_true, if_false, Bool.false_eq_true, reduceCtorEq, b2i_t, b2i_f] at hob); exact hob) (by (try simp only [lp_X11_bestOf_12, if_neg h1, opv_eq, if_true, if_false, Bool.false_eq_true, reduceCtorEq, b2i_t, b2i_f] at hj); exact hj)
noncomputable def f_X11_bestOf (I : Nat → Nat → Int32) (x1 : Int32) : Int32 := opv ((lp_X11_bestOf_12 x1 (mu_up (f_X11_rowsFor (m_X11_worthBy I 0 x1) x1) 1 + 1) 0 (f_X11_worthBy I 0 x1) 1 (m_X11_worthBy I 0 x1)).1)
noncomputable def m_X11_bestOf (I : Nat → Nat → Int32) (x1 : Int32) : Nat → Nat → Int32 := opv ((lp_X11_bestOf_12 x1 (mu_up (f_X11_rowsFor (m_X11_worthBy I 0 x1) x1) 1 + 1) 0 (f_X11_worthBy I 0 x1) 1 (m_X11_worthBy I 0 x1)).2.2.2)
noncomputable def ok_X11_bestOf (I : Nat → Nat → Int32) (x1 : Int32) : Prop := opv (ok_X11_worthBy I 0 x1 ∧ oklp_X11_bestOf_12 x1 (mu_up (f_X11_rowsFor (m_X11_worthBy I 0 x1) x1) 1 + 1) 0 (f_X11_worthBy I 0 x1) 1 (m_X11_worthBy I 0 x1))
set_option maxHeartbeats 800000 in
set_option maxRecDepth 4000 in
theorem c_X11_bestOf {k : KT} {ex : Bool} {J : Nat → Nat → Int64} {w : Bool} (I : Nat → Nat → Int32) (x1 : Int32)  (hok : ok_X11_bestOf I x1) : Cx k mX11_bestOf 7 [.ref (ka k 65), .int x1] (81, ex, I, J, Pw w) (some (.int (f_X11_bestOf I x1))) (81, ex, m_X11_bestOf I x1, J, Pw w) := by
  refine Ct.of rfl [some (.ref (ka k 65)), some (.int x1), none, none, none, none] rfl rfl (Nat.le_of_ble_eq_true rfl) ?_
  rw [ok_X11_bestOf, opv_eq] at hok
  refine g_iconst 0 d_X11_bestOf_0 (by decide) ?_
  refine g_isn2 rfl d_X11_bestOf_1 ?_
  refine g_aload_n0 rfl d_X11_bestOf_2 ?_
  refine g_iconst 0 d_X11_bestOf_3 (by decide) ?_
  refine g_iload_n1 rfl d_X11_bestOf_4 ?_
  obtain ⟨ho1, hok⟩ := hok
  refine g_callV1 (c_X11_worthBy I 0 x1 ho1) w_X11_worthBy l_X11_314 d_X11_bestOf_5 rfl (Nat.le_of_ble_eq_true rfl) rfl rfl (Nat.le_of_ble_eq_true rfl) ⟨Nat.le_of_ble_eq_true rfl, Nat.le_of_ble_eq_true rfl⟩ ⟨Nat.zero_le _, Nat.zero_le _⟩ ⟨rfl, rfl⟩ ?_
  refine g_isn3 rfl d_X11_bestOf_8 ?_
  refine g_iconst 1 d_X11_bestOf_9 (by decide) ?_
  refine g_is4 rfl d_X11_bestOf_10 ?_
  refine k_lp_X11_bestOf_12 x1 _ 0 (f_X11_worthBy I 0 x1) 1 (m_X11_worthBy I 0 x1) (Nat.lt_succ_self _) hok ?_
  refine g_iload_n2 rfl d_X11_bestOf_67 ?_
  exact g_iret rfl d_X11_bestOf_68 ⟨by simp only [f_X11_bestOf, m_X11_bestOf, opv_eq, if_true, if_false, Bool.false_eq_true, reduceCtorEq, b2i_t, b2i_f], by simp only [f_X11_bestOf, m_X11_bestOf, opv_eq, if_true, if_false, Bool.false_eq_true, reduceCtorEq, b2i_t, b2i_f]⟩ (Nat.le_refl _) (Nat.le_refl _)
noncomputable def u0_X11_bestRow (I : Nat → Nat → Int32) (x1 : Int32) : Int32 := opv (if (f_X11_why (m_X11_good I) x1 1 4) = 0 then f_X11_bestOf (m_X11_good I) x1 else f_X11_no (m_X11_good I) (f_X11_why (m_X11_good I) x1 1 4))
noncomputable def u1_X11_bestRow (I : Nat → Nat → Int32) (x1 : Int32) : Nat → Nat → Int32 := opv (if (f_X11_why (m_X11_good I) x1 1 4) = 0 then (m_X11_bestOf (m_X11_good I) x1) else (m_X11_no (m_X11_good I) (f_X11_why (m_X11_good I) x1 1 4)))
noncomputable def f_X11_bestRow (I : Nat → Nat → Int32) (x1 : Int32) : Int32 := opv (u0_X11_bestRow I x1)
noncomputable def m_X11_bestRow (I : Nat → Nat → Int32) (x1 : Int32) : Nat → Nat → Int32 := opv (u1_X11_bestRow I x1)
noncomputable def ok_X11_bestRow (I : Nat → Nat → Int32) (x1 : Int32) : Prop := opv (if (f_X11_why (m_X11_good I) x1 1 4) = 0 then ok_X11_bestOf (m_X11_good I) x1 else True)
set_option maxHeartbeats 800000 in
set_option maxRecDepth 4000 in
theorem c_X11_bestRow {k : KT} {ex : Bool} {J : Nat → Nat → Int64} {w : Bool} (I : Nat → Nat → Int32) (x1 : Int32)  (hok : ok_X11_bestRow I x1) : Cx k mX11_bestRow 8 [.ref (ka k 65), .int x1] (81, ex, I, J, Pw w) (some (.int (f_X11_bestRow I x1))) (81, ex, m_X11_bestRow I x1, J, Pw w) := by
  refine Ct.of rfl [some (.ref (ka k 65)), some (.int x1), none] rfl rfl (Nat.le_of_ble_eq_true rfl) ?_
  rw [ok_X11_bestRow, opv_eq] at hok
  refine g_aload_n0 rfl d_X11_bestRow_0 ?_
  refine g_callV0 (c_X11_good I ) w_X11_good l_X11_168 d_X11_bestRow_1 rfl (Nat.le_of_ble_eq_true rfl) rfl rfl (Nat.le_of_ble_eq_true rfl) ⟨Nat.le_of_ble_eq_true rfl, Nat.le_of_ble_eq_true rfl⟩ ⟨Nat.zero_le _, Nat.zero_le _⟩ ⟨rfl, rfl⟩ ?_
  refine g_aload_n0 rfl d_X11_bestRow_4 ?_
  refine g_iload_n1 rfl d_X11_bestRow_5 ?_
  refine g_iconst 1 d_X11_bestRow_6 (by decide) ?_
  refine g_iconst 4 d_X11_bestRow_7 (by decide) ?_
  refine g_callV1 (c_X11_why (m_X11_good I) x1 1 4) w_X11_why l_X11_295 d_X11_bestRow_8 rfl (Nat.le_of_ble_eq_true rfl) rfl rfl (Nat.le_of_ble_eq_true rfl) ⟨Nat.le_of_ble_eq_true rfl, Nat.le_of_ble_eq_true rfl⟩ ⟨Nat.zero_le _, Nat.zero_le _⟩ ⟨rfl, rfl⟩ ?_
  refine g_isn2 rfl d_X11_bestRow_11 ?_
  refine g_iload_n2 rfl d_X11_bestRow_12 ?_
  refine g_cut (pc' := 29) (vs' := [some (.ref (ka k 65)), some (.int x1), some (.int (f_X11_why (m_X11_good I) x1 1 4))]) (st' := [.int (u0_X11_bestRow I x1)]) (M' := (81, ex, (u1_X11_bestRow I x1), J, Pw w)) (fun hj => ?_) ?_
  · skip
    refine g_if_eq 24 d_X11_bestRow_13 (by decide) (fun h1 => ?_) (fun h1 => ?_)
    · skip
      rw [if_pos h1] at hok
      refine g_aload_n0 rfl d_X11_bestRow_24 ?_
      refine g_iload_n1 rfl d_X11_bestRow_25 ?_
      have ho1 := hok
      refine g_callV1 (c_X11_bestOf (m_X11_good I) x1 ho1) w_X11_bestOf l_X11_321 d_X11_bestRow_26 rfl (Nat.le_of_ble_eq_true rfl) rfl rfl (Nat.le_of_ble_eq_true rfl) ⟨Nat.le_of_ble_eq_true rfl, Nat.le_of_ble_eq_true rfl⟩ ⟨Nat.zero_le _, Nat.zero_le _⟩ ⟨rfl, rfl⟩ ?_
      (try simp only [if_pos h1, opv_eq, if_true, if_false, Bool.false_eq_true, reduceCtorEq, b2i_t, b2i_f, u0_X11_bestRow, u1_X11_bestRow] at hj); exact hj
    · skip
      refine g_aload_n0 rfl d_X11_bestRow_16 ?_
      refine g_iload_n2 rfl d_X11_bestRow_17 ?_
      refine g_callV1 (c_X11_no (m_X11_good I) (f_X11_why (m_X11_good I) x1 1 4)) w_X11_no l_X11_171 d_X11_bestRow_18 rfl (Nat.le_of_ble_eq_true rfl) rfl rfl (Nat.le_of_ble_eq_true rfl) ⟨Nat.le_of_ble_eq_true rfl, Nat.le_of_ble_eq_true rfl⟩ ⟨Nat.zero_le _, Nat.zero_le _⟩ ⟨rfl, rfl⟩ ?_
      refine g_goto 29 d_X11_bestRow_21 (by decide) ?_
      (try simp only [if_neg h1, opv_eq, if_true, if_false, Bool.false_eq_true, reduceCtorEq, b2i_t, b2i_f, u0_X11_bestRow, u1_X11_bestRow] at hj); exact hj
  · skip
    exact g_iret rfl d_X11_bestRow_29 ⟨by simp only [f_X11_bestRow, m_X11_bestRow, opv_eq, if_true, if_false, Bool.false_eq_true, reduceCtorEq, b2i_t, b2i_f], by simp only [f_X11_bestRow, m_X11_bestRow, opv_eq, if_true, if_false, Bool.false_eq_true, reduceCtorEq, b2i_t, b2i_f]⟩ (Nat.le_refl _) (Nat.le_refl _)
noncomputable def u0_X11_bestWorth (I : Nat → Nat → Int32) (x1 : Int32) : Nat → Nat → Int32 := opv (m_X11_worthBy (m_X11_bestOf (m_X11_good I) x1) (f_X11_bestOf (m_X11_good I) x1) x1)
noncomputable def u1_X11_bestWorth (I : Nat → Nat → Int32) (x1 : Int32) : Int32 := opv (if (f_X11_why (m_X11_good I) x1 1 4) = 0 then (f_X11_worthBy (m_X11_bestOf (m_X11_good I) x1) (f_X11_bestOf (m_X11_good I) x1) x1) + 1000 else f_X11_no (m_X11_good I) (f_X11_why (m_X11_good I) x1 1 4))
noncomputable def u2_X11_bestWorth (I : Nat → Nat → Int32) (x1 : Int32) : Nat → Nat → Int32 := opv (if (f_X11_why (m_X11_good I) x1 1 4) = 0 then (u0_X11_bestWorth I x1) else (m_X11_no (m_X11_good I) (f_X11_why (m_X11_good I) x1 1 4)))
noncomputable def f_X11_bestWorth (I : Nat → Nat → Int32) (x1 : Int32) : Int32 := opv (u1_X11_bestWorth I x1)
noncomputable def m_X11_bestWorth (I : Nat → Nat → Int32) (x1 : Int32) : Nat → Nat → Int32 := opv (u2_X11_bestWorth I x1)
noncomputable def ok_X11_bestWorth (I : Nat → Nat → Int32) (x1 : Int32) : Prop := opv (if (f_X11_why (m_X11_good I) x1 1 4) = 0 then (ok_X11_bestOf (m_X11_good I) x1 ∧ ok_X11_worthBy (m_X11_bestOf (m_X11_good I) x1) (f_X11_bestOf (m_X11_good I) x1) x1) else True)
set_option maxHeartbeats 800000 in
set_option maxRecDepth 4000 in
theorem c_X11_bestWorth {k : KT} {ex : Bool} {J : Nat → Nat → Int64} {w : Bool} (I : Nat → Nat → Int32) (x1 : Int32)  (hok : ok_X11_bestWorth I x1) : Cx k mX11_bestWorth 8 [.ref (ka k 65), .int x1] (81, ex, I, J, Pw w) (some (.int (f_X11_bestWorth I x1))) (81, ex, m_X11_bestWorth I x1, J, Pw w) := by
  refine Ct.of rfl [some (.ref (ka k 65)), some (.int x1), none] rfl rfl (Nat.le_of_ble_eq_true rfl) ?_
  rw [ok_X11_bestWorth, opv_eq] at hok
  refine g_aload_n0 rfl d_X11_bestWorth_0 ?_
  refine g_callV0 (c_X11_good I ) w_X11_good l_X11_168 d_X11_bestWorth_1 rfl (Nat.le_of_ble_eq_true rfl) rfl rfl (Nat.le_of_ble_eq_true rfl) ⟨Nat.le_of_ble_eq_true rfl, Nat.le_of_ble_eq_true rfl⟩ ⟨Nat.zero_le _, Nat.zero_le _⟩ ⟨rfl, rfl⟩ ?_
  refine g_aload_n0 rfl d_X11_bestWorth_4 ?_
  refine g_iload_n1 rfl d_X11_bestWorth_5 ?_
  refine g_iconst 1 d_X11_bestWorth_6 (by decide) ?_
  refine g_iconst 4 d_X11_bestWorth_7 (by decide) ?_
  refine g_callV1 (c_X11_why (m_X11_good I) x1 1 4) w_X11_why l_X11_295 d_X11_bestWorth_8 rfl (Nat.le_of_ble_eq_true rfl) rfl rfl (Nat.le_of_ble_eq_true rfl) ⟨Nat.le_of_ble_eq_true rfl, Nat.le_of_ble_eq_true rfl⟩ ⟨Nat.zero_le _, Nat.zero_le _⟩ ⟨rfl, rfl⟩ ?_
  refine g_isn2 rfl d_X11_bestWorth_11 ?_
  refine g_iload_n2 rfl d_X11_bestWorth_12 ?_
  refine g_cut (pc' := 38) (vs' := [some (.ref (ka k 65)), some (.int x1), some (.int (f_X11_why (m_X11_good I) x1 1 4))]) (st' := [.int (u1_X11_bestWorth I x1)]) (M' := (81, ex, (u2_X11_bestWorth I x1), J, Pw w)) (fun hj => ?_) ?_
  · skip
    refine g_if_eq 24 d_X11_bestWorth_13 (by decide) (fun h1 => ?_) (fun h1 => ?_)
    · skip
      rw [if_pos h1] at hok
      refine g_aload_n0 rfl d_X11_bestWorth_24 ?_
      refine g_aload_n0 rfl d_X11_bestWorth_25 ?_
      refine g_iload_n1 rfl d_X11_bestWorth_26 ?_
      obtain ⟨ho1, hok⟩ := hok
      refine g_callV1 (c_X11_bestOf (m_X11_good I) x1 ho1) w_X11_bestOf l_X11_321 d_X11_bestWorth_27 rfl (Nat.le_of_ble_eq_true rfl) rfl rfl (Nat.le_of_ble_eq_true rfl) ⟨Nat.le_of_ble_eq_true rfl, Nat.le_of_ble_eq_true rfl⟩ ⟨Nat.zero_le _, Nat.zero_le _⟩ ⟨rfl, rfl⟩ ?_
      refine g_iload_n1 rfl d_X11_bestWorth_30 ?_
      have ho2 := hok
      refine g_callV1 (c_X11_worthBy (m_X11_bestOf (m_X11_good I) x1) (f_X11_bestOf (m_X11_good I) x1) x1 ho2) w_X11_worthBy l_X11_314 d_X11_bestWorth_31 rfl (Nat.le_of_ble_eq_true rfl) rfl rfl (Nat.le_of_ble_eq_true rfl) ⟨Nat.le_of_ble_eq_true rfl, Nat.le_of_ble_eq_true rfl⟩ ⟨Nat.zero_le _, Nat.zero_le _⟩ ⟨rfl, rfl⟩ ?_
      refine G.toI (I' := (u0_X11_bestWorth I x1)) (by rw [u0_X11_bestWorth, opv_eq]) ?_
      refine g_sipush 1000 d_X11_bestWorth_34 (by decide) ?_
      refine g_iadd d_X11_bestWorth_37 ?_
      (try simp only [if_pos h1, opv_eq, if_true, if_false, Bool.false_eq_true, reduceCtorEq, b2i_t, b2i_f, u1_X11_bestWorth, u2_X11_bestWorth] at hj); exact hj
    · skip
      refine g_aload_n0 rfl d_X11_bestWorth_16 ?_
      refine g_iload_n2 rfl d_X11_bestWorth_17 ?_
      refine g_callV1 (c_X11_no (m_X11_good I) (f_X11_why (m_X11_good I) x1 1 4)) w_X11_no l_X11_171 d_X11_bestWorth_18 rfl (Nat.le_of_ble_eq_true rfl) rfl rfl (Nat.le_of_ble_eq_true rfl) ⟨Nat.le_of_ble_eq_true rfl, Nat.le_of_ble_eq_true rfl⟩ ⟨Nat.zero_le _, Nat.zero_le _⟩ ⟨rfl, rfl⟩ ?_
      refine g_goto 38 d_X11_bestWorth_21 (by decide) ?_
      (try simp only [if_neg h1, opv_eq, if_true, if_false, Bool.false_eq_true, reduceCtorEq, b2i_t, b2i_f, u1_X11_bestWorth, u2_X11_bestWorth] at hj); exact hj
  · skip
    exact g_iret rfl d_X11_bestWorth_38 ⟨by simp only [f_X11_bestWorth, m_X11_bestWorth, opv_eq, if_true, if_false, Bool.false_eq_true, reduceCtorEq, b2i_t, b2i_f], by simp only [f_X11_bestWorth, m_X11_bestWorth, opv_eq, if_true, if_false, Bool.false_eq_true, reduceCtorEq, b2i_t, b2i_f]⟩ (Nat.le_refl _) (Nat.le_refl _)
noncomputable def u0_X11_areAllKept (I : Nat → Nat → Int32) (x1 : Int32) (x2 : Int32) (l3 : Bool) (l4 : Int32) : Bool := opv (if l3 = true then (if (f_X11_in I (I 68 (25 + (3 * l4)).toNatClampNeg) x1 (x2 - 1)) = true then (if (f_X11_hasBit I (I 73 6) l4) = true then true else false) else true) else false)
noncomputable def lp_X11_areAllKept_5 (I : Nat → Nat → Int32) (x1 : Int32) (x2 : Int32) : Nat → Bool → Int32 → Bool × Int32
  | 0, l3, l4 => (l3, l4)
  | n + 1, l3, l4 => (if (I 68 6) ≤ l4 then (l3, l4) else (lp_X11_areAllKept_5 I x1 x2 n (u0_X11_areAllKept I x1 x2 l3 l4) (l4 + 1)))
def oklp_X11_areAllKept_5 (I : Nat → Nat → Int32) (x1 : Int32) (x2 : Int32) : Nat → Bool → Int32 → Prop
  | 0, l3, l4 => True
  | n + 1, l3, l4 => (if (I 68 6) ≤ l4 then True else ((if l3 = true then vp_in (25 + (3 * l4)) (sz 68) else True) ∧ oklp_X11_areAllKept_5 I x1 x2 n (u0_X11_areAllKept I x1 x2 l3 l4) (l4 + 1)))
set_option maxHeartbeats 800000 in
set_option maxRecDepth 4000 in
theorem k_lp_X11_areAllKept_5 {k : KT} {ex : Bool} {J : Nat → Nat → Int64} {w : Bool} (I : Nat → Nat → Int32) (x1 : Int32) (x2 : Int32) {F : FinT} : ∀ (n : Nat) (l3 : Bool) (l4 : Int32), mu_up (I 68 6) l4 < n → oklp_X11_areAllKept_5 I x1 x2 n l3 l4 → G k mX11_areAllKept (roomOf 2 0 0) F 0 0 70 [some (.ref (ka k 65)), some (.int x1), some (.int x2), some (.int (b2i ((lp_X11_areAllKept_5 I x1 x2 n l3 l4).1))), some (.int ((lp_X11_areAllKept_5 I x1 x2 n l3 l4).2))] [] (81, ex, I, J, Pw w) → G k mX11_areAllKept (roomOf 2 0 0) F 0 0 5 [some (.ref (ka k 65)), some (.int x1), some (.int x2), some (.int (b2i l3)), some (.int l4)] [] (81, ex, I, J, Pw w) := by
  intro n
  induction n with
  | zero => intro l3 l4 hmu hok hj; exact absurd hmu (Nat.not_lt_zero _)
  | succ n ih =>
    intro l3 l4 hmu hok hj
    rw [oklp_X11_areAllKept_5] at hok
    refine g_iload (i := 4) rfl d_X11_areAllKept_5 ?_
    refine g_aload_n0 rfl d_X11_areAllKept_7 ?_
    refine g_getP (b := 68) f_X11_20 d_X11_areAllKept_8 rfl (Nat.le_of_ble_eq_true rfl) rfl rfl ?_
    refine g_bipush 6 d_X11_areAllKept_11 (by decide) ?_
    refine g_ialdv (I 68 6) rfl d_X11_areAllKept_13 rfl (Nat.le_of_ble_eq_true rfl) (vp_c (by decide +kernel)) ?_
    refine g_icmp_ge 70 d_X11_areAllKept_14 (by decide) (fun h1 => ?_) (fun h1 => ?_)
    · skip
      (try simp only [lp_X11_areAllKept_5, if_pos h1, opv_eq, if_true, if_false, Bool.false_eq_true, reduceCtorEq, b2i_t, b2i_f] at hj); exact hj
    · skip
      rw [if_neg h1] at hok
      refine g_iload_n3 rfl d_X11_areAllKept_17 ?_
      obtain ⟨hoa, hob⟩ := hok
      refine g_cut (pc' := 63) (vs' := [some (.ref (ka k 65)), some (.int x1), some (.int x2), some (.int (b2i l3)), some (.int l4)]) (st' := [.int (b2i (u0_X11_areAllKept I x1 x2 l3 l4))]) (M' := (81, ex, I, J, Pw w)) (fun hj => ?_) ?_
      · skip
        refine g_ifz 62 d_X11_areAllKept_18 (by decide) (fun h2 => ?_) (fun h2 => ?_)
        · skip
          refine g_iconst 0 d_X11_areAllKept_62 (by decide) ?_
          (try simp only [if_neg (nb h2), opv_eq, if_true, if_false, Bool.false_eq_true, reduceCtorEq, b2i_t, b2i_f, u0_X11_areAllKept] at hj); exact hj
        · skip
          rw [if_pos h2] at hoa
          refine g_aload_n0 rfl d_X11_areAllKept_21 ?_
          refine g_getP (b := 68) f_X11_20 d_X11_areAllKept_22 rfl (Nat.le_of_ble_eq_true rfl) rfl rfl ?_
          refine g_bipush 25 d_X11_areAllKept_25 (by decide) ?_
          refine g_iconst 3 d_X11_areAllKept_27 (by decide) ?_
          refine g_iload (i := 4) rfl d_X11_areAllKept_28 ?_
          refine g_imul d_X11_areAllKept_30 ?_
          refine g_iadd d_X11_areAllKept_31 ?_
          have ho1 := hoa
          refine g_iald d_X11_areAllKept_32 rfl (Nat.le_of_ble_eq_true rfl) ho1 ?_
          refine g_iload_n1 rfl d_X11_areAllKept_33 ?_
          refine g_iload_n2 rfl d_X11_areAllKept_34 ?_
          refine g_iconst 1 d_X11_areAllKept_35 (by decide) ?_
          refine g_isub d_X11_areAllKept_36 ?_
          refine g_callS1 (c_X11_in I (I 68 (25 + (3 * l4)).toNatClampNeg) x1 (x2 - 1)) w_X11_in l_X11_149 d_X11_areAllKept_37 rfl rfl (Nat.le_of_ble_eq_true rfl) ⟨Nat.le_of_ble_eq_true rfl, Nat.le_of_ble_eq_true rfl⟩ ⟨Nat.zero_le _, Nat.zero_le _⟩ ⟨rfl, rfl⟩ ?_
          refine g_ifz 58 d_X11_areAllKept_40 (by decide) (fun h3 => ?_) (fun h3 => ?_)
          · skip
            refine g_iconst 1 d_X11_areAllKept_58 (by decide) ?_
            refine g_goto 63 d_X11_areAllKept_59 (by decide) ?_
            (try simp only [if_pos h2, if_neg (nb h3), opv_eq, if_true, if_false, Bool.false_eq_true, reduceCtorEq, b2i_t, b2i_f, u0_X11_areAllKept] at hj); exact hj
          · skip
            refine g_aload_n0 rfl d_X11_areAllKept_43 ?_
            refine g_getP (b := 73) f_X11_35 d_X11_areAllKept_44 rfl (Nat.le_of_ble_eq_true rfl) rfl rfl ?_
            refine g_bipush 6 d_X11_areAllKept_47 (by decide) ?_
            refine g_ialdv (I 73 6) rfl d_X11_areAllKept_49 rfl (Nat.le_of_ble_eq_true rfl) (vp_c (by decide +kernel)) ?_
            refine g_iload (i := 4) rfl d_X11_areAllKept_50 ?_
            refine g_callS1 (c_X11_hasBit I (I 73 6) l4) w_X11_hasBit l_X11_261 d_X11_areAllKept_52 rfl rfl (Nat.le_of_ble_eq_true rfl) ⟨Nat.le_of_ble_eq_true rfl, Nat.le_of_ble_eq_true rfl⟩ ⟨Nat.zero_le _, Nat.zero_le _⟩ ⟨rfl, rfl⟩ ?_
            refine g_ifz 62 d_X11_areAllKept_55 (by decide) (fun h4 => ?_) (fun h4 => ?_)
            · skip
              refine g_iconst 0 d_X11_areAllKept_62 (by decide) ?_
              (try simp only [if_pos h2, if_pos h3, if_neg (nb h4), opv_eq, if_true, if_false, Bool.false_eq_true, reduceCtorEq, b2i_t, b2i_f, u0_X11_areAllKept] at hj); exact hj
            · skip
              refine g_iconst 1 d_X11_areAllKept_58 (by decide) ?_
              refine g_goto 63 d_X11_areAllKept_59 (by decide) ?_
              (try simp only [if_pos h2, if_pos h3, if_pos h4, opv_eq, if_true, if_false, Bool.false_eq_true, reduceCtorEq, b2i_t, b2i_f, u0_X11_areAllKept] at hj); exact hj
      · skip
        refine g_isn3 rfl d_X11_areAllKept_63 ?_
        refine g_ic4 (l4 + 1) rfl rfl d_X11_areAllKept_64 ?_
        refine g_goto 5 d_X11_areAllKept_67 (by decide) ?_
        exact ih (u0_X11_areAllKept I x1 x2 l3 l4) (l4 + 1) (Nat.lt_of_lt_of_le (mu_up_lt h1) (Nat.le_of_lt_succ hmu)) (by (try simp only [if_neg h1, opv_eq, if_true, if_false, Bool.false_eq_true, reduceCtorEq, b2i_t, b2i_f] at hob); exact hob) (by (try simp only [lp_X11_areAllKept_5, if_neg h1, opv_eq, if_true, if_false, Bool.false_eq_true, reduceCtorEq, b2i_t, b2i_f] at hj); exact hj)
noncomputable def f_X11_areAllKept (I : Nat → Nat → Int32) (x1 : Int32) (x2 : Int32) : Bool := opv ((lp_X11_areAllKept_5 I x1 x2 (mu_up (I 68 6) 0 + 1) true 0).1)
noncomputable def ok_X11_areAllKept (I : Nat → Nat → Int32) (x1 : Int32) (x2 : Int32) : Prop := opv (oklp_X11_areAllKept_5 I x1 x2 (mu_up (I 68 6) 0 + 1) true 0)
set_option maxHeartbeats 800000 in
set_option maxRecDepth 4000 in
theorem c_X11_areAllKept {k : KT} {ex : Bool} {J : Nat → Nat → Int64} {w : Bool} (I : Nat → Nat → Int32) (x1 : Int32) (x2 : Int32)  (hok : ok_X11_areAllKept I x1 x2) : Cx k mX11_areAllKept 2 [.ref (ka k 65), .int x1, .int x2] (81, ex, I, J, Pw w) (some (.int (b2i (f_X11_areAllKept I x1 x2)))) (81, ex, I, J, Pw w) := by
  refine Ct.of rfl [some (.ref (ka k 65)), some (.int x1), some (.int x2), none, none] rfl rfl (Nat.le_of_ble_eq_true rfl) ?_
  rw [ok_X11_areAllKept, opv_eq] at hok
  refine g_iconst 1 d_X11_areAllKept_0 (by decide) ?_
  refine g_isn3 rfl d_X11_areAllKept_1 ?_
  refine g_iconst 0 d_X11_areAllKept_2 (by decide) ?_
  refine g_is4 rfl d_X11_areAllKept_3 ?_
  refine k_lp_X11_areAllKept_5 I x1 x2 _ true 0 (Nat.lt_succ_self _) hok ?_
  refine g_iload_n3 rfl d_X11_areAllKept_70 ?_
  exact g_zret rfl (nar_b _) d_X11_areAllKept_71 ⟨by simp only [f_X11_areAllKept, opv_eq, if_true, if_false, Bool.false_eq_true, reduceCtorEq, b2i_t, b2i_f], rfl⟩ (Nat.le_refl _) (Nat.le_refl _)
noncomputable def u0_X11_sureOf (x1 : Int32) (l2 : Int32) (l3 : Int32) (I1 : Nat → Nat → Int32) : Int32 := opv (if (f_X11_isRowOf I1 l3 x1) = true then (if (f_X11_areAllKept (m_X11_goBy I1 l3 x1) ((m_X11_goBy I1 l3 x1) 70 4) (((m_X11_goBy I1 l3 x1) 70 4) + x1)) = true then (if l2 < 0 then l3 else (if ((m_X11_goBy I1 l3 x1) 65 24) < ((m_X11_goBy I1 l3 x1) 65 25) then l3 else l2)) else l2) else l2)
noncomputable def u1_X11_sureOf (x1 : Int32) (l2 : Int32) (l3 : Int32) (I1 : Nat → Nat → Int32) : Nat → Nat → Int32 := opv (if (f_X11_isRowOf I1 l3 x1) = true then (if (f_X11_areAllKept (m_X11_goBy I1 l3 x1) ((m_X11_goBy I1 l3 x1) 70 4) (((m_X11_goBy I1 l3 x1) 70 4) + x1)) = true then (if l2 < 0 then (st2 (m_X11_goBy I1 l3 x1) 65 25 ((m_X11_goBy I1 l3 x1) 65 24)) else (if ((m_X11_goBy I1 l3 x1) 65 24) < ((m_X11_goBy I1 l3 x1) 65 25) then (st2 (m_X11_goBy I1 l3 x1) 65 25 ((m_X11_goBy I1 l3 x1) 65 24)) else (m_X11_goBy I1 l3 x1))) else (m_X11_goBy I1 l3 x1)) else I1)
noncomputable def lp_X11_sureOf_11 (x1 : Int32) : Nat → Int32 → Int32 → (Nat → Nat → Int32) → Int32 × Int32 × (Nat → Nat → Int32)
  | 0, l2, l3, I1 => (l2, l3, I1)
  | n + 1, l2, l3, I1 => (if (f_X11_rowsFor I1 x1) ≤ l3 then (l2, l3, I1) else (lp_X11_sureOf_11 x1 n (u0_X11_sureOf x1 l2 l3 I1) (l3 + 1) (u1_X11_sureOf x1 l2 l3 I1)))
def oklp_X11_sureOf_11 (x1 : Int32) : Nat → Int32 → Int32 → (Nat → Nat → Int32) → Prop
  | 0, l2, l3, I1 => True
  | n + 1, l2, l3, I1 => (if (f_X11_rowsFor I1 x1) ≤ l3 then True else ((if (f_X11_isRowOf I1 l3 x1) = true then (ok_X11_goBy I1 l3 x1 ∧ ok_X11_areAllKept (m_X11_goBy I1 l3 x1) ((m_X11_goBy I1 l3 x1) 70 4) (((m_X11_goBy I1 l3 x1) 70 4) + x1)) else True) ∧ oklp_X11_sureOf_11 x1 n (u0_X11_sureOf x1 l2 l3 I1) (l3 + 1) (u1_X11_sureOf x1 l2 l3 I1)))
set_option maxHeartbeats 800000 in
set_option maxRecDepth 4000 in
theorem k_lp_X11_sureOf_11 {k : KT} {ex : Bool} {J : Nat → Nat → Int64} {w : Bool} (x1 : Int32) {F : FinT} : ∀ (n : Nat) (l2 : Int32) (l3 : Int32) (I1 : (Nat → Nat → Int32)), mu_up (f_X11_rowsFor I1 x1) l3 < n → oklp_X11_sureOf_11 x1 n l2 l3 I1 → G k mX11_sureOf (roomOf 6 0 0) F 0 0 92 [some (.ref (ka k 65)), some (.int x1), some (.int ((lp_X11_sureOf_11 x1 n l2 l3 I1).1)), some (.int ((lp_X11_sureOf_11 x1 n l2 l3 I1).2.1))] [] (81, ex, (lp_X11_sureOf_11 x1 n l2 l3 I1).2.2, J, Pw w) → G k mX11_sureOf (roomOf 6 0 0) F 0 0 11 [some (.ref (ka k 65)), some (.int x1), some (.int l2), some (.int l3)] [] (81, ex, I1, J, Pw w) := by
  intro n
  induction n with
  | zero => intro l2 l3 I1 hmu hok hj; exact absurd hmu (Nat.not_lt_zero _)
  | succ n ih =>
    intro l2 l3 I1 hmu hok hj
    rw [oklp_X11_sureOf_11] at hok
    refine g_iload_n3 rfl d_X11_sureOf_11 ?_
    refine g_iload_n1 rfl d_X11_sureOf_12 ?_
    refine g_callS1 (c_X11_rowsFor I1 x1) w_X11_rowsFor l_X11_317 d_X11_sureOf_13 rfl rfl (Nat.le_of_ble_eq_true rfl) ⟨Nat.le_of_ble_eq_true rfl, Nat.le_of_ble_eq_true rfl⟩ ⟨Nat.zero_le _, Nat.zero_le _⟩ ⟨rfl, rfl⟩ ?_
    refine g_icmp_ge 92 d_X11_sureOf_16 (by decide) (fun h1 => ?_) (fun h1 => ?_)
    · skip
      (try simp only [lp_X11_sureOf_11, if_pos h1, opv_eq, if_true, if_false, Bool.false_eq_true, reduceCtorEq, b2i_t, b2i_f] at hj); exact hj
    · skip
      rw [if_neg h1] at hok
      refine g_aload_n0 rfl d_X11_sureOf_19 ?_
      refine g_iload_n3 rfl d_X11_sureOf_20 ?_
      refine g_iload_n1 rfl d_X11_sureOf_21 ?_
      refine g_callV1 (c_X11_isRowOf I1 l3 x1) w_X11_isRowOf l_X11_311 d_X11_sureOf_22 rfl (Nat.le_of_ble_eq_true rfl) rfl rfl (Nat.le_of_ble_eq_true rfl) ⟨Nat.le_of_ble_eq_true rfl, Nat.le_of_ble_eq_true rfl⟩ ⟨Nat.zero_le _, Nat.zero_le _⟩ ⟨rfl, rfl⟩ ?_
      obtain ⟨hoa, hob⟩ := hok
      refine g_cut (pc' := 86) (vs' := [some (.ref (ka k 65)), some (.int x1), some (.int (u0_X11_sureOf x1 l2 l3 I1)), some (.int l3)]) (st' := []) (M' := (81, ex, (u1_X11_sureOf x1 l2 l3 I1), J, Pw w)) (fun hj => ?_) ?_
      · skip
        refine g_ifnz 31 d_X11_sureOf_25 (by decide) (fun h2 => ?_) (fun h2 => ?_)
        · skip
          rw [if_pos h2] at hoa
          refine g_aload_n0 rfl d_X11_sureOf_31 ?_
          refine g_iload_n3 rfl d_X11_sureOf_32 ?_
          refine g_iload_n1 rfl d_X11_sureOf_33 ?_
          obtain ⟨ho1, hok⟩ := hoa
          refine g_callV0 (c_X11_goBy I1 l3 x1 ho1) w_X11_goBy l_X11_308 d_X11_sureOf_34 rfl (Nat.le_of_ble_eq_true rfl) rfl rfl (Nat.le_of_ble_eq_true rfl) ⟨Nat.le_of_ble_eq_true rfl, Nat.le_of_ble_eq_true rfl⟩ ⟨Nat.zero_le _, Nat.zero_le _⟩ ⟨rfl, rfl⟩ ?_
          refine g_aload_n0 rfl d_X11_sureOf_37 ?_
          refine g_aload_n0 rfl d_X11_sureOf_38 ?_
          refine g_getP (b := 70) f_X11_26 d_X11_sureOf_39 rfl (Nat.le_of_ble_eq_true rfl) rfl rfl ?_
          refine g_iconst 4 d_X11_sureOf_42 (by decide) ?_
          refine g_ialdv ((m_X11_goBy I1 l3 x1) 70 4) rfl d_X11_sureOf_43 rfl (Nat.le_of_ble_eq_true rfl) (vp_c (by decide +kernel)) ?_
          refine g_aload_n0 rfl d_X11_sureOf_44 ?_
          refine g_getP (b := 70) f_X11_26 d_X11_sureOf_45 rfl (Nat.le_of_ble_eq_true rfl) rfl rfl ?_
          refine g_iconst 4 d_X11_sureOf_48 (by decide) ?_
          refine g_ialdv ((m_X11_goBy I1 l3 x1) 70 4) rfl d_X11_sureOf_49 rfl (Nat.le_of_ble_eq_true rfl) (vp_c (by decide +kernel)) ?_
          refine g_iload_n1 rfl d_X11_sureOf_50 ?_
          refine g_iadd d_X11_sureOf_51 ?_
          have ho2 := hok
          refine g_callV1 (c_X11_areAllKept (m_X11_goBy I1 l3 x1) ((m_X11_goBy I1 l3 x1) 70 4) (((m_X11_goBy I1 l3 x1) 70 4) + x1) ho2) w_X11_areAllKept l_X11_327 d_X11_sureOf_52 rfl (Nat.le_of_ble_eq_true rfl) rfl rfl (Nat.le_of_ble_eq_true rfl) ⟨Nat.le_of_ble_eq_true rfl, Nat.le_of_ble_eq_true rfl⟩ ⟨Nat.zero_le _, Nat.zero_le _⟩ ⟨rfl, rfl⟩ ?_
          refine g_ifz 86 d_X11_sureOf_55 (by decide) (fun h3 => ?_) (fun h3 => ?_)
          · skip
            (try simp only [if_pos h2, if_neg (nb h3), opv_eq, if_true, if_false, Bool.false_eq_true, reduceCtorEq, b2i_t, b2i_f, u0_X11_sureOf, u1_X11_sureOf] at hj); exact hj
          · skip
            refine g_iload_n2 rfl d_X11_sureOf_58 ?_
            refine g_if_lt 76 d_X11_sureOf_59 (by decide) (fun h4 => ?_) (fun h4 => ?_)
            · skip
              refine g_iload_n3 rfl d_X11_sureOf_76 ?_
              refine g_isn2 rfl d_X11_sureOf_77 ?_
              refine g_aload_n0 rfl d_X11_sureOf_78 ?_
              refine g_aload_n0 rfl d_X11_sureOf_79 ?_
              refine g_getI f_X11_305 d_X11_sureOf_80 rfl (Nat.le_of_ble_eq_true rfl) rfl ?_
              refine g_putI f_X11_324 d_X11_sureOf_83 rfl (Nat.le_of_ble_eq_true rfl) rfl rfl rfl ?_
              (try simp only [if_pos h2, if_pos h3, if_pos h4, opv_eq, if_true, if_false, Bool.false_eq_true, reduceCtorEq, b2i_t, b2i_f, u0_X11_sureOf, u1_X11_sureOf] at hj); exact hj
            · skip
              refine g_aload_n0 rfl d_X11_sureOf_62 ?_
              refine g_getI f_X11_305 d_X11_sureOf_63 rfl (Nat.le_of_ble_eq_true rfl) rfl ?_
              refine g_aload_n0 rfl d_X11_sureOf_66 ?_
              refine g_getI f_X11_324 d_X11_sureOf_67 rfl (Nat.le_of_ble_eq_true rfl) rfl ?_
              refine g_icmp_lt 76 d_X11_sureOf_70 (by decide) (fun h5 => ?_) (fun h5 => ?_)
              · skip
                refine g_iload_n3 rfl d_X11_sureOf_76 ?_
                refine g_isn2 rfl d_X11_sureOf_77 ?_
                refine g_aload_n0 rfl d_X11_sureOf_78 ?_
                refine g_aload_n0 rfl d_X11_sureOf_79 ?_
                refine g_getI f_X11_305 d_X11_sureOf_80 rfl (Nat.le_of_ble_eq_true rfl) rfl ?_
                refine g_putI f_X11_324 d_X11_sureOf_83 rfl (Nat.le_of_ble_eq_true rfl) rfl rfl rfl ?_
                (try simp only [if_pos h2, if_pos h3, if_neg h4, if_pos h5, opv_eq, if_true, if_false, Bool.false_eq_true, reduceCtorEq, b2i_t, b2i_f, u0_X11_sureOf, u1_X11_sureOf] at hj); exact hj
              · skip
                refine g_goto 86 d_X11_sureOf_73 (by decide) ?_
                (try simp only [if_pos h2, if_pos h3, if_neg h4, if_neg h5, opv_eq, if_true, if_false, Bool.false_eq_true, reduceCtorEq, b2i_t, b2i_f, u0_X11_sureOf, u1_X11_sureOf] at hj); exact hj
        · skip
          refine g_goto 86 d_X11_sureOf_28 (by decide) ?_
          (try simp only [if_neg (nb h2), opv_eq, if_true, if_false, Bool.false_eq_true, reduceCtorEq, b2i_t, b2i_f, u0_X11_sureOf, u1_X11_sureOf] at hj); exact hj
      · skip
        refine g_ic3 (l3 + 1) rfl rfl d_X11_sureOf_86 ?_
        refine g_goto 11 d_X11_sureOf_89 (by decide) ?_
        exact ih (u0_X11_sureOf x1 l2 l3 I1) (l3 + 1) (u1_X11_sureOf x1 l2 l3 I1) (Nat.lt_of_lt_of_le (by rw [rows_I _ I1]; exact mu_up_lt h1) (Nat.le_of_lt_succ hmu)) (by (try simp only [if_neg h1, opv_eq, if_true, if_false, Bool.false_eq_true, reduceCtorEq, b2i_t, b2i_f] at hob); exact hob) (by (try simp only [lp_X11_sureOf_11, if_neg h1, opv_eq, if_true, if_false, Bool.false_eq_true, reduceCtorEq, b2i_t, b2i_f] at hj); exact hj)
noncomputable def f_X11_sureOf (I : Nat → Nat → Int32) (x1 : Int32) : Int32 := opv ((lp_X11_sureOf_11 x1 (mu_up (f_X11_rowsFor (st2 I 65 25 (-2)) x1) 0 + 1) (-2) 0 (st2 I 65 25 (-2))).1)
noncomputable def m_X11_sureOf (I : Nat → Nat → Int32) (x1 : Int32) : Nat → Nat → Int32 := opv ((lp_X11_sureOf_11 x1 (mu_up (f_X11_rowsFor (st2 I 65 25 (-2)) x1) 0 + 1) (-2) 0 (st2 I 65 25 (-2))).2.2)
noncomputable def ok_X11_sureOf (I : Nat → Nat → Int32) (x1 : Int32) : Prop := opv (oklp_X11_sureOf_11 x1 (mu_up (f_X11_rowsFor (st2 I 65 25 (-2)) x1) 0 + 1) (-2) 0 (st2 I 65 25 (-2)))
set_option maxHeartbeats 800000 in
set_option maxRecDepth 4000 in
theorem c_X11_sureOf {k : KT} {ex : Bool} {J : Nat → Nat → Int64} {w : Bool} (I : Nat → Nat → Int32) (x1 : Int32)  (hok : ok_X11_sureOf I x1) : Cx k mX11_sureOf 6 [.ref (ka k 65), .int x1] (81, ex, I, J, Pw w) (some (.int (f_X11_sureOf I x1))) (81, ex, m_X11_sureOf I x1, J, Pw w) := by
  refine Ct.of rfl [some (.ref (ka k 65)), some (.int x1), none, none] rfl rfl (Nat.le_of_ble_eq_true rfl) ?_
  rw [ok_X11_sureOf, opv_eq] at hok
  refine g_bipush (-2) d_X11_sureOf_0 (by decide) ?_
  refine g_isn2 rfl d_X11_sureOf_2 ?_
  refine g_aload_n0 rfl d_X11_sureOf_3 ?_
  refine g_bipush (-2) d_X11_sureOf_4 (by decide) ?_
  refine g_putI f_X11_324 d_X11_sureOf_6 rfl (Nat.le_of_ble_eq_true rfl) rfl rfl rfl ?_
  refine g_iconst 0 d_X11_sureOf_9 (by decide) ?_
  refine g_isn3 rfl d_X11_sureOf_10 ?_
  refine k_lp_X11_sureOf_11 x1 _ (-2) 0 (st2 I 65 25 (-2)) (Nat.lt_succ_self _) hok ?_
  refine g_iload_n2 rfl d_X11_sureOf_92 ?_
  exact g_iret rfl d_X11_sureOf_93 ⟨by simp only [f_X11_sureOf, m_X11_sureOf, opv_eq, if_true, if_false, Bool.false_eq_true, reduceCtorEq, b2i_t, b2i_f], by simp only [f_X11_sureOf, m_X11_sureOf, opv_eq, if_true, if_false, Bool.false_eq_true, reduceCtorEq, b2i_t, b2i_f]⟩ (Nat.le_refl _) (Nat.le_refl _)
noncomputable def u0_X11_sureRow (I : Nat → Nat → Int32) (x1 : Int32) : Int32 := opv (if (f_X11_why (m_X11_good I) x1 1 4) = 0 then f_X11_sureOf (m_X11_good I) x1 else f_X11_no (m_X11_good I) (f_X11_why (m_X11_good I) x1 1 4))
noncomputable def u1_X11_sureRow (I : Nat → Nat → Int32) (x1 : Int32) : Nat → Nat → Int32 := opv (if (f_X11_why (m_X11_good I) x1 1 4) = 0 then (m_X11_sureOf (m_X11_good I) x1) else (m_X11_no (m_X11_good I) (f_X11_why (m_X11_good I) x1 1 4)))
noncomputable def f_X11_sureRow (I : Nat → Nat → Int32) (x1 : Int32) : Int32 := opv (u0_X11_sureRow I x1)
noncomputable def m_X11_sureRow (I : Nat → Nat → Int32) (x1 : Int32) : Nat → Nat → Int32 := opv (u1_X11_sureRow I x1)
noncomputable def ok_X11_sureRow (I : Nat → Nat → Int32) (x1 : Int32) : Prop := opv (if (f_X11_why (m_X11_good I) x1 1 4) = 0 then ok_X11_sureOf (m_X11_good I) x1 else True)
set_option maxHeartbeats 800000 in
set_option maxRecDepth 4000 in
theorem c_X11_sureRow {k : KT} {ex : Bool} {J : Nat → Nat → Int64} {w : Bool} (I : Nat → Nat → Int32) (x1 : Int32)  (hok : ok_X11_sureRow I x1) : Cx k mX11_sureRow 7 [.ref (ka k 65), .int x1] (81, ex, I, J, Pw w) (some (.int (f_X11_sureRow I x1))) (81, ex, m_X11_sureRow I x1, J, Pw w) := by
  refine Ct.of rfl [some (.ref (ka k 65)), some (.int x1), none] rfl rfl (Nat.le_of_ble_eq_true rfl) ?_
  rw [ok_X11_sureRow, opv_eq] at hok
  refine g_aload_n0 rfl d_X11_sureRow_0 ?_
  refine g_callV0 (c_X11_good I ) w_X11_good l_X11_168 d_X11_sureRow_1 rfl (Nat.le_of_ble_eq_true rfl) rfl rfl (Nat.le_of_ble_eq_true rfl) ⟨Nat.le_of_ble_eq_true rfl, Nat.le_of_ble_eq_true rfl⟩ ⟨Nat.zero_le _, Nat.zero_le _⟩ ⟨rfl, rfl⟩ ?_
  refine g_aload_n0 rfl d_X11_sureRow_4 ?_
  refine g_iload_n1 rfl d_X11_sureRow_5 ?_
  refine g_iconst 1 d_X11_sureRow_6 (by decide) ?_
  refine g_iconst 4 d_X11_sureRow_7 (by decide) ?_
  refine g_callV1 (c_X11_why (m_X11_good I) x1 1 4) w_X11_why l_X11_295 d_X11_sureRow_8 rfl (Nat.le_of_ble_eq_true rfl) rfl rfl (Nat.le_of_ble_eq_true rfl) ⟨Nat.le_of_ble_eq_true rfl, Nat.le_of_ble_eq_true rfl⟩ ⟨Nat.zero_le _, Nat.zero_le _⟩ ⟨rfl, rfl⟩ ?_
  refine g_isn2 rfl d_X11_sureRow_11 ?_
  refine g_iload_n2 rfl d_X11_sureRow_12 ?_
  refine g_cut (pc' := 29) (vs' := [some (.ref (ka k 65)), some (.int x1), some (.int (f_X11_why (m_X11_good I) x1 1 4))]) (st' := [.int (u0_X11_sureRow I x1)]) (M' := (81, ex, (u1_X11_sureRow I x1), J, Pw w)) (fun hj => ?_) ?_
  · skip
    refine g_if_eq 24 d_X11_sureRow_13 (by decide) (fun h1 => ?_) (fun h1 => ?_)
    · skip
      rw [if_pos h1] at hok
      refine g_aload_n0 rfl d_X11_sureRow_24 ?_
      refine g_iload_n1 rfl d_X11_sureRow_25 ?_
      have ho1 := hok
      refine g_callV1 (c_X11_sureOf (m_X11_good I) x1 ho1) w_X11_sureOf l_X11_330 d_X11_sureRow_26 rfl (Nat.le_of_ble_eq_true rfl) rfl rfl (Nat.le_of_ble_eq_true rfl) ⟨Nat.le_of_ble_eq_true rfl, Nat.le_of_ble_eq_true rfl⟩ ⟨Nat.zero_le _, Nat.zero_le _⟩ ⟨rfl, rfl⟩ ?_
      (try simp only [if_pos h1, opv_eq, if_true, if_false, Bool.false_eq_true, reduceCtorEq, b2i_t, b2i_f, u0_X11_sureRow, u1_X11_sureRow] at hj); exact hj
    · skip
      refine g_aload_n0 rfl d_X11_sureRow_16 ?_
      refine g_iload_n2 rfl d_X11_sureRow_17 ?_
      refine g_callV1 (c_X11_no (m_X11_good I) (f_X11_why (m_X11_good I) x1 1 4)) w_X11_no l_X11_171 d_X11_sureRow_18 rfl (Nat.le_of_ble_eq_true rfl) rfl rfl (Nat.le_of_ble_eq_true rfl) ⟨Nat.le_of_ble_eq_true rfl, Nat.le_of_ble_eq_true rfl⟩ ⟨Nat.zero_le _, Nat.zero_le _⟩ ⟨rfl, rfl⟩ ?_
      refine g_goto 29 d_X11_sureRow_21 (by decide) ?_
      (try simp only [if_neg h1, opv_eq, if_true, if_false, Bool.false_eq_true, reduceCtorEq, b2i_t, b2i_f, u0_X11_sureRow, u1_X11_sureRow] at hj); exact hj
  · skip
    exact g_iret rfl d_X11_sureRow_29 ⟨by simp only [f_X11_sureRow, m_X11_sureRow, opv_eq, if_true, if_false, Bool.false_eq_true, reduceCtorEq, b2i_t, b2i_f], by simp only [f_X11_sureRow, m_X11_sureRow, opv_eq, if_true, if_false, Bool.false_eq_true, reduceCtorEq, b2i_t, b2i_f]⟩ (Nat.le_refl _) (Nat.le_refl _)
noncomputable def f_X11_sureCoins (I : Nat → Nat → Int32) (x1 : Int32) : Int32 := opv (if (f_X11_why (m_X11_good I) x1 1 4) = 0 then (m_X11_sureOf (m_X11_good I) x1) 65 25 else f_X11_no (m_X11_good I) (f_X11_why (m_X11_good I) x1 1 4))
noncomputable def m_X11_sureCoins (I : Nat → Nat → Int32) (x1 : Int32) : Nat → Nat → Int32 := opv (if (f_X11_why (m_X11_good I) x1 1 4) = 0 then (m_X11_sureOf (m_X11_good I) x1) else (m_X11_no (m_X11_good I) (f_X11_why (m_X11_good I) x1 1 4)))
noncomputable def ok_X11_sureCoins (I : Nat → Nat → Int32) (x1 : Int32) : Prop := opv (if (f_X11_why (m_X11_good I) x1 1 4) = 0 then ok_X11_sureOf (m_X11_good I) x1 else True)
set_option maxHeartbeats 800000 in
set_option maxRecDepth 4000 in
theorem c_X11_sureCoins {k : KT} {ex : Bool} {J : Nat → Nat → Int64} {w : Bool} (I : Nat → Nat → Int32) (x1 : Int32)  (hok : ok_X11_sureCoins I x1) : Cx k mX11_sureCoins 7 [.ref (ka k 65), .int x1] (81, ex, I, J, Pw w) (some (.int (f_X11_sureCoins I x1))) (81, ex, m_X11_sureCoins I x1, J, Pw w) := by
  refine Ct.of rfl [some (.ref (ka k 65)), some (.int x1), none] rfl rfl (Nat.le_of_ble_eq_true rfl) ?_
  rw [ok_X11_sureCoins, opv_eq] at hok
  refine g_aload_n0 rfl d_X11_sureCoins_0 ?_
  refine g_callV0 (c_X11_good I ) w_X11_good l_X11_168 d_X11_sureCoins_1 rfl (Nat.le_of_ble_eq_true rfl) rfl rfl (Nat.le_of_ble_eq_true rfl) ⟨Nat.le_of_ble_eq_true rfl, Nat.le_of_ble_eq_true rfl⟩ ⟨Nat.zero_le _, Nat.zero_le _⟩ ⟨rfl, rfl⟩ ?_
  refine g_aload_n0 rfl d_X11_sureCoins_4 ?_
  refine g_iload_n1 rfl d_X11_sureCoins_5 ?_
  refine g_iconst 1 d_X11_sureCoins_6 (by decide) ?_
  refine g_iconst 4 d_X11_sureCoins_7 (by decide) ?_
  refine g_callV1 (c_X11_why (m_X11_good I) x1 1 4) w_X11_why l_X11_295 d_X11_sureCoins_8 rfl (Nat.le_of_ble_eq_true rfl) rfl rfl (Nat.le_of_ble_eq_true rfl) ⟨Nat.le_of_ble_eq_true rfl, Nat.le_of_ble_eq_true rfl⟩ ⟨Nat.zero_le _, Nat.zero_le _⟩ ⟨rfl, rfl⟩ ?_
  refine g_isn2 rfl d_X11_sureCoins_11 ?_
  refine g_iload_n2 rfl d_X11_sureCoins_12 ?_
  refine g_if_eq 22 d_X11_sureCoins_13 (by decide) (fun h1 => ?_) (fun h1 => ?_)
  · skip
    rw [if_pos h1] at hok
    refine g_aload_n0 rfl d_X11_sureCoins_22 ?_
    refine g_iload_n1 rfl d_X11_sureCoins_23 ?_
    have ho1 := hok
    refine g_callV1 (c_X11_sureOf (m_X11_good I) x1 ho1) w_X11_sureOf l_X11_330 d_X11_sureCoins_24 rfl (Nat.le_of_ble_eq_true rfl) rfl rfl (Nat.le_of_ble_eq_true rfl) ⟨Nat.le_of_ble_eq_true rfl, Nat.le_of_ble_eq_true rfl⟩ ⟨Nat.zero_le _, Nat.zero_le _⟩ ⟨rfl, rfl⟩ ?_
    refine g_pop rfl d_X11_sureCoins_27 ?_
    refine g_aload_n0 rfl d_X11_sureCoins_28 ?_
    refine g_getI f_X11_324 d_X11_sureCoins_29 rfl (Nat.le_of_ble_eq_true rfl) rfl ?_
    exact g_iret rfl d_X11_sureCoins_32 ⟨by simp only [f_X11_sureCoins, m_X11_sureCoins, if_pos h1, opv_eq, if_true, if_false, Bool.false_eq_true, reduceCtorEq, b2i_t, b2i_f], by simp only [f_X11_sureCoins, m_X11_sureCoins, if_pos h1, opv_eq, if_true, if_false, Bool.false_eq_true, reduceCtorEq, b2i_t, b2i_f]⟩ (Nat.le_refl _) (Nat.le_refl _)
  · skip
    refine g_aload_n0 rfl d_X11_sureCoins_16 ?_
    refine g_iload_n2 rfl d_X11_sureCoins_17 ?_
    refine g_callV1 (c_X11_no (m_X11_good I) (f_X11_why (m_X11_good I) x1 1 4)) w_X11_no l_X11_171 d_X11_sureCoins_18 rfl (Nat.le_of_ble_eq_true rfl) rfl rfl (Nat.le_of_ble_eq_true rfl) ⟨Nat.le_of_ble_eq_true rfl, Nat.le_of_ble_eq_true rfl⟩ ⟨Nat.zero_le _, Nat.zero_le _⟩ ⟨rfl, rfl⟩ ?_
    exact g_iret rfl d_X11_sureCoins_21 ⟨by simp only [f_X11_sureCoins, m_X11_sureCoins, if_neg h1, opv_eq, if_true, if_false, Bool.false_eq_true, reduceCtorEq, b2i_t, b2i_f], by simp only [f_X11_sureCoins, m_X11_sureCoins, if_neg h1, opv_eq, if_true, if_false, Bool.false_eq_true, reduceCtorEq, b2i_t, b2i_f]⟩ (Nat.le_refl _) (Nat.le_refl _)
noncomputable def lp_X11_ventsIn_4 (I : Nat → Nat → Int32) (x1 : Int32) : Nat → Int32 → Int32 → Int32 × Int32
  | 0, l1, l2 => (l1, l2)
  | n + 1, l1, l2 => (if l2 ≤ 0 then (l1, l2) else (lp_X11_ventsIn_4 I x1 n (l1 + (b2i (if (l2 - l2 / 10 * 10) ≤ 0 then false else true))) (l2 / 10)))
def oklp_X11_ventsIn_4 (I : Nat → Nat → Int32) (x1 : Int32) : Nat → Int32 → Int32 → Prop
  | 0, l1, l2 => False
  | n + 1, l1, l2 => (if l2 ≤ 0 then True else oklp_X11_ventsIn_4 I x1 n (l1 + (b2i (if (l2 - l2 / 10 * 10) ≤ 0 then false else true))) (l2 / 10))
set_option maxHeartbeats 800000 in
set_option maxRecDepth 4000 in
theorem k_lp_X11_ventsIn_4 {k : KT} {ex : Bool} {J : Nat → Nat → Int64} {w : Bool} (I : Nat → Nat → Int32) (x1 : Int32) {F : FinT} : ∀ (n : Nat) (l1 : Int32) (l2 : Int32), oklp_X11_ventsIn_4 I x1 n l1 l2 → G k mX11_ventsIn (roomOf 1 0 0) F 0 0 31 [some (.int x1), some (.int ((lp_X11_ventsIn_4 I x1 n l1 l2).1)), some (.int ((lp_X11_ventsIn_4 I x1 n l1 l2).2))] [] (81, ex, I, J, Pw w) → G k mX11_ventsIn (roomOf 1 0 0) F 0 0 4 [some (.int x1), some (.int l1), some (.int l2)] [] (81, ex, I, J, Pw w) := by
  intro n
  induction n with
  | zero => intro l1 l2 hok hj; exact absurd hok (by rw [oklp_X11_ventsIn_4]; exact id)
  | succ n ih =>
    intro l1 l2 hok hj
    rw [oklp_X11_ventsIn_4] at hok
    refine g_iload_n2 rfl d_X11_ventsIn_4 ?_
    refine g_if_le 31 d_X11_ventsIn_5 (by decide) (fun h1 => ?_) (fun h1 => ?_)
    · skip
      (try simp only [lp_X11_ventsIn_4, if_pos h1, opv_eq, if_true, if_false, Bool.false_eq_true, reduceCtorEq, b2i_t, b2i_f] at hj); exact hj
    · skip
      rw [if_neg h1] at hok
      refine g_iload_n1 rfl d_X11_ventsIn_8 ?_
      refine g_iload_n2 rfl d_X11_ventsIn_9 ?_
      refine g_bipush 10 d_X11_ventsIn_10 (by decide) ?_
      refine g_irem (by decide) d_X11_ventsIn_12 ?_
      refine g_cut (pc' := 21) (vs' := [some (.int x1), some (.int l1), some (.int l2)]) (st' := [.int (b2i (if (l2 - l2 / 10 * 10) ≤ 0 then false else true)), .int l1]) (M' := (81, ex, I, J, Pw w)) (fun hj => ?_) ?_
      · skip
        refine g_if_le 20 d_X11_ventsIn_13 (by decide) (fun h2 => ?_) (fun h2 => ?_)
        · skip
          refine g_iconst 0 d_X11_ventsIn_20 (by decide) ?_
          (try simp only [if_pos h2, opv_eq, if_true, if_false, Bool.false_eq_true, reduceCtorEq, b2i_t, b2i_f] at hj); exact hj
        · skip
          refine g_iconst 1 d_X11_ventsIn_16 (by decide) ?_
          refine g_goto 21 d_X11_ventsIn_17 (by decide) ?_
          (try simp only [if_neg h2, opv_eq, if_true, if_false, Bool.false_eq_true, reduceCtorEq, b2i_t, b2i_f] at hj); exact hj
      · skip
        refine g_iadd d_X11_ventsIn_21 ?_
        refine g_isn1 rfl d_X11_ventsIn_22 ?_
        refine g_iload_n2 rfl d_X11_ventsIn_23 ?_
        refine g_bipush 10 d_X11_ventsIn_24 (by decide) ?_
        refine g_idiv (by decide) d_X11_ventsIn_26 ?_
        refine g_isn2 rfl d_X11_ventsIn_27 ?_
        refine g_goto 4 d_X11_ventsIn_28 (by decide) ?_
        exact ih (l1 + (b2i (if (l2 - l2 / 10 * 10) ≤ 0 then false else true))) (l2 / 10) (by (try simp only [if_neg h1, opv_eq, if_true, if_false, Bool.false_eq_true, reduceCtorEq, b2i_t, b2i_f] at hok); exact hok) (by (try simp only [lp_X11_ventsIn_4, if_neg h1, opv_eq, if_true, if_false, Bool.false_eq_true, reduceCtorEq, b2i_t, b2i_f] at hj); exact hj)
noncomputable def f_X11_ventsIn (I : Nat → Nat → Int32) (x1 : Int32) : Int32 := opv ((lp_X11_ventsIn_4 I x1 (opq 20) 0 x1).1)
noncomputable def ok_X11_ventsIn (I : Nat → Nat → Int32) (x1 : Int32) : Prop := opv (oklp_X11_ventsIn_4 I x1 (opq 20) 0 x1)
set_option maxHeartbeats 800000 in
set_option maxRecDepth 4000 in
theorem c_X11_ventsIn {k : KT} {ex : Bool} {J : Nat → Nat → Int64} {w : Bool} (I : Nat → Nat → Int32) (x1 : Int32)  (hok : ok_X11_ventsIn I x1) : Cx k mX11_ventsIn 1 [.int x1] (81, ex, I, J, Pw w) (some (.int (f_X11_ventsIn I x1))) (81, ex, I, J, Pw w) := by
  refine Ct.of rfl [some (.int x1), none, none] rfl rfl (Nat.le_of_ble_eq_true rfl) ?_
  rw [ok_X11_ventsIn, opv_eq] at hok
  refine g_iconst 0 d_X11_ventsIn_0 (by decide) ?_
  refine g_isn1 rfl d_X11_ventsIn_1 ?_
  refine g_iload_n0 rfl d_X11_ventsIn_2 ?_
  refine g_isn2 rfl d_X11_ventsIn_3 ?_
  refine k_lp_X11_ventsIn_4 I x1 _ 0 x1 hok ?_
  refine g_iload_n1 rfl d_X11_ventsIn_31 ?_
  exact g_iret rfl d_X11_ventsIn_32 ⟨by simp only [f_X11_ventsIn, opv_eq, if_true, if_false, Bool.false_eq_true, reduceCtorEq, b2i_t, b2i_f], rfl⟩ (Nat.le_refl _) (Nat.le_refl _)
noncomputable def u0_X11_rowFor (x1 : Int32) (x2 : Int32) (l3 : Int32) (l4 : Int32) (I1 : Nat → Nat → Int32) : Int32 := opv (if (f_X11_isRowOf I1 l4 x2) = true then (if l3 < 0 then (if (f_X11_whoOf (m_X11_goBy I1 l4 x2) 73) = x1 then l4 else l3) else (if (f_X11_ventsIn I1 l4) < (f_X11_ventsIn I1 l3) then (if (f_X11_whoOf (m_X11_goBy I1 l4 x2) 73) = x1 then l4 else l3) else l3)) else l3)
noncomputable def u1_X11_rowFor (x2 : Int32) (l3 : Int32) (l4 : Int32) (I1 : Nat → Nat → Int32) : Nat → Nat → Int32 := opv (if (f_X11_isRowOf I1 l4 x2) = true then (if l3 < 0 then (m_X11_goBy I1 l4 x2) else (if (f_X11_ventsIn I1 l4) < (f_X11_ventsIn I1 l3) then (m_X11_goBy I1 l4 x2) else I1)) else I1)
noncomputable def lp_X11_rowFor_47 (x1 : Int32) (x2 : Int32) : Nat → Int32 → Int32 → (Nat → Nat → Int32) → Int32 × Int32 × (Nat → Nat → Int32)
  | 0, l3, l4, I1 => (l3, l4, I1)
  | n + 1, l3, l4, I1 => (if (f_X11_rowsFor I1 x2) ≤ l4 then (l3, l4, I1) else (lp_X11_rowFor_47 x1 x2 n (u0_X11_rowFor x1 x2 l3 l4 I1) (l4 + 1) (u1_X11_rowFor x2 l3 l4 I1)))
def oklp_X11_rowFor_47 (x1 : Int32) (x2 : Int32) : Nat → Int32 → Int32 → (Nat → Nat → Int32) → Prop
  | 0, l3, l4, I1 => True
  | n + 1, l3, l4, I1 => (if (f_X11_rowsFor I1 x2) ≤ l4 then True else ((if (f_X11_isRowOf I1 l4 x2) = true then (if l3 < 0 then (ok_X11_goBy I1 l4 x2 ∧ ok_X11_whoOf (m_X11_goBy I1 l4 x2) 73) else (ok_X11_ventsIn I1 l4 ∧ (ok_X11_ventsIn I1 l3 ∧ (if (f_X11_ventsIn I1 l4) < (f_X11_ventsIn I1 l3) then (ok_X11_goBy I1 l4 x2 ∧ ok_X11_whoOf (m_X11_goBy I1 l4 x2) 73) else True)))) else True) ∧ oklp_X11_rowFor_47 x1 x2 n (u0_X11_rowFor x1 x2 l3 l4 I1) (l4 + 1) (u1_X11_rowFor x2 l3 l4 I1)))
set_option maxHeartbeats 800000 in
set_option maxRecDepth 4000 in
theorem k_lp_X11_rowFor_47 {k : KT} {ex : Bool} {J : Nat → Nat → Int64} {w : Bool} (x1 : Int32) (x2 : Int32) {F : FinT} : ∀ (n : Nat) (l3 : Int32) (l4 : Int32) (I1 : (Nat → Nat → Int32)), mu_up (f_X11_rowsFor I1 x2) l4 < n → oklp_X11_rowFor_47 x1 x2 n l3 l4 I1 → G k mX11_rowFor (roomOf 6 0 0) F 0 0 112 [some (.ref (ka k 65)), some (.int x1), some (.int x2), some (.int ((lp_X11_rowFor_47 x1 x2 n l3 l4 I1).1)), some (.int ((lp_X11_rowFor_47 x1 x2 n l3 l4 I1).2.1))] [] (81, ex, (lp_X11_rowFor_47 x1 x2 n l3 l4 I1).2.2, J, Pw w) → G k mX11_rowFor (roomOf 6 0 0) F 0 0 47 [some (.ref (ka k 65)), some (.int x1), some (.int x2), some (.int l3), some (.int l4)] [] (81, ex, I1, J, Pw w) := by
  intro n
  induction n with
  | zero => intro l3 l4 I1 hmu hok hj; exact absurd hmu (Nat.not_lt_zero _)
  | succ n ih =>
    intro l3 l4 I1 hmu hok hj
    rw [oklp_X11_rowFor_47] at hok
    refine g_iload (i := 4) rfl d_X11_rowFor_47 ?_
    refine g_iload_n2 rfl d_X11_rowFor_49 ?_
    refine g_callS1 (c_X11_rowsFor I1 x2) w_X11_rowsFor l_X11_317 d_X11_rowFor_50 rfl rfl (Nat.le_of_ble_eq_true rfl) ⟨Nat.le_of_ble_eq_true rfl, Nat.le_of_ble_eq_true rfl⟩ ⟨Nat.zero_le _, Nat.zero_le _⟩ ⟨rfl, rfl⟩ ?_
    refine g_icmp_ge 112 d_X11_rowFor_53 (by decide) (fun h1 => ?_) (fun h1 => ?_)
    · skip
      (try simp only [lp_X11_rowFor_47, if_pos h1, opv_eq, if_true, if_false, Bool.false_eq_true, reduceCtorEq, b2i_t, b2i_f] at hj); exact hj
    · skip
      rw [if_neg h1] at hok
      refine g_aload_n0 rfl d_X11_rowFor_56 ?_
      refine g_iload (i := 4) rfl d_X11_rowFor_57 ?_
      refine g_iload_n2 rfl d_X11_rowFor_59 ?_
      refine g_callV1 (c_X11_isRowOf I1 l4 x2) w_X11_isRowOf l_X11_311 d_X11_rowFor_60 rfl (Nat.le_of_ble_eq_true rfl) rfl rfl (Nat.le_of_ble_eq_true rfl) ⟨Nat.le_of_ble_eq_true rfl, Nat.le_of_ble_eq_true rfl⟩ ⟨Nat.zero_le _, Nat.zero_le _⟩ ⟨rfl, rfl⟩ ?_
      obtain ⟨hoa, hob⟩ := hok
      refine g_cut (pc' := 106) (vs' := [some (.ref (ka k 65)), some (.int x1), some (.int x2), some (.int (u0_X11_rowFor x1 x2 l3 l4 I1)), some (.int l4)]) (st' := []) (M' := (81, ex, (u1_X11_rowFor x2 l3 l4 I1), J, Pw w)) (fun hj => ?_) ?_
      · skip
        refine g_ifz 106 d_X11_rowFor_63 (by decide) (fun h2 => ?_) (fun h2 => ?_)
        · skip
          (try simp only [if_neg (nb h2), opv_eq, if_true, if_false, Bool.false_eq_true, reduceCtorEq, b2i_t, b2i_f, u0_X11_rowFor, u1_X11_rowFor] at hj); exact hj
        · skip
          rw [if_pos h2] at hoa
          refine g_iload_n3 rfl d_X11_rowFor_66 ?_
          refine g_if_lt 85 d_X11_rowFor_67 (by decide) (fun h3 => ?_) (fun h3 => ?_)
          · skip
            rw [if_pos h3] at hoa
            refine g_aload_n0 rfl d_X11_rowFor_85 ?_
            refine g_iload (i := 4) rfl d_X11_rowFor_86 ?_
            refine g_iload_n2 rfl d_X11_rowFor_88 ?_
            obtain ⟨ho1, hok⟩ := hoa
            refine g_callV0 (c_X11_goBy I1 l4 x2 ho1) w_X11_goBy l_X11_308 d_X11_rowFor_89 rfl (Nat.le_of_ble_eq_true rfl) rfl rfl (Nat.le_of_ble_eq_true rfl) ⟨Nat.le_of_ble_eq_true rfl, Nat.le_of_ble_eq_true rfl⟩ ⟨Nat.zero_le _, Nat.zero_le _⟩ ⟨rfl, rfl⟩ ?_
            refine g_aload_n0 rfl d_X11_rowFor_92 ?_
            refine g_getP (b := 73) f_X11_35 d_X11_rowFor_93 rfl (Nat.le_of_ble_eq_true rfl) rfl rfl ?_
            have ho2 := hok
            refine g_callS1 (c_X11_whoOf (m_X11_goBy I1 l4 x2) 73 rfl ho2) w_X11_whoOf l_X11_268 d_X11_rowFor_96 rfl rfl (Nat.le_of_ble_eq_true rfl) ⟨Nat.le_of_ble_eq_true rfl, Nat.le_of_ble_eq_true rfl⟩ ⟨Nat.zero_le _, Nat.zero_le _⟩ ⟨rfl, rfl⟩ ?_
            refine g_iload_n1 rfl d_X11_rowFor_99 ?_
            refine g_icmp_ne 106 d_X11_rowFor_100 (by decide) (fun h4 => ?_) (fun h4 => ?_)
            · skip
              (try simp only [if_pos h2, if_pos h3, if_neg h4, opv_eq, if_true, if_false, Bool.false_eq_true, reduceCtorEq, b2i_t, b2i_f, u0_X11_rowFor, u1_X11_rowFor] at hj); exact hj
            · skip
              refine g_iload (i := 4) rfl d_X11_rowFor_103 ?_
              refine g_isn3 rfl d_X11_rowFor_105 ?_
              (try simp only [if_pos h2, if_pos h3, if_pos h4, opv_eq, if_true, if_false, Bool.false_eq_true, reduceCtorEq, b2i_t, b2i_f, u0_X11_rowFor, u1_X11_rowFor] at hj); exact hj
          · skip
            rw [if_neg h3] at hoa
            refine g_iload (i := 4) rfl d_X11_rowFor_70 ?_
            obtain ⟨ho3, hok⟩ := hoa
            refine g_callS1 (c_X11_ventsIn I1 l4 ho3) w_X11_ventsIn l_X11_333 d_X11_rowFor_72 rfl rfl (Nat.le_of_ble_eq_true rfl) ⟨Nat.le_of_ble_eq_true rfl, Nat.le_of_ble_eq_true rfl⟩ ⟨Nat.zero_le _, Nat.zero_le _⟩ ⟨rfl, rfl⟩ ?_
            refine g_iload_n3 rfl d_X11_rowFor_75 ?_
            obtain ⟨ho4, hok⟩ := hok
            refine g_callS1 (c_X11_ventsIn I1 l3 ho4) w_X11_ventsIn l_X11_333 d_X11_rowFor_76 rfl rfl (Nat.le_of_ble_eq_true rfl) ⟨Nat.le_of_ble_eq_true rfl, Nat.le_of_ble_eq_true rfl⟩ ⟨Nat.zero_le _, Nat.zero_le _⟩ ⟨rfl, rfl⟩ ?_
            refine g_icmp_lt 85 d_X11_rowFor_79 (by decide) (fun h5 => ?_) (fun h5 => ?_)
            · skip
              rw [if_pos h5] at hok
              refine g_aload_n0 rfl d_X11_rowFor_85 ?_
              refine g_iload (i := 4) rfl d_X11_rowFor_86 ?_
              refine g_iload_n2 rfl d_X11_rowFor_88 ?_
              obtain ⟨ho5, hok⟩ := hok
              refine g_callV0 (c_X11_goBy I1 l4 x2 ho5) w_X11_goBy l_X11_308 d_X11_rowFor_89 rfl (Nat.le_of_ble_eq_true rfl) rfl rfl (Nat.le_of_ble_eq_true rfl) ⟨Nat.le_of_ble_eq_true rfl, Nat.le_of_ble_eq_true rfl⟩ ⟨Nat.zero_le _, Nat.zero_le _⟩ ⟨rfl, rfl⟩ ?_
              refine g_aload_n0 rfl d_X11_rowFor_92 ?_
              refine g_getP (b := 73) f_X11_35 d_X11_rowFor_93 rfl (Nat.le_of_ble_eq_true rfl) rfl rfl ?_
              have ho6 := hok
              refine g_callS1 (c_X11_whoOf (m_X11_goBy I1 l4 x2) 73 rfl ho6) w_X11_whoOf l_X11_268 d_X11_rowFor_96 rfl rfl (Nat.le_of_ble_eq_true rfl) ⟨Nat.le_of_ble_eq_true rfl, Nat.le_of_ble_eq_true rfl⟩ ⟨Nat.zero_le _, Nat.zero_le _⟩ ⟨rfl, rfl⟩ ?_
              refine g_iload_n1 rfl d_X11_rowFor_99 ?_
              refine g_icmp_ne 106 d_X11_rowFor_100 (by decide) (fun h6 => ?_) (fun h6 => ?_)
              · skip
                (try simp only [if_pos h2, if_neg h3, if_pos h5, if_neg h6, opv_eq, if_true, if_false, Bool.false_eq_true, reduceCtorEq, b2i_t, b2i_f, u0_X11_rowFor, u1_X11_rowFor] at hj); exact hj
              · skip
                refine g_iload (i := 4) rfl d_X11_rowFor_103 ?_
                refine g_isn3 rfl d_X11_rowFor_105 ?_
                (try simp only [if_pos h2, if_neg h3, if_pos h5, if_pos h6, opv_eq, if_true, if_false, Bool.false_eq_true, reduceCtorEq, b2i_t, b2i_f, u0_X11_rowFor, u1_X11_rowFor] at hj); exact hj
            · skip
              refine g_goto 106 d_X11_rowFor_82 (by decide) ?_
              (try simp only [if_pos h2, if_neg h3, if_neg h5, opv_eq, if_true, if_false, Bool.false_eq_true, reduceCtorEq, b2i_t, b2i_f, u0_X11_rowFor, u1_X11_rowFor] at hj); exact hj
      · skip
        refine g_ic4 (l4 + 1) rfl rfl d_X11_rowFor_106 ?_
        refine g_goto 47 d_X11_rowFor_109 (by decide) ?_
        exact ih (u0_X11_rowFor x1 x2 l3 l4 I1) (l4 + 1) (u1_X11_rowFor x2 l3 l4 I1) (Nat.lt_of_lt_of_le (by rw [rows_I _ I1]; exact mu_up_lt h1) (Nat.le_of_lt_succ hmu)) (by (try simp only [if_neg h1, opv_eq, if_true, if_false, Bool.false_eq_true, reduceCtorEq, b2i_t, b2i_f] at hob); exact hob) (by (try simp only [lp_X11_rowFor_47, if_neg h1, opv_eq, if_true, if_false, Bool.false_eq_true, reduceCtorEq, b2i_t, b2i_f] at hj); exact hj)
noncomputable def f_X11_rowFor (I : Nat → Nat → Int32) (x1 : Int32) (x2 : Int32) : Int32 := opv (if ((m_X11_good I) 65 14) = 0 then f_X11_no (m_X11_good I) 1 else (if (f_X11_in (m_X11_good I) x1 0 3) = true then (if (f_X11_in (m_X11_good I) x2 1 4) = true then (lp_X11_rowFor_47 x1 x2 (mu_up (f_X11_rowsFor (m_X11_good I) x2) 0 + 1) (-2) 0 (m_X11_good I)).1 else f_X11_no (m_X11_good I) 2) else f_X11_no (m_X11_good I) 2))
noncomputable def m_X11_rowFor (I : Nat → Nat → Int32) (x1 : Int32) (x2 : Int32) : Nat → Nat → Int32 := opv (if ((m_X11_good I) 65 14) = 0 then (m_X11_no (m_X11_good I) 1) else (if (f_X11_in (m_X11_good I) x1 0 3) = true then (if (f_X11_in (m_X11_good I) x2 1 4) = true then (lp_X11_rowFor_47 x1 x2 (mu_up (f_X11_rowsFor (m_X11_good I) x2) 0 + 1) (-2) 0 (m_X11_good I)).2.2 else (m_X11_no (m_X11_good I) 2)) else (m_X11_no (m_X11_good I) 2)))
noncomputable def ok_X11_rowFor (I : Nat → Nat → Int32) (x1 : Int32) (x2 : Int32) : Prop := opv (if ((m_X11_good I) 65 14) = 0 then True else (if (f_X11_in (m_X11_good I) x1 0 3) = true then (if (f_X11_in (m_X11_good I) x2 1 4) = true then oklp_X11_rowFor_47 x1 x2 (mu_up (f_X11_rowsFor (m_X11_good I) x2) 0 + 1) (-2) 0 (m_X11_good I) else True) else True))
set_option maxHeartbeats 800000 in
set_option maxRecDepth 4000 in
theorem c_X11_rowFor {k : KT} {ex : Bool} {J : Nat → Nat → Int64} {w : Bool} (I : Nat → Nat → Int32) (x1 : Int32) (x2 : Int32)  (hok : ok_X11_rowFor I x1 x2) : Cx k mX11_rowFor 6 [.ref (ka k 65), .int x1, .int x2] (81, ex, I, J, Pw w) (some (.int (f_X11_rowFor I x1 x2))) (81, ex, m_X11_rowFor I x1 x2, J, Pw w) := by
  refine Ct.of rfl [some (.ref (ka k 65)), some (.int x1), some (.int x2), none, none] rfl rfl (Nat.le_of_ble_eq_true rfl) ?_
  rw [ok_X11_rowFor, opv_eq] at hok
  refine g_aload_n0 rfl d_X11_rowFor_0 ?_
  refine g_callV0 (c_X11_good I ) w_X11_good l_X11_168 d_X11_rowFor_1 rfl (Nat.le_of_ble_eq_true rfl) rfl rfl (Nat.le_of_ble_eq_true rfl) ⟨Nat.le_of_ble_eq_true rfl, Nat.le_of_ble_eq_true rfl⟩ ⟨Nat.zero_le _, Nat.zero_le _⟩ ⟨rfl, rfl⟩ ?_
  refine g_aload_n0 rfl d_X11_rowFor_4 ?_
  refine g_getI f_X11_185 d_X11_rowFor_5 rfl (Nat.le_of_ble_eq_true rfl) rfl ?_
  refine g_if_ne 17 d_X11_rowFor_8 (by decide) (fun h7 => ?_) (fun h7 => ?_)
  · skip
    rw [if_neg h7] at hok
    refine g_iload_n1 rfl d_X11_rowFor_17 ?_
    refine g_iconst 0 d_X11_rowFor_18 (by decide) ?_
    refine g_iconst 3 d_X11_rowFor_19 (by decide) ?_
    refine g_callS1 (c_X11_in (m_X11_good I) x1 0 3) w_X11_in l_X11_149 d_X11_rowFor_20 rfl rfl (Nat.le_of_ble_eq_true rfl) ⟨Nat.le_of_ble_eq_true rfl, Nat.le_of_ble_eq_true rfl⟩ ⟨Nat.zero_le _, Nat.zero_le _⟩ ⟨rfl, rfl⟩ ?_
    refine g_ifz 35 d_X11_rowFor_23 (by decide) (fun h8 => ?_) (fun h8 => ?_)
    · skip
      refine g_aload_n0 rfl d_X11_rowFor_35 ?_
      refine g_iconst 2 d_X11_rowFor_36 (by decide) ?_
      refine g_callV1 (c_X11_no (m_X11_good I) 2) w_X11_no l_X11_171 d_X11_rowFor_37 rfl (Nat.le_of_ble_eq_true rfl) rfl rfl (Nat.le_of_ble_eq_true rfl) ⟨Nat.le_of_ble_eq_true rfl, Nat.le_of_ble_eq_true rfl⟩ ⟨Nat.zero_le _, Nat.zero_le _⟩ ⟨rfl, rfl⟩ ?_
      exact g_iret rfl d_X11_rowFor_40 ⟨by simp only [f_X11_rowFor, m_X11_rowFor, if_neg h7, if_neg (nb h8), opv_eq, if_true, if_false, Bool.false_eq_true, reduceCtorEq, b2i_t, b2i_f], by simp only [f_X11_rowFor, m_X11_rowFor, if_neg h7, if_neg (nb h8), opv_eq, if_true, if_false, Bool.false_eq_true, reduceCtorEq, b2i_t, b2i_f]⟩ (Nat.le_refl _) (Nat.le_refl _)
    · skip
      rw [if_pos h8] at hok
      refine g_iload_n2 rfl d_X11_rowFor_26 ?_
      refine g_iconst 1 d_X11_rowFor_27 (by decide) ?_
      refine g_iconst 4 d_X11_rowFor_28 (by decide) ?_
      refine g_callS1 (c_X11_in (m_X11_good I) x2 1 4) w_X11_in l_X11_149 d_X11_rowFor_29 rfl rfl (Nat.le_of_ble_eq_true rfl) ⟨Nat.le_of_ble_eq_true rfl, Nat.le_of_ble_eq_true rfl⟩ ⟨Nat.zero_le _, Nat.zero_le _⟩ ⟨rfl, rfl⟩ ?_
      refine g_ifnz 41 d_X11_rowFor_32 (by decide) (fun h9 => ?_) (fun h9 => ?_)
      · skip
        rw [if_pos h9] at hok
        refine g_bipush (-2) d_X11_rowFor_41 (by decide) ?_
        refine g_isn3 rfl d_X11_rowFor_43 ?_
        refine g_iconst 0 d_X11_rowFor_44 (by decide) ?_
        refine g_is4 rfl d_X11_rowFor_45 ?_
        refine k_lp_X11_rowFor_47 x1 x2 _ (-2) 0 (m_X11_good I) (Nat.lt_succ_self _) hok ?_
        refine g_iload_n3 rfl d_X11_rowFor_112 ?_
        exact g_iret rfl d_X11_rowFor_113 ⟨by simp only [f_X11_rowFor, m_X11_rowFor, if_neg h7, if_pos h8, if_pos h9, opv_eq, if_true, if_false, Bool.false_eq_true, reduceCtorEq, b2i_t, b2i_f], by simp only [f_X11_rowFor, m_X11_rowFor, if_neg h7, if_pos h8, if_pos h9, opv_eq, if_true, if_false, Bool.false_eq_true, reduceCtorEq, b2i_t, b2i_f]⟩ (Nat.le_refl _) (Nat.le_refl _)
      · skip
        refine g_aload_n0 rfl d_X11_rowFor_35 ?_
        refine g_iconst 2 d_X11_rowFor_36 (by decide) ?_
        refine g_callV1 (c_X11_no (m_X11_good I) 2) w_X11_no l_X11_171 d_X11_rowFor_37 rfl (Nat.le_of_ble_eq_true rfl) rfl rfl (Nat.le_of_ble_eq_true rfl) ⟨Nat.le_of_ble_eq_true rfl, Nat.le_of_ble_eq_true rfl⟩ ⟨Nat.zero_le _, Nat.zero_le _⟩ ⟨rfl, rfl⟩ ?_
        exact g_iret rfl d_X11_rowFor_40 ⟨by simp only [f_X11_rowFor, m_X11_rowFor, if_neg h7, if_pos h8, if_neg (nb h9), opv_eq, if_true, if_false, Bool.false_eq_true, reduceCtorEq, b2i_t, b2i_f], by simp only [f_X11_rowFor, m_X11_rowFor, if_neg h7, if_pos h8, if_neg (nb h9), opv_eq, if_true, if_false, Bool.false_eq_true, reduceCtorEq, b2i_t, b2i_f]⟩ (Nat.le_refl _) (Nat.le_refl _)
  · skip
    refine g_aload_n0 rfl d_X11_rowFor_11 ?_
    refine g_iconst 1 d_X11_rowFor_12 (by decide) ?_
    refine g_callV1 (c_X11_no (m_X11_good I) 1) w_X11_no l_X11_171 d_X11_rowFor_13 rfl (Nat.le_of_ble_eq_true rfl) rfl rfl (Nat.le_of_ble_eq_true rfl) ⟨Nat.le_of_ble_eq_true rfl, Nat.le_of_ble_eq_true rfl⟩ ⟨Nat.zero_le _, Nat.zero_le _⟩ ⟨rfl, rfl⟩ ?_
    exact g_iret rfl d_X11_rowFor_16 ⟨by simp only [f_X11_rowFor, m_X11_rowFor, if_pos h7, opv_eq, if_true, if_false, Bool.false_eq_true, reduceCtorEq, b2i_t, b2i_f], by simp only [f_X11_rowFor, m_X11_rowFor, if_pos h7, opv_eq, if_true, if_false, Bool.false_eq_true, reduceCtorEq, b2i_t, b2i_f]⟩ (Nat.le_refl _) (Nat.le_refl _)
