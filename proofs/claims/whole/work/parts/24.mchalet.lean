noncomputable def lp_X11_chalet_39 (x1 : Int32) : Nat → Int32 → (Nat → Nat → Int32) → Int32 × (Nat → Nat → Int32)
  | 0, l2, I1 => (l2, I1)
  | n + 1, l2, I1 => (if 224 ≤ l2 then (l2, I1) else (lp_X11_chalet_39 x1 n (l2 + 1) (va_up I1 69 (upd (I1 69) l2.toNatClampNeg 0))))
def oklp_X11_chalet_39 (x1 : Int32) : Nat → Int32 → (Nat → Nat → Int32) → Prop
  | 0, l2, I1 => True
  | n + 1, l2, I1 => (if 224 ≤ l2 then True else (vp_in l2 (sz 69) ∧ oklp_X11_chalet_39 x1 n (l2 + 1) (va_up I1 69 (upd (I1 69) l2.toNatClampNeg 0))))
set_option maxHeartbeats 800000 in
set_option maxRecDepth 4000 in
theorem k_lp_X11_chalet_39 {k : KT} {ex : Bool} {J : Nat → Nat → Int64} {w : Bool} (x1 : Int32) {F : FinT} : ∀ (n : Nat) (l2 : Int32) (I1 : (Nat → Nat → Int32)), mu_up 224 l2 < n → oklp_X11_chalet_39 x1 n l2 I1 → G k mX11_chalet (roomOf 11 0 0) F 0 0 59 [some (.ref (ka k 65)), some (.int x1), some (.int ((lp_X11_chalet_39 x1 n l2 I1).1))] [] (81, ex, (lp_X11_chalet_39 x1 n l2 I1).2, J, Pw w) → G k mX11_chalet (roomOf 11 0 0) F 0 0 39 [some (.ref (ka k 65)), some (.int x1), some (.int l2)] [] (81, ex, I1, J, Pw w) := by
  intro n
  induction n with
  | zero => intro l2 I1 hmu hok hj; exact absurd hmu (Nat.not_lt_zero _)
  | succ n ih =>
    intro l2 I1 hmu hok hj
    rw [oklp_X11_chalet_39] at hok
    refine g_iload_n2 rfl d_X11_chalet_39 ?_
    refine g_sipush 224 d_X11_chalet_40 (by decide) ?_
    refine g_icmp_ge 59 d_X11_chalet_43 (by decide) (fun h1 => ?_) (fun h1 => ?_)
    · skip
      (try simp only [lp_X11_chalet_39, if_pos h1, opv_eq, if_true, if_false, Bool.false_eq_true, reduceCtorEq, b2i_t, b2i_f] at hj); exact hj
    · skip
      rw [if_neg h1] at hok
      refine g_aload_n0 rfl d_X11_chalet_46 ?_
      refine g_getP (b := 69) f_X11_23 d_X11_chalet_47 rfl (Nat.le_of_ble_eq_true rfl) rfl rfl ?_
      refine g_iload_n2 rfl d_X11_chalet_50 ?_
      refine g_iconst 0 d_X11_chalet_51 (by decide) ?_
      obtain ⟨ho1, hok⟩ := hok
      refine g_iast d_X11_chalet_52 rfl (Nat.le_of_ble_eq_true rfl) ho1 ?_
      refine g_ic2 (l2 + 1) rfl rfl d_X11_chalet_53 ?_
      refine g_goto 39 d_X11_chalet_56 (by decide) ?_
      exact ih (l2 + 1) (va_up I1 69 (upd (I1 69) l2.toNatClampNeg 0)) (Nat.lt_of_lt_of_le (mu_up_lt h1) (Nat.le_of_lt_succ hmu)) (by (try simp only [if_neg h1, opv_eq, if_true, if_false, Bool.false_eq_true, reduceCtorEq, b2i_t, b2i_f] at hok); exact hok) (by (try simp only [lp_X11_chalet_39, if_neg h1, opv_eq, if_true, if_false, Bool.false_eq_true, reduceCtorEq, b2i_t, b2i_f] at hj); exact hj)
noncomputable def u0_X11_chalet (I : Nat → Nat → Int32) (x1 : Int32) : Nat → Nat → Int32 := opv (m_X11_next (st2 (st2 (st2 (st2 ((lp_X11_chalet_39 x1 (mu_up 224 0 + 1) 0 (st2 (st2 (st2 (m_X11_good I) 65 2 0) 65 9 0) 65 13 0)).2) 69 3 10) 69 4 10) 65 3 x1) 65 5 0))
noncomputable def lp_X11_chalet_93 (x1 : Int32) (l2 : Int32) : Nat → (Nat → Nat → Int32) → (Nat → Nat → Int32)
  | 0, I1 => I1
  | n + 1, I1 => (if (I1 65 13) = 0 then (if (I1 65 6) = 59 then (lp_X11_chalet_93 x1 l2 n (m_X11_readLine (m_X11_next I1))) else I1) else I1)
def oklp_X11_chalet_93 (x1 : Int32) (l2 : Int32) : Nat → (Nat → Nat → Int32) → Prop
  | 0, I1 => False
  | n + 1, I1 => (if (I1 65 13) = 0 then (if (I1 65 6) = 59 then (ok_X11_next I1 ∧ (ok_X11_readLine (m_X11_next I1) ∧ oklp_X11_chalet_93 x1 l2 n (m_X11_readLine (m_X11_next I1)))) else True) else True)
set_option maxHeartbeats 800000 in
set_option maxRecDepth 4000 in
theorem k_lp_X11_chalet_93 {k : KT} {ex : Bool} {J : Nat → Nat → Int64} {w : Bool} (x1 : Int32) (l2 : Int32) {F : FinT} : ∀ (n : Nat) (I1 : (Nat → Nat → Int32)), oklp_X11_chalet_93 x1 l2 n I1 → G k mX11_chalet (roomOf 11 0 0) F 0 0 120 [some (.ref (ka k 65)), some (.int x1), some (.int l2)] [] (81, ex, (lp_X11_chalet_93 x1 l2 n I1), J, Pw w) → G k mX11_chalet (roomOf 11 0 0) F 0 0 93 [some (.ref (ka k 65)), some (.int x1), some (.int l2)] [] (81, ex, I1, J, Pw w) := by
  intro n
  induction n with
  | zero => intro I1 hok hj; exact absurd hok (by rw [oklp_X11_chalet_93]; exact id)
  | succ n ih =>
    intro I1 hok hj
    rw [oklp_X11_chalet_93] at hok
    refine g_aload_n0 rfl d_X11_chalet_93 ?_
    refine g_getI f_X11_98 d_X11_chalet_94 rfl (Nat.le_of_ble_eq_true rfl) rfl ?_
    refine g_if_ne 120 d_X11_chalet_97 (by decide) (fun h2 => ?_) (fun h2 => ?_)
    · skip
      (try simp only [lp_X11_chalet_93, if_neg h2, opv_eq, if_true, if_false, Bool.false_eq_true, reduceCtorEq, b2i_t, b2i_f] at hj); exact hj
    · skip
      rw [if_pos h2] at hok
      refine g_aload_n0 rfl d_X11_chalet_100 ?_
      refine g_getI f_X11_88 d_X11_chalet_101 rfl (Nat.le_of_ble_eq_true rfl) rfl ?_
      refine g_bipush 59 d_X11_chalet_104 (by decide) ?_
      refine g_icmp_ne 120 d_X11_chalet_106 (by decide) (fun h3 => ?_) (fun h3 => ?_)
      · skip
        (try simp only [lp_X11_chalet_93, if_pos h2, if_neg h3, opv_eq, if_true, if_false, Bool.false_eq_true, reduceCtorEq, b2i_t, b2i_f] at hj); exact hj
      · skip
        rw [if_pos h3] at hok
        refine g_aload_n0 rfl d_X11_chalet_109 ?_
        obtain ⟨ho4, hok⟩ := hok
        refine g_callV0 (c_X11_next I1  ho4) w_X11_next l_X11_119 d_X11_chalet_110 rfl (Nat.le_of_ble_eq_true rfl) rfl rfl (Nat.le_of_ble_eq_true rfl) ⟨Nat.le_of_ble_eq_true rfl, Nat.le_of_ble_eq_true rfl⟩ ⟨Nat.zero_le _, Nat.zero_le _⟩ ⟨rfl, rfl⟩ ?_
        refine g_aload_n0 rfl d_X11_chalet_113 ?_
        obtain ⟨ho5, hok⟩ := hok
        refine g_callV0 (c_X11_readLine (m_X11_next I1)  ho5) w_X11_readLine l_X11_174 d_X11_chalet_114 rfl (Nat.le_of_ble_eq_true rfl) rfl rfl (Nat.le_of_ble_eq_true rfl) ⟨Nat.le_of_ble_eq_true rfl, Nat.le_of_ble_eq_true rfl⟩ ⟨Nat.zero_le _, Nat.zero_le _⟩ ⟨rfl, rfl⟩ ?_
        refine g_goto 93 d_X11_chalet_117 (by decide) ?_
        exact ih (m_X11_readLine (m_X11_next I1)) (by (try simp only [if_pos h2, if_pos h3, opv_eq, if_true, if_false, Bool.false_eq_true, reduceCtorEq, b2i_t, b2i_f] at hok); exact hok) (by (try simp only [lp_X11_chalet_93, if_pos h2, if_pos h3, opv_eq, if_true, if_false, Bool.false_eq_true, reduceCtorEq, b2i_t, b2i_f] at hj); exact hj)
noncomputable def u1_X11_chalet (I : Nat → Nat → Int32) (x1 : Int32) : Nat → Nat → Int32 := opv (m_X11_wrong (lp_X11_chalet_93 x1 ((lp_X11_chalet_39 x1 (mu_up 224 0 + 1) 0 (st2 (st2 (st2 (m_X11_good I) 65 2 0) 65 9 0) 65 13 0)).1) (opq 2000) (m_X11_readLine (u0_X11_chalet I x1))) 1 ((lp_X11_chalet_93 x1 ((lp_X11_chalet_39 x1 (mu_up 224 0 + 1) 0 (st2 (st2 (st2 (m_X11_good I) 65 2 0) 65 9 0) 65 13 0)).1) (opq 2000) (m_X11_readLine (u0_X11_chalet I x1))) 65 4))
noncomputable def u2_X11_chalet (I : Nat → Nat → Int32) (x1 : Int32) : Nat → Nat → Int32 := opv (if ((lp_X11_chalet_93 x1 ((lp_X11_chalet_39 x1 (mu_up 224 0 + 1) 0 (st2 (st2 (st2 (m_X11_good I) 65 2 0) 65 9 0) 65 13 0)).1) (opq 2000) (m_X11_readLine (u0_X11_chalet I x1))) 65 13) = 0 then (if ((lp_X11_chalet_93 x1 ((lp_X11_chalet_39 x1 (mu_up 224 0 + 1) 0 (st2 (st2 (st2 (m_X11_good I) 65 2 0) 65 9 0) 65 13 0)).1) (opq 2000) (m_X11_readLine (u0_X11_chalet I x1))) 65 6) = 0 then (lp_X11_chalet_93 x1 ((lp_X11_chalet_39 x1 (mu_up 224 0 + 1) 0 (st2 (st2 (st2 (m_X11_good I) 65 2 0) 65 9 0) 65 13 0)).1) (opq 2000) (m_X11_readLine (u0_X11_chalet I x1))) else (u1_X11_chalet I x1)) else (lp_X11_chalet_93 x1 ((lp_X11_chalet_39 x1 (mu_up 224 0 + 1) 0 (st2 (st2 (st2 (m_X11_good I) 65 2 0) 65 9 0) 65 13 0)).1) (opq 2000) (m_X11_readLine (u0_X11_chalet I x1))))
noncomputable def u3_X11_chalet (I : Nat → Nat → Int32) (x1 : Int32) : Nat → Nat → Int32 := opv (if ((u2_X11_chalet I x1) 65 13) = 0 then (if ((u2_X11_chalet I x1) 69 11) = 0 then (m_X11_wrong (u2_X11_chalet I x1) 6 ((u2_X11_chalet I x1) 65 4)) else (u2_X11_chalet I x1)) else (u2_X11_chalet I x1))
noncomputable def u4_X11_chalet (I : Nat → Nat → Int32) (x1 : Int32) : Nat → Nat → Int32 := opv (m_X11_begins (m_X11_copy (u3_X11_chalet I x1) 69 0 68 0 224) 70 ((m_X11_copy (u3_X11_chalet I x1) 69 0 68 0 224) 68 1))
noncomputable def f_X11_chalet (I : Nat → Nat → Int32) (x1 : Int32) : Int32 := opv (if (f_X11_in (m_X11_good I) x1 0 ((m_X11_good I) 65 2)) = true then (if ((u3_X11_chalet I x1) 65 13) = 0 then (u4_X11_chalet I x1) 68 5 else f_X11_no (u3_X11_chalet I x1) 4) else f_X11_no (m_X11_good I) 2)
noncomputable def m_X11_chalet (I : Nat → Nat → Int32) (x1 : Int32) : Nat → Nat → Int32 := opv (if (f_X11_in (m_X11_good I) x1 0 ((m_X11_good I) 65 2)) = true then (if ((u3_X11_chalet I x1) 65 13) = 0 then (st2 (st2 (st2 (u4_X11_chalet I x1) 65 14 1) 65 20 0) 65 21 0) else (m_X11_no (u3_X11_chalet I x1) 4)) else (m_X11_no (m_X11_good I) 2))
noncomputable def ok_X11_chalet (I : Nat → Nat → Int32) (x1 : Int32) : Prop := opv (if (f_X11_in (m_X11_good I) x1 0 ((m_X11_good I) 65 2)) = true then (oklp_X11_chalet_39 x1 (mu_up 224 0 + 1) 0 (st2 (st2 (st2 (m_X11_good I) 65 2 0) 65 9 0) 65 13 0) ∧ (ok_X11_next (st2 (st2 (st2 (st2 ((lp_X11_chalet_39 x1 (mu_up 224 0 + 1) 0 (st2 (st2 (st2 (m_X11_good I) 65 2 0) 65 9 0) 65 13 0)).2) 69 3 10) 69 4 10) 65 3 x1) 65 5 0) ∧ (ok_X11_readLine (u0_X11_chalet I x1) ∧ (oklp_X11_chalet_93 x1 ((lp_X11_chalet_39 x1 (mu_up 224 0 + 1) 0 (st2 (st2 (st2 (m_X11_good I) 65 2 0) 65 9 0) 65 13 0)).1) (opq 2000) (m_X11_readLine (u0_X11_chalet I x1)) ∧ (if ((u3_X11_chalet I x1) 65 13) = 0 then (ok_X11_copy (u3_X11_chalet I x1) 69 0 68 0 224 ∧ ok_X11_begins (m_X11_copy (u3_X11_chalet I x1) 69 0 68 0 224) 70 ((m_X11_copy (u3_X11_chalet I x1) 69 0 68 0 224) 68 1)) else True))))) else True)
set_option maxHeartbeats 800000 in
set_option maxRecDepth 4000 in
theorem c_X11_chalet {k : KT} {ex : Bool} {J : Nat → Nat → Int64} {w : Bool} (I : Nat → Nat → Int32) (x1 : Int32)  (hok : ok_X11_chalet I x1) : Cx k mX11_chalet 11 [.ref (ka k 65), .int x1] (81, ex, I, J, Pw w) (some (.int (f_X11_chalet I x1))) (81, ex, m_X11_chalet I x1, J, Pw w) := by
  refine Ct.of rfl [some (.ref (ka k 65)), some (.int x1), none] rfl rfl (Nat.le_of_ble_eq_true rfl) ?_
  rw [ok_X11_chalet, opv_eq] at hok
  refine g_aload_n0 rfl d_X11_chalet_0 ?_
  refine g_callV0 (c_X11_good I ) w_X11_good l_X11_168 d_X11_chalet_1 rfl (Nat.le_of_ble_eq_true rfl) rfl rfl (Nat.le_of_ble_eq_true rfl) ⟨Nat.le_of_ble_eq_true rfl, Nat.le_of_ble_eq_true rfl⟩ ⟨Nat.zero_le _, Nat.zero_le _⟩ ⟨rfl, rfl⟩ ?_
  refine g_iload_n1 rfl d_X11_chalet_4 ?_
  refine g_iconst 0 d_X11_chalet_5 (by decide) ?_
  refine g_aload_n0 rfl d_X11_chalet_6 ?_
  refine g_getI f_X11_66 d_X11_chalet_7 rfl (Nat.le_of_ble_eq_true rfl) rfl ?_
  refine g_callS1 (c_X11_in (m_X11_good I) x1 0 ((m_X11_good I) 65 2)) w_X11_in l_X11_149 d_X11_chalet_10 rfl rfl (Nat.le_of_ble_eq_true rfl) ⟨Nat.le_of_ble_eq_true rfl, Nat.le_of_ble_eq_true rfl⟩ ⟨Nat.zero_le _, Nat.zero_le _⟩ ⟨rfl, rfl⟩ ?_
  refine g_ifnz 22 d_X11_chalet_13 (by decide) (fun h4 => ?_) (fun h4 => ?_)
  · skip
    rw [if_pos h4] at hok
    refine g_aload_n0 rfl d_X11_chalet_22 ?_
    refine g_iconst 0 d_X11_chalet_23 (by decide) ?_
    refine g_putI f_X11_66 d_X11_chalet_24 rfl (Nat.le_of_ble_eq_true rfl) rfl rfl rfl ?_
    refine g_aload_n0 rfl d_X11_chalet_27 ?_
    refine g_iconst 0 d_X11_chalet_28 (by decide) ?_
    refine g_putI f_X11_102 d_X11_chalet_29 rfl (Nat.le_of_ble_eq_true rfl) rfl rfl rfl ?_
    refine g_aload_n0 rfl d_X11_chalet_32 ?_
    refine g_iconst 0 d_X11_chalet_33 (by decide) ?_
    refine g_putI f_X11_98 d_X11_chalet_34 rfl (Nat.le_of_ble_eq_true rfl) rfl (by decide) (by decide) ?_
    refine g_iconst 0 d_X11_chalet_37 (by decide) ?_
    refine g_isn2 rfl d_X11_chalet_38 ?_
    obtain ⟨hol, hok⟩ := hok
    refine k_lp_X11_chalet_39 x1 _ 0 (st2 (st2 (st2 (m_X11_good I) 65 2 0) 65 9 0) 65 13 0) (Nat.lt_succ_self _) hol ?_
    refine g_aload_n0 rfl d_X11_chalet_59 ?_
    refine g_getP (b := 69) f_X11_23 d_X11_chalet_60 rfl (Nat.le_of_ble_eq_true rfl) rfl rfl ?_
    refine g_iconst 3 d_X11_chalet_63 (by decide) ?_
    refine g_bipush 10 d_X11_chalet_64 (by decide) ?_
    refine g_iasts (n := 3) rfl d_X11_chalet_66 rfl (Nat.le_of_ble_eq_true rfl) (vp_c (by decide +kernel)) ?_
    refine g_aload_n0 rfl d_X11_chalet_67 ?_
    refine g_getP (b := 69) f_X11_23 d_X11_chalet_68 rfl (Nat.le_of_ble_eq_true rfl) rfl rfl ?_
    refine g_iconst 4 d_X11_chalet_71 (by decide) ?_
    refine g_bipush 10 d_X11_chalet_72 (by decide) ?_
    refine g_iasts (n := 4) rfl d_X11_chalet_74 rfl (Nat.le_of_ble_eq_true rfl) (vp_c (by decide +kernel)) ?_
    refine g_aload_n0 rfl d_X11_chalet_75 ?_
    refine g_iload_n1 rfl d_X11_chalet_76 ?_
    refine g_putI f_X11_69 d_X11_chalet_77 rfl (Nat.le_of_ble_eq_true rfl) rfl rfl rfl ?_
    refine g_aload_n0 rfl d_X11_chalet_80 ?_
    refine g_iconst 0 d_X11_chalet_81 (by decide) ?_
    refine g_putI f_X11_72 d_X11_chalet_82 rfl (Nat.le_of_ble_eq_true rfl) rfl rfl rfl ?_
    refine g_aload_n0 rfl d_X11_chalet_85 ?_
    obtain ⟨ho2, hok⟩ := hok
    refine g_callV0 (c_X11_next (st2 (st2 (st2 (st2 ((lp_X11_chalet_39 x1 (mu_up 224 0 + 1) 0 (st2 (st2 (st2 (m_X11_good I) 65 2 0) 65 9 0) 65 13 0)).2) 69 3 10) 69 4 10) 65 3 x1) 65 5 0)  ho2) w_X11_next l_X11_119 d_X11_chalet_86 rfl (Nat.le_of_ble_eq_true rfl) rfl rfl (Nat.le_of_ble_eq_true rfl) ⟨Nat.le_of_ble_eq_true rfl, Nat.le_of_ble_eq_true rfl⟩ ⟨Nat.zero_le _, Nat.zero_le _⟩ ⟨rfl, rfl⟩ ?_
    refine G.toI (I' := (u0_X11_chalet I x1)) (by rw [u0_X11_chalet, opv_eq]) ?_
    refine g_aload_n0 rfl d_X11_chalet_89 ?_
    obtain ⟨ho3, hok⟩ := hok
    refine g_callV0 (c_X11_readLine (u0_X11_chalet I x1)  ho3) w_X11_readLine l_X11_174 d_X11_chalet_90 rfl (Nat.le_of_ble_eq_true rfl) rfl rfl (Nat.le_of_ble_eq_true rfl) ⟨Nat.le_of_ble_eq_true rfl, Nat.le_of_ble_eq_true rfl⟩ ⟨Nat.zero_le _, Nat.zero_le _⟩ ⟨rfl, rfl⟩ ?_
    obtain ⟨hol, hok⟩ := hok
    refine k_lp_X11_chalet_93 x1 ((lp_X11_chalet_39 x1 (mu_up 224 0 + 1) 0 (st2 (st2 (st2 (m_X11_good I) 65 2 0) 65 9 0) 65 13 0)).1) _ (m_X11_readLine (u0_X11_chalet I x1)) hol ?_
    refine g_aload_n0 rfl d_X11_chalet_120 ?_
    refine g_getI f_X11_98 d_X11_chalet_121 rfl (Nat.le_of_ble_eq_true rfl) rfl ?_
    refine g_cut (pc' := 143) (vs' := [some (.ref (ka k 65)), some (.int x1), some (.int ((lp_X11_chalet_39 x1 (mu_up 224 0 + 1) 0 (st2 (st2 (st2 (m_X11_good I) 65 2 0) 65 9 0) 65 13 0)).1))]) (st' := []) (M' := (81, ex, (u2_X11_chalet I x1), J, Pw w)) (fun hj => ?_) ?_
    · skip
      refine g_if_ne 143 d_X11_chalet_124 (by decide) (fun h5 => ?_) (fun h5 => ?_)
      · skip
        (try simp only [if_neg h5, opv_eq, if_true, if_false, Bool.false_eq_true, reduceCtorEq, b2i_t, b2i_f, u2_X11_chalet] at hj); exact hj
      · skip
        refine g_aload_n0 rfl d_X11_chalet_127 ?_
        refine g_getI f_X11_88 d_X11_chalet_128 rfl (Nat.le_of_ble_eq_true rfl) rfl ?_
        refine g_if_eq 143 d_X11_chalet_131 (by decide) (fun h6 => ?_) (fun h6 => ?_)
        · skip
          (try simp only [if_pos h5, if_pos h6, opv_eq, if_true, if_false, Bool.false_eq_true, reduceCtorEq, b2i_t, b2i_f, u2_X11_chalet] at hj); exact hj
        · skip
          refine g_aload_n0 rfl d_X11_chalet_134 ?_
          refine g_iconst 1 d_X11_chalet_135 (by decide) ?_
          refine g_aload_n0 rfl d_X11_chalet_136 ?_
          refine g_getI f_X11_79 d_X11_chalet_137 rfl (Nat.le_of_ble_eq_true rfl) rfl ?_
          refine g_callV0 (c_X11_wrong (lp_X11_chalet_93 x1 ((lp_X11_chalet_39 x1 (mu_up 224 0 + 1) 0 (st2 (st2 (st2 (m_X11_good I) 65 2 0) 65 9 0) 65 13 0)).1) (opq 2000) (m_X11_readLine (u0_X11_chalet I x1))) 1 ((lp_X11_chalet_93 x1 ((lp_X11_chalet_39 x1 (mu_up 224 0 + 1) 0 (st2 (st2 (st2 (m_X11_good I) 65 2 0) 65 9 0) 65 13 0)).1) (opq 2000) (m_X11_readLine (u0_X11_chalet I x1))) 65 4)) w_X11_wrong l_X11_125 d_X11_chalet_140 rfl (Nat.le_of_ble_eq_true rfl) rfl rfl (Nat.le_of_ble_eq_true rfl) ⟨Nat.le_of_ble_eq_true rfl, Nat.le_of_ble_eq_true rfl⟩ ⟨Nat.zero_le _, Nat.zero_le _⟩ ⟨rfl, rfl⟩ ?_
          refine G.toI (I' := (u1_X11_chalet I x1)) (by rw [u1_X11_chalet, opv_eq]) ?_
          (try simp only [if_pos h5, if_neg h6, opv_eq, if_true, if_false, Bool.false_eq_true, reduceCtorEq, b2i_t, b2i_f, u2_X11_chalet] at hj); exact hj
    · skip
      refine g_aload_n0 rfl d_X11_chalet_143 ?_
      refine g_getI f_X11_98 d_X11_chalet_144 rfl (Nat.le_of_ble_eq_true rfl) rfl ?_
      refine g_cut (pc' := 170) (vs' := [some (.ref (ka k 65)), some (.int x1), some (.int ((lp_X11_chalet_39 x1 (mu_up 224 0 + 1) 0 (st2 (st2 (st2 (m_X11_good I) 65 2 0) 65 9 0) 65 13 0)).1))]) (st' := []) (M' := (81, ex, (u3_X11_chalet I x1), J, Pw w)) (fun hj => ?_) ?_
      · skip
        refine g_if_ne 170 d_X11_chalet_147 (by decide) (fun h7 => ?_) (fun h7 => ?_)
        · skip
          (try simp only [if_neg h7, opv_eq, if_true, if_false, Bool.false_eq_true, reduceCtorEq, b2i_t, b2i_f, u3_X11_chalet] at hj); exact hj
        · skip
          refine g_aload_n0 rfl d_X11_chalet_150 ?_
          refine g_getP (b := 69) f_X11_23 d_X11_chalet_151 rfl (Nat.le_of_ble_eq_true rfl) rfl rfl ?_
          refine g_bipush 11 d_X11_chalet_154 (by decide) ?_
          refine g_ialdv ((u2_X11_chalet I x1) 69 11) rfl d_X11_chalet_156 rfl (Nat.le_of_ble_eq_true rfl) (vp_c (by decide +kernel)) ?_
          refine g_if_ne 170 d_X11_chalet_157 (by decide) (fun h8 => ?_) (fun h8 => ?_)
          · skip
            (try simp only [if_pos h7, if_neg h8, opv_eq, if_true, if_false, Bool.false_eq_true, reduceCtorEq, b2i_t, b2i_f, u3_X11_chalet] at hj); exact hj
          · skip
            refine g_aload_n0 rfl d_X11_chalet_160 ?_
            refine g_bipush 6 d_X11_chalet_161 (by decide) ?_
            refine g_aload_n0 rfl d_X11_chalet_163 ?_
            refine g_getI f_X11_79 d_X11_chalet_164 rfl (Nat.le_of_ble_eq_true rfl) rfl ?_
            refine g_callV0 (c_X11_wrong (u2_X11_chalet I x1) 6 ((u2_X11_chalet I x1) 65 4)) w_X11_wrong l_X11_125 d_X11_chalet_167 rfl (Nat.le_of_ble_eq_true rfl) rfl rfl (Nat.le_of_ble_eq_true rfl) ⟨Nat.le_of_ble_eq_true rfl, Nat.le_of_ble_eq_true rfl⟩ ⟨Nat.zero_le _, Nat.zero_le _⟩ ⟨rfl, rfl⟩ ?_
            (try simp only [if_pos h7, if_pos h8, opv_eq, if_true, if_false, Bool.false_eq_true, reduceCtorEq, b2i_t, b2i_f, u3_X11_chalet] at hj); exact hj
      · skip
        refine g_aload_n0 rfl d_X11_chalet_170 ?_
        refine g_getI f_X11_98 d_X11_chalet_171 rfl (Nat.le_of_ble_eq_true rfl) rfl ?_
        refine g_if_eq 183 d_X11_chalet_174 (by decide) (fun h9 => ?_) (fun h9 => ?_)
        · skip
          rw [if_pos h9] at hok
          refine g_aload_n0 rfl d_X11_chalet_183 ?_
          refine g_getP (b := 69) f_X11_23 d_X11_chalet_184 rfl (Nat.le_of_ble_eq_true rfl) rfl rfl ?_
          refine g_iconst 0 d_X11_chalet_187 (by decide) ?_
          refine g_aload_n0 rfl d_X11_chalet_188 ?_
          refine g_getP (b := 68) f_X11_20 d_X11_chalet_189 rfl (Nat.le_of_ble_eq_true rfl) rfl rfl ?_
          refine g_iconst 0 d_X11_chalet_192 (by decide) ?_
          refine g_sipush 224 d_X11_chalet_193 (by decide) ?_
          obtain ⟨ho6, hok⟩ := hok
          refine g_callS0 (c_X11_copy (u3_X11_chalet I x1) 69 rfl 0 68 rfl 0 224 ho6) w_X11_copy l_X11_177 d_X11_chalet_196 rfl rfl (Nat.le_of_ble_eq_true rfl) ⟨Nat.le_of_ble_eq_true rfl, Nat.le_of_ble_eq_true rfl⟩ ⟨Nat.zero_le _, Nat.zero_le _⟩ ⟨rfl, rfl⟩ ?_
          refine g_aload_n0 rfl d_X11_chalet_199 ?_
          refine g_aload_n0 rfl d_X11_chalet_200 ?_
          refine g_getP (b := 70) f_X11_26 d_X11_chalet_201 rfl (Nat.le_of_ble_eq_true rfl) rfl rfl ?_
          refine g_aload_n0 rfl d_X11_chalet_204 ?_
          refine g_getP (b := 68) f_X11_20 d_X11_chalet_205 rfl (Nat.le_of_ble_eq_true rfl) rfl rfl ?_
          refine g_iconst 1 d_X11_chalet_208 (by decide) ?_
          refine g_ialdv ((m_X11_copy (u3_X11_chalet I x1) 69 0 68 0 224) 68 1) rfl d_X11_chalet_209 rfl (Nat.le_of_ble_eq_true rfl) (vp_c (by decide +kernel)) ?_
          have ho7 := hok
          refine g_callV0 (c_X11_begins (m_X11_copy (u3_X11_chalet I x1) 69 0 68 0 224) 70 rfl ((m_X11_copy (u3_X11_chalet I x1) 69 0 68 0 224) 68 1) ho7) w_X11_begins l_X11_181 d_X11_chalet_210 rfl (Nat.le_of_ble_eq_true rfl) rfl rfl (Nat.le_of_ble_eq_true rfl) ⟨Nat.le_of_ble_eq_true rfl, Nat.le_of_ble_eq_true rfl⟩ ⟨Nat.zero_le _, Nat.zero_le _⟩ ⟨rfl, rfl⟩ ?_
          refine G.toI (I' := (u4_X11_chalet I x1)) (by rw [u4_X11_chalet, opv_eq]) ?_
          refine g_aload_n0 rfl d_X11_chalet_213 ?_
          refine g_iconst 1 d_X11_chalet_214 (by decide) ?_
          refine g_putI f_X11_185 d_X11_chalet_215 rfl (Nat.le_of_ble_eq_true rfl) rfl (by decide) (by decide) ?_
          refine g_aload_n0 rfl d_X11_chalet_218 ?_
          refine g_iconst 0 d_X11_chalet_219 (by decide) ?_
          refine g_putI f_X11_188 d_X11_chalet_220 rfl (Nat.le_of_ble_eq_true rfl) rfl rfl rfl ?_
          refine g_aload_n0 rfl d_X11_chalet_223 ?_
          refine g_iconst 0 d_X11_chalet_224 (by decide) ?_
          refine g_putI f_X11_191 d_X11_chalet_225 rfl (Nat.le_of_ble_eq_true rfl) rfl rfl rfl ?_
          refine g_aload_n0 rfl d_X11_chalet_228 ?_
          refine g_getP (b := 68) f_X11_20 d_X11_chalet_229 rfl (Nat.le_of_ble_eq_true rfl) rfl rfl ?_
          refine g_iconst 5 d_X11_chalet_232 (by decide) ?_
          refine g_ialdv ((u4_X11_chalet I x1) 68 5) ((st2_a _ _ (by decide)).trans ((st2_a _ _ (by decide)).trans (st2_a _ _ (by decide)))) d_X11_chalet_233 rfl (Nat.le_of_ble_eq_true rfl) (vp_c (by decide +kernel)) ?_
          exact g_iret rfl d_X11_chalet_234 ⟨by simp only [f_X11_chalet, m_X11_chalet, if_pos h4, if_pos h9, opv_eq, if_true, if_false, Bool.false_eq_true, reduceCtorEq, b2i_t, b2i_f], by simp only [f_X11_chalet, m_X11_chalet, if_pos h4, if_pos h9, opv_eq, if_true, if_false, Bool.false_eq_true, reduceCtorEq, b2i_t, b2i_f]⟩ (Nat.le_refl _) (Nat.le_refl _)
        · skip
          refine g_aload_n0 rfl d_X11_chalet_177 ?_
          refine g_iconst 4 d_X11_chalet_178 (by decide) ?_
          refine g_callV1 (c_X11_no (u3_X11_chalet I x1) 4) w_X11_no l_X11_171 d_X11_chalet_179 rfl (Nat.le_of_ble_eq_true rfl) rfl rfl (Nat.le_of_ble_eq_true rfl) ⟨Nat.le_of_ble_eq_true rfl, Nat.le_of_ble_eq_true rfl⟩ ⟨Nat.zero_le _, Nat.zero_le _⟩ ⟨rfl, rfl⟩ ?_
          exact g_iret rfl d_X11_chalet_182 ⟨by simp only [f_X11_chalet, m_X11_chalet, if_pos h4, if_neg h9, opv_eq, if_true, if_false, Bool.false_eq_true, reduceCtorEq, b2i_t, b2i_f], by simp only [f_X11_chalet, m_X11_chalet, if_pos h4, if_neg h9, opv_eq, if_true, if_false, Bool.false_eq_true, reduceCtorEq, b2i_t, b2i_f]⟩ (Nat.le_refl _) (Nat.le_refl _)
  · skip
    refine g_aload_n0 rfl d_X11_chalet_16 ?_
    refine g_iconst 2 d_X11_chalet_17 (by decide) ?_
    refine g_callV1 (c_X11_no (m_X11_good I) 2) w_X11_no l_X11_171 d_X11_chalet_18 rfl (Nat.le_of_ble_eq_true rfl) rfl rfl (Nat.le_of_ble_eq_true rfl) ⟨Nat.le_of_ble_eq_true rfl, Nat.le_of_ble_eq_true rfl⟩ ⟨Nat.zero_le _, Nat.zero_le _⟩ ⟨rfl, rfl⟩ ?_
    exact g_iret rfl d_X11_chalet_21 ⟨by simp only [f_X11_chalet, m_X11_chalet, if_neg (nb h4), opv_eq, if_true, if_false, Bool.false_eq_true, reduceCtorEq, b2i_t, b2i_f], by simp only [f_X11_chalet, m_X11_chalet, if_neg (nb h4), opv_eq, if_true, if_false, Bool.false_eq_true, reduceCtorEq, b2i_t, b2i_f]⟩ (Nat.le_refl _) (Nat.le_refl _)
noncomputable def f_X11_fault (I : Nat → Nat → Int32)  : Int32 := opv (I 65 9)
noncomputable def m_X11_fault (I : Nat → Nat → Int32)  : Nat → Nat → Int32 := opv (st2 I 65 0 0)
set_option maxHeartbeats 800000 in
set_option maxRecDepth 4000 in
theorem c_X11_fault {k : KT} {ex : Bool} {J : Nat → Nat → Int64} {w : Bool} (I : Nat → Nat → Int32)   : Cx k mX11_fault 1 [.ref (ka k 65)] (81, ex, I, J, Pw w) (some (.int (f_X11_fault I))) (81, ex, m_X11_fault I, J, Pw w) := by
  refine Ct.of rfl [some (.ref (ka k 65))] rfl rfl (Nat.le_of_ble_eq_true rfl) ?_
  refine g_aload_n0 rfl d_X11_fault_0 ?_
  refine g_iconst 0 d_X11_fault_1 (by decide) ?_
  refine g_putI f_X11_60 d_X11_fault_2 rfl (Nat.le_of_ble_eq_true rfl) rfl rfl rfl ?_
  refine g_aload_n0 rfl d_X11_fault_5 ?_
  refine g_getIv (I 65 9) (st2_o _ _ _ (by decide)) f_X11_102 d_X11_fault_6 rfl (Nat.le_of_ble_eq_true rfl) rfl ?_
  exact g_iret rfl d_X11_fault_9 ⟨by simp only [f_X11_fault, m_X11_fault, opv_eq, if_true, if_false, Bool.false_eq_true, reduceCtorEq, b2i_t, b2i_f], by simp only [f_X11_fault, m_X11_fault, opv_eq, if_true, if_false, Bool.false_eq_true, reduceCtorEq, b2i_t, b2i_f]⟩ (Nat.le_refl _) (Nat.le_refl _)
noncomputable def f_X11_where (I : Nat → Nat → Int32)  : Int32 := opv (if (I 65 11) = 4 then I 65 10 else (-1))
noncomputable def m_X11_where (I : Nat → Nat → Int32)  : Nat → Nat → Int32 := opv (st2 I 65 0 0)
set_option maxHeartbeats 800000 in
set_option maxRecDepth 4000 in
theorem c_X11_where {k : KT} {ex : Bool} {J : Nat → Nat → Int64} {w : Bool} (I : Nat → Nat → Int32)   : Cx k mX11_where 1 [.ref (ka k 65)] (81, ex, I, J, Pw w) (some (.int (f_X11_where I))) (81, ex, m_X11_where I, J, Pw w) := by
  refine Ct.of rfl [some (.ref (ka k 65))] rfl rfl (Nat.le_of_ble_eq_true rfl) ?_
  refine g_aload_n0 rfl d_X11_where_0 ?_
  refine g_iconst 0 d_X11_where_1 (by decide) ?_
  refine g_putI f_X11_60 d_X11_where_2 rfl (Nat.le_of_ble_eq_true rfl) rfl rfl rfl ?_
  refine g_aload_n0 rfl d_X11_where_5 ?_
  refine g_getIv (I 65 11) (st2_o _ _ _ (by decide)) f_X11_63 d_X11_where_6 rfl (Nat.le_of_ble_eq_true rfl) rfl ?_
  refine g_iconst 4 d_X11_where_9 (by decide) ?_
  refine g_cut (pc' := 21) (vs' := [some (.ref (ka k 65))]) (st' := [.int (if (I 65 11) = 4 then I 65 10 else (-1))]) (M' := (81, ex, (st2 I 65 0 0), J, Pw w)) (fun hj => ?_) ?_
  · skip
    refine g_icmp_ne 20 d_X11_where_10 (by decide) (fun h1 => ?_) (fun h1 => ?_)
    · skip
      refine g_iconst (-1) d_X11_where_20 (by decide) ?_
      (try simp only [if_neg h1, opv_eq, if_true, if_false, Bool.false_eq_true, reduceCtorEq, b2i_t, b2i_f] at hj); exact hj
    · skip
      refine g_aload_n0 rfl d_X11_where_13 ?_
      refine g_getIv (I 65 10) (st2_o _ _ _ (by decide)) f_X11_13 d_X11_where_14 rfl (Nat.le_of_ble_eq_true rfl) rfl ?_
      refine g_goto 21 d_X11_where_17 (by decide) ?_
      (try simp only [if_pos h1, opv_eq, if_true, if_false, Bool.false_eq_true, reduceCtorEq, b2i_t, b2i_f] at hj); exact hj
  · skip
    exact g_iret rfl d_X11_where_21 ⟨by simp only [f_X11_where, m_X11_where, opv_eq, if_true, if_false, Bool.false_eq_true, reduceCtorEq, b2i_t, b2i_f], by simp only [f_X11_where, m_X11_where, opv_eq, if_true, if_false, Bool.false_eq_true, reduceCtorEq, b2i_t, b2i_f]⟩ (Nat.le_refl _) (Nat.le_refl _)
noncomputable def f_X11_trouble (I : Nat → Nat → Int32)  : Int32 := opv (I 65 11)
noncomputable def m_X11_trouble (I : Nat → Nat → Int32)  : Nat → Nat → Int32 := opv (st2 I 65 0 0)
set_option maxHeartbeats 800000 in
set_option maxRecDepth 4000 in
theorem c_X11_trouble {k : KT} {ex : Bool} {J : Nat → Nat → Int64} {w : Bool} (I : Nat → Nat → Int32)   : Cx k mX11_trouble 1 [.ref (ka k 65)] (81, ex, I, J, Pw w) (some (.int (f_X11_trouble I))) (81, ex, m_X11_trouble I, J, Pw w) := by
  refine Ct.of rfl [some (.ref (ka k 65))] rfl rfl (Nat.le_of_ble_eq_true rfl) ?_
  refine g_aload_n0 rfl d_X11_trouble_0 ?_
  refine g_iconst 0 d_X11_trouble_1 (by decide) ?_
  refine g_putI f_X11_60 d_X11_trouble_2 rfl (Nat.le_of_ble_eq_true rfl) rfl rfl rfl ?_
  refine g_aload_n0 rfl d_X11_trouble_5 ?_
  refine g_getIv (I 65 11) (st2_o _ _ _ (by decide)) f_X11_63 d_X11_trouble_6 rfl (Nat.le_of_ble_eq_true rfl) rfl ?_
  exact g_iret rfl d_X11_trouble_9 ⟨by simp only [f_X11_trouble, m_X11_trouble, opv_eq, if_true, if_false, Bool.false_eq_true, reduceCtorEq, b2i_t, b2i_f], by simp only [f_X11_trouble, m_X11_trouble, opv_eq, if_true, if_false, Bool.false_eq_true, reduceCtorEq, b2i_t, b2i_f]⟩ (Nat.le_refl _) (Nat.le_refl _)
