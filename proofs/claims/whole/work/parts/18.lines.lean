noncomputable def u0_X6_readChalet (I : Nat → Nat → Int32) (J : Nat → Nat → Int64) (w : Bool) : Nat → Nat → Int32 := opv (m_X6_wants (st2 (m_X6_wantsWhole (m_X6_wants I J 7) (j_X6_wants I J 7) 0 100) (dr w) 0 ((m_X6_wantsWhole (m_X6_wants I J 7) (j_X6_wants I J 7) 0 100) 2 9)) (j_X6_wantsWhole (m_X6_wants I J 7) (j_X6_wants I J 7) 0 100) 8)
noncomputable def u1_X6_readChalet (I : Nat → Nat → Int32) (J : Nat → Nat → Int64) (w : Bool) : Nat → Nat → Int64 := opv (j_X6_wants (st2 (m_X6_wantsWhole (m_X6_wants I J 7) (j_X6_wants I J 7) 0 100) (dr w) 0 ((m_X6_wantsWhole (m_X6_wants I J 7) (j_X6_wants I J 7) 0 100) 2 9)) (j_X6_wantsWhole (m_X6_wants I J 7) (j_X6_wants I J 7) 0 100) 8)
noncomputable def u2_X6_readChalet (I : Nat → Nat → Int32) (J : Nat → Nat → Int64) (w : Bool) : Nat → Nat → Int32 := opv (m_X6_wantsWhole (u0_X6_readChalet I J w) (u1_X6_readChalet I J w) 0 9)
noncomputable def u3_X6_readChalet (I : Nat → Nat → Int32) (J : Nat → Nat → Int64) (w : Bool) : Nat → Nat → Int64 := opv (j_X6_wantsWhole (u0_X6_readChalet I J w) (u1_X6_readChalet I J w) 0 9)
noncomputable def u4_X6_readChalet (I : Nat → Nat → Int32) (J : Nat → Nat → Int64) (w : Bool) : Nat → Nat → Int32 := opv (m_X6_wants (st2 (u2_X6_readChalet I J w) (dr w) 1 ((u2_X6_readChalet I J w) 2 9)) (u3_X6_readChalet I J w) 9)
noncomputable def u5_X6_readChalet (I : Nat → Nat → Int32) (J : Nat → Nat → Int64) (w : Bool) : Nat → Nat → Int64 := opv (j_X6_wants (st2 (u2_X6_readChalet I J w) (dr w) 1 ((u2_X6_readChalet I J w) 2 9)) (u3_X6_readChalet I J w) 9)
noncomputable def u6_X6_readChalet (I : Nat → Nat → Int32) (J : Nat → Nat → Int64) (w : Bool) : Nat → Nat → Int32 := opv (m_X6_wantsWhole (u4_X6_readChalet I J w) (u5_X6_readChalet I J w) 0 3)
noncomputable def u7_X6_readChalet (I : Nat → Nat → Int32) (J : Nat → Nat → Int64) (w : Bool) : Nat → Nat → Int64 := opv (j_X6_wantsWhole (u4_X6_readChalet I J w) (u5_X6_readChalet I J w) 0 3)
noncomputable def u8_X6_readChalet (I : Nat → Nat → Int32) (J : Nat → Nat → Int64) (w : Bool) : Nat → Nat → Int32 := opv (m_X6_wants (st2 (u6_X6_readChalet I J w) (dr w) 2 ((u6_X6_readChalet I J w) 2 9)) (u7_X6_readChalet I J w) 10)
noncomputable def u9_X6_readChalet (I : Nat → Nat → Int32) (J : Nat → Nat → Int64) (w : Bool) : Nat → Nat → Int64 := opv (j_X6_wants (st2 (u6_X6_readChalet I J w) (dr w) 2 ((u6_X6_readChalet I J w) 2 9)) (u7_X6_readChalet I J w) 10)
noncomputable def u10_X6_readChalet (I : Nat → Nat → Int32) (J : Nat → Nat → Int64) (w : Bool) : Nat → Nat → Int32 := opv (m_X6_wantsWhole (u8_X6_readChalet I J w) (u9_X6_readChalet I J w) 0 100)
noncomputable def u11_X6_readChalet (I : Nat → Nat → Int32) (J : Nat → Nat → Int64) (w : Bool) : Nat → Nat → Int64 := opv (j_X6_wantsWhole (u8_X6_readChalet I J w) (u9_X6_readChalet I J w) 0 100)
noncomputable def f_X6_readChalet (I : Nat → Nat → Int32) (J : Nat → Nat → Int64) (w : Bool)  : Bool := opv (if (f_X6_wants I J 7) = true then (if (f_X6_wantsWhole (m_X6_wants I J 7) (j_X6_wants I J 7) 0 100) = true then (if (f_X6_wants (st2 (m_X6_wantsWhole (m_X6_wants I J 7) (j_X6_wants I J 7) 0 100) (dr w) 0 ((m_X6_wantsWhole (m_X6_wants I J 7) (j_X6_wants I J 7) 0 100) 2 9)) (j_X6_wantsWhole (m_X6_wants I J 7) (j_X6_wants I J 7) 0 100) 8) = true then (if (f_X6_wantsWhole (u0_X6_readChalet I J w) (u1_X6_readChalet I J w) 0 9) = true then (if (f_X6_wants (st2 (u2_X6_readChalet I J w) (dr w) 1 ((u2_X6_readChalet I J w) 2 9)) (u3_X6_readChalet I J w) 9) = true then (if (f_X6_wantsWhole (u4_X6_readChalet I J w) (u5_X6_readChalet I J w) 0 3) = true then (if (f_X6_wants (st2 (u6_X6_readChalet I J w) (dr w) 2 ((u6_X6_readChalet I J w) 2 9)) (u7_X6_readChalet I J w) 10) = true then (if (f_X6_wantsWhole (u8_X6_readChalet I J w) (u9_X6_readChalet I J w) 0 100) = true then true else false) else false) else false) else false) else false) else false) else false) else false)
noncomputable def m_X6_readChalet (I : Nat → Nat → Int32) (J : Nat → Nat → Int64) (w : Bool)  : Nat → Nat → Int32 := opv (if (f_X6_wants I J 7) = true then (if (f_X6_wantsWhole (m_X6_wants I J 7) (j_X6_wants I J 7) 0 100) = true then (if (f_X6_wants (st2 (m_X6_wantsWhole (m_X6_wants I J 7) (j_X6_wants I J 7) 0 100) (dr w) 0 ((m_X6_wantsWhole (m_X6_wants I J 7) (j_X6_wants I J 7) 0 100) 2 9)) (j_X6_wantsWhole (m_X6_wants I J 7) (j_X6_wants I J 7) 0 100) 8) = true then (if (f_X6_wantsWhole (u0_X6_readChalet I J w) (u1_X6_readChalet I J w) 0 9) = true then (if (f_X6_wants (st2 (u2_X6_readChalet I J w) (dr w) 1 ((u2_X6_readChalet I J w) 2 9)) (u3_X6_readChalet I J w) 9) = true then (if (f_X6_wantsWhole (u4_X6_readChalet I J w) (u5_X6_readChalet I J w) 0 3) = true then (if (f_X6_wants (st2 (u6_X6_readChalet I J w) (dr w) 2 ((u6_X6_readChalet I J w) 2 9)) (u7_X6_readChalet I J w) 10) = true then (if (f_X6_wantsWhole (u8_X6_readChalet I J w) (u9_X6_readChalet I J w) 0 100) = true then (st2 (u10_X6_readChalet I J w) (dr w) 3 ((u10_X6_readChalet I J w) 2 9)) else (u10_X6_readChalet I J w)) else (u8_X6_readChalet I J w)) else (u6_X6_readChalet I J w)) else (u4_X6_readChalet I J w)) else (u2_X6_readChalet I J w)) else (u0_X6_readChalet I J w)) else (m_X6_wantsWhole (m_X6_wants I J 7) (j_X6_wants I J 7) 0 100)) else (m_X6_wants I J 7))
noncomputable def j_X6_readChalet (I : Nat → Nat → Int32) (J : Nat → Nat → Int64) (w : Bool)  : Nat → Nat → Int64 := opv (if (f_X6_wants I J 7) = true then (if (f_X6_wantsWhole (m_X6_wants I J 7) (j_X6_wants I J 7) 0 100) = true then (if (f_X6_wants (st2 (m_X6_wantsWhole (m_X6_wants I J 7) (j_X6_wants I J 7) 0 100) (dr w) 0 ((m_X6_wantsWhole (m_X6_wants I J 7) (j_X6_wants I J 7) 0 100) 2 9)) (j_X6_wantsWhole (m_X6_wants I J 7) (j_X6_wants I J 7) 0 100) 8) = true then (if (f_X6_wantsWhole (u0_X6_readChalet I J w) (u1_X6_readChalet I J w) 0 9) = true then (if (f_X6_wants (st2 (u2_X6_readChalet I J w) (dr w) 1 ((u2_X6_readChalet I J w) 2 9)) (u3_X6_readChalet I J w) 9) = true then (if (f_X6_wantsWhole (u4_X6_readChalet I J w) (u5_X6_readChalet I J w) 0 3) = true then (if (f_X6_wants (st2 (u6_X6_readChalet I J w) (dr w) 2 ((u6_X6_readChalet I J w) 2 9)) (u7_X6_readChalet I J w) 10) = true then (u11_X6_readChalet I J w) else (u9_X6_readChalet I J w)) else (u7_X6_readChalet I J w)) else (u5_X6_readChalet I J w)) else (u3_X6_readChalet I J w)) else (u1_X6_readChalet I J w)) else (j_X6_wantsWhole (m_X6_wants I J 7) (j_X6_wants I J 7) 0 100)) else (j_X6_wants I J 7))
noncomputable def ok_X6_readChalet (I : Nat → Nat → Int32) (J : Nat → Nat → Int64) (w : Bool)  : Prop := opv (ok_X6_wants I J 7 ∧ (if (f_X6_wants I J 7) = true then (ok_X6_wantsWhole (m_X6_wants I J 7) (j_X6_wants I J 7) 0 100 ∧ (if (f_X6_wantsWhole (m_X6_wants I J 7) (j_X6_wants I J 7) 0 100) = true then (ok_X6_wants (st2 (m_X6_wantsWhole (m_X6_wants I J 7) (j_X6_wants I J 7) 0 100) (dr w) 0 ((m_X6_wantsWhole (m_X6_wants I J 7) (j_X6_wants I J 7) 0 100) 2 9)) (j_X6_wantsWhole (m_X6_wants I J 7) (j_X6_wants I J 7) 0 100) 8 ∧ (if (f_X6_wants (st2 (m_X6_wantsWhole (m_X6_wants I J 7) (j_X6_wants I J 7) 0 100) (dr w) 0 ((m_X6_wantsWhole (m_X6_wants I J 7) (j_X6_wants I J 7) 0 100) 2 9)) (j_X6_wantsWhole (m_X6_wants I J 7) (j_X6_wants I J 7) 0 100) 8) = true then (ok_X6_wantsWhole (u0_X6_readChalet I J w) (u1_X6_readChalet I J w) 0 9 ∧ (if (f_X6_wantsWhole (u0_X6_readChalet I J w) (u1_X6_readChalet I J w) 0 9) = true then (ok_X6_wants (st2 (u2_X6_readChalet I J w) (dr w) 1 ((u2_X6_readChalet I J w) 2 9)) (u3_X6_readChalet I J w) 9 ∧ (if (f_X6_wants (st2 (u2_X6_readChalet I J w) (dr w) 1 ((u2_X6_readChalet I J w) 2 9)) (u3_X6_readChalet I J w) 9) = true then (ok_X6_wantsWhole (u4_X6_readChalet I J w) (u5_X6_readChalet I J w) 0 3 ∧ (if (f_X6_wantsWhole (u4_X6_readChalet I J w) (u5_X6_readChalet I J w) 0 3) = true then (ok_X6_wants (st2 (u6_X6_readChalet I J w) (dr w) 2 ((u6_X6_readChalet I J w) 2 9)) (u7_X6_readChalet I J w) 10 ∧ (if (f_X6_wants (st2 (u6_X6_readChalet I J w) (dr w) 2 ((u6_X6_readChalet I J w) 2 9)) (u7_X6_readChalet I J w) 10) = true then ok_X6_wantsWhole (u8_X6_readChalet I J w) (u9_X6_readChalet I J w) 0 100 else True)) else True)) else True)) else True)) else True)) else True)) else True))
set_option maxHeartbeats 800000 in
set_option maxRecDepth 4000 in
theorem c_X6_readChalet {k : KT} {ex : Bool} (I : Nat → Nat → Int32) (J : Nat → Nat → Int64) (w : Bool)   (hok : ok_X6_readChalet I J w) : Cx k mX6_readChalet 7 [.ref (ka k 2)] (81, ex, I, J, Pw w) (some (.int (b2i (f_X6_readChalet I J w)))) (81, ex, m_X6_readChalet I J w, j_X6_readChalet I J w, Pw w) := by
  refine Ct.of rfl [some (.ref (ka k 2))] rfl rfl (Nat.le_of_ble_eq_true rfl) ?_
  rw [ok_X6_readChalet, opv_eq] at hok
  refine g_aload_n0 rfl d_X6_readChalet_0 ?_
  refine g_ldcS (n := 7) (tx := "damp") (by decide) d_X6_readChalet_1 ?_
  obtain ⟨ho1, hok⟩ := hok
  refine g_callV1 (c_X6_wants I J 7 (by decide) ho1) w_X6_wants l_X6_140 d_X6_readChalet_3 rfl (Nat.le_of_ble_eq_true rfl) rfl rfl (Nat.le_of_ble_eq_true rfl) ⟨Nat.le_of_ble_eq_true rfl, Nat.le_of_ble_eq_true rfl⟩ ⟨Nat.zero_le _, Nat.zero_le _⟩ ⟨rfl, rfl⟩ ?_
  refine g_ifz 19 d_X6_readChalet_6 (by decide) (fun h1 => ?_) (fun h1 => ?_)
  · skip
    refine g_iconst 0 d_X6_readChalet_19 (by decide) ?_
    exact g_zret rfl (by decide) d_X6_readChalet_20 ⟨by simp only [f_X6_readChalet, m_X6_readChalet, j_X6_readChalet, if_neg (nb h1), opv_eq, if_true, if_false, Bool.false_eq_true, reduceCtorEq, b2i_t, b2i_f], by simp only [f_X6_readChalet, m_X6_readChalet, j_X6_readChalet, if_neg (nb h1), opv_eq, if_true, if_false, Bool.false_eq_true, reduceCtorEq, b2i_t, b2i_f]⟩ (Nat.le_refl _) (Nat.le_refl _)
  · skip
    rw [if_pos h1] at hok
    refine g_aload_n0 rfl d_X6_readChalet_9 ?_
    refine g_iconst 0 d_X6_readChalet_10 (by decide) ?_
    refine g_bipush 100 d_X6_readChalet_11 (by decide) ?_
    obtain ⟨ho2, hok⟩ := hok
    refine g_callV1 (c_X6_wantsWhole (m_X6_wants I J 7) (j_X6_wants I J 7) 0 100 ho2) w_X6_wantsWhole l_X6_143 d_X6_readChalet_13 rfl (Nat.le_of_ble_eq_true rfl) rfl rfl (Nat.le_of_ble_eq_true rfl) ⟨Nat.le_of_ble_eq_true rfl, Nat.le_of_ble_eq_true rfl⟩ ⟨Nat.zero_le _, Nat.zero_le _⟩ ⟨rfl, rfl⟩ ?_
    refine g_ifnz 21 d_X6_readChalet_16 (by decide) (fun h2 => ?_) (fun h2 => ?_)
    · skip
      rw [if_pos h2] at hok
      refine g_aload_n0 rfl d_X6_readChalet_21 ?_
      refine g_getP (b := dr w) f_X6_12 d_X6_readChalet_22 rfl (Nat.le_of_ble_eq_true rfl) rfl rfl ?_
      refine g_aload_n0 rfl d_X6_readChalet_25 ?_
      refine g_getI f_X6_147 d_X6_readChalet_26 rfl (Nat.le_of_ble_eq_true rfl) rfl ?_
      refine g_putI f_X6_150 d_X6_readChalet_29 (kd_dr w) (kd_sg (kd_dr w) (by decide)) rfl rfl rfl ?_
      refine g_aload_n0 rfl d_X6_readChalet_32 ?_
      refine g_ldcS (n := 8) (tx := "wood") (by decide) d_X6_readChalet_33 ?_
      obtain ⟨ho3, hok⟩ := hok
      refine g_callV1 (c_X6_wants (st2 (m_X6_wantsWhole (m_X6_wants I J 7) (j_X6_wants I J 7) 0 100) (dr w) 0 ((m_X6_wantsWhole (m_X6_wants I J 7) (j_X6_wants I J 7) 0 100) 2 9)) (j_X6_wantsWhole (m_X6_wants I J 7) (j_X6_wants I J 7) 0 100) 8 (by decide) ho3) w_X6_wants l_X6_140 d_X6_readChalet_35 rfl (Nat.le_of_ble_eq_true rfl) rfl rfl (Nat.le_of_ble_eq_true rfl) ⟨Nat.le_of_ble_eq_true rfl, Nat.le_of_ble_eq_true rfl⟩ ⟨Nat.zero_le _, Nat.zero_le _⟩ ⟨rfl, rfl⟩ ?_
      refine G.toI (I' := (u0_X6_readChalet I J w)) (by rw [u0_X6_readChalet, opv_eq]) ?_
      refine G.toJ (J' := (u1_X6_readChalet I J w)) (by rw [u1_X6_readChalet, opv_eq]) ?_
      refine g_ifz 51 d_X6_readChalet_38 (by decide) (fun h3 => ?_) (fun h3 => ?_)
      · skip
        refine g_iconst 0 d_X6_readChalet_51 (by decide) ?_
        exact g_zret rfl (by decide) d_X6_readChalet_52 ⟨by simp only [f_X6_readChalet, m_X6_readChalet, j_X6_readChalet, if_pos h1, if_pos h2, if_neg (nb h3), opv_eq, if_true, if_false, Bool.false_eq_true, reduceCtorEq, b2i_t, b2i_f], by simp only [f_X6_readChalet, m_X6_readChalet, j_X6_readChalet, if_pos h1, if_pos h2, if_neg (nb h3), opv_eq, if_true, if_false, Bool.false_eq_true, reduceCtorEq, b2i_t, b2i_f]⟩ (Nat.le_refl _) (Nat.le_refl _)
      · skip
        rw [if_pos h3] at hok
        refine g_aload_n0 rfl d_X6_readChalet_41 ?_
        refine g_iconst 0 d_X6_readChalet_42 (by decide) ?_
        refine g_bipush 9 d_X6_readChalet_43 (by decide) ?_
        obtain ⟨ho4, hok⟩ := hok
        refine g_callV1 (c_X6_wantsWhole (u0_X6_readChalet I J w) (u1_X6_readChalet I J w) 0 9 ho4) w_X6_wantsWhole l_X6_143 d_X6_readChalet_45 rfl (Nat.le_of_ble_eq_true rfl) rfl rfl (Nat.le_of_ble_eq_true rfl) ⟨Nat.le_of_ble_eq_true rfl, Nat.le_of_ble_eq_true rfl⟩ ⟨Nat.zero_le _, Nat.zero_le _⟩ ⟨rfl, rfl⟩ ?_
        refine G.toI (I' := (u2_X6_readChalet I J w)) (by rw [u2_X6_readChalet, opv_eq]) ?_
        refine G.toJ (J' := (u3_X6_readChalet I J w)) (by rw [u3_X6_readChalet, opv_eq]) ?_
        refine g_ifnz 53 d_X6_readChalet_48 (by decide) (fun h4 => ?_) (fun h4 => ?_)
        · skip
          rw [if_pos h4] at hok
          refine g_aload_n0 rfl d_X6_readChalet_53 ?_
          refine g_getP (b := dr w) f_X6_12 d_X6_readChalet_54 rfl (Nat.le_of_ble_eq_true rfl) rfl rfl ?_
          refine g_aload_n0 rfl d_X6_readChalet_57 ?_
          refine g_getI f_X6_147 d_X6_readChalet_58 rfl (Nat.le_of_ble_eq_true rfl) rfl ?_
          refine g_putI f_X6_154 d_X6_readChalet_61 (kd_dr w) (kd_sg (kd_dr w) (by decide)) rfl rfl rfl ?_
          refine g_aload_n0 rfl d_X6_readChalet_64 ?_
          refine g_ldcS (n := 9) (tx := "oil") (by decide) d_X6_readChalet_65 ?_
          obtain ⟨ho5, hok⟩ := hok
          refine g_callV1 (c_X6_wants (st2 (u2_X6_readChalet I J w) (dr w) 1 ((u2_X6_readChalet I J w) 2 9)) (u3_X6_readChalet I J w) 9 (by decide) ho5) w_X6_wants l_X6_140 d_X6_readChalet_67 rfl (Nat.le_of_ble_eq_true rfl) rfl rfl (Nat.le_of_ble_eq_true rfl) ⟨Nat.le_of_ble_eq_true rfl, Nat.le_of_ble_eq_true rfl⟩ ⟨Nat.zero_le _, Nat.zero_le _⟩ ⟨rfl, rfl⟩ ?_
          refine G.toI (I' := (u4_X6_readChalet I J w)) (by rw [u4_X6_readChalet, opv_eq]) ?_
          refine G.toJ (J' := (u5_X6_readChalet I J w)) (by rw [u5_X6_readChalet, opv_eq]) ?_
          refine g_ifz 82 d_X6_readChalet_70 (by decide) (fun h5 => ?_) (fun h5 => ?_)
          · skip
            refine g_iconst 0 d_X6_readChalet_82 (by decide) ?_
            exact g_zret rfl (by decide) d_X6_readChalet_83 ⟨by simp only [f_X6_readChalet, m_X6_readChalet, j_X6_readChalet, if_pos h1, if_pos h2, if_pos h3, if_pos h4, if_neg (nb h5), opv_eq, if_true, if_false, Bool.false_eq_true, reduceCtorEq, b2i_t, b2i_f], by simp only [f_X6_readChalet, m_X6_readChalet, j_X6_readChalet, if_pos h1, if_pos h2, if_pos h3, if_pos h4, if_neg (nb h5), opv_eq, if_true, if_false, Bool.false_eq_true, reduceCtorEq, b2i_t, b2i_f]⟩ (Nat.le_refl _) (Nat.le_refl _)
          · skip
            rw [if_pos h5] at hok
            refine g_aload_n0 rfl d_X6_readChalet_73 ?_
            refine g_iconst 0 d_X6_readChalet_74 (by decide) ?_
            refine g_iconst 3 d_X6_readChalet_75 (by decide) ?_
            obtain ⟨ho6, hok⟩ := hok
            refine g_callV1 (c_X6_wantsWhole (u4_X6_readChalet I J w) (u5_X6_readChalet I J w) 0 3 ho6) w_X6_wantsWhole l_X6_143 d_X6_readChalet_76 rfl (Nat.le_of_ble_eq_true rfl) rfl rfl (Nat.le_of_ble_eq_true rfl) ⟨Nat.le_of_ble_eq_true rfl, Nat.le_of_ble_eq_true rfl⟩ ⟨Nat.zero_le _, Nat.zero_le _⟩ ⟨rfl, rfl⟩ ?_
            refine G.toI (I' := (u6_X6_readChalet I J w)) (by rw [u6_X6_readChalet, opv_eq]) ?_
            refine G.toJ (J' := (u7_X6_readChalet I J w)) (by rw [u7_X6_readChalet, opv_eq]) ?_
            refine g_ifnz 84 d_X6_readChalet_79 (by decide) (fun h6 => ?_) (fun h6 => ?_)
            · skip
              rw [if_pos h6] at hok
              refine g_aload_n0 rfl d_X6_readChalet_84 ?_
              refine g_getP (b := dr w) f_X6_12 d_X6_readChalet_85 rfl (Nat.le_of_ble_eq_true rfl) rfl rfl ?_
              refine g_aload_n0 rfl d_X6_readChalet_88 ?_
              refine g_getI f_X6_147 d_X6_readChalet_89 rfl (Nat.le_of_ble_eq_true rfl) rfl ?_
              refine g_putI f_X6_158 d_X6_readChalet_92 (kd_dr w) (kd_sg (kd_dr w) (by decide)) rfl rfl rfl ?_
              refine g_aload_n0 rfl d_X6_readChalet_95 ?_
              refine g_ldcS (n := 10) (tx := "gust") (by decide) d_X6_readChalet_96 ?_
              obtain ⟨ho7, hok⟩ := hok
              refine g_callV1 (c_X6_wants (st2 (u6_X6_readChalet I J w) (dr w) 2 ((u6_X6_readChalet I J w) 2 9)) (u7_X6_readChalet I J w) 10 (by decide) ho7) w_X6_wants l_X6_140 d_X6_readChalet_98 rfl (Nat.le_of_ble_eq_true rfl) rfl rfl (Nat.le_of_ble_eq_true rfl) ⟨Nat.le_of_ble_eq_true rfl, Nat.le_of_ble_eq_true rfl⟩ ⟨Nat.zero_le _, Nat.zero_le _⟩ ⟨rfl, rfl⟩ ?_
              refine G.toI (I' := (u8_X6_readChalet I J w)) (by rw [u8_X6_readChalet, opv_eq]) ?_
              refine G.toJ (J' := (u9_X6_readChalet I J w)) (by rw [u9_X6_readChalet, opv_eq]) ?_
              refine g_ifz 114 d_X6_readChalet_101 (by decide) (fun h7 => ?_) (fun h7 => ?_)
              · skip
                refine g_iconst 0 d_X6_readChalet_114 (by decide) ?_
                exact g_zret rfl (by decide) d_X6_readChalet_115 ⟨by simp only [f_X6_readChalet, m_X6_readChalet, j_X6_readChalet, if_pos h1, if_pos h2, if_pos h3, if_pos h4, if_pos h5, if_pos h6, if_neg (nb h7), opv_eq, if_true, if_false, Bool.false_eq_true, reduceCtorEq, b2i_t, b2i_f], by simp only [f_X6_readChalet, m_X6_readChalet, j_X6_readChalet, if_pos h1, if_pos h2, if_pos h3, if_pos h4, if_pos h5, if_pos h6, if_neg (nb h7), opv_eq, if_true, if_false, Bool.false_eq_true, reduceCtorEq, b2i_t, b2i_f]⟩ (Nat.le_refl _) (Nat.le_refl _)
              · skip
                rw [if_pos h7] at hok
                refine g_aload_n0 rfl d_X6_readChalet_104 ?_
                refine g_iconst 0 d_X6_readChalet_105 (by decide) ?_
                refine g_bipush 100 d_X6_readChalet_106 (by decide) ?_
                have ho8 := hok
                refine g_callV1 (c_X6_wantsWhole (u8_X6_readChalet I J w) (u9_X6_readChalet I J w) 0 100 ho8) w_X6_wantsWhole l_X6_143 d_X6_readChalet_108 rfl (Nat.le_of_ble_eq_true rfl) rfl rfl (Nat.le_of_ble_eq_true rfl) ⟨Nat.le_of_ble_eq_true rfl, Nat.le_of_ble_eq_true rfl⟩ ⟨Nat.zero_le _, Nat.zero_le _⟩ ⟨rfl, rfl⟩ ?_
                refine G.toI (I' := (u10_X6_readChalet I J w)) (by rw [u10_X6_readChalet, opv_eq]) ?_
                refine G.toJ (J' := (u11_X6_readChalet I J w)) (by rw [u11_X6_readChalet, opv_eq]) ?_
                refine g_ifnz 116 d_X6_readChalet_111 (by decide) (fun h8 => ?_) (fun h8 => ?_)
                · skip
                  refine g_aload_n0 rfl d_X6_readChalet_116 ?_
                  refine g_getP (b := dr w) f_X6_12 d_X6_readChalet_117 rfl (Nat.le_of_ble_eq_true rfl) rfl rfl ?_
                  refine g_aload_n0 rfl d_X6_readChalet_120 ?_
                  refine g_getI f_X6_147 d_X6_readChalet_121 rfl (Nat.le_of_ble_eq_true rfl) rfl ?_
                  refine g_putI f_X6_162 d_X6_readChalet_124 (kd_dr w) (kd_sg (kd_dr w) (by decide)) rfl rfl rfl ?_
                  refine g_iconst 1 d_X6_readChalet_127 (by decide) ?_
                  exact g_zret rfl (by decide) d_X6_readChalet_128 ⟨by simp only [f_X6_readChalet, m_X6_readChalet, j_X6_readChalet, if_pos h1, if_pos h2, if_pos h3, if_pos h4, if_pos h5, if_pos h6, if_pos h7, if_pos h8, opv_eq, if_true, if_false, Bool.false_eq_true, reduceCtorEq, b2i_t, b2i_f], by simp only [f_X6_readChalet, m_X6_readChalet, j_X6_readChalet, if_pos h1, if_pos h2, if_pos h3, if_pos h4, if_pos h5, if_pos h6, if_pos h7, if_pos h8, opv_eq, if_true, if_false, Bool.false_eq_true, reduceCtorEq, b2i_t, b2i_f]⟩ (Nat.le_refl _) (Nat.le_refl _)
                · skip
                  refine g_iconst 0 d_X6_readChalet_114 (by decide) ?_
                  exact g_zret rfl (by decide) d_X6_readChalet_115 ⟨by simp only [f_X6_readChalet, m_X6_readChalet, j_X6_readChalet, if_pos h1, if_pos h2, if_pos h3, if_pos h4, if_pos h5, if_pos h6, if_pos h7, if_neg (nb h8), opv_eq, if_true, if_false, Bool.false_eq_true, reduceCtorEq, b2i_t, b2i_f], by simp only [f_X6_readChalet, m_X6_readChalet, j_X6_readChalet, if_pos h1, if_pos h2, if_pos h3, if_pos h4, if_pos h5, if_pos h6, if_pos h7, if_neg (nb h8), opv_eq, if_true, if_false, Bool.false_eq_true, reduceCtorEq, b2i_t, b2i_f]⟩ (Nat.le_refl _) (Nat.le_refl _)
            · skip
              refine g_iconst 0 d_X6_readChalet_82 (by decide) ?_
              exact g_zret rfl (by decide) d_X6_readChalet_83 ⟨by simp only [f_X6_readChalet, m_X6_readChalet, j_X6_readChalet, if_pos h1, if_pos h2, if_pos h3, if_pos h4, if_pos h5, if_neg (nb h6), opv_eq, if_true, if_false, Bool.false_eq_true, reduceCtorEq, b2i_t, b2i_f], by simp only [f_X6_readChalet, m_X6_readChalet, j_X6_readChalet, if_pos h1, if_pos h2, if_pos h3, if_pos h4, if_pos h5, if_neg (nb h6), opv_eq, if_true, if_false, Bool.false_eq_true, reduceCtorEq, b2i_t, b2i_f]⟩ (Nat.le_refl _) (Nat.le_refl _)
        · skip
          refine g_iconst 0 d_X6_readChalet_51 (by decide) ?_
          exact g_zret rfl (by decide) d_X6_readChalet_52 ⟨by simp only [f_X6_readChalet, m_X6_readChalet, j_X6_readChalet, if_pos h1, if_pos h2, if_pos h3, if_neg (nb h4), opv_eq, if_true, if_false, Bool.false_eq_true, reduceCtorEq, b2i_t, b2i_f], by simp only [f_X6_readChalet, m_X6_readChalet, j_X6_readChalet, if_pos h1, if_pos h2, if_pos h3, if_neg (nb h4), opv_eq, if_true, if_false, Bool.false_eq_true, reduceCtorEq, b2i_t, b2i_f]⟩ (Nat.le_refl _) (Nat.le_refl _)
    · skip
      refine g_iconst 0 d_X6_readChalet_19 (by decide) ?_
      exact g_zret rfl (by decide) d_X6_readChalet_20 ⟨by simp only [f_X6_readChalet, m_X6_readChalet, j_X6_readChalet, if_pos h1, if_neg (nb h2), opv_eq, if_true, if_false, Bool.false_eq_true, reduceCtorEq, b2i_t, b2i_f], by simp only [f_X6_readChalet, m_X6_readChalet, j_X6_readChalet, if_pos h1, if_neg (nb h2), opv_eq, if_true, if_false, Bool.false_eq_true, reduceCtorEq, b2i_t, b2i_f]⟩ (Nat.le_refl _) (Nat.le_refl _)
noncomputable def u0_X6_readWeather (I : Nat → Nat → Int32) (J : Nat → Nat → Int64) : Nat → Nat → Int32 := opv (m_X6_wantsWhole (m_X6_wants (st2 I 2 10 1) J 11) (j_X6_wants (st2 I 2 10 1) J 11) 0 30)
noncomputable def u1_X6_readWeather (I : Nat → Nat → Int32) (J : Nat → Nat → Int64) : Nat → Nat → Int64 := opv (j_X6_wantsWhole (m_X6_wants (st2 I 2 10 1) J 11) (j_X6_wants (st2 I 2 10 1) J 11) 0 30)
noncomputable def u2_X6_readWeather (I : Nat → Nat → Int32) (J : Nat → Nat → Int64) (w : Bool) : Nat → Nat → Int32 := opv (m_X6_wants (st2 (u0_X6_readWeather I J) (dr w) 4 ((u0_X6_readWeather I J) 2 9)) (u1_X6_readWeather I J) 12)
noncomputable def u3_X6_readWeather (I : Nat → Nat → Int32) (J : Nat → Nat → Int64) (w : Bool) : Nat → Nat → Int64 := opv (j_X6_wants (st2 (u0_X6_readWeather I J) (dr w) 4 ((u0_X6_readWeather I J) 2 9)) (u1_X6_readWeather I J) 12)
noncomputable def u4_X6_readWeather (I : Nat → Nat → Int32) (J : Nat → Nat → Int64) (w : Bool) : Nat → Nat → Int32 := opv (m_X6_wantsWhole (u2_X6_readWeather I J w) (u3_X6_readWeather I J w) 0 30)
noncomputable def u5_X6_readWeather (I : Nat → Nat → Int32) (J : Nat → Nat → Int64) (w : Bool) : Nat → Nat → Int64 := opv (j_X6_wantsWhole (u2_X6_readWeather I J w) (u3_X6_readWeather I J w) 0 30)
noncomputable def f_X6_readWeather (I : Nat → Nat → Int32) (J : Nat → Nat → Int64) (w : Bool)  : Bool := opv (if (f_X6_wants (st2 I 2 10 1) J 11) = true then (if (f_X6_wantsWhole (m_X6_wants (st2 I 2 10 1) J 11) (j_X6_wants (st2 I 2 10 1) J 11) 0 30) = true then (if (f_X6_wants (st2 (u0_X6_readWeather I J) (dr w) 4 ((u0_X6_readWeather I J) 2 9)) (u1_X6_readWeather I J) 12) = true then (if (f_X6_wantsWhole (u2_X6_readWeather I J w) (u3_X6_readWeather I J w) 0 30) = true then true else false) else false) else false) else false)
noncomputable def m_X6_readWeather (I : Nat → Nat → Int32) (J : Nat → Nat → Int64) (w : Bool)  : Nat → Nat → Int32 := opv (if (f_X6_wants (st2 I 2 10 1) J 11) = true then (if (f_X6_wantsWhole (m_X6_wants (st2 I 2 10 1) J 11) (j_X6_wants (st2 I 2 10 1) J 11) 0 30) = true then (if (f_X6_wants (st2 (u0_X6_readWeather I J) (dr w) 4 ((u0_X6_readWeather I J) 2 9)) (u1_X6_readWeather I J) 12) = true then (if (f_X6_wantsWhole (u2_X6_readWeather I J w) (u3_X6_readWeather I J w) 0 30) = true then (st2 (u4_X6_readWeather I J w) (dr w) 5 ((u4_X6_readWeather I J w) 2 9)) else (u4_X6_readWeather I J w)) else (u2_X6_readWeather I J w)) else (u0_X6_readWeather I J)) else (m_X6_wants (st2 I 2 10 1) J 11))
noncomputable def j_X6_readWeather (I : Nat → Nat → Int32) (J : Nat → Nat → Int64) (w : Bool)  : Nat → Nat → Int64 := opv (if (f_X6_wants (st2 I 2 10 1) J 11) = true then (if (f_X6_wantsWhole (m_X6_wants (st2 I 2 10 1) J 11) (j_X6_wants (st2 I 2 10 1) J 11) 0 30) = true then (if (f_X6_wants (st2 (u0_X6_readWeather I J) (dr w) 4 ((u0_X6_readWeather I J) 2 9)) (u1_X6_readWeather I J) 12) = true then (u5_X6_readWeather I J w) else (u3_X6_readWeather I J w)) else (u1_X6_readWeather I J)) else (j_X6_wants (st2 I 2 10 1) J 11))
noncomputable def ok_X6_readWeather (I : Nat → Nat → Int32) (J : Nat → Nat → Int64) (w : Bool)  : Prop := opv (ok_X6_wants (st2 I 2 10 1) J 11 ∧ (if (f_X6_wants (st2 I 2 10 1) J 11) = true then (ok_X6_wantsWhole (m_X6_wants (st2 I 2 10 1) J 11) (j_X6_wants (st2 I 2 10 1) J 11) 0 30 ∧ (if (f_X6_wantsWhole (m_X6_wants (st2 I 2 10 1) J 11) (j_X6_wants (st2 I 2 10 1) J 11) 0 30) = true then (ok_X6_wants (st2 (u0_X6_readWeather I J) (dr w) 4 ((u0_X6_readWeather I J) 2 9)) (u1_X6_readWeather I J) 12 ∧ (if (f_X6_wants (st2 (u0_X6_readWeather I J) (dr w) 4 ((u0_X6_readWeather I J) 2 9)) (u1_X6_readWeather I J) 12) = true then ok_X6_wantsWhole (u2_X6_readWeather I J w) (u3_X6_readWeather I J w) 0 30 else True)) else True)) else True))
set_option maxHeartbeats 800000 in
set_option maxRecDepth 4000 in
theorem c_X6_readWeather {k : KT} {ex : Bool} (I : Nat → Nat → Int32) (J : Nat → Nat → Int64) (w : Bool)   (hok : ok_X6_readWeather I J w) : Cx k mX6_readWeather 7 [.ref (ka k 2)] (81, ex, I, J, Pw w) (some (.int (b2i (f_X6_readWeather I J w)))) (81, ex, m_X6_readWeather I J w, j_X6_readWeather I J w, Pw w) := by
  refine Ct.of rfl [some (.ref (ka k 2))] rfl rfl (Nat.le_of_ble_eq_true rfl) ?_
  rw [ok_X6_readWeather, opv_eq] at hok
  refine g_aload_n0 rfl d_X6_readWeather_0 ?_
  refine g_iconst 1 d_X6_readWeather_1 (by decide) ?_
  refine g_putI f_X6_55 d_X6_readWeather_2 rfl (Nat.le_of_ble_eq_true rfl) rfl (by decide) (by decide) ?_
  refine g_aload_n0 rfl d_X6_readWeather_5 ?_
  refine g_ldcS (n := 11) (tx := "wet") (by decide) d_X6_readWeather_6 ?_
  obtain ⟨ho1, hok⟩ := hok
  refine g_callV1 (c_X6_wants (st2 I 2 10 1) J 11 (by decide) ho1) w_X6_wants l_X6_140 d_X6_readWeather_8 rfl (Nat.le_of_ble_eq_true rfl) rfl rfl (Nat.le_of_ble_eq_true rfl) ⟨Nat.le_of_ble_eq_true rfl, Nat.le_of_ble_eq_true rfl⟩ ⟨Nat.zero_le _, Nat.zero_le _⟩ ⟨rfl, rfl⟩ ?_
  refine g_ifz 24 d_X6_readWeather_11 (by decide) (fun h1 => ?_) (fun h1 => ?_)
  · skip
    refine g_iconst 0 d_X6_readWeather_24 (by decide) ?_
    exact g_zret rfl (by decide) d_X6_readWeather_25 ⟨by simp only [f_X6_readWeather, m_X6_readWeather, j_X6_readWeather, if_neg (nb h1), opv_eq, if_true, if_false, Bool.false_eq_true, reduceCtorEq, b2i_t, b2i_f], by simp only [f_X6_readWeather, m_X6_readWeather, j_X6_readWeather, if_neg (nb h1), opv_eq, if_true, if_false, Bool.false_eq_true, reduceCtorEq, b2i_t, b2i_f]⟩ (Nat.le_refl _) (Nat.le_refl _)
  · skip
    rw [if_pos h1] at hok
    refine g_aload_n0 rfl d_X6_readWeather_14 ?_
    refine g_iconst 0 d_X6_readWeather_15 (by decide) ?_
    refine g_bipush 30 d_X6_readWeather_16 (by decide) ?_
    obtain ⟨ho2, hok⟩ := hok
    refine g_callV1 (c_X6_wantsWhole (m_X6_wants (st2 I 2 10 1) J 11) (j_X6_wants (st2 I 2 10 1) J 11) 0 30 ho2) w_X6_wantsWhole l_X6_143 d_X6_readWeather_18 rfl (Nat.le_of_ble_eq_true rfl) rfl rfl (Nat.le_of_ble_eq_true rfl) ⟨Nat.le_of_ble_eq_true rfl, Nat.le_of_ble_eq_true rfl⟩ ⟨Nat.zero_le _, Nat.zero_le _⟩ ⟨rfl, rfl⟩ ?_
    refine G.toI (I' := (u0_X6_readWeather I J)) (by rw [u0_X6_readWeather, opv_eq]) ?_
    refine G.toJ (J' := (u1_X6_readWeather I J)) (by rw [u1_X6_readWeather, opv_eq]) ?_
    refine g_ifnz 26 d_X6_readWeather_21 (by decide) (fun h2 => ?_) (fun h2 => ?_)
    · skip
      rw [if_pos h2] at hok
      refine g_aload_n0 rfl d_X6_readWeather_26 ?_
      refine g_getP (b := dr w) f_X6_12 d_X6_readWeather_27 rfl (Nat.le_of_ble_eq_true rfl) rfl rfl ?_
      refine g_aload_n0 rfl d_X6_readWeather_30 ?_
      refine g_getI f_X6_147 d_X6_readWeather_31 rfl (Nat.le_of_ble_eq_true rfl) rfl ?_
      refine g_putI f_X6_166 d_X6_readWeather_34 (kd_dr w) (kd_sg (kd_dr w) (by decide)) rfl rfl rfl ?_
      refine g_aload_n0 rfl d_X6_readWeather_37 ?_
      refine g_ldcS (n := 12) (tx := "fine") (by decide) d_X6_readWeather_38 ?_
      obtain ⟨ho3, hok⟩ := hok
      refine g_callV1 (c_X6_wants (st2 (u0_X6_readWeather I J) (dr w) 4 ((u0_X6_readWeather I J) 2 9)) (u1_X6_readWeather I J) 12 (by decide) ho3) w_X6_wants l_X6_140 d_X6_readWeather_40 rfl (Nat.le_of_ble_eq_true rfl) rfl rfl (Nat.le_of_ble_eq_true rfl) ⟨Nat.le_of_ble_eq_true rfl, Nat.le_of_ble_eq_true rfl⟩ ⟨Nat.zero_le _, Nat.zero_le _⟩ ⟨rfl, rfl⟩ ?_
      refine G.toI (I' := (u2_X6_readWeather I J w)) (by rw [u2_X6_readWeather, opv_eq]) ?_
      refine G.toJ (J' := (u3_X6_readWeather I J w)) (by rw [u3_X6_readWeather, opv_eq]) ?_
      refine g_ifz 56 d_X6_readWeather_43 (by decide) (fun h3 => ?_) (fun h3 => ?_)
      · skip
        refine g_iconst 0 d_X6_readWeather_56 (by decide) ?_
        exact g_zret rfl (by decide) d_X6_readWeather_57 ⟨by simp only [f_X6_readWeather, m_X6_readWeather, j_X6_readWeather, if_pos h1, if_pos h2, if_neg (nb h3), opv_eq, if_true, if_false, Bool.false_eq_true, reduceCtorEq, b2i_t, b2i_f], by simp only [f_X6_readWeather, m_X6_readWeather, j_X6_readWeather, if_pos h1, if_pos h2, if_neg (nb h3), opv_eq, if_true, if_false, Bool.false_eq_true, reduceCtorEq, b2i_t, b2i_f]⟩ (Nat.le_refl _) (Nat.le_refl _)
      · skip
        rw [if_pos h3] at hok
        refine g_aload_n0 rfl d_X6_readWeather_46 ?_
        refine g_iconst 0 d_X6_readWeather_47 (by decide) ?_
        refine g_bipush 30 d_X6_readWeather_48 (by decide) ?_
        have ho4 := hok
        refine g_callV1 (c_X6_wantsWhole (u2_X6_readWeather I J w) (u3_X6_readWeather I J w) 0 30 ho4) w_X6_wantsWhole l_X6_143 d_X6_readWeather_50 rfl (Nat.le_of_ble_eq_true rfl) rfl rfl (Nat.le_of_ble_eq_true rfl) ⟨Nat.le_of_ble_eq_true rfl, Nat.le_of_ble_eq_true rfl⟩ ⟨Nat.zero_le _, Nat.zero_le _⟩ ⟨rfl, rfl⟩ ?_
        refine G.toI (I' := (u4_X6_readWeather I J w)) (by rw [u4_X6_readWeather, opv_eq]) ?_
        refine G.toJ (J' := (u5_X6_readWeather I J w)) (by rw [u5_X6_readWeather, opv_eq]) ?_
        refine g_ifnz 58 d_X6_readWeather_53 (by decide) (fun h4 => ?_) (fun h4 => ?_)
        · skip
          refine g_aload_n0 rfl d_X6_readWeather_58 ?_
          refine g_getP (b := dr w) f_X6_12 d_X6_readWeather_59 rfl (Nat.le_of_ble_eq_true rfl) rfl rfl ?_
          refine g_aload_n0 rfl d_X6_readWeather_62 ?_
          refine g_getI f_X6_147 d_X6_readWeather_63 rfl (Nat.le_of_ble_eq_true rfl) rfl ?_
          refine g_putI f_X6_170 d_X6_readWeather_66 (kd_dr w) (kd_sg (kd_dr w) (by decide)) rfl rfl rfl ?_
          refine g_iconst 1 d_X6_readWeather_69 (by decide) ?_
          exact g_zret rfl (by decide) d_X6_readWeather_70 ⟨by simp only [f_X6_readWeather, m_X6_readWeather, j_X6_readWeather, if_pos h1, if_pos h2, if_pos h3, if_pos h4, opv_eq, if_true, if_false, Bool.false_eq_true, reduceCtorEq, b2i_t, b2i_f], by simp only [f_X6_readWeather, m_X6_readWeather, j_X6_readWeather, if_pos h1, if_pos h2, if_pos h3, if_pos h4, opv_eq, if_true, if_false, Bool.false_eq_true, reduceCtorEq, b2i_t, b2i_f]⟩ (Nat.le_refl _) (Nat.le_refl _)
        · skip
          refine g_iconst 0 d_X6_readWeather_56 (by decide) ?_
          exact g_zret rfl (by decide) d_X6_readWeather_57 ⟨by simp only [f_X6_readWeather, m_X6_readWeather, j_X6_readWeather, if_pos h1, if_pos h2, if_pos h3, if_neg (nb h4), opv_eq, if_true, if_false, Bool.false_eq_true, reduceCtorEq, b2i_t, b2i_f], by simp only [f_X6_readWeather, m_X6_readWeather, j_X6_readWeather, if_pos h1, if_pos h2, if_pos h3, if_neg (nb h4), opv_eq, if_true, if_false, Bool.false_eq_true, reduceCtorEq, b2i_t, b2i_f]⟩ (Nat.le_refl _) (Nat.le_refl _)
    · skip
      refine g_iconst 0 d_X6_readWeather_24 (by decide) ?_
      exact g_zret rfl (by decide) d_X6_readWeather_25 ⟨by simp only [f_X6_readWeather, m_X6_readWeather, j_X6_readWeather, if_pos h1, if_neg (nb h2), opv_eq, if_true, if_false, Bool.false_eq_true, reduceCtorEq, b2i_t, b2i_f], by simp only [f_X6_readWeather, m_X6_readWeather, j_X6_readWeather, if_pos h1, if_neg (nb h2), opv_eq, if_true, if_false, Bool.false_eq_true, reduceCtorEq, b2i_t, b2i_f]⟩ (Nat.le_refl _) (Nat.le_refl _)
noncomputable def u0_X6_readVent (I : Nat → Nat → Int32) (J : Nat → Nat → Int64) (w : Bool) : Nat → Nat → Int32 := opv (m_X6_wantsWeather (m_X6_wantsNewName I J (-1)) (j_X6_wantsNewName I J (-1)) (rt (dr w) 7) 0)
noncomputable def u1_X6_readVent (I : Nat → Nat → Int32) (J : Nat → Nat → Int64) (w : Bool) : Nat → Nat → Int64 := opv (j_X6_wantsWeather (m_X6_wantsNewName I J (-1)) (j_X6_wantsNewName I J (-1)) (rt (dr w) 7) 0)
noncomputable def u2_X6_readVent (I : Nat → Nat → Int32) (J : Nat → Nat → Int64) (w : Bool) : Nat → Nat → Int32 := opv (m_X6_wantsCell (u0_X6_readVent I J w) (u1_X6_readVent I J w) (rt (dr w) 7) 1 1 9)
noncomputable def u3_X6_readVent (I : Nat → Nat → Int32) (J : Nat → Nat → Int64) (w : Bool) : Nat → Nat → Int64 := opv (j_X6_wantsCell (u0_X6_readVent I J w) (u1_X6_readVent I J w) (rt (dr w) 7) 1 1 9)
noncomputable def u4_X6_readVent (I : Nat → Nat → Int32) (J : Nat → Nat → Int64) (w : Bool) : Nat → Nat → Int32 := opv (m_X6_wantsCell (m_X6_wants (u2_X6_readVent I J w) (u3_X6_readVent I J w) 13) (j_X6_wants (u2_X6_readVent I J w) (u3_X6_readVent I J w) 13) (rt (dr w) 7) 2 0 99)
noncomputable def u5_X6_readVent (I : Nat → Nat → Int32) (J : Nat → Nat → Int64) (w : Bool) : Nat → Nat → Int64 := opv (j_X6_wantsCell (m_X6_wants (u2_X6_readVent I J w) (u3_X6_readVent I J w) 13) (j_X6_wants (u2_X6_readVent I J w) (u3_X6_readVent I J w) 13) (rt (dr w) 7) 2 0 99)
noncomputable def u6_X6_readVent (I : Nat → Nat → Int32) (J : Nat → Nat → Int64) (w : Bool) : Bool := opv (if (f_X6_wantsNewName I J (-1)) = true then (if (f_X6_wantsWeather (m_X6_wantsNewName I J (-1)) (j_X6_wantsNewName I J (-1)) (rt (dr w) 7) 0) = true then (if (f_X6_wantsCell (u0_X6_readVent I J w) (u1_X6_readVent I J w) (rt (dr w) 7) 1 1 9) = true then (if (f_X6_wants (u2_X6_readVent I J w) (u3_X6_readVent I J w) 13) = true then (if (f_X6_wantsCell (m_X6_wants (u2_X6_readVent I J w) (u3_X6_readVent I J w) 13) (j_X6_wants (u2_X6_readVent I J w) (u3_X6_readVent I J w) 13) (rt (dr w) 7) 2 0 99) = true then (if (f_X6_closes (u4_X6_readVent I J w) (rt (dr w) 7)) = true then true else false) else false) else false) else false) else false) else false)
noncomputable def u7_X6_readVent (I : Nat → Nat → Int32) (J : Nat → Nat → Int64) (w : Bool) : Nat → Nat → Int32 := opv (if (f_X6_wantsNewName I J (-1)) = true then (if (f_X6_wantsWeather (m_X6_wantsNewName I J (-1)) (j_X6_wantsNewName I J (-1)) (rt (dr w) 7) 0) = true then (if (f_X6_wantsCell (u0_X6_readVent I J w) (u1_X6_readVent I J w) (rt (dr w) 7) 1 1 9) = true then (if (f_X6_wants (u2_X6_readVent I J w) (u3_X6_readVent I J w) 13) = true then (if (f_X6_wantsCell (m_X6_wants (u2_X6_readVent I J w) (u3_X6_readVent I J w) 13) (j_X6_wants (u2_X6_readVent I J w) (u3_X6_readVent I J w) 13) (rt (dr w) 7) 2 0 99) = true then (m_X6_closes (u4_X6_readVent I J w) (rt (dr w) 7)) else (u4_X6_readVent I J w)) else (m_X6_wants (u2_X6_readVent I J w) (u3_X6_readVent I J w) 13)) else (u2_X6_readVent I J w)) else (u0_X6_readVent I J w)) else (m_X6_wantsNewName I J (-1)))
noncomputable def u8_X6_readVent (I : Nat → Nat → Int32) (J : Nat → Nat → Int64) (w : Bool) : Nat → Nat → Int64 := opv (if (f_X6_wantsNewName I J (-1)) = true then (if (f_X6_wantsWeather (m_X6_wantsNewName I J (-1)) (j_X6_wantsNewName I J (-1)) (rt (dr w) 7) 0) = true then (if (f_X6_wantsCell (u0_X6_readVent I J w) (u1_X6_readVent I J w) (rt (dr w) 7) 1 1 9) = true then (if (f_X6_wants (u2_X6_readVent I J w) (u3_X6_readVent I J w) 13) = true then (u5_X6_readVent I J w) else (j_X6_wants (u2_X6_readVent I J w) (u3_X6_readVent I J w) 13)) else (u3_X6_readVent I J w)) else (u1_X6_readVent I J w)) else (j_X6_wantsNewName I J (-1)))
noncomputable def f_X6_readVent (I : Nat → Nat → Int32) (J : Nat → Nat → Int64) (w : Bool)  : Bool := opv (u6_X6_readVent I J w)
noncomputable def m_X6_readVent (I : Nat → Nat → Int32) (J : Nat → Nat → Int64) (w : Bool)  : Nat → Nat → Int32 := opv (u7_X6_readVent I J w)
noncomputable def j_X6_readVent (I : Nat → Nat → Int32) (J : Nat → Nat → Int64) (w : Bool)  : Nat → Nat → Int64 := opv (u8_X6_readVent I J w)
noncomputable def ok_X6_readVent (I : Nat → Nat → Int32) (J : Nat → Nat → Int64) (w : Bool)  : Prop := opv (ok_X6_wantsNewName I J (-1) ∧ (if (f_X6_wantsNewName I J (-1)) = true then (ok_X6_wantsWeather (m_X6_wantsNewName I J (-1)) (j_X6_wantsNewName I J (-1)) (rt (dr w) 7) 0 ∧ (if (f_X6_wantsWeather (m_X6_wantsNewName I J (-1)) (j_X6_wantsNewName I J (-1)) (rt (dr w) 7) 0) = true then (ok_X6_wantsCell (u0_X6_readVent I J w) (u1_X6_readVent I J w) (rt (dr w) 7) 1 1 9 ∧ (if (f_X6_wantsCell (u0_X6_readVent I J w) (u1_X6_readVent I J w) (rt (dr w) 7) 1 1 9) = true then (ok_X6_wants (u2_X6_readVent I J w) (u3_X6_readVent I J w) 13 ∧ (if (f_X6_wants (u2_X6_readVent I J w) (u3_X6_readVent I J w) 13) = true then ok_X6_wantsCell (m_X6_wants (u2_X6_readVent I J w) (u3_X6_readVent I J w) 13) (j_X6_wants (u2_X6_readVent I J w) (u3_X6_readVent I J w) 13) (rt (dr w) 7) 2 0 99 else True)) else True)) else True)) else True))
set_option maxHeartbeats 800000 in
set_option maxRecDepth 4000 in
theorem c_X6_readVent {k : KT} {ex : Bool} (I : Nat → Nat → Int32) (J : Nat → Nat → Int64) (w : Bool)   (hok : ok_X6_readVent I J w) : Cx k mX6_readVent 8 [.ref (ka k 2)] (81, ex, I, J, Pw w) (some (.int (b2i (f_X6_readVent I J w)))) (81, ex, m_X6_readVent I J w, j_X6_readVent I J w, Pw w) := by
  refine Ct.of rfl [some (.ref (ka k 2))] rfl rfl (Nat.le_of_ble_eq_true rfl) ?_
  rw [ok_X6_readVent, opv_eq] at hok
  refine g_aload_n0 rfl d_X6_readVent_0 ?_
  refine g_iconst (-1) d_X6_readVent_1 (by decide) ?_
  obtain ⟨ho1, hok⟩ := hok
  refine g_callV1 (c_X6_wantsNewName I J (-1) ho1) w_X6_wantsNewName l_X6_172 d_X6_readVent_2 rfl (Nat.le_of_ble_eq_true rfl) rfl rfl (Nat.le_of_ble_eq_true rfl) ⟨Nat.le_of_ble_eq_true rfl, Nat.le_of_ble_eq_true rfl⟩ ⟨Nat.zero_le _, Nat.zero_le _⟩ ⟨rfl, rfl⟩ ?_
  refine g_cut (pc' := 87) (vs' := [some (.ref (ka k 2))]) (st' := [.int (b2i (u6_X6_readVent I J w))]) (M' := (81, ex, (u7_X6_readVent I J w), (u8_X6_readVent I J w), Pw w)) (fun hj => ?_) ?_
  · skip
    refine g_ifz 86 d_X6_readVent_5 (by decide) (fun h1 => ?_) (fun h1 => ?_)
    · skip
      refine g_iconst 0 d_X6_readVent_86 (by decide) ?_
      (try simp only [if_neg (nb h1), opv_eq, if_true, if_false, Bool.false_eq_true, reduceCtorEq, b2i_t, b2i_f, u6_X6_readVent, u7_X6_readVent, u8_X6_readVent] at hj); exact hj
    · skip
      rw [if_pos h1] at hok
      refine g_aload_n0 rfl d_X6_readVent_8 ?_
      refine g_aload_n0 rfl d_X6_readVent_9 ?_
      refine g_getP (b := dr w) f_X6_12 d_X6_readVent_10 rfl (Nat.le_of_ble_eq_true rfl) rfl rfl ?_
      refine g_getP (b := rt (dr w) 7) f_X6_96 d_X6_readVent_13 (kd_dr w) (kd_sg (kd_dr w) (by decide)) rfl (pw_rt (kd_dr w) (by decide) (by decide)) ?_
      refine g_iconst 0 d_X6_readVent_16 (by decide) ?_
      obtain ⟨ho2, hok⟩ := hok
      refine g_callV1 (c_X6_wantsWeather (m_X6_wantsNewName I J (-1)) (j_X6_wantsNewName I J (-1)) (rt (dr w) 7) (kt7 (kd_dr w)).1 0 ho2) w_X6_wantsWeather l_X6_175 d_X6_readVent_17 rfl (Nat.le_of_ble_eq_true rfl) rfl rfl (Nat.le_of_ble_eq_true rfl) ⟨Nat.le_of_ble_eq_true rfl, Nat.le_of_ble_eq_true rfl⟩ ⟨Nat.zero_le _, Nat.zero_le _⟩ ⟨rfl, rfl⟩ ?_
      refine G.toI (I' := (u0_X6_readVent I J w)) (by rw [u0_X6_readVent, opv_eq]) ?_
      refine G.toJ (J' := (u1_X6_readVent I J w)) (by rw [u1_X6_readVent, opv_eq]) ?_
      refine g_ifz 86 d_X6_readVent_20 (by decide) (fun h2 => ?_) (fun h2 => ?_)
      · skip
        refine g_iconst 0 d_X6_readVent_86 (by decide) ?_
        (try simp only [if_pos h1, if_neg (nb h2), opv_eq, if_true, if_false, Bool.false_eq_true, reduceCtorEq, b2i_t, b2i_f, u6_X6_readVent, u7_X6_readVent, u8_X6_readVent] at hj); exact hj
      · skip
        rw [if_pos h2] at hok
        refine g_aload_n0 rfl d_X6_readVent_23 ?_
        refine g_aload_n0 rfl d_X6_readVent_24 ?_
        refine g_getP (b := dr w) f_X6_12 d_X6_readVent_25 rfl (Nat.le_of_ble_eq_true rfl) rfl rfl ?_
        refine g_getP (b := rt (dr w) 7) f_X6_96 d_X6_readVent_28 (kd_dr w) (kd_sg (kd_dr w) (by decide)) rfl (pw_rt (kd_dr w) (by decide) (by decide)) ?_
        refine g_iconst 1 d_X6_readVent_31 (by decide) ?_
        refine g_iconst 1 d_X6_readVent_32 (by decide) ?_
        refine g_bipush 9 d_X6_readVent_33 (by decide) ?_
        obtain ⟨ho3, hok⟩ := hok
        refine g_callV1 (c_X6_wantsCell (u0_X6_readVent I J w) (u1_X6_readVent I J w) (rt (dr w) 7) (kt7 (kd_dr w)).1 1 1 9 ho3) w_X6_wantsCell l_X6_179 d_X6_readVent_35 rfl (Nat.le_of_ble_eq_true rfl) rfl rfl (Nat.le_of_ble_eq_true rfl) ⟨Nat.le_of_ble_eq_true rfl, Nat.le_of_ble_eq_true rfl⟩ ⟨Nat.zero_le _, Nat.zero_le _⟩ ⟨rfl, rfl⟩ ?_
        refine G.toI (I' := (u2_X6_readVent I J w)) (by rw [u2_X6_readVent, opv_eq]) ?_
        refine G.toJ (J' := (u3_X6_readVent I J w)) (by rw [u3_X6_readVent, opv_eq]) ?_
        refine g_ifz 86 d_X6_readVent_38 (by decide) (fun h3 => ?_) (fun h3 => ?_)
        · skip
          refine g_iconst 0 d_X6_readVent_86 (by decide) ?_
          (try simp only [if_pos h1, if_pos h2, if_neg (nb h3), opv_eq, if_true, if_false, Bool.false_eq_true, reduceCtorEq, b2i_t, b2i_f, u6_X6_readVent, u7_X6_readVent, u8_X6_readVent] at hj); exact hj
        · skip
          rw [if_pos h3] at hok
          refine g_aload_n0 rfl d_X6_readVent_41 ?_
          refine g_ldcS (n := 13) (tx := "costs") (by decide) d_X6_readVent_42 ?_
          obtain ⟨ho4, hok⟩ := hok
          refine g_callV1 (c_X6_wants (u2_X6_readVent I J w) (u3_X6_readVent I J w) 13 (by decide) ho4) w_X6_wants l_X6_140 d_X6_readVent_44 rfl (Nat.le_of_ble_eq_true rfl) rfl rfl (Nat.le_of_ble_eq_true rfl) ⟨Nat.le_of_ble_eq_true rfl, Nat.le_of_ble_eq_true rfl⟩ ⟨Nat.zero_le _, Nat.zero_le _⟩ ⟨rfl, rfl⟩ ?_
          refine g_ifz 86 d_X6_readVent_47 (by decide) (fun h4 => ?_) (fun h4 => ?_)
          · skip
            refine g_iconst 0 d_X6_readVent_86 (by decide) ?_
            (try simp only [if_pos h1, if_pos h2, if_pos h3, if_neg (nb h4), opv_eq, if_true, if_false, Bool.false_eq_true, reduceCtorEq, b2i_t, b2i_f, u6_X6_readVent, u7_X6_readVent, u8_X6_readVent] at hj); exact hj
          · skip
            rw [if_pos h4] at hok
            refine g_aload_n0 rfl d_X6_readVent_50 ?_
            refine g_aload_n0 rfl d_X6_readVent_51 ?_
            refine g_getP (b := dr w) f_X6_12 d_X6_readVent_52 rfl (Nat.le_of_ble_eq_true rfl) rfl rfl ?_
            refine g_getP (b := rt (dr w) 7) f_X6_96 d_X6_readVent_55 (kd_dr w) (kd_sg (kd_dr w) (by decide)) rfl (pw_rt (kd_dr w) (by decide) (by decide)) ?_
            refine g_iconst 2 d_X6_readVent_58 (by decide) ?_
            refine g_iconst 0 d_X6_readVent_59 (by decide) ?_
            refine g_bipush 99 d_X6_readVent_60 (by decide) ?_
            have ho5 := hok
            refine g_callV1 (c_X6_wantsCell (m_X6_wants (u2_X6_readVent I J w) (u3_X6_readVent I J w) 13) (j_X6_wants (u2_X6_readVent I J w) (u3_X6_readVent I J w) 13) (rt (dr w) 7) (kt7 (kd_dr w)).1 2 0 99 ho5) w_X6_wantsCell l_X6_179 d_X6_readVent_62 rfl (Nat.le_of_ble_eq_true rfl) rfl rfl (Nat.le_of_ble_eq_true rfl) ⟨Nat.le_of_ble_eq_true rfl, Nat.le_of_ble_eq_true rfl⟩ ⟨Nat.zero_le _, Nat.zero_le _⟩ ⟨rfl, rfl⟩ ?_
            refine G.toI (I' := (u4_X6_readVent I J w)) (by rw [u4_X6_readVent, opv_eq]) ?_
            refine G.toJ (J' := (u5_X6_readVent I J w)) (by rw [u5_X6_readVent, opv_eq]) ?_
            refine g_ifz 86 d_X6_readVent_65 (by decide) (fun h5 => ?_) (fun h5 => ?_)
            · skip
              refine g_iconst 0 d_X6_readVent_86 (by decide) ?_
              (try simp only [if_pos h1, if_pos h2, if_pos h3, if_pos h4, if_neg (nb h5), opv_eq, if_true, if_false, Bool.false_eq_true, reduceCtorEq, b2i_t, b2i_f, u6_X6_readVent, u7_X6_readVent, u8_X6_readVent] at hj); exact hj
            · skip
              refine g_aload_n0 rfl d_X6_readVent_68 ?_
              refine g_aload_n0 rfl d_X6_readVent_69 ?_
              refine g_getP (b := dr w) f_X6_12 d_X6_readVent_70 rfl (Nat.le_of_ble_eq_true rfl) rfl rfl ?_
              refine g_getP (b := rt (dr w) 7) f_X6_96 d_X6_readVent_73 (kd_dr w) (kd_sg (kd_dr w) (by decide)) rfl (pw_rt (kd_dr w) (by decide) (by decide)) ?_
              refine g_callV1 (c_X6_closes (u4_X6_readVent I J w) (rt (dr w) 7) (kt7 (kd_dr w)).1) w_X6_closes l_X6_185 d_X6_readVent_76 rfl (Nat.le_of_ble_eq_true rfl) rfl rfl (Nat.le_of_ble_eq_true rfl) ⟨Nat.le_of_ble_eq_true rfl, Nat.le_of_ble_eq_true rfl⟩ ⟨Nat.zero_le _, Nat.zero_le _⟩ ⟨rfl, rfl⟩ ?_
              refine g_ifz 86 d_X6_readVent_79 (by decide) (fun h6 => ?_) (fun h6 => ?_)
              · skip
                refine g_iconst 0 d_X6_readVent_86 (by decide) ?_
                (try simp only [if_pos h1, if_pos h2, if_pos h3, if_pos h4, if_pos h5, if_neg (nb h6), opv_eq, if_true, if_false, Bool.false_eq_true, reduceCtorEq, b2i_t, b2i_f, u6_X6_readVent, u7_X6_readVent, u8_X6_readVent] at hj); exact hj
              · skip
                refine g_iconst 1 d_X6_readVent_82 (by decide) ?_
                refine g_goto 87 d_X6_readVent_83 (by decide) ?_
                (try simp only [if_pos h1, if_pos h2, if_pos h3, if_pos h4, if_pos h5, if_pos h6, opv_eq, if_true, if_false, Bool.false_eq_true, reduceCtorEq, b2i_t, b2i_f, u6_X6_readVent, u7_X6_readVent, u8_X6_readVent] at hj); exact hj
  · skip
    exact g_zret rfl (nar_b _) d_X6_readVent_87 ⟨by simp only [f_X6_readVent, m_X6_readVent, j_X6_readVent, opv_eq, if_true, if_false, Bool.false_eq_true, reduceCtorEq, b2i_t, b2i_f], by simp only [f_X6_readVent, m_X6_readVent, j_X6_readVent, opv_eq, if_true, if_false, Bool.false_eq_true, reduceCtorEq, b2i_t, b2i_f]⟩ (Nat.le_refl _) (Nat.le_refl _)
noncomputable def u0_X6_readPlan (I : Nat → Nat → Int32) (J : Nat → Nat → Int64) : Nat → Nat → Int32 := opv (m_X6_wants (m_X6_wantsNewName I J (-1)) (j_X6_wantsNewName I J (-1)) 14)
noncomputable def u1_X6_readPlan (I : Nat → Nat → Int32) (J : Nat → Nat → Int64) : Nat → Nat → Int64 := opv (j_X6_wants (m_X6_wantsNewName I J (-1)) (j_X6_wantsNewName I J (-1)) 14)
noncomputable def u2_X6_readPlan (I : Nat → Nat → Int32) (J : Nat → Nat → Int64) (w : Bool) : Nat → Nat → Int32 := opv (m_X6_wantsCell (u0_X6_readPlan I J) (u1_X6_readPlan I J) (rt (dr w) 8) 0 0 20)
noncomputable def u3_X6_readPlan (I : Nat → Nat → Int32) (J : Nat → Nat → Int64) (w : Bool) : Nat → Nat → Int64 := opv (j_X6_wantsCell (u0_X6_readPlan I J) (u1_X6_readPlan I J) (rt (dr w) 8) 0 0 20)
noncomputable def u4_X6_readPlan (I : Nat → Nat → Int32) (J : Nat → Nat → Int64) (w : Bool) : Nat → Nat → Int32 := opv (m_X6_wantsWeather (u2_X6_readPlan I J w) (u3_X6_readPlan I J w) (rt (dr w) 8) 1)
noncomputable def u5_X6_readPlan (I : Nat → Nat → Int32) (J : Nat → Nat → Int64) (w : Bool) : Nat → Nat → Int64 := opv (j_X6_wantsWeather (u2_X6_readPlan I J w) (u3_X6_readPlan I J w) (rt (dr w) 8) 1)
noncomputable def u6_X6_readPlan (I : Nat → Nat → Int32) (J : Nat → Nat → Int64) (w : Bool) : Nat → Nat → Int32 := opv (m_X6_wantsCell (m_X6_wants (u4_X6_readPlan I J w) (u5_X6_readPlan I J w) 15) (j_X6_wants (u4_X6_readPlan I J w) (u5_X6_readPlan I J w) 15) (rt (dr w) 8) 2 0 99)
noncomputable def u7_X6_readPlan (I : Nat → Nat → Int32) (J : Nat → Nat → Int64) (w : Bool) : Nat → Nat → Int64 := opv (j_X6_wantsCell (m_X6_wants (u4_X6_readPlan I J w) (u5_X6_readPlan I J w) 15) (j_X6_wants (u4_X6_readPlan I J w) (u5_X6_readPlan I J w) 15) (rt (dr w) 8) 2 0 99)
noncomputable def u8_X6_readPlan (I : Nat → Nat → Int32) (J : Nat → Nat → Int64) (w : Bool) : Bool := opv (if (f_X6_wantsNewName I J (-1)) = true then (if (f_X6_wants (m_X6_wantsNewName I J (-1)) (j_X6_wantsNewName I J (-1)) 14) = true then (if (f_X6_wantsCell (u0_X6_readPlan I J) (u1_X6_readPlan I J) (rt (dr w) 8) 0 0 20) = true then (if (f_X6_wantsWeather (u2_X6_readPlan I J w) (u3_X6_readPlan I J w) (rt (dr w) 8) 1) = true then (if (f_X6_wants (u4_X6_readPlan I J w) (u5_X6_readPlan I J w) 15) = true then (if (f_X6_wantsCell (m_X6_wants (u4_X6_readPlan I J w) (u5_X6_readPlan I J w) 15) (j_X6_wants (u4_X6_readPlan I J w) (u5_X6_readPlan I J w) 15) (rt (dr w) 8) 2 0 99) = true then (if (f_X6_closes (u6_X6_readPlan I J w) (rt (dr w) 8)) = true then true else false) else false) else false) else false) else false) else false) else false)
noncomputable def u9_X6_readPlan (I : Nat → Nat → Int32) (J : Nat → Nat → Int64) (w : Bool) : Nat → Nat → Int32 := opv (if (f_X6_wantsNewName I J (-1)) = true then (if (f_X6_wants (m_X6_wantsNewName I J (-1)) (j_X6_wantsNewName I J (-1)) 14) = true then (if (f_X6_wantsCell (u0_X6_readPlan I J) (u1_X6_readPlan I J) (rt (dr w) 8) 0 0 20) = true then (if (f_X6_wantsWeather (u2_X6_readPlan I J w) (u3_X6_readPlan I J w) (rt (dr w) 8) 1) = true then (if (f_X6_wants (u4_X6_readPlan I J w) (u5_X6_readPlan I J w) 15) = true then (if (f_X6_wantsCell (m_X6_wants (u4_X6_readPlan I J w) (u5_X6_readPlan I J w) 15) (j_X6_wants (u4_X6_readPlan I J w) (u5_X6_readPlan I J w) 15) (rt (dr w) 8) 2 0 99) = true then (m_X6_closes (u6_X6_readPlan I J w) (rt (dr w) 8)) else (u6_X6_readPlan I J w)) else (m_X6_wants (u4_X6_readPlan I J w) (u5_X6_readPlan I J w) 15)) else (u4_X6_readPlan I J w)) else (u2_X6_readPlan I J w)) else (u0_X6_readPlan I J)) else (m_X6_wantsNewName I J (-1)))
noncomputable def u10_X6_readPlan (I : Nat → Nat → Int32) (J : Nat → Nat → Int64) (w : Bool) : Nat → Nat → Int64 := opv (if (f_X6_wantsNewName I J (-1)) = true then (if (f_X6_wants (m_X6_wantsNewName I J (-1)) (j_X6_wantsNewName I J (-1)) 14) = true then (if (f_X6_wantsCell (u0_X6_readPlan I J) (u1_X6_readPlan I J) (rt (dr w) 8) 0 0 20) = true then (if (f_X6_wantsWeather (u2_X6_readPlan I J w) (u3_X6_readPlan I J w) (rt (dr w) 8) 1) = true then (if (f_X6_wants (u4_X6_readPlan I J w) (u5_X6_readPlan I J w) 15) = true then (u7_X6_readPlan I J w) else (j_X6_wants (u4_X6_readPlan I J w) (u5_X6_readPlan I J w) 15)) else (u5_X6_readPlan I J w)) else (u3_X6_readPlan I J w)) else (u1_X6_readPlan I J)) else (j_X6_wantsNewName I J (-1)))
noncomputable def f_X6_readPlan (I : Nat → Nat → Int32) (J : Nat → Nat → Int64) (w : Bool)  : Bool := opv (u8_X6_readPlan I J w)
noncomputable def m_X6_readPlan (I : Nat → Nat → Int32) (J : Nat → Nat → Int64) (w : Bool)  : Nat → Nat → Int32 := opv (u9_X6_readPlan I J w)
noncomputable def j_X6_readPlan (I : Nat → Nat → Int32) (J : Nat → Nat → Int64) (w : Bool)  : Nat → Nat → Int64 := opv (u10_X6_readPlan I J w)
noncomputable def ok_X6_readPlan (I : Nat → Nat → Int32) (J : Nat → Nat → Int64) (w : Bool)  : Prop := opv (ok_X6_wantsNewName I J (-1) ∧ (if (f_X6_wantsNewName I J (-1)) = true then (ok_X6_wants (m_X6_wantsNewName I J (-1)) (j_X6_wantsNewName I J (-1)) 14 ∧ (if (f_X6_wants (m_X6_wantsNewName I J (-1)) (j_X6_wantsNewName I J (-1)) 14) = true then (ok_X6_wantsCell (u0_X6_readPlan I J) (u1_X6_readPlan I J) (rt (dr w) 8) 0 0 20 ∧ (if (f_X6_wantsCell (u0_X6_readPlan I J) (u1_X6_readPlan I J) (rt (dr w) 8) 0 0 20) = true then (ok_X6_wantsWeather (u2_X6_readPlan I J w) (u3_X6_readPlan I J w) (rt (dr w) 8) 1 ∧ (if (f_X6_wantsWeather (u2_X6_readPlan I J w) (u3_X6_readPlan I J w) (rt (dr w) 8) 1) = true then (ok_X6_wants (u4_X6_readPlan I J w) (u5_X6_readPlan I J w) 15 ∧ (if (f_X6_wants (u4_X6_readPlan I J w) (u5_X6_readPlan I J w) 15) = true then ok_X6_wantsCell (m_X6_wants (u4_X6_readPlan I J w) (u5_X6_readPlan I J w) 15) (j_X6_wants (u4_X6_readPlan I J w) (u5_X6_readPlan I J w) 15) (rt (dr w) 8) 2 0 99 else True)) else True)) else True)) else True)) else True))
set_option maxHeartbeats 800000 in
set_option maxRecDepth 4000 in
theorem c_X6_readPlan {k : KT} {ex : Bool} (I : Nat → Nat → Int32) (J : Nat → Nat → Int64) (w : Bool)   (hok : ok_X6_readPlan I J w) : Cx k mX6_readPlan 8 [.ref (ka k 2)] (81, ex, I, J, Pw w) (some (.int (b2i (f_X6_readPlan I J w)))) (81, ex, m_X6_readPlan I J w, j_X6_readPlan I J w, Pw w) := by
  refine Ct.of rfl [some (.ref (ka k 2))] rfl rfl (Nat.le_of_ble_eq_true rfl) ?_
  rw [ok_X6_readPlan, opv_eq] at hok
  refine g_aload_n0 rfl d_X6_readPlan_0 ?_
  refine g_iconst (-1) d_X6_readPlan_1 (by decide) ?_
  obtain ⟨ho1, hok⟩ := hok
  refine g_callV1 (c_X6_wantsNewName I J (-1) ho1) w_X6_wantsNewName l_X6_172 d_X6_readPlan_2 rfl (Nat.le_of_ble_eq_true rfl) rfl rfl (Nat.le_of_ble_eq_true rfl) ⟨Nat.le_of_ble_eq_true rfl, Nat.le_of_ble_eq_true rfl⟩ ⟨Nat.zero_le _, Nat.zero_le _⟩ ⟨rfl, rfl⟩ ?_
  refine g_cut (pc' := 96) (vs' := [some (.ref (ka k 2))]) (st' := [.int (b2i (u8_X6_readPlan I J w))]) (M' := (81, ex, (u9_X6_readPlan I J w), (u10_X6_readPlan I J w), Pw w)) (fun hj => ?_) ?_
  · skip
    refine g_ifz 95 d_X6_readPlan_5 (by decide) (fun h1 => ?_) (fun h1 => ?_)
    · skip
      refine g_iconst 0 d_X6_readPlan_95 (by decide) ?_
      (try simp only [if_neg (nb h1), opv_eq, if_true, if_false, Bool.false_eq_true, reduceCtorEq, b2i_t, b2i_f, u8_X6_readPlan, u9_X6_readPlan, u10_X6_readPlan] at hj); exact hj
    · skip
      rw [if_pos h1] at hok
      refine g_aload_n0 rfl d_X6_readPlan_8 ?_
      refine g_ldcS (n := 14) (tx := "on") (by decide) d_X6_readPlan_9 ?_
      obtain ⟨ho2, hok⟩ := hok
      refine g_callV1 (c_X6_wants (m_X6_wantsNewName I J (-1)) (j_X6_wantsNewName I J (-1)) 14 (by decide) ho2) w_X6_wants l_X6_140 d_X6_readPlan_11 rfl (Nat.le_of_ble_eq_true rfl) rfl rfl (Nat.le_of_ble_eq_true rfl) ⟨Nat.le_of_ble_eq_true rfl, Nat.le_of_ble_eq_true rfl⟩ ⟨Nat.zero_le _, Nat.zero_le _⟩ ⟨rfl, rfl⟩ ?_
      refine G.toI (I' := (u0_X6_readPlan I J)) (by rw [u0_X6_readPlan, opv_eq]) ?_
      refine G.toJ (J' := (u1_X6_readPlan I J)) (by rw [u1_X6_readPlan, opv_eq]) ?_
      refine g_ifz 95 d_X6_readPlan_14 (by decide) (fun h2 => ?_) (fun h2 => ?_)
      · skip
        refine g_iconst 0 d_X6_readPlan_95 (by decide) ?_
        (try simp only [if_pos h1, if_neg (nb h2), opv_eq, if_true, if_false, Bool.false_eq_true, reduceCtorEq, b2i_t, b2i_f, u8_X6_readPlan, u9_X6_readPlan, u10_X6_readPlan] at hj); exact hj
      · skip
        rw [if_pos h2] at hok
        refine g_aload_n0 rfl d_X6_readPlan_17 ?_
        refine g_aload_n0 rfl d_X6_readPlan_18 ?_
        refine g_getP (b := dr w) f_X6_12 d_X6_readPlan_19 rfl (Nat.le_of_ble_eq_true rfl) rfl rfl ?_
        refine g_getP (b := rt (dr w) 8) f_X6_110 d_X6_readPlan_22 (kd_dr w) (kd_sg (kd_dr w) (by decide)) rfl (pw_rt (kd_dr w) (by decide) (by decide)) ?_
        refine g_iconst 0 d_X6_readPlan_25 (by decide) ?_
        refine g_iconst 0 d_X6_readPlan_26 (by decide) ?_
        refine g_bipush 20 d_X6_readPlan_27 (by decide) ?_
        obtain ⟨ho3, hok⟩ := hok
        refine g_callV1 (c_X6_wantsCell (u0_X6_readPlan I J) (u1_X6_readPlan I J) (rt (dr w) 8) (kt7 (kd_dr w)).2.1 0 0 20 ho3) w_X6_wantsCell l_X6_179 d_X6_readPlan_29 rfl (Nat.le_of_ble_eq_true rfl) rfl rfl (Nat.le_of_ble_eq_true rfl) ⟨Nat.le_of_ble_eq_true rfl, Nat.le_of_ble_eq_true rfl⟩ ⟨Nat.zero_le _, Nat.zero_le _⟩ ⟨rfl, rfl⟩ ?_
        refine G.toI (I' := (u2_X6_readPlan I J w)) (by rw [u2_X6_readPlan, opv_eq]) ?_
        refine G.toJ (J' := (u3_X6_readPlan I J w)) (by rw [u3_X6_readPlan, opv_eq]) ?_
        refine g_ifz 95 d_X6_readPlan_32 (by decide) (fun h3 => ?_) (fun h3 => ?_)
        · skip
          refine g_iconst 0 d_X6_readPlan_95 (by decide) ?_
          (try simp only [if_pos h1, if_pos h2, if_neg (nb h3), opv_eq, if_true, if_false, Bool.false_eq_true, reduceCtorEq, b2i_t, b2i_f, u8_X6_readPlan, u9_X6_readPlan, u10_X6_readPlan] at hj); exact hj
        · skip
          rw [if_pos h3] at hok
          refine g_aload_n0 rfl d_X6_readPlan_35 ?_
          refine g_aload_n0 rfl d_X6_readPlan_36 ?_
          refine g_getP (b := dr w) f_X6_12 d_X6_readPlan_37 rfl (Nat.le_of_ble_eq_true rfl) rfl rfl ?_
          refine g_getP (b := rt (dr w) 8) f_X6_110 d_X6_readPlan_40 (kd_dr w) (kd_sg (kd_dr w) (by decide)) rfl (pw_rt (kd_dr w) (by decide) (by decide)) ?_
          refine g_iconst 1 d_X6_readPlan_43 (by decide) ?_
          obtain ⟨ho4, hok⟩ := hok
          refine g_callV1 (c_X6_wantsWeather (u2_X6_readPlan I J w) (u3_X6_readPlan I J w) (rt (dr w) 8) (kt7 (kd_dr w)).2.1 1 ho4) w_X6_wantsWeather l_X6_175 d_X6_readPlan_44 rfl (Nat.le_of_ble_eq_true rfl) rfl rfl (Nat.le_of_ble_eq_true rfl) ⟨Nat.le_of_ble_eq_true rfl, Nat.le_of_ble_eq_true rfl⟩ ⟨Nat.zero_le _, Nat.zero_le _⟩ ⟨rfl, rfl⟩ ?_
          refine G.toI (I' := (u4_X6_readPlan I J w)) (by rw [u4_X6_readPlan, opv_eq]) ?_
          refine G.toJ (J' := (u5_X6_readPlan I J w)) (by rw [u5_X6_readPlan, opv_eq]) ?_
          refine g_ifz 95 d_X6_readPlan_47 (by decide) (fun h4 => ?_) (fun h4 => ?_)
          · skip
            refine g_iconst 0 d_X6_readPlan_95 (by decide) ?_
            (try simp only [if_pos h1, if_pos h2, if_pos h3, if_neg (nb h4), opv_eq, if_true, if_false, Bool.false_eq_true, reduceCtorEq, b2i_t, b2i_f, u8_X6_readPlan, u9_X6_readPlan, u10_X6_readPlan] at hj); exact hj
          · skip
            rw [if_pos h4] at hok
            refine g_aload_n0 rfl d_X6_readPlan_50 ?_
            refine g_ldcS (n := 15) (tx := "worth") (by decide) d_X6_readPlan_51 ?_
            obtain ⟨ho5, hok⟩ := hok
            refine g_callV1 (c_X6_wants (u4_X6_readPlan I J w) (u5_X6_readPlan I J w) 15 (by decide) ho5) w_X6_wants l_X6_140 d_X6_readPlan_53 rfl (Nat.le_of_ble_eq_true rfl) rfl rfl (Nat.le_of_ble_eq_true rfl) ⟨Nat.le_of_ble_eq_true rfl, Nat.le_of_ble_eq_true rfl⟩ ⟨Nat.zero_le _, Nat.zero_le _⟩ ⟨rfl, rfl⟩ ?_
            refine g_ifz 95 d_X6_readPlan_56 (by decide) (fun h5 => ?_) (fun h5 => ?_)
            · skip
              refine g_iconst 0 d_X6_readPlan_95 (by decide) ?_
              (try simp only [if_pos h1, if_pos h2, if_pos h3, if_pos h4, if_neg (nb h5), opv_eq, if_true, if_false, Bool.false_eq_true, reduceCtorEq, b2i_t, b2i_f, u8_X6_readPlan, u9_X6_readPlan, u10_X6_readPlan] at hj); exact hj
            · skip
              rw [if_pos h5] at hok
              refine g_aload_n0 rfl d_X6_readPlan_59 ?_
              refine g_aload_n0 rfl d_X6_readPlan_60 ?_
              refine g_getP (b := dr w) f_X6_12 d_X6_readPlan_61 rfl (Nat.le_of_ble_eq_true rfl) rfl rfl ?_
              refine g_getP (b := rt (dr w) 8) f_X6_110 d_X6_readPlan_64 (kd_dr w) (kd_sg (kd_dr w) (by decide)) rfl (pw_rt (kd_dr w) (by decide) (by decide)) ?_
              refine g_iconst 2 d_X6_readPlan_67 (by decide) ?_
              refine g_iconst 0 d_X6_readPlan_68 (by decide) ?_
              refine g_bipush 99 d_X6_readPlan_69 (by decide) ?_
              have ho6 := hok
              refine g_callV1 (c_X6_wantsCell (m_X6_wants (u4_X6_readPlan I J w) (u5_X6_readPlan I J w) 15) (j_X6_wants (u4_X6_readPlan I J w) (u5_X6_readPlan I J w) 15) (rt (dr w) 8) (kt7 (kd_dr w)).2.1 2 0 99 ho6) w_X6_wantsCell l_X6_179 d_X6_readPlan_71 rfl (Nat.le_of_ble_eq_true rfl) rfl rfl (Nat.le_of_ble_eq_true rfl) ⟨Nat.le_of_ble_eq_true rfl, Nat.le_of_ble_eq_true rfl⟩ ⟨Nat.zero_le _, Nat.zero_le _⟩ ⟨rfl, rfl⟩ ?_
              refine G.toI (I' := (u6_X6_readPlan I J w)) (by rw [u6_X6_readPlan, opv_eq]) ?_
              refine G.toJ (J' := (u7_X6_readPlan I J w)) (by rw [u7_X6_readPlan, opv_eq]) ?_
              refine g_ifz 95 d_X6_readPlan_74 (by decide) (fun h6 => ?_) (fun h6 => ?_)
              · skip
                refine g_iconst 0 d_X6_readPlan_95 (by decide) ?_
                (try simp only [if_pos h1, if_pos h2, if_pos h3, if_pos h4, if_pos h5, if_neg (nb h6), opv_eq, if_true, if_false, Bool.false_eq_true, reduceCtorEq, b2i_t, b2i_f, u8_X6_readPlan, u9_X6_readPlan, u10_X6_readPlan] at hj); exact hj
              · skip
                refine g_aload_n0 rfl d_X6_readPlan_77 ?_
                refine g_aload_n0 rfl d_X6_readPlan_78 ?_
                refine g_getP (b := dr w) f_X6_12 d_X6_readPlan_79 rfl (Nat.le_of_ble_eq_true rfl) rfl rfl ?_
                refine g_getP (b := rt (dr w) 8) f_X6_110 d_X6_readPlan_82 (kd_dr w) (kd_sg (kd_dr w) (by decide)) rfl (pw_rt (kd_dr w) (by decide) (by decide)) ?_
                refine g_callV1 (c_X6_closes (u6_X6_readPlan I J w) (rt (dr w) 8) (kt7 (kd_dr w)).2.1) w_X6_closes l_X6_185 d_X6_readPlan_85 rfl (Nat.le_of_ble_eq_true rfl) rfl rfl (Nat.le_of_ble_eq_true rfl) ⟨Nat.le_of_ble_eq_true rfl, Nat.le_of_ble_eq_true rfl⟩ ⟨Nat.zero_le _, Nat.zero_le _⟩ ⟨rfl, rfl⟩ ?_
                refine g_ifz 95 d_X6_readPlan_88 (by decide) (fun h7 => ?_) (fun h7 => ?_)
                · skip
                  refine g_iconst 0 d_X6_readPlan_95 (by decide) ?_
                  (try simp only [if_pos h1, if_pos h2, if_pos h3, if_pos h4, if_pos h5, if_pos h6, if_neg (nb h7), opv_eq, if_true, if_false, Bool.false_eq_true, reduceCtorEq, b2i_t, b2i_f, u8_X6_readPlan, u9_X6_readPlan, u10_X6_readPlan] at hj); exact hj
                · skip
                  refine g_iconst 1 d_X6_readPlan_91 (by decide) ?_
                  refine g_goto 96 d_X6_readPlan_92 (by decide) ?_
                  (try simp only [if_pos h1, if_pos h2, if_pos h3, if_pos h4, if_pos h5, if_pos h6, if_pos h7, opv_eq, if_true, if_false, Bool.false_eq_true, reduceCtorEq, b2i_t, b2i_f, u8_X6_readPlan, u9_X6_readPlan, u10_X6_readPlan] at hj); exact hj
  · skip
    exact g_zret rfl (nar_b _) d_X6_readPlan_96 ⟨by simp only [f_X6_readPlan, m_X6_readPlan, j_X6_readPlan, opv_eq, if_true, if_false, Bool.false_eq_true, reduceCtorEq, b2i_t, b2i_f], by simp only [f_X6_readPlan, m_X6_readPlan, j_X6_readPlan, opv_eq, if_true, if_false, Bool.false_eq_true, reduceCtorEq, b2i_t, b2i_f]⟩ (Nat.le_refl _) (Nat.le_refl _)
noncomputable def u0_X6_readSaw (I : Nat → Nat → Int32) (J : Nat → Nat → Int64) (w : Bool) : Nat → Nat → Int32 := opv (m_X6_wantsCell (m_X6_wants I J 16) (j_X6_wants I J 16) (rt (dr w) 9) 0 0 20)
noncomputable def u1_X6_readSaw (I : Nat → Nat → Int32) (J : Nat → Nat → Int64) (w : Bool) : Nat → Nat → Int64 := opv (j_X6_wantsCell (m_X6_wants I J 16) (j_X6_wants I J 16) (rt (dr w) 9) 0 0 20)
noncomputable def u2_X6_readSaw (I : Nat → Nat → Int32) (J : Nat → Nat → Int64) (w : Bool) : Nat → Nat → Int32 := opv (m_X6_closes (m_X6_wantsWho (u0_X6_readSaw I J w) (u1_X6_readSaw I J w) w) (rt (dr w) 9))
noncomputable def u3_X6_readSaw (I : Nat → Nat → Int32) (J : Nat → Nat → Int64) (w : Bool) : Bool := opv (if (f_X6_wantsWho (u0_X6_readSaw I J w) (u1_X6_readSaw I J w) w) = true then (if (f_X6_closes (m_X6_wantsWho (u0_X6_readSaw I J w) (u1_X6_readSaw I J w) w) (rt (dr w) 9)) = true then true else false) else false)
noncomputable def u4_X6_readSaw (I : Nat → Nat → Int32) (J : Nat → Nat → Int64) (w : Bool) : Nat → Nat → Int32 := opv (if (f_X6_wantsWho (u0_X6_readSaw I J w) (u1_X6_readSaw I J w) w) = true then (u2_X6_readSaw I J w) else (m_X6_wantsWho (u0_X6_readSaw I J w) (u1_X6_readSaw I J w) w))
noncomputable def f_X6_readSaw (I : Nat → Nat → Int32) (J : Nat → Nat → Int64) (w : Bool)  : Bool := opv (if (f_X6_wants I J 16) = true then (if (f_X6_wantsCell (m_X6_wants I J 16) (j_X6_wants I J 16) (rt (dr w) 9) 0 0 20) = true then (if (f_X8_sawOn (u0_X6_readSaw I J w) (dr w) ((u0_X6_readSaw I J w) 2 9)) = true then f_X6_fails (u0_X6_readSaw I J w) 3 else (u3_X6_readSaw I J w)) else false) else false)
noncomputable def m_X6_readSaw (I : Nat → Nat → Int32) (J : Nat → Nat → Int64) (w : Bool)  : Nat → Nat → Int32 := opv (if (f_X6_wants I J 16) = true then (if (f_X6_wantsCell (m_X6_wants I J 16) (j_X6_wants I J 16) (rt (dr w) 9) 0 0 20) = true then (if (f_X8_sawOn (u0_X6_readSaw I J w) (dr w) ((u0_X6_readSaw I J w) 2 9)) = true then (m_X6_fails (u0_X6_readSaw I J w) 3) else (u4_X6_readSaw I J w)) else (u0_X6_readSaw I J w)) else (m_X6_wants I J 16))
noncomputable def j_X6_readSaw (I : Nat → Nat → Int32) (J : Nat → Nat → Int64) (w : Bool)  : Nat → Nat → Int64 := opv (if (f_X6_wants I J 16) = true then (if (f_X6_wantsCell (m_X6_wants I J 16) (j_X6_wants I J 16) (rt (dr w) 9) 0 0 20) = true then (if (f_X8_sawOn (u0_X6_readSaw I J w) (dr w) ((u0_X6_readSaw I J w) 2 9)) = true then (u1_X6_readSaw I J w) else (j_X6_wantsWho (u0_X6_readSaw I J w) (u1_X6_readSaw I J w) w)) else (u1_X6_readSaw I J w)) else (j_X6_wants I J 16))
noncomputable def ok_X6_readSaw (I : Nat → Nat → Int32) (J : Nat → Nat → Int64) (w : Bool)  : Prop := opv (ok_X6_wants I J 16 ∧ (if (f_X6_wants I J 16) = true then (ok_X6_wantsCell (m_X6_wants I J 16) (j_X6_wants I J 16) (rt (dr w) 9) 0 0 20 ∧ (if (f_X6_wantsCell (m_X6_wants I J 16) (j_X6_wants I J 16) (rt (dr w) 9) 0 0 20) = true then (if (f_X8_sawOn (u0_X6_readSaw I J w) (dr w) ((u0_X6_readSaw I J w) 2 9)) = true then True else ok_X6_wantsWho (u0_X6_readSaw I J w) (u1_X6_readSaw I J w) w) else True)) else True))
set_option maxHeartbeats 800000 in
set_option maxRecDepth 4000 in
theorem c_X6_readSaw {k : KT} {ex : Bool} (I : Nat → Nat → Int32) (J : Nat → Nat → Int64) (w : Bool)   (hok : ok_X6_readSaw I J w) : Cx k mX6_readSaw 7 [.ref (ka k 2)] (81, ex, I, J, Pw w) (some (.int (b2i (f_X6_readSaw I J w)))) (81, ex, m_X6_readSaw I J w, j_X6_readSaw I J w, Pw w) := by
  refine Ct.of rfl [some (.ref (ka k 2))] rfl rfl (Nat.le_of_ble_eq_true rfl) ?_
  rw [ok_X6_readSaw, opv_eq] at hok
  refine g_aload_n0 rfl d_X6_readSaw_0 ?_
  refine g_ldcS (n := 16) (tx := "day") (by decide) d_X6_readSaw_1 ?_
  obtain ⟨ho1, hok⟩ := hok
  refine g_callV1 (c_X6_wants I J 16 (by decide) ho1) w_X6_wants l_X6_140 d_X6_readSaw_3 rfl (Nat.le_of_ble_eq_true rfl) rfl rfl (Nat.le_of_ble_eq_true rfl) ⟨Nat.le_of_ble_eq_true rfl, Nat.le_of_ble_eq_true rfl⟩ ⟨Nat.zero_le _, Nat.zero_le _⟩ ⟨rfl, rfl⟩ ?_
  refine g_ifz 27 d_X6_readSaw_6 (by decide) (fun h1 => ?_) (fun h1 => ?_)
  · skip
    refine g_iconst 0 d_X6_readSaw_27 (by decide) ?_
    exact g_zret rfl (by decide) d_X6_readSaw_28 ⟨by simp only [f_X6_readSaw, m_X6_readSaw, j_X6_readSaw, if_neg (nb h1), opv_eq, if_true, if_false, Bool.false_eq_true, reduceCtorEq, b2i_t, b2i_f], by simp only [f_X6_readSaw, m_X6_readSaw, j_X6_readSaw, if_neg (nb h1), opv_eq, if_true, if_false, Bool.false_eq_true, reduceCtorEq, b2i_t, b2i_f]⟩ (Nat.le_refl _) (Nat.le_refl _)
  · skip
    rw [if_pos h1] at hok
    refine g_aload_n0 rfl d_X6_readSaw_9 ?_
    refine g_aload_n0 rfl d_X6_readSaw_10 ?_
    refine g_getP (b := dr w) f_X6_12 d_X6_readSaw_11 rfl (Nat.le_of_ble_eq_true rfl) rfl rfl ?_
    refine g_getP (b := rt (dr w) 9) f_X6_118 d_X6_readSaw_14 (kd_dr w) (kd_sg (kd_dr w) (by decide)) rfl (pw_rt (kd_dr w) (by decide) (by decide)) ?_
    refine g_iconst 0 d_X6_readSaw_17 (by decide) ?_
    refine g_iconst 0 d_X6_readSaw_18 (by decide) ?_
    refine g_bipush 20 d_X6_readSaw_19 (by decide) ?_
    obtain ⟨ho2, hok⟩ := hok
    refine g_callV1 (c_X6_wantsCell (m_X6_wants I J 16) (j_X6_wants I J 16) (rt (dr w) 9) (kt7 (kd_dr w)).2.2.1 0 0 20 ho2) w_X6_wantsCell l_X6_179 d_X6_readSaw_21 rfl (Nat.le_of_ble_eq_true rfl) rfl rfl (Nat.le_of_ble_eq_true rfl) ⟨Nat.le_of_ble_eq_true rfl, Nat.le_of_ble_eq_true rfl⟩ ⟨Nat.zero_le _, Nat.zero_le _⟩ ⟨rfl, rfl⟩ ?_
    refine G.toI (I' := (u0_X6_readSaw I J w)) (by rw [u0_X6_readSaw, opv_eq]) ?_
    refine G.toJ (J' := (u1_X6_readSaw I J w)) (by rw [u1_X6_readSaw, opv_eq]) ?_
    refine g_ifnz 29 d_X6_readSaw_24 (by decide) (fun h2 => ?_) (fun h2 => ?_)
    · skip
      rw [if_pos h2] at hok
      refine g_aload_n0 rfl d_X6_readSaw_29 ?_
      refine g_getP (b := dr w) f_X6_12 d_X6_readSaw_30 rfl (Nat.le_of_ble_eq_true rfl) rfl rfl ?_
      refine g_aload_n0 rfl d_X6_readSaw_33 ?_
      refine g_getI f_X6_147 d_X6_readSaw_34 rfl (Nat.le_of_ble_eq_true rfl) rfl ?_
      refine g_callV1 (c_X8_sawOn (u0_X6_readSaw I J w) (dr w) (kd_dr w) ((u0_X6_readSaw I J w) 2 9)) w_X8_sawOn l_X6_195 d_X6_readSaw_37 (kd_dr w) (kd_sg (kd_dr w) (by decide)) rfl rfl (Nat.le_of_ble_eq_true rfl) ⟨Nat.le_of_ble_eq_true rfl, Nat.le_of_ble_eq_true rfl⟩ ⟨Nat.zero_le _, Nat.zero_le _⟩ ⟨rfl, rfl⟩ ?_
      refine g_ifz 49 d_X6_readSaw_40 (by decide) (fun h3 => ?_) (fun h3 => ?_)
      · skip
        rw [if_neg (nb h3)] at hok
        refine g_aload_n0 rfl d_X6_readSaw_49 ?_
        have ho3 := hok
        refine g_callV1 (c_X6_wantsWho (u0_X6_readSaw I J w) (u1_X6_readSaw I J w) w  ho3) w_X6_wantsWho l_X6_198 d_X6_readSaw_50 rfl (Nat.le_of_ble_eq_true rfl) rfl rfl (Nat.le_of_ble_eq_true rfl) ⟨Nat.le_of_ble_eq_true rfl, Nat.le_of_ble_eq_true rfl⟩ ⟨Nat.zero_le _, Nat.zero_le _⟩ ⟨rfl, rfl⟩ ?_
        refine g_cut (pc' := 75) (vs' := [some (.ref (ka k 2))]) (st' := [.int (b2i (u3_X6_readSaw I J w))]) (M' := (81, ex, (u4_X6_readSaw I J w), (j_X6_wantsWho (u0_X6_readSaw I J w) (u1_X6_readSaw I J w) w), Pw w)) (fun hj => ?_) ?_
        · skip
          refine g_ifz 74 d_X6_readSaw_53 (by decide) (fun h4 => ?_) (fun h4 => ?_)
          · skip
            refine g_iconst 0 d_X6_readSaw_74 (by decide) ?_
            (try simp only [if_neg (nb h4), opv_eq, if_true, if_false, Bool.false_eq_true, reduceCtorEq, b2i_t, b2i_f, u3_X6_readSaw, u4_X6_readSaw] at hj); exact hj
          · skip
            refine g_aload_n0 rfl d_X6_readSaw_56 ?_
            refine g_aload_n0 rfl d_X6_readSaw_57 ?_
            refine g_getP (b := dr w) f_X6_12 d_X6_readSaw_58 rfl (Nat.le_of_ble_eq_true rfl) rfl rfl ?_
            refine g_getP (b := rt (dr w) 9) f_X6_118 d_X6_readSaw_61 (kd_dr w) (kd_sg (kd_dr w) (by decide)) rfl (pw_rt (kd_dr w) (by decide) (by decide)) ?_
            refine g_callV1 (c_X6_closes (m_X6_wantsWho (u0_X6_readSaw I J w) (u1_X6_readSaw I J w) w) (rt (dr w) 9) (kt7 (kd_dr w)).2.2.1) w_X6_closes l_X6_185 d_X6_readSaw_64 rfl (Nat.le_of_ble_eq_true rfl) rfl rfl (Nat.le_of_ble_eq_true rfl) ⟨Nat.le_of_ble_eq_true rfl, Nat.le_of_ble_eq_true rfl⟩ ⟨Nat.zero_le _, Nat.zero_le _⟩ ⟨rfl, rfl⟩ ?_
            refine G.toI (I' := (u2_X6_readSaw I J w)) (by rw [u2_X6_readSaw, opv_eq]) ?_
            refine g_ifz 74 d_X6_readSaw_67 (by decide) (fun h5 => ?_) (fun h5 => ?_)
            · skip
              refine g_iconst 0 d_X6_readSaw_74 (by decide) ?_
              (try simp only [if_pos h4, if_neg (nb h5), opv_eq, if_true, if_false, Bool.false_eq_true, reduceCtorEq, b2i_t, b2i_f, u3_X6_readSaw, u4_X6_readSaw] at hj); exact hj
            · skip
              refine g_iconst 1 d_X6_readSaw_70 (by decide) ?_
              refine g_goto 75 d_X6_readSaw_71 (by decide) ?_
              (try simp only [if_pos h4, if_pos h5, opv_eq, if_true, if_false, Bool.false_eq_true, reduceCtorEq, b2i_t, b2i_f, u3_X6_readSaw, u4_X6_readSaw] at hj); exact hj
        · skip
          exact g_zret rfl (nar_b _) d_X6_readSaw_75 ⟨by simp only [f_X6_readSaw, m_X6_readSaw, j_X6_readSaw, if_pos h1, if_pos h2, if_neg (nb h3), opv_eq, if_true, if_false, Bool.false_eq_true, reduceCtorEq, b2i_t, b2i_f], by simp only [f_X6_readSaw, m_X6_readSaw, j_X6_readSaw, if_pos h1, if_pos h2, if_neg (nb h3), opv_eq, if_true, if_false, Bool.false_eq_true, reduceCtorEq, b2i_t, b2i_f]⟩ (Nat.le_refl _) (Nat.le_refl _)
      · skip
        refine g_aload_n0 rfl d_X6_readSaw_43 ?_
        refine g_iconst 3 d_X6_readSaw_44 (by decide) ?_
        refine g_callV1 (c_X6_fails (u0_X6_readSaw I J w) 3) w_X6_fails l_X6_72 d_X6_readSaw_45 rfl (Nat.le_of_ble_eq_true rfl) rfl rfl (Nat.le_of_ble_eq_true rfl) ⟨Nat.le_of_ble_eq_true rfl, Nat.le_of_ble_eq_true rfl⟩ ⟨Nat.zero_le _, Nat.zero_le _⟩ ⟨rfl, rfl⟩ ?_
        exact g_zret rfl (nar_b _) d_X6_readSaw_48 ⟨by simp only [f_X6_readSaw, m_X6_readSaw, j_X6_readSaw, if_pos h1, if_pos h2, if_pos h3, opv_eq, if_true, if_false, Bool.false_eq_true, reduceCtorEq, b2i_t, b2i_f], by simp only [f_X6_readSaw, m_X6_readSaw, j_X6_readSaw, if_pos h1, if_pos h2, if_pos h3, opv_eq, if_true, if_false, Bool.false_eq_true, reduceCtorEq, b2i_t, b2i_f]⟩ (Nat.le_refl _) (Nat.le_refl _)
    · skip
      refine g_iconst 0 d_X6_readSaw_27 (by decide) ?_
      exact g_zret rfl (by decide) d_X6_readSaw_28 ⟨by simp only [f_X6_readSaw, m_X6_readSaw, j_X6_readSaw, if_pos h1, if_neg (nb h2), opv_eq, if_true, if_false, Bool.false_eq_true, reduceCtorEq, b2i_t, b2i_f], by simp only [f_X6_readSaw, m_X6_readSaw, j_X6_readSaw, if_pos h1, if_neg (nb h2), opv_eq, if_true, if_false, Bool.false_eq_true, reduceCtorEq, b2i_t, b2i_f]⟩ (Nat.le_refl _) (Nat.le_refl _)
noncomputable def f_X6_readField (I : Nat → Nat → Int32) (J : Nat → Nat → Int64) (w : Bool)  : Bool := opv (if (f_X6_wantsNewName I J (I (dr w) 6)) = true then true else false)
noncomputable def m_X6_readField (I : Nat → Nat → Int32) (J : Nat → Nat → Int64) (w : Bool)  : Nat → Nat → Int32 := opv (if (f_X6_wantsNewName I J (I (dr w) 6)) = true then (st2 (m_X6_wantsNewName I J (I (dr w) 6)) (dr w) 6 (((m_X6_wantsNewName I J (I (dr w) 6)) (dr w) 6) + 1)) else (m_X6_wantsNewName I J (I (dr w) 6)))
noncomputable def j_X6_readField (I : Nat → Nat → Int32) (J : Nat → Nat → Int64) (w : Bool)  : Nat → Nat → Int64 := opv (j_X6_wantsNewName I J (I (dr w) 6))
noncomputable def ok_X6_readField (I : Nat → Nat → Int32) (J : Nat → Nat → Int64) (w : Bool)  : Prop := opv (ok_X6_wantsNewName I J (I (dr w) 6))
set_option maxHeartbeats 800000 in
set_option maxRecDepth 4000 in
theorem c_X6_readField {k : KT} {ex : Bool} (I : Nat → Nat → Int32) (J : Nat → Nat → Int64) (w : Bool)   (hok : ok_X6_readField I J w) : Cx k mX6_readField 8 [.ref (ka k 2)] (81, ex, I, J, Pw w) (some (.int (b2i (f_X6_readField I J w)))) (81, ex, m_X6_readField I J w, j_X6_readField I J w, Pw w) := by
  refine Ct.of rfl [some (.ref (ka k 2))] rfl rfl (Nat.le_of_ble_eq_true rfl) ?_
  rw [ok_X6_readField, opv_eq] at hok
  refine g_aload_n0 rfl d_X6_readField_0 ?_
  refine g_aload_n0 rfl d_X6_readField_1 ?_
  refine g_getP (b := dr w) f_X6_12 d_X6_readField_2 rfl (Nat.le_of_ble_eq_true rfl) rfl rfl ?_
  refine g_getI f_X6_126 d_X6_readField_5 (kd_dr w) (kd_sg (kd_dr w) (by decide)) rfl ?_
  have ho1 := hok
  refine g_callV1 (c_X6_wantsNewName I J (I (dr w) 6) ho1) w_X6_wantsNewName l_X6_172 d_X6_readField_8 rfl (Nat.le_of_ble_eq_true rfl) rfl rfl (Nat.le_of_ble_eq_true rfl) ⟨Nat.le_of_ble_eq_true rfl, Nat.le_of_ble_eq_true rfl⟩ ⟨Nat.zero_le _, Nat.zero_le _⟩ ⟨rfl, rfl⟩ ?_
  refine g_ifnz 16 d_X6_readField_11 (by decide) (fun h1 => ?_) (fun h1 => ?_)
  · skip
    refine g_aload_n0 rfl d_X6_readField_16 ?_
    refine g_getP (b := dr w) f_X6_12 d_X6_readField_17 rfl (Nat.le_of_ble_eq_true rfl) rfl rfl ?_
    refine g_dup rfl d_X6_readField_20 ?_
    refine g_getI f_X6_126 d_X6_readField_21 (kd_dr w) (kd_sg (kd_dr w) (by decide)) rfl ?_
    refine g_iconst 1 d_X6_readField_24 (by decide) ?_
    refine g_iadd d_X6_readField_25 ?_
    refine g_putI f_X6_126 d_X6_readField_26 (kd_dr w) (kd_sg (kd_dr w) (by decide)) rfl rfl rfl ?_
    refine g_iconst 1 d_X6_readField_29 (by decide) ?_
    exact g_zret rfl (by decide) d_X6_readField_30 ⟨by simp only [f_X6_readField, m_X6_readField, j_X6_readField, if_pos h1, opv_eq, if_true, if_false, Bool.false_eq_true, reduceCtorEq, b2i_t, b2i_f], by simp only [f_X6_readField, m_X6_readField, j_X6_readField, if_pos h1, opv_eq, if_true, if_false, Bool.false_eq_true, reduceCtorEq, b2i_t, b2i_f]⟩ (Nat.le_refl _) (Nat.le_refl _)
  · skip
    refine g_iconst 0 d_X6_readField_14 (by decide) ?_
    exact g_zret rfl (by decide) d_X6_readField_15 ⟨by simp only [f_X6_readField, m_X6_readField, j_X6_readField, if_neg (nb h1), opv_eq, if_true, if_false, Bool.false_eq_true, reduceCtorEq, b2i_t, b2i_f], by simp only [f_X6_readField, m_X6_readField, j_X6_readField, if_neg (nb h1), opv_eq, if_true, if_false, Bool.false_eq_true, reduceCtorEq, b2i_t, b2i_f]⟩ (Nat.le_refl _) (Nat.le_refl _)
noncomputable def u0_X6_readDitch (I : Nat → Nat → Int32) (J : Nat → Nat → Int64) : Nat → Nat → Int32 := opv (m_X6_fails (m_X6_wantsField (m_X6_wantsField I J) (j_X6_wantsField I J)) 3)
noncomputable def u1_X6_readDitch (I : Nat → Nat → Int32) (J : Nat → Nat → Int64) (w : Bool) : Nat → Nat → Int32 := opv (m_X7_put (m_X6_wantsField (m_X6_wantsField I J) (j_X6_wantsField I J)) (rt (dr w) 10) 0 ((m_X6_wantsField I J) 2 11))
noncomputable def u2_X6_readDitch (I : Nat → Nat → Int32) (J : Nat → Nat → Int64) (w : Bool) : Nat → Nat → Int32 := opv (m_X7_put (u1_X6_readDitch I J w) (rt (dr w) 10) 1 ((u1_X6_readDitch I J w) 2 11))
noncomputable def u3_X6_readDitch (I : Nat → Nat → Int32) (J : Nat → Nat → Int64) (w : Bool) : Nat → Nat → Int32 := opv (m_X6_wants (u2_X6_readDitch I J w) (j_X6_wantsField (m_X6_wantsField I J) (j_X6_wantsField I J)) 21)
noncomputable def u4_X6_readDitch (I : Nat → Nat → Int32) (J : Nat → Nat → Int64) (w : Bool) : Nat → Nat → Int64 := opv (j_X6_wants (u2_X6_readDitch I J w) (j_X6_wantsField (m_X6_wantsField I J) (j_X6_wantsField I J)) 21)
noncomputable def u5_X6_readDitch (I : Nat → Nat → Int32) (J : Nat → Nat → Int64) (w : Bool) : Nat → Nat → Int32 := opv (m_X6_wantsCell (u3_X6_readDitch I J w) (u4_X6_readDitch I J w) (rt (dr w) 10) 2 1 99)
noncomputable def u6_X6_readDitch (I : Nat → Nat → Int32) (J : Nat → Nat → Int64) (w : Bool) : Nat → Nat → Int64 := opv (j_X6_wantsCell (u3_X6_readDitch I J w) (u4_X6_readDitch I J w) (rt (dr w) 10) 2 1 99)
noncomputable def u7_X6_readDitch (I : Nat → Nat → Int32) (J : Nat → Nat → Int64) (w : Bool) : Bool := opv (if (f_X6_wants (u2_X6_readDitch I J w) (j_X6_wantsField (m_X6_wantsField I J) (j_X6_wantsField I J)) 21) = true then (if (f_X6_wantsCell (u3_X6_readDitch I J w) (u4_X6_readDitch I J w) (rt (dr w) 10) 2 1 99) = true then (if (f_X6_closes (u5_X6_readDitch I J w) (rt (dr w) 10)) = true then true else false) else false) else false)
noncomputable def u8_X6_readDitch (I : Nat → Nat → Int32) (J : Nat → Nat → Int64) (w : Bool) : Nat → Nat → Int32 := opv (if (f_X6_wants (u2_X6_readDitch I J w) (j_X6_wantsField (m_X6_wantsField I J) (j_X6_wantsField I J)) 21) = true then (if (f_X6_wantsCell (u3_X6_readDitch I J w) (u4_X6_readDitch I J w) (rt (dr w) 10) 2 1 99) = true then (m_X6_closes (u5_X6_readDitch I J w) (rt (dr w) 10)) else (u5_X6_readDitch I J w)) else (u3_X6_readDitch I J w))
noncomputable def u9_X6_readDitch (I : Nat → Nat → Int32) (J : Nat → Nat → Int64) (w : Bool) : Nat → Nat → Int64 := opv (if (f_X6_wants (u2_X6_readDitch I J w) (j_X6_wantsField (m_X6_wantsField I J) (j_X6_wantsField I J)) 21) = true then (u6_X6_readDitch I J w) else (u4_X6_readDitch I J w))
noncomputable def u10_X6_readDitch (I : Nat → Nat → Int32) (J : Nat → Nat → Int64) : Nat → Nat → Int32 := opv (m_X6_fails (m_X6_wantsField (m_X6_wantsField I J) (j_X6_wantsField I J)) 3)
noncomputable def f_X6_readDitch (I : Nat → Nat → Int32) (J : Nat → Nat → Int64) (w : Bool)  : Bool := opv (if (f_X6_wantsField I J) = true then (if (f_X6_wantsField (m_X6_wantsField I J) (j_X6_wantsField I J)) = true then (if ((m_X6_wantsField (m_X6_wantsField I J) (j_X6_wantsField I J)) 2 11) = ((m_X6_wantsField I J) 2 11) then f_X6_fails (m_X6_wantsField (m_X6_wantsField I J) (j_X6_wantsField I J)) 3 else (if (f_X8_hasDitch (m_X6_wantsField (m_X6_wantsField I J) (j_X6_wantsField I J)) (dr w) ((m_X6_wantsField I J) 2 11) ((m_X6_wantsField (m_X6_wantsField I J) (j_X6_wantsField I J)) 2 11)) = true then f_X6_fails (m_X6_wantsField (m_X6_wantsField I J) (j_X6_wantsField I J)) 3 else (u7_X6_readDitch I J w))) else false) else false)
noncomputable def m_X6_readDitch (I : Nat → Nat → Int32) (J : Nat → Nat → Int64) (w : Bool)  : Nat → Nat → Int32 := opv (if (f_X6_wantsField I J) = true then (if (f_X6_wantsField (m_X6_wantsField I J) (j_X6_wantsField I J)) = true then (if ((m_X6_wantsField (m_X6_wantsField I J) (j_X6_wantsField I J)) 2 11) = ((m_X6_wantsField I J) 2 11) then (u0_X6_readDitch I J) else (if (f_X8_hasDitch (m_X6_wantsField (m_X6_wantsField I J) (j_X6_wantsField I J)) (dr w) ((m_X6_wantsField I J) 2 11) ((m_X6_wantsField (m_X6_wantsField I J) (j_X6_wantsField I J)) 2 11)) = true then (u10_X6_readDitch I J) else (u8_X6_readDitch I J w))) else (m_X6_wantsField (m_X6_wantsField I J) (j_X6_wantsField I J))) else (m_X6_wantsField I J))
noncomputable def j_X6_readDitch (I : Nat → Nat → Int32) (J : Nat → Nat → Int64) (w : Bool)  : Nat → Nat → Int64 := opv (if (f_X6_wantsField I J) = true then (if (f_X6_wantsField (m_X6_wantsField I J) (j_X6_wantsField I J)) = true then (if ((m_X6_wantsField (m_X6_wantsField I J) (j_X6_wantsField I J)) 2 11) = ((m_X6_wantsField I J) 2 11) then (j_X6_wantsField (m_X6_wantsField I J) (j_X6_wantsField I J)) else (if (f_X8_hasDitch (m_X6_wantsField (m_X6_wantsField I J) (j_X6_wantsField I J)) (dr w) ((m_X6_wantsField I J) 2 11) ((m_X6_wantsField (m_X6_wantsField I J) (j_X6_wantsField I J)) 2 11)) = true then (j_X6_wantsField (m_X6_wantsField I J) (j_X6_wantsField I J)) else (u9_X6_readDitch I J w))) else (j_X6_wantsField (m_X6_wantsField I J) (j_X6_wantsField I J))) else (j_X6_wantsField I J))
noncomputable def ok_X6_readDitch (I : Nat → Nat → Int32) (J : Nat → Nat → Int64) (w : Bool)  : Prop := opv (ok_X6_wantsField I J ∧ (if (f_X6_wantsField I J) = true then (ok_X6_wantsField (m_X6_wantsField I J) (j_X6_wantsField I J) ∧ (if (f_X6_wantsField (m_X6_wantsField I J) (j_X6_wantsField I J)) = true then (if ((m_X6_wantsField (m_X6_wantsField I J) (j_X6_wantsField I J)) 2 11) = ((m_X6_wantsField I J) 2 11) then True else (if (f_X8_hasDitch (m_X6_wantsField (m_X6_wantsField I J) (j_X6_wantsField I J)) (dr w) ((m_X6_wantsField I J) 2 11) ((m_X6_wantsField (m_X6_wantsField I J) (j_X6_wantsField I J)) 2 11)) = true then True else (ok_X6_wants (u2_X6_readDitch I J w) (j_X6_wantsField (m_X6_wantsField I J) (j_X6_wantsField I J)) 21 ∧ (if (f_X6_wants (u2_X6_readDitch I J w) (j_X6_wantsField (m_X6_wantsField I J) (j_X6_wantsField I J)) 21) = true then ok_X6_wantsCell (u3_X6_readDitch I J w) (u4_X6_readDitch I J w) (rt (dr w) 10) 2 1 99 else True)))) else True)) else True))
set_option maxHeartbeats 800000 in
set_option maxRecDepth 4000 in
theorem c_X6_readDitch {k : KT} {ex : Bool} (I : Nat → Nat → Int32) (J : Nat → Nat → Int64) (w : Bool)   (hok : ok_X6_readDitch I J w) : Cx k mX6_readDitch 8 [.ref (ka k 2)] (81, ex, I, J, Pw w) (some (.int (b2i (f_X6_readDitch I J w)))) (81, ex, m_X6_readDitch I J w, j_X6_readDitch I J w, Pw w) := by
  refine Ct.of rfl [some (.ref (ka k 2)), none] rfl rfl (Nat.le_of_ble_eq_true rfl) ?_
  rw [ok_X6_readDitch, opv_eq] at hok
  refine g_aload_n0 rfl d_X6_readDitch_0 ?_
  obtain ⟨ho1, hok⟩ := hok
  refine g_callV1 (c_X6_wantsField I J  ho1) w_X6_wantsField l_X6_201 d_X6_readDitch_1 rfl (Nat.le_of_ble_eq_true rfl) rfl rfl (Nat.le_of_ble_eq_true rfl) ⟨Nat.le_of_ble_eq_true rfl, Nat.le_of_ble_eq_true rfl⟩ ⟨Nat.zero_le _, Nat.zero_le _⟩ ⟨rfl, rfl⟩ ?_
  refine g_ifnz 9 d_X6_readDitch_4 (by decide) (fun h1 => ?_) (fun h1 => ?_)
  · skip
    rw [if_pos h1] at hok
    refine g_aload_n0 rfl d_X6_readDitch_9 ?_
    refine g_getI f_X6_204 d_X6_readDitch_10 rfl (Nat.le_of_ble_eq_true rfl) rfl ?_
    refine g_isn1 rfl d_X6_readDitch_13 ?_
    refine g_aload_n0 rfl d_X6_readDitch_14 ?_
    obtain ⟨ho2, hok⟩ := hok
    refine g_callV1 (c_X6_wantsField (m_X6_wantsField I J) (j_X6_wantsField I J)  ho2) w_X6_wantsField l_X6_201 d_X6_readDitch_15 rfl (Nat.le_of_ble_eq_true rfl) rfl rfl (Nat.le_of_ble_eq_true rfl) ⟨Nat.le_of_ble_eq_true rfl, Nat.le_of_ble_eq_true rfl⟩ ⟨Nat.zero_le _, Nat.zero_le _⟩ ⟨rfl, rfl⟩ ?_
    refine g_ifnz 23 d_X6_readDitch_18 (by decide) (fun h2 => ?_) (fun h2 => ?_)
    · skip
      rw [if_pos h2] at hok
      refine g_aload_n0 rfl d_X6_readDitch_23 ?_
      refine g_getI f_X6_204 d_X6_readDitch_24 rfl (Nat.le_of_ble_eq_true rfl) rfl ?_
      refine g_iload_n1 rfl d_X6_readDitch_27 ?_
      refine g_icmp_eq 46 d_X6_readDitch_28 (by decide) (fun h3 => ?_) (fun h3 => ?_)
      · skip
        refine g_aload_n0 rfl d_X6_readDitch_46 ?_
        refine g_iconst 3 d_X6_readDitch_47 (by decide) ?_
        refine g_callV1 (c_X6_fails (m_X6_wantsField (m_X6_wantsField I J) (j_X6_wantsField I J)) 3) w_X6_fails l_X6_72 d_X6_readDitch_48 rfl (Nat.le_of_ble_eq_true rfl) rfl rfl (Nat.le_of_ble_eq_true rfl) ⟨Nat.le_of_ble_eq_true rfl, Nat.le_of_ble_eq_true rfl⟩ ⟨Nat.zero_le _, Nat.zero_le _⟩ ⟨rfl, rfl⟩ ?_
        refine G.toI (I' := (u0_X6_readDitch I J)) (by rw [u0_X6_readDitch, opv_eq]) ?_
        exact g_zret rfl (nar_b _) d_X6_readDitch_51 ⟨by simp only [f_X6_readDitch, m_X6_readDitch, j_X6_readDitch, if_pos h1, if_pos h2, if_pos h3, opv_eq, if_true, if_false, Bool.false_eq_true, reduceCtorEq, b2i_t, b2i_f], by simp only [f_X6_readDitch, m_X6_readDitch, j_X6_readDitch, if_pos h1, if_pos h2, if_pos h3, opv_eq, if_true, if_false, Bool.false_eq_true, reduceCtorEq, b2i_t, b2i_f]⟩ (Nat.le_refl _) (Nat.le_refl _)
      · skip
        rw [if_neg h3] at hok
        refine g_aload_n0 rfl d_X6_readDitch_31 ?_
        refine g_getP (b := dr w) f_X6_12 d_X6_readDitch_32 rfl (Nat.le_of_ble_eq_true rfl) rfl rfl ?_
        refine g_iload_n1 rfl d_X6_readDitch_35 ?_
        refine g_aload_n0 rfl d_X6_readDitch_36 ?_
        refine g_getI f_X6_204 d_X6_readDitch_37 rfl (Nat.le_of_ble_eq_true rfl) rfl ?_
        refine g_callV1 (c_X8_hasDitch (m_X6_wantsField (m_X6_wantsField I J) (j_X6_wantsField I J)) (dr w) (kd_dr w) ((m_X6_wantsField I J) 2 11) ((m_X6_wantsField (m_X6_wantsField I J) (j_X6_wantsField I J)) 2 11)) w_X8_hasDitch l_X6_207 d_X6_readDitch_40 (kd_dr w) (kd_sg (kd_dr w) (by decide)) rfl rfl (Nat.le_of_ble_eq_true rfl) ⟨Nat.le_of_ble_eq_true rfl, Nat.le_of_ble_eq_true rfl⟩ ⟨Nat.zero_le _, Nat.zero_le _⟩ ⟨rfl, rfl⟩ ?_
        refine g_ifz 52 d_X6_readDitch_43 (by decide) (fun h4 => ?_) (fun h4 => ?_)
        · skip
          rw [if_neg (nb h4)] at hok
          refine g_aload_n0 rfl d_X6_readDitch_52 ?_
          refine g_getP (b := dr w) f_X6_12 d_X6_readDitch_53 rfl (Nat.le_of_ble_eq_true rfl) rfl rfl ?_
          refine g_getP (b := rt (dr w) 10) f_X6_132 d_X6_readDitch_56 (kd_dr w) (kd_sg (kd_dr w) (by decide)) rfl (pw_rt (kd_dr w) (by decide) (by decide)) ?_
          refine g_iconst 0 d_X6_readDitch_59 (by decide) ?_
          refine g_iload_n1 rfl d_X6_readDitch_60 ?_
          refine g_callV0 (c_X7_put (m_X6_wantsField (m_X6_wantsField I J) (j_X6_wantsField I J)) (rt (dr w) 10) (kt7 (kd_dr w)).2.2.2 0 ((m_X6_wantsField I J) 2 11) (okt_X7_put (m_X6_wantsField (m_X6_wantsField I J) (j_X6_wantsField I J)) (rt (dr w) 10) (kt7 (kd_dr w)).2.2.2 0 ((m_X6_wantsField I J) 2 11))) w_X7_put l_X6_210 d_X6_readDitch_61 (kt7 (kd_dr w)).2.2.2 (kd_sg ((kt7 (kd_dr w)).2.2.2) (by decide)) rfl rfl (Nat.le_of_ble_eq_true rfl) ⟨Nat.le_of_ble_eq_true rfl, Nat.le_of_ble_eq_true rfl⟩ ⟨Nat.zero_le _, Nat.zero_le _⟩ ⟨rfl, rfl⟩ ?_
          refine G.toI (I' := (u1_X6_readDitch I J w)) (by rw [u1_X6_readDitch, opv_eq]) ?_
          refine g_aload_n0 rfl d_X6_readDitch_64 ?_
          refine g_getP (b := dr w) f_X6_12 d_X6_readDitch_65 rfl (Nat.le_of_ble_eq_true rfl) rfl rfl ?_
          refine g_getP (b := rt (dr w) 10) f_X6_132 d_X6_readDitch_68 (kd_dr w) (kd_sg (kd_dr w) (by decide)) rfl (pw_rt (kd_dr w) (by decide) (by decide)) ?_
          refine g_iconst 1 d_X6_readDitch_71 (by decide) ?_
          refine g_aload_n0 rfl d_X6_readDitch_72 ?_
          refine g_getI f_X6_204 d_X6_readDitch_73 rfl (Nat.le_of_ble_eq_true rfl) rfl ?_
          refine g_callV0 (c_X7_put (u1_X6_readDitch I J w) (rt (dr w) 10) (kt7 (kd_dr w)).2.2.2 1 ((u1_X6_readDitch I J w) 2 11) (okt_X7_put (u1_X6_readDitch I J w) (rt (dr w) 10) (kt7 (kd_dr w)).2.2.2 1 ((u1_X6_readDitch I J w) 2 11))) w_X7_put l_X6_210 d_X6_readDitch_76 (kt7 (kd_dr w)).2.2.2 (kd_sg ((kt7 (kd_dr w)).2.2.2) (by decide)) rfl rfl (Nat.le_of_ble_eq_true rfl) ⟨Nat.le_of_ble_eq_true rfl, Nat.le_of_ble_eq_true rfl⟩ ⟨Nat.zero_le _, Nat.zero_le _⟩ ⟨rfl, rfl⟩ ?_
          refine G.toI (I' := (u2_X6_readDitch I J w)) (by rw [u2_X6_readDitch, opv_eq]) ?_
          refine g_aload_n0 rfl d_X6_readDitch_79 ?_
          refine g_ldcS (n := 21) (tx := "carries") (by decide) d_X6_readDitch_80 ?_
          obtain ⟨ho3, hok⟩ := hok
          refine g_callV1 (c_X6_wants (u2_X6_readDitch I J w) (j_X6_wantsField (m_X6_wantsField I J) (j_X6_wantsField I J)) 21 (by decide) ho3) w_X6_wants l_X6_140 d_X6_readDitch_82 rfl (Nat.le_of_ble_eq_true rfl) rfl rfl (Nat.le_of_ble_eq_true rfl) ⟨Nat.le_of_ble_eq_true rfl, Nat.le_of_ble_eq_true rfl⟩ ⟨Nat.zero_le _, Nat.zero_le _⟩ ⟨rfl, rfl⟩ ?_
          refine G.toI (I' := (u3_X6_readDitch I J w)) (by rw [u3_X6_readDitch, opv_eq]) ?_
          refine G.toJ (J' := (u4_X6_readDitch I J w)) (by rw [u4_X6_readDitch, opv_eq]) ?_
          refine g_cut (pc' := 125) (vs' := [some (.ref (ka k 2)), some (.int ((m_X6_wantsField I J) 2 11))]) (st' := [.int (b2i (u7_X6_readDitch I J w))]) (M' := (81, ex, (u8_X6_readDitch I J w), (u9_X6_readDitch I J w), Pw w)) (fun hj => ?_) ?_
          · skip
            refine g_ifz 124 d_X6_readDitch_85 (by decide) (fun h5 => ?_) (fun h5 => ?_)
            · skip
              refine g_iconst 0 d_X6_readDitch_124 (by decide) ?_
              (try simp only [if_neg (nb h5), opv_eq, if_true, if_false, Bool.false_eq_true, reduceCtorEq, b2i_t, b2i_f, u7_X6_readDitch, u8_X6_readDitch, u9_X6_readDitch] at hj); exact hj
            · skip
              rw [if_pos h5] at hok
              refine g_aload_n0 rfl d_X6_readDitch_88 ?_
              refine g_aload_n0 rfl d_X6_readDitch_89 ?_
              refine g_getP (b := dr w) f_X6_12 d_X6_readDitch_90 rfl (Nat.le_of_ble_eq_true rfl) rfl rfl ?_
              refine g_getP (b := rt (dr w) 10) f_X6_132 d_X6_readDitch_93 (kd_dr w) (kd_sg (kd_dr w) (by decide)) rfl (pw_rt (kd_dr w) (by decide) (by decide)) ?_
              refine g_iconst 2 d_X6_readDitch_96 (by decide) ?_
              refine g_iconst 1 d_X6_readDitch_97 (by decide) ?_
              refine g_bipush 99 d_X6_readDitch_98 (by decide) ?_
              have ho4 := hok
              refine g_callV1 (c_X6_wantsCell (u3_X6_readDitch I J w) (u4_X6_readDitch I J w) (rt (dr w) 10) (kt7 (kd_dr w)).2.2.2 2 1 99 ho4) w_X6_wantsCell l_X6_179 d_X6_readDitch_100 rfl (Nat.le_of_ble_eq_true rfl) rfl rfl (Nat.le_of_ble_eq_true rfl) ⟨Nat.le_of_ble_eq_true rfl, Nat.le_of_ble_eq_true rfl⟩ ⟨Nat.zero_le _, Nat.zero_le _⟩ ⟨rfl, rfl⟩ ?_
              refine G.toI (I' := (u5_X6_readDitch I J w)) (by rw [u5_X6_readDitch, opv_eq]) ?_
              refine G.toJ (J' := (u6_X6_readDitch I J w)) (by rw [u6_X6_readDitch, opv_eq]) ?_
              refine g_ifz 124 d_X6_readDitch_103 (by decide) (fun h6 => ?_) (fun h6 => ?_)
              · skip
                refine g_iconst 0 d_X6_readDitch_124 (by decide) ?_
                (try simp only [if_pos h5, if_neg (nb h6), opv_eq, if_true, if_false, Bool.false_eq_true, reduceCtorEq, b2i_t, b2i_f, u7_X6_readDitch, u8_X6_readDitch, u9_X6_readDitch] at hj); exact hj
              · skip
                refine g_aload_n0 rfl d_X6_readDitch_106 ?_
                refine g_aload_n0 rfl d_X6_readDitch_107 ?_
                refine g_getP (b := dr w) f_X6_12 d_X6_readDitch_108 rfl (Nat.le_of_ble_eq_true rfl) rfl rfl ?_
                refine g_getP (b := rt (dr w) 10) f_X6_132 d_X6_readDitch_111 (kd_dr w) (kd_sg (kd_dr w) (by decide)) rfl (pw_rt (kd_dr w) (by decide) (by decide)) ?_
                refine g_callV1 (c_X6_closes (u5_X6_readDitch I J w) (rt (dr w) 10) (kt7 (kd_dr w)).2.2.2) w_X6_closes l_X6_185 d_X6_readDitch_114 rfl (Nat.le_of_ble_eq_true rfl) rfl rfl (Nat.le_of_ble_eq_true rfl) ⟨Nat.le_of_ble_eq_true rfl, Nat.le_of_ble_eq_true rfl⟩ ⟨Nat.zero_le _, Nat.zero_le _⟩ ⟨rfl, rfl⟩ ?_
                refine g_ifz 124 d_X6_readDitch_117 (by decide) (fun h7 => ?_) (fun h7 => ?_)
                · skip
                  refine g_iconst 0 d_X6_readDitch_124 (by decide) ?_
                  (try simp only [if_pos h5, if_pos h6, if_neg (nb h7), opv_eq, if_true, if_false, Bool.false_eq_true, reduceCtorEq, b2i_t, b2i_f, u7_X6_readDitch, u8_X6_readDitch, u9_X6_readDitch] at hj); exact hj
                · skip
                  refine g_iconst 1 d_X6_readDitch_120 (by decide) ?_
                  refine g_goto 125 d_X6_readDitch_121 (by decide) ?_
                  (try simp only [if_pos h5, if_pos h6, if_pos h7, opv_eq, if_true, if_false, Bool.false_eq_true, reduceCtorEq, b2i_t, b2i_f, u7_X6_readDitch, u8_X6_readDitch, u9_X6_readDitch] at hj); exact hj
          · skip
            exact g_zret rfl (nar_b _) d_X6_readDitch_125 ⟨by simp only [f_X6_readDitch, m_X6_readDitch, j_X6_readDitch, if_pos h1, if_pos h2, if_neg h3, if_neg (nb h4), opv_eq, if_true, if_false, Bool.false_eq_true, reduceCtorEq, b2i_t, b2i_f], by simp only [f_X6_readDitch, m_X6_readDitch, j_X6_readDitch, if_pos h1, if_pos h2, if_neg h3, if_neg (nb h4), opv_eq, if_true, if_false, Bool.false_eq_true, reduceCtorEq, b2i_t, b2i_f]⟩ (Nat.le_refl _) (Nat.le_refl _)
        · skip
          refine g_aload_n0 rfl d_X6_readDitch_46 ?_
          refine g_iconst 3 d_X6_readDitch_47 (by decide) ?_
          refine g_callV1 (c_X6_fails (m_X6_wantsField (m_X6_wantsField I J) (j_X6_wantsField I J)) 3) w_X6_fails l_X6_72 d_X6_readDitch_48 rfl (Nat.le_of_ble_eq_true rfl) rfl rfl (Nat.le_of_ble_eq_true rfl) ⟨Nat.le_of_ble_eq_true rfl, Nat.le_of_ble_eq_true rfl⟩ ⟨Nat.zero_le _, Nat.zero_le _⟩ ⟨rfl, rfl⟩ ?_
          refine G.toI (I' := (u10_X6_readDitch I J)) (by rw [u10_X6_readDitch, opv_eq]) ?_
          exact g_zret rfl (nar_b _) d_X6_readDitch_51 ⟨by simp only [f_X6_readDitch, m_X6_readDitch, j_X6_readDitch, if_pos h1, if_pos h2, if_neg h3, if_pos h4, opv_eq, if_true, if_false, Bool.false_eq_true, reduceCtorEq, b2i_t, b2i_f], by simp only [f_X6_readDitch, m_X6_readDitch, j_X6_readDitch, if_pos h1, if_pos h2, if_neg h3, if_pos h4, opv_eq, if_true, if_false, Bool.false_eq_true, reduceCtorEq, b2i_t, b2i_f]⟩ (Nat.le_refl _) (Nat.le_refl _)
    · skip
      refine g_iconst 0 d_X6_readDitch_21 (by decide) ?_
      exact g_zret rfl (by decide) d_X6_readDitch_22 ⟨by simp only [f_X6_readDitch, m_X6_readDitch, j_X6_readDitch, if_pos h1, if_neg (nb h2), opv_eq, if_true, if_false, Bool.false_eq_true, reduceCtorEq, b2i_t, b2i_f], by simp only [f_X6_readDitch, m_X6_readDitch, j_X6_readDitch, if_pos h1, if_neg (nb h2), opv_eq, if_true, if_false, Bool.false_eq_true, reduceCtorEq, b2i_t, b2i_f]⟩ (Nat.le_refl _) (Nat.le_refl _)
  · skip
    refine g_iconst 0 d_X6_readDitch_7 (by decide) ?_
    exact g_zret rfl (by decide) d_X6_readDitch_8 ⟨by simp only [f_X6_readDitch, m_X6_readDitch, j_X6_readDitch, if_neg (nb h1), opv_eq, if_true, if_false, Bool.false_eq_true, reduceCtorEq, b2i_t, b2i_f], by simp only [f_X6_readDitch, m_X6_readDitch, j_X6_readDitch, if_neg (nb h1), opv_eq, if_true, if_false, Bool.false_eq_true, reduceCtorEq, b2i_t, b2i_f]⟩ (Nat.le_refl _) (Nat.le_refl _)
noncomputable def u0_X6_readLine (I : Nat → Nat → Int32) (J : Nat → Nat → Int64) (w : Bool) : Bool := opv (if (f_X7_isFull (m_X6_nextToken I J) (rt (dr w) 10)) = true then f_X6_fails (m_X6_nextToken I J) 5 else f_X6_readDitch (m_X6_nextToken I J) (j_X6_nextToken I J) w)
noncomputable def u1_X6_readLine (I : Nat → Nat → Int32) (J : Nat → Nat → Int64) (w : Bool) : Nat → Nat → Int32 := opv (if (f_X7_isFull (m_X6_nextToken I J) (rt (dr w) 10)) = true then (m_X6_fails (m_X6_nextToken I J) 5) else (m_X6_readDitch (m_X6_nextToken I J) (j_X6_nextToken I J) w))
noncomputable def u2_X6_readLine (I : Nat → Nat → Int32) (J : Nat → Nat → Int64) (w : Bool) : Nat → Nat → Int64 := opv (if (f_X7_isFull (m_X6_nextToken I J) (rt (dr w) 10)) = true then (j_X6_nextToken I J) else (j_X6_readDitch (m_X6_nextToken I J) (j_X6_nextToken I J) w))
noncomputable def u3_X6_readLine (I : Nat → Nat → Int32) (J : Nat → Nat → Int64) (w : Bool) : Bool := opv (if ((m_X6_nextToken I J) (dr w) 6) < 6 then f_X6_readField (m_X6_nextToken I J) (j_X6_nextToken I J) w else f_X6_fails (m_X6_nextToken I J) 5)
noncomputable def u4_X6_readLine (I : Nat → Nat → Int32) (J : Nat → Nat → Int64) (w : Bool) : Nat → Nat → Int32 := opv (if ((m_X6_nextToken I J) (dr w) 6) < 6 then (m_X6_readField (m_X6_nextToken I J) (j_X6_nextToken I J) w) else (m_X6_fails (m_X6_nextToken I J) 5))
noncomputable def u5_X6_readLine (I : Nat → Nat → Int32) (J : Nat → Nat → Int64) (w : Bool) : Nat → Nat → Int64 := opv (if ((m_X6_nextToken I J) (dr w) 6) < 6 then (j_X6_readField (m_X6_nextToken I J) (j_X6_nextToken I J) w) else (j_X6_nextToken I J))
noncomputable def u6_X6_readLine (I : Nat → Nat → Int32) (J : Nat → Nat → Int64) (w : Bool) : Bool := opv (if (f_X7_isFull (m_X6_nextToken I J) (rt (dr w) 9)) = true then f_X6_fails (m_X6_nextToken I J) 5 else f_X6_readSaw (m_X6_nextToken I J) (j_X6_nextToken I J) w)
noncomputable def u7_X6_readLine (I : Nat → Nat → Int32) (J : Nat → Nat → Int64) (w : Bool) : Nat → Nat → Int32 := opv (if (f_X7_isFull (m_X6_nextToken I J) (rt (dr w) 9)) = true then (m_X6_fails (m_X6_nextToken I J) 5) else (m_X6_readSaw (m_X6_nextToken I J) (j_X6_nextToken I J) w))
noncomputable def u8_X6_readLine (I : Nat → Nat → Int32) (J : Nat → Nat → Int64) (w : Bool) : Nat → Nat → Int64 := opv (if (f_X7_isFull (m_X6_nextToken I J) (rt (dr w) 9)) = true then (j_X6_nextToken I J) else (j_X6_readSaw (m_X6_nextToken I J) (j_X6_nextToken I J) w))
noncomputable def u9_X6_readLine (I : Nat → Nat → Int32) (J : Nat → Nat → Int64) (w : Bool) : Bool := opv (if (f_X7_isFull (m_X6_nextToken I J) (rt (dr w) 8)) = true then f_X6_fails (m_X6_nextToken I J) 5 else f_X6_readPlan (m_X6_nextToken I J) (j_X6_nextToken I J) w)
noncomputable def u10_X6_readLine (I : Nat → Nat → Int32) (J : Nat → Nat → Int64) (w : Bool) : Nat → Nat → Int32 := opv (if (f_X7_isFull (m_X6_nextToken I J) (rt (dr w) 8)) = true then (m_X6_fails (m_X6_nextToken I J) 5) else (m_X6_readPlan (m_X6_nextToken I J) (j_X6_nextToken I J) w))
noncomputable def u11_X6_readLine (I : Nat → Nat → Int32) (J : Nat → Nat → Int64) (w : Bool) : Nat → Nat → Int64 := opv (if (f_X7_isFull (m_X6_nextToken I J) (rt (dr w) 8)) = true then (j_X6_nextToken I J) else (j_X6_readPlan (m_X6_nextToken I J) (j_X6_nextToken I J) w))
noncomputable def u12_X6_readLine (I : Nat → Nat → Int32) (J : Nat → Nat → Int64) (w : Bool) : Bool := opv (if (f_X7_isFull (m_X6_nextToken I J) (rt (dr w) 7)) = true then f_X6_fails (m_X6_nextToken I J) 5 else f_X6_readVent (m_X6_nextToken I J) (j_X6_nextToken I J) w)
noncomputable def u13_X6_readLine (I : Nat → Nat → Int32) (J : Nat → Nat → Int64) (w : Bool) : Nat → Nat → Int32 := opv (if (f_X7_isFull (m_X6_nextToken I J) (rt (dr w) 7)) = true then (m_X6_fails (m_X6_nextToken I J) 5) else (m_X6_readVent (m_X6_nextToken I J) (j_X6_nextToken I J) w))
noncomputable def u14_X6_readLine (I : Nat → Nat → Int32) (J : Nat → Nat → Int64) (w : Bool) : Nat → Nat → Int64 := opv (if (f_X7_isFull (m_X6_nextToken I J) (rt (dr w) 7)) = true then (j_X6_nextToken I J) else (j_X6_readVent (m_X6_nextToken I J) (j_X6_nextToken I J) w))
noncomputable def u15_X6_readLine (I : Nat → Nat → Int32) (J : Nat → Nat → Int64) (w : Bool) : Bool := opv (if ((m_X6_nextToken I J) 2 10) = 0 then f_X6_readWeather (m_X6_nextToken I J) (j_X6_nextToken I J) w else f_X6_fails (m_X6_nextToken I J) 3)
noncomputable def u16_X6_readLine (I : Nat → Nat → Int32) (J : Nat → Nat → Int64) (w : Bool) : Nat → Nat → Int32 := opv (if ((m_X6_nextToken I J) 2 10) = 0 then (m_X6_readWeather (m_X6_nextToken I J) (j_X6_nextToken I J) w) else (m_X6_fails (m_X6_nextToken I J) 3))
noncomputable def u17_X6_readLine (I : Nat → Nat → Int32) (J : Nat → Nat → Int64) (w : Bool) : Nat → Nat → Int64 := opv (if ((m_X6_nextToken I J) 2 10) = 0 then (j_X6_readWeather (m_X6_nextToken I J) (j_X6_nextToken I J) w) else (j_X6_nextToken I J))
noncomputable def u18_X6_readLine (I : Nat → Nat → Int32) (J : Nat → Nat → Int64) (w : Bool) (x1 : Bool) : Bool := opv (if x1 = true then f_X6_readChalet (m_X6_nextToken I J) (j_X6_nextToken I J) w else f_X6_fails (m_X6_nextToken I J) 3)
noncomputable def u19_X6_readLine (I : Nat → Nat → Int32) (J : Nat → Nat → Int64) (w : Bool) (x1 : Bool) : Nat → Nat → Int32 := opv (if x1 = true then (m_X6_readChalet (m_X6_nextToken I J) (j_X6_nextToken I J) w) else (m_X6_fails (m_X6_nextToken I J) 3))
noncomputable def u20_X6_readLine (I : Nat → Nat → Int32) (J : Nat → Nat → Int64) (w : Bool) (x1 : Bool) : Nat → Nat → Int64 := opv (if x1 = true then (j_X6_readChalet (m_X6_nextToken I J) (j_X6_nextToken I J) w) else (j_X6_nextToken I J))
noncomputable def f_X6_readLine (I : Nat → Nat → Int32) (J : Nat → Nat → Int64) (w : Bool) (x1 : Bool) : Bool := opv (if (f_X6_beginsLine (m_X6_nextToken I J) (j_X6_nextToken I J)) = true then (if (f_X6_isWord (m_X6_nextToken I J) (j_X6_nextToken I J) 0) = true then (u18_X6_readLine I J w x1) else (if x1 = true then f_X6_fails (m_X6_nextToken I J) 6 else (if (f_X6_isWord (m_X6_nextToken I J) (j_X6_nextToken I J) 1) = true then (u15_X6_readLine I J w) else (if (f_X6_isWord (m_X6_nextToken I J) (j_X6_nextToken I J) 2) = true then (u12_X6_readLine I J w) else (if (f_X6_isWord (m_X6_nextToken I J) (j_X6_nextToken I J) 3) = true then (u9_X6_readLine I J w) else (if (f_X6_isWord (m_X6_nextToken I J) (j_X6_nextToken I J) 4) = true then (u6_X6_readLine I J w) else (if (f_X6_isWord (m_X6_nextToken I J) (j_X6_nextToken I J) 5) = true then (u3_X6_readLine I J w) else (u0_X6_readLine I J w)))))))) else f_X6_fails (m_X6_nextToken I J) 1)
noncomputable def m_X6_readLine (I : Nat → Nat → Int32) (J : Nat → Nat → Int64) (w : Bool) (x1 : Bool) : Nat → Nat → Int32 := opv (if (f_X6_beginsLine (m_X6_nextToken I J) (j_X6_nextToken I J)) = true then (if (f_X6_isWord (m_X6_nextToken I J) (j_X6_nextToken I J) 0) = true then (u19_X6_readLine I J w x1) else (if x1 = true then (m_X6_fails (m_X6_nextToken I J) 6) else (if (f_X6_isWord (m_X6_nextToken I J) (j_X6_nextToken I J) 1) = true then (u16_X6_readLine I J w) else (if (f_X6_isWord (m_X6_nextToken I J) (j_X6_nextToken I J) 2) = true then (u13_X6_readLine I J w) else (if (f_X6_isWord (m_X6_nextToken I J) (j_X6_nextToken I J) 3) = true then (u10_X6_readLine I J w) else (if (f_X6_isWord (m_X6_nextToken I J) (j_X6_nextToken I J) 4) = true then (u7_X6_readLine I J w) else (if (f_X6_isWord (m_X6_nextToken I J) (j_X6_nextToken I J) 5) = true then (u4_X6_readLine I J w) else (u1_X6_readLine I J w)))))))) else (m_X6_fails (m_X6_nextToken I J) 1))
noncomputable def j_X6_readLine (I : Nat → Nat → Int32) (J : Nat → Nat → Int64) (w : Bool) (x1 : Bool) : Nat → Nat → Int64 := opv (if (f_X6_beginsLine (m_X6_nextToken I J) (j_X6_nextToken I J)) = true then (if (f_X6_isWord (m_X6_nextToken I J) (j_X6_nextToken I J) 0) = true then (u20_X6_readLine I J w x1) else (if x1 = true then (j_X6_nextToken I J) else (if (f_X6_isWord (m_X6_nextToken I J) (j_X6_nextToken I J) 1) = true then (u17_X6_readLine I J w) else (if (f_X6_isWord (m_X6_nextToken I J) (j_X6_nextToken I J) 2) = true then (u14_X6_readLine I J w) else (if (f_X6_isWord (m_X6_nextToken I J) (j_X6_nextToken I J) 3) = true then (u11_X6_readLine I J w) else (if (f_X6_isWord (m_X6_nextToken I J) (j_X6_nextToken I J) 4) = true then (u8_X6_readLine I J w) else (if (f_X6_isWord (m_X6_nextToken I J) (j_X6_nextToken I J) 5) = true then (u5_X6_readLine I J w) else (u2_X6_readLine I J w)))))))) else (j_X6_nextToken I J))
noncomputable def ok_X6_readLine (I : Nat → Nat → Int32) (J : Nat → Nat → Int64) (w : Bool) (x1 : Bool) : Prop := opv (ok_X6_nextToken I J ∧ (ok_X6_beginsLine (m_X6_nextToken I J) (j_X6_nextToken I J) ∧ (if (f_X6_beginsLine (m_X6_nextToken I J) (j_X6_nextToken I J)) = true then (ok_X6_isWord (m_X6_nextToken I J) (j_X6_nextToken I J) 0 ∧ (if (f_X6_isWord (m_X6_nextToken I J) (j_X6_nextToken I J) 0) = true then (if x1 = true then ok_X6_readChalet (m_X6_nextToken I J) (j_X6_nextToken I J) w else True) else (if x1 = true then True else (ok_X6_isWord (m_X6_nextToken I J) (j_X6_nextToken I J) 1 ∧ (if (f_X6_isWord (m_X6_nextToken I J) (j_X6_nextToken I J) 1) = true then (if ((m_X6_nextToken I J) 2 10) = 0 then ok_X6_readWeather (m_X6_nextToken I J) (j_X6_nextToken I J) w else True) else (ok_X6_isWord (m_X6_nextToken I J) (j_X6_nextToken I J) 2 ∧ (if (f_X6_isWord (m_X6_nextToken I J) (j_X6_nextToken I J) 2) = true then (if (f_X7_isFull (m_X6_nextToken I J) (rt (dr w) 7)) = true then True else ok_X6_readVent (m_X6_nextToken I J) (j_X6_nextToken I J) w) else (ok_X6_isWord (m_X6_nextToken I J) (j_X6_nextToken I J) 3 ∧ (if (f_X6_isWord (m_X6_nextToken I J) (j_X6_nextToken I J) 3) = true then (if (f_X7_isFull (m_X6_nextToken I J) (rt (dr w) 8)) = true then True else ok_X6_readPlan (m_X6_nextToken I J) (j_X6_nextToken I J) w) else (ok_X6_isWord (m_X6_nextToken I J) (j_X6_nextToken I J) 4 ∧ (if (f_X6_isWord (m_X6_nextToken I J) (j_X6_nextToken I J) 4) = true then (if (f_X7_isFull (m_X6_nextToken I J) (rt (dr w) 9)) = true then True else ok_X6_readSaw (m_X6_nextToken I J) (j_X6_nextToken I J) w) else (ok_X6_isWord (m_X6_nextToken I J) (j_X6_nextToken I J) 5 ∧ (if (f_X6_isWord (m_X6_nextToken I J) (j_X6_nextToken I J) 5) = true then (if ((m_X6_nextToken I J) (dr w) 6) < 6 then ok_X6_readField (m_X6_nextToken I J) (j_X6_nextToken I J) w else True) else (if (f_X7_isFull (m_X6_nextToken I J) (rt (dr w) 10)) = true then True else ok_X6_readDitch (m_X6_nextToken I J) (j_X6_nextToken I J) w)))))))))))))) else True)))
set_option maxHeartbeats 800000 in
set_option maxRecDepth 4000 in
theorem c_X6_readLine {k : KT} {ex : Bool} (I : Nat → Nat → Int32) (J : Nat → Nat → Int64) (w : Bool) (x1 : Bool)  (hok : ok_X6_readLine I J w x1) : Cx k mX6_readLine 9 [.ref (ka k 2), .int (b2i x1)] (81, ex, I, J, Pw w) (some (.int (b2i (f_X6_readLine I J w x1)))) (81, ex, m_X6_readLine I J w x1, j_X6_readLine I J w x1, Pw w) := by
  refine Ct.of rfl [some (.ref (ka k 2)), some (.int (b2i x1))] rfl rfl (Nat.le_of_ble_eq_true rfl) ?_
  rw [ok_X6_readLine, opv_eq] at hok
  refine g_aload_n0 rfl d_X6_readLine_0 ?_
  obtain ⟨ho1, hok⟩ := hok
  refine g_callV0 (c_X6_nextToken I J  ho1) w_X6_nextToken l_X6_66 d_X6_readLine_1 rfl (Nat.le_of_ble_eq_true rfl) rfl rfl (Nat.le_of_ble_eq_true rfl) ⟨Nat.le_of_ble_eq_true rfl, Nat.le_of_ble_eq_true rfl⟩ ⟨Nat.zero_le _, Nat.zero_le _⟩ ⟨rfl, rfl⟩ ?_
  refine g_aload_n0 rfl d_X6_readLine_4 ?_
  obtain ⟨ho2, hok⟩ := hok
  refine g_callV1 (c_X6_beginsLine (m_X6_nextToken I J) (j_X6_nextToken I J)  ho2) w_X6_beginsLine l_X6_76 d_X6_readLine_5 rfl (Nat.le_of_ble_eq_true rfl) rfl rfl (Nat.le_of_ble_eq_true rfl) ⟨Nat.le_of_ble_eq_true rfl, Nat.le_of_ble_eq_true rfl⟩ ⟨Nat.zero_le _, Nat.zero_le _⟩ ⟨rfl, rfl⟩ ?_
  refine g_ifnz 17 d_X6_readLine_8 (by decide) (fun h1 => ?_) (fun h1 => ?_)
  · skip
    rw [if_pos h1] at hok
    refine g_aload_n0 rfl d_X6_readLine_17 ?_
    refine g_ldcS (n := 0) (tx := "chalet") (by decide) d_X6_readLine_18 ?_
    obtain ⟨ho3, hok⟩ := hok
    refine g_callV1 (c_X6_isWord (m_X6_nextToken I J) (j_X6_nextToken I J) 0 (by decide) ho3) w_X6_isWord l_X6_82 d_X6_readLine_20 rfl (Nat.le_of_ble_eq_true rfl) rfl rfl (Nat.le_of_ble_eq_true rfl) ⟨Nat.le_of_ble_eq_true rfl, Nat.le_of_ble_eq_true rfl⟩ ⟨Nat.zero_le _, Nat.zero_le _⟩ ⟨rfl, rfl⟩ ?_
    refine g_ifz 43 d_X6_readLine_23 (by decide) (fun h2 => ?_) (fun h2 => ?_)
    · skip
      rw [if_neg (nb h2)] at hok
      refine g_iload_n1 rfl d_X6_readLine_43 ?_
      refine g_ifz 54 d_X6_readLine_44 (by decide) (fun h3 => ?_) (fun h3 => ?_)
      · skip
        rw [if_neg (nb h3)] at hok
        refine g_aload_n0 rfl d_X6_readLine_54 ?_
        refine g_ldcS (n := 1) (tx := "weather") (by decide) d_X6_readLine_55 ?_
        obtain ⟨ho4, hok⟩ := hok
        refine g_callV1 (c_X6_isWord (m_X6_nextToken I J) (j_X6_nextToken I J) 1 (by decide) ho4) w_X6_isWord l_X6_82 d_X6_readLine_57 rfl (Nat.le_of_ble_eq_true rfl) rfl rfl (Nat.le_of_ble_eq_true rfl) ⟨Nat.le_of_ble_eq_true rfl, Nat.le_of_ble_eq_true rfl⟩ ⟨Nat.zero_le _, Nat.zero_le _⟩ ⟨rfl, rfl⟩ ?_
        refine g_ifz 83 d_X6_readLine_60 (by decide) (fun h4 => ?_) (fun h4 => ?_)
        · skip
          rw [if_neg (nb h4)] at hok
          refine g_aload_n0 rfl d_X6_readLine_83 ?_
          refine g_ldcS (n := 2) (tx := "vent") (by decide) d_X6_readLine_84 ?_
          obtain ⟨ho5, hok⟩ := hok
          refine g_callV1 (c_X6_isWord (m_X6_nextToken I J) (j_X6_nextToken I J) 2 (by decide) ho5) w_X6_isWord l_X6_82 d_X6_readLine_86 rfl (Nat.le_of_ble_eq_true rfl) rfl rfl (Nat.le_of_ble_eq_true rfl) ⟨Nat.le_of_ble_eq_true rfl, Nat.le_of_ble_eq_true rfl⟩ ⟨Nat.zero_le _, Nat.zero_le _⟩ ⟨rfl, rfl⟩ ?_
          refine g_ifz 118 d_X6_readLine_89 (by decide) (fun h5 => ?_) (fun h5 => ?_)
          · skip
            rw [if_neg (nb h5)] at hok
            refine g_aload_n0 rfl d_X6_readLine_118 ?_
            refine g_ldcS (n := 3) (tx := "plan") (by decide) d_X6_readLine_119 ?_
            obtain ⟨ho6, hok⟩ := hok
            refine g_callV1 (c_X6_isWord (m_X6_nextToken I J) (j_X6_nextToken I J) 3 (by decide) ho6) w_X6_isWord l_X6_82 d_X6_readLine_121 rfl (Nat.le_of_ble_eq_true rfl) rfl rfl (Nat.le_of_ble_eq_true rfl) ⟨Nat.le_of_ble_eq_true rfl, Nat.le_of_ble_eq_true rfl⟩ ⟨Nat.zero_le _, Nat.zero_le _⟩ ⟨rfl, rfl⟩ ?_
            refine g_ifz 153 d_X6_readLine_124 (by decide) (fun h6 => ?_) (fun h6 => ?_)
            · skip
              rw [if_neg (nb h6)] at hok
              refine g_aload_n0 rfl d_X6_readLine_153 ?_
              refine g_ldcS (n := 4) (tx := "saw") (by decide) d_X6_readLine_154 ?_
              obtain ⟨ho7, hok⟩ := hok
              refine g_callV1 (c_X6_isWord (m_X6_nextToken I J) (j_X6_nextToken I J) 4 (by decide) ho7) w_X6_isWord l_X6_82 d_X6_readLine_156 rfl (Nat.le_of_ble_eq_true rfl) rfl rfl (Nat.le_of_ble_eq_true rfl) ⟨Nat.le_of_ble_eq_true rfl, Nat.le_of_ble_eq_true rfl⟩ ⟨Nat.zero_le _, Nat.zero_le _⟩ ⟨rfl, rfl⟩ ?_
              refine g_ifz 188 d_X6_readLine_159 (by decide) (fun h7 => ?_) (fun h7 => ?_)
              · skip
                rw [if_neg (nb h7)] at hok
                refine g_aload_n0 rfl d_X6_readLine_188 ?_
                refine g_ldcS (n := 5) (tx := "field") (by decide) d_X6_readLine_189 ?_
                obtain ⟨ho8, hok⟩ := hok
                refine g_callV1 (c_X6_isWord (m_X6_nextToken I J) (j_X6_nextToken I J) 5 (by decide) ho8) w_X6_isWord l_X6_82 d_X6_readLine_191 rfl (Nat.le_of_ble_eq_true rfl) rfl rfl (Nat.le_of_ble_eq_true rfl) ⟨Nat.le_of_ble_eq_true rfl, Nat.le_of_ble_eq_true rfl⟩ ⟨Nat.zero_le _, Nat.zero_le _⟩ ⟨rfl, rfl⟩ ?_
                refine g_ifz 222 d_X6_readLine_194 (by decide) (fun h8 => ?_) (fun h8 => ?_)
                · skip
                  rw [if_neg (nb h8)] at hok
                  refine g_aload_n0 rfl d_X6_readLine_222 ?_
                  refine g_getP (b := dr w) f_X6_12 d_X6_readLine_223 rfl (Nat.le_of_ble_eq_true rfl) rfl rfl ?_
                  refine g_getP (b := rt (dr w) 10) f_X6_132 d_X6_readLine_226 (kd_dr w) (kd_sg (kd_dr w) (by decide)) rfl (pw_rt (kd_dr w) (by decide) (by decide)) ?_
                  refine g_callV1 (c_X7_isFull (m_X6_nextToken I J) (rt (dr w) 10) (kt7 (kd_dr w)).2.2.2) w_X7_isFull l_X6_100 d_X6_readLine_229 (kt7 (kd_dr w)).2.2.2 (kd_sg ((kt7 (kd_dr w)).2.2.2) (by decide)) rfl rfl (Nat.le_of_ble_eq_true rfl) ⟨Nat.le_of_ble_eq_true rfl, Nat.le_of_ble_eq_true rfl⟩ ⟨Nat.zero_le _, Nat.zero_le _⟩ ⟨rfl, rfl⟩ ?_
                  refine g_cut (pc' := 247) (vs' := [some (.ref (ka k 2)), some (.int (b2i x1))]) (st' := [.int (b2i (u0_X6_readLine I J w))]) (M' := (81, ex, (u1_X6_readLine I J w), (u2_X6_readLine I J w), Pw w)) (fun hj => ?_) ?_
                  · skip
                    refine g_ifz 243 d_X6_readLine_232 (by decide) (fun h9 => ?_) (fun h9 => ?_)
                    · skip
                      rw [if_neg (nb h9)] at hok
                      refine g_aload_n0 rfl d_X6_readLine_243 ?_
                      have ho9 := hok
                      refine g_callV1 (c_X6_readDitch (m_X6_nextToken I J) (j_X6_nextToken I J) w  ho9) w_X6_readDitch l_X6_135 d_X6_readLine_244 rfl (Nat.le_of_ble_eq_true rfl) rfl rfl (Nat.le_of_ble_eq_true rfl) ⟨Nat.le_of_ble_eq_true rfl, Nat.le_of_ble_eq_true rfl⟩ ⟨Nat.zero_le _, Nat.zero_le _⟩ ⟨rfl, rfl⟩ ?_
                      (try simp only [if_neg (nb h9), opv_eq, if_true, if_false, Bool.false_eq_true, reduceCtorEq, b2i_t, b2i_f, u0_X6_readLine, u1_X6_readLine, u2_X6_readLine] at hj); exact hj
                    · skip
                      refine g_aload_n0 rfl d_X6_readLine_235 ?_
                      refine g_iconst 5 d_X6_readLine_236 (by decide) ?_
                      refine g_callV1 (c_X6_fails (m_X6_nextToken I J) 5) w_X6_fails l_X6_72 d_X6_readLine_237 rfl (Nat.le_of_ble_eq_true rfl) rfl rfl (Nat.le_of_ble_eq_true rfl) ⟨Nat.le_of_ble_eq_true rfl, Nat.le_of_ble_eq_true rfl⟩ ⟨Nat.zero_le _, Nat.zero_le _⟩ ⟨rfl, rfl⟩ ?_
                      refine g_goto 247 d_X6_readLine_240 (by decide) ?_
                      (try simp only [if_pos h9, opv_eq, if_true, if_false, Bool.false_eq_true, reduceCtorEq, b2i_t, b2i_f, u0_X6_readLine, u1_X6_readLine, u2_X6_readLine] at hj); exact hj
                  · skip
                    exact g_zret rfl (nar_b _) d_X6_readLine_247 ⟨by simp only [f_X6_readLine, m_X6_readLine, j_X6_readLine, if_pos h1, if_neg (nb h2), if_neg (nb h3), if_neg (nb h4), if_neg (nb h5), if_neg (nb h6), if_neg (nb h7), if_neg (nb h8), opv_eq, if_true, if_false, Bool.false_eq_true, reduceCtorEq, b2i_t, b2i_f], by simp only [f_X6_readLine, m_X6_readLine, j_X6_readLine, if_pos h1, if_neg (nb h2), if_neg (nb h3), if_neg (nb h4), if_neg (nb h5), if_neg (nb h6), if_neg (nb h7), if_neg (nb h8), opv_eq, if_true, if_false, Bool.false_eq_true, reduceCtorEq, b2i_t, b2i_f]⟩ (Nat.le_refl _) (Nat.le_refl _)
                · skip
                  rw [if_pos h8] at hok
                  refine g_aload_n0 rfl d_X6_readLine_197 ?_
                  refine g_getP (b := dr w) f_X6_12 d_X6_readLine_198 rfl (Nat.le_of_ble_eq_true rfl) rfl rfl ?_
                  refine g_getI f_X6_126 d_X6_readLine_201 (kd_dr w) (kd_sg (kd_dr w) (by decide)) rfl ?_
                  refine g_bipush 6 d_X6_readLine_204 (by decide) ?_
                  refine g_cut (pc' := 221) (vs' := [some (.ref (ka k 2)), some (.int (b2i x1))]) (st' := [.int (b2i (u3_X6_readLine I J w))]) (M' := (81, ex, (u4_X6_readLine I J w), (u5_X6_readLine I J w), Pw w)) (fun hj => ?_) ?_
                  · skip
                    refine g_icmp_lt 217 d_X6_readLine_206 (by decide) (fun h10 => ?_) (fun h10 => ?_)
                    · skip
                      rw [if_pos h10] at hok
                      refine g_aload_n0 rfl d_X6_readLine_217 ?_
                      have ho10 := hok
                      refine g_callV1 (c_X6_readField (m_X6_nextToken I J) (j_X6_nextToken I J) w  ho10) w_X6_readField l_X6_129 d_X6_readLine_218 rfl (Nat.le_of_ble_eq_true rfl) rfl rfl (Nat.le_of_ble_eq_true rfl) ⟨Nat.le_of_ble_eq_true rfl, Nat.le_of_ble_eq_true rfl⟩ ⟨Nat.zero_le _, Nat.zero_le _⟩ ⟨rfl, rfl⟩ ?_
                      (try simp only [if_pos h10, opv_eq, if_true, if_false, Bool.false_eq_true, reduceCtorEq, b2i_t, b2i_f, u3_X6_readLine, u4_X6_readLine, u5_X6_readLine] at hj); exact hj
                    · skip
                      refine g_aload_n0 rfl d_X6_readLine_209 ?_
                      refine g_iconst 5 d_X6_readLine_210 (by decide) ?_
                      refine g_callV1 (c_X6_fails (m_X6_nextToken I J) 5) w_X6_fails l_X6_72 d_X6_readLine_211 rfl (Nat.le_of_ble_eq_true rfl) rfl rfl (Nat.le_of_ble_eq_true rfl) ⟨Nat.le_of_ble_eq_true rfl, Nat.le_of_ble_eq_true rfl⟩ ⟨Nat.zero_le _, Nat.zero_le _⟩ ⟨rfl, rfl⟩ ?_
                      refine g_goto 221 d_X6_readLine_214 (by decide) ?_
                      (try simp only [if_neg h10, opv_eq, if_true, if_false, Bool.false_eq_true, reduceCtorEq, b2i_t, b2i_f, u3_X6_readLine, u4_X6_readLine, u5_X6_readLine] at hj); exact hj
                  · skip
                    exact g_zret rfl (nar_b _) d_X6_readLine_221 ⟨by simp only [f_X6_readLine, m_X6_readLine, j_X6_readLine, if_pos h1, if_neg (nb h2), if_neg (nb h3), if_neg (nb h4), if_neg (nb h5), if_neg (nb h6), if_neg (nb h7), if_pos h8, opv_eq, if_true, if_false, Bool.false_eq_true, reduceCtorEq, b2i_t, b2i_f], by simp only [f_X6_readLine, m_X6_readLine, j_X6_readLine, if_pos h1, if_neg (nb h2), if_neg (nb h3), if_neg (nb h4), if_neg (nb h5), if_neg (nb h6), if_neg (nb h7), if_pos h8, opv_eq, if_true, if_false, Bool.false_eq_true, reduceCtorEq, b2i_t, b2i_f]⟩ (Nat.le_refl _) (Nat.le_refl _)
              · skip
                rw [if_pos h7] at hok
                refine g_aload_n0 rfl d_X6_readLine_162 ?_
                refine g_getP (b := dr w) f_X6_12 d_X6_readLine_163 rfl (Nat.le_of_ble_eq_true rfl) rfl rfl ?_
                refine g_getP (b := rt (dr w) 9) f_X6_118 d_X6_readLine_166 (kd_dr w) (kd_sg (kd_dr w) (by decide)) rfl (pw_rt (kd_dr w) (by decide) (by decide)) ?_
                refine g_callV1 (c_X7_isFull (m_X6_nextToken I J) (rt (dr w) 9) (kt7 (kd_dr w)).2.2.1) w_X7_isFull l_X6_100 d_X6_readLine_169 (kt7 (kd_dr w)).2.2.1 (kd_sg ((kt7 (kd_dr w)).2.2.1) (by decide)) rfl rfl (Nat.le_of_ble_eq_true rfl) ⟨Nat.le_of_ble_eq_true rfl, Nat.le_of_ble_eq_true rfl⟩ ⟨Nat.zero_le _, Nat.zero_le _⟩ ⟨rfl, rfl⟩ ?_
                refine g_cut (pc' := 187) (vs' := [some (.ref (ka k 2)), some (.int (b2i x1))]) (st' := [.int (b2i (u6_X6_readLine I J w))]) (M' := (81, ex, (u7_X6_readLine I J w), (u8_X6_readLine I J w), Pw w)) (fun hj => ?_) ?_
                · skip
                  refine g_ifz 183 d_X6_readLine_172 (by decide) (fun h11 => ?_) (fun h11 => ?_)
                  · skip
                    rw [if_neg (nb h11)] at hok
                    refine g_aload_n0 rfl d_X6_readLine_183 ?_
                    have ho11 := hok
                    refine g_callV1 (c_X6_readSaw (m_X6_nextToken I J) (j_X6_nextToken I J) w  ho11) w_X6_readSaw l_X6_121 d_X6_readLine_184 rfl (Nat.le_of_ble_eq_true rfl) rfl rfl (Nat.le_of_ble_eq_true rfl) ⟨Nat.le_of_ble_eq_true rfl, Nat.le_of_ble_eq_true rfl⟩ ⟨Nat.zero_le _, Nat.zero_le _⟩ ⟨rfl, rfl⟩ ?_
                    (try simp only [if_neg (nb h11), opv_eq, if_true, if_false, Bool.false_eq_true, reduceCtorEq, b2i_t, b2i_f, u6_X6_readLine, u7_X6_readLine, u8_X6_readLine] at hj); exact hj
                  · skip
                    refine g_aload_n0 rfl d_X6_readLine_175 ?_
                    refine g_iconst 5 d_X6_readLine_176 (by decide) ?_
                    refine g_callV1 (c_X6_fails (m_X6_nextToken I J) 5) w_X6_fails l_X6_72 d_X6_readLine_177 rfl (Nat.le_of_ble_eq_true rfl) rfl rfl (Nat.le_of_ble_eq_true rfl) ⟨Nat.le_of_ble_eq_true rfl, Nat.le_of_ble_eq_true rfl⟩ ⟨Nat.zero_le _, Nat.zero_le _⟩ ⟨rfl, rfl⟩ ?_
                    refine g_goto 187 d_X6_readLine_180 (by decide) ?_
                    (try simp only [if_pos h11, opv_eq, if_true, if_false, Bool.false_eq_true, reduceCtorEq, b2i_t, b2i_f, u6_X6_readLine, u7_X6_readLine, u8_X6_readLine] at hj); exact hj
                · skip
                  exact g_zret rfl (nar_b _) d_X6_readLine_187 ⟨by simp only [f_X6_readLine, m_X6_readLine, j_X6_readLine, if_pos h1, if_neg (nb h2), if_neg (nb h3), if_neg (nb h4), if_neg (nb h5), if_neg (nb h6), if_pos h7, opv_eq, if_true, if_false, Bool.false_eq_true, reduceCtorEq, b2i_t, b2i_f], by simp only [f_X6_readLine, m_X6_readLine, j_X6_readLine, if_pos h1, if_neg (nb h2), if_neg (nb h3), if_neg (nb h4), if_neg (nb h5), if_neg (nb h6), if_pos h7, opv_eq, if_true, if_false, Bool.false_eq_true, reduceCtorEq, b2i_t, b2i_f]⟩ (Nat.le_refl _) (Nat.le_refl _)
            · skip
              rw [if_pos h6] at hok
              refine g_aload_n0 rfl d_X6_readLine_127 ?_
              refine g_getP (b := dr w) f_X6_12 d_X6_readLine_128 rfl (Nat.le_of_ble_eq_true rfl) rfl rfl ?_
              refine g_getP (b := rt (dr w) 8) f_X6_110 d_X6_readLine_131 (kd_dr w) (kd_sg (kd_dr w) (by decide)) rfl (pw_rt (kd_dr w) (by decide) (by decide)) ?_
              refine g_callV1 (c_X7_isFull (m_X6_nextToken I J) (rt (dr w) 8) (kt7 (kd_dr w)).2.1) w_X7_isFull l_X6_100 d_X6_readLine_134 (kt7 (kd_dr w)).2.1 (kd_sg ((kt7 (kd_dr w)).2.1) (by decide)) rfl rfl (Nat.le_of_ble_eq_true rfl) ⟨Nat.le_of_ble_eq_true rfl, Nat.le_of_ble_eq_true rfl⟩ ⟨Nat.zero_le _, Nat.zero_le _⟩ ⟨rfl, rfl⟩ ?_
              refine g_cut (pc' := 152) (vs' := [some (.ref (ka k 2)), some (.int (b2i x1))]) (st' := [.int (b2i (u9_X6_readLine I J w))]) (M' := (81, ex, (u10_X6_readLine I J w), (u11_X6_readLine I J w), Pw w)) (fun hj => ?_) ?_
              · skip
                refine g_ifz 148 d_X6_readLine_137 (by decide) (fun h12 => ?_) (fun h12 => ?_)
                · skip
                  rw [if_neg (nb h12)] at hok
                  refine g_aload_n0 rfl d_X6_readLine_148 ?_
                  have ho12 := hok
                  refine g_callV1 (c_X6_readPlan (m_X6_nextToken I J) (j_X6_nextToken I J) w  ho12) w_X6_readPlan l_X6_113 d_X6_readLine_149 rfl (Nat.le_of_ble_eq_true rfl) rfl rfl (Nat.le_of_ble_eq_true rfl) ⟨Nat.le_of_ble_eq_true rfl, Nat.le_of_ble_eq_true rfl⟩ ⟨Nat.zero_le _, Nat.zero_le _⟩ ⟨rfl, rfl⟩ ?_
                  (try simp only [if_neg (nb h12), opv_eq, if_true, if_false, Bool.false_eq_true, reduceCtorEq, b2i_t, b2i_f, u9_X6_readLine, u10_X6_readLine, u11_X6_readLine] at hj); exact hj
                · skip
                  refine g_aload_n0 rfl d_X6_readLine_140 ?_
                  refine g_iconst 5 d_X6_readLine_141 (by decide) ?_
                  refine g_callV1 (c_X6_fails (m_X6_nextToken I J) 5) w_X6_fails l_X6_72 d_X6_readLine_142 rfl (Nat.le_of_ble_eq_true rfl) rfl rfl (Nat.le_of_ble_eq_true rfl) ⟨Nat.le_of_ble_eq_true rfl, Nat.le_of_ble_eq_true rfl⟩ ⟨Nat.zero_le _, Nat.zero_le _⟩ ⟨rfl, rfl⟩ ?_
                  refine g_goto 152 d_X6_readLine_145 (by decide) ?_
                  (try simp only [if_pos h12, opv_eq, if_true, if_false, Bool.false_eq_true, reduceCtorEq, b2i_t, b2i_f, u9_X6_readLine, u10_X6_readLine, u11_X6_readLine] at hj); exact hj
              · skip
                exact g_zret rfl (nar_b _) d_X6_readLine_152 ⟨by simp only [f_X6_readLine, m_X6_readLine, j_X6_readLine, if_pos h1, if_neg (nb h2), if_neg (nb h3), if_neg (nb h4), if_neg (nb h5), if_pos h6, opv_eq, if_true, if_false, Bool.false_eq_true, reduceCtorEq, b2i_t, b2i_f], by simp only [f_X6_readLine, m_X6_readLine, j_X6_readLine, if_pos h1, if_neg (nb h2), if_neg (nb h3), if_neg (nb h4), if_neg (nb h5), if_pos h6, opv_eq, if_true, if_false, Bool.false_eq_true, reduceCtorEq, b2i_t, b2i_f]⟩ (Nat.le_refl _) (Nat.le_refl _)
          · skip
            rw [if_pos h5] at hok
            refine g_aload_n0 rfl d_X6_readLine_92 ?_
            refine g_getP (b := dr w) f_X6_12 d_X6_readLine_93 rfl (Nat.le_of_ble_eq_true rfl) rfl rfl ?_
            refine g_getP (b := rt (dr w) 7) f_X6_96 d_X6_readLine_96 (kd_dr w) (kd_sg (kd_dr w) (by decide)) rfl (pw_rt (kd_dr w) (by decide) (by decide)) ?_
            refine g_callV1 (c_X7_isFull (m_X6_nextToken I J) (rt (dr w) 7) (kt7 (kd_dr w)).1) w_X7_isFull l_X6_100 d_X6_readLine_99 (kt7 (kd_dr w)).1 (kd_sg ((kt7 (kd_dr w)).1) (by decide)) rfl rfl (Nat.le_of_ble_eq_true rfl) ⟨Nat.le_of_ble_eq_true rfl, Nat.le_of_ble_eq_true rfl⟩ ⟨Nat.zero_le _, Nat.zero_le _⟩ ⟨rfl, rfl⟩ ?_
            refine g_cut (pc' := 117) (vs' := [some (.ref (ka k 2)), some (.int (b2i x1))]) (st' := [.int (b2i (u12_X6_readLine I J w))]) (M' := (81, ex, (u13_X6_readLine I J w), (u14_X6_readLine I J w), Pw w)) (fun hj => ?_) ?_
            · skip
              refine g_ifz 113 d_X6_readLine_102 (by decide) (fun h13 => ?_) (fun h13 => ?_)
              · skip
                rw [if_neg (nb h13)] at hok
                refine g_aload_n0 rfl d_X6_readLine_113 ?_
                have ho13 := hok
                refine g_callV1 (c_X6_readVent (m_X6_nextToken I J) (j_X6_nextToken I J) w  ho13) w_X6_readVent l_X6_105 d_X6_readLine_114 rfl (Nat.le_of_ble_eq_true rfl) rfl rfl (Nat.le_of_ble_eq_true rfl) ⟨Nat.le_of_ble_eq_true rfl, Nat.le_of_ble_eq_true rfl⟩ ⟨Nat.zero_le _, Nat.zero_le _⟩ ⟨rfl, rfl⟩ ?_
                (try simp only [if_neg (nb h13), opv_eq, if_true, if_false, Bool.false_eq_true, reduceCtorEq, b2i_t, b2i_f, u12_X6_readLine, u13_X6_readLine, u14_X6_readLine] at hj); exact hj
              · skip
                refine g_aload_n0 rfl d_X6_readLine_105 ?_
                refine g_iconst 5 d_X6_readLine_106 (by decide) ?_
                refine g_callV1 (c_X6_fails (m_X6_nextToken I J) 5) w_X6_fails l_X6_72 d_X6_readLine_107 rfl (Nat.le_of_ble_eq_true rfl) rfl rfl (Nat.le_of_ble_eq_true rfl) ⟨Nat.le_of_ble_eq_true rfl, Nat.le_of_ble_eq_true rfl⟩ ⟨Nat.zero_le _, Nat.zero_le _⟩ ⟨rfl, rfl⟩ ?_
                refine g_goto 117 d_X6_readLine_110 (by decide) ?_
                (try simp only [if_pos h13, opv_eq, if_true, if_false, Bool.false_eq_true, reduceCtorEq, b2i_t, b2i_f, u12_X6_readLine, u13_X6_readLine, u14_X6_readLine] at hj); exact hj
            · skip
              exact g_zret rfl (nar_b _) d_X6_readLine_117 ⟨by simp only [f_X6_readLine, m_X6_readLine, j_X6_readLine, if_pos h1, if_neg (nb h2), if_neg (nb h3), if_neg (nb h4), if_pos h5, opv_eq, if_true, if_false, Bool.false_eq_true, reduceCtorEq, b2i_t, b2i_f], by simp only [f_X6_readLine, m_X6_readLine, j_X6_readLine, if_pos h1, if_neg (nb h2), if_neg (nb h3), if_neg (nb h4), if_pos h5, opv_eq, if_true, if_false, Bool.false_eq_true, reduceCtorEq, b2i_t, b2i_f]⟩ (Nat.le_refl _) (Nat.le_refl _)
        · skip
          rw [if_pos h4] at hok
          refine g_aload_n0 rfl d_X6_readLine_63 ?_
          refine g_getI f_X6_55 d_X6_readLine_64 rfl (Nat.le_of_ble_eq_true rfl) rfl ?_
          refine g_cut (pc' := 82) (vs' := [some (.ref (ka k 2)), some (.int (b2i x1))]) (st' := [.int (b2i (u15_X6_readLine I J w))]) (M' := (81, ex, (u16_X6_readLine I J w), (u17_X6_readLine I J w), Pw w)) (fun hj => ?_) ?_
          · skip
            refine g_if_eq 78 d_X6_readLine_67 (by decide) (fun h14 => ?_) (fun h14 => ?_)
            · skip
              rw [if_pos h14] at hok
              refine g_aload_n0 rfl d_X6_readLine_78 ?_
              have ho14 := hok
              refine g_callV1 (c_X6_readWeather (m_X6_nextToken I J) (j_X6_nextToken I J) w  ho14) w_X6_readWeather l_X6_91 d_X6_readLine_79 rfl (Nat.le_of_ble_eq_true rfl) rfl rfl (Nat.le_of_ble_eq_true rfl) ⟨Nat.le_of_ble_eq_true rfl, Nat.le_of_ble_eq_true rfl⟩ ⟨Nat.zero_le _, Nat.zero_le _⟩ ⟨rfl, rfl⟩ ?_
              (try simp only [if_pos h14, opv_eq, if_true, if_false, Bool.false_eq_true, reduceCtorEq, b2i_t, b2i_f, u15_X6_readLine, u16_X6_readLine, u17_X6_readLine] at hj); exact hj
            · skip
              refine g_aload_n0 rfl d_X6_readLine_70 ?_
              refine g_iconst 3 d_X6_readLine_71 (by decide) ?_
              refine g_callV1 (c_X6_fails (m_X6_nextToken I J) 3) w_X6_fails l_X6_72 d_X6_readLine_72 rfl (Nat.le_of_ble_eq_true rfl) rfl rfl (Nat.le_of_ble_eq_true rfl) ⟨Nat.le_of_ble_eq_true rfl, Nat.le_of_ble_eq_true rfl⟩ ⟨Nat.zero_le _, Nat.zero_le _⟩ ⟨rfl, rfl⟩ ?_
              refine g_goto 82 d_X6_readLine_75 (by decide) ?_
              (try simp only [if_neg h14, opv_eq, if_true, if_false, Bool.false_eq_true, reduceCtorEq, b2i_t, b2i_f, u15_X6_readLine, u16_X6_readLine, u17_X6_readLine] at hj); exact hj
          · skip
            exact g_zret rfl (nar_b _) d_X6_readLine_82 ⟨by simp only [f_X6_readLine, m_X6_readLine, j_X6_readLine, if_pos h1, if_neg (nb h2), if_neg (nb h3), if_pos h4, opv_eq, if_true, if_false, Bool.false_eq_true, reduceCtorEq, b2i_t, b2i_f], by simp only [f_X6_readLine, m_X6_readLine, j_X6_readLine, if_pos h1, if_neg (nb h2), if_neg (nb h3), if_pos h4, opv_eq, if_true, if_false, Bool.false_eq_true, reduceCtorEq, b2i_t, b2i_f]⟩ (Nat.le_refl _) (Nat.le_refl _)
      · skip
        refine g_aload_n0 rfl d_X6_readLine_47 ?_
        refine g_bipush 6 d_X6_readLine_48 (by decide) ?_
        refine g_callV1 (c_X6_fails (m_X6_nextToken I J) 6) w_X6_fails l_X6_72 d_X6_readLine_50 rfl (Nat.le_of_ble_eq_true rfl) rfl rfl (Nat.le_of_ble_eq_true rfl) ⟨Nat.le_of_ble_eq_true rfl, Nat.le_of_ble_eq_true rfl⟩ ⟨Nat.zero_le _, Nat.zero_le _⟩ ⟨rfl, rfl⟩ ?_
        exact g_zret rfl (nar_b _) d_X6_readLine_53 ⟨by simp only [f_X6_readLine, m_X6_readLine, j_X6_readLine, if_pos h1, if_neg (nb h2), if_pos h3, opv_eq, if_true, if_false, Bool.false_eq_true, reduceCtorEq, b2i_t, b2i_f], by simp only [f_X6_readLine, m_X6_readLine, j_X6_readLine, if_pos h1, if_neg (nb h2), if_pos h3, opv_eq, if_true, if_false, Bool.false_eq_true, reduceCtorEq, b2i_t, b2i_f]⟩ (Nat.le_refl _) (Nat.le_refl _)
    · skip
      rw [if_pos h2] at hok
      refine g_iload_n1 rfl d_X6_readLine_26 ?_
      refine g_cut (pc' := 42) (vs' := [some (.ref (ka k 2)), some (.int (b2i x1))]) (st' := [.int (b2i (u18_X6_readLine I J w x1))]) (M' := (81, ex, (u19_X6_readLine I J w x1), (u20_X6_readLine I J w x1), Pw w)) (fun hj => ?_) ?_
      · skip
        refine g_ifz 37 d_X6_readLine_27 (by decide) (fun h15 => ?_) (fun h15 => ?_)
        · skip
          refine g_aload_n0 rfl d_X6_readLine_37 ?_
          refine g_iconst 3 d_X6_readLine_38 (by decide) ?_
          refine g_callV1 (c_X6_fails (m_X6_nextToken I J) 3) w_X6_fails l_X6_72 d_X6_readLine_39 rfl (Nat.le_of_ble_eq_true rfl) rfl rfl (Nat.le_of_ble_eq_true rfl) ⟨Nat.le_of_ble_eq_true rfl, Nat.le_of_ble_eq_true rfl⟩ ⟨Nat.zero_le _, Nat.zero_le _⟩ ⟨rfl, rfl⟩ ?_
          (try simp only [if_neg (nb h15), opv_eq, if_true, if_false, Bool.false_eq_true, reduceCtorEq, b2i_t, b2i_f, u18_X6_readLine, u19_X6_readLine, u20_X6_readLine] at hj); exact hj
        · skip
          rw [if_pos h15] at hok
          refine g_aload_n0 rfl d_X6_readLine_30 ?_
          have ho15 := hok
          refine g_callV1 (c_X6_readChalet (m_X6_nextToken I J) (j_X6_nextToken I J) w  ho15) w_X6_readChalet l_X6_86 d_X6_readLine_31 rfl (Nat.le_of_ble_eq_true rfl) rfl rfl (Nat.le_of_ble_eq_true rfl) ⟨Nat.le_of_ble_eq_true rfl, Nat.le_of_ble_eq_true rfl⟩ ⟨Nat.zero_le _, Nat.zero_le _⟩ ⟨rfl, rfl⟩ ?_
          refine g_goto 42 d_X6_readLine_34 (by decide) ?_
          (try simp only [if_pos h15, opv_eq, if_true, if_false, Bool.false_eq_true, reduceCtorEq, b2i_t, b2i_f, u18_X6_readLine, u19_X6_readLine, u20_X6_readLine] at hj); exact hj
      · skip
        exact g_zret rfl (nar_b _) d_X6_readLine_42 ⟨by simp only [f_X6_readLine, m_X6_readLine, j_X6_readLine, if_pos h1, if_pos h2, opv_eq, if_true, if_false, Bool.false_eq_true, reduceCtorEq, b2i_t, b2i_f], by simp only [f_X6_readLine, m_X6_readLine, j_X6_readLine, if_pos h1, if_pos h2, opv_eq, if_true, if_false, Bool.false_eq_true, reduceCtorEq, b2i_t, b2i_f]⟩ (Nat.le_refl _) (Nat.le_refl _)
  · skip
    refine g_aload_n0 rfl d_X6_readLine_11 ?_
    refine g_iconst 1 d_X6_readLine_12 (by decide) ?_
    refine g_callV1 (c_X6_fails (m_X6_nextToken I J) 1) w_X6_fails l_X6_72 d_X6_readLine_13 rfl (Nat.le_of_ble_eq_true rfl) rfl rfl (Nat.le_of_ble_eq_true rfl) ⟨Nat.le_of_ble_eq_true rfl, Nat.le_of_ble_eq_true rfl⟩ ⟨Nat.zero_le _, Nat.zero_le _⟩ ⟨rfl, rfl⟩ ?_
    exact g_zret rfl (nar_b _) d_X6_readLine_16 ⟨by simp only [f_X6_readLine, m_X6_readLine, j_X6_readLine, if_neg (nb h1), opv_eq, if_true, if_false, Bool.false_eq_true, reduceCtorEq, b2i_t, b2i_f], by simp only [f_X6_readLine, m_X6_readLine, j_X6_readLine, if_neg (nb h1), opv_eq, if_true, if_false, Bool.false_eq_true, reduceCtorEq, b2i_t, b2i_f]⟩ (Nat.le_refl _) (Nat.le_refl _)
noncomputable def u0_X6_readLines (w : Bool) (l1 : Int32) (I1 : Nat → Nat → Int32) (J1 : Nat → Nat → Int64) : Nat → Nat → Int32 := opv (m_X6_nextToken (m_X6_readLine I1 J1 w (if l1 = 0 then true else false)) (j_X6_readLine I1 J1 w (if l1 = 0 then true else false)))
noncomputable def u1_X6_readLines (w : Bool) (l1 : Int32) (I1 : Nat → Nat → Int32) (J1 : Nat → Nat → Int64) : Nat → Nat → Int64 := opv (j_X6_nextToken (m_X6_readLine I1 J1 w (if l1 = 0 then true else false)) (j_X6_readLine I1 J1 w (if l1 = 0 then true else false)))
noncomputable def lp_X6_readLines_2 (w : Bool) : Nat → Int32 → (Nat → Nat → Int32) → (Nat → Nat → Int64) → Bool × (Nat → Nat → Int32) × (Nat → Nat → Int64)
  | 0, l1, I1, J1 => (false, I1, J1)
  | n + 1, l1, I1, J1 => (if 900 < l1 then (f_X6_fails I1 1, (m_X6_fails I1 1), J1) else (if (f_X6_readLine I1 J1 w (if l1 = 0 then true else false)) = true then (if ((u0_X6_readLines w l1 I1 J1) 2 6) = 0 then (true, (u0_X6_readLines w l1 I1 J1), (u1_X6_readLines w l1 I1 J1)) else (if ((u0_X6_readLines w l1 I1 J1) 2 6) = 3 then (lp_X6_readLines_2 w n (l1 + 1) (u0_X6_readLines w l1 I1 J1) (u1_X6_readLines w l1 I1 J1)) else (f_X6_fails (u0_X6_readLines w l1 I1 J1) 1, (m_X6_fails (u0_X6_readLines w l1 I1 J1) 1), (u1_X6_readLines w l1 I1 J1)))) else (false, (m_X6_readLine I1 J1 w (if l1 = 0 then true else false)), (j_X6_readLine I1 J1 w (if l1 = 0 then true else false)))))
def oklp_X6_readLines_2 (w : Bool) : Nat → Int32 → (Nat → Nat → Int32) → (Nat → Nat → Int64) → Prop
  | 0, l1, I1, J1 => True
  | n + 1, l1, I1, J1 => (if 900 < l1 then True else (ok_X6_readLine I1 J1 w (if l1 = 0 then true else false) ∧ (if (f_X6_readLine I1 J1 w (if l1 = 0 then true else false)) = true then (ok_X6_nextToken (m_X6_readLine I1 J1 w (if l1 = 0 then true else false)) (j_X6_readLine I1 J1 w (if l1 = 0 then true else false)) ∧ (if ((u0_X6_readLines w l1 I1 J1) 2 6) = 0 then True else (if ((u0_X6_readLines w l1 I1 J1) 2 6) = 3 then oklp_X6_readLines_2 w n (l1 + 1) (u0_X6_readLines w l1 I1 J1) (u1_X6_readLines w l1 I1 J1) else True))) else True)))
set_option maxHeartbeats 800000 in
set_option maxRecDepth 4000 in
theorem k_lp_X6_readLines_2 {k : KT} {ex : Bool} (w : Bool) {Q : Option Value → MM → Prop} : ∀ (n : Nat) (l1 : Int32) (I1 : (Nat → Nat → Int32)) (J1 : (Nat → Nat → Int64)), mu_le 900 l1 < n → oklp_X6_readLines_2 w n l1 I1 J1 → Q (some (.int (b2i (lp_X6_readLines_2 w n l1 I1 J1).1))) (81, ex, (lp_X6_readLines_2 w n l1 I1 J1).2.1, (lp_X6_readLines_2 w n l1 I1 J1).2.2, Pw w) → G k mX6_readLines (roomOf 10 0 0) (FinM k Q 0 0) 0 0 2 [some (.ref (ka k 2)), some (.int l1)] [] (81, ex, I1, J1, Pw w) := by
  intro n
  induction n with
  | zero => intro l1 I1 J1 hmu hok hq; exact absurd hmu (Nat.not_lt_zero _)
  | succ n ih =>
    intro l1 I1 J1 hmu hok hq
    rw [oklp_X6_readLines_2] at hok
    refine g_iload_n1 rfl d_X6_readLines_2 ?_
    refine g_sipush 900 d_X6_readLines_3 (by decide) ?_
    refine g_icmp_gt 60 d_X6_readLines_6 (by decide) (fun h1 => ?_) (fun h1 => ?_)
    · skip
      refine g_aload_n0 rfl d_X6_readLines_60 ?_
      refine g_iconst 1 d_X6_readLines_61 (by decide) ?_
      refine g_callV1 (c_X6_fails I1 1) w_X6_fails l_X6_72 d_X6_readLines_62 rfl (Nat.le_of_ble_eq_true rfl) rfl rfl (Nat.le_of_ble_eq_true rfl) ⟨Nat.le_of_ble_eq_true rfl, Nat.le_of_ble_eq_true rfl⟩ ⟨Nat.zero_le _, Nat.zero_le _⟩ ⟨rfl, rfl⟩ ?_
      exact g_zret rfl (nar_b _) d_X6_readLines_65 (by (try simp only [lp_X6_readLines_2, if_pos h1, opv_eq, if_true, if_false, Bool.false_eq_true, reduceCtorEq, b2i_t, b2i_f] at hq); exact hq) (Nat.le_refl _) (Nat.le_refl _)
    · skip
      rw [if_neg h1] at hok
      refine g_aload_n0 rfl d_X6_readLines_9 ?_
      refine g_iload_n1 rfl d_X6_readLines_10 ?_
      refine g_cut (pc' := 19) (vs' := [some (.ref (ka k 2)), some (.int l1)]) (st' := [.int (b2i (if l1 = 0 then true else false)), .ref (ka k 2)]) (M' := (81, ex, I1, J1, Pw w)) (fun hj => ?_) ?_
      · skip
        refine g_if_ne 18 d_X6_readLines_11 (by decide) (fun h2 => ?_) (fun h2 => ?_)
        · skip
          refine g_iconst 0 d_X6_readLines_18 (by decide) ?_
          (try simp only [if_neg h2, opv_eq, if_true, if_false, Bool.false_eq_true, reduceCtorEq, b2i_t, b2i_f] at hj); exact hj
        · skip
          refine g_iconst 1 d_X6_readLines_14 (by decide) ?_
          refine g_goto 19 d_X6_readLines_15 (by decide) ?_
          (try simp only [if_pos h2, opv_eq, if_true, if_false, Bool.false_eq_true, reduceCtorEq, b2i_t, b2i_f] at hj); exact hj
      · skip
        obtain ⟨ho1, hok⟩ := hok
        refine g_callV1 (c_X6_readLine I1 J1 w (if l1 = 0 then true else false) ho1) w_X6_readLine l_X6_62 d_X6_readLines_19 rfl (Nat.le_of_ble_eq_true rfl) rfl rfl (Nat.le_of_ble_eq_true rfl) ⟨Nat.le_of_ble_eq_true rfl, Nat.le_of_ble_eq_true rfl⟩ ⟨Nat.zero_le _, Nat.zero_le _⟩ ⟨rfl, rfl⟩ ?_
        refine g_ifnz 27 d_X6_readLines_22 (by decide) (fun h3 => ?_) (fun h3 => ?_)
        · skip
          rw [if_pos h3] at hok
          refine g_aload_n0 rfl d_X6_readLines_27 ?_
          obtain ⟨ho2, hok⟩ := hok
          refine g_callV0 (c_X6_nextToken (m_X6_readLine I1 J1 w (if l1 = 0 then true else false)) (j_X6_readLine I1 J1 w (if l1 = 0 then true else false))  ho2) w_X6_nextToken l_X6_66 d_X6_readLines_28 rfl (Nat.le_of_ble_eq_true rfl) rfl rfl (Nat.le_of_ble_eq_true rfl) ⟨Nat.le_of_ble_eq_true rfl, Nat.le_of_ble_eq_true rfl⟩ ⟨Nat.zero_le _, Nat.zero_le _⟩ ⟨rfl, rfl⟩ ?_
          refine G.toI (I' := (u0_X6_readLines w l1 I1 J1)) (by rw [u0_X6_readLines, opv_eq]) ?_
          refine G.toJ (J' := (u1_X6_readLines w l1 I1 J1)) (by rw [u1_X6_readLines, opv_eq]) ?_
          refine g_aload_n0 rfl d_X6_readLines_31 ?_
          refine g_getI f_X6_69 d_X6_readLines_32 rfl (Nat.le_of_ble_eq_true rfl) rfl ?_
          refine g_if_ne 40 d_X6_readLines_35 (by decide) (fun h4 => ?_) (fun h4 => ?_)
          · skip
            rw [if_neg h4] at hok
            refine g_aload_n0 rfl d_X6_readLines_40 ?_
            refine g_getI f_X6_69 d_X6_readLines_41 rfl (Nat.le_of_ble_eq_true rfl) rfl ?_
            refine g_iconst 3 d_X6_readLines_44 (by decide) ?_
            refine g_icmp_eq 54 d_X6_readLines_45 (by decide) (fun h5 => ?_) (fun h5 => ?_)
            · skip
              rw [if_pos h5] at hok
              refine g_ic1 (l1 + 1) rfl rfl d_X6_readLines_54 ?_
              refine g_goto 2 d_X6_readLines_57 (by decide) ?_
              exact ih (l1 + 1) (u0_X6_readLines w l1 I1 J1) (u1_X6_readLines w l1 I1 J1) (Nat.lt_of_lt_of_le (mu_le_lt (by decide) h1) (Nat.le_of_lt_succ hmu)) (by (try simp only [if_neg h1, if_pos h3, if_neg h4, if_pos h5, opv_eq, if_true, if_false, Bool.false_eq_true, reduceCtorEq, b2i_t, b2i_f] at hok); exact hok) (by (try simp only [lp_X6_readLines_2, if_neg h1, if_pos h3, if_neg h4, if_pos h5, opv_eq, if_true, if_false, Bool.false_eq_true, reduceCtorEq, b2i_t, b2i_f] at hq); exact hq)
            · skip
              refine g_aload_n0 rfl d_X6_readLines_48 ?_
              refine g_iconst 1 d_X6_readLines_49 (by decide) ?_
              refine g_callV1 (c_X6_fails (u0_X6_readLines w l1 I1 J1) 1) w_X6_fails l_X6_72 d_X6_readLines_50 rfl (Nat.le_of_ble_eq_true rfl) rfl rfl (Nat.le_of_ble_eq_true rfl) ⟨Nat.le_of_ble_eq_true rfl, Nat.le_of_ble_eq_true rfl⟩ ⟨Nat.zero_le _, Nat.zero_le _⟩ ⟨rfl, rfl⟩ ?_
              exact g_zret rfl (nar_b _) d_X6_readLines_53 (by (try simp only [lp_X6_readLines_2, if_neg h1, if_pos h3, if_neg h4, if_neg h5, opv_eq, if_true, if_false, Bool.false_eq_true, reduceCtorEq, b2i_t, b2i_f] at hq); exact hq) (Nat.le_refl _) (Nat.le_refl _)
          · skip
            refine g_iconst 1 d_X6_readLines_38 (by decide) ?_
            exact g_zret rfl (by decide) d_X6_readLines_39 (by (try simp only [lp_X6_readLines_2, if_neg h1, if_pos h3, if_pos h4, opv_eq, if_true, if_false, Bool.false_eq_true, reduceCtorEq, b2i_t, b2i_f] at hq); exact hq) (Nat.le_refl _) (Nat.le_refl _)
        · skip
          refine g_iconst 0 d_X6_readLines_25 (by decide) ?_
          exact g_zret rfl (by decide) d_X6_readLines_26 (by (try simp only [lp_X6_readLines_2, if_neg h1, if_neg (nb h3), opv_eq, if_true, if_false, Bool.false_eq_true, reduceCtorEq, b2i_t, b2i_f] at hq); exact hq) (Nat.le_refl _) (Nat.le_refl _)
noncomputable def f_X6_readLines (I : Nat → Nat → Int32) (J : Nat → Nat → Int64) (w : Bool)  : Bool := opv ((lp_X6_readLines_2 w (mu_le 900 0 + 1) 0 I J).1)
noncomputable def m_X6_readLines (I : Nat → Nat → Int32) (J : Nat → Nat → Int64) (w : Bool)  : Nat → Nat → Int32 := opv ((lp_X6_readLines_2 w (mu_le 900 0 + 1) 0 I J).2.1)
noncomputable def j_X6_readLines (I : Nat → Nat → Int32) (J : Nat → Nat → Int64) (w : Bool)  : Nat → Nat → Int64 := opv ((lp_X6_readLines_2 w (mu_le 900 0 + 1) 0 I J).2.2)
noncomputable def ok_X6_readLines (I : Nat → Nat → Int32) (J : Nat → Nat → Int64) (w : Bool)  : Prop := opv (oklp_X6_readLines_2 w (mu_le 900 0 + 1) 0 I J)
set_option maxHeartbeats 800000 in
set_option maxRecDepth 4000 in
theorem c_X6_readLines {k : KT} {ex : Bool} (I : Nat → Nat → Int32) (J : Nat → Nat → Int64) (w : Bool)   (hok : ok_X6_readLines I J w) : Cx k mX6_readLines 10 [.ref (ka k 2)] (81, ex, I, J, Pw w) (some (.int (b2i (f_X6_readLines I J w)))) (81, ex, m_X6_readLines I J w, j_X6_readLines I J w, Pw w) := by
  refine Ct.of rfl [some (.ref (ka k 2)), none] rfl rfl (Nat.le_of_ble_eq_true rfl) ?_
  rw [ok_X6_readLines, opv_eq] at hok
  refine g_iconst 0 d_X6_readLines_0 (by decide) ?_
  refine g_isn1 rfl d_X6_readLines_1 ?_
  exact k_lp_X6_readLines_2 w _ 0 I J (Nat.lt_succ_self _) hok ⟨by simp only [f_X6_readLines, m_X6_readLines, j_X6_readLines, opv_eq, if_true, if_false, Bool.false_eq_true, reduceCtorEq, b2i_t, b2i_f], by simp only [f_X6_readLines, m_X6_readLines, j_X6_readLines, opv_eq, if_true, if_false, Bool.false_eq_true, reduceCtorEq, b2i_t, b2i_f]⟩
