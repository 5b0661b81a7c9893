noncomputable def u0_X10_angleIn (I : Nat → Nat → Int32) (w : Bool) (x1 : Int32) : Int32 := opv (if (f_X10_refused I (f_X10_within I x1 0 60)) = true then (-1) else ((m_X2_behind (m_X10_refused I (f_X10_within I x1 0 60)) (td w) 23 x1) 47 0) + 9)
noncomputable def u1_X10_angleIn (I : Nat → Nat → Int32) (w : Bool) (x1 : Int32) : Nat → Nat → Int32 := opv (if (f_X10_refused I (f_X10_within I x1 0 60)) = true then (m_X10_refused I (f_X10_within I x1 0 60)) else (m_X2_behind (m_X10_refused I (f_X10_within I x1 0 60)) (td w) 23 x1))
noncomputable def f_X10_angleIn (I : Nat → Nat → Int32) (w : Bool) (x1 : Int32) : Int32 := opv (u0_X10_angleIn I w x1)
noncomputable def m_X10_angleIn (I : Nat → Nat → Int32) (w : Bool) (x1 : Int32) : Nat → Nat → Int32 := opv (u1_X10_angleIn I w x1)
noncomputable def ok_X10_angleIn (I : Nat → Nat → Int32) (w : Bool) (x1 : Int32) : Prop := opv (if (f_X10_refused I (f_X10_within I x1 0 60)) = true then True else ok_X2_behind (m_X10_refused I (f_X10_within I x1 0 60)) (td w) 23 x1)
set_option maxHeartbeats 800000 in
set_option maxRecDepth 4000 in
theorem c_X10_angleIn {k : KT} {ex : Bool} {J : Nat → Nat → Int64} (I : Nat → Nat → Int32) (w : Bool) (x1 : Int32)  (hok : ok_X10_angleIn I w x1) : Cx k mX10_angleIn 6 [.ref (ka k 0), .int x1] (81, ex, I, J, Pw w) (some (.int (f_X10_angleIn I w x1))) (81, ex, m_X10_angleIn I w x1, J, Pw w) := by
  refine Ct.of rfl [some (.ref (ka k 0)), some (.int x1)] rfl rfl (Nat.le_of_ble_eq_true rfl) ?_
  rw [ok_X10_angleIn, opv_eq] at hok
  refine g_aload_n0 rfl d_X10_angleIn_0 ?_
  refine g_iload_n1 rfl d_X10_angleIn_1 ?_
  refine g_iconst 0 d_X10_angleIn_2 (by decide) ?_
  refine g_bipush 60 d_X10_angleIn_3 (by decide) ?_
  refine g_callS1 (c_X10_within I x1 0 60) w_X10_within l_X10_73 d_X10_angleIn_5 rfl rfl (Nat.le_of_ble_eq_true rfl) ⟨Nat.le_of_ble_eq_true rfl, Nat.le_of_ble_eq_true rfl⟩ ⟨Nat.zero_le _, Nat.zero_le _⟩ ⟨rfl, rfl⟩ ?_
  refine g_callV1 (c_X10_refused I (f_X10_within I x1 0 60)) w_X10_refused l_X10_154 d_X10_angleIn_8 rfl (Nat.le_of_ble_eq_true rfl) rfl rfl (Nat.le_of_ble_eq_true rfl) ⟨Nat.le_of_ble_eq_true rfl, Nat.le_of_ble_eq_true rfl⟩ ⟨Nat.zero_le _, Nat.zero_le _⟩ ⟨rfl, rfl⟩ ?_
  refine g_cut (pc' := 40) (vs' := [some (.ref (ka k 0)), some (.int x1)]) (st' := [.int (u0_X10_angleIn I w x1)]) (M' := (81, ex, (u1_X10_angleIn I w x1), J, Pw w)) (fun hj => ?_) ?_
  · skip
    refine g_ifz 18 d_X10_angleIn_11 (by decide) (fun h1 => ?_) (fun h1 => ?_)
    · skip
      rw [if_neg (nb h1)] at hok
      refine g_aload_n0 rfl d_X10_angleIn_18 ?_
      refine g_getP (b := 46) f_X10_40 d_X10_angleIn_19 rfl (Nat.le_of_ble_eq_true rfl) rfl rfl ?_
      refine g_aload_n0 rfl d_X10_angleIn_22 ?_
      refine g_getP (b := td w) f_X10_19 d_X10_angleIn_23 rfl (Nat.le_of_ble_eq_true rfl) rfl rfl ?_
      refine g_aload_n0 rfl d_X10_angleIn_26 ?_
      refine g_getP (b := 23) f_X10_26 d_X10_angleIn_27 rfl (Nat.le_of_ble_eq_true rfl) rfl rfl ?_
      refine g_iload_n1 rfl d_X10_angleIn_30 ?_
      have ho1 := hok
      refine g_callV1 (c_X2_behind (m_X10_refused I (f_X10_within I x1 0 60)) (td w) (kd_td w) 23 rfl x1 ho1) w_X2_behind l_X10_163 d_X10_angleIn_31 rfl (Nat.le_of_ble_eq_true rfl) rfl rfl (Nat.le_of_ble_eq_true rfl) ⟨Nat.le_of_ble_eq_true rfl, Nat.le_of_ble_eq_true rfl⟩ ⟨Nat.zero_le _, Nat.zero_le _⟩ ⟨rfl, rfl⟩ ?_
      refine g_getI f_X10_117 d_X10_angleIn_34 rfl (Nat.le_of_ble_eq_true rfl) rfl ?_
      refine g_bipush 9 d_X10_angleIn_37 (by decide) ?_
      refine g_iadd d_X10_angleIn_39 ?_
      (try simp only [if_neg (nb h1), opv_eq, if_true, if_false, Bool.false_eq_true, reduceCtorEq, b2i_t, b2i_f, u0_X10_angleIn, u1_X10_angleIn] at hj); exact hj
    · skip
      refine g_iconst (-1) d_X10_angleIn_14 (by decide) ?_
      refine g_goto 40 d_X10_angleIn_15 (by decide) ?_
      (try simp only [if_pos h1, opv_eq, if_true, if_false, Bool.false_eq_true, reduceCtorEq, b2i_t, b2i_f, u0_X10_angleIn, u1_X10_angleIn] at hj); exact hj
  · skip
    exact g_iret rfl d_X10_angleIn_40 ⟨by simp only [f_X10_angleIn, m_X10_angleIn, opv_eq, if_true, if_false, Bool.false_eq_true, reduceCtorEq, b2i_t, b2i_f], by simp only [f_X10_angleIn, m_X10_angleIn, opv_eq, if_true, if_false, Bool.false_eq_true, reduceCtorEq, b2i_t, b2i_f]⟩ (Nat.le_refl _) (Nat.le_refl _)
noncomputable def u0_X10_dampIn (I : Nat → Nat → Int32) (w : Bool) (x1 : Int32) : Int32 := opv (if (f_X10_refused I (f_X10_within I x1 0 60)) = true then (-1) else (m_X2_behind (m_X10_refused I (f_X10_within I x1 0 60)) (td w) 23 x1) 47 1)
noncomputable def u1_X10_dampIn (I : Nat → Nat → Int32) (w : Bool) (x1 : Int32) : Nat → Nat → Int32 := opv (if (f_X10_refused I (f_X10_within I x1 0 60)) = true then (m_X10_refused I (f_X10_within I x1 0 60)) else (m_X2_behind (m_X10_refused I (f_X10_within I x1 0 60)) (td w) 23 x1))
noncomputable def f_X10_dampIn (I : Nat → Nat → Int32) (w : Bool) (x1 : Int32) : Int32 := opv (u0_X10_dampIn I w x1)
noncomputable def m_X10_dampIn (I : Nat → Nat → Int32) (w : Bool) (x1 : Int32) : Nat → Nat → Int32 := opv (u1_X10_dampIn I w x1)
noncomputable def ok_X10_dampIn (I : Nat → Nat → Int32) (w : Bool) (x1 : Int32) : Prop := opv (if (f_X10_refused I (f_X10_within I x1 0 60)) = true then True else ok_X2_behind (m_X10_refused I (f_X10_within I x1 0 60)) (td w) 23 x1)
set_option maxHeartbeats 800000 in
set_option maxRecDepth 4000 in
theorem c_X10_dampIn {k : KT} {ex : Bool} {J : Nat → Nat → Int64} (I : Nat → Nat → Int32) (w : Bool) (x1 : Int32)  (hok : ok_X10_dampIn I w x1) : Cx k mX10_dampIn 6 [.ref (ka k 0), .int x1] (81, ex, I, J, Pw w) (some (.int (f_X10_dampIn I w x1))) (81, ex, m_X10_dampIn I w x1, J, Pw w) := by
  refine Ct.of rfl [some (.ref (ka k 0)), some (.int x1)] rfl rfl (Nat.le_of_ble_eq_true rfl) ?_
  rw [ok_X10_dampIn, opv_eq] at hok
  refine g_aload_n0 rfl d_X10_dampIn_0 ?_
  refine g_iload_n1 rfl d_X10_dampIn_1 ?_
  refine g_iconst 0 d_X10_dampIn_2 (by decide) ?_
  refine g_bipush 60 d_X10_dampIn_3 (by decide) ?_
  refine g_callS1 (c_X10_within I x1 0 60) w_X10_within l_X10_73 d_X10_dampIn_5 rfl rfl (Nat.le_of_ble_eq_true rfl) ⟨Nat.le_of_ble_eq_true rfl, Nat.le_of_ble_eq_true rfl⟩ ⟨Nat.zero_le _, Nat.zero_le _⟩ ⟨rfl, rfl⟩ ?_
  refine g_callV1 (c_X10_refused I (f_X10_within I x1 0 60)) w_X10_refused l_X10_154 d_X10_dampIn_8 rfl (Nat.le_of_ble_eq_true rfl) rfl rfl (Nat.le_of_ble_eq_true rfl) ⟨Nat.le_of_ble_eq_true rfl, Nat.le_of_ble_eq_true rfl⟩ ⟨Nat.zero_le _, Nat.zero_le _⟩ ⟨rfl, rfl⟩ ?_
  refine g_cut (pc' := 37) (vs' := [some (.ref (ka k 0)), some (.int x1)]) (st' := [.int (u0_X10_dampIn I w x1)]) (M' := (81, ex, (u1_X10_dampIn I w x1), J, Pw w)) (fun hj => ?_) ?_
  · skip
    refine g_ifz 18 d_X10_dampIn_11 (by decide) (fun h1 => ?_) (fun h1 => ?_)
    · skip
      rw [if_neg (nb h1)] at hok
      refine g_aload_n0 rfl d_X10_dampIn_18 ?_
      refine g_getP (b := 46) f_X10_40 d_X10_dampIn_19 rfl (Nat.le_of_ble_eq_true rfl) rfl rfl ?_
      refine g_aload_n0 rfl d_X10_dampIn_22 ?_
      refine g_getP (b := td w) f_X10_19 d_X10_dampIn_23 rfl (Nat.le_of_ble_eq_true rfl) rfl rfl ?_
      refine g_aload_n0 rfl d_X10_dampIn_26 ?_
      refine g_getP (b := 23) f_X10_26 d_X10_dampIn_27 rfl (Nat.le_of_ble_eq_true rfl) rfl rfl ?_
      refine g_iload_n1 rfl d_X10_dampIn_30 ?_
      have ho1 := hok
      refine g_callV1 (c_X2_behind (m_X10_refused I (f_X10_within I x1 0 60)) (td w) (kd_td w) 23 rfl x1 ho1) w_X2_behind l_X10_163 d_X10_dampIn_31 rfl (Nat.le_of_ble_eq_true rfl) rfl rfl (Nat.le_of_ble_eq_true rfl) ⟨Nat.le_of_ble_eq_true rfl, Nat.le_of_ble_eq_true rfl⟩ ⟨Nat.zero_le _, Nat.zero_le _⟩ ⟨rfl, rfl⟩ ?_
      refine g_getI f_X10_120 d_X10_dampIn_34 rfl (Nat.le_of_ble_eq_true rfl) rfl ?_
      (try simp only [if_neg (nb h1), opv_eq, if_true, if_false, Bool.false_eq_true, reduceCtorEq, b2i_t, b2i_f, u0_X10_dampIn, u1_X10_dampIn] at hj); exact hj
    · skip
      refine g_iconst (-1) d_X10_dampIn_14 (by decide) ?_
      refine g_goto 37 d_X10_dampIn_15 (by decide) ?_
      (try simp only [if_pos h1, opv_eq, if_true, if_false, Bool.false_eq_true, reduceCtorEq, b2i_t, b2i_f, u0_X10_dampIn, u1_X10_dampIn] at hj); exact hj
  · skip
    exact g_iret rfl d_X10_dampIn_37 ⟨by simp only [f_X10_dampIn, m_X10_dampIn, opv_eq, if_true, if_false, Bool.false_eq_true, reduceCtorEq, b2i_t, b2i_f], by simp only [f_X10_dampIn, m_X10_dampIn, opv_eq, if_true, if_false, Bool.false_eq_true, reduceCtorEq, b2i_t, b2i_f]⟩ (Nat.le_refl _) (Nat.le_refl _)
noncomputable def u0_X10_whoIn (I : Nat → Nat → Int32) (w : Bool) (x1 : Int32) : Int32 := opv (if (f_X10_refused I (f_X10_within I x1 0 60)) = true then (-1) else f_X0_whoIsOut (m_X2_behind (m_X10_refused I (f_X10_within I x1 0 60)) (td w) 23 x1) 47)
noncomputable def u1_X10_whoIn (I : Nat → Nat → Int32) (w : Bool) (x1 : Int32) : Nat → Nat → Int32 := opv (if (f_X10_refused I (f_X10_within I x1 0 60)) = true then (m_X10_refused I (f_X10_within I x1 0 60)) else (m_X2_behind (m_X10_refused I (f_X10_within I x1 0 60)) (td w) 23 x1))
noncomputable def f_X10_whoIn (I : Nat → Nat → Int32) (w : Bool) (x1 : Int32) : Int32 := opv (u0_X10_whoIn I w x1)
noncomputable def m_X10_whoIn (I : Nat → Nat → Int32) (w : Bool) (x1 : Int32) : Nat → Nat → Int32 := opv (u1_X10_whoIn I w x1)
noncomputable def ok_X10_whoIn (I : Nat → Nat → Int32) (w : Bool) (x1 : Int32) : Prop := opv (if (f_X10_refused I (f_X10_within I x1 0 60)) = true then True else ok_X2_behind (m_X10_refused I (f_X10_within I x1 0 60)) (td w) 23 x1)
set_option maxHeartbeats 800000 in
set_option maxRecDepth 4000 in
theorem c_X10_whoIn {k : KT} {ex : Bool} {J : Nat → Nat → Int64} (I : Nat → Nat → Int32) (w : Bool) (x1 : Int32)  (hok : ok_X10_whoIn I w x1) : Cx k mX10_whoIn 6 [.ref (ka k 0), .int x1] (81, ex, I, J, Pw w) (some (.int (f_X10_whoIn I w x1))) (81, ex, m_X10_whoIn I w x1, J, Pw w) := by
  refine Ct.of rfl [some (.ref (ka k 0)), some (.int x1)] rfl rfl (Nat.le_of_ble_eq_true rfl) ?_
  rw [ok_X10_whoIn, opv_eq] at hok
  refine g_aload_n0 rfl d_X10_whoIn_0 ?_
  refine g_iload_n1 rfl d_X10_whoIn_1 ?_
  refine g_iconst 0 d_X10_whoIn_2 (by decide) ?_
  refine g_bipush 60 d_X10_whoIn_3 (by decide) ?_
  refine g_callS1 (c_X10_within I x1 0 60) w_X10_within l_X10_73 d_X10_whoIn_5 rfl rfl (Nat.le_of_ble_eq_true rfl) ⟨Nat.le_of_ble_eq_true rfl, Nat.le_of_ble_eq_true rfl⟩ ⟨Nat.zero_le _, Nat.zero_le _⟩ ⟨rfl, rfl⟩ ?_
  refine g_callV1 (c_X10_refused I (f_X10_within I x1 0 60)) w_X10_refused l_X10_154 d_X10_whoIn_8 rfl (Nat.le_of_ble_eq_true rfl) rfl rfl (Nat.le_of_ble_eq_true rfl) ⟨Nat.le_of_ble_eq_true rfl, Nat.le_of_ble_eq_true rfl⟩ ⟨Nat.zero_le _, Nat.zero_le _⟩ ⟨rfl, rfl⟩ ?_
  refine g_cut (pc' := 37) (vs' := [some (.ref (ka k 0)), some (.int x1)]) (st' := [.int (u0_X10_whoIn I w x1)]) (M' := (81, ex, (u1_X10_whoIn I w x1), J, Pw w)) (fun hj => ?_) ?_
  · skip
    refine g_ifz 18 d_X10_whoIn_11 (by decide) (fun h1 => ?_) (fun h1 => ?_)
    · skip
      rw [if_neg (nb h1)] at hok
      refine g_aload_n0 rfl d_X10_whoIn_18 ?_
      refine g_getP (b := 46) f_X10_40 d_X10_whoIn_19 rfl (Nat.le_of_ble_eq_true rfl) rfl rfl ?_
      refine g_aload_n0 rfl d_X10_whoIn_22 ?_
      refine g_getP (b := td w) f_X10_19 d_X10_whoIn_23 rfl (Nat.le_of_ble_eq_true rfl) rfl rfl ?_
      refine g_aload_n0 rfl d_X10_whoIn_26 ?_
      refine g_getP (b := 23) f_X10_26 d_X10_whoIn_27 rfl (Nat.le_of_ble_eq_true rfl) rfl rfl ?_
      refine g_iload_n1 rfl d_X10_whoIn_30 ?_
      have ho1 := hok
      refine g_callV1 (c_X2_behind (m_X10_refused I (f_X10_within I x1 0 60)) (td w) (kd_td w) 23 rfl x1 ho1) w_X2_behind l_X10_163 d_X10_whoIn_31 rfl (Nat.le_of_ble_eq_true rfl) rfl rfl (Nat.le_of_ble_eq_true rfl) ⟨Nat.le_of_ble_eq_true rfl, Nat.le_of_ble_eq_true rfl⟩ ⟨Nat.zero_le _, Nat.zero_le _⟩ ⟨rfl, rfl⟩ ?_
      refine g_callV1 (c_X0_whoIsOut (m_X2_behind (m_X10_refused I (f_X10_within I x1 0 60)) (td w) 23 x1) 47 rfl) w_X0_whoIsOut l_X10_123 d_X10_whoIn_34 rfl (Nat.le_of_ble_eq_true rfl) rfl rfl (Nat.le_of_ble_eq_true rfl) ⟨Nat.le_of_ble_eq_true rfl, Nat.le_of_ble_eq_true rfl⟩ ⟨Nat.zero_le _, Nat.zero_le _⟩ ⟨rfl, rfl⟩ ?_
      (try simp only [if_neg (nb h1), opv_eq, if_true, if_false, Bool.false_eq_true, reduceCtorEq, b2i_t, b2i_f, u0_X10_whoIn, u1_X10_whoIn] at hj); exact hj
    · skip
      refine g_iconst (-1) d_X10_whoIn_14 (by decide) ?_
      refine g_goto 37 d_X10_whoIn_15 (by decide) ?_
      (try simp only [if_pos h1, opv_eq, if_true, if_false, Bool.false_eq_true, reduceCtorEq, b2i_t, b2i_f, u0_X10_whoIn, u1_X10_whoIn] at hj); exact hj
  · skip
    exact g_iret rfl d_X10_whoIn_37 ⟨by simp only [f_X10_whoIn, m_X10_whoIn, opv_eq, if_true, if_false, Bool.false_eq_true, reduceCtorEq, b2i_t, b2i_f], by simp only [f_X10_whoIn, m_X10_whoIn, opv_eq, if_true, if_false, Bool.false_eq_true, reduceCtorEq, b2i_t, b2i_f]⟩ (Nat.le_refl _) (Nat.le_refl _)
noncomputable def u0_X10_daysOf (I : Nat → Nat → Int32) (x1 : Int32) (x2 : Int32) : Bool := opv (if (f_X10_within I x1 0 2) = true then (if (f_X10_within I x2 0 60) = true then true else false) else false)
noncomputable def u1_X10_daysOf (I : Nat → Nat → Int32) (w : Bool) (x1 : Int32) (x2 : Int32) : Nat → Nat → Int32 := opv (m_X2_daysWith (m_X10_refused I (u0_X10_daysOf I x1 x2)) (td w) 23 x1 x2)
noncomputable def u2_X10_daysOf (I : Nat → Nat → Int32) (w : Bool) (x1 : Int32) (x2 : Int32) : Int32 := opv (if (f_X10_refused I (u0_X10_daysOf I x1 x2)) = true then (-1) else f_X2_daysWith (m_X10_refused I (u0_X10_daysOf I x1 x2)) (td w) 23 x1 x2)
noncomputable def u3_X10_daysOf (I : Nat → Nat → Int32) (w : Bool) (x1 : Int32) (x2 : Int32) : Nat → Nat → Int32 := opv (if (f_X10_refused I (u0_X10_daysOf I x1 x2)) = true then (m_X10_refused I (u0_X10_daysOf I x1 x2)) else (u1_X10_daysOf I w x1 x2))
noncomputable def f_X10_daysOf (I : Nat → Nat → Int32) (w : Bool) (x1 : Int32) (x2 : Int32) : Int32 := opv (u2_X10_daysOf I w x1 x2)
noncomputable def m_X10_daysOf (I : Nat → Nat → Int32) (w : Bool) (x1 : Int32) (x2 : Int32) : Nat → Nat → Int32 := opv (u3_X10_daysOf I w x1 x2)
noncomputable def ok_X10_daysOf (I : Nat → Nat → Int32) (w : Bool) (x1 : Int32) (x2 : Int32) : Prop := opv (if (f_X10_refused I (u0_X10_daysOf I x1 x2)) = true then True else ok_X2_daysWith (m_X10_refused I (u0_X10_daysOf I x1 x2)) (td w) 23 x1 x2)
set_option maxHeartbeats 800000 in
set_option maxRecDepth 4000 in
theorem c_X10_daysOf {k : KT} {ex : Bool} {J : Nat → Nat → Int64} (I : Nat → Nat → Int32) (w : Bool) (x1 : Int32) (x2 : Int32)  (hok : ok_X10_daysOf I w x1 x2) : Cx k mX10_daysOf 6 [.ref (ka k 0), .int x1, .int x2] (81, ex, I, J, Pw w) (some (.int (f_X10_daysOf I w x1 x2))) (81, ex, m_X10_daysOf I w x1 x2, J, Pw w) := by
  refine Ct.of rfl [some (.ref (ka k 0)), some (.int x1), some (.int x2), none] rfl rfl (Nat.le_of_ble_eq_true rfl) ?_
  rw [ok_X10_daysOf, opv_eq] at hok
  refine g_iload_n1 rfl d_X10_daysOf_0 ?_
  refine g_iconst 0 d_X10_daysOf_1 (by decide) ?_
  refine g_iconst 2 d_X10_daysOf_2 (by decide) ?_
  refine g_callS1 (c_X10_within I x1 0 2) w_X10_within l_X10_73 d_X10_daysOf_3 rfl rfl (Nat.le_of_ble_eq_true rfl) ⟨Nat.le_of_ble_eq_true rfl, Nat.le_of_ble_eq_true rfl⟩ ⟨Nat.zero_le _, Nat.zero_le _⟩ ⟨rfl, rfl⟩ ?_
  refine g_cut (pc' := 24) (vs' := [some (.ref (ka k 0)), some (.int x1), some (.int x2), none]) (st' := [.int (b2i (u0_X10_daysOf I x1 x2))]) (M' := (81, ex, I, J, Pw w)) (fun hj => ?_) ?_
  · skip
    refine g_ifz 23 d_X10_daysOf_6 (by decide) (fun h1 => ?_) (fun h1 => ?_)
    · skip
      refine g_iconst 0 d_X10_daysOf_23 (by decide) ?_
      (try simp only [if_neg (nb h1), opv_eq, if_true, if_false, Bool.false_eq_true, reduceCtorEq, b2i_t, b2i_f, u0_X10_daysOf] at hj); exact hj
    · skip
      refine g_iload_n2 rfl d_X10_daysOf_9 ?_
      refine g_iconst 0 d_X10_daysOf_10 (by decide) ?_
      refine g_bipush 60 d_X10_daysOf_11 (by decide) ?_
      refine g_callS1 (c_X10_within I x2 0 60) w_X10_within l_X10_73 d_X10_daysOf_13 rfl rfl (Nat.le_of_ble_eq_true rfl) ⟨Nat.le_of_ble_eq_true rfl, Nat.le_of_ble_eq_true rfl⟩ ⟨Nat.zero_le _, Nat.zero_le _⟩ ⟨rfl, rfl⟩ ?_
      refine g_ifz 23 d_X10_daysOf_16 (by decide) (fun h2 => ?_) (fun h2 => ?_)
      · skip
        refine g_iconst 0 d_X10_daysOf_23 (by decide) ?_
        (try simp only [if_pos h1, if_neg (nb h2), opv_eq, if_true, if_false, Bool.false_eq_true, reduceCtorEq, b2i_t, b2i_f, u0_X10_daysOf] at hj); exact hj
      · skip
        refine g_iconst 1 d_X10_daysOf_19 (by decide) ?_
        refine g_goto 24 d_X10_daysOf_20 (by decide) ?_
        (try simp only [if_pos h1, if_pos h2, opv_eq, if_true, if_false, Bool.false_eq_true, reduceCtorEq, b2i_t, b2i_f, u0_X10_daysOf] at hj); exact hj
  · skip
    refine g_isn3 rfl d_X10_daysOf_24 ?_
    refine g_aload_n0 rfl d_X10_daysOf_25 ?_
    refine g_iload_n3 rfl d_X10_daysOf_26 ?_
    refine g_callV1 (c_X10_refused I (u0_X10_daysOf I x1 x2)) w_X10_refused l_X10_154 d_X10_daysOf_27 rfl (Nat.le_of_ble_eq_true rfl) rfl rfl (Nat.le_of_ble_eq_true rfl) ⟨Nat.le_of_ble_eq_true rfl, Nat.le_of_ble_eq_true rfl⟩ ⟨Nat.zero_le _, Nat.zero_le _⟩ ⟨rfl, rfl⟩ ?_
    refine g_cut (pc' := 54) (vs' := [some (.ref (ka k 0)), some (.int x1), some (.int x2), some (.int (b2i (u0_X10_daysOf I x1 x2)))]) (st' := [.int (u2_X10_daysOf I w x1 x2)]) (M' := (81, ex, (u3_X10_daysOf I w x1 x2), J, Pw w)) (fun hj => ?_) ?_
    · skip
      refine g_ifz 37 d_X10_daysOf_30 (by decide) (fun h3 => ?_) (fun h3 => ?_)
      · skip
        rw [if_neg (nb h3)] at hok
        refine g_aload_n0 rfl d_X10_daysOf_37 ?_
        refine g_getP (b := 46) f_X10_40 d_X10_daysOf_38 rfl (Nat.le_of_ble_eq_true rfl) rfl rfl ?_
        refine g_aload_n0 rfl d_X10_daysOf_41 ?_
        refine g_getP (b := td w) f_X10_19 d_X10_daysOf_42 rfl (Nat.le_of_ble_eq_true rfl) rfl rfl ?_
        refine g_aload_n0 rfl d_X10_daysOf_45 ?_
        refine g_getP (b := 23) f_X10_26 d_X10_daysOf_46 rfl (Nat.le_of_ble_eq_true rfl) rfl rfl ?_
        refine g_iload_n1 rfl d_X10_daysOf_49 ?_
        refine g_iload_n2 rfl d_X10_daysOf_50 ?_
        have ho1 := hok
        refine g_callV1 (c_X2_daysWith (m_X10_refused I (u0_X10_daysOf I x1 x2)) (td w) (kd_td w) 23 rfl x1 x2 ho1) w_X2_daysWith l_X10_167 d_X10_daysOf_51 rfl (Nat.le_of_ble_eq_true rfl) rfl rfl (Nat.le_of_ble_eq_true rfl) ⟨Nat.le_of_ble_eq_true rfl, Nat.le_of_ble_eq_true rfl⟩ ⟨Nat.zero_le _, Nat.zero_le _⟩ ⟨rfl, rfl⟩ ?_
        refine G.toI (I' := (u1_X10_daysOf I w x1 x2)) (by rw [u1_X10_daysOf, opv_eq]) ?_
        (try simp only [if_neg (nb h3), opv_eq, if_true, if_false, Bool.false_eq_true, reduceCtorEq, b2i_t, b2i_f, u2_X10_daysOf, u3_X10_daysOf] at hj); exact hj
      · skip
        refine g_iconst (-1) d_X10_daysOf_33 (by decide) ?_
        refine g_goto 54 d_X10_daysOf_34 (by decide) ?_
        (try simp only [if_pos h3, opv_eq, if_true, if_false, Bool.false_eq_true, reduceCtorEq, b2i_t, b2i_f, u2_X10_daysOf, u3_X10_daysOf] at hj); exact hj
    · skip
      exact g_iret rfl d_X10_daysOf_54 ⟨by simp only [f_X10_daysOf, m_X10_daysOf, opv_eq, if_true, if_false, Bool.false_eq_true, reduceCtorEq, b2i_t, b2i_f], by simp only [f_X10_daysOf, m_X10_daysOf, opv_eq, if_true, if_false, Bool.false_eq_true, reduceCtorEq, b2i_t, b2i_f]⟩ (Nat.le_refl _) (Nat.le_refl _)
noncomputable def u0_X10_when (I : Nat → Nat → Int32) (w : Bool) (x1 : Int32) : Nat → Nat → Int32 := opv (m_X2_daysUntil (m_X10_refused I (f_X10_within I x1 0 3)) (td w) 23 x1)
noncomputable def u1_X10_when (I : Nat → Nat → Int32) (w : Bool) (x1 : Int32) : Int32 := opv (if (f_X10_refused I (f_X10_within I x1 0 3)) = true then (-1) else f_X2_daysUntil (m_X10_refused I (f_X10_within I x1 0 3)) (td w) 23 x1)
noncomputable def u2_X10_when (I : Nat → Nat → Int32) (w : Bool) (x1 : Int32) : Nat → Nat → Int32 := opv (if (f_X10_refused I (f_X10_within I x1 0 3)) = true then (m_X10_refused I (f_X10_within I x1 0 3)) else (u0_X10_when I w x1))
noncomputable def f_X10_when (I : Nat → Nat → Int32) (w : Bool) (x1 : Int32) : Int32 := opv (u1_X10_when I w x1)
noncomputable def m_X10_when (I : Nat → Nat → Int32) (w : Bool) (x1 : Int32) : Nat → Nat → Int32 := opv (u2_X10_when I w x1)
noncomputable def ok_X10_when (I : Nat → Nat → Int32) (w : Bool) (x1 : Int32) : Prop := opv (if (f_X10_refused I (f_X10_within I x1 0 3)) = true then True else ok_X2_daysUntil (m_X10_refused I (f_X10_within I x1 0 3)) (td w) 23 x1)
set_option maxHeartbeats 800000 in
set_option maxRecDepth 4000 in
theorem c_X10_when {k : KT} {ex : Bool} {J : Nat → Nat → Int64} (I : Nat → Nat → Int32) (w : Bool) (x1 : Int32)  (hok : ok_X10_when I w x1) : Cx k mX10_when 6 [.ref (ka k 0), .int x1] (81, ex, I, J, Pw w) (some (.int (f_X10_when I w x1))) (81, ex, m_X10_when I w x1, J, Pw w) := by
  refine Ct.of rfl [some (.ref (ka k 0)), some (.int x1)] rfl rfl (Nat.le_of_ble_eq_true rfl) ?_
  rw [ok_X10_when, opv_eq] at hok
  refine g_aload_n0 rfl d_X10_when_0 ?_
  refine g_iload_n1 rfl d_X10_when_1 ?_
  refine g_iconst 0 d_X10_when_2 (by decide) ?_
  refine g_iconst 3 d_X10_when_3 (by decide) ?_
  refine g_callS1 (c_X10_within I x1 0 3) w_X10_within l_X10_73 d_X10_when_4 rfl rfl (Nat.le_of_ble_eq_true rfl) ⟨Nat.le_of_ble_eq_true rfl, Nat.le_of_ble_eq_true rfl⟩ ⟨Nat.zero_le _, Nat.zero_le _⟩ ⟨rfl, rfl⟩ ?_
  refine g_callV1 (c_X10_refused I (f_X10_within I x1 0 3)) w_X10_refused l_X10_154 d_X10_when_7 rfl (Nat.le_of_ble_eq_true rfl) rfl rfl (Nat.le_of_ble_eq_true rfl) ⟨Nat.le_of_ble_eq_true rfl, Nat.le_of_ble_eq_true rfl⟩ ⟨Nat.zero_le _, Nat.zero_le _⟩ ⟨rfl, rfl⟩ ?_
  refine g_cut (pc' := 33) (vs' := [some (.ref (ka k 0)), some (.int x1)]) (st' := [.int (u1_X10_when I w x1)]) (M' := (81, ex, (u2_X10_when I w x1), J, Pw w)) (fun hj => ?_) ?_
  · skip
    refine g_ifz 17 d_X10_when_10 (by decide) (fun h1 => ?_) (fun h1 => ?_)
    · skip
      rw [if_neg (nb h1)] at hok
      refine g_aload_n0 rfl d_X10_when_17 ?_
      refine g_getP (b := 46) f_X10_40 d_X10_when_18 rfl (Nat.le_of_ble_eq_true rfl) rfl rfl ?_
      refine g_aload_n0 rfl d_X10_when_21 ?_
      refine g_getP (b := td w) f_X10_19 d_X10_when_22 rfl (Nat.le_of_ble_eq_true rfl) rfl rfl ?_
      refine g_aload_n0 rfl d_X10_when_25 ?_
      refine g_getP (b := 23) f_X10_26 d_X10_when_26 rfl (Nat.le_of_ble_eq_true rfl) rfl rfl ?_
      refine g_iload_n1 rfl d_X10_when_29 ?_
      have ho1 := hok
      refine g_callV1 (c_X2_daysUntil (m_X10_refused I (f_X10_within I x1 0 3)) (td w) (kd_td w) 23 rfl x1 ho1) w_X2_daysUntil l_X10_171 d_X10_when_30 rfl (Nat.le_of_ble_eq_true rfl) rfl rfl (Nat.le_of_ble_eq_true rfl) ⟨Nat.le_of_ble_eq_true rfl, Nat.le_of_ble_eq_true rfl⟩ ⟨Nat.zero_le _, Nat.zero_le _⟩ ⟨rfl, rfl⟩ ?_
      refine G.toI (I' := (u0_X10_when I w x1)) (by rw [u0_X10_when, opv_eq]) ?_
      (try simp only [if_neg (nb h1), opv_eq, if_true, if_false, Bool.false_eq_true, reduceCtorEq, b2i_t, b2i_f, u1_X10_when, u2_X10_when] at hj); exact hj
    · skip
      refine g_iconst (-1) d_X10_when_13 (by decide) ?_
      refine g_goto 33 d_X10_when_14 (by decide) ?_
      (try simp only [if_pos h1, opv_eq, if_true, if_false, Bool.false_eq_true, reduceCtorEq, b2i_t, b2i_f, u1_X10_when, u2_X10_when] at hj); exact hj
  · skip
    exact g_iret rfl d_X10_when_33 ⟨by simp only [f_X10_when, m_X10_when, opv_eq, if_true, if_false, Bool.false_eq_true, reduceCtorEq, b2i_t, b2i_f], by simp only [f_X10_when, m_X10_when, opv_eq, if_true, if_false, Bool.false_eq_true, reduceCtorEq, b2i_t, b2i_f]⟩ (Nat.le_refl _) (Nat.le_refl _)
noncomputable def u0_X10_round (I : Nat → Nat → Int32) (w : Bool) : Int32 := opv (if (f_X10_refused I true) = true then (-1) else f_X2_goesRound (m_X10_refused I true) (td w) 23)
noncomputable def u1_X10_round (I : Nat → Nat → Int32) (w : Bool) : Nat → Nat → Int32 := opv (if (f_X10_refused I true) = true then (m_X10_refused I true) else (m_X2_goesRound (m_X10_refused I true) (td w) 23))
noncomputable def f_X10_round (I : Nat → Nat → Int32) (w : Bool)  : Int32 := opv (u0_X10_round I w)
noncomputable def m_X10_round (I : Nat → Nat → Int32) (w : Bool)  : Nat → Nat → Int32 := opv (u1_X10_round I w)
noncomputable def ok_X10_round (I : Nat → Nat → Int32) (w : Bool)  : Prop := opv (if (f_X10_refused I true) = true then True else ok_X2_goesRound (m_X10_refused I true) (td w) 23)
set_option maxHeartbeats 800000 in
set_option maxRecDepth 4000 in
theorem c_X10_round {k : KT} {ex : Bool} {J : Nat → Nat → Int64} (I : Nat → Nat → Int32) (w : Bool)   (hok : ok_X10_round I w) : Cx k mX10_round 6 [.ref (ka k 0)] (81, ex, I, J, Pw w) (some (.int (f_X10_round I w))) (81, ex, m_X10_round I w, J, Pw w) := by
  refine Ct.of rfl [some (.ref (ka k 0))] rfl rfl (Nat.le_of_ble_eq_true rfl) ?_
  rw [ok_X10_round, opv_eq] at hok
  refine g_aload_n0 rfl d_X10_round_0 ?_
  refine g_iconst 1 d_X10_round_1 (by decide) ?_
  refine g_callV1 (c_X10_refused I true) w_X10_refused l_X10_154 d_X10_round_2 rfl (Nat.le_of_ble_eq_true rfl) rfl rfl (Nat.le_of_ble_eq_true rfl) ⟨Nat.le_of_ble_eq_true rfl, Nat.le_of_ble_eq_true rfl⟩ ⟨Nat.zero_le _, Nat.zero_le _⟩ ⟨rfl, rfl⟩ ?_
  refine g_cut (pc' := 27) (vs' := [some (.ref (ka k 0))]) (st' := [.int (u0_X10_round I w)]) (M' := (81, ex, (u1_X10_round I w), J, Pw w)) (fun hj => ?_) ?_
  · skip
    refine g_ifz 12 d_X10_round_5 (by decide) (fun h1 => ?_) (fun h1 => ?_)
    · skip
      rw [if_neg (nb h1)] at hok
      refine g_aload_n0 rfl d_X10_round_12 ?_
      refine g_getP (b := 46) f_X10_40 d_X10_round_13 rfl (Nat.le_of_ble_eq_true rfl) rfl rfl ?_
      refine g_aload_n0 rfl d_X10_round_16 ?_
      refine g_getP (b := td w) f_X10_19 d_X10_round_17 rfl (Nat.le_of_ble_eq_true rfl) rfl rfl ?_
      refine g_aload_n0 rfl d_X10_round_20 ?_
      refine g_getP (b := 23) f_X10_26 d_X10_round_21 rfl (Nat.le_of_ble_eq_true rfl) rfl rfl ?_
      have ho1 := hok
      refine g_callV1 (c_X2_goesRound (m_X10_refused I true) (td w) (kd_td w) 23 rfl ho1) w_X2_goesRound l_X10_175 d_X10_round_24 rfl (Nat.le_of_ble_eq_true rfl) rfl rfl (Nat.le_of_ble_eq_true rfl) ⟨Nat.le_of_ble_eq_true rfl, Nat.le_of_ble_eq_true rfl⟩ ⟨Nat.zero_le _, Nat.zero_le _⟩ ⟨rfl, rfl⟩ ?_
      (try simp only [if_neg (nb h1), opv_eq, if_true, if_false, Bool.false_eq_true, reduceCtorEq, b2i_t, b2i_f, u0_X10_round, u1_X10_round] at hj); exact hj
    · skip
      refine g_iconst (-1) d_X10_round_8 (by decide) ?_
      refine g_goto 27 d_X10_round_9 (by decide) ?_
      (try simp only [if_pos h1, opv_eq, if_true, if_false, Bool.false_eq_true, reduceCtorEq, b2i_t, b2i_f, u0_X10_round, u1_X10_round] at hj); exact hj
  · skip
    exact g_iret rfl d_X10_round_27 ⟨by simp only [f_X10_round, m_X10_round, opv_eq, if_true, if_false, Bool.false_eq_true, reduceCtorEq, b2i_t, b2i_f], by simp only [f_X10_round, m_X10_round, opv_eq, if_true, if_false, Bool.false_eq_true, reduceCtorEq, b2i_t, b2i_f]⟩ (Nat.le_refl _) (Nat.le_refl _)
noncomputable def f_X10_kept (I : Nat → Nat → Int32) (w : Bool) (x1 : Int32) : Int32 := opv (if (f_X10_refused I (f_X10_within I x1 0 60)) = true then (-1) else f_X8_worthKept (m_X2_behind (m_X10_refused I (f_X10_within I x1 0 60)) (td w) 23 x1) (td w) 47 ((m_X2_behind (m_X10_refused I (f_X10_within I x1 0 60)) (td w) 23 x1) 23 6))
noncomputable def m_X10_kept (I : Nat → Nat → Int32) (w : Bool) (x1 : Int32) : Nat → Nat → Int32 := opv (if (f_X10_refused I (f_X10_within I x1 0 60)) = true then (m_X10_refused I (f_X10_within I x1 0 60)) else (m_X2_behind (m_X10_refused I (f_X10_within I x1 0 60)) (td w) 23 x1))
noncomputable def ok_X10_kept (I : Nat → Nat → Int32) (w : Bool) (x1 : Int32) : Prop := opv (if (f_X10_refused I (f_X10_within I x1 0 60)) = true then True else ok_X2_behind (m_X10_refused I (f_X10_within I x1 0 60)) (td w) 23 x1)
set_option maxHeartbeats 800000 in
set_option maxRecDepth 4000 in
theorem c_X10_kept {k : KT} {ex : Bool} {J : Nat → Nat → Int64} (I : Nat → Nat → Int32) (w : Bool) (x1 : Int32)  (hok : ok_X10_kept I w x1) : Cx k mX10_kept 6 [.ref (ka k 0), .int x1] (81, ex, I, J, Pw w) (some (.int (f_X10_kept I w x1))) (81, ex, m_X10_kept I w x1, J, Pw w) := by
  refine Ct.of rfl [some (.ref (ka k 0)), some (.int x1)] rfl rfl (Nat.le_of_ble_eq_true rfl) ?_
  rw [ok_X10_kept, opv_eq] at hok
  refine g_aload_n0 rfl d_X10_kept_0 ?_
  refine g_iload_n1 rfl d_X10_kept_1 ?_
  refine g_iconst 0 d_X10_kept_2 (by decide) ?_
  refine g_bipush 60 d_X10_kept_3 (by decide) ?_
  refine g_callS1 (c_X10_within I x1 0 60) w_X10_within l_X10_73 d_X10_kept_5 rfl rfl (Nat.le_of_ble_eq_true rfl) ⟨Nat.le_of_ble_eq_true rfl, Nat.le_of_ble_eq_true rfl⟩ ⟨Nat.zero_le _, Nat.zero_le _⟩ ⟨rfl, rfl⟩ ?_
  refine g_callV1 (c_X10_refused I (f_X10_within I x1 0 60)) w_X10_refused l_X10_154 d_X10_kept_8 rfl (Nat.le_of_ble_eq_true rfl) rfl rfl (Nat.le_of_ble_eq_true rfl) ⟨Nat.le_of_ble_eq_true rfl, Nat.le_of_ble_eq_true rfl⟩ ⟨Nat.zero_le _, Nat.zero_le _⟩ ⟨rfl, rfl⟩ ?_
  refine g_ifz 16 d_X10_kept_11 (by decide) (fun h1 => ?_) (fun h1 => ?_)
  · skip
    rw [if_neg (nb h1)] at hok
    refine g_aload_n0 rfl d_X10_kept_16 ?_
    refine g_getP (b := td w) f_X10_19 d_X10_kept_17 rfl (Nat.le_of_ble_eq_true rfl) rfl rfl ?_
    refine g_aload_n0 rfl d_X10_kept_20 ?_
    refine g_getP (b := 46) f_X10_40 d_X10_kept_21 rfl (Nat.le_of_ble_eq_true rfl) rfl rfl ?_
    refine g_aload_n0 rfl d_X10_kept_24 ?_
    refine g_getP (b := td w) f_X10_19 d_X10_kept_25 rfl (Nat.le_of_ble_eq_true rfl) rfl rfl ?_
    refine g_aload_n0 rfl d_X10_kept_28 ?_
    refine g_getP (b := 23) f_X10_26 d_X10_kept_29 rfl (Nat.le_of_ble_eq_true rfl) rfl rfl ?_
    refine g_iload_n1 rfl d_X10_kept_32 ?_
    have ho1 := hok
    refine g_callV1 (c_X2_behind (m_X10_refused I (f_X10_within I x1 0 60)) (td w) (kd_td w) 23 rfl x1 ho1) w_X2_behind l_X10_163 d_X10_kept_33 rfl (Nat.le_of_ble_eq_true rfl) rfl rfl (Nat.le_of_ble_eq_true rfl) ⟨Nat.le_of_ble_eq_true rfl, Nat.le_of_ble_eq_true rfl⟩ ⟨Nat.zero_le _, Nat.zero_le _⟩ ⟨rfl, rfl⟩ ?_
    refine g_aload_n0 rfl d_X10_kept_36 ?_
    refine g_getP (b := 23) f_X10_26 d_X10_kept_37 rfl (Nat.le_of_ble_eq_true rfl) rfl rfl ?_
    refine g_getI f_X10_179 d_X10_kept_40 rfl (Nat.le_of_ble_eq_true rfl) rfl ?_
    refine g_callV1 (c_X8_worthKept (m_X2_behind (m_X10_refused I (f_X10_within I x1 0 60)) (td w) 23 x1) (td w) (kd_td w) 47 rfl ((m_X2_behind (m_X10_refused I (f_X10_within I x1 0 60)) (td w) 23 x1) 23 6)) w_X8_worthKept l_X10_182 d_X10_kept_43 (kd_td w) (kd_sg (kd_td w) (by decide)) rfl rfl (Nat.le_of_ble_eq_true rfl) ⟨Nat.le_of_ble_eq_true rfl, Nat.le_of_ble_eq_true rfl⟩ ⟨Nat.zero_le _, Nat.zero_le _⟩ ⟨rfl, rfl⟩ ?_
    exact g_iret rfl d_X10_kept_46 ⟨by simp only [f_X10_kept, m_X10_kept, if_neg (nb h1), opv_eq, if_true, if_false, Bool.false_eq_true, reduceCtorEq, b2i_t, b2i_f], by simp only [f_X10_kept, m_X10_kept, if_neg (nb h1), opv_eq, if_true, if_false, Bool.false_eq_true, reduceCtorEq, b2i_t, b2i_f]⟩ (Nat.le_refl _) (Nat.le_refl _)
  · skip
    refine g_iconst (-1) d_X10_kept_14 (by decide) ?_
    exact g_iret rfl d_X10_kept_15 ⟨by simp only [f_X10_kept, m_X10_kept, if_pos h1, opv_eq, if_true, if_false, Bool.false_eq_true, reduceCtorEq, b2i_t, b2i_f], by simp only [f_X10_kept, m_X10_kept, if_pos h1, opv_eq, if_true, if_false, Bool.false_eq_true, reduceCtorEq, b2i_t, b2i_f]⟩ (Nat.le_refl _) (Nat.le_refl _)
noncomputable def u0_X10_worthOf (I : Nat → Nat → Int32) (w : Bool) (x1 : Int32) (x2 : Int32) : Bool := opv (if (f_X10_within I x2 1 4) = true then (if (f_X9_take I x1 x2 (I (rt (td w) 7) 3)) = true then true else false) else false)
noncomputable def u1_X10_worthOf (I : Nat → Nat → Int32) (w : Bool) (x1 : Int32) (x2 : Int32) : Nat → Nat → Int32 := opv (if (f_X10_within I x2 1 4) = true then (m_X9_take I x1 x2 (I (rt (td w) 7) 3)) else I)
noncomputable def u2_X10_worthOf (I : Nat → Nat → Int32) (w : Bool) (x1 : Int32) (x2 : Int32) : Nat → Nat → Int32 := opv (m_X9_worth (m_X10_refused (u1_X10_worthOf I w x1 x2) (u0_X10_worthOf I w x1 x2)) (td w) 23 x2)
noncomputable def u3_X10_worthOf (I : Nat → Nat → Int32) (w : Bool) (x1 : Int32) (x2 : Int32) : Int32 := opv (if (f_X10_refused (u1_X10_worthOf I w x1 x2) (u0_X10_worthOf I w x1 x2)) = true then (-1) else (f_X9_worth (m_X10_refused (u1_X10_worthOf I w x1 x2) (u0_X10_worthOf I w x1 x2)) (td w) 23 x2) + 1000)
noncomputable def u4_X10_worthOf (I : Nat → Nat → Int32) (w : Bool) (x1 : Int32) (x2 : Int32) : Nat → Nat → Int32 := opv (if (f_X10_refused (u1_X10_worthOf I w x1 x2) (u0_X10_worthOf I w x1 x2)) = true then (m_X10_refused (u1_X10_worthOf I w x1 x2) (u0_X10_worthOf I w x1 x2)) else (u2_X10_worthOf I w x1 x2))
noncomputable def f_X10_worthOf (I : Nat → Nat → Int32) (w : Bool) (x1 : Int32) (x2 : Int32) : Int32 := opv (u3_X10_worthOf I w x1 x2)
noncomputable def m_X10_worthOf (I : Nat → Nat → Int32) (w : Bool) (x1 : Int32) (x2 : Int32) : Nat → Nat → Int32 := opv (u4_X10_worthOf I w x1 x2)
noncomputable def ok_X10_worthOf (I : Nat → Nat → Int32) (w : Bool) (x1 : Int32) (x2 : Int32) : Prop := opv ((if (f_X10_within I x2 1 4) = true then ok_X9_take I x1 x2 (I (rt (td w) 7) 3) else True) ∧ (if (f_X10_refused (u1_X10_worthOf I w x1 x2) (u0_X10_worthOf I w x1 x2)) = true then True else ok_X9_worth (m_X10_refused (u1_X10_worthOf I w x1 x2) (u0_X10_worthOf I w x1 x2)) (td w) 23 x2))
set_option maxHeartbeats 800000 in
set_option maxRecDepth 4000 in
theorem c_X10_worthOf {k : KT} {ex : Bool} {J : Nat → Nat → Int64} (I : Nat → Nat → Int32) (w : Bool) (x1 : Int32) (x2 : Int32)  (hok : ok_X10_worthOf I w x1 x2) : Cx k mX10_worthOf 8 [.ref (ka k 0), .int x1, .int x2] (81, ex, I, J, Pw w) (some (.int (f_X10_worthOf I w x1 x2))) (81, ex, m_X10_worthOf I w x1 x2, J, Pw w) := by
  refine Ct.of rfl [some (.ref (ka k 0)), some (.int x1), some (.int x2), none] rfl rfl (Nat.le_of_ble_eq_true rfl) ?_
  rw [ok_X10_worthOf, opv_eq] at hok
  refine g_iload_n2 rfl d_X10_worthOf_0 ?_
  refine g_iconst 1 d_X10_worthOf_1 (by decide) ?_
  refine g_iconst 4 d_X10_worthOf_2 (by decide) ?_
  refine g_callS1 (c_X10_within I x2 1 4) w_X10_within l_X10_73 d_X10_worthOf_3 rfl rfl (Nat.le_of_ble_eq_true rfl) ⟨Nat.le_of_ble_eq_true rfl, Nat.le_of_ble_eq_true rfl⟩ ⟨Nat.zero_le _, Nat.zero_le _⟩ ⟨rfl, rfl⟩ ?_
  obtain ⟨hoa, hob⟩ := hok
  refine g_cut (pc' := 36) (vs' := [some (.ref (ka k 0)), some (.int x1), some (.int x2), none]) (st' := [.int (b2i (u0_X10_worthOf I w x1 x2))]) (M' := (81, ex, (u1_X10_worthOf I w x1 x2), J, Pw w)) (fun hj => ?_) ?_
  · skip
    refine g_ifz 35 d_X10_worthOf_6 (by decide) (fun h1 => ?_) (fun h1 => ?_)
    · skip
      refine g_iconst 0 d_X10_worthOf_35 (by decide) ?_
      (try simp only [if_neg (nb h1), opv_eq, if_true, if_false, Bool.false_eq_true, reduceCtorEq, b2i_t, b2i_f, u0_X10_worthOf, u1_X10_worthOf] at hj); exact hj
    · skip
      rw [if_pos h1] at hoa
      refine g_aload_n0 rfl d_X10_worthOf_9 ?_
      refine g_getP (b := 49) f_X10_47 d_X10_worthOf_10 rfl (Nat.le_of_ble_eq_true rfl) rfl rfl ?_
      refine g_iload_n1 rfl d_X10_worthOf_13 ?_
      refine g_iload_n2 rfl d_X10_worthOf_14 ?_
      refine g_aload_n0 rfl d_X10_worthOf_15 ?_
      refine g_getP (b := td w) f_X10_19 d_X10_worthOf_16 rfl (Nat.le_of_ble_eq_true rfl) rfl rfl ?_
      refine g_getP (b := rt (td w) 7) f_X10_104 d_X10_worthOf_19 (kd_td w) (kd_sg (kd_td w) (by decide)) rfl (pw_rt (kd_td w) (by decide) (by decide)) ?_
      refine g_getI f_X10_108 d_X10_worthOf_22 (kt7 (kd_td w)).1 (kd_sg ((kt7 (kd_td w)).1) (by decide)) rfl ?_
      have ho1 := hoa
      refine g_callV1 (c_X9_take I x1 x2 (I (rt (td w) 7) 3) ho1) w_X9_take l_X10_186 d_X10_worthOf_25 rfl (Nat.le_of_ble_eq_true rfl) rfl rfl (Nat.le_of_ble_eq_true rfl) ⟨Nat.le_of_ble_eq_true rfl, Nat.le_of_ble_eq_true rfl⟩ ⟨Nat.zero_le _, Nat.zero_le _⟩ ⟨rfl, rfl⟩ ?_
      refine g_ifz 35 d_X10_worthOf_28 (by decide) (fun h2 => ?_) (fun h2 => ?_)
      · skip
        refine g_iconst 0 d_X10_worthOf_35 (by decide) ?_
        (try simp only [if_pos h1, if_neg (nb h2), opv_eq, if_true, if_false, Bool.false_eq_true, reduceCtorEq, b2i_t, b2i_f, u0_X10_worthOf, u1_X10_worthOf] at hj); exact hj
      · skip
        refine g_iconst 1 d_X10_worthOf_31 (by decide) ?_
        refine g_goto 36 d_X10_worthOf_32 (by decide) ?_
        (try simp only [if_pos h1, if_pos h2, opv_eq, if_true, if_false, Bool.false_eq_true, reduceCtorEq, b2i_t, b2i_f, u0_X10_worthOf, u1_X10_worthOf] at hj); exact hj
  · skip
    refine g_isn3 rfl d_X10_worthOf_36 ?_
    refine g_aload_n0 rfl d_X10_worthOf_37 ?_
    refine g_iload_n3 rfl d_X10_worthOf_38 ?_
    refine g_callV1 (c_X10_refused (u1_X10_worthOf I w x1 x2) (u0_X10_worthOf I w x1 x2)) w_X10_refused l_X10_154 d_X10_worthOf_39 rfl (Nat.le_of_ble_eq_true rfl) rfl rfl (Nat.le_of_ble_eq_true rfl) ⟨Nat.le_of_ble_eq_true rfl, Nat.le_of_ble_eq_true rfl⟩ ⟨Nat.zero_le _, Nat.zero_le _⟩ ⟨rfl, rfl⟩ ?_
    refine g_cut (pc' := 69) (vs' := [some (.ref (ka k 0)), some (.int x1), some (.int x2), some (.int (b2i (u0_X10_worthOf I w x1 x2)))]) (st' := [.int (u3_X10_worthOf I w x1 x2)]) (M' := (81, ex, (u4_X10_worthOf I w x1 x2), J, Pw w)) (fun hj => ?_) ?_
    · skip
      refine g_ifz 49 d_X10_worthOf_42 (by decide) (fun h3 => ?_) (fun h3 => ?_)
      · skip
        rw [if_neg (nb h3)] at hob
        refine g_aload_n0 rfl d_X10_worthOf_49 ?_
        refine g_getP (b := 49) f_X10_47 d_X10_worthOf_50 rfl (Nat.le_of_ble_eq_true rfl) rfl rfl ?_
        refine g_aload_n0 rfl d_X10_worthOf_53 ?_
        refine g_getP (b := td w) f_X10_19 d_X10_worthOf_54 rfl (Nat.le_of_ble_eq_true rfl) rfl rfl ?_
        refine g_aload_n0 rfl d_X10_worthOf_57 ?_
        refine g_getP (b := 23) f_X10_26 d_X10_worthOf_58 rfl (Nat.le_of_ble_eq_true rfl) rfl rfl ?_
        refine g_iload_n2 rfl d_X10_worthOf_61 ?_
        have ho2 := hob
        refine g_callV1 (c_X9_worth (m_X10_refused (u1_X10_worthOf I w x1 x2) (u0_X10_worthOf I w x1 x2)) (td w) (kd_td w) 23 rfl x2 ho2) w_X9_worth l_X10_189 d_X10_worthOf_62 rfl (Nat.le_of_ble_eq_true rfl) rfl rfl (Nat.le_of_ble_eq_true rfl) ⟨Nat.le_of_ble_eq_true rfl, Nat.le_of_ble_eq_true rfl⟩ ⟨Nat.zero_le _, Nat.zero_le _⟩ ⟨rfl, rfl⟩ ?_
        refine G.toI (I' := (u2_X10_worthOf I w x1 x2)) (by rw [u2_X10_worthOf, opv_eq]) ?_
        refine g_sipush 1000 d_X10_worthOf_65 (by decide) ?_
        refine g_iadd d_X10_worthOf_68 ?_
        (try simp only [if_neg (nb h3), opv_eq, if_true, if_false, Bool.false_eq_true, reduceCtorEq, b2i_t, b2i_f, u3_X10_worthOf, u4_X10_worthOf] at hj); exact hj
      · skip
        refine g_iconst (-1) d_X10_worthOf_45 (by decide) ?_
        refine g_goto 69 d_X10_worthOf_46 (by decide) ?_
        (try simp only [if_pos h3, opv_eq, if_true, if_false, Bool.false_eq_true, reduceCtorEq, b2i_t, b2i_f, u3_X10_worthOf, u4_X10_worthOf] at hj); exact hj
    · skip
      exact g_iret rfl d_X10_worthOf_69 ⟨by simp only [f_X10_worthOf, m_X10_worthOf, opv_eq, if_true, if_false, Bool.false_eq_true, reduceCtorEq, b2i_t, b2i_f], by simp only [f_X10_worthOf, m_X10_worthOf, opv_eq, if_true, if_false, Bool.false_eq_true, reduceCtorEq, b2i_t, b2i_f]⟩ (Nat.le_refl _) (Nat.le_refl _)
noncomputable def f_X10_bestRow (I : Nat → Nat → Int32) (w : Bool) (x1 : Int32) : Int32 := opv (if (f_X10_refused I (f_X10_within I x1 1 4)) = true then (-1) else (m_X9_search (m_X10_refused I (f_X10_within I x1 1 4)) (td w) 23 x1 4) 49 0)
noncomputable def m_X10_bestRow (I : Nat → Nat → Int32) (w : Bool) (x1 : Int32) : Nat → Nat → Int32 := opv (if (f_X10_refused I (f_X10_within I x1 1 4)) = true then (m_X10_refused I (f_X10_within I x1 1 4)) else (m_X9_search (m_X10_refused I (f_X10_within I x1 1 4)) (td w) 23 x1 4))
noncomputable def ok_X10_bestRow (I : Nat → Nat → Int32) (w : Bool) (x1 : Int32) : Prop := opv (if (f_X10_refused I (f_X10_within I x1 1 4)) = true then True else ok_X9_search (m_X10_refused I (f_X10_within I x1 1 4)) (td w) 23 x1 4)
set_option maxHeartbeats 800000 in
set_option maxRecDepth 4000 in
theorem c_X10_bestRow {k : KT} {ex : Bool} {J : Nat → Nat → Int64} (I : Nat → Nat → Int32) (w : Bool) (x1 : Int32)  (hok : ok_X10_bestRow I w x1) : Cx k mX10_bestRow 8 [.ref (ka k 0), .int x1] (81, ex, I, J, Pw w) (some (.int (f_X10_bestRow I w x1))) (81, ex, m_X10_bestRow I w x1, J, Pw w) := by
  refine Ct.of rfl [some (.ref (ka k 0)), some (.int x1)] rfl rfl (Nat.le_of_ble_eq_true rfl) ?_
  rw [ok_X10_bestRow, opv_eq] at hok
  refine g_aload_n0 rfl d_X10_bestRow_0 ?_
  refine g_iload_n1 rfl d_X10_bestRow_1 ?_
  refine g_iconst 1 d_X10_bestRow_2 (by decide) ?_
  refine g_iconst 4 d_X10_bestRow_3 (by decide) ?_
  refine g_callS1 (c_X10_within I x1 1 4) w_X10_within l_X10_73 d_X10_bestRow_4 rfl rfl (Nat.le_of_ble_eq_true rfl) ⟨Nat.le_of_ble_eq_true rfl, Nat.le_of_ble_eq_true rfl⟩ ⟨Nat.zero_le _, Nat.zero_le _⟩ ⟨rfl, rfl⟩ ?_
  refine g_callV1 (c_X10_refused I (f_X10_within I x1 1 4)) w_X10_refused l_X10_154 d_X10_bestRow_7 rfl (Nat.le_of_ble_eq_true rfl) rfl rfl (Nat.le_of_ble_eq_true rfl) ⟨Nat.le_of_ble_eq_true rfl, Nat.le_of_ble_eq_true rfl⟩ ⟨Nat.zero_le _, Nat.zero_le _⟩ ⟨rfl, rfl⟩ ?_
  refine g_ifz 15 d_X10_bestRow_10 (by decide) (fun h1 => ?_) (fun h1 => ?_)
  · skip
    rw [if_neg (nb h1)] at hok
    refine g_aload_n0 rfl d_X10_bestRow_15 ?_
    refine g_getP (b := 49) f_X10_47 d_X10_bestRow_16 rfl (Nat.le_of_ble_eq_true rfl) rfl rfl ?_
    refine g_aload_n0 rfl d_X10_bestRow_19 ?_
    refine g_getP (b := td w) f_X10_19 d_X10_bestRow_20 rfl (Nat.le_of_ble_eq_true rfl) rfl rfl ?_
    refine g_aload_n0 rfl d_X10_bestRow_23 ?_
    refine g_getP (b := 23) f_X10_26 d_X10_bestRow_24 rfl (Nat.le_of_ble_eq_true rfl) rfl rfl ?_
    refine g_iload_n1 rfl d_X10_bestRow_27 ?_
    refine g_iconst 4 d_X10_bestRow_28 (by decide) ?_
    have ho1 := hok
    refine g_callV0 (c_X9_search (m_X10_refused I (f_X10_within I x1 1 4)) (td w) (kd_td w) 23 rfl x1 4 ho1) w_X9_search l_X10_192 d_X10_bestRow_29 rfl (Nat.le_of_ble_eq_true rfl) rfl rfl (Nat.le_of_ble_eq_true rfl) ⟨Nat.le_of_ble_eq_true rfl, Nat.le_of_ble_eq_true rfl⟩ ⟨Nat.zero_le _, Nat.zero_le _⟩ ⟨rfl, rfl⟩ ?_
    refine g_aload_n0 rfl d_X10_bestRow_32 ?_
    refine g_getP (b := 49) f_X10_47 d_X10_bestRow_33 rfl (Nat.le_of_ble_eq_true rfl) rfl rfl ?_
    refine g_getI f_X10_196 d_X10_bestRow_36 rfl (Nat.le_of_ble_eq_true rfl) rfl ?_
    exact g_iret rfl d_X10_bestRow_39 ⟨by simp only [f_X10_bestRow, m_X10_bestRow, if_neg (nb h1), opv_eq, if_true, if_false, Bool.false_eq_true, reduceCtorEq, b2i_t, b2i_f], by simp only [f_X10_bestRow, m_X10_bestRow, if_neg (nb h1), opv_eq, if_true, if_false, Bool.false_eq_true, reduceCtorEq, b2i_t, b2i_f]⟩ (Nat.le_refl _) (Nat.le_refl _)
  · skip
    refine g_iconst (-1) d_X10_bestRow_13 (by decide) ?_
    exact g_iret rfl d_X10_bestRow_14 ⟨by simp only [f_X10_bestRow, m_X10_bestRow, if_pos h1, opv_eq, if_true, if_false, Bool.false_eq_true, reduceCtorEq, b2i_t, b2i_f], by simp only [f_X10_bestRow, m_X10_bestRow, if_pos h1, opv_eq, if_true, if_false, Bool.false_eq_true, reduceCtorEq, b2i_t, b2i_f]⟩ (Nat.le_refl _) (Nat.le_refl _)
noncomputable def f_X10_bestWorth (I : Nat → Nat → Int32) (w : Bool) (x1 : Int32) : Int32 := opv (if (f_X10_refused I (f_X10_within I x1 1 4)) = true then (-1) else ((m_X9_search (m_X10_refused I (f_X10_within I x1 1 4)) (td w) 23 x1 4) 49 1) + 1000)
noncomputable def m_X10_bestWorth (I : Nat → Nat → Int32) (w : Bool) (x1 : Int32) : Nat → Nat → Int32 := opv (if (f_X10_refused I (f_X10_within I x1 1 4)) = true then (m_X10_refused I (f_X10_within I x1 1 4)) else (m_X9_search (m_X10_refused I (f_X10_within I x1 1 4)) (td w) 23 x1 4))
noncomputable def ok_X10_bestWorth (I : Nat → Nat → Int32) (w : Bool) (x1 : Int32) : Prop := opv (if (f_X10_refused I (f_X10_within I x1 1 4)) = true then True else ok_X9_search (m_X10_refused I (f_X10_within I x1 1 4)) (td w) 23 x1 4)
set_option maxHeartbeats 800000 in
set_option maxRecDepth 4000 in
theorem c_X10_bestWorth {k : KT} {ex : Bool} {J : Nat → Nat → Int64} (I : Nat → Nat → Int32) (w : Bool) (x1 : Int32)  (hok : ok_X10_bestWorth I w x1) : Cx k mX10_bestWorth 8 [.ref (ka k 0), .int x1] (81, ex, I, J, Pw w) (some (.int (f_X10_bestWorth I w x1))) (81, ex, m_X10_bestWorth I w x1, J, Pw w) := by
  refine Ct.of rfl [some (.ref (ka k 0)), some (.int x1)] rfl rfl (Nat.le_of_ble_eq_true rfl) ?_
  rw [ok_X10_bestWorth, opv_eq] at hok
  refine g_aload_n0 rfl d_X10_bestWorth_0 ?_
  refine g_iload_n1 rfl d_X10_bestWorth_1 ?_
  refine g_iconst 1 d_X10_bestWorth_2 (by decide) ?_
  refine g_iconst 4 d_X10_bestWorth_3 (by decide) ?_
  refine g_callS1 (c_X10_within I x1 1 4) w_X10_within l_X10_73 d_X10_bestWorth_4 rfl rfl (Nat.le_of_ble_eq_true rfl) ⟨Nat.le_of_ble_eq_true rfl, Nat.le_of_ble_eq_true rfl⟩ ⟨Nat.zero_le _, Nat.zero_le _⟩ ⟨rfl, rfl⟩ ?_
  refine g_callV1 (c_X10_refused I (f_X10_within I x1 1 4)) w_X10_refused l_X10_154 d_X10_bestWorth_7 rfl (Nat.le_of_ble_eq_true rfl) rfl rfl (Nat.le_of_ble_eq_true rfl) ⟨Nat.le_of_ble_eq_true rfl, Nat.le_of_ble_eq_true rfl⟩ ⟨Nat.zero_le _, Nat.zero_le _⟩ ⟨rfl, rfl⟩ ?_
  refine g_ifz 15 d_X10_bestWorth_10 (by decide) (fun h1 => ?_) (fun h1 => ?_)
  · skip
    rw [if_neg (nb h1)] at hok
    refine g_aload_n0 rfl d_X10_bestWorth_15 ?_
    refine g_getP (b := 49) f_X10_47 d_X10_bestWorth_16 rfl (Nat.le_of_ble_eq_true rfl) rfl rfl ?_
    refine g_aload_n0 rfl d_X10_bestWorth_19 ?_
    refine g_getP (b := td w) f_X10_19 d_X10_bestWorth_20 rfl (Nat.le_of_ble_eq_true rfl) rfl rfl ?_
    refine g_aload_n0 rfl d_X10_bestWorth_23 ?_
    refine g_getP (b := 23) f_X10_26 d_X10_bestWorth_24 rfl (Nat.le_of_ble_eq_true rfl) rfl rfl ?_
    refine g_iload_n1 rfl d_X10_bestWorth_27 ?_
    refine g_iconst 4 d_X10_bestWorth_28 (by decide) ?_
    have ho1 := hok
    refine g_callV0 (c_X9_search (m_X10_refused I (f_X10_within I x1 1 4)) (td w) (kd_td w) 23 rfl x1 4 ho1) w_X9_search l_X10_192 d_X10_bestWorth_29 rfl (Nat.le_of_ble_eq_true rfl) rfl rfl (Nat.le_of_ble_eq_true rfl) ⟨Nat.le_of_ble_eq_true rfl, Nat.le_of_ble_eq_true rfl⟩ ⟨Nat.zero_le _, Nat.zero_le _⟩ ⟨rfl, rfl⟩ ?_
    refine g_aload_n0 rfl d_X10_bestWorth_32 ?_
    refine g_getP (b := 49) f_X10_47 d_X10_bestWorth_33 rfl (Nat.le_of_ble_eq_true rfl) rfl rfl ?_
    refine g_getI f_X10_199 d_X10_bestWorth_36 rfl (Nat.le_of_ble_eq_true rfl) rfl ?_
    refine g_sipush 1000 d_X10_bestWorth_39 (by decide) ?_
    refine g_iadd d_X10_bestWorth_42 ?_
    exact g_iret rfl d_X10_bestWorth_43 ⟨by simp only [f_X10_bestWorth, m_X10_bestWorth, if_neg (nb h1), opv_eq, if_true, if_false, Bool.false_eq_true, reduceCtorEq, b2i_t, b2i_f], by simp only [f_X10_bestWorth, m_X10_bestWorth, if_neg (nb h1), opv_eq, if_true, if_false, Bool.false_eq_true, reduceCtorEq, b2i_t, b2i_f]⟩ (Nat.le_refl _) (Nat.le_refl _)
  · skip
    refine g_iconst (-1) d_X10_bestWorth_13 (by decide) ?_
    exact g_iret rfl d_X10_bestWorth_14 ⟨by simp only [f_X10_bestWorth, m_X10_bestWorth, if_pos h1, opv_eq, if_true, if_false, Bool.false_eq_true, reduceCtorEq, b2i_t, b2i_f], by simp only [f_X10_bestWorth, m_X10_bestWorth, if_pos h1, opv_eq, if_true, if_false, Bool.false_eq_true, reduceCtorEq, b2i_t, b2i_f]⟩ (Nat.le_refl _) (Nat.le_refl _)
noncomputable def f_X10_sureRow (I : Nat → Nat → Int32) (w : Bool) (x1 : Int32) : Int32 := opv (if (f_X10_refused I (f_X10_within I x1 1 4)) = true then (-1) else (m_X9_search (m_X10_refused I (f_X10_within I x1 1 4)) (td w) 23 x1 5) 49 0)
noncomputable def m_X10_sureRow (I : Nat → Nat → Int32) (w : Bool) (x1 : Int32) : Nat → Nat → Int32 := opv (if (f_X10_refused I (f_X10_within I x1 1 4)) = true then (m_X10_refused I (f_X10_within I x1 1 4)) else (m_X9_search (m_X10_refused I (f_X10_within I x1 1 4)) (td w) 23 x1 5))
noncomputable def ok_X10_sureRow (I : Nat → Nat → Int32) (w : Bool) (x1 : Int32) : Prop := opv (if (f_X10_refused I (f_X10_within I x1 1 4)) = true then True else ok_X9_search (m_X10_refused I (f_X10_within I x1 1 4)) (td w) 23 x1 5)
set_option maxHeartbeats 800000 in
set_option maxRecDepth 4000 in
theorem c_X10_sureRow {k : KT} {ex : Bool} {J : Nat → Nat → Int64} (I : Nat → Nat → Int32) (w : Bool) (x1 : Int32)  (hok : ok_X10_sureRow I w x1) : Cx k mX10_sureRow 8 [.ref (ka k 0), .int x1] (81, ex, I, J, Pw w) (some (.int (f_X10_sureRow I w x1))) (81, ex, m_X10_sureRow I w x1, J, Pw w) := by
  refine Ct.of rfl [some (.ref (ka k 0)), some (.int x1)] rfl rfl (Nat.le_of_ble_eq_true rfl) ?_
  rw [ok_X10_sureRow, opv_eq] at hok
  refine g_aload_n0 rfl d_X10_sureRow_0 ?_
  refine g_iload_n1 rfl d_X10_sureRow_1 ?_
  refine g_iconst 1 d_X10_sureRow_2 (by decide) ?_
  refine g_iconst 4 d_X10_sureRow_3 (by decide) ?_
  refine g_callS1 (c_X10_within I x1 1 4) w_X10_within l_X10_73 d_X10_sureRow_4 rfl rfl (Nat.le_of_ble_eq_true rfl) ⟨Nat.le_of_ble_eq_true rfl, Nat.le_of_ble_eq_true rfl⟩ ⟨Nat.zero_le _, Nat.zero_le _⟩ ⟨rfl, rfl⟩ ?_
  refine g_callV1 (c_X10_refused I (f_X10_within I x1 1 4)) w_X10_refused l_X10_154 d_X10_sureRow_7 rfl (Nat.le_of_ble_eq_true rfl) rfl rfl (Nat.le_of_ble_eq_true rfl) ⟨Nat.le_of_ble_eq_true rfl, Nat.le_of_ble_eq_true rfl⟩ ⟨Nat.zero_le _, Nat.zero_le _⟩ ⟨rfl, rfl⟩ ?_
  refine g_ifz 15 d_X10_sureRow_10 (by decide) (fun h1 => ?_) (fun h1 => ?_)
  · skip
    rw [if_neg (nb h1)] at hok
    refine g_aload_n0 rfl d_X10_sureRow_15 ?_
    refine g_getP (b := 49) f_X10_47 d_X10_sureRow_16 rfl (Nat.le_of_ble_eq_true rfl) rfl rfl ?_
    refine g_aload_n0 rfl d_X10_sureRow_19 ?_
    refine g_getP (b := td w) f_X10_19 d_X10_sureRow_20 rfl (Nat.le_of_ble_eq_true rfl) rfl rfl ?_
    refine g_aload_n0 rfl d_X10_sureRow_23 ?_
    refine g_getP (b := 23) f_X10_26 d_X10_sureRow_24 rfl (Nat.le_of_ble_eq_true rfl) rfl rfl ?_
    refine g_iload_n1 rfl d_X10_sureRow_27 ?_
    refine g_iconst 5 d_X10_sureRow_28 (by decide) ?_
    have ho1 := hok
    refine g_callV0 (c_X9_search (m_X10_refused I (f_X10_within I x1 1 4)) (td w) (kd_td w) 23 rfl x1 5 ho1) w_X9_search l_X10_192 d_X10_sureRow_29 rfl (Nat.le_of_ble_eq_true rfl) rfl rfl (Nat.le_of_ble_eq_true rfl) ⟨Nat.le_of_ble_eq_true rfl, Nat.le_of_ble_eq_true rfl⟩ ⟨Nat.zero_le _, Nat.zero_le _⟩ ⟨rfl, rfl⟩ ?_
    refine g_aload_n0 rfl d_X10_sureRow_32 ?_
    refine g_getP (b := 49) f_X10_47 d_X10_sureRow_33 rfl (Nat.le_of_ble_eq_true rfl) rfl rfl ?_
    refine g_getI f_X10_196 d_X10_sureRow_36 rfl (Nat.le_of_ble_eq_true rfl) rfl ?_
    exact g_iret rfl d_X10_sureRow_39 ⟨by simp only [f_X10_sureRow, m_X10_sureRow, if_neg (nb h1), opv_eq, if_true, if_false, Bool.false_eq_true, reduceCtorEq, b2i_t, b2i_f], by simp only [f_X10_sureRow, m_X10_sureRow, if_neg (nb h1), opv_eq, if_true, if_false, Bool.false_eq_true, reduceCtorEq, b2i_t, b2i_f]⟩ (Nat.le_refl _) (Nat.le_refl _)
  · skip
    refine g_iconst (-1) d_X10_sureRow_13 (by decide) ?_
    exact g_iret rfl d_X10_sureRow_14 ⟨by simp only [f_X10_sureRow, m_X10_sureRow, if_pos h1, opv_eq, if_true, if_false, Bool.false_eq_true, reduceCtorEq, b2i_t, b2i_f], by simp only [f_X10_sureRow, m_X10_sureRow, if_pos h1, opv_eq, if_true, if_false, Bool.false_eq_true, reduceCtorEq, b2i_t, b2i_f]⟩ (Nat.le_refl _) (Nat.le_refl _)
noncomputable def u0_X10_sureCoins (I : Nat → Nat → Int32) (w : Bool) (x1 : Int32) : Int32 := opv (if ((m_X9_search (m_X10_refused I (f_X10_within I x1 1 4)) (td w) 23 x1 5) 49 0) = (-2) then (-2) else -((m_X9_search (m_X10_refused I (f_X10_within I x1 1 4)) (td w) 23 x1 5) 49 1))
noncomputable def f_X10_sureCoins (I : Nat → Nat → Int32) (w : Bool) (x1 : Int32) : Int32 := opv (if (f_X10_refused I (f_X10_within I x1 1 4)) = true then (-1) else (u0_X10_sureCoins I w x1))
noncomputable def m_X10_sureCoins (I : Nat → Nat → Int32) (w : Bool) (x1 : Int32) : Nat → Nat → Int32 := opv (if (f_X10_refused I (f_X10_within I x1 1 4)) = true then (m_X10_refused I (f_X10_within I x1 1 4)) else (m_X9_search (m_X10_refused I (f_X10_within I x1 1 4)) (td w) 23 x1 5))
noncomputable def ok_X10_sureCoins (I : Nat → Nat → Int32) (w : Bool) (x1 : Int32) : Prop := opv (if (f_X10_refused I (f_X10_within I x1 1 4)) = true then True else ok_X9_search (m_X10_refused I (f_X10_within I x1 1 4)) (td w) 23 x1 5)
set_option maxHeartbeats 800000 in
set_option maxRecDepth 4000 in
theorem c_X10_sureCoins {k : KT} {ex : Bool} {J : Nat → Nat → Int64} (I : Nat → Nat → Int32) (w : Bool) (x1 : Int32)  (hok : ok_X10_sureCoins I w x1) : Cx k mX10_sureCoins 8 [.ref (ka k 0), .int x1] (81, ex, I, J, Pw w) (some (.int (f_X10_sureCoins I w x1))) (81, ex, m_X10_sureCoins I w x1, J, Pw w) := by
  refine Ct.of rfl [some (.ref (ka k 0)), some (.int x1)] rfl rfl (Nat.le_of_ble_eq_true rfl) ?_
  rw [ok_X10_sureCoins, opv_eq] at hok
  refine g_aload_n0 rfl d_X10_sureCoins_0 ?_
  refine g_iload_n1 rfl d_X10_sureCoins_1 ?_
  refine g_iconst 1 d_X10_sureCoins_2 (by decide) ?_
  refine g_iconst 4 d_X10_sureCoins_3 (by decide) ?_
  refine g_callS1 (c_X10_within I x1 1 4) w_X10_within l_X10_73 d_X10_sureCoins_4 rfl rfl (Nat.le_of_ble_eq_true rfl) ⟨Nat.le_of_ble_eq_true rfl, Nat.le_of_ble_eq_true rfl⟩ ⟨Nat.zero_le _, Nat.zero_le _⟩ ⟨rfl, rfl⟩ ?_
  refine g_callV1 (c_X10_refused I (f_X10_within I x1 1 4)) w_X10_refused l_X10_154 d_X10_sureCoins_7 rfl (Nat.le_of_ble_eq_true rfl) rfl rfl (Nat.le_of_ble_eq_true rfl) ⟨Nat.le_of_ble_eq_true rfl, Nat.le_of_ble_eq_true rfl⟩ ⟨Nat.zero_le _, Nat.zero_le _⟩ ⟨rfl, rfl⟩ ?_
  refine g_ifz 15 d_X10_sureCoins_10 (by decide) (fun h1 => ?_) (fun h1 => ?_)
  · skip
    rw [if_neg (nb h1)] at hok
    refine g_aload_n0 rfl d_X10_sureCoins_15 ?_
    refine g_getP (b := 49) f_X10_47 d_X10_sureCoins_16 rfl (Nat.le_of_ble_eq_true rfl) rfl rfl ?_
    refine g_aload_n0 rfl d_X10_sureCoins_19 ?_
    refine g_getP (b := td w) f_X10_19 d_X10_sureCoins_20 rfl (Nat.le_of_ble_eq_true rfl) rfl rfl ?_
    refine g_aload_n0 rfl d_X10_sureCoins_23 ?_
    refine g_getP (b := 23) f_X10_26 d_X10_sureCoins_24 rfl (Nat.le_of_ble_eq_true rfl) rfl rfl ?_
    refine g_iload_n1 rfl d_X10_sureCoins_27 ?_
    refine g_iconst 5 d_X10_sureCoins_28 (by decide) ?_
    have ho1 := hok
    refine g_callV0 (c_X9_search (m_X10_refused I (f_X10_within I x1 1 4)) (td w) (kd_td w) 23 rfl x1 5 ho1) w_X9_search l_X10_192 d_X10_sureCoins_29 rfl (Nat.le_of_ble_eq_true rfl) rfl rfl (Nat.le_of_ble_eq_true rfl) ⟨Nat.le_of_ble_eq_true rfl, Nat.le_of_ble_eq_true rfl⟩ ⟨Nat.zero_le _, Nat.zero_le _⟩ ⟨rfl, rfl⟩ ?_
    refine g_aload_n0 rfl d_X10_sureCoins_32 ?_
    refine g_getP (b := 49) f_X10_47 d_X10_sureCoins_33 rfl (Nat.le_of_ble_eq_true rfl) rfl rfl ?_
    refine g_getI f_X10_196 d_X10_sureCoins_36 rfl (Nat.le_of_ble_eq_true rfl) rfl ?_
    refine g_bipush (-2) d_X10_sureCoins_39 (by decide) ?_
    refine g_cut (pc' := 57) (vs' := [some (.ref (ka k 0)), some (.int x1)]) (st' := [.int (u0_X10_sureCoins I w x1)]) (M' := (81, ex, (m_X9_search (m_X10_refused I (f_X10_within I x1 1 4)) (td w) 23 x1 5), J, Pw w)) (fun hj => ?_) ?_
    · skip
      refine g_icmp_ne 49 d_X10_sureCoins_41 (by decide) (fun h2 => ?_) (fun h2 => ?_)
      · skip
        refine g_aload_n0 rfl d_X10_sureCoins_49 ?_
        refine g_getP (b := 49) f_X10_47 d_X10_sureCoins_50 rfl (Nat.le_of_ble_eq_true rfl) rfl rfl ?_
        refine g_getI f_X10_199 d_X10_sureCoins_53 rfl (Nat.le_of_ble_eq_true rfl) rfl ?_
        refine g_ineg d_X10_sureCoins_56 ?_
        (try simp only [if_neg h2, opv_eq, if_true, if_false, Bool.false_eq_true, reduceCtorEq, b2i_t, b2i_f, u0_X10_sureCoins] at hj); exact hj
      · skip
        refine g_bipush (-2) d_X10_sureCoins_44 (by decide) ?_
        refine g_goto 57 d_X10_sureCoins_46 (by decide) ?_
        (try simp only [if_pos h2, opv_eq, if_true, if_false, Bool.false_eq_true, reduceCtorEq, b2i_t, b2i_f, u0_X10_sureCoins] at hj); exact hj
    · skip
      exact g_iret rfl d_X10_sureCoins_57 ⟨by simp only [f_X10_sureCoins, m_X10_sureCoins, if_neg (nb h1), opv_eq, if_true, if_false, Bool.false_eq_true, reduceCtorEq, b2i_t, b2i_f], by simp only [f_X10_sureCoins, m_X10_sureCoins, if_neg (nb h1), opv_eq, if_true, if_false, Bool.false_eq_true, reduceCtorEq, b2i_t, b2i_f]⟩ (Nat.le_refl _) (Nat.le_refl _)
  · skip
    refine g_iconst (-1) d_X10_sureCoins_13 (by decide) ?_
    exact g_iret rfl d_X10_sureCoins_14 ⟨by simp only [f_X10_sureCoins, m_X10_sureCoins, if_pos h1, opv_eq, if_true, if_false, Bool.false_eq_true, reduceCtorEq, b2i_t, b2i_f], by simp only [f_X10_sureCoins, m_X10_sureCoins, if_pos h1, opv_eq, if_true, if_false, Bool.false_eq_true, reduceCtorEq, b2i_t, b2i_f]⟩ (Nat.le_refl _) (Nat.le_refl _)
noncomputable def u0_X10_rowFor (I : Nat → Nat → Int32) (x1 : Int32) (x2 : Int32) : Bool := opv (if (f_X10_within I x1 0 3) = true then (if (f_X10_within I x2 1 4) = true then true else false) else false)
noncomputable def u1_X10_rowFor (I : Nat → Nat → Int32) (w : Bool) (x1 : Int32) (x2 : Int32) : Nat → Nat → Int32 := opv (m_X9_search (m_X10_refused I (u0_X10_rowFor I x1 x2)) (td w) 23 x2 x1)
noncomputable def f_X10_rowFor (I : Nat → Nat → Int32) (w : Bool) (x1 : Int32) (x2 : Int32) : Int32 := opv (if (f_X10_refused I (u0_X10_rowFor I x1 x2)) = true then (-1) else (u1_X10_rowFor I w x1 x2) 49 0)
noncomputable def m_X10_rowFor (I : Nat → Nat → Int32) (w : Bool) (x1 : Int32) (x2 : Int32) : Nat → Nat → Int32 := opv (if (f_X10_refused I (u0_X10_rowFor I x1 x2)) = true then (m_X10_refused I (u0_X10_rowFor I x1 x2)) else (u1_X10_rowFor I w x1 x2))
noncomputable def ok_X10_rowFor (I : Nat → Nat → Int32) (w : Bool) (x1 : Int32) (x2 : Int32) : Prop := opv (if (f_X10_refused I (u0_X10_rowFor I x1 x2)) = true then True else ok_X9_search (m_X10_refused I (u0_X10_rowFor I x1 x2)) (td w) 23 x2 x1)
set_option maxHeartbeats 800000 in
set_option maxRecDepth 4000 in
theorem c_X10_rowFor {k : KT} {ex : Bool} {J : Nat → Nat → Int64} (I : Nat → Nat → Int32) (w : Bool) (x1 : Int32) (x2 : Int32)  (hok : ok_X10_rowFor I w x1 x2) : Cx k mX10_rowFor 8 [.ref (ka k 0), .int x1, .int x2] (81, ex, I, J, Pw w) (some (.int (f_X10_rowFor I w x1 x2))) (81, ex, m_X10_rowFor I w x1 x2, J, Pw w) := by
  refine Ct.of rfl [some (.ref (ka k 0)), some (.int x1), some (.int x2)] rfl rfl (Nat.le_of_ble_eq_true rfl) ?_
  rw [ok_X10_rowFor, opv_eq] at hok
  refine g_aload_n0 rfl d_X10_rowFor_0 ?_
  refine g_iload_n1 rfl d_X10_rowFor_1 ?_
  refine g_iconst 0 d_X10_rowFor_2 (by decide) ?_
  refine g_iconst 3 d_X10_rowFor_3 (by decide) ?_
  refine g_callS1 (c_X10_within I x1 0 3) w_X10_within l_X10_73 d_X10_rowFor_4 rfl rfl (Nat.le_of_ble_eq_true rfl) ⟨Nat.le_of_ble_eq_true rfl, Nat.le_of_ble_eq_true rfl⟩ ⟨Nat.zero_le _, Nat.zero_le _⟩ ⟨rfl, rfl⟩ ?_
  refine g_cut (pc' := 24) (vs' := [some (.ref (ka k 0)), some (.int x1), some (.int x2)]) (st' := [.int (b2i (u0_X10_rowFor I x1 x2)), .ref (ka k 0)]) (M' := (81, ex, I, J, Pw w)) (fun hj => ?_) ?_
  · skip
    refine g_ifz 23 d_X10_rowFor_7 (by decide) (fun h1 => ?_) (fun h1 => ?_)
    · skip
      refine g_iconst 0 d_X10_rowFor_23 (by decide) ?_
      (try simp only [if_neg (nb h1), opv_eq, if_true, if_false, Bool.false_eq_true, reduceCtorEq, b2i_t, b2i_f, u0_X10_rowFor] at hj); exact hj
    · skip
      refine g_iload_n2 rfl d_X10_rowFor_10 ?_
      refine g_iconst 1 d_X10_rowFor_11 (by decide) ?_
      refine g_iconst 4 d_X10_rowFor_12 (by decide) ?_
      refine g_callS1 (c_X10_within I x2 1 4) w_X10_within l_X10_73 d_X10_rowFor_13 rfl rfl (Nat.le_of_ble_eq_true rfl) ⟨Nat.le_of_ble_eq_true rfl, Nat.le_of_ble_eq_true rfl⟩ ⟨Nat.zero_le _, Nat.zero_le _⟩ ⟨rfl, rfl⟩ ?_
      refine g_ifz 23 d_X10_rowFor_16 (by decide) (fun h2 => ?_) (fun h2 => ?_)
      · skip
        refine g_iconst 0 d_X10_rowFor_23 (by decide) ?_
        (try simp only [if_pos h1, if_neg (nb h2), opv_eq, if_true, if_false, Bool.false_eq_true, reduceCtorEq, b2i_t, b2i_f, u0_X10_rowFor] at hj); exact hj
      · skip
        refine g_iconst 1 d_X10_rowFor_19 (by decide) ?_
        refine g_goto 24 d_X10_rowFor_20 (by decide) ?_
        (try simp only [if_pos h1, if_pos h2, opv_eq, if_true, if_false, Bool.false_eq_true, reduceCtorEq, b2i_t, b2i_f, u0_X10_rowFor] at hj); exact hj
  · skip
    refine g_callV1 (c_X10_refused I (u0_X10_rowFor I x1 x2)) w_X10_refused l_X10_154 d_X10_rowFor_24 rfl (Nat.le_of_ble_eq_true rfl) rfl rfl (Nat.le_of_ble_eq_true rfl) ⟨Nat.le_of_ble_eq_true rfl, Nat.le_of_ble_eq_true rfl⟩ ⟨Nat.zero_le _, Nat.zero_le _⟩ ⟨rfl, rfl⟩ ?_
    refine g_ifz 32 d_X10_rowFor_27 (by decide) (fun h3 => ?_) (fun h3 => ?_)
    · skip
      rw [if_neg (nb h3)] at hok
      refine g_aload_n0 rfl d_X10_rowFor_32 ?_
      refine g_getP (b := 49) f_X10_47 d_X10_rowFor_33 rfl (Nat.le_of_ble_eq_true rfl) rfl rfl ?_
      refine g_aload_n0 rfl d_X10_rowFor_36 ?_
      refine g_getP (b := td w) f_X10_19 d_X10_rowFor_37 rfl (Nat.le_of_ble_eq_true rfl) rfl rfl ?_
      refine g_aload_n0 rfl d_X10_rowFor_40 ?_
      refine g_getP (b := 23) f_X10_26 d_X10_rowFor_41 rfl (Nat.le_of_ble_eq_true rfl) rfl rfl ?_
      refine g_iload_n2 rfl d_X10_rowFor_44 ?_
      refine g_iload_n1 rfl d_X10_rowFor_45 ?_
      have ho1 := hok
      refine g_callV0 (c_X9_search (m_X10_refused I (u0_X10_rowFor I x1 x2)) (td w) (kd_td w) 23 rfl x2 x1 ho1) w_X9_search l_X10_192 d_X10_rowFor_46 rfl (Nat.le_of_ble_eq_true rfl) rfl rfl (Nat.le_of_ble_eq_true rfl) ⟨Nat.le_of_ble_eq_true rfl, Nat.le_of_ble_eq_true rfl⟩ ⟨Nat.zero_le _, Nat.zero_le _⟩ ⟨rfl, rfl⟩ ?_
      refine G.toI (I' := (u1_X10_rowFor I w x1 x2)) (by rw [u1_X10_rowFor, opv_eq]) ?_
      refine g_aload_n0 rfl d_X10_rowFor_49 ?_
      refine g_getP (b := 49) f_X10_47 d_X10_rowFor_50 rfl (Nat.le_of_ble_eq_true rfl) rfl rfl ?_
      refine g_getI f_X10_196 d_X10_rowFor_53 rfl (Nat.le_of_ble_eq_true rfl) rfl ?_
      exact g_iret rfl d_X10_rowFor_56 ⟨by simp only [f_X10_rowFor, m_X10_rowFor, if_neg (nb h3), opv_eq, if_true, if_false, Bool.false_eq_true, reduceCtorEq, b2i_t, b2i_f], by simp only [f_X10_rowFor, m_X10_rowFor, if_neg (nb h3), opv_eq, if_true, if_false, Bool.false_eq_true, reduceCtorEq, b2i_t, b2i_f]⟩ (Nat.le_refl _) (Nat.le_refl _)
    · skip
      refine g_iconst (-1) d_X10_rowFor_30 (by decide) ?_
      exact g_iret rfl d_X10_rowFor_31 ⟨by simp only [f_X10_rowFor, m_X10_rowFor, if_pos h3, opv_eq, if_true, if_false, Bool.false_eq_true, reduceCtorEq, b2i_t, b2i_f], by simp only [f_X10_rowFor, m_X10_rowFor, if_pos h3, opv_eq, if_true, if_false, Bool.false_eq_true, reduceCtorEq, b2i_t, b2i_f]⟩ (Nat.le_refl _) (Nat.le_refl _)
noncomputable def u0_X10_makes (I : Nat → Nat → Int32) (w : Bool) : Int32 := opv (if (f_X10_refused I true) = true then (-1) else (m_X10_gathered (m_X10_refused I true) w) 58 0)
noncomputable def u1_X10_makes (I : Nat → Nat → Int32) (w : Bool) : Nat → Nat → Int32 := opv (if (f_X10_refused I true) = true then (m_X10_refused I true) else (m_X10_gathered (m_X10_refused I true) w))
noncomputable def f_X10_makes (I : Nat → Nat → Int32) (w : Bool)  : Int32 := opv (u0_X10_makes I w)
noncomputable def m_X10_makes (I : Nat → Nat → Int32) (w : Bool)  : Nat → Nat → Int32 := opv (u1_X10_makes I w)
noncomputable def ok_X10_makes (I : Nat → Nat → Int32) (w : Bool)  : Prop := opv (if (f_X10_refused I true) = true then True else ok_X10_gathered (m_X10_refused I true) w)
set_option maxHeartbeats 800000 in
set_option maxRecDepth 4000 in
theorem c_X10_makes {k : KT} {ex : Bool} {J : Nat → Nat → Int64} (I : Nat → Nat → Int32) (w : Bool)   (hok : ok_X10_makes I w) : Cx k mX10_makes 8 [.ref (ka k 0)] (81, ex, I, J, Pw w) (some (.int (f_X10_makes I w))) (81, ex, m_X10_makes I w, J, Pw w) := by
  refine Ct.of rfl [some (.ref (ka k 0))] rfl rfl (Nat.le_of_ble_eq_true rfl) ?_
  rw [ok_X10_makes, opv_eq] at hok
  refine g_aload_n0 rfl d_X10_makes_0 ?_
  refine g_iconst 1 d_X10_makes_1 (by decide) ?_
  refine g_callV1 (c_X10_refused I true) w_X10_refused l_X10_154 d_X10_makes_2 rfl (Nat.le_of_ble_eq_true rfl) rfl rfl (Nat.le_of_ble_eq_true rfl) ⟨Nat.le_of_ble_eq_true rfl, Nat.le_of_ble_eq_true rfl⟩ ⟨Nat.zero_le _, Nat.zero_le _⟩ ⟨rfl, rfl⟩ ?_
  refine g_cut (pc' := 19) (vs' := [some (.ref (ka k 0))]) (st' := [.int (u0_X10_makes I w)]) (M' := (81, ex, (u1_X10_makes I w), J, Pw w)) (fun hj => ?_) ?_
  · skip
    refine g_ifz 12 d_X10_makes_5 (by decide) (fun h1 => ?_) (fun h1 => ?_)
    · skip
      rw [if_neg (nb h1)] at hok
      refine g_aload_n0 rfl d_X10_makes_12 ?_
      have ho1 := hok
      refine g_callV1 (c_X10_gathered (m_X10_refused I true) w  ho1) w_X10_gathered l_X10_202 d_X10_makes_13 rfl (Nat.le_of_ble_eq_true rfl) rfl rfl (Nat.le_of_ble_eq_true rfl) ⟨Nat.le_of_ble_eq_true rfl, Nat.le_of_ble_eq_true rfl⟩ ⟨Nat.zero_le _, Nat.zero_le _⟩ ⟨rfl, rfl⟩ ?_
      refine g_getI f_X10_206 d_X10_makes_16 rfl (Nat.le_of_ble_eq_true rfl) rfl ?_
      (try simp only [if_neg (nb h1), opv_eq, if_true, if_false, Bool.false_eq_true, reduceCtorEq, b2i_t, b2i_f, u0_X10_makes, u1_X10_makes] at hj); exact hj
    · skip
      refine g_iconst (-1) d_X10_makes_8 (by decide) ?_
      refine g_goto 19 d_X10_makes_9 (by decide) ?_
      (try simp only [if_pos h1, opv_eq, if_true, if_false, Bool.false_eq_true, reduceCtorEq, b2i_t, b2i_f, u0_X10_makes, u1_X10_makes] at hj); exact hj
  · skip
    exact g_iret rfl d_X10_makes_19 ⟨by simp only [f_X10_makes, m_X10_makes, opv_eq, if_true, if_false, Bool.false_eq_true, reduceCtorEq, b2i_t, b2i_f], by simp only [f_X10_makes, m_X10_makes, opv_eq, if_true, if_false, Bool.false_eq_true, reduceCtorEq, b2i_t, b2i_f]⟩ (Nat.le_refl _) (Nat.le_refl _)
noncomputable def u0_X10_makeAt (I : Nat → Nat → Int32) (w : Bool) (x1 : Int32) : Bool := opv (if (I 0 4) = 0 then false else (if (f_X10_within (m_X10_gathered I w) x1 0 (((m_X10_gathered I w) 58 0) - 1)) = true then true else false))
noncomputable def u1_X10_makeAt (I : Nat → Nat → Int32) (w : Bool) (x1 : Int32) : Nat → Nat → Int32 := opv (m_X10_lacks (if (I 0 4) = 0 then I else (m_X10_gathered I w)) (u0_X10_makeAt I w x1))
noncomputable def u2_X10_makeAt (I : Nat → Nat → Int32) (w : Bool) (x1 : Int32) : Int32 := opv (if (f_X10_lacks (if (I 0 4) = 0 then I else (m_X10_gathered I w)) (u0_X10_makeAt I w x1)) = true then (-1) else f_X4_nameOf (u1_X10_makeAt I w x1) x1)
noncomputable def f_X10_makeAt (I : Nat → Nat → Int32) (w : Bool) (x1 : Int32) : Int32 := opv (u2_X10_makeAt I w x1)
noncomputable def m_X10_makeAt (I : Nat → Nat → Int32) (w : Bool) (x1 : Int32) : Nat → Nat → Int32 := opv (u1_X10_makeAt I w x1)
noncomputable def ok_X10_makeAt (I : Nat → Nat → Int32) (w : Bool) (x1 : Int32) : Prop := opv ((if (I 0 4) = 0 then True else ok_X10_gathered I w) ∧ (if (f_X10_lacks (if (I 0 4) = 0 then I else (m_X10_gathered I w)) (u0_X10_makeAt I w x1)) = true then True else ok_X4_nameOf (u1_X10_makeAt I w x1) x1))
set_option maxHeartbeats 800000 in
set_option maxRecDepth 4000 in
theorem c_X10_makeAt {k : KT} {ex : Bool} {J : Nat → Nat → Int64} (I : Nat → Nat → Int32) (w : Bool) (x1 : Int32)  (hok : ok_X10_makeAt I w x1) : Cx k mX10_makeAt 8 [.ref (ka k 0), .int x1] (81, ex, I, J, Pw w) (some (.int (f_X10_makeAt I w x1))) (81, ex, m_X10_makeAt I w x1, J, Pw w) := by
  refine Ct.of rfl [some (.ref (ka k 0)), some (.int x1)] rfl rfl (Nat.le_of_ble_eq_true rfl) ?_
  rw [ok_X10_makeAt, opv_eq] at hok
  refine g_aload_n0 rfl d_X10_makeAt_0 ?_
  refine g_aload_n0 rfl d_X10_makeAt_1 ?_
  refine g_getI f_X10_207 d_X10_makeAt_2 rfl (Nat.le_of_ble_eq_true rfl) rfl ?_
  obtain ⟨hoa, hob⟩ := hok
  refine g_cut (pc' := 30) (vs' := [some (.ref (ka k 0)), some (.int x1)]) (st' := [.int (b2i (u0_X10_makeAt I w x1)), .ref (ka k 0)]) (M' := (81, ex, (if (I 0 4) = 0 then I else (m_X10_gathered I w)), J, Pw w)) (fun hj => ?_) ?_
  · skip
    refine g_if_eq 29 d_X10_makeAt_5 (by decide) (fun h1 => ?_) (fun h1 => ?_)
    · skip
      refine g_iconst 0 d_X10_makeAt_29 (by decide) ?_
      (try simp only [if_pos h1, opv_eq, if_true, if_false, Bool.false_eq_true, reduceCtorEq, b2i_t, b2i_f, u0_X10_makeAt] at hj); exact hj
    · skip
      rw [if_neg h1] at hoa
      refine g_iload_n1 rfl d_X10_makeAt_8 ?_
      refine g_iconst 0 d_X10_makeAt_9 (by decide) ?_
      refine g_aload_n0 rfl d_X10_makeAt_10 ?_
      have ho1 := hoa
      refine g_callV1 (c_X10_gathered I w  ho1) w_X10_gathered l_X10_202 d_X10_makeAt_11 rfl (Nat.le_of_ble_eq_true rfl) rfl rfl (Nat.le_of_ble_eq_true rfl) ⟨Nat.le_of_ble_eq_true rfl, Nat.le_of_ble_eq_true rfl⟩ ⟨Nat.zero_le _, Nat.zero_le _⟩ ⟨rfl, rfl⟩ ?_
      refine g_getI f_X10_206 d_X10_makeAt_14 rfl (Nat.le_of_ble_eq_true rfl) rfl ?_
      refine g_iconst 1 d_X10_makeAt_17 (by decide) ?_
      refine g_isub d_X10_makeAt_18 ?_
      refine g_callS1 (c_X10_within (m_X10_gathered I w) x1 0 (((m_X10_gathered I w) 58 0) - 1)) w_X10_within l_X10_73 d_X10_makeAt_19 rfl rfl (Nat.le_of_ble_eq_true rfl) ⟨Nat.le_of_ble_eq_true rfl, Nat.le_of_ble_eq_true rfl⟩ ⟨Nat.zero_le _, Nat.zero_le _⟩ ⟨rfl, rfl⟩ ?_
      refine g_ifz 29 d_X10_makeAt_22 (by decide) (fun h2 => ?_) (fun h2 => ?_)
      · skip
        refine g_iconst 0 d_X10_makeAt_29 (by decide) ?_
        (try simp only [if_neg h1, if_neg (nb h2), opv_eq, if_true, if_false, Bool.false_eq_true, reduceCtorEq, b2i_t, b2i_f, u0_X10_makeAt] at hj); exact hj
      · skip
        refine g_iconst 1 d_X10_makeAt_25 (by decide) ?_
        refine g_goto 30 d_X10_makeAt_26 (by decide) ?_
        (try simp only [if_neg h1, if_pos h2, opv_eq, if_true, if_false, Bool.false_eq_true, reduceCtorEq, b2i_t, b2i_f, u0_X10_makeAt] at hj); exact hj
  · skip
    refine g_callV1 (c_X10_lacks (if (I 0 4) = 0 then I else (m_X10_gathered I w)) (u0_X10_makeAt I w x1)) w_X10_lacks l_X10_113 d_X10_makeAt_30 rfl (Nat.le_of_ble_eq_true rfl) rfl rfl (Nat.le_of_ble_eq_true rfl) ⟨Nat.le_of_ble_eq_true rfl, Nat.le_of_ble_eq_true rfl⟩ ⟨Nat.zero_le _, Nat.zero_le _⟩ ⟨rfl, rfl⟩ ?_
    refine G.toI (I' := (u1_X10_makeAt I w x1)) (by rw [u1_X10_makeAt, opv_eq]) ?_
    refine g_cut (pc' := 48) (vs' := [some (.ref (ka k 0)), some (.int x1)]) (st' := [.int (u2_X10_makeAt I w x1)]) (M' := (81, ex, (u1_X10_makeAt I w x1), J, Pw w)) (fun hj => ?_) ?_
    · skip
      refine g_ifz 40 d_X10_makeAt_33 (by decide) (fun h3 => ?_) (fun h3 => ?_)
      · skip
        rw [if_neg (nb h3)] at hob
        refine g_aload_n0 rfl d_X10_makeAt_40 ?_
        refine g_getP (b := 58) f_X10_54 d_X10_makeAt_41 rfl (Nat.le_of_ble_eq_true rfl) rfl rfl ?_
        refine g_iload_n1 rfl d_X10_makeAt_44 ?_
        have ho2 := hob
        refine g_callV1 (c_X4_nameOf (u1_X10_makeAt I w x1) x1 ho2) w_X4_nameOf l_X10_211 d_X10_makeAt_45 rfl (Nat.le_of_ble_eq_true rfl) rfl rfl (Nat.le_of_ble_eq_true rfl) ⟨Nat.le_of_ble_eq_true rfl, Nat.le_of_ble_eq_true rfl⟩ ⟨Nat.zero_le _, Nat.zero_le _⟩ ⟨rfl, rfl⟩ ?_
        (try simp only [if_neg (nb h3), opv_eq, if_true, if_false, Bool.false_eq_true, reduceCtorEq, b2i_t, b2i_f, u2_X10_makeAt] at hj); exact hj
      · skip
        refine g_iconst (-1) d_X10_makeAt_36 (by decide) ?_
        refine g_goto 48 d_X10_makeAt_37 (by decide) ?_
        (try simp only [if_pos h3, opv_eq, if_true, if_false, Bool.false_eq_true, reduceCtorEq, b2i_t, b2i_f, u2_X10_makeAt] at hj); exact hj
    · skip
      exact g_iret rfl d_X10_makeAt_48 ⟨by simp only [f_X10_makeAt, m_X10_makeAt, opv_eq, if_true, if_false, Bool.false_eq_true, reduceCtorEq, b2i_t, b2i_f], by simp only [f_X10_makeAt, m_X10_makeAt, opv_eq, if_true, if_false, Bool.false_eq_true, reduceCtorEq, b2i_t, b2i_f]⟩ (Nat.le_refl _) (Nat.le_refl _)
noncomputable def u0_X10_could (I : Nat → Nat → Int32) (w : Bool) (x1 : Bool) : Int32 := opv (if (f_X10_refused I true) = true then (-1) else f_X4_bitsOf (m_X10_gathered (m_X10_refused I true) w) x1)
noncomputable def u1_X10_could (I : Nat → Nat → Int32) (w : Bool) : Nat → Nat → Int32 := opv (if (f_X10_refused I true) = true then (m_X10_refused I true) else (m_X10_gathered (m_X10_refused I true) w))
noncomputable def f_X10_could (I : Nat → Nat → Int32) (w : Bool) (x1 : Bool) : Int32 := opv (u0_X10_could I w x1)
noncomputable def m_X10_could (I : Nat → Nat → Int32) (w : Bool) (x1 : Bool) : Nat → Nat → Int32 := opv (u1_X10_could I w)
noncomputable def ok_X10_could (I : Nat → Nat → Int32) (w : Bool) (x1 : Bool) : Prop := opv (if (f_X10_refused I true) = true then True else (ok_X10_gathered (m_X10_refused I true) w ∧ ok_X4_bitsOf (m_X10_gathered (m_X10_refused I true) w) x1))
set_option maxHeartbeats 800000 in
set_option maxRecDepth 4000 in
theorem c_X10_could {k : KT} {ex : Bool} {J : Nat → Nat → Int64} (I : Nat → Nat → Int32) (w : Bool) (x1 : Bool)  (hok : ok_X10_could I w x1) : Cx k mX10_could 8 [.ref (ka k 0), .int (b2i x1)] (81, ex, I, J, Pw w) (some (.int (f_X10_could I w x1))) (81, ex, m_X10_could I w x1, J, Pw w) := by
  refine Ct.of rfl [some (.ref (ka k 0)), some (.int (b2i x1))] rfl rfl (Nat.le_of_ble_eq_true rfl) ?_
  rw [ok_X10_could, opv_eq] at hok
  refine g_aload_n0 rfl d_X10_could_0 ?_
  refine g_iconst 1 d_X10_could_1 (by decide) ?_
  refine g_callV1 (c_X10_refused I true) w_X10_refused l_X10_154 d_X10_could_2 rfl (Nat.le_of_ble_eq_true rfl) rfl rfl (Nat.le_of_ble_eq_true rfl) ⟨Nat.le_of_ble_eq_true rfl, Nat.le_of_ble_eq_true rfl⟩ ⟨Nat.zero_le _, Nat.zero_le _⟩ ⟨rfl, rfl⟩ ?_
  refine g_cut (pc' := 20) (vs' := [some (.ref (ka k 0)), some (.int (b2i x1))]) (st' := [.int (u0_X10_could I w x1)]) (M' := (81, ex, (u1_X10_could I w), J, Pw w)) (fun hj => ?_) ?_
  · skip
    refine g_ifz 12 d_X10_could_5 (by decide) (fun h1 => ?_) (fun h1 => ?_)
    · skip
      rw [if_neg (nb h1)] at hok
      refine g_aload_n0 rfl d_X10_could_12 ?_
      obtain ⟨ho1, hok⟩ := hok
      refine g_callV1 (c_X10_gathered (m_X10_refused I true) w  ho1) w_X10_gathered l_X10_202 d_X10_could_13 rfl (Nat.le_of_ble_eq_true rfl) rfl rfl (Nat.le_of_ble_eq_true rfl) ⟨Nat.le_of_ble_eq_true rfl, Nat.le_of_ble_eq_true rfl⟩ ⟨Nat.zero_le _, Nat.zero_le _⟩ ⟨rfl, rfl⟩ ?_
      refine g_iload_n1 rfl d_X10_could_16 ?_
      have ho2 := hok
      refine g_callV1 (c_X4_bitsOf (m_X10_gathered (m_X10_refused I true) w) x1 ho2) w_X4_bitsOf l_X10_214 d_X10_could_17 rfl (Nat.le_of_ble_eq_true rfl) rfl rfl (Nat.le_of_ble_eq_true rfl) ⟨Nat.le_of_ble_eq_true rfl, Nat.le_of_ble_eq_true rfl⟩ ⟨Nat.zero_le _, Nat.zero_le _⟩ ⟨rfl, rfl⟩ ?_
      (try simp only [if_neg (nb h1), opv_eq, if_true, if_false, Bool.false_eq_true, reduceCtorEq, b2i_t, b2i_f, u0_X10_could, u1_X10_could] at hj); exact hj
    · skip
      refine g_iconst (-1) d_X10_could_8 (by decide) ?_
      refine g_goto 20 d_X10_could_9 (by decide) ?_
      (try simp only [if_pos h1, opv_eq, if_true, if_false, Bool.false_eq_true, reduceCtorEq, b2i_t, b2i_f, u0_X10_could, u1_X10_could] at hj); exact hj
  · skip
    exact g_iret rfl d_X10_could_20 ⟨by simp only [f_X10_could, m_X10_could, opv_eq, if_true, if_false, Bool.false_eq_true, reduceCtorEq, b2i_t, b2i_f], by simp only [f_X10_could, m_X10_could, opv_eq, if_true, if_false, Bool.false_eq_true, reduceCtorEq, b2i_t, b2i_f]⟩ (Nat.le_refl _) (Nat.le_refl _)
noncomputable def u0_X10_surely (I : Nat → Nat → Int32) (w : Bool) (x1 : Bool) : Int32 := opv (if (f_X10_refused I true) = true then (-1) else f_X4_onlyOne (m_X10_gathered (m_X10_refused I true) w) x1)
noncomputable def u1_X10_surely (I : Nat → Nat → Int32) (w : Bool) : Nat → Nat → Int32 := opv (if (f_X10_refused I true) = true then (m_X10_refused I true) else (m_X10_gathered (m_X10_refused I true) w))
noncomputable def f_X10_surely (I : Nat → Nat → Int32) (w : Bool) (x1 : Bool) : Int32 := opv (u0_X10_surely I w x1)
noncomputable def m_X10_surely (I : Nat → Nat → Int32) (w : Bool) (x1 : Bool) : Nat → Nat → Int32 := opv (u1_X10_surely I w)
noncomputable def ok_X10_surely (I : Nat → Nat → Int32) (w : Bool) (x1 : Bool) : Prop := opv (if (f_X10_refused I true) = true then True else (ok_X10_gathered (m_X10_refused I true) w ∧ ok_X4_onlyOne (m_X10_gathered (m_X10_refused I true) w) x1))
set_option maxHeartbeats 800000 in
set_option maxRecDepth 4000 in
theorem c_X10_surely {k : KT} {ex : Bool} {J : Nat → Nat → Int64} (I : Nat → Nat → Int32) (w : Bool) (x1 : Bool)  (hok : ok_X10_surely I w x1) : Cx k mX10_surely 8 [.ref (ka k 0), .int (b2i x1)] (81, ex, I, J, Pw w) (some (.int (f_X10_surely I w x1))) (81, ex, m_X10_surely I w x1, J, Pw w) := by
  refine Ct.of rfl [some (.ref (ka k 0)), some (.int (b2i x1))] rfl rfl (Nat.le_of_ble_eq_true rfl) ?_
  rw [ok_X10_surely, opv_eq] at hok
  refine g_aload_n0 rfl d_X10_surely_0 ?_
  refine g_iconst 1 d_X10_surely_1 (by decide) ?_
  refine g_callV1 (c_X10_refused I true) w_X10_refused l_X10_154 d_X10_surely_2 rfl (Nat.le_of_ble_eq_true rfl) rfl rfl (Nat.le_of_ble_eq_true rfl) ⟨Nat.le_of_ble_eq_true rfl, Nat.le_of_ble_eq_true rfl⟩ ⟨Nat.zero_le _, Nat.zero_le _⟩ ⟨rfl, rfl⟩ ?_
  refine g_cut (pc' := 20) (vs' := [some (.ref (ka k 0)), some (.int (b2i x1))]) (st' := [.int (u0_X10_surely I w x1)]) (M' := (81, ex, (u1_X10_surely I w), J, Pw w)) (fun hj => ?_) ?_
  · skip
    refine g_ifz 12 d_X10_surely_5 (by decide) (fun h1 => ?_) (fun h1 => ?_)
    · skip
      rw [if_neg (nb h1)] at hok
      refine g_aload_n0 rfl d_X10_surely_12 ?_
      obtain ⟨ho1, hok⟩ := hok
      refine g_callV1 (c_X10_gathered (m_X10_refused I true) w  ho1) w_X10_gathered l_X10_202 d_X10_surely_13 rfl (Nat.le_of_ble_eq_true rfl) rfl rfl (Nat.le_of_ble_eq_true rfl) ⟨Nat.le_of_ble_eq_true rfl, Nat.le_of_ble_eq_true rfl⟩ ⟨Nat.zero_le _, Nat.zero_le _⟩ ⟨rfl, rfl⟩ ?_
      refine g_iload_n1 rfl d_X10_surely_16 ?_
      have ho2 := hok
      refine g_callV1 (c_X4_onlyOne (m_X10_gathered (m_X10_refused I true) w) x1 ho2) w_X4_onlyOne l_X10_218 d_X10_surely_17 rfl (Nat.le_of_ble_eq_true rfl) rfl rfl (Nat.le_of_ble_eq_true rfl) ⟨Nat.le_of_ble_eq_true rfl, Nat.le_of_ble_eq_true rfl⟩ ⟨Nat.zero_le _, Nat.zero_le _⟩ ⟨rfl, rfl⟩ ?_
      (try simp only [if_neg (nb h1), opv_eq, if_true, if_false, Bool.false_eq_true, reduceCtorEq, b2i_t, b2i_f, u0_X10_surely, u1_X10_surely] at hj); exact hj
    · skip
      refine g_iconst (-1) d_X10_surely_8 (by decide) ?_
      refine g_goto 20 d_X10_surely_9 (by decide) ?_
      (try simp only [if_pos h1, opv_eq, if_true, if_false, Bool.false_eq_true, reduceCtorEq, b2i_t, b2i_f, u0_X10_surely, u1_X10_surely] at hj); exact hj
  · skip
    exact g_iret rfl d_X10_surely_20 ⟨by simp only [f_X10_surely, m_X10_surely, opv_eq, if_true, if_false, Bool.false_eq_true, reduceCtorEq, b2i_t, b2i_f], by simp only [f_X10_surely, m_X10_surely, opv_eq, if_true, if_false, Bool.false_eq_true, reduceCtorEq, b2i_t, b2i_f]⟩ (Nat.le_refl _) (Nat.le_refl _)
noncomputable def f_X10_look (I : Nat → Nat → Int32) (w : Bool)  : Int32 := opv (if (f_X10_refused I true) = true then (-1) else (m_X4_chooseDay (m_X10_gathered (m_X10_refused I true) w) (td w)) 58 1)
noncomputable def m_X10_look (I : Nat → Nat → Int32) (w : Bool)  : Nat → Nat → Int32 := opv (if (f_X10_refused I true) = true then (m_X10_refused I true) else (m_X4_chooseDay (m_X10_gathered (m_X10_refused I true) w) (td w)))
noncomputable def ok_X10_look (I : Nat → Nat → Int32) (w : Bool)  : Prop := opv (if (f_X10_refused I true) = true then True else (ok_X10_gathered (m_X10_refused I true) w ∧ ok_X4_chooseDay (m_X10_gathered (m_X10_refused I true) w) (td w)))
set_option maxHeartbeats 800000 in
set_option maxRecDepth 4000 in
theorem c_X10_look {k : KT} {ex : Bool} {J : Nat → Nat → Int64} (I : Nat → Nat → Int32) (w : Bool)   (hok : ok_X10_look I w) : Cx k mX10_look 8 [.ref (ka k 0)] (81, ex, I, J, Pw w) (some (.int (f_X10_look I w))) (81, ex, m_X10_look I w, J, Pw w) := by
  refine Ct.of rfl [some (.ref (ka k 0))] rfl rfl (Nat.le_of_ble_eq_true rfl) ?_
  rw [ok_X10_look, opv_eq] at hok
  refine g_aload_n0 rfl d_X10_look_0 ?_
  refine g_iconst 1 d_X10_look_1 (by decide) ?_
  refine g_callV1 (c_X10_refused I true) w_X10_refused l_X10_154 d_X10_look_2 rfl (Nat.le_of_ble_eq_true rfl) rfl rfl (Nat.le_of_ble_eq_true rfl) ⟨Nat.le_of_ble_eq_true rfl, Nat.le_of_ble_eq_true rfl⟩ ⟨Nat.zero_le _, Nat.zero_le _⟩ ⟨rfl, rfl⟩ ?_
  refine g_ifz 10 d_X10_look_5 (by decide) (fun h1 => ?_) (fun h1 => ?_)
  · skip
    rw [if_neg (nb h1)] at hok
    refine g_aload_n0 rfl d_X10_look_10 ?_
    obtain ⟨ho1, hok⟩ := hok
    refine g_callV1 (c_X10_gathered (m_X10_refused I true) w  ho1) w_X10_gathered l_X10_202 d_X10_look_11 rfl (Nat.le_of_ble_eq_true rfl) rfl rfl (Nat.le_of_ble_eq_true rfl) ⟨Nat.le_of_ble_eq_true rfl, Nat.le_of_ble_eq_true rfl⟩ ⟨Nat.zero_le _, Nat.zero_le _⟩ ⟨rfl, rfl⟩ ?_
    refine g_aload_n0 rfl d_X10_look_14 ?_
    refine g_getP (b := td w) f_X10_19 d_X10_look_15 rfl (Nat.le_of_ble_eq_true rfl) rfl rfl ?_
    have ho2 := hok
    refine g_callV0 (c_X4_chooseDay (m_X10_gathered (m_X10_refused I true) w) (td w) (kd_td w) ho2) w_X4_chooseDay l_X10_221 d_X10_look_18 rfl (Nat.le_of_ble_eq_true rfl) rfl rfl (Nat.le_of_ble_eq_true rfl) ⟨Nat.le_of_ble_eq_true rfl, Nat.le_of_ble_eq_true rfl⟩ ⟨Nat.zero_le _, Nat.zero_le _⟩ ⟨rfl, rfl⟩ ?_
    refine g_aload_n0 rfl d_X10_look_21 ?_
    refine g_getP (b := 58) f_X10_54 d_X10_look_22 rfl (Nat.le_of_ble_eq_true rfl) rfl rfl ?_
    refine g_getI f_X10_225 d_X10_look_25 rfl (Nat.le_of_ble_eq_true rfl) rfl ?_
    exact g_iret rfl d_X10_look_28 ⟨by simp only [f_X10_look, m_X10_look, if_neg (nb h1), opv_eq, if_true, if_false, Bool.false_eq_true, reduceCtorEq, b2i_t, b2i_f], by simp only [f_X10_look, m_X10_look, if_neg (nb h1), opv_eq, if_true, if_false, Bool.false_eq_true, reduceCtorEq, b2i_t, b2i_f]⟩ (Nat.le_refl _) (Nat.le_refl _)
  · skip
    refine g_iconst (-1) d_X10_look_8 (by decide) ?_
    exact g_iret rfl d_X10_look_9 ⟨by simp only [f_X10_look, m_X10_look, if_pos h1, opv_eq, if_true, if_false, Bool.false_eq_true, reduceCtorEq, b2i_t, b2i_f], by simp only [f_X10_look, m_X10_look, if_pos h1, opv_eq, if_true, if_false, Bool.false_eq_true, reduceCtorEq, b2i_t, b2i_f]⟩ (Nat.le_refl _) (Nat.le_refl _)
noncomputable def f_X10_lookLeaves (I : Nat → Nat → Int32) (w : Bool)  : Int32 := opv (if (f_X10_refused I true) = true then (-1) else (m_X4_chooseDay (m_X10_gathered (m_X10_refused I true) w) (td w)) 58 2)
noncomputable def m_X10_lookLeaves (I : Nat → Nat → Int32) (w : Bool)  : Nat → Nat → Int32 := opv (if (f_X10_refused I true) = true then (m_X10_refused I true) else (m_X4_chooseDay (m_X10_gathered (m_X10_refused I true) w) (td w)))
noncomputable def ok_X10_lookLeaves (I : Nat → Nat → Int32) (w : Bool)  : Prop := opv (if (f_X10_refused I true) = true then True else (ok_X10_gathered (m_X10_refused I true) w ∧ ok_X4_chooseDay (m_X10_gathered (m_X10_refused I true) w) (td w)))
set_option maxHeartbeats 800000 in
set_option maxRecDepth 4000 in
theorem c_X10_lookLeaves {k : KT} {ex : Bool} {J : Nat → Nat → Int64} (I : Nat → Nat → Int32) (w : Bool)   (hok : ok_X10_lookLeaves I w) : Cx k mX10_lookLeaves 8 [.ref (ka k 0)] (81, ex, I, J, Pw w) (some (.int (f_X10_lookLeaves I w))) (81, ex, m_X10_lookLeaves I w, J, Pw w) := by
  refine Ct.of rfl [some (.ref (ka k 0))] rfl rfl (Nat.le_of_ble_eq_true rfl) ?_
  rw [ok_X10_lookLeaves, opv_eq] at hok
  refine g_aload_n0 rfl d_X10_lookLeaves_0 ?_
  refine g_iconst 1 d_X10_lookLeaves_1 (by decide) ?_
  refine g_callV1 (c_X10_refused I true) w_X10_refused l_X10_154 d_X10_lookLeaves_2 rfl (Nat.le_of_ble_eq_true rfl) rfl rfl (Nat.le_of_ble_eq_true rfl) ⟨Nat.le_of_ble_eq_true rfl, Nat.le_of_ble_eq_true rfl⟩ ⟨Nat.zero_le _, Nat.zero_le _⟩ ⟨rfl, rfl⟩ ?_
  refine g_ifz 10 d_X10_lookLeaves_5 (by decide) (fun h1 => ?_) (fun h1 => ?_)
  · skip
    rw [if_neg (nb h1)] at hok
    refine g_aload_n0 rfl d_X10_lookLeaves_10 ?_
    obtain ⟨ho1, hok⟩ := hok
    refine g_callV1 (c_X10_gathered (m_X10_refused I true) w  ho1) w_X10_gathered l_X10_202 d_X10_lookLeaves_11 rfl (Nat.le_of_ble_eq_true rfl) rfl rfl (Nat.le_of_ble_eq_true rfl) ⟨Nat.le_of_ble_eq_true rfl, Nat.le_of_ble_eq_true rfl⟩ ⟨Nat.zero_le _, Nat.zero_le _⟩ ⟨rfl, rfl⟩ ?_
    refine g_aload_n0 rfl d_X10_lookLeaves_14 ?_
    refine g_getP (b := td w) f_X10_19 d_X10_lookLeaves_15 rfl (Nat.le_of_ble_eq_true rfl) rfl rfl ?_
    have ho2 := hok
    refine g_callV0 (c_X4_chooseDay (m_X10_gathered (m_X10_refused I true) w) (td w) (kd_td w) ho2) w_X4_chooseDay l_X10_221 d_X10_lookLeaves_18 rfl (Nat.le_of_ble_eq_true rfl) rfl rfl (Nat.le_of_ble_eq_true rfl) ⟨Nat.le_of_ble_eq_true rfl, Nat.le_of_ble_eq_true rfl⟩ ⟨Nat.zero_le _, Nat.zero_le _⟩ ⟨rfl, rfl⟩ ?_
    refine g_aload_n0 rfl d_X10_lookLeaves_21 ?_
    refine g_getP (b := 58) f_X10_54 d_X10_lookLeaves_22 rfl (Nat.le_of_ble_eq_true rfl) rfl rfl ?_
    refine g_getI f_X10_228 d_X10_lookLeaves_25 rfl (Nat.le_of_ble_eq_true rfl) rfl ?_
    exact g_iret rfl d_X10_lookLeaves_28 ⟨by simp only [f_X10_lookLeaves, m_X10_lookLeaves, if_neg (nb h1), opv_eq, if_true, if_false, Bool.false_eq_true, reduceCtorEq, b2i_t, b2i_f], by simp only [f_X10_lookLeaves, m_X10_lookLeaves, if_neg (nb h1), opv_eq, if_true, if_false, Bool.false_eq_true, reduceCtorEq, b2i_t, b2i_f]⟩ (Nat.le_refl _) (Nat.le_refl _)
  · skip
    refine g_iconst (-1) d_X10_lookLeaves_8 (by decide) ?_
    exact g_iret rfl d_X10_lookLeaves_9 ⟨by simp only [f_X10_lookLeaves, m_X10_lookLeaves, if_pos h1, opv_eq, if_true, if_false, Bool.false_eq_true, reduceCtorEq, b2i_t, b2i_f], by simp only [f_X10_lookLeaves, m_X10_lookLeaves, if_pos h1, opv_eq, if_true, if_false, Bool.false_eq_true, reduceCtorEq, b2i_t, b2i_f]⟩ (Nat.le_refl _) (Nat.le_refl _)
noncomputable def u0_X10_judge (I : Nat → Nat → Int32) (w : Bool) : Int32 := opv (if (f_X10_refused I true) = true then (-1) else f_X4_firstUnlike (m_X10_refused I true) (td w))
noncomputable def u1_X10_judge (I : Nat → Nat → Int32) (w : Bool) : Nat → Nat → Int32 := opv (if (f_X10_refused I true) = true then (m_X10_refused I true) else (m_X4_firstUnlike (m_X10_refused I true) (td w)))
noncomputable def f_X10_judge (I : Nat → Nat → Int32) (w : Bool)  : Int32 := opv (u0_X10_judge I w)
noncomputable def m_X10_judge (I : Nat → Nat → Int32) (w : Bool)  : Nat → Nat → Int32 := opv (u1_X10_judge I w)
noncomputable def ok_X10_judge (I : Nat → Nat → Int32) (w : Bool)  : Prop := opv (if (f_X10_refused I true) = true then True else ok_X4_firstUnlike (m_X10_refused I true) (td w))
set_option maxHeartbeats 800000 in
set_option maxRecDepth 4000 in
theorem c_X10_judge {k : KT} {ex : Bool} {J : Nat → Nat → Int64} (I : Nat → Nat → Int32) (w : Bool)   (hok : ok_X10_judge I w) : Cx k mX10_judge 7 [.ref (ka k 0)] (81, ex, I, J, Pw w) (some (.int (f_X10_judge I w))) (81, ex, m_X10_judge I w, J, Pw w) := by
  refine Ct.of rfl [some (.ref (ka k 0))] rfl rfl (Nat.le_of_ble_eq_true rfl) ?_
  rw [ok_X10_judge, opv_eq] at hok
  refine g_aload_n0 rfl d_X10_judge_0 ?_
  refine g_iconst 1 d_X10_judge_1 (by decide) ?_
  refine g_callV1 (c_X10_refused I true) w_X10_refused l_X10_154 d_X10_judge_2 rfl (Nat.le_of_ble_eq_true rfl) rfl rfl (Nat.le_of_ble_eq_true rfl) ⟨Nat.le_of_ble_eq_true rfl, Nat.le_of_ble_eq_true rfl⟩ ⟨Nat.zero_le _, Nat.zero_le _⟩ ⟨rfl, rfl⟩ ?_
  refine g_cut (pc' := 23) (vs' := [some (.ref (ka k 0))]) (st' := [.int (u0_X10_judge I w)]) (M' := (81, ex, (u1_X10_judge I w), J, Pw w)) (fun hj => ?_) ?_
  · skip
    refine g_ifz 12 d_X10_judge_5 (by decide) (fun h1 => ?_) (fun h1 => ?_)
    · skip
      rw [if_neg (nb h1)] at hok
      refine g_aload_n0 rfl d_X10_judge_12 ?_
      refine g_getP (b := 58) f_X10_54 d_X10_judge_13 rfl (Nat.le_of_ble_eq_true rfl) rfl rfl ?_
      refine g_aload_n0 rfl d_X10_judge_16 ?_
      refine g_getP (b := td w) f_X10_19 d_X10_judge_17 rfl (Nat.le_of_ble_eq_true rfl) rfl rfl ?_
      have ho1 := hok
      refine g_callV1 (c_X4_firstUnlike (m_X10_refused I true) (td w) (kd_td w) ho1) w_X4_firstUnlike l_X10_231 d_X10_judge_20 rfl (Nat.le_of_ble_eq_true rfl) rfl rfl (Nat.le_of_ble_eq_true rfl) ⟨Nat.le_of_ble_eq_true rfl, Nat.le_of_ble_eq_true rfl⟩ ⟨Nat.zero_le _, Nat.zero_le _⟩ ⟨rfl, rfl⟩ ?_
      (try simp only [if_neg (nb h1), opv_eq, if_true, if_false, Bool.false_eq_true, reduceCtorEq, b2i_t, b2i_f, u0_X10_judge, u1_X10_judge] at hj); exact hj
    · skip
      refine g_iconst (-1) d_X10_judge_8 (by decide) ?_
      refine g_goto 23 d_X10_judge_9 (by decide) ?_
      (try simp only [if_pos h1, opv_eq, if_true, if_false, Bool.false_eq_true, reduceCtorEq, b2i_t, b2i_f, u0_X10_judge, u1_X10_judge] at hj); exact hj
  · skip
    exact g_iret rfl d_X10_judge_23 ⟨by simp only [f_X10_judge, m_X10_judge, opv_eq, if_true, if_false, Bool.false_eq_true, reduceCtorEq, b2i_t, b2i_f], by simp only [f_X10_judge, m_X10_judge, opv_eq, if_true, if_false, Bool.false_eq_true, reduceCtorEq, b2i_t, b2i_f]⟩ (Nat.le_refl _) (Nat.le_refl _)
noncomputable def u0_X10_flood (I : Nat → Nat → Int32) (w : Bool) : Int32 := opv (if (f_X10_refused I true) = true then (-1) else f_X1_most (m_X10_refused I true) (td w) (-1) 0)
noncomputable def f_X10_flood (I : Nat → Nat → Int32) (w : Bool)  : Int32 := opv (u0_X10_flood I w)
noncomputable def m_X10_flood (I : Nat → Nat → Int32) (w : Bool)  : Nat → Nat → Int32 := opv (m_X10_refused I true)
set_option maxHeartbeats 800000 in
set_option maxRecDepth 4000 in
theorem c_X10_flood {k : KT} {ex : Bool} {J : Nat → Nat → Int64} (I : Nat → Nat → Int32) (w : Bool)   : Cx k mX10_flood 6 [.ref (ka k 0)] (81, ex, I, J, Pw w) (some (.int (f_X10_flood I w))) (81, ex, m_X10_flood I w, J, Pw w) := by
  refine Ct.of rfl [some (.ref (ka k 0))] rfl rfl (Nat.le_of_ble_eq_true rfl) ?_
  refine g_aload_n0 rfl d_X10_flood_0 ?_
  refine g_iconst 1 d_X10_flood_1 (by decide) ?_
  refine g_callV1 (c_X10_refused I true) w_X10_refused l_X10_154 d_X10_flood_2 rfl (Nat.le_of_ble_eq_true rfl) rfl rfl (Nat.le_of_ble_eq_true rfl) ⟨Nat.le_of_ble_eq_true rfl, Nat.le_of_ble_eq_true rfl⟩ ⟨Nat.zero_le _, Nat.zero_le _⟩ ⟨rfl, rfl⟩ ?_
  refine g_cut (pc' := 21) (vs' := [some (.ref (ka k 0))]) (st' := [.int (u0_X10_flood I w)]) (M' := (81, ex, (m_X10_refused I true), J, Pw w)) (fun hj => ?_) ?_
  · skip
    refine g_ifz 12 d_X10_flood_5 (by decide) (fun h1 => ?_) (fun h1 => ?_)
    · skip
      refine g_aload_n0 rfl d_X10_flood_12 ?_
      refine g_getP (b := td w) f_X10_19 d_X10_flood_13 rfl (Nat.le_of_ble_eq_true rfl) rfl rfl ?_
      refine g_iconst (-1) d_X10_flood_16 (by decide) ?_
      refine g_iconst 0 d_X10_flood_17 (by decide) ?_
      refine g_callS1 (c_X1_most (m_X10_refused I true) (td w) (kd_td w) (-1) 0) w_X1_most l_X10_241 d_X10_flood_18 rfl rfl (Nat.le_of_ble_eq_true rfl) ⟨Nat.le_of_ble_eq_true rfl, Nat.le_of_ble_eq_true rfl⟩ ⟨Nat.zero_le _, Nat.zero_le _⟩ ⟨rfl, rfl⟩ ?_
      (try simp only [if_neg (nb h1), opv_eq, if_true, if_false, Bool.false_eq_true, reduceCtorEq, b2i_t, b2i_f, u0_X10_flood] at hj); exact hj
    · skip
      refine g_iconst (-1) d_X10_flood_8 (by decide) ?_
      refine g_goto 21 d_X10_flood_9 (by decide) ?_
      (try simp only [if_pos h1, opv_eq, if_true, if_false, Bool.false_eq_true, reduceCtorEq, b2i_t, b2i_f, u0_X10_flood] at hj); exact hj
  · skip
    exact g_iret rfl d_X10_flood_21 ⟨by simp only [f_X10_flood, m_X10_flood, opv_eq, if_true, if_false, Bool.false_eq_true, reduceCtorEq, b2i_t, b2i_f], by simp only [f_X10_flood, m_X10_flood, opv_eq, if_true, if_false, Bool.false_eq_true, reduceCtorEq, b2i_t, b2i_f]⟩ (Nat.le_refl _) (Nat.le_refl _)
noncomputable def u0_X10_cut (I : Nat → Nat → Int32) (w : Bool) : Int32 := opv (if 2 ≤ ((m_X10_refused I true) (td w) 6) then f_X1_leastSide (m_X10_refused I true) (td w) (-1) 0 else (-2))
noncomputable def f_X10_cut (I : Nat → Nat → Int32) (w : Bool)  : Int32 := opv (if (f_X10_refused I true) = true then (-1) else (u0_X10_cut I w))
noncomputable def m_X10_cut (I : Nat → Nat → Int32) (w : Bool)  : Nat → Nat → Int32 := opv (m_X10_refused I true)
set_option maxHeartbeats 800000 in
set_option maxRecDepth 4000 in
theorem c_X10_cut {k : KT} {ex : Bool} {J : Nat → Nat → Int64} (I : Nat → Nat → Int32) (w : Bool)   : Cx k mX10_cut 5 [.ref (ka k 0)] (81, ex, I, J, Pw w) (some (.int (f_X10_cut I w))) (81, ex, m_X10_cut I w, J, Pw w) := by
  refine Ct.of rfl [some (.ref (ka k 0))] rfl rfl (Nat.le_of_ble_eq_true rfl) ?_
  refine g_aload_n0 rfl d_X10_cut_0 ?_
  refine g_iconst 1 d_X10_cut_1 (by decide) ?_
  refine g_callV1 (c_X10_refused I true) w_X10_refused l_X10_154 d_X10_cut_2 rfl (Nat.le_of_ble_eq_true rfl) rfl rfl (Nat.le_of_ble_eq_true rfl) ⟨Nat.le_of_ble_eq_true rfl, Nat.le_of_ble_eq_true rfl⟩ ⟨Nat.zero_le _, Nat.zero_le _⟩ ⟨rfl, rfl⟩ ?_
  refine g_ifz 10 d_X10_cut_5 (by decide) (fun h1 => ?_) (fun h1 => ?_)
  · skip
    refine g_aload_n0 rfl d_X10_cut_10 ?_
    refine g_getP (b := td w) f_X10_19 d_X10_cut_11 rfl (Nat.le_of_ble_eq_true rfl) rfl rfl ?_
    refine g_getI f_X10_247 d_X10_cut_14 (kd_td w) (kd_sg (kd_td w) (by decide)) rfl ?_
    refine g_iconst 2 d_X10_cut_17 (by decide) ?_
    refine g_cut (pc' := 35) (vs' := [some (.ref (ka k 0))]) (st' := [.int (u0_X10_cut I w)]) (M' := (81, ex, (m_X10_refused I true), J, Pw w)) (fun hj => ?_) ?_
    · skip
      refine g_icmp_ge 26 d_X10_cut_18 (by decide) (fun h2 => ?_) (fun h2 => ?_)
      · skip
        refine g_aload_n0 rfl d_X10_cut_26 ?_
        refine g_getP (b := td w) f_X10_19 d_X10_cut_27 rfl (Nat.le_of_ble_eq_true rfl) rfl rfl ?_
        refine g_iconst (-1) d_X10_cut_30 (by decide) ?_
        refine g_iconst 0 d_X10_cut_31 (by decide) ?_
        refine g_callS1 (c_X1_leastSide (m_X10_refused I true) (td w) (kd_td w) (-1) 0) w_X1_leastSide l_X10_250 d_X10_cut_32 rfl rfl (Nat.le_of_ble_eq_true rfl) ⟨Nat.le_of_ble_eq_true rfl, Nat.le_of_ble_eq_true rfl⟩ ⟨Nat.zero_le _, Nat.zero_le _⟩ ⟨rfl, rfl⟩ ?_
        (try simp only [if_pos h2, opv_eq, if_true, if_false, Bool.false_eq_true, reduceCtorEq, b2i_t, b2i_f, u0_X10_cut] at hj); exact hj
      · skip
        refine g_bipush (-2) d_X10_cut_21 (by decide) ?_
        refine g_goto 35 d_X10_cut_23 (by decide) ?_
        (try simp only [if_neg h2, opv_eq, if_true, if_false, Bool.false_eq_true, reduceCtorEq, b2i_t, b2i_f, u0_X10_cut] at hj); exact hj
    · skip
      exact g_iret rfl d_X10_cut_35 ⟨by simp only [f_X10_cut, m_X10_cut, if_neg (nb h1), opv_eq, if_true, if_false, Bool.false_eq_true, reduceCtorEq, b2i_t, b2i_f], by simp only [f_X10_cut, m_X10_cut, if_neg (nb h1), opv_eq, if_true, if_false, Bool.false_eq_true, reduceCtorEq, b2i_t, b2i_f]⟩ (Nat.le_refl _) (Nat.le_refl _)
  · skip
    refine g_iconst (-1) d_X10_cut_8 (by decide) ?_
    exact g_iret rfl d_X10_cut_9 ⟨by simp only [f_X10_cut, m_X10_cut, if_pos h1, opv_eq, if_true, if_false, Bool.false_eq_true, reduceCtorEq, b2i_t, b2i_f], by simp only [f_X10_cut, m_X10_cut, if_pos h1, opv_eq, if_true, if_false, Bool.false_eq_true, reduceCtorEq, b2i_t, b2i_f]⟩ (Nat.le_refl _) (Nat.le_refl _)
noncomputable def u0_X10_floodIf (I : Nat → Nat → Int32) (w : Bool) (x1 : Int32) (x2 : Int32) : Nat → Nat → Int32 := opv (m_X10_refused (m_X10_lacks I (f_X7_holds I (rt (td w) 10) x1)) (f_X10_within (m_X10_lacks I (f_X7_holds I (rt (td w) 10) x1)) x2 0 999))
noncomputable def f_X10_floodIf (I : Nat → Nat → Int32) (w : Bool) (x1 : Int32) (x2 : Int32) : Int32 := opv (if (f_X10_lacks I (f_X7_holds I (rt (td w) 10) x1)) = true then (-1) else (if (f_X10_refused (m_X10_lacks I (f_X7_holds I (rt (td w) 10) x1)) (f_X10_within (m_X10_lacks I (f_X7_holds I (rt (td w) 10) x1)) x2 0 999)) = true then (-1) else f_X1_most (u0_X10_floodIf I w x1 x2) (td w) x1 x2))
noncomputable def m_X10_floodIf (I : Nat → Nat → Int32) (w : Bool) (x1 : Int32) (x2 : Int32) : Nat → Nat → Int32 := opv (if (f_X10_lacks I (f_X7_holds I (rt (td w) 10) x1)) = true then (m_X10_lacks I (f_X7_holds I (rt (td w) 10) x1)) else (u0_X10_floodIf I w x1 x2))
set_option maxHeartbeats 800000 in
set_option maxRecDepth 4000 in
theorem c_X10_floodIf {k : KT} {ex : Bool} {J : Nat → Nat → Int64} (I : Nat → Nat → Int32) (w : Bool) (x1 : Int32) (x2 : Int32)  : Cx k mX10_floodIf 6 [.ref (ka k 0), .int x1, .int x2] (81, ex, I, J, Pw w) (some (.int (f_X10_floodIf I w x1 x2))) (81, ex, m_X10_floodIf I w x1 x2, J, Pw w) := by
  refine Ct.of rfl [some (.ref (ka k 0)), some (.int x1), some (.int x2)] rfl rfl (Nat.le_of_ble_eq_true rfl) ?_
  refine g_aload_n0 rfl d_X10_floodIf_0 ?_
  refine g_aload_n0 rfl d_X10_floodIf_1 ?_
  refine g_getP (b := td w) f_X10_19 d_X10_floodIf_2 rfl (Nat.le_of_ble_eq_true rfl) rfl rfl ?_
  refine g_getP (b := rt (td w) 10) f_X10_253 d_X10_floodIf_5 (kd_td w) (kd_sg (kd_td w) (by decide)) rfl (pw_rt (kd_td w) (by decide) (by decide)) ?_
  refine g_iload_n1 rfl d_X10_floodIf_8 ?_
  refine g_callV1 (c_X7_holds I (rt (td w) 10) (kt7 (kd_td w)).2.2.2 x1) w_X7_holds l_X10_136 d_X10_floodIf_9 (kt7 (kd_td w)).2.2.2 (kd_sg ((kt7 (kd_td w)).2.2.2) (by decide)) rfl rfl (Nat.le_of_ble_eq_true rfl) ⟨Nat.le_of_ble_eq_true rfl, Nat.le_of_ble_eq_true rfl⟩ ⟨Nat.zero_le _, Nat.zero_le _⟩ ⟨rfl, rfl⟩ ?_
  refine g_callV1 (c_X10_lacks I (f_X7_holds I (rt (td w) 10) x1)) w_X10_lacks l_X10_113 d_X10_floodIf_12 rfl (Nat.le_of_ble_eq_true rfl) rfl rfl (Nat.le_of_ble_eq_true rfl) ⟨Nat.le_of_ble_eq_true rfl, Nat.le_of_ble_eq_true rfl⟩ ⟨Nat.zero_le _, Nat.zero_le _⟩ ⟨rfl, rfl⟩ ?_
  refine g_ifnz 33 d_X10_floodIf_15 (by decide) (fun h1 => ?_) (fun h1 => ?_)
  · skip
    refine g_iconst (-1) d_X10_floodIf_33 (by decide) ?_
    exact g_iret rfl d_X10_floodIf_34 ⟨by simp only [f_X10_floodIf, m_X10_floodIf, if_pos h1, opv_eq, if_true, if_false, Bool.false_eq_true, reduceCtorEq, b2i_t, b2i_f], by simp only [f_X10_floodIf, m_X10_floodIf, if_pos h1, opv_eq, if_true, if_false, Bool.false_eq_true, reduceCtorEq, b2i_t, b2i_f]⟩ (Nat.le_refl _) (Nat.le_refl _)
  · skip
    refine g_aload_n0 rfl d_X10_floodIf_18 ?_
    refine g_iload_n2 rfl d_X10_floodIf_19 ?_
    refine g_iconst 0 d_X10_floodIf_20 (by decide) ?_
    refine g_sipush 999 d_X10_floodIf_21 (by decide) ?_
    refine g_callS1 (c_X10_within (m_X10_lacks I (f_X7_holds I (rt (td w) 10) x1)) x2 0 999) w_X10_within l_X10_73 d_X10_floodIf_24 rfl rfl (Nat.le_of_ble_eq_true rfl) ⟨Nat.le_of_ble_eq_true rfl, Nat.le_of_ble_eq_true rfl⟩ ⟨Nat.zero_le _, Nat.zero_le _⟩ ⟨rfl, rfl⟩ ?_
    refine g_callV1 (c_X10_refused (m_X10_lacks I (f_X7_holds I (rt (td w) 10) x1)) (f_X10_within (m_X10_lacks I (f_X7_holds I (rt (td w) 10) x1)) x2 0 999)) w_X10_refused l_X10_154 d_X10_floodIf_27 rfl (Nat.le_of_ble_eq_true rfl) rfl rfl (Nat.le_of_ble_eq_true rfl) ⟨Nat.le_of_ble_eq_true rfl, Nat.le_of_ble_eq_true rfl⟩ ⟨Nat.zero_le _, Nat.zero_le _⟩ ⟨rfl, rfl⟩ ?_
    refine G.toI (I' := (u0_X10_floodIf I w x1 x2)) (by rw [u0_X10_floodIf, opv_eq]) ?_
    refine g_ifz 35 d_X10_floodIf_30 (by decide) (fun h2 => ?_) (fun h2 => ?_)
    · skip
      refine g_aload_n0 rfl d_X10_floodIf_35 ?_
      refine g_getP (b := td w) f_X10_19 d_X10_floodIf_36 rfl (Nat.le_of_ble_eq_true rfl) rfl rfl ?_
      refine g_iload_n1 rfl d_X10_floodIf_39 ?_
      refine g_iload_n2 rfl d_X10_floodIf_40 ?_
      refine g_callS1 (c_X1_most (u0_X10_floodIf I w x1 x2) (td w) (kd_td w) x1 x2) w_X1_most l_X10_241 d_X10_floodIf_41 rfl rfl (Nat.le_of_ble_eq_true rfl) ⟨Nat.le_of_ble_eq_true rfl, Nat.le_of_ble_eq_true rfl⟩ ⟨Nat.zero_le _, Nat.zero_le _⟩ ⟨rfl, rfl⟩ ?_
      exact g_iret rfl d_X10_floodIf_44 ⟨by simp only [f_X10_floodIf, m_X10_floodIf, if_neg (nb h1), if_neg (nb h2), opv_eq, if_true, if_false, Bool.false_eq_true, reduceCtorEq, b2i_t, b2i_f], by simp only [f_X10_floodIf, m_X10_floodIf, if_neg (nb h1), if_neg (nb h2), opv_eq, if_true, if_false, Bool.false_eq_true, reduceCtorEq, b2i_t, b2i_f]⟩ (Nat.le_refl _) (Nat.le_refl _)
    · skip
      refine g_iconst (-1) d_X10_floodIf_33 (by decide) ?_
      exact g_iret rfl d_X10_floodIf_34 ⟨by simp only [f_X10_floodIf, m_X10_floodIf, if_neg (nb h1), if_pos h2, opv_eq, if_true, if_false, Bool.false_eq_true, reduceCtorEq, b2i_t, b2i_f], by simp only [f_X10_floodIf, m_X10_floodIf, if_neg (nb h1), if_pos h2, opv_eq, if_true, if_false, Bool.false_eq_true, reduceCtorEq, b2i_t, b2i_f]⟩ (Nat.le_refl _) (Nat.le_refl _)
noncomputable def u0_X10_narrow (I : Nat → Nat → Int32) (w : Bool) : Int32 := opv (if (f_X10_refused I true) = true then (-1) else f_X1_narrowDitches (m_X10_refused I true) (td w))
noncomputable def f_X10_narrow (I : Nat → Nat → Int32) (w : Bool)  : Int32 := opv (u0_X10_narrow I w)
noncomputable def m_X10_narrow (I : Nat → Nat → Int32) (w : Bool)  : Nat → Nat → Int32 := opv (m_X10_refused I true)
set_option maxHeartbeats 800000 in
set_option maxRecDepth 4000 in
theorem c_X10_narrow {k : KT} {ex : Bool} {J : Nat → Nat → Int64} (I : Nat → Nat → Int32) (w : Bool)   : Cx k mX10_narrow 7 [.ref (ka k 0)] (81, ex, I, J, Pw w) (some (.int (f_X10_narrow I w))) (81, ex, m_X10_narrow I w, J, Pw w) := by
  refine Ct.of rfl [some (.ref (ka k 0))] rfl rfl (Nat.le_of_ble_eq_true rfl) ?_
  refine g_aload_n0 rfl d_X10_narrow_0 ?_
  refine g_iconst 1 d_X10_narrow_1 (by decide) ?_
  refine g_callV1 (c_X10_refused I true) w_X10_refused l_X10_154 d_X10_narrow_2 rfl (Nat.le_of_ble_eq_true rfl) rfl rfl (Nat.le_of_ble_eq_true rfl) ⟨Nat.le_of_ble_eq_true rfl, Nat.le_of_ble_eq_true rfl⟩ ⟨Nat.zero_le _, Nat.zero_le _⟩ ⟨rfl, rfl⟩ ?_
  refine g_cut (pc' := 19) (vs' := [some (.ref (ka k 0))]) (st' := [.int (u0_X10_narrow I w)]) (M' := (81, ex, (m_X10_refused I true), J, Pw w)) (fun hj => ?_) ?_
  · skip
    refine g_ifz 12 d_X10_narrow_5 (by decide) (fun h1 => ?_) (fun h1 => ?_)
    · skip
      refine g_aload_n0 rfl d_X10_narrow_12 ?_
      refine g_getP (b := td w) f_X10_19 d_X10_narrow_13 rfl (Nat.le_of_ble_eq_true rfl) rfl rfl ?_
      refine g_callS1 (c_X1_narrowDitches (m_X10_refused I true) (td w) (kd_td w)) w_X1_narrowDitches l_X10_256 d_X10_narrow_16 rfl rfl (Nat.le_of_ble_eq_true rfl) ⟨Nat.le_of_ble_eq_true rfl, Nat.le_of_ble_eq_true rfl⟩ ⟨Nat.zero_le _, Nat.zero_le _⟩ ⟨rfl, rfl⟩ ?_
      (try simp only [if_neg (nb h1), opv_eq, if_true, if_false, Bool.false_eq_true, reduceCtorEq, b2i_t, b2i_f, u0_X10_narrow] at hj); exact hj
    · skip
      refine g_iconst (-1) d_X10_narrow_8 (by decide) ?_
      refine g_goto 19 d_X10_narrow_9 (by decide) ?_
      (try simp only [if_pos h1, opv_eq, if_true, if_false, Bool.false_eq_true, reduceCtorEq, b2i_t, b2i_f, u0_X10_narrow] at hj); exact hj
  · skip
    exact g_iret rfl d_X10_narrow_19 ⟨by simp only [f_X10_narrow, m_X10_narrow, opv_eq, if_true, if_false, Bool.false_eq_true, reduceCtorEq, b2i_t, b2i_f], by simp only [f_X10_narrow, m_X10_narrow, opv_eq, if_true, if_false, Bool.false_eq_true, reduceCtorEq, b2i_t, b2i_f]⟩ (Nat.le_refl _) (Nat.le_refl _)
noncomputable def u0_X10_downhill (I : Nat → Nat → Int32) (w : Bool) (x1 : Int32) : Int32 := opv (if (f_X10_lacks I (f_X10_within I x1 0 ((I (td w) 6) - 1))) = true then (-1) else f_X1_reachedFrom (m_X10_lacks I (f_X10_within I x1 0 ((I (td w) 6) - 1))) (td w) x1)
noncomputable def f_X10_downhill (I : Nat → Nat → Int32) (w : Bool) (x1 : Int32) : Int32 := opv (u0_X10_downhill I w x1)
noncomputable def m_X10_downhill (I : Nat → Nat → Int32) (w : Bool) (x1 : Int32) : Nat → Nat → Int32 := opv (m_X10_lacks I (f_X10_within I x1 0 ((I (td w) 6) - 1)))
set_option maxHeartbeats 800000 in
set_option maxRecDepth 4000 in
theorem c_X10_downhill {k : KT} {ex : Bool} {J : Nat → Nat → Int64} (I : Nat → Nat → Int32) (w : Bool) (x1 : Int32)  : Cx k mX10_downhill 4 [.ref (ka k 0), .int x1] (81, ex, I, J, Pw w) (some (.int (f_X10_downhill I w x1))) (81, ex, m_X10_downhill I w x1, J, Pw w) := by
  refine Ct.of rfl [some (.ref (ka k 0)), some (.int x1)] rfl rfl (Nat.le_of_ble_eq_true rfl) ?_
  refine g_aload_n0 rfl d_X10_downhill_0 ?_
  refine g_iload_n1 rfl d_X10_downhill_1 ?_
  refine g_iconst 0 d_X10_downhill_2 (by decide) ?_
  refine g_aload_n0 rfl d_X10_downhill_3 ?_
  refine g_getP (b := td w) f_X10_19 d_X10_downhill_4 rfl (Nat.le_of_ble_eq_true rfl) rfl rfl ?_
  refine g_getI f_X10_247 d_X10_downhill_7 (kd_td w) (kd_sg (kd_td w) (by decide)) rfl ?_
  refine g_iconst 1 d_X10_downhill_10 (by decide) ?_
  refine g_isub d_X10_downhill_11 ?_
  refine g_callS1 (c_X10_within I x1 0 ((I (td w) 6) - 1)) w_X10_within l_X10_73 d_X10_downhill_12 rfl rfl (Nat.le_of_ble_eq_true rfl) ⟨Nat.le_of_ble_eq_true rfl, Nat.le_of_ble_eq_true rfl⟩ ⟨Nat.zero_le _, Nat.zero_le _⟩ ⟨rfl, rfl⟩ ?_
  refine g_callV1 (c_X10_lacks I (f_X10_within I x1 0 ((I (td w) 6) - 1))) w_X10_lacks l_X10_113 d_X10_downhill_15 rfl (Nat.le_of_ble_eq_true rfl) rfl rfl (Nat.le_of_ble_eq_true rfl) ⟨Nat.le_of_ble_eq_true rfl, Nat.le_of_ble_eq_true rfl⟩ ⟨Nat.zero_le _, Nat.zero_le _⟩ ⟨rfl, rfl⟩ ?_
  refine g_cut (pc' := 33) (vs' := [some (.ref (ka k 0)), some (.int x1)]) (st' := [.int (u0_X10_downhill I w x1)]) (M' := (81, ex, (m_X10_lacks I (f_X10_within I x1 0 ((I (td w) 6) - 1))), J, Pw w)) (fun hj => ?_) ?_
  · skip
    refine g_ifz 25 d_X10_downhill_18 (by decide) (fun h1 => ?_) (fun h1 => ?_)
    · skip
      refine g_aload_n0 rfl d_X10_downhill_25 ?_
      refine g_getP (b := td w) f_X10_19 d_X10_downhill_26 rfl (Nat.le_of_ble_eq_true rfl) rfl rfl ?_
      refine g_iload_n1 rfl d_X10_downhill_29 ?_
      refine g_callS1 (c_X1_reachedFrom (m_X10_lacks I (f_X10_within I x1 0 ((I (td w) 6) - 1))) (td w) (kd_td w) x1) w_X1_reachedFrom l_X10_259 d_X10_downhill_30 rfl rfl (Nat.le_of_ble_eq_true rfl) ⟨Nat.le_of_ble_eq_true rfl, Nat.le_of_ble_eq_true rfl⟩ ⟨Nat.zero_le _, Nat.zero_le _⟩ ⟨rfl, rfl⟩ ?_
      (try simp only [if_neg (nb h1), opv_eq, if_true, if_false, Bool.false_eq_true, reduceCtorEq, b2i_t, b2i_f, u0_X10_downhill] at hj); exact hj
    · skip
      refine g_iconst (-1) d_X10_downhill_21 (by decide) ?_
      refine g_goto 33 d_X10_downhill_22 (by decide) ?_
      (try simp only [if_pos h1, opv_eq, if_true, if_false, Bool.false_eq_true, reduceCtorEq, b2i_t, b2i_f, u0_X10_downhill] at hj); exact hj
  · skip
    exact g_iret rfl d_X10_downhill_33 ⟨by simp only [f_X10_downhill, m_X10_downhill, opv_eq, if_true, if_false, Bool.false_eq_true, reduceCtorEq, b2i_t, b2i_f], by simp only [f_X10_downhill, m_X10_downhill, opv_eq, if_true, if_false, Bool.false_eq_true, reduceCtorEq, b2i_t, b2i_f]⟩ (Nat.le_refl _) (Nat.le_refl _)
noncomputable def u0_X10_gusted (I : Nat → Nat → Int32) (x1 : Int32) (x2 : Int32) : Bool := opv (if (f_X10_within I x1 0 65536) = true then (if (f_X10_within I x2 0 60) = true then true else false) else false)
noncomputable def f_X10_gusted (I : Nat → Nat → Int32) (w : Bool) (x1 : Int32) (x2 : Int32) : Int32 := opv (if (f_X10_refused I (u0_X10_gusted I x1 x2)) = true then (-1) else ((m_X3_draw (m_X10_refused I (u0_X10_gusted I x1 x2)) (td w) 23 x1 x2) 64 0) + 9)
noncomputable def m_X10_gusted (I : Nat → Nat → Int32) (w : Bool) (x1 : Int32) (x2 : Int32) : Nat → Nat → Int32 := opv (if (f_X10_refused I (u0_X10_gusted I x1 x2)) = true then (m_X10_refused I (u0_X10_gusted I x1 x2)) else (m_X3_draw (m_X10_refused I (u0_X10_gusted I x1 x2)) (td w) 23 x1 x2))
noncomputable def ok_X10_gusted (I : Nat → Nat → Int32) (w : Bool) (x1 : Int32) (x2 : Int32) : Prop := opv (if (f_X10_refused I (u0_X10_gusted I x1 x2)) = true then True else ok_X3_draw (m_X10_refused I (u0_X10_gusted I x1 x2)) (td w) 23 x1 x2)
set_option maxHeartbeats 800000 in
set_option maxRecDepth 4000 in
theorem c_X10_gusted {k : KT} {ex : Bool} {J : Nat → Nat → Int64} (I : Nat → Nat → Int32) (w : Bool) (x1 : Int32) (x2 : Int32)  (hok : ok_X10_gusted I w x1 x2) : Cx k mX10_gusted 6 [.ref (ka k 0), .int x1, .int x2] (81, ex, I, J, Pw w) (some (.int (f_X10_gusted I w x1 x2))) (81, ex, m_X10_gusted I w x1 x2, J, Pw w) := by
  refine Ct.of rfl [some (.ref (ka k 0)), some (.int x1), some (.int x2)] rfl rfl (Nat.le_of_ble_eq_true rfl) ?_
  rw [ok_X10_gusted, opv_eq] at hok
  refine g_aload_n0 rfl d_X10_gusted_0 ?_
  refine g_iload_n1 rfl d_X10_gusted_1 ?_
  refine g_iconst 0 d_X10_gusted_2 (by decide) ?_
  refine g_ldcw (v := 65536) (in5 86 (by decide +kernel) rfl) d_X10_gusted_3 ?_
  refine g_callS1 (c_X10_within I x1 0 65536) w_X10_within l_X10_73 d_X10_gusted_6 rfl rfl (Nat.le_of_ble_eq_true rfl) ⟨Nat.le_of_ble_eq_true rfl, Nat.le_of_ble_eq_true rfl⟩ ⟨Nat.zero_le _, Nat.zero_le _⟩ ⟨rfl, rfl⟩ ?_
  refine g_cut (pc' := 27) (vs' := [some (.ref (ka k 0)), some (.int x1), some (.int x2)]) (st' := [.int (b2i (u0_X10_gusted I x1 x2)), .ref (ka k 0)]) (M' := (81, ex, I, J, Pw w)) (fun hj => ?_) ?_
  · skip
    refine g_ifz 26 d_X10_gusted_9 (by decide) (fun h1 => ?_) (fun h1 => ?_)
    · skip
      refine g_iconst 0 d_X10_gusted_26 (by decide) ?_
      (try simp only [if_neg (nb h1), opv_eq, if_true, if_false, Bool.false_eq_true, reduceCtorEq, b2i_t, b2i_f, u0_X10_gusted] at hj); exact hj
    · skip
      refine g_iload_n2 rfl d_X10_gusted_12 ?_
      refine g_iconst 0 d_X10_gusted_13 (by decide) ?_
      refine g_bipush 60 d_X10_gusted_14 (by decide) ?_
      refine g_callS1 (c_X10_within I x2 0 60) w_X10_within l_X10_73 d_X10_gusted_16 rfl rfl (Nat.le_of_ble_eq_true rfl) ⟨Nat.le_of_ble_eq_true rfl, Nat.le_of_ble_eq_true rfl⟩ ⟨Nat.zero_le _, Nat.zero_le _⟩ ⟨rfl, rfl⟩ ?_
      refine g_ifz 26 d_X10_gusted_19 (by decide) (fun h2 => ?_) (fun h2 => ?_)
      · skip
        refine g_iconst 0 d_X10_gusted_26 (by decide) ?_
        (try simp only [if_pos h1, if_neg (nb h2), opv_eq, if_true, if_false, Bool.false_eq_true, reduceCtorEq, b2i_t, b2i_f, u0_X10_gusted] at hj); exact hj
      · skip
        refine g_iconst 1 d_X10_gusted_22 (by decide) ?_
        refine g_goto 27 d_X10_gusted_23 (by decide) ?_
        (try simp only [if_pos h1, if_pos h2, opv_eq, if_true, if_false, Bool.false_eq_true, reduceCtorEq, b2i_t, b2i_f, u0_X10_gusted] at hj); exact hj
  · skip
    refine g_callV1 (c_X10_refused I (u0_X10_gusted I x1 x2)) w_X10_refused l_X10_154 d_X10_gusted_27 rfl (Nat.le_of_ble_eq_true rfl) rfl rfl (Nat.le_of_ble_eq_true rfl) ⟨Nat.le_of_ble_eq_true rfl, Nat.le_of_ble_eq_true rfl⟩ ⟨Nat.zero_le _, Nat.zero_le _⟩ ⟨rfl, rfl⟩ ?_
    refine g_ifz 35 d_X10_gusted_30 (by decide) (fun h3 => ?_) (fun h3 => ?_)
    · skip
      rw [if_neg (nb h3)] at hok
      refine g_aload_n0 rfl d_X10_gusted_35 ?_
      refine g_getP (b := 63) f_X10_61 d_X10_gusted_36 rfl (Nat.le_of_ble_eq_true rfl) rfl rfl ?_
      refine g_aload_n0 rfl d_X10_gusted_39 ?_
      refine g_getP (b := td w) f_X10_19 d_X10_gusted_40 rfl (Nat.le_of_ble_eq_true rfl) rfl rfl ?_
      refine g_aload_n0 rfl d_X10_gusted_43 ?_
      refine g_getP (b := 23) f_X10_26 d_X10_gusted_44 rfl (Nat.le_of_ble_eq_true rfl) rfl rfl ?_
      refine g_iload_n1 rfl d_X10_gusted_47 ?_
      refine g_iload_n2 rfl d_X10_gusted_48 ?_
      have ho1 := hok
      refine g_callV0 (c_X3_draw (m_X10_refused I (u0_X10_gusted I x1 x2)) (td w) (kd_td w) 23 rfl x1 x2 ho1) w_X3_draw l_X10_276 d_X10_gusted_49 rfl (Nat.le_of_ble_eq_true rfl) rfl rfl (Nat.le_of_ble_eq_true rfl) ⟨Nat.le_of_ble_eq_true rfl, Nat.le_of_ble_eq_true rfl⟩ ⟨Nat.zero_le _, Nat.zero_le _⟩ ⟨rfl, rfl⟩ ?_
      refine g_aload_n0 rfl d_X10_gusted_52 ?_
      refine g_getP (b := 63) f_X10_61 d_X10_gusted_53 rfl (Nat.le_of_ble_eq_true rfl) rfl rfl ?_
      refine g_getP (b := 64) f_X10_279 d_X10_gusted_56 rfl (Nat.le_of_ble_eq_true rfl) rfl rfl ?_
      refine g_getI f_X10_117 d_X10_gusted_59 rfl (Nat.le_of_ble_eq_true rfl) rfl ?_
      refine g_bipush 9 d_X10_gusted_62 (by decide) ?_
      refine g_iadd d_X10_gusted_64 ?_
      exact g_iret rfl d_X10_gusted_65 ⟨by simp only [f_X10_gusted, m_X10_gusted, if_neg (nb h3), opv_eq, if_true, if_false, Bool.false_eq_true, reduceCtorEq, b2i_t, b2i_f], by simp only [f_X10_gusted, m_X10_gusted, if_neg (nb h3), opv_eq, if_true, if_false, Bool.false_eq_true, reduceCtorEq, b2i_t, b2i_f]⟩ (Nat.le_refl _) (Nat.le_refl _)
    · skip
      refine g_iconst (-1) d_X10_gusted_33 (by decide) ?_
      exact g_iret rfl d_X10_gusted_34 ⟨by simp only [f_X10_gusted, m_X10_gusted, if_pos h3, opv_eq, if_true, if_false, Bool.false_eq_true, reduceCtorEq, b2i_t, b2i_f], by simp only [f_X10_gusted, m_X10_gusted, if_pos h3, opv_eq, if_true, if_false, Bool.false_eq_true, reduceCtorEq, b2i_t, b2i_f]⟩ (Nat.le_refl _) (Nat.le_refl _)
noncomputable def u0_X10_wetIn (I : Nat → Nat → Int32) (x1 : Int32) (x2 : Int32) : Bool := opv (if (f_X10_within I x1 0 65536) = true then (if (f_X10_within I x2 0 60) = true then true else false) else false)
noncomputable def f_X10_wetIn (I : Nat → Nat → Int32) (w : Bool) (x1 : Int32) (x2 : Int32) : Int32 := opv (if (f_X10_refused I (u0_X10_wetIn I x1 x2)) = true then (-1) else (m_X3_draw (m_X10_refused I (u0_X10_wetIn I x1 x2)) (td w) 23 x1 x2) 63 2)
noncomputable def m_X10_wetIn (I : Nat → Nat → Int32) (w : Bool) (x1 : Int32) (x2 : Int32) : Nat → Nat → Int32 := opv (if (f_X10_refused I (u0_X10_wetIn I x1 x2)) = true then (m_X10_refused I (u0_X10_wetIn I x1 x2)) else (m_X3_draw (m_X10_refused I (u0_X10_wetIn I x1 x2)) (td w) 23 x1 x2))
noncomputable def ok_X10_wetIn (I : Nat → Nat → Int32) (w : Bool) (x1 : Int32) (x2 : Int32) : Prop := opv (if (f_X10_refused I (u0_X10_wetIn I x1 x2)) = true then True else ok_X3_draw (m_X10_refused I (u0_X10_wetIn I x1 x2)) (td w) 23 x1 x2)
set_option maxHeartbeats 800000 in
set_option maxRecDepth 4000 in
theorem c_X10_wetIn {k : KT} {ex : Bool} {J : Nat → Nat → Int64} (I : Nat → Nat → Int32) (w : Bool) (x1 : Int32) (x2 : Int32)  (hok : ok_X10_wetIn I w x1 x2) : Cx k mX10_wetIn 6 [.ref (ka k 0), .int x1, .int x2] (81, ex, I, J, Pw w) (some (.int (f_X10_wetIn I w x1 x2))) (81, ex, m_X10_wetIn I w x1 x2, J, Pw w) := by
  refine Ct.of rfl [some (.ref (ka k 0)), some (.int x1), some (.int x2)] rfl rfl (Nat.le_of_ble_eq_true rfl) ?_
  rw [ok_X10_wetIn, opv_eq] at hok
  refine g_aload_n0 rfl d_X10_wetIn_0 ?_
  refine g_iload_n1 rfl d_X10_wetIn_1 ?_
  refine g_iconst 0 d_X10_wetIn_2 (by decide) ?_
  refine g_ldcw (v := 65536) (in5 86 (by decide +kernel) rfl) d_X10_wetIn_3 ?_
  refine g_callS1 (c_X10_within I x1 0 65536) w_X10_within l_X10_73 d_X10_wetIn_6 rfl rfl (Nat.le_of_ble_eq_true rfl) ⟨Nat.le_of_ble_eq_true rfl, Nat.le_of_ble_eq_true rfl⟩ ⟨Nat.zero_le _, Nat.zero_le _⟩ ⟨rfl, rfl⟩ ?_
  refine g_cut (pc' := 27) (vs' := [some (.ref (ka k 0)), some (.int x1), some (.int x2)]) (st' := [.int (b2i (u0_X10_wetIn I x1 x2)), .ref (ka k 0)]) (M' := (81, ex, I, J, Pw w)) (fun hj => ?_) ?_
  · skip
    refine g_ifz 26 d_X10_wetIn_9 (by decide) (fun h1 => ?_) (fun h1 => ?_)
    · skip
      refine g_iconst 0 d_X10_wetIn_26 (by decide) ?_
      (try simp only [if_neg (nb h1), opv_eq, if_true, if_false, Bool.false_eq_true, reduceCtorEq, b2i_t, b2i_f, u0_X10_wetIn] at hj); exact hj
    · skip
      refine g_iload_n2 rfl d_X10_wetIn_12 ?_
      refine g_iconst 0 d_X10_wetIn_13 (by decide) ?_
      refine g_bipush 60 d_X10_wetIn_14 (by decide) ?_
      refine g_callS1 (c_X10_within I x2 0 60) w_X10_within l_X10_73 d_X10_wetIn_16 rfl rfl (Nat.le_of_ble_eq_true rfl) ⟨Nat.le_of_ble_eq_true rfl, Nat.le_of_ble_eq_true rfl⟩ ⟨Nat.zero_le _, Nat.zero_le _⟩ ⟨rfl, rfl⟩ ?_
      refine g_ifz 26 d_X10_wetIn_19 (by decide) (fun h2 => ?_) (fun h2 => ?_)
      · skip
        refine g_iconst 0 d_X10_wetIn_26 (by decide) ?_
        (try simp only [if_pos h1, if_neg (nb h2), opv_eq, if_true, if_false, Bool.false_eq_true, reduceCtorEq, b2i_t, b2i_f, u0_X10_wetIn] at hj); exact hj
      · skip
        refine g_iconst 1 d_X10_wetIn_22 (by decide) ?_
        refine g_goto 27 d_X10_wetIn_23 (by decide) ?_
        (try simp only [if_pos h1, if_pos h2, opv_eq, if_true, if_false, Bool.false_eq_true, reduceCtorEq, b2i_t, b2i_f, u0_X10_wetIn] at hj); exact hj
  · skip
    refine g_callV1 (c_X10_refused I (u0_X10_wetIn I x1 x2)) w_X10_refused l_X10_154 d_X10_wetIn_27 rfl (Nat.le_of_ble_eq_true rfl) rfl rfl (Nat.le_of_ble_eq_true rfl) ⟨Nat.le_of_ble_eq_true rfl, Nat.le_of_ble_eq_true rfl⟩ ⟨Nat.zero_le _, Nat.zero_le _⟩ ⟨rfl, rfl⟩ ?_
    refine g_ifz 35 d_X10_wetIn_30 (by decide) (fun h3 => ?_) (fun h3 => ?_)
    · skip
      rw [if_neg (nb h3)] at hok
      refine g_aload_n0 rfl d_X10_wetIn_35 ?_
      refine g_getP (b := 63) f_X10_61 d_X10_wetIn_36 rfl (Nat.le_of_ble_eq_true rfl) rfl rfl ?_
      refine g_aload_n0 rfl d_X10_wetIn_39 ?_
      refine g_getP (b := td w) f_X10_19 d_X10_wetIn_40 rfl (Nat.le_of_ble_eq_true rfl) rfl rfl ?_
      refine g_aload_n0 rfl d_X10_wetIn_43 ?_
      refine g_getP (b := 23) f_X10_26 d_X10_wetIn_44 rfl (Nat.le_of_ble_eq_true rfl) rfl rfl ?_
      refine g_iload_n1 rfl d_X10_wetIn_47 ?_
      refine g_iload_n2 rfl d_X10_wetIn_48 ?_
      have ho1 := hok
      refine g_callV0 (c_X3_draw (m_X10_refused I (u0_X10_wetIn I x1 x2)) (td w) (kd_td w) 23 rfl x1 x2 ho1) w_X3_draw l_X10_276 d_X10_wetIn_49 rfl (Nat.le_of_ble_eq_true rfl) rfl rfl (Nat.le_of_ble_eq_true rfl) ⟨Nat.le_of_ble_eq_true rfl, Nat.le_of_ble_eq_true rfl⟩ ⟨Nat.zero_le _, Nat.zero_le _⟩ ⟨rfl, rfl⟩ ?_
      refine g_aload_n0 rfl d_X10_wetIn_52 ?_
      refine g_getP (b := 63) f_X10_61 d_X10_wetIn_53 rfl (Nat.le_of_ble_eq_true rfl) rfl rfl ?_
      refine g_getI f_X10_282 d_X10_wetIn_56 rfl (Nat.le_of_ble_eq_true rfl) rfl ?_
      exact g_iret rfl d_X10_wetIn_59 ⟨by simp only [f_X10_wetIn, m_X10_wetIn, if_neg (nb h3), opv_eq, if_true, if_false, Bool.false_eq_true, reduceCtorEq, b2i_t, b2i_f], by simp only [f_X10_wetIn, m_X10_wetIn, if_neg (nb h3), opv_eq, if_true, if_false, Bool.false_eq_true, reduceCtorEq, b2i_t, b2i_f]⟩ (Nat.le_refl _) (Nat.le_refl _)
    · skip
      refine g_iconst (-1) d_X10_wetIn_33 (by decide) ?_
      exact g_iret rfl d_X10_wetIn_34 ⟨by simp only [f_X10_wetIn, m_X10_wetIn, if_pos h3, opv_eq, if_true, if_false, Bool.false_eq_true, reduceCtorEq, b2i_t, b2i_f], by simp only [f_X10_wetIn, m_X10_wetIn, if_pos h3, opv_eq, if_true, if_false, Bool.false_eq_true, reduceCtorEq, b2i_t, b2i_f]⟩ (Nat.le_refl _) (Nat.le_refl _)
noncomputable def u0_X10_likely (I : Nat → Nat → Int32) (x1 : Int32) (x2 : Int32) : Bool := opv (if (f_X10_within I x1 0 3) = true then (if (f_X10_within I x2 0 6) = true then true else false) else false)
noncomputable def u1_X10_likely (I : Nat → Nat → Int32) (J : Nat → Nat → Int64) (w : Bool) (x1 : Int32) (x2 : Int32) : Nat → Nat → Int32 := opv (m_X3_weigh (m_X10_refused I (u0_X10_likely I x1 x2)) J (td w) 23 x2 x1)
noncomputable def u2_X10_likely (I : Nat → Nat → Int32) (J : Nat → Nat → Int64) (w : Bool) (x1 : Int32) (x2 : Int32) : Nat → Nat → Int64 := opv (j_X3_weigh (m_X10_refused I (u0_X10_likely I x1 x2)) J (td w) 23 x2 x1)
noncomputable def u3_X10_likely (I : Nat → Nat → Int32) (J : Nat → Nat → Int64) (w : Bool) (x1 : Int32) (x2 : Int32) (x3 : Bool) : Int64 := opv (if x3 = true then (u2_X10_likely I J w x1 x2) 63 1 else (u2_X10_likely I J w x1 x2) 63 0)
noncomputable def f_X10_likely (I : Nat → Nat → Int32) (J : Nat → Nat → Int64) (w : Bool) (x1 : Int32) (x2 : Int32) (x3 : Bool) : Int64 := opv (if (f_X10_refused I (u0_X10_likely I x1 x2)) = true then (-1) else (u3_X10_likely I J w x1 x2 x3))
noncomputable def m_X10_likely (I : Nat → Nat → Int32) (J : Nat → Nat → Int64) (w : Bool) (x1 : Int32) (x2 : Int32) (x3 : Bool) : Nat → Nat → Int32 := opv (if (f_X10_refused I (u0_X10_likely I x1 x2)) = true then (m_X10_refused I (u0_X10_likely I x1 x2)) else (u1_X10_likely I J w x1 x2))
noncomputable def j_X10_likely (I : Nat → Nat → Int32) (J : Nat → Nat → Int64) (w : Bool) (x1 : Int32) (x2 : Int32) (x3 : Bool) : Nat → Nat → Int64 := opv (if (f_X10_refused I (u0_X10_likely I x1 x2)) = true then J else (u2_X10_likely I J w x1 x2))
noncomputable def ok_X10_likely (I : Nat → Nat → Int32) (J : Nat → Nat → Int64) (w : Bool) (x1 : Int32) (x2 : Int32) (x3 : Bool) : Prop := opv (if (f_X10_refused I (u0_X10_likely I x1 x2)) = true then True else ok_X3_weigh (m_X10_refused I (u0_X10_likely I x1 x2)) J (td w) 23 x2 x1)
set_option maxHeartbeats 800000 in
set_option maxRecDepth 4000 in
theorem c_X10_likely {k : KT} {ex : Bool} (I : Nat → Nat → Int32) (J : Nat → Nat → Int64) (w : Bool) (x1 : Int32) (x2 : Int32) (x3 : Bool)  (hok : ok_X10_likely I J w x1 x2 x3) : Cx k mX10_likely 7 [.ref (ka k 0), .int x1, .int x2, .int (b2i x3)] (81, ex, I, J, Pw w) (some (.long (f_X10_likely I J w x1 x2 x3))) (81, ex, m_X10_likely I J w x1 x2 x3, j_X10_likely I J w x1 x2 x3, Pw w) := by
  refine Ct.of rfl [some (.ref (ka k 0)), some (.int x1), some (.int x2), some (.int (b2i x3))] rfl rfl (Nat.le_of_ble_eq_true rfl) ?_
  rw [ok_X10_likely, opv_eq] at hok
  refine g_aload_n0 rfl d_X10_likely_0 ?_
  refine g_iload_n1 rfl d_X10_likely_1 ?_
  refine g_iconst 0 d_X10_likely_2 (by decide) ?_
  refine g_iconst 3 d_X10_likely_3 (by decide) ?_
  refine g_callS1 (c_X10_within I x1 0 3) w_X10_within l_X10_73 d_X10_likely_4 rfl rfl (Nat.le_of_ble_eq_true rfl) ⟨Nat.le_of_ble_eq_true rfl, Nat.le_of_ble_eq_true rfl⟩ ⟨Nat.zero_le _, Nat.zero_le _⟩ ⟨rfl, rfl⟩ ?_
  refine g_cut (pc' := 25) (vs' := [some (.ref (ka k 0)), some (.int x1), some (.int x2), some (.int (b2i x3))]) (st' := [.int (b2i (u0_X10_likely I x1 x2)), .ref (ka k 0)]) (M' := (81, ex, I, J, Pw w)) (fun hj => ?_) ?_
  · skip
    refine g_ifz 24 d_X10_likely_7 (by decide) (fun h1 => ?_) (fun h1 => ?_)
    · skip
      refine g_iconst 0 d_X10_likely_24 (by decide) ?_
      (try simp only [if_neg (nb h1), opv_eq, if_true, if_false, Bool.false_eq_true, reduceCtorEq, b2i_t, b2i_f, u0_X10_likely] at hj); exact hj
    · skip
      refine g_iload_n2 rfl d_X10_likely_10 ?_
      refine g_iconst 0 d_X10_likely_11 (by decide) ?_
      refine g_bipush 6 d_X10_likely_12 (by decide) ?_
      refine g_callS1 (c_X10_within I x2 0 6) w_X10_within l_X10_73 d_X10_likely_14 rfl rfl (Nat.le_of_ble_eq_true rfl) ⟨Nat.le_of_ble_eq_true rfl, Nat.le_of_ble_eq_true rfl⟩ ⟨Nat.zero_le _, Nat.zero_le _⟩ ⟨rfl, rfl⟩ ?_
      refine g_ifz 24 d_X10_likely_17 (by decide) (fun h2 => ?_) (fun h2 => ?_)
      · skip
        refine g_iconst 0 d_X10_likely_24 (by decide) ?_
        (try simp only [if_pos h1, if_neg (nb h2), opv_eq, if_true, if_false, Bool.false_eq_true, reduceCtorEq, b2i_t, b2i_f, u0_X10_likely] at hj); exact hj
      · skip
        refine g_iconst 1 d_X10_likely_20 (by decide) ?_
        refine g_goto 25 d_X10_likely_21 (by decide) ?_
        (try simp only [if_pos h1, if_pos h2, opv_eq, if_true, if_false, Bool.false_eq_true, reduceCtorEq, b2i_t, b2i_f, u0_X10_likely] at hj); exact hj
  · skip
    refine g_callV1 (c_X10_refused I (u0_X10_likely I x1 x2)) w_X10_refused l_X10_154 d_X10_likely_25 rfl (Nat.le_of_ble_eq_true rfl) rfl rfl (Nat.le_of_ble_eq_true rfl) ⟨Nat.le_of_ble_eq_true rfl, Nat.le_of_ble_eq_true rfl⟩ ⟨Nat.zero_le _, Nat.zero_le _⟩ ⟨rfl, rfl⟩ ?_
    refine g_ifz 35 d_X10_likely_28 (by decide) (fun h3 => ?_) (fun h3 => ?_)
    · skip
      rw [if_neg (nb h3)] at hok
      refine g_aload_n0 rfl d_X10_likely_35 ?_
      refine g_getP (b := 63) f_X10_61 d_X10_likely_36 rfl (Nat.le_of_ble_eq_true rfl) rfl rfl ?_
      refine g_aload_n0 rfl d_X10_likely_39 ?_
      refine g_getP (b := td w) f_X10_19 d_X10_likely_40 rfl (Nat.le_of_ble_eq_true rfl) rfl rfl ?_
      refine g_aload_n0 rfl d_X10_likely_43 ?_
      refine g_getP (b := 23) f_X10_26 d_X10_likely_44 rfl (Nat.le_of_ble_eq_true rfl) rfl rfl ?_
      refine g_iload_n2 rfl d_X10_likely_47 ?_
      refine g_iload_n1 rfl d_X10_likely_48 ?_
      have ho1 := hok
      refine g_callV0 (c_X3_weigh (m_X10_refused I (u0_X10_likely I x1 x2)) J (td w) (kd_td w) 23 rfl x2 x1 ho1) w_X3_weigh l_X10_265 d_X10_likely_49 rfl (Nat.le_of_ble_eq_true rfl) rfl rfl (Nat.le_of_ble_eq_true rfl) ⟨Nat.le_of_ble_eq_true rfl, Nat.le_of_ble_eq_true rfl⟩ ⟨Nat.zero_le _, Nat.zero_le _⟩ ⟨rfl, rfl⟩ ?_
      refine G.toI (I' := (u1_X10_likely I J w x1 x2)) (by rw [u1_X10_likely, opv_eq]) ?_
      refine G.toJ (J' := (u2_X10_likely I J w x1 x2)) (by rw [u2_X10_likely, opv_eq]) ?_
      refine g_iload_n3 rfl d_X10_likely_52 ?_
      refine g_cut (pc' := 73) (vs' := [some (.ref (ka k 0)), some (.int x1), some (.int x2), some (.int (b2i x3))]) (st' := [.long (u3_X10_likely I J w x1 x2 x3)]) (M' := (81, ex, (u1_X10_likely I J w x1 x2), (u2_X10_likely I J w x1 x2), Pw w)) (fun hj => ?_) ?_
      · skip
        refine g_ifz 66 d_X10_likely_53 (by decide) (fun h4 => ?_) (fun h4 => ?_)
        · skip
          refine g_aload_n0 rfl d_X10_likely_66 ?_
          refine g_getP (b := 63) f_X10_61 d_X10_likely_67 rfl (Nat.le_of_ble_eq_true rfl) rfl rfl ?_
          refine g_getJ f_X10_272 d_X10_likely_70 rfl (Nat.le_of_ble_eq_true rfl) rfl ?_
          (try simp only [if_neg (nb h4), opv_eq, if_true, if_false, Bool.false_eq_true, reduceCtorEq, b2i_t, b2i_f, u3_X10_likely] at hj); exact hj
        · skip
          refine g_aload_n0 rfl d_X10_likely_56 ?_
          refine g_getP (b := 63) f_X10_61 d_X10_likely_57 rfl (Nat.le_of_ble_eq_true rfl) rfl rfl ?_
          refine g_getJ f_X10_268 d_X10_likely_60 rfl (Nat.le_of_ble_eq_true rfl) rfl ?_
          refine g_goto 73 d_X10_likely_63 (by decide) ?_
          (try simp only [if_pos h4, opv_eq, if_true, if_false, Bool.false_eq_true, reduceCtorEq, b2i_t, b2i_f, u3_X10_likely] at hj); exact hj
      · skip
        exact g_lret rfl d_X10_likely_73 ⟨by simp only [f_X10_likely, m_X10_likely, j_X10_likely, if_neg (nb h3), opv_eq, if_true, if_false, Bool.false_eq_true, reduceCtorEq, b2i_t, b2i_f], by simp only [f_X10_likely, m_X10_likely, j_X10_likely, if_neg (nb h3), opv_eq, if_true, if_false, Bool.false_eq_true, reduceCtorEq, b2i_t, b2i_f]⟩ (Nat.le_refl _) (Nat.le_refl _)
    · skip
      refine g_ldc2 (v := (-1)) (in5 57 (by decide +kernel) rfl) d_X10_likely_31 ?_
      exact g_lret rfl d_X10_likely_34 ⟨by simp only [f_X10_likely, m_X10_likely, j_X10_likely, if_pos h3, opv_eq, if_true, if_false, Bool.false_eq_true, reduceCtorEq, b2i_t, b2i_f], by simp only [f_X10_likely, m_X10_likely, j_X10_likely, if_pos h3, opv_eq, if_true, if_false, Bool.false_eq_true, reduceCtorEq, b2i_t, b2i_f]⟩ (Nat.le_refl _) (Nat.le_refl _)
noncomputable def u0_X10_mean (I : Nat → Nat → Int32) (J : Nat → Nat → Int64) (w : Bool) (x1 : Int32) : Nat → Nat → Int32 := opv (m_X3_weigh (m_X10_refused I (f_X10_within I x1 0 6)) J (td w) 23 x1 (-1))
noncomputable def u1_X10_mean (I : Nat → Nat → Int32) (J : Nat → Nat → Int64) (w : Bool) (x1 : Int32) : Nat → Nat → Int64 := opv (j_X3_weigh (m_X10_refused I (f_X10_within I x1 0 6)) J (td w) 23 x1 (-1))
noncomputable def u2_X10_mean (I : Nat → Nat → Int32) (J : Nat → Nat → Int64) (w : Bool) (x1 : Int32) (x2 : Bool) : Int64 := opv (if x2 = true then (u1_X10_mean I J w x1) 63 1 else (u1_X10_mean I J w x1) 63 0)
noncomputable def f_X10_mean (I : Nat → Nat → Int32) (J : Nat → Nat → Int64) (w : Bool) (x1 : Int32) (x2 : Bool) : Int64 := opv (if (f_X10_refused I (f_X10_within I x1 0 6)) = true then (-1) else (u2_X10_mean I J w x1 x2))
noncomputable def m_X10_mean (I : Nat → Nat → Int32) (J : Nat → Nat → Int64) (w : Bool) (x1 : Int32) (x2 : Bool) : Nat → Nat → Int32 := opv (if (f_X10_refused I (f_X10_within I x1 0 6)) = true then (m_X10_refused I (f_X10_within I x1 0 6)) else (u0_X10_mean I J w x1))
noncomputable def j_X10_mean (I : Nat → Nat → Int32) (J : Nat → Nat → Int64) (w : Bool) (x1 : Int32) (x2 : Bool) : Nat → Nat → Int64 := opv (if (f_X10_refused I (f_X10_within I x1 0 6)) = true then J else (u1_X10_mean I J w x1))
noncomputable def ok_X10_mean (I : Nat → Nat → Int32) (J : Nat → Nat → Int64) (w : Bool) (x1 : Int32) (x2 : Bool) : Prop := opv (if (f_X10_refused I (f_X10_within I x1 0 6)) = true then True else ok_X3_weigh (m_X10_refused I (f_X10_within I x1 0 6)) J (td w) 23 x1 (-1))
set_option maxHeartbeats 800000 in
set_option maxRecDepth 4000 in
theorem c_X10_mean {k : KT} {ex : Bool} (I : Nat → Nat → Int32) (J : Nat → Nat → Int64) (w : Bool) (x1 : Int32) (x2 : Bool)  (hok : ok_X10_mean I J w x1 x2) : Cx k mX10_mean 7 [.ref (ka k 0), .int x1, .int (b2i x2)] (81, ex, I, J, Pw w) (some (.long (f_X10_mean I J w x1 x2))) (81, ex, m_X10_mean I J w x1 x2, j_X10_mean I J w x1 x2, Pw w) := by
  refine Ct.of rfl [some (.ref (ka k 0)), some (.int x1), some (.int (b2i x2))] rfl rfl (Nat.le_of_ble_eq_true rfl) ?_
  rw [ok_X10_mean, opv_eq] at hok
  refine g_aload_n0 rfl d_X10_mean_0 ?_
  refine g_iload_n1 rfl d_X10_mean_1 ?_
  refine g_iconst 0 d_X10_mean_2 (by decide) ?_
  refine g_bipush 6 d_X10_mean_3 (by decide) ?_
  refine g_callS1 (c_X10_within I x1 0 6) w_X10_within l_X10_73 d_X10_mean_5 rfl rfl (Nat.le_of_ble_eq_true rfl) ⟨Nat.le_of_ble_eq_true rfl, Nat.le_of_ble_eq_true rfl⟩ ⟨Nat.zero_le _, Nat.zero_le _⟩ ⟨rfl, rfl⟩ ?_
  refine g_callV1 (c_X10_refused I (f_X10_within I x1 0 6)) w_X10_refused l_X10_154 d_X10_mean_8 rfl (Nat.le_of_ble_eq_true rfl) rfl rfl (Nat.le_of_ble_eq_true rfl) ⟨Nat.le_of_ble_eq_true rfl, Nat.le_of_ble_eq_true rfl⟩ ⟨Nat.zero_le _, Nat.zero_le _⟩ ⟨rfl, rfl⟩ ?_
  refine g_ifz 18 d_X10_mean_11 (by decide) (fun h1 => ?_) (fun h1 => ?_)
  · skip
    rw [if_neg (nb h1)] at hok
    refine g_aload_n0 rfl d_X10_mean_18 ?_
    refine g_getP (b := 63) f_X10_61 d_X10_mean_19 rfl (Nat.le_of_ble_eq_true rfl) rfl rfl ?_
    refine g_aload_n0 rfl d_X10_mean_22 ?_
    refine g_getP (b := td w) f_X10_19 d_X10_mean_23 rfl (Nat.le_of_ble_eq_true rfl) rfl rfl ?_
    refine g_aload_n0 rfl d_X10_mean_26 ?_
    refine g_getP (b := 23) f_X10_26 d_X10_mean_27 rfl (Nat.le_of_ble_eq_true rfl) rfl rfl ?_
    refine g_iload_n1 rfl d_X10_mean_30 ?_
    refine g_iconst (-1) d_X10_mean_31 (by decide) ?_
    have ho1 := hok
    refine g_callV0 (c_X3_weigh (m_X10_refused I (f_X10_within I x1 0 6)) J (td w) (kd_td w) 23 rfl x1 (-1) ho1) w_X3_weigh l_X10_265 d_X10_mean_32 rfl (Nat.le_of_ble_eq_true rfl) rfl rfl (Nat.le_of_ble_eq_true rfl) ⟨Nat.le_of_ble_eq_true rfl, Nat.le_of_ble_eq_true rfl⟩ ⟨Nat.zero_le _, Nat.zero_le _⟩ ⟨rfl, rfl⟩ ?_
    refine G.toI (I' := (u0_X10_mean I J w x1)) (by rw [u0_X10_mean, opv_eq]) ?_
    refine G.toJ (J' := (u1_X10_mean I J w x1)) (by rw [u1_X10_mean, opv_eq]) ?_
    refine g_iload_n2 rfl d_X10_mean_35 ?_
    refine g_cut (pc' := 56) (vs' := [some (.ref (ka k 0)), some (.int x1), some (.int (b2i x2))]) (st' := [.long (u2_X10_mean I J w x1 x2)]) (M' := (81, ex, (u0_X10_mean I J w x1), (u1_X10_mean I J w x1), Pw w)) (fun hj => ?_) ?_
    · skip
      refine g_ifz 49 d_X10_mean_36 (by decide) (fun h2 => ?_) (fun h2 => ?_)
      · skip
        refine g_aload_n0 rfl d_X10_mean_49 ?_
        refine g_getP (b := 63) f_X10_61 d_X10_mean_50 rfl (Nat.le_of_ble_eq_true rfl) rfl rfl ?_
        refine g_getJ f_X10_272 d_X10_mean_53 rfl (Nat.le_of_ble_eq_true rfl) rfl ?_
        (try simp only [if_neg (nb h2), opv_eq, if_true, if_false, Bool.false_eq_true, reduceCtorEq, b2i_t, b2i_f, u2_X10_mean] at hj); exact hj
      · skip
        refine g_aload_n0 rfl d_X10_mean_39 ?_
        refine g_getP (b := 63) f_X10_61 d_X10_mean_40 rfl (Nat.le_of_ble_eq_true rfl) rfl rfl ?_
        refine g_getJ f_X10_268 d_X10_mean_43 rfl (Nat.le_of_ble_eq_true rfl) rfl ?_
        refine g_goto 56 d_X10_mean_46 (by decide) ?_
        (try simp only [if_pos h2, opv_eq, if_true, if_false, Bool.false_eq_true, reduceCtorEq, b2i_t, b2i_f, u2_X10_mean] at hj); exact hj
    · skip
      exact g_lret rfl d_X10_mean_56 ⟨by simp only [f_X10_mean, m_X10_mean, j_X10_mean, if_neg (nb h1), opv_eq, if_true, if_false, Bool.false_eq_true, reduceCtorEq, b2i_t, b2i_f], by simp only [f_X10_mean, m_X10_mean, j_X10_mean, if_neg (nb h1), opv_eq, if_true, if_false, Bool.false_eq_true, reduceCtorEq, b2i_t, b2i_f]⟩ (Nat.le_refl _) (Nat.le_refl _)
  · skip
    refine g_ldc2 (v := (-1)) (in5 57 (by decide +kernel) rfl) d_X10_mean_14 ?_
    exact g_lret rfl d_X10_mean_17 ⟨by simp only [f_X10_mean, m_X10_mean, j_X10_mean, if_pos h1, opv_eq, if_true, if_false, Bool.false_eq_true, reduceCtorEq, b2i_t, b2i_f], by simp only [f_X10_mean, m_X10_mean, j_X10_mean, if_pos h1, opv_eq, if_true, if_false, Bool.false_eq_true, reduceCtorEq, b2i_t, b2i_f]⟩ (Nat.le_refl _) (Nat.le_refl _)
noncomputable def u0_X10_open (I : Nat → Nat → Int32) (w : Bool) (x1 : Int32) : Nat → Nat → Int32 := opv (m_X0_openVent (m_X5_keep (m_X10_lacks I (f_X7_holds I (rt (td w) 7) x1)) 23) 23 x1)
noncomputable def f_X10_open (I : Nat → Nat → Int32) (w : Bool) (x1 : Int32) : Bool := opv (if (f_X10_lacks I (f_X7_holds I (rt (td w) 7) x1)) = true then false else (if (f_X0_isOpen (m_X10_lacks I (f_X7_holds I (rt (td w) 7) x1)) 23 x1) = true then false else true))
noncomputable def m_X10_open (I : Nat → Nat → Int32) (w : Bool) (x1 : Int32) : Nat → Nat → Int32 := opv (if (f_X10_lacks I (f_X7_holds I (rt (td w) 7) x1)) = true then (m_X10_lacks I (f_X7_holds I (rt (td w) 7) x1)) else (if (f_X0_isOpen (m_X10_lacks I (f_X7_holds I (rt (td w) 7) x1)) 23 x1) = true then (st2 (m_X10_lacks I (f_X7_holds I (rt (td w) 7) x1)) 0 7 5) else (u0_X10_open I w x1)))
noncomputable def ok_X10_open (I : Nat → Nat → Int32) (w : Bool) (x1 : Int32) : Prop := opv (if (f_X10_lacks I (f_X7_holds I (rt (td w) 7) x1)) = true then True else (if (f_X0_isOpen (m_X10_lacks I (f_X7_holds I (rt (td w) 7) x1)) 23 x1) = true then True else ok_X5_keep (m_X10_lacks I (f_X7_holds I (rt (td w) 7) x1)) 23))
set_option maxHeartbeats 800000 in
set_option maxRecDepth 4000 in
theorem c_X10_open {k : KT} {ex : Bool} {J : Nat → Nat → Int64} (I : Nat → Nat → Int32) (w : Bool) (x1 : Int32)  (hok : ok_X10_open I w x1) : Cx k mX10_open 3 [.ref (ka k 0), .int x1] (81, ex, I, J, Pw w) (some (.int (b2i (f_X10_open I w x1)))) (81, ex, m_X10_open I w x1, J, Pw w) := by
  refine Ct.of rfl [some (.ref (ka k 0)), some (.int x1)] rfl rfl (Nat.le_of_ble_eq_true rfl) ?_
  rw [ok_X10_open, opv_eq] at hok
  refine g_aload_n0 rfl d_X10_open_0 ?_
  refine g_aload_n0 rfl d_X10_open_1 ?_
  refine g_getP (b := td w) f_X10_19 d_X10_open_2 rfl (Nat.le_of_ble_eq_true rfl) rfl rfl ?_
  refine g_getP (b := rt (td w) 7) f_X10_104 d_X10_open_5 (kd_td w) (kd_sg (kd_td w) (by decide)) rfl (pw_rt (kd_td w) (by decide) (by decide)) ?_
  refine g_iload_n1 rfl d_X10_open_8 ?_
  refine g_callV1 (c_X7_holds I (rt (td w) 7) (kt7 (kd_td w)).1 x1) w_X7_holds l_X10_136 d_X10_open_9 (kt7 (kd_td w)).1 (kd_sg ((kt7 (kd_td w)).1) (by decide)) rfl rfl (Nat.le_of_ble_eq_true rfl) ⟨Nat.le_of_ble_eq_true rfl, Nat.le_of_ble_eq_true rfl⟩ ⟨Nat.zero_le _, Nat.zero_le _⟩ ⟨rfl, rfl⟩ ?_
  refine g_callV1 (c_X10_lacks I (f_X7_holds I (rt (td w) 7) x1)) w_X10_lacks l_X10_113 d_X10_open_12 rfl (Nat.le_of_ble_eq_true rfl) rfl rfl (Nat.le_of_ble_eq_true rfl) ⟨Nat.le_of_ble_eq_true rfl, Nat.le_of_ble_eq_true rfl⟩ ⟨Nat.zero_le _, Nat.zero_le _⟩ ⟨rfl, rfl⟩ ?_
  refine g_ifz 20 d_X10_open_15 (by decide) (fun h1 => ?_) (fun h1 => ?_)
  · skip
    rw [if_neg (nb h1)] at hok
    refine g_aload_n0 rfl d_X10_open_20 ?_
    refine g_getP (b := 23) f_X10_26 d_X10_open_21 rfl (Nat.le_of_ble_eq_true rfl) rfl rfl ?_
    refine g_iload_n1 rfl d_X10_open_24 ?_
    refine g_callV1 (c_X0_isOpen (m_X10_lacks I (f_X7_holds I (rt (td w) 7) x1)) 23 rfl x1) w_X0_isOpen l_X10_140 d_X10_open_25 rfl (Nat.le_of_ble_eq_true rfl) rfl rfl (Nat.le_of_ble_eq_true rfl) ⟨Nat.le_of_ble_eq_true rfl, Nat.le_of_ble_eq_true rfl⟩ ⟨Nat.zero_le _, Nat.zero_le _⟩ ⟨rfl, rfl⟩ ?_
    refine g_ifz 38 d_X10_open_28 (by decide) (fun h2 => ?_) (fun h2 => ?_)
    · skip
      rw [if_neg (nb h2)] at hok
      refine g_aload_n0 rfl d_X10_open_38 ?_
      refine g_getP (b := 24) f_X10_33 d_X10_open_39 rfl (Nat.le_of_ble_eq_true rfl) rfl rfl ?_
      refine g_aload_n0 rfl d_X10_open_42 ?_
      refine g_getP (b := 23) f_X10_26 d_X10_open_43 rfl (Nat.le_of_ble_eq_true rfl) rfl rfl ?_
      have ho1 := hok
      refine g_callV0 (c_X5_keep (m_X10_lacks I (f_X7_holds I (rt (td w) 7) x1)) 23 rfl ho1) w_X5_keep l_X10_285 d_X10_open_46 rfl (Nat.le_of_ble_eq_true rfl) rfl rfl (Nat.le_of_ble_eq_true rfl) ⟨Nat.le_of_ble_eq_true rfl, Nat.le_of_ble_eq_true rfl⟩ ⟨Nat.zero_le _, Nat.zero_le _⟩ ⟨rfl, rfl⟩ ?_
      refine g_aload_n0 rfl d_X10_open_49 ?_
      refine g_getP (b := 23) f_X10_26 d_X10_open_50 rfl (Nat.le_of_ble_eq_true rfl) rfl rfl ?_
      refine g_iload_n1 rfl d_X10_open_53 ?_
      refine g_callV0 (c_X0_openVent (m_X5_keep (m_X10_lacks I (f_X7_holds I (rt (td w) 7) x1)) 23) 23 rfl x1) w_X0_openVent l_X10_289 d_X10_open_54 rfl (Nat.le_of_ble_eq_true rfl) rfl rfl (Nat.le_of_ble_eq_true rfl) ⟨Nat.le_of_ble_eq_true rfl, Nat.le_of_ble_eq_true rfl⟩ ⟨Nat.zero_le _, Nat.zero_le _⟩ ⟨rfl, rfl⟩ ?_
      refine G.toI (I' := (u0_X10_open I w x1)) (by rw [u0_X10_open, opv_eq]) ?_
      refine g_iconst 1 d_X10_open_57 (by decide) ?_
      exact g_zret rfl (by decide) d_X10_open_58 ⟨by simp only [f_X10_open, m_X10_open, if_neg (nb h1), if_neg (nb h2), opv_eq, if_true, if_false, Bool.false_eq_true, reduceCtorEq, b2i_t, b2i_f], by simp only [f_X10_open, m_X10_open, if_neg (nb h1), if_neg (nb h2), opv_eq, if_true, if_false, Bool.false_eq_true, reduceCtorEq, b2i_t, b2i_f]⟩ (Nat.le_refl _) (Nat.le_refl _)
    · skip
      refine g_aload_n0 rfl d_X10_open_31 ?_
      refine g_iconst 5 d_X10_open_32 (by decide) ?_
      refine g_putI f_X10_101 d_X10_open_33 rfl (Nat.le_of_ble_eq_true rfl) rfl rfl rfl ?_
      refine g_iconst 0 d_X10_open_36 (by decide) ?_
      exact g_zret rfl (by decide) d_X10_open_37 ⟨by simp only [f_X10_open, m_X10_open, if_neg (nb h1), if_pos h2, opv_eq, if_true, if_false, Bool.false_eq_true, reduceCtorEq, b2i_t, b2i_f], by simp only [f_X10_open, m_X10_open, if_neg (nb h1), if_pos h2, opv_eq, if_true, if_false, Bool.false_eq_true, reduceCtorEq, b2i_t, b2i_f]⟩ (Nat.le_refl _) (Nat.le_refl _)
  · skip
    refine g_iconst 0 d_X10_open_18 (by decide) ?_
    exact g_zret rfl (by decide) d_X10_open_19 ⟨by simp only [f_X10_open, m_X10_open, if_pos h1, opv_eq, if_true, if_false, Bool.false_eq_true, reduceCtorEq, b2i_t, b2i_f], by simp only [f_X10_open, m_X10_open, if_pos h1, opv_eq, if_true, if_false, Bool.false_eq_true, reduceCtorEq, b2i_t, b2i_f]⟩ (Nat.le_refl _) (Nat.le_refl _)
noncomputable def f_X10_oil (I : Nat → Nat → Int32)  : Int32 := opv (if (f_X10_refused I true) = true then (-1) else (if ((m_X10_refused I true) 23 3) < 3 then ((m_X5_keep (m_X10_refused I true) 23) 23 3) + 1 else f_X10_refuse (m_X10_refused I true) 5))
noncomputable def m_X10_oil (I : Nat → Nat → Int32)  : Nat → Nat → Int32 := opv (if (f_X10_refused I true) = true then (m_X10_refused I true) else (if ((m_X10_refused I true) 23 3) < 3 then (st2 (m_X5_keep (m_X10_refused I true) 23) 23 3 (((m_X5_keep (m_X10_refused I true) 23) 23 3) + 1)) else (m_X10_refuse (m_X10_refused I true) 5)))
noncomputable def ok_X10_oil (I : Nat → Nat → Int32)  : Prop := opv (if (f_X10_refused I true) = true then True else (if ((m_X10_refused I true) 23 3) < 3 then ok_X5_keep (m_X10_refused I true) 23 else True))
set_option maxHeartbeats 800000 in
set_option maxRecDepth 4000 in
theorem c_X10_oil {k : KT} {ex : Bool} {J : Nat → Nat → Int64} {w : Bool} (I : Nat → Nat → Int32)   (hok : ok_X10_oil I) : Cx k mX10_oil 3 [.ref (ka k 0)] (81, ex, I, J, Pw w) (some (.int (f_X10_oil I))) (81, ex, m_X10_oil I, J, Pw w) := by
  refine Ct.of rfl [some (.ref (ka k 0))] rfl rfl (Nat.le_of_ble_eq_true rfl) ?_
  rw [ok_X10_oil, opv_eq] at hok
  refine g_aload_n0 rfl d_X10_oil_0 ?_
  refine g_iconst 1 d_X10_oil_1 (by decide) ?_
  refine g_callV1 (c_X10_refused I true) w_X10_refused l_X10_154 d_X10_oil_2 rfl (Nat.le_of_ble_eq_true rfl) rfl rfl (Nat.le_of_ble_eq_true rfl) ⟨Nat.le_of_ble_eq_true rfl, Nat.le_of_ble_eq_true rfl⟩ ⟨Nat.zero_le _, Nat.zero_le _⟩ ⟨rfl, rfl⟩ ?_
  refine g_ifz 10 d_X10_oil_5 (by decide) (fun h1 => ?_) (fun h1 => ?_)
  · skip
    rw [if_neg (nb h1)] at hok
    refine g_aload_n0 rfl d_X10_oil_10 ?_
    refine g_getP (b := 23) f_X10_26 d_X10_oil_11 rfl (Nat.le_of_ble_eq_true rfl) rfl rfl ?_
    refine g_getI f_X10_127 d_X10_oil_14 rfl (Nat.le_of_ble_eq_true rfl) rfl ?_
    refine g_iconst 3 d_X10_oil_17 (by decide) ?_
    refine g_icmp_lt 27 d_X10_oil_18 (by decide) (fun h2 => ?_) (fun h2 => ?_)
    · skip
      rw [if_pos h2] at hok
      refine g_aload_n0 rfl d_X10_oil_27 ?_
      refine g_getP (b := 24) f_X10_33 d_X10_oil_28 rfl (Nat.le_of_ble_eq_true rfl) rfl rfl ?_
      refine g_aload_n0 rfl d_X10_oil_31 ?_
      refine g_getP (b := 23) f_X10_26 d_X10_oil_32 rfl (Nat.le_of_ble_eq_true rfl) rfl rfl ?_
      have ho1 := hok
      refine g_callV0 (c_X5_keep (m_X10_refused I true) 23 rfl ho1) w_X5_keep l_X10_285 d_X10_oil_35 rfl (Nat.le_of_ble_eq_true rfl) rfl rfl (Nat.le_of_ble_eq_true rfl) ⟨Nat.le_of_ble_eq_true rfl, Nat.le_of_ble_eq_true rfl⟩ ⟨Nat.zero_le _, Nat.zero_le _⟩ ⟨rfl, rfl⟩ ?_
      refine g_aload_n0 rfl d_X10_oil_38 ?_
      refine g_getP (b := 23) f_X10_26 d_X10_oil_39 rfl (Nat.le_of_ble_eq_true rfl) rfl rfl ?_
      refine g_dup rfl d_X10_oil_42 ?_
      refine g_getI f_X10_127 d_X10_oil_43 rfl (Nat.le_of_ble_eq_true rfl) rfl ?_
      refine g_iconst 1 d_X10_oil_46 (by decide) ?_
      refine g_iadd d_X10_oil_47 ?_
      refine g_putI f_X10_127 d_X10_oil_48 rfl (Nat.le_of_ble_eq_true rfl) rfl rfl rfl ?_
      refine g_aload_n0 rfl d_X10_oil_51 ?_
      refine g_getP (b := 23) f_X10_26 d_X10_oil_52 rfl (Nat.le_of_ble_eq_true rfl) rfl rfl ?_
      refine g_getIv (((m_X5_keep (m_X10_refused I true) 23) 23 3) + 1) (st2_s _ _ _ _) f_X10_127 d_X10_oil_55 rfl (Nat.le_of_ble_eq_true rfl) rfl ?_
      exact g_iret rfl d_X10_oil_58 ⟨by simp only [f_X10_oil, m_X10_oil, if_neg (nb h1), if_pos h2, opv_eq, if_true, if_false, Bool.false_eq_true, reduceCtorEq, b2i_t, b2i_f], by simp only [f_X10_oil, m_X10_oil, if_neg (nb h1), if_pos h2, opv_eq, if_true, if_false, Bool.false_eq_true, reduceCtorEq, b2i_t, b2i_f]⟩ (Nat.le_refl _) (Nat.le_refl _)
    · skip
      refine g_aload_n0 rfl d_X10_oil_21 ?_
      refine g_iconst 5 d_X10_oil_22 (by decide) ?_
      refine g_callV1 (c_X10_refuse (m_X10_refused I true) 5) w_X10_refuse l_X10_77 d_X10_oil_23 rfl (Nat.le_of_ble_eq_true rfl) rfl rfl (Nat.le_of_ble_eq_true rfl) ⟨Nat.le_of_ble_eq_true rfl, Nat.le_of_ble_eq_true rfl⟩ ⟨Nat.zero_le _, Nat.zero_le _⟩ ⟨rfl, rfl⟩ ?_
      exact g_iret rfl d_X10_oil_26 ⟨by simp only [f_X10_oil, m_X10_oil, if_neg (nb h1), if_neg h2, opv_eq, if_true, if_false, Bool.false_eq_true, reduceCtorEq, b2i_t, b2i_f], by simp only [f_X10_oil, m_X10_oil, if_neg (nb h1), if_neg h2, opv_eq, if_true, if_false, Bool.false_eq_true, reduceCtorEq, b2i_t, b2i_f]⟩ (Nat.le_refl _) (Nat.le_refl _)
  · skip
    refine g_iconst (-1) d_X10_oil_8 (by decide) ?_
    exact g_iret rfl d_X10_oil_9 ⟨by simp only [f_X10_oil, m_X10_oil, if_pos h1, opv_eq, if_true, if_false, Bool.false_eq_true, reduceCtorEq, b2i_t, b2i_f], by simp only [f_X10_oil, m_X10_oil, if_pos h1, opv_eq, if_true, if_false, Bool.false_eq_true, reduceCtorEq, b2i_t, b2i_f]⟩ (Nat.le_refl _) (Nat.le_refl _)
noncomputable def f_X10_day (I : Nat → Nat → Int32) (w : Bool)  : Int32 := opv (if (f_X10_refused I true) = true then (-1) else (if ((m_X10_refused I true) 23 6) < 999 then (m_X0_passDay (m_X5_keep (m_X10_refused I true) 23) 23 (td w)) 23 5 else f_X10_refuse (m_X10_refused I true) 3))
noncomputable def m_X10_day (I : Nat → Nat → Int32) (w : Bool)  : Nat → Nat → Int32 := opv (if (f_X10_refused I true) = true then (m_X10_refused I true) else (if ((m_X10_refused I true) 23 6) < 999 then (m_X0_passDay (m_X5_keep (m_X10_refused I true) 23) 23 (td w)) else (m_X10_refuse (m_X10_refused I true) 3)))
noncomputable def ok_X10_day (I : Nat → Nat → Int32) (w : Bool)  : Prop := opv (if (f_X10_refused I true) = true then True else (if ((m_X10_refused I true) 23 6) < 999 then ok_X5_keep (m_X10_refused I true) 23 else True))
set_option maxHeartbeats 800000 in
set_option maxRecDepth 4000 in
theorem c_X10_day {k : KT} {ex : Bool} {J : Nat → Nat → Int64} (I : Nat → Nat → Int32) (w : Bool)   (hok : ok_X10_day I w) : Cx k mX10_day 5 [.ref (ka k 0)] (81, ex, I, J, Pw w) (some (.int (f_X10_day I w))) (81, ex, m_X10_day I w, J, Pw w) := by
  refine Ct.of rfl [some (.ref (ka k 0))] rfl rfl (Nat.le_of_ble_eq_true rfl) ?_
  rw [ok_X10_day, opv_eq] at hok
  refine g_aload_n0 rfl d_X10_day_0 ?_
  refine g_iconst 1 d_X10_day_1 (by decide) ?_
  refine g_callV1 (c_X10_refused I true) w_X10_refused l_X10_154 d_X10_day_2 rfl (Nat.le_of_ble_eq_true rfl) rfl rfl (Nat.le_of_ble_eq_true rfl) ⟨Nat.le_of_ble_eq_true rfl, Nat.le_of_ble_eq_true rfl⟩ ⟨Nat.zero_le _, Nat.zero_le _⟩ ⟨rfl, rfl⟩ ?_
  refine g_ifz 10 d_X10_day_5 (by decide) (fun h1 => ?_) (fun h1 => ?_)
  · skip
    rw [if_neg (nb h1)] at hok
    refine g_aload_n0 rfl d_X10_day_10 ?_
    refine g_getP (b := 23) f_X10_26 d_X10_day_11 rfl (Nat.le_of_ble_eq_true rfl) rfl rfl ?_
    refine g_getI f_X10_179 d_X10_day_14 rfl (Nat.le_of_ble_eq_true rfl) rfl ?_
    refine g_sipush 999 d_X10_day_17 (by decide) ?_
    refine g_icmp_lt 29 d_X10_day_20 (by decide) (fun h2 => ?_) (fun h2 => ?_)
    · skip
      rw [if_pos h2] at hok
      refine g_aload_n0 rfl d_X10_day_29 ?_
      refine g_getP (b := 24) f_X10_33 d_X10_day_30 rfl (Nat.le_of_ble_eq_true rfl) rfl rfl ?_
      refine g_aload_n0 rfl d_X10_day_33 ?_
      refine g_getP (b := 23) f_X10_26 d_X10_day_34 rfl (Nat.le_of_ble_eq_true rfl) rfl rfl ?_
      have ho1 := hok
      refine g_callV0 (c_X5_keep (m_X10_refused I true) 23 rfl ho1) w_X5_keep l_X10_285 d_X10_day_37 rfl (Nat.le_of_ble_eq_true rfl) rfl rfl (Nat.le_of_ble_eq_true rfl) ⟨Nat.le_of_ble_eq_true rfl, Nat.le_of_ble_eq_true rfl⟩ ⟨Nat.zero_le _, Nat.zero_le _⟩ ⟨rfl, rfl⟩ ?_
      refine g_aload_n0 rfl d_X10_day_40 ?_
      refine g_getP (b := 23) f_X10_26 d_X10_day_41 rfl (Nat.le_of_ble_eq_true rfl) rfl rfl ?_
      refine g_aload_n0 rfl d_X10_day_44 ?_
      refine g_getP (b := td w) f_X10_19 d_X10_day_45 rfl (Nat.le_of_ble_eq_true rfl) rfl rfl ?_
      refine g_callV0 (c_X0_passDay (m_X5_keep (m_X10_refused I true) 23) 23 rfl (td w) (kd_td w)) w_X0_passDay l_X10_292 d_X10_day_48 rfl (Nat.le_of_ble_eq_true rfl) rfl rfl (Nat.le_of_ble_eq_true rfl) ⟨Nat.le_of_ble_eq_true rfl, Nat.le_of_ble_eq_true rfl⟩ ⟨Nat.zero_le _, Nat.zero_le _⟩ ⟨rfl, rfl⟩ ?_
      refine g_aload_n0 rfl d_X10_day_51 ?_
      refine g_getP (b := 23) f_X10_26 d_X10_day_52 rfl (Nat.le_of_ble_eq_true rfl) rfl rfl ?_
      refine g_getI f_X10_130 d_X10_day_55 rfl (Nat.le_of_ble_eq_true rfl) rfl ?_
      exact g_iret rfl d_X10_day_58 ⟨by simp only [f_X10_day, m_X10_day, if_neg (nb h1), if_pos h2, opv_eq, if_true, if_false, Bool.false_eq_true, reduceCtorEq, b2i_t, b2i_f], by simp only [f_X10_day, m_X10_day, if_neg (nb h1), if_pos h2, opv_eq, if_true, if_false, Bool.false_eq_true, reduceCtorEq, b2i_t, b2i_f]⟩ (Nat.le_refl _) (Nat.le_refl _)
    · skip
      refine g_aload_n0 rfl d_X10_day_23 ?_
      refine g_iconst 3 d_X10_day_24 (by decide) ?_
      refine g_callV1 (c_X10_refuse (m_X10_refused I true) 3) w_X10_refuse l_X10_77 d_X10_day_25 rfl (Nat.le_of_ble_eq_true rfl) rfl rfl (Nat.le_of_ble_eq_true rfl) ⟨Nat.le_of_ble_eq_true rfl, Nat.le_of_ble_eq_true rfl⟩ ⟨Nat.zero_le _, Nat.zero_le _⟩ ⟨rfl, rfl⟩ ?_
      exact g_iret rfl d_X10_day_28 ⟨by simp only [f_X10_day, m_X10_day, if_neg (nb h1), if_neg h2, opv_eq, if_true, if_false, Bool.false_eq_true, reduceCtorEq, b2i_t, b2i_f], by simp only [f_X10_day, m_X10_day, if_neg (nb h1), if_neg h2, opv_eq, if_true, if_false, Bool.false_eq_true, reduceCtorEq, b2i_t, b2i_f]⟩ (Nat.le_refl _) (Nat.le_refl _)
  · skip
    refine g_iconst (-1) d_X10_day_8 (by decide) ?_
    exact g_iret rfl d_X10_day_9 ⟨by simp only [f_X10_day, m_X10_day, if_pos h1, opv_eq, if_true, if_false, Bool.false_eq_true, reduceCtorEq, b2i_t, b2i_f], by simp only [f_X10_day, m_X10_day, if_pos h1, opv_eq, if_true, if_false, Bool.false_eq_true, reduceCtorEq, b2i_t, b2i_f]⟩ (Nat.le_refl _) (Nat.le_refl _)
noncomputable def f_X10_undo (I : Nat → Nat → Int32)  : Bool := opv (f_X5_takeBack I 23)
noncomputable def m_X10_undo (I : Nat → Nat → Int32)  : Nat → Nat → Int32 := opv (st2 (m_X5_takeBack I 23) 0 7 (if (f_X5_takeBack I 23) = true then 0 else 6))
noncomputable def ok_X10_undo (I : Nat → Nat → Int32)  : Prop := opv (ok_X5_takeBack I 23)
set_option maxHeartbeats 800000 in
set_option maxRecDepth 4000 in
theorem c_X10_undo {k : KT} {ex : Bool} {J : Nat → Nat → Int64} {w : Bool} (I : Nat → Nat → Int32)   (hok : ok_X10_undo I) : Cx k mX10_undo 3 [.ref (ka k 0)] (81, ex, I, J, Pw w) (some (.int (b2i (f_X10_undo I)))) (81, ex, m_X10_undo I, J, Pw w) := by
  refine Ct.of rfl [some (.ref (ka k 0)), none] rfl rfl (Nat.le_of_ble_eq_true rfl) ?_
  rw [ok_X10_undo, opv_eq] at hok
  refine g_aload_n0 rfl d_X10_undo_0 ?_
  refine g_getP (b := 24) f_X10_33 d_X10_undo_1 rfl (Nat.le_of_ble_eq_true rfl) rfl rfl ?_
  refine g_aload_n0 rfl d_X10_undo_4 ?_
  refine g_getP (b := 23) f_X10_26 d_X10_undo_5 rfl (Nat.le_of_ble_eq_true rfl) rfl rfl ?_
  have ho1 := hok
  refine g_callV1 (c_X5_takeBack I 23 rfl ho1) w_X5_takeBack l_X10_295 d_X10_undo_8 rfl (Nat.le_of_ble_eq_true rfl) rfl rfl (Nat.le_of_ble_eq_true rfl) ⟨Nat.le_of_ble_eq_true rfl, Nat.le_of_ble_eq_true rfl⟩ ⟨Nat.zero_le _, Nat.zero_le _⟩ ⟨rfl, rfl⟩ ?_
  refine g_isn1 rfl d_X10_undo_11 ?_
  refine g_aload_n0 rfl d_X10_undo_12 ?_
  refine g_iload_n1 rfl d_X10_undo_13 ?_
  refine g_cut (pc' := 23) (vs' := [some (.ref (ka k 0)), some (.int (b2i (f_X5_takeBack I 23)))]) (st' := [.int (if (f_X5_takeBack I 23) = true then 0 else 6), .ref (ka k 0)]) (M' := (81, ex, (m_X5_takeBack I 23), J, Pw w)) (fun hj => ?_) ?_
  · skip
    refine g_ifz 21 d_X10_undo_14 (by decide) (fun h1 => ?_) (fun h1 => ?_)
    · skip
      refine g_bipush 6 d_X10_undo_21 (by decide) ?_
      (try simp only [if_neg (nb h1), opv_eq, if_true, if_false, Bool.false_eq_true, reduceCtorEq, b2i_t, b2i_f] at hj); exact hj
    · skip
      refine g_iconst 0 d_X10_undo_17 (by decide) ?_
      refine g_goto 23 d_X10_undo_18 (by decide) ?_
      (try simp only [if_pos h1, opv_eq, if_true, if_false, Bool.false_eq_true, reduceCtorEq, b2i_t, b2i_f] at hj); exact hj
  · skip
    refine g_putI f_X10_101 d_X10_undo_23 rfl (Nat.le_of_ble_eq_true rfl) rfl rfl rfl ?_
    refine g_iload_n1 rfl d_X10_undo_26 ?_
    exact g_zret rfl (nar_b _) d_X10_undo_27 ⟨by simp only [f_X10_undo, m_X10_undo, opv_eq, if_true, if_false, Bool.false_eq_true, reduceCtorEq, b2i_t, b2i_f], by simp only [f_X10_undo, m_X10_undo, opv_eq, if_true, if_false, Bool.false_eq_true, reduceCtorEq, b2i_t, b2i_f]⟩ (Nat.le_refl _) (Nat.le_refl _)
noncomputable def u0_X10_image (I : Nat → Nat → Int32) : Int32 := opv (if (f_X5_paint (m_X10_refused I true) 23) = (-1) then f_X10_refuse (m_X5_paint (m_X10_refused I true) 23) 3 else f_X5_paint (m_X10_refused I true) 23)
noncomputable def u1_X10_image (I : Nat → Nat → Int32) : Nat → Nat → Int32 := opv (if (f_X5_paint (m_X10_refused I true) 23) = (-1) then (m_X10_refuse (m_X5_paint (m_X10_refused I true) 23) 3) else (m_X5_paint (m_X10_refused I true) 23))
noncomputable def f_X10_image (I : Nat → Nat → Int32)  : Int32 := opv (if (f_X10_refused I true) = true then (-1) else (u0_X10_image I))
noncomputable def m_X10_image (I : Nat → Nat → Int32)  : Nat → Nat → Int32 := opv (if (f_X10_refused I true) = true then (m_X10_refused I true) else (u1_X10_image I))
noncomputable def ok_X10_image (I : Nat → Nat → Int32)  : Prop := opv (if (f_X10_refused I true) = true then True else ok_X5_paint (m_X10_refused I true) 23)
set_option maxHeartbeats 800000 in
set_option maxRecDepth 4000 in
theorem c_X10_image {k : KT} {ex : Bool} {J : Nat → Nat → Int64} {w : Bool} (I : Nat → Nat → Int32)   (hok : ok_X10_image I) : Cx k mX10_image 3 [.ref (ka k 0)] (81, ex, I, J, Pw w) (some (.int (f_X10_image I))) (81, ex, m_X10_image I, J, Pw w) := by
  refine Ct.of rfl [some (.ref (ka k 0)), none] rfl rfl (Nat.le_of_ble_eq_true rfl) ?_
  rw [ok_X10_image, opv_eq] at hok
  refine g_aload_n0 rfl d_X10_image_0 ?_
  refine g_iconst 1 d_X10_image_1 (by decide) ?_
  refine g_callV1 (c_X10_refused I true) w_X10_refused l_X10_154 d_X10_image_2 rfl (Nat.le_of_ble_eq_true rfl) rfl rfl (Nat.le_of_ble_eq_true rfl) ⟨Nat.le_of_ble_eq_true rfl, Nat.le_of_ble_eq_true rfl⟩ ⟨Nat.zero_le _, Nat.zero_le _⟩ ⟨rfl, rfl⟩ ?_
  refine g_ifz 10 d_X10_image_5 (by decide) (fun h1 => ?_) (fun h1 => ?_)
  · skip
    rw [if_neg (nb h1)] at hok
    refine g_aload_n0 rfl d_X10_image_10 ?_
    refine g_getP (b := 24) f_X10_33 d_X10_image_11 rfl (Nat.le_of_ble_eq_true rfl) rfl rfl ?_
    refine g_aload_n0 rfl d_X10_image_14 ?_
    refine g_getP (b := 23) f_X10_26 d_X10_image_15 rfl (Nat.le_of_ble_eq_true rfl) rfl rfl ?_
    have ho1 := hok
    refine g_callV1 (c_X5_paint (m_X10_refused I true) 23 rfl ho1) w_X5_paint l_X10_299 d_X10_image_18 rfl (Nat.le_of_ble_eq_true rfl) rfl rfl (Nat.le_of_ble_eq_true rfl) ⟨Nat.le_of_ble_eq_true rfl, Nat.le_of_ble_eq_true rfl⟩ ⟨Nat.zero_le _, Nat.zero_le _⟩ ⟨rfl, rfl⟩ ?_
    refine g_isn1 rfl d_X10_image_21 ?_
    refine g_iload_n1 rfl d_X10_image_22 ?_
    refine g_iconst (-1) d_X10_image_23 (by decide) ?_
    refine g_cut (pc' := 36) (vs' := [some (.ref (ka k 0)), some (.int (f_X5_paint (m_X10_refused I true) 23))]) (st' := [.int (u0_X10_image I)]) (M' := (81, ex, (u1_X10_image I), J, Pw w)) (fun hj => ?_) ?_
    · skip
      refine g_icmp_ne 35 d_X10_image_24 (by decide) (fun h2 => ?_) (fun h2 => ?_)
      · skip
        refine g_iload_n1 rfl d_X10_image_35 ?_
        (try simp only [if_neg h2, opv_eq, if_true, if_false, Bool.false_eq_true, reduceCtorEq, b2i_t, b2i_f, u0_X10_image, u1_X10_image] at hj); exact hj
      · skip
        refine g_aload_n0 rfl d_X10_image_27 ?_
        refine g_iconst 3 d_X10_image_28 (by decide) ?_
        refine g_callV1 (c_X10_refuse (m_X5_paint (m_X10_refused I true) 23) 3) w_X10_refuse l_X10_77 d_X10_image_29 rfl (Nat.le_of_ble_eq_true rfl) rfl rfl (Nat.le_of_ble_eq_true rfl) ⟨Nat.le_of_ble_eq_true rfl, Nat.le_of_ble_eq_true rfl⟩ ⟨Nat.zero_le _, Nat.zero_le _⟩ ⟨rfl, rfl⟩ ?_
        refine g_goto 36 d_X10_image_32 (by decide) ?_
        (try simp only [if_pos h2, opv_eq, if_true, if_false, Bool.false_eq_true, reduceCtorEq, b2i_t, b2i_f, u0_X10_image, u1_X10_image] at hj); exact hj
    · skip
      exact g_iret rfl d_X10_image_36 ⟨by simp only [f_X10_image, m_X10_image, if_neg (nb h1), opv_eq, if_true, if_false, Bool.false_eq_true, reduceCtorEq, b2i_t, b2i_f], by simp only [f_X10_image, m_X10_image, if_neg (nb h1), opv_eq, if_true, if_false, Bool.false_eq_true, reduceCtorEq, b2i_t, b2i_f]⟩ (Nat.le_refl _) (Nat.le_refl _)
  · skip
    refine g_iconst (-1) d_X10_image_8 (by decide) ?_
    exact g_iret rfl d_X10_image_9 ⟨by simp only [f_X10_image, m_X10_image, if_pos h1, opv_eq, if_true, if_false, Bool.false_eq_true, reduceCtorEq, b2i_t, b2i_f], by simp only [f_X10_image, m_X10_image, if_pos h1, opv_eq, if_true, if_false, Bool.false_eq_true, reduceCtorEq, b2i_t, b2i_f]⟩ (Nat.le_refl _) (Nat.le_refl _)
noncomputable def u0_X10_back (I : Nat → Nat → Int32) (x1 : Int32) : Bool := opv (if (f_X10_lacks (m_X5_recall I x1 23) (f_X5_recall I x1 23)) = true then false else true)
noncomputable def f_X10_back (I : Nat → Nat → Int32) (x1 : Int32) : Bool := opv (u0_X10_back I x1)
noncomputable def m_X10_back (I : Nat → Nat → Int32) (x1 : Int32) : Nat → Nat → Int32 := opv (m_X10_lacks (m_X5_recall I x1 23) (f_X5_recall I x1 23))
noncomputable def ok_X10_back (I : Nat → Nat → Int32) (x1 : Int32) : Prop := opv (ok_X5_recall I x1 23)
set_option maxHeartbeats 800000 in
set_option maxRecDepth 4000 in
theorem c_X10_back {k : KT} {ex : Bool} {J : Nat → Nat → Int64} {w : Bool} (I : Nat → Nat → Int32) (x1 : Int32)  (hok : ok_X10_back I x1) : Cx k mX10_back 3 [.ref (ka k 0), .int x1] (81, ex, I, J, Pw w) (some (.int (b2i (f_X10_back I x1)))) (81, ex, m_X10_back I x1, J, Pw w) := by
  refine Ct.of rfl [some (.ref (ka k 0)), some (.int x1)] rfl rfl (Nat.le_of_ble_eq_true rfl) ?_
  rw [ok_X10_back, opv_eq] at hok
  refine g_aload_n0 rfl d_X10_back_0 ?_
  refine g_aload_n0 rfl d_X10_back_1 ?_
  refine g_getP (b := 24) f_X10_33 d_X10_back_2 rfl (Nat.le_of_ble_eq_true rfl) rfl rfl ?_
  refine g_iload_n1 rfl d_X10_back_5 ?_
  refine g_aload_n0 rfl d_X10_back_6 ?_
  refine g_getP (b := 23) f_X10_26 d_X10_back_7 rfl (Nat.le_of_ble_eq_true rfl) rfl rfl ?_
  have ho1 := hok
  refine g_callV1 (c_X5_recall I x1 23 rfl ho1) w_X5_recall l_X10_303 d_X10_back_10 rfl (Nat.le_of_ble_eq_true rfl) rfl rfl (Nat.le_of_ble_eq_true rfl) ⟨Nat.le_of_ble_eq_true rfl, Nat.le_of_ble_eq_true rfl⟩ ⟨Nat.zero_le _, Nat.zero_le _⟩ ⟨rfl, rfl⟩ ?_
  refine g_callV1 (c_X10_lacks (m_X5_recall I x1 23) (f_X5_recall I x1 23)) w_X10_lacks l_X10_113 d_X10_back_13 rfl (Nat.le_of_ble_eq_true rfl) rfl rfl (Nat.le_of_ble_eq_true rfl) ⟨Nat.le_of_ble_eq_true rfl, Nat.le_of_ble_eq_true rfl⟩ ⟨Nat.zero_le _, Nat.zero_le _⟩ ⟨rfl, rfl⟩ ?_
  refine g_cut (pc' := 24) (vs' := [some (.ref (ka k 0)), some (.int x1)]) (st' := [.int (b2i (u0_X10_back I x1))]) (M' := (81, ex, (m_X10_lacks (m_X5_recall I x1 23) (f_X5_recall I x1 23)), J, Pw w)) (fun hj => ?_) ?_
  · skip
    refine g_ifnz 23 d_X10_back_16 (by decide) (fun h1 => ?_) (fun h1 => ?_)
    · skip
      refine g_iconst 0 d_X10_back_23 (by decide) ?_
      (try simp only [if_pos h1, opv_eq, if_true, if_false, Bool.false_eq_true, reduceCtorEq, b2i_t, b2i_f, u0_X10_back] at hj); exact hj
    · skip
      refine g_iconst 1 d_X10_back_19 (by decide) ?_
      refine g_goto 24 d_X10_back_20 (by decide) ?_
      (try simp only [if_neg (nb h1), opv_eq, if_true, if_false, Bool.false_eq_true, reduceCtorEq, b2i_t, b2i_f, u0_X10_back] at hj); exact hj
  · skip
    exact g_zret rfl (nar_b _) d_X10_back_24 ⟨by simp only [f_X10_back, m_X10_back, opv_eq, if_true, if_false, Bool.false_eq_true, reduceCtorEq, b2i_t, b2i_f], by simp only [f_X10_back, m_X10_back, opv_eq, if_true, if_false, Bool.false_eq_true, reduceCtorEq, b2i_t, b2i_f]⟩ (Nat.le_refl _) (Nat.le_refl _)
