noncomputable def f_X11_thrown (I : Nat → Nat → Int32)  : Int32 := opv (I 65 0)
set_option maxHeartbeats 800000 in
set_option maxRecDepth 4000 in
theorem c_X11_thrown {k : KT} {ex : Bool} {J : Nat → Nat → Int64} {w : Bool} (I : Nat → Nat → Int32)   : Cx k mX11_thrown 1 [.ref (ka k 65)] (81, ex, I, J, Pw w) (some (.int (f_X11_thrown I))) (81, ex, I, J, Pw w) := by
  refine Ct.of rfl [some (.ref (ka k 65))] rfl rfl (Nat.le_of_ble_eq_true rfl) ?_
  refine g_aload_n0 rfl d_X11_thrown_0 ?_
  refine g_getI f_X11_60 d_X11_thrown_1 rfl (Nat.le_of_ble_eq_true rfl) rfl ?_
  exact g_iret rfl d_X11_thrown_4 ⟨by simp only [f_X11_thrown, opv_eq, if_true, if_false, Bool.false_eq_true, reduceCtorEq, b2i_t, b2i_f], rfl⟩ (Nat.le_refl _) (Nat.le_refl _)
noncomputable def u0_X11_in (x1 : Int32) (x2 : Int32) (x3 : Int32) : Bool := opv (if x1 < x2 then false else (if x3 < x1 then false else true))
noncomputable def f_X11_in (I : Nat → Nat → Int32) (x1 : Int32) (x2 : Int32) (x3 : Int32) : Bool := opv (u0_X11_in x1 x2 x3)
set_option maxHeartbeats 800000 in
set_option maxRecDepth 4000 in
theorem c_X11_in {k : KT} {ex : Bool} {J : Nat → Nat → Int64} {w : Bool} (I : Nat → Nat → Int32) (x1 : Int32) (x2 : Int32) (x3 : Int32)  : Cx k mX11_in 1 [.int x1, .int x2, .int x3] (81, ex, I, J, Pw w) (some (.int (b2i (f_X11_in I x1 x2 x3)))) (81, ex, I, J, Pw w) := by
  refine Ct.of rfl [some (.int x1), some (.int x2), some (.int x3)] rfl rfl (Nat.le_of_ble_eq_true rfl) ?_
  refine g_iload_n0 rfl d_X11_in_0 ?_
  refine g_iload_n1 rfl d_X11_in_1 ?_
  refine g_cut (pc' := 15) (vs' := [some (.int x1), some (.int x2), some (.int x3)]) (st' := [.int (b2i (u0_X11_in x1 x2 x3))]) (M' := (81, ex, I, J, Pw w)) (fun hj => ?_) ?_
  · skip
    refine g_icmp_lt 14 d_X11_in_2 (by decide) (fun h1 => ?_) (fun h1 => ?_)
    · skip
      refine g_iconst 0 d_X11_in_14 (by decide) ?_
      (try simp only [if_pos h1, opv_eq, if_true, if_false, Bool.false_eq_true, reduceCtorEq, b2i_t, b2i_f, u0_X11_in] at hj); exact hj
    · skip
      refine g_iload_n0 rfl d_X11_in_5 ?_
      refine g_iload_n2 rfl d_X11_in_6 ?_
      refine g_icmp_gt 14 d_X11_in_7 (by decide) (fun h2 => ?_) (fun h2 => ?_)
      · skip
        refine g_iconst 0 d_X11_in_14 (by decide) ?_
        (try simp only [if_neg h1, if_pos h2, opv_eq, if_true, if_false, Bool.false_eq_true, reduceCtorEq, b2i_t, b2i_f, u0_X11_in] at hj); exact hj
      · skip
        refine g_iconst 1 d_X11_in_10 (by decide) ?_
        refine g_goto 15 d_X11_in_11 (by decide) ?_
        (try simp only [if_neg h1, if_neg h2, opv_eq, if_true, if_false, Bool.false_eq_true, reduceCtorEq, b2i_t, b2i_f, u0_X11_in] at hj); exact hj
  · skip
    exact g_zret rfl (nar_b _) d_X11_in_15 ⟨by simp only [f_X11_in, opv_eq, if_true, if_false, Bool.false_eq_true, reduceCtorEq, b2i_t, b2i_f], rfl⟩ (Nat.le_refl _) (Nat.le_refl _)
noncomputable def f_X11_hasBit (I : Nat → Nat → Int32) (x1 : Int32) (x2 : Int32) : Bool := opv (if ((x1 >>> (x2 &&& 31)) &&& 1) = 1 then true else false)
set_option maxHeartbeats 800000 in
set_option maxRecDepth 4000 in
theorem c_X11_hasBit {k : KT} {ex : Bool} {J : Nat → Nat → Int64} {w : Bool} (I : Nat → Nat → Int32) (x1 : Int32) (x2 : Int32)  : Cx k mX11_hasBit 1 [.int x1, .int x2] (81, ex, I, J, Pw w) (some (.int (b2i (f_X11_hasBit I x1 x2)))) (81, ex, I, J, Pw w) := by
  refine Ct.of rfl [some (.int x1), some (.int x2)] rfl rfl (Nat.le_of_ble_eq_true rfl) ?_
  refine g_iload_n0 rfl d_X11_hasBit_0 ?_
  refine g_iload_n1 rfl d_X11_hasBit_1 ?_
  refine g_ishr d_X11_hasBit_2 ?_
  refine g_iconst 1 d_X11_hasBit_3 (by decide) ?_
  refine g_iand d_X11_hasBit_4 ?_
  refine g_iconst 1 d_X11_hasBit_5 (by decide) ?_
  refine g_cut (pc' := 14) (vs' := [some (.int x1), some (.int x2)]) (st' := [.int (b2i (if ((x1 >>> (x2 &&& 31)) &&& 1) = 1 then true else false))]) (M' := (81, ex, I, J, Pw w)) (fun hj => ?_) ?_
  · skip
    refine g_icmp_ne 13 d_X11_hasBit_6 (by decide) (fun h1 => ?_) (fun h1 => ?_)
    · skip
      refine g_iconst 0 d_X11_hasBit_13 (by decide) ?_
      (try simp only [if_neg h1, opv_eq, if_true, if_false, Bool.false_eq_true, reduceCtorEq, b2i_t, b2i_f] at hj); exact hj
    · skip
      refine g_iconst 1 d_X11_hasBit_9 (by decide) ?_
      refine g_goto 14 d_X11_hasBit_10 (by decide) ?_
      (try simp only [if_pos h1, opv_eq, if_true, if_false, Bool.false_eq_true, reduceCtorEq, b2i_t, b2i_f] at hj); exact hj
  · skip
    exact g_zret rfl (nar_b _) d_X11_hasBit_14 ⟨by simp only [f_X11_hasBit, opv_eq, if_true, if_false, Bool.false_eq_true, reduceCtorEq, b2i_t, b2i_f], rfl⟩ (Nat.le_refl _) (Nat.le_refl _)
noncomputable def f_X11_see (I : Nat → Nat → Int32) (x1 : Int32) : Int32 := opv (if (I 65 3) ≤ x1 then (-1) else I 66 x1.toNatClampNeg)
noncomputable def ok_X11_see (I : Nat → Nat → Int32) (x1 : Int32) : Prop := opv (if (I 65 3) ≤ x1 then True else vp_in x1 (sz 66))
set_option maxHeartbeats 800000 in
set_option maxRecDepth 4000 in
theorem c_X11_see {k : KT} {ex : Bool} {J : Nat → Nat → Int64} {w : Bool} (I : Nat → Nat → Int32) (x1 : Int32)  (hok : ok_X11_see I x1) : Cx k mX11_see 1 [.ref (ka k 65), .int x1] (81, ex, I, J, Pw w) (some (.int (f_X11_see I x1))) (81, ex, I, J, Pw w) := by
  refine Ct.of rfl [some (.ref (ka k 65)), some (.int x1)] rfl rfl (Nat.le_of_ble_eq_true rfl) ?_
  rw [ok_X11_see, opv_eq] at hok
  refine g_iload_n1 rfl d_X11_see_0 ?_
  refine g_aload_n0 rfl d_X11_see_1 ?_
  refine g_getI f_X11_69 d_X11_see_2 rfl (Nat.le_of_ble_eq_true rfl) rfl ?_
  refine g_cut (pc' := 18) (vs' := [some (.ref (ka k 65)), some (.int x1)]) (st' := [.int (if (I 65 3) ≤ x1 then (-1) else I 66 x1.toNatClampNeg)]) (M' := (81, ex, I, J, Pw w)) (fun hj => ?_) ?_
  · skip
    refine g_icmp_ge 17 d_X11_see_5 (by decide) (fun h1 => ?_) (fun h1 => ?_)
    · skip
      refine g_iconst (-1) d_X11_see_17 (by decide) ?_
      (try simp only [if_pos h1, opv_eq, if_true, if_false, Bool.false_eq_true, reduceCtorEq, b2i_t, b2i_f] at hj); exact hj
    · skip
      rw [if_neg h1] at hok
      refine g_aload_n0 rfl d_X11_see_8 ?_
      refine g_getP (b := 66) f_X11_7 d_X11_see_9 rfl (Nat.le_of_ble_eq_true rfl) rfl rfl ?_
      refine g_iload_n1 rfl d_X11_see_12 ?_
      have ho1 := hok
      refine g_iald d_X11_see_13 rfl (Nat.le_of_ble_eq_true rfl) ho1 ?_
      refine g_goto 18 d_X11_see_14 (by decide) ?_
      (try simp only [if_neg h1, opv_eq, if_true, if_false, Bool.false_eq_true, reduceCtorEq, b2i_t, b2i_f] at hj); exact hj
  · skip
    exact g_iret rfl d_X11_see_18 ⟨by simp only [f_X11_see, opv_eq, if_true, if_false, Bool.false_eq_true, reduceCtorEq, b2i_t, b2i_f], rfl⟩ (Nat.le_refl _) (Nat.le_refl _)
noncomputable def u0_X11_isSmall (x1 : Int32) : Bool := opv (if x1 < 97 then false else (if 122 < x1 then false else true))
noncomputable def f_X11_isSmall (I : Nat → Nat → Int32) (x1 : Int32) : Bool := opv (u0_X11_isSmall x1)
set_option maxHeartbeats 800000 in
set_option maxRecDepth 4000 in
theorem c_X11_isSmall {k : KT} {ex : Bool} {J : Nat → Nat → Int64} {w : Bool} (I : Nat → Nat → Int32) (x1 : Int32)  : Cx k mX11_isSmall 1 [.int x1] (81, ex, I, J, Pw w) (some (.int (b2i (f_X11_isSmall I x1)))) (81, ex, I, J, Pw w) := by
  refine Ct.of rfl [some (.int x1)] rfl rfl (Nat.le_of_ble_eq_true rfl) ?_
  refine g_iload_n0 rfl d_X11_isSmall_0 ?_
  refine g_bipush 97 d_X11_isSmall_1 (by decide) ?_
  refine g_cut (pc' := 17) (vs' := [some (.int x1)]) (st' := [.int (b2i (u0_X11_isSmall x1))]) (M' := (81, ex, I, J, Pw w)) (fun hj => ?_) ?_
  · skip
    refine g_icmp_lt 16 d_X11_isSmall_3 (by decide) (fun h1 => ?_) (fun h1 => ?_)
    · skip
      refine g_iconst 0 d_X11_isSmall_16 (by decide) ?_
      (try simp only [if_pos h1, opv_eq, if_true, if_false, Bool.false_eq_true, reduceCtorEq, b2i_t, b2i_f, u0_X11_isSmall] at hj); exact hj
    · skip
      refine g_iload_n0 rfl d_X11_isSmall_6 ?_
      refine g_bipush 122 d_X11_isSmall_7 (by decide) ?_
      refine g_icmp_gt 16 d_X11_isSmall_9 (by decide) (fun h2 => ?_) (fun h2 => ?_)
      · skip
        refine g_iconst 0 d_X11_isSmall_16 (by decide) ?_
        (try simp only [if_neg h1, if_pos h2, opv_eq, if_true, if_false, Bool.false_eq_true, reduceCtorEq, b2i_t, b2i_f, u0_X11_isSmall] at hj); exact hj
      · skip
        refine g_iconst 1 d_X11_isSmall_12 (by decide) ?_
        refine g_goto 17 d_X11_isSmall_13 (by decide) ?_
        (try simp only [if_neg h1, if_neg h2, opv_eq, if_true, if_false, Bool.false_eq_true, reduceCtorEq, b2i_t, b2i_f, u0_X11_isSmall] at hj); exact hj
  · skip
    exact g_zret rfl (nar_b _) d_X11_isSmall_17 ⟨by simp only [f_X11_isSmall, opv_eq, if_true, if_false, Bool.false_eq_true, reduceCtorEq, b2i_t, b2i_f], rfl⟩ (Nat.le_refl _) (Nat.le_refl _)
noncomputable def u0_X11_isDigit (x1 : Int32) : Bool := opv (if x1 < 48 then false else (if 57 < x1 then false else true))
noncomputable def f_X11_isDigit (I : Nat → Nat → Int32) (x1 : Int32) : Bool := opv (u0_X11_isDigit x1)
set_option maxHeartbeats 800000 in
set_option maxRecDepth 4000 in
theorem c_X11_isDigit {k : KT} {ex : Bool} {J : Nat → Nat → Int64} {w : Bool} (I : Nat → Nat → Int32) (x1 : Int32)  : Cx k mX11_isDigit 1 [.int x1] (81, ex, I, J, Pw w) (some (.int (b2i (f_X11_isDigit I x1)))) (81, ex, I, J, Pw w) := by
  refine Ct.of rfl [some (.int x1)] rfl rfl (Nat.le_of_ble_eq_true rfl) ?_
  refine g_iload_n0 rfl d_X11_isDigit_0 ?_
  refine g_bipush 48 d_X11_isDigit_1 (by decide) ?_
  refine g_cut (pc' := 17) (vs' := [some (.int x1)]) (st' := [.int (b2i (u0_X11_isDigit x1))]) (M' := (81, ex, I, J, Pw w)) (fun hj => ?_) ?_
  · skip
    refine g_icmp_lt 16 d_X11_isDigit_3 (by decide) (fun h1 => ?_) (fun h1 => ?_)
    · skip
      refine g_iconst 0 d_X11_isDigit_16 (by decide) ?_
      (try simp only [if_pos h1, opv_eq, if_true, if_false, Bool.false_eq_true, reduceCtorEq, b2i_t, b2i_f, u0_X11_isDigit] at hj); exact hj
    · skip
      refine g_iload_n0 rfl d_X11_isDigit_6 ?_
      refine g_bipush 57 d_X11_isDigit_7 (by decide) ?_
      refine g_icmp_gt 16 d_X11_isDigit_9 (by decide) (fun h2 => ?_) (fun h2 => ?_)
      · skip
        refine g_iconst 0 d_X11_isDigit_16 (by decide) ?_
        (try simp only [if_neg h1, if_pos h2, opv_eq, if_true, if_false, Bool.false_eq_true, reduceCtorEq, b2i_t, b2i_f, u0_X11_isDigit] at hj); exact hj
      · skip
        refine g_iconst 1 d_X11_isDigit_12 (by decide) ?_
        refine g_goto 17 d_X11_isDigit_13 (by decide) ?_
        (try simp only [if_neg h1, if_neg h2, opv_eq, if_true, if_false, Bool.false_eq_true, reduceCtorEq, b2i_t, b2i_f, u0_X11_isDigit] at hj); exact hj
  · skip
    exact g_zret rfl (nar_b _) d_X11_isDigit_17 ⟨by simp only [f_X11_isDigit, opv_eq, if_true, if_false, Bool.false_eq_true, reduceCtorEq, b2i_t, b2i_f], rfl⟩ (Nat.le_refl _) (Nat.le_refl _)
noncomputable def f_X11_whoOf (I : Nat → Nat → Int32) (x1 : Nat) : Int32 := opv ((b2i (if (I x1 0) < (3 - (I x1 2)) then false else true)) + (if (-(I x1 0)) < (3 - (I x1 2)) then 0 else 2))
noncomputable def ok_X11_whoOf (I : Nat → Nat → Int32) (x1 : Nat) : Prop := opv (vp_in (2 : Int32) (sz x1) ∧ (vp_in (0 : Int32) (sz x1) ∧ vp_in (0 : Int32) (sz x1)))
set_option maxHeartbeats 800000 in
set_option maxRecDepth 4000 in
theorem c_X11_whoOf {k : KT} {ex : Bool} {J : Nat → Nat → Int64} {w : Bool} (I : Nat → Nat → Int32) (x1 : Nat) (hx1 : kd x1 = 12)  (hok : ok_X11_whoOf I x1) : Cx k mX11_whoOf 1 [.ref (ka k x1)] (81, ex, I, J, Pw w) (some (.int (f_X11_whoOf I x1))) (81, ex, I, J, Pw w) := by
  refine Ct.of rfl [some (.ref (ka k x1)), none] rfl rfl (Nat.le_of_ble_eq_true rfl) ?_
  rw [ok_X11_whoOf, opv_eq] at hok
  refine g_iconst 3 d_X11_whoOf_0 (by decide) ?_
  refine g_aload_n0 rfl d_X11_whoOf_1 ?_
  refine g_iconst 2 d_X11_whoOf_2 (by decide) ?_
  obtain ⟨ho1, hok⟩ := hok
  refine g_ialdv (I x1 2) rfl d_X11_whoOf_3 hx1 (kd_sg hx1 (by decide)) ho1 ?_
  refine g_isub d_X11_whoOf_4 ?_
  refine g_isn1 rfl d_X11_whoOf_5 ?_
  refine g_aload_n0 rfl d_X11_whoOf_6 ?_
  refine g_iconst 0 d_X11_whoOf_7 (by decide) ?_
  obtain ⟨ho2, hok⟩ := hok
  refine g_ialdv (I x1 0) rfl d_X11_whoOf_8 hx1 (kd_sg hx1 (by decide)) ho2 ?_
  refine g_iload_n1 rfl d_X11_whoOf_9 ?_
  refine g_cut (pc' := 18) (vs' := [some (.ref (ka k x1)), some (.int (3 - (I x1 2)))]) (st' := [.int (b2i (if (I x1 0) < (3 - (I x1 2)) then false else true))]) (M' := (81, ex, I, J, Pw w)) (fun hj => ?_) ?_
  · skip
    refine g_icmp_lt 17 d_X11_whoOf_10 (by decide) (fun h1 => ?_) (fun h1 => ?_)
    · skip
      refine g_iconst 0 d_X11_whoOf_17 (by decide) ?_
      (try simp only [if_pos h1, opv_eq, if_true, if_false, Bool.false_eq_true, reduceCtorEq, b2i_t, b2i_f] at hj); exact hj
    · skip
      refine g_iconst 1 d_X11_whoOf_13 (by decide) ?_
      refine g_goto 18 d_X11_whoOf_14 (by decide) ?_
      (try simp only [if_neg h1, opv_eq, if_true, if_false, Bool.false_eq_true, reduceCtorEq, b2i_t, b2i_f] at hj); exact hj
  · skip
    refine g_aload_n0 rfl d_X11_whoOf_18 ?_
    refine g_iconst 0 d_X11_whoOf_19 (by decide) ?_
    have ho3 := hok
    refine g_ialdv (I x1 0) rfl d_X11_whoOf_20 hx1 (kd_sg hx1 (by decide)) ho3 ?_
    refine g_ineg d_X11_whoOf_21 ?_
    refine g_iload_n1 rfl d_X11_whoOf_22 ?_
    refine g_cut (pc' := 31) (vs' := [some (.ref (ka k x1)), some (.int (3 - (I x1 2)))]) (st' := [.int (if (-(I x1 0)) < (3 - (I x1 2)) then 0 else 2), .int (b2i (if (I x1 0) < (3 - (I x1 2)) then false else true))]) (M' := (81, ex, I, J, Pw w)) (fun hj => ?_) ?_
    · skip
      refine g_icmp_lt 30 d_X11_whoOf_23 (by decide) (fun h2 => ?_) (fun h2 => ?_)
      · skip
        refine g_iconst 0 d_X11_whoOf_30 (by decide) ?_
        (try simp only [if_pos h2, opv_eq, if_true, if_false, Bool.false_eq_true, reduceCtorEq, b2i_t, b2i_f] at hj); exact hj
      · skip
        refine g_iconst 2 d_X11_whoOf_26 (by decide) ?_
        refine g_goto 31 d_X11_whoOf_27 (by decide) ?_
        (try simp only [if_neg h2, opv_eq, if_true, if_false, Bool.false_eq_true, reduceCtorEq, b2i_t, b2i_f] at hj); exact hj
    · skip
      refine g_iadd d_X11_whoOf_31 ?_
      exact g_iret rfl d_X11_whoOf_32 ⟨by simp only [f_X11_whoOf, opv_eq, if_true, if_false, Bool.false_eq_true, reduceCtorEq, b2i_t, b2i_f], rfl⟩ (Nat.le_refl _) (Nat.le_refl _)
noncomputable def f_X11_towards (I : Nat → Nat → Int32) (x1 : Int32) : Int32 := opv ((x1 - 50) / 10)
set_option maxHeartbeats 800000 in
set_option maxRecDepth 4000 in
theorem c_X11_towards {k : KT} {ex : Bool} {J : Nat → Nat → Int64} {w : Bool} (I : Nat → Nat → Int32) (x1 : Int32)  : Cx k mX11_towards 1 [.int x1] (81, ex, I, J, Pw w) (some (.int (f_X11_towards I x1))) (81, ex, I, J, Pw w) := by
  refine Ct.of rfl [some (.int x1)] rfl rfl (Nat.le_of_ble_eq_true rfl) ?_
  refine g_iload_n0 rfl d_X11_towards_0 ?_
  refine g_bipush 50 d_X11_towards_1 (by decide) ?_
  refine g_isub d_X11_towards_3 ?_
  refine g_bipush 10 d_X11_towards_4 (by decide) ?_
  refine g_idiv (by decide) d_X11_towards_6 ?_
  exact g_iret rfl d_X11_towards_7 ⟨by simp only [f_X11_towards, opv_eq, if_true, if_false, Bool.false_eq_true, reduceCtorEq, b2i_t, b2i_f], rfl⟩ (Nat.le_refl _) (Nat.le_refl _)
noncomputable def f_X11_bound (I : Nat → Nat → Int32) (x1 : Int32) : Int32 := opv (if x1 ≤ 9 then (if (-9) ≤ x1 then x1 else (-9)) else 9)
set_option maxHeartbeats 800000 in
set_option maxRecDepth 4000 in
theorem c_X11_bound {k : KT} {ex : Bool} {J : Nat → Nat → Int64} {w : Bool} (I : Nat → Nat → Int32) (x1 : Int32)  : Cx k mX11_bound 1 [.int x1] (81, ex, I, J, Pw w) (some (.int (f_X11_bound I x1))) (81, ex, I, J, Pw w) := by
  refine Ct.of rfl [some (.int x1)] rfl rfl (Nat.le_of_ble_eq_true rfl) ?_
  refine g_iload_n0 rfl d_X11_bound_0 ?_
  refine g_bipush 9 d_X11_bound_1 (by decide) ?_
  refine g_cut (pc' := 23) (vs' := [some (.int x1)]) (st' := [.int (if x1 ≤ 9 then (if (-9) ≤ x1 then x1 else (-9)) else 9)]) (M' := (81, ex, I, J, Pw w)) (fun hj => ?_) ?_
  · skip
    refine g_icmp_le 11 d_X11_bound_3 (by decide) (fun h1 => ?_) (fun h1 => ?_)
    · skip
      refine g_iload_n0 rfl d_X11_bound_11 ?_
      refine g_bipush (-9) d_X11_bound_12 (by decide) ?_
      refine g_icmp_ge 22 d_X11_bound_14 (by decide) (fun h2 => ?_) (fun h2 => ?_)
      · skip
        refine g_iload_n0 rfl d_X11_bound_22 ?_
        (try simp only [if_pos h1, if_pos h2, opv_eq, if_true, if_false, Bool.false_eq_true, reduceCtorEq, b2i_t, b2i_f] at hj); exact hj
      · skip
        refine g_bipush (-9) d_X11_bound_17 (by decide) ?_
        refine g_goto 23 d_X11_bound_19 (by decide) ?_
        (try simp only [if_pos h1, if_neg h2, opv_eq, if_true, if_false, Bool.false_eq_true, reduceCtorEq, b2i_t, b2i_f] at hj); exact hj
    · skip
      refine g_bipush 9 d_X11_bound_6 (by decide) ?_
      refine g_goto 23 d_X11_bound_8 (by decide) ?_
      (try simp only [if_neg h1, opv_eq, if_true, if_false, Bool.false_eq_true, reduceCtorEq, b2i_t, b2i_f] at hj); exact hj
  · skip
    exact g_iret rfl d_X11_bound_23 ⟨by simp only [f_X11_bound, opv_eq, if_true, if_false, Bool.false_eq_true, reduceCtorEq, b2i_t, b2i_f], rfl⟩ (Nat.le_refl _) (Nat.le_refl _)
noncomputable def u0_X11_stepOf (x1 : Int32) (x2 : Int32) (x3 : Int32) : Int32 := opv (if 0 ≤ ((1 + x2) - (b2i (if x1 < (100 - (10 * x3)) then false else true))) then (1 + x2) - (b2i (if x1 < (100 - (10 * x3)) then false else true)) else 0)
noncomputable def f_X11_stepOf (I : Nat → Nat → Int32) (x1 : Int32) (x2 : Int32) (x3 : Int32) : Int32 := opv (u0_X11_stepOf x1 x2 x3)
set_option maxHeartbeats 800000 in
set_option maxRecDepth 4000 in
theorem c_X11_stepOf {k : KT} {ex : Bool} {J : Nat → Nat → Int64} {w : Bool} (I : Nat → Nat → Int32) (x1 : Int32) (x2 : Int32) (x3 : Int32)  : Cx k mX11_stepOf 1 [.int x1, .int x2, .int x3] (81, ex, I, J, Pw w) (some (.int (f_X11_stepOf I x1 x2 x3))) (81, ex, I, J, Pw w) := by
  refine Ct.of rfl [some (.int x1), some (.int x2), some (.int x3), none] rfl rfl (Nat.le_of_ble_eq_true rfl) ?_
  refine g_iconst 1 d_X11_stepOf_0 (by decide) ?_
  refine g_iload_n1 rfl d_X11_stepOf_1 ?_
  refine g_iadd d_X11_stepOf_2 ?_
  refine g_iload_n0 rfl d_X11_stepOf_3 ?_
  refine g_bipush 100 d_X11_stepOf_4 (by decide) ?_
  refine g_bipush 10 d_X11_stepOf_6 (by decide) ?_
  refine g_iload_n2 rfl d_X11_stepOf_8 ?_
  refine g_imul d_X11_stepOf_9 ?_
  refine g_isub d_X11_stepOf_10 ?_
  refine g_cut (pc' := 19) (vs' := [some (.int x1), some (.int x2), some (.int x3), none]) (st' := [.int (b2i (if x1 < (100 - (10 * x3)) then false else true)), .int (1 + x2)]) (M' := (81, ex, I, J, Pw w)) (fun hj => ?_) ?_
  · skip
    refine g_icmp_lt 18 d_X11_stepOf_11 (by decide) (fun h1 => ?_) (fun h1 => ?_)
    · skip
      refine g_iconst 0 d_X11_stepOf_18 (by decide) ?_
      (try simp only [if_pos h1, opv_eq, if_true, if_false, Bool.false_eq_true, reduceCtorEq, b2i_t, b2i_f] at hj); exact hj
    · skip
      refine g_iconst 1 d_X11_stepOf_14 (by decide) ?_
      refine g_goto 19 d_X11_stepOf_15 (by decide) ?_
      (try simp only [if_neg h1, opv_eq, if_true, if_false, Bool.false_eq_true, reduceCtorEq, b2i_t, b2i_f] at hj); exact hj
  · skip
    refine g_isub d_X11_stepOf_19 ?_
    refine g_isn3 rfl d_X11_stepOf_20 ?_
    refine g_iload_n3 rfl d_X11_stepOf_21 ?_
    refine g_cut (pc' := 30) (vs' := [some (.int x1), some (.int x2), some (.int x3), some (.int ((1 + x2) - (b2i (if x1 < (100 - (10 * x3)) then false else true))))]) (st' := [.int (u0_X11_stepOf x1 x2 x3)]) (M' := (81, ex, I, J, Pw w)) (fun hj => ?_) ?_
    · skip
      refine g_if_ge 29 d_X11_stepOf_22 (by decide) (fun h2 => ?_) (fun h2 => ?_)
      · skip
        refine g_iload_n3 rfl d_X11_stepOf_29 ?_
        (try simp only [if_pos h2, opv_eq, if_true, if_false, Bool.false_eq_true, reduceCtorEq, b2i_t, b2i_f, u0_X11_stepOf] at hj); exact hj
      · skip
        refine g_iconst 0 d_X11_stepOf_25 (by decide) ?_
        refine g_goto 30 d_X11_stepOf_26 (by decide) ?_
        (try simp only [if_neg h2, opv_eq, if_true, if_false, Bool.false_eq_true, reduceCtorEq, b2i_t, b2i_f, u0_X11_stepOf] at hj); exact hj
    · skip
      exact g_iret rfl d_X11_stepOf_30 ⟨by simp only [f_X11_stepOf, opv_eq, if_true, if_false, Bool.false_eq_true, reduceCtorEq, b2i_t, b2i_f], rfl⟩ (Nat.le_refl _) (Nat.le_refl _)
noncomputable def u0_X11_nearer (x1 : Int32) (x2 : Int32) (x3 : Int32) : Int32 := opv (if (x2 - x1) ≤ x3 then (if (-x3) ≤ (x2 - x1) then x2 - x1 else -x3) else x3)
noncomputable def f_X11_nearer (I : Nat → Nat → Int32) (x1 : Int32) (x2 : Int32) (x3 : Int32) : Int32 := opv (x1 + (u0_X11_nearer x1 x2 x3))
set_option maxHeartbeats 800000 in
set_option maxRecDepth 4000 in
theorem c_X11_nearer {k : KT} {ex : Bool} {J : Nat → Nat → Int64} {w : Bool} (I : Nat → Nat → Int32) (x1 : Int32) (x2 : Int32) (x3 : Int32)  : Cx k mX11_nearer 1 [.int x1, .int x2, .int x3] (81, ex, I, J, Pw w) (some (.int (f_X11_nearer I x1 x2 x3))) (81, ex, I, J, Pw w) := by
  refine Ct.of rfl [some (.int x1), some (.int x2), some (.int x3), none] rfl rfl (Nat.le_of_ble_eq_true rfl) ?_
  refine g_iload_n1 rfl d_X11_nearer_0 ?_
  refine g_iload_n0 rfl d_X11_nearer_1 ?_
  refine g_isub d_X11_nearer_2 ?_
  refine g_isn3 rfl d_X11_nearer_3 ?_
  refine g_iload_n0 rfl d_X11_nearer_4 ?_
  refine g_iload_n3 rfl d_X11_nearer_5 ?_
  refine g_iload_n2 rfl d_X11_nearer_6 ?_
  refine g_cut (pc' := 26) (vs' := [some (.int x1), some (.int x2), some (.int x3), some (.int (x2 - x1))]) (st' := [.int (u0_X11_nearer x1 x2 x3), .int x1]) (M' := (81, ex, I, J, Pw w)) (fun hj => ?_) ?_
  · skip
    refine g_icmp_le 14 d_X11_nearer_7 (by decide) (fun h1 => ?_) (fun h1 => ?_)
    · skip
      refine g_iload_n3 rfl d_X11_nearer_14 ?_
      refine g_iload_n2 rfl d_X11_nearer_15 ?_
      refine g_ineg d_X11_nearer_16 ?_
      refine g_icmp_ge 25 d_X11_nearer_17 (by decide) (fun h2 => ?_) (fun h2 => ?_)
      · skip
        refine g_iload_n3 rfl d_X11_nearer_25 ?_
        (try simp only [if_pos h1, if_pos h2, opv_eq, if_true, if_false, Bool.false_eq_true, reduceCtorEq, b2i_t, b2i_f, u0_X11_nearer] at hj); exact hj
      · skip
        refine g_iload_n2 rfl d_X11_nearer_20 ?_
        refine g_ineg d_X11_nearer_21 ?_
        refine g_goto 26 d_X11_nearer_22 (by decide) ?_
        (try simp only [if_pos h1, if_neg h2, opv_eq, if_true, if_false, Bool.false_eq_true, reduceCtorEq, b2i_t, b2i_f, u0_X11_nearer] at hj); exact hj
    · skip
      refine g_iload_n2 rfl d_X11_nearer_10 ?_
      refine g_goto 26 d_X11_nearer_11 (by decide) ?_
      (try simp only [if_neg h1, opv_eq, if_true, if_false, Bool.false_eq_true, reduceCtorEq, b2i_t, b2i_f, u0_X11_nearer] at hj); exact hj
  · skip
    refine g_iadd d_X11_nearer_26 ?_
    exact g_iret rfl d_X11_nearer_27 ⟨by simp only [f_X11_nearer, opv_eq, if_true, if_false, Bool.false_eq_true, reduceCtorEq, b2i_t, b2i_f], rfl⟩ (Nat.le_refl _) (Nat.le_refl _)
noncomputable def m_X11_good (I : Nat → Nat → Int32)  : Nat → Nat → Int32 := opv (st2 (st2 I 65 0 0) 65 11 0)
set_option maxHeartbeats 800000 in
set_option maxRecDepth 4000 in
theorem c_X11_good {k : KT} {ex : Bool} {J : Nat → Nat → Int64} {w : Bool} (I : Nat → Nat → Int32)   : Cx k mX11_good 1 [.ref (ka k 65)] (81, ex, I, J, Pw w) none (81, ex, m_X11_good I, J, Pw w) := by
  refine Ct.of rfl [some (.ref (ka k 65))] rfl rfl (Nat.le_of_ble_eq_true rfl) ?_
  refine g_aload_n0 rfl d_X11_good_0 ?_
  refine g_iconst 0 d_X11_good_1 (by decide) ?_
  refine g_putI f_X11_60 d_X11_good_2 rfl (Nat.le_of_ble_eq_true rfl) rfl rfl rfl ?_
  refine g_aload_n0 rfl d_X11_good_5 ?_
  refine g_iconst 0 d_X11_good_6 (by decide) ?_
  refine g_putI f_X11_63 d_X11_good_7 rfl (Nat.le_of_ble_eq_true rfl) rfl rfl rfl ?_
  exact g_vret rfl d_X11_good_10 ⟨rfl, by simp only [m_X11_good, opv_eq, if_true, if_false, Bool.false_eq_true, reduceCtorEq, b2i_t, b2i_f]⟩ (Nat.le_refl _) (Nat.le_refl _)
noncomputable def f_X11_no (I : Nat → Nat → Int32) (x1 : Int32) : Int32 := opv (-1)
noncomputable def m_X11_no (I : Nat → Nat → Int32) (x1 : Int32) : Nat → Nat → Int32 := opv (st2 I 65 11 x1)
set_option maxHeartbeats 800000 in
set_option maxRecDepth 4000 in
theorem c_X11_no {k : KT} {ex : Bool} {J : Nat → Nat → Int64} {w : Bool} (I : Nat → Nat → Int32) (x1 : Int32)  : Cx k mX11_no 1 [.ref (ka k 65), .int x1] (81, ex, I, J, Pw w) (some (.int (f_X11_no I x1))) (81, ex, m_X11_no I x1, J, Pw w) := by
  refine Ct.of rfl [some (.ref (ka k 65)), some (.int x1)] rfl rfl (Nat.le_of_ble_eq_true rfl) ?_
  refine g_aload_n0 rfl d_X11_no_0 ?_
  refine g_iload_n1 rfl d_X11_no_1 ?_
  refine g_putI f_X11_63 d_X11_no_2 rfl (Nat.le_of_ble_eq_true rfl) rfl rfl rfl ?_
  refine g_iconst (-1) d_X11_no_5 (by decide) ?_
  exact g_iret rfl d_X11_no_6 ⟨by simp only [f_X11_no, m_X11_no, opv_eq, if_true, if_false, Bool.false_eq_true, reduceCtorEq, b2i_t, b2i_f], by simp only [f_X11_no, m_X11_no, opv_eq, if_true, if_false, Bool.false_eq_true, reduceCtorEq, b2i_t, b2i_f]⟩ (Nat.le_refl _) (Nat.le_refl _)
noncomputable def f_X11_isNot (I : Nat → Nat → Int32) (x1 : Int32) : Bool := opv false
noncomputable def m_X11_isNot (I : Nat → Nat → Int32) (x1 : Int32) : Nat → Nat → Int32 := opv (st2 I 65 11 x1)
set_option maxHeartbeats 800000 in
set_option maxRecDepth 4000 in
theorem c_X11_isNot {k : KT} {ex : Bool} {J : Nat → Nat → Int64} {w : Bool} (I : Nat → Nat → Int32) (x1 : Int32)  : Cx k mX11_isNot 1 [.ref (ka k 65), .int x1] (81, ex, I, J, Pw w) (some (.int (b2i (f_X11_isNot I x1)))) (81, ex, m_X11_isNot I x1, J, Pw w) := by
  refine Ct.of rfl [some (.ref (ka k 65)), some (.int x1)] rfl rfl (Nat.le_of_ble_eq_true rfl) ?_
  refine g_aload_n0 rfl d_X11_isNot_0 ?_
  refine g_iload_n1 rfl d_X11_isNot_1 ?_
  refine g_putI f_X11_63 d_X11_isNot_2 rfl (Nat.le_of_ble_eq_true rfl) rfl rfl rfl ?_
  refine g_iconst 0 d_X11_isNot_5 (by decide) ?_
  exact g_zret rfl (by decide) d_X11_isNot_6 ⟨by simp only [f_X11_isNot, m_X11_isNot, opv_eq, if_true, if_false, Bool.false_eq_true, reduceCtorEq, b2i_t, b2i_f], by simp only [f_X11_isNot, m_X11_isNot, opv_eq, if_true, if_false, Bool.false_eq_true, reduceCtorEq, b2i_t, b2i_f]⟩ (Nat.le_refl _) (Nat.le_refl _)
noncomputable def lp_X11_lowest_6 (I : Nat → Nat → Int32) (x1 : Int64) (x2 : Int64) (x3 : Bool) : Nat → Int64 → Int64 → Int64 × Int64
  | 0, l5, l7 => (l5, l7)
  | n + 1, l5, l7 => (if (lg_cmp l7 0) = 0 then (l5, l7) else (lp_X11_lowest_6 I x1 x2 x3 n l7 (l5 - l5 / l7 * l7)))
def oklp_X11_lowest_6 (I : Nat → Nat → Int32) (x1 : Int64) (x2 : Int64) (x3 : Bool) : Nat → Int64 → Int64 → Prop
  | 0, l5, l7 => True
  | n + 1, l5, l7 => (if (lg_cmp l7 0) = 0 then True else (¬ l7 = 0 ∧ oklp_X11_lowest_6 I x1 x2 x3 n l7 (l5 - l5 / l7 * l7)))
set_option maxHeartbeats 800000 in
set_option maxRecDepth 4000 in
theorem k_lp_X11_lowest_6 {k : KT} {ex : Bool} {J : Nat → Nat → Int64} {w : Bool} (I : Nat → Nat → Int32) (x1 : Int64) (x2 : Int64) (x3 : Bool) {F : FinT} : ∀ (n : Nat) (l5 : Int64) (l7 : Int64), mu_lg l7 < n → oklp_X11_lowest_6 I x1 x2 x3 n l5 l7 → G k mX11_lowest (roomOf 1 0 0) F 0 0 31 [some (.long x1), none, some (.long x2), none, some (.int (b2i x3)), some (.long ((lp_X11_lowest_6 I x1 x2 x3 n l5 l7).1)), none, some (.long ((lp_X11_lowest_6 I x1 x2 x3 n l5 l7).2)), none, none, none] [] (81, ex, I, J, Pw w) → G k mX11_lowest (roomOf 1 0 0) F 0 0 6 [some (.long x1), none, some (.long x2), none, some (.int (b2i x3)), some (.long l5), none, some (.long l7), none, none, none] [] (81, ex, I, J, Pw w) := by
  intro n
  induction n with
  | zero => intro l5 l7 hmu hok hj; exact absurd hmu (Nat.not_lt_zero _)
  | succ n ih =>
    intro l5 l7 hmu hok hj
    rw [oklp_X11_lowest_6] at hok
    refine g_lload (i := 7) rfl d_X11_lowest_6 ?_
    refine g_lconst 0 d_X11_lowest_8 (by decide) ?_
    refine g_lcmp d_X11_lowest_9 ?_
    refine g_if_eq 31 d_X11_lowest_10 (by decide) (fun h1 => ?_) (fun h1 => ?_)
    · skip
      (try simp only [lp_X11_lowest_6, if_pos h1, opv_eq, if_true, if_false, Bool.false_eq_true, reduceCtorEq, b2i_t, b2i_f] at hj); exact hj
    · skip
      rw [if_neg h1] at hok
      refine g_lload (i := 5) rfl d_X11_lowest_13 ?_
      refine g_lload (i := 7) rfl d_X11_lowest_15 ?_
      obtain ⟨ho1, hok⟩ := hok
      refine g_lrem ho1 d_X11_lowest_17 ?_
      refine g_ls9 rfl d_X11_lowest_18 ?_
      refine g_lload (i := 7) rfl d_X11_lowest_20 ?_
      refine g_ls5 rfl d_X11_lowest_22 ?_
      refine g_lload (i := 9) rfl d_X11_lowest_24 ?_
      refine g_ls7 rfl d_X11_lowest_26 ?_
      refine g_goto 6 d_X11_lowest_28 (by decide) ?_
      refine G.weak (wks (wkn (wks (wkn (wks (wks (wkn (wks (wkn (wkn (wkn wk0))))))))))) ?_; exact ih l7 (l5 - l5 / l7 * l7) (Nat.lt_of_lt_of_le (mu_lg_lt h1) (Nat.le_of_lt_succ hmu)) (by (try simp only [if_neg h1, opv_eq, if_true, if_false, Bool.false_eq_true, reduceCtorEq, b2i_t, b2i_f] at hok); exact hok) (by (try simp only [lp_X11_lowest_6, if_neg h1, opv_eq, if_true, if_false, Bool.false_eq_true, reduceCtorEq, b2i_t, b2i_f] at hj); exact hj)
noncomputable def f_X11_lowest (I : Nat → Nat → Int32) (x1 : Int64) (x2 : Int64) (x3 : Bool) : Int64 := opv ((if x3 = true then x2 else x1) / ((lp_X11_lowest_6 I x1 x2 x3 (mu_lg x1 + 1) x2 x1).1))
noncomputable def ok_X11_lowest (I : Nat → Nat → Int32) (x1 : Int64) (x2 : Int64) (x3 : Bool) : Prop := opv (oklp_X11_lowest_6 I x1 x2 x3 (mu_lg x1 + 1) x2 x1 ∧ ¬ ((lp_X11_lowest_6 I x1 x2 x3 (mu_lg x1 + 1) x2 x1).1) = 0)
set_option maxHeartbeats 800000 in
set_option maxRecDepth 4000 in
theorem c_X11_lowest {k : KT} {ex : Bool} {J : Nat → Nat → Int64} {w : Bool} (I : Nat → Nat → Int32) (x1 : Int64) (x2 : Int64) (x3 : Bool)  (hok : ok_X11_lowest I x1 x2 x3) : Cx k mX11_lowest 1 [.long x1, .long x2, .int (b2i x3)] (81, ex, I, J, Pw w) (some (.long (f_X11_lowest I x1 x2 x3))) (81, ex, I, J, Pw w) := by
  refine Ct.of rfl [some (.long x1), none, some (.long x2), none, some (.int (b2i x3)), none, none, none, none, none, none] rfl rfl (Nat.le_of_ble_eq_true rfl) ?_
  rw [ok_X11_lowest, opv_eq] at hok
  refine g_lload_n2 rfl d_X11_lowest_0 ?_
  refine g_ls5 rfl d_X11_lowest_1 ?_
  refine g_lload_n0 rfl d_X11_lowest_3 ?_
  refine g_ls7 rfl d_X11_lowest_4 ?_
  obtain ⟨hol, hok⟩ := hok
  refine k_lp_X11_lowest_6 I x1 x2 x3 _ x2 x1 (Nat.lt_succ_self _) hol ?_
  refine g_iload (i := 4) rfl d_X11_lowest_31 ?_
  refine g_cut (pc' := 41) (vs' := [some (.long x1), none, some (.long x2), none, some (.int (b2i x3)), some (.long ((lp_X11_lowest_6 I x1 x2 x3 (mu_lg x1 + 1) x2 x1).1)), none, some (.long ((lp_X11_lowest_6 I x1 x2 x3 (mu_lg x1 + 1) x2 x1).2)), none, none, none]) (st' := [.long (if x3 = true then x2 else x1)]) (M' := (81, ex, I, J, Pw w)) (fun hj => ?_) ?_
  · skip
    refine g_ifz 40 d_X11_lowest_33 (by decide) (fun h2 => ?_) (fun h2 => ?_)
    · skip
      refine g_lload_n0 rfl d_X11_lowest_40 ?_
      (try simp only [if_neg (nb h2), opv_eq, if_true, if_false, Bool.false_eq_true, reduceCtorEq, b2i_t, b2i_f] at hj); exact hj
    · skip
      refine g_lload_n2 rfl d_X11_lowest_36 ?_
      refine g_goto 41 d_X11_lowest_37 (by decide) ?_
      (try simp only [if_pos h2, opv_eq, if_true, if_false, Bool.false_eq_true, reduceCtorEq, b2i_t, b2i_f] at hj); exact hj
  · skip
    refine g_lload (i := 5) rfl d_X11_lowest_41 ?_
    have ho2 := hok
    refine g_ldiv ho2 d_X11_lowest_43 ?_
    exact g_lret rfl d_X11_lowest_44 ⟨by simp only [f_X11_lowest, opv_eq, if_true, if_false, Bool.false_eq_true, reduceCtorEq, b2i_t, b2i_f], rfl⟩ (Nat.le_refl _) (Nat.le_refl _)
noncomputable def lp_X11_copy_3 (x1 : Nat) (x2 : Int32) (x3 : Nat) (x4 : Int32) (x5 : Int32) : Nat → Int32 → (Nat → Nat → Int32) → Int32 × (Nat → Nat → Int32)
  | 0, l5, I1 => (l5, I1)
  | n + 1, l5, I1 => (if x5 ≤ l5 then (l5, I1) else (lp_X11_copy_3 x1 x2 x3 x4 x5 n (l5 + 1) (va_up I1 x3 (upd (I1 x3) (x4 + l5).toNatClampNeg (I1 x1 (x2 + l5).toNatClampNeg)))))
def oklp_X11_copy_3 (x1 : Nat) (x2 : Int32) (x3 : Nat) (x4 : Int32) (x5 : Int32) : Nat → Int32 → (Nat → Nat → Int32) → Prop
  | 0, l5, I1 => True
  | n + 1, l5, I1 => (if x5 ≤ l5 then True else (vp_in (x2 + l5) (sz x1) ∧ (vp_in (x4 + l5) (sz x3) ∧ oklp_X11_copy_3 x1 x2 x3 x4 x5 n (l5 + 1) (va_up I1 x3 (upd (I1 x3) (x4 + l5).toNatClampNeg (I1 x1 (x2 + l5).toNatClampNeg))))))
set_option maxHeartbeats 800000 in
set_option maxRecDepth 4000 in
theorem k_lp_X11_copy_3 {k : KT} {ex : Bool} {J : Nat → Nat → Int64} {w : Bool} (x1 : Nat) (hx1 : kd x1 = 12) (x2 : Int32) (x3 : Nat) (hx3 : kd x3 = 12) (x4 : Int32) (x5 : Int32) {F : FinT} : ∀ (n : Nat) (l5 : Int32) (I1 : (Nat → Nat → Int32)), mu_up x5 l5 < n → oklp_X11_copy_3 x1 x2 x3 x4 x5 n l5 I1 → G k mX11_copy (roomOf 1 0 0) F 0 0 28 [some (.ref (ka k x1)), some (.int x2), some (.ref (ka k x3)), some (.int x4), some (.int x5), some (.int ((lp_X11_copy_3 x1 x2 x3 x4 x5 n l5 I1).1))] [] (81, ex, (lp_X11_copy_3 x1 x2 x3 x4 x5 n l5 I1).2, J, Pw w) → G k mX11_copy (roomOf 1 0 0) F 0 0 3 [some (.ref (ka k x1)), some (.int x2), some (.ref (ka k x3)), some (.int x4), some (.int x5), some (.int l5)] [] (81, ex, I1, J, Pw w) := by
  intro n
  induction n with
  | zero => intro l5 I1 hmu hok hj; exact absurd hmu (Nat.not_lt_zero _)
  | succ n ih =>
    intro l5 I1 hmu hok hj
    rw [oklp_X11_copy_3] at hok
    refine g_iload (i := 5) rfl d_X11_copy_3 ?_
    refine g_iload (i := 4) rfl d_X11_copy_5 ?_
    refine g_icmp_ge 28 d_X11_copy_7 (by decide) (fun h1 => ?_) (fun h1 => ?_)
    · skip
      (try simp only [lp_X11_copy_3, if_pos h1, opv_eq, if_true, if_false, Bool.false_eq_true, reduceCtorEq, b2i_t, b2i_f] at hj); exact hj
    · skip
      rw [if_neg h1] at hok
      refine g_aload_n2 rfl d_X11_copy_10 ?_
      refine g_iload_n3 rfl d_X11_copy_11 ?_
      refine g_iload (i := 5) rfl d_X11_copy_12 ?_
      refine g_iadd d_X11_copy_14 ?_
      refine g_aload_n0 rfl d_X11_copy_15 ?_
      refine g_iload_n1 rfl d_X11_copy_16 ?_
      refine g_iload (i := 5) rfl d_X11_copy_17 ?_
      refine g_iadd d_X11_copy_19 ?_
      obtain ⟨ho1, hok⟩ := hok
      refine g_iald d_X11_copy_20 hx1 (kd_sg hx1 (by decide)) ho1 ?_
      obtain ⟨ho2, hok⟩ := hok
      refine g_iast d_X11_copy_21 hx3 (kd_sg hx3 (by decide)) ho2 ?_
      refine g_ic5 (l5 + 1) rfl rfl d_X11_copy_22 ?_
      refine g_goto 3 d_X11_copy_25 (by decide) ?_
      exact ih (l5 + 1) (va_up I1 x3 (upd (I1 x3) (x4 + l5).toNatClampNeg (I1 x1 (x2 + l5).toNatClampNeg))) (Nat.lt_of_lt_of_le (mu_up_lt h1) (Nat.le_of_lt_succ hmu)) (by (try simp only [if_neg h1, opv_eq, if_true, if_false, Bool.false_eq_true, reduceCtorEq, b2i_t, b2i_f] at hok); exact hok) (by (try simp only [lp_X11_copy_3, if_neg h1, opv_eq, if_true, if_false, Bool.false_eq_true, reduceCtorEq, b2i_t, b2i_f] at hj); exact hj)
noncomputable def m_X11_copy (I : Nat → Nat → Int32) (x1 : Nat) (x2 : Int32) (x3 : Nat) (x4 : Int32) (x5 : Int32) : Nat → Nat → Int32 := opv ((lp_X11_copy_3 x1 x2 x3 x4 x5 (mu_up x5 0 + 1) 0 I).2)
noncomputable def ok_X11_copy (I : Nat → Nat → Int32) (x1 : Nat) (x2 : Int32) (x3 : Nat) (x4 : Int32) (x5 : Int32) : Prop := opv (oklp_X11_copy_3 x1 x2 x3 x4 x5 (mu_up x5 0 + 1) 0 I)
set_option maxHeartbeats 800000 in
set_option maxRecDepth 4000 in
theorem c_X11_copy {k : KT} {ex : Bool} {J : Nat → Nat → Int64} {w : Bool} (I : Nat → Nat → Int32) (x1 : Nat) (hx1 : kd x1 = 12) (x2 : Int32) (x3 : Nat) (hx3 : kd x3 = 12) (x4 : Int32) (x5 : Int32)  (hok : ok_X11_copy I x1 x2 x3 x4 x5) : Cx k mX11_copy 1 [.ref (ka k x1), .int x2, .ref (ka k x3), .int x4, .int x5] (81, ex, I, J, Pw w) none (81, ex, m_X11_copy I x1 x2 x3 x4 x5, J, Pw w) := by
  refine Ct.of rfl [some (.ref (ka k x1)), some (.int x2), some (.ref (ka k x3)), some (.int x4), some (.int x5), none] rfl rfl (Nat.le_of_ble_eq_true rfl) ?_
  rw [ok_X11_copy, opv_eq] at hok
  refine g_iconst 0 d_X11_copy_0 (by decide) ?_
  refine g_is5 rfl d_X11_copy_1 ?_
  refine k_lp_X11_copy_3 x1 hx1 x2 x3 hx3 x4 x5 _ 0 I (Nat.lt_succ_self _) hok ?_
  exact g_vret rfl d_X11_copy_28 ⟨rfl, by simp only [m_X11_copy, opv_eq, if_true, if_false, Bool.false_eq_true, reduceCtorEq, b2i_t, b2i_f]⟩ (Nat.le_refl _) (Nat.le_refl _)
noncomputable def u0_X11_feed (x1 : Int32) (x2 : Int32) (x3 : Int32) (x4 : Int32) (x5 : Int32) (l6 : Int32) : Int32 := opv (if 4 ≤ l6 then (if 8 ≤ l6 then (if 12 ≤ l6 then (if 16 ≤ l6 then x5 else x4) else x3) else x2) else x1)
noncomputable def lp_X11_feed_23 (x1 : Int32) (x2 : Int32) (x3 : Int32) (x4 : Int32) (x5 : Int32) : Nat → Int32 → (Nat → Nat → Int32) → Int32 × (Nat → Nat → Int32)
  | 0, l6, I1 => (l6, I1)
  | n + 1, l6, I1 => (if 20 ≤ l6 then (l6, I1) else (lp_X11_feed_23 x1 x2 x3 x4 x5 n (l6 + 1) (st2 (va_up I1 66 (upd (I1 66) (I1 65 2).toNatClampNeg (((u0_X11_feed x1 x2 x3 x4 x5 l6) >>> ((24 - (8 * (l6 - l6 / 4 * 4))) &&& 31)) &&& 255))) 65 2 ((I1 65 2) + 1))))
def oklp_X11_feed_23 (x1 : Int32) (x2 : Int32) (x3 : Int32) (x4 : Int32) (x5 : Int32) : Nat → Int32 → (Nat → Nat → Int32) → Prop
  | 0, l6, I1 => True
  | n + 1, l6, I1 => (if 20 ≤ l6 then True else (vp_in (I1 65 2) (sz 66) ∧ oklp_X11_feed_23 x1 x2 x3 x4 x5 n (l6 + 1) (st2 (va_up I1 66 (upd (I1 66) (I1 65 2).toNatClampNeg (((u0_X11_feed x1 x2 x3 x4 x5 l6) >>> ((24 - (8 * (l6 - l6 / 4 * 4))) &&& 31)) &&& 255))) 65 2 ((I1 65 2) + 1))))
set_option maxHeartbeats 800000 in
set_option maxRecDepth 4000 in
theorem k_lp_X11_feed_23 {k : KT} {ex : Bool} {J : Nat → Nat → Int64} {w : Bool} (x1 : Int32) (x2 : Int32) (x3 : Int32) (x4 : Int32) (x5 : Int32) {F : FinT} : ∀ (n : Nat) (l6 : Int32) (I1 : (Nat → Nat → Int32)), mu_up 20 l6 < n → oklp_X11_feed_23 x1 x2 x3 x4 x5 n l6 I1 → G k mX11_feed (roomOf 1 0 0) F 0 0 120 [some (.ref (ka k 65)), some (.int x1), some (.int x2), some (.int x3), some (.int x4), some (.int x5), some (.int ((lp_X11_feed_23 x1 x2 x3 x4 x5 n l6 I1).1)), none] [] (81, ex, (lp_X11_feed_23 x1 x2 x3 x4 x5 n l6 I1).2, J, Pw w) → G k mX11_feed (roomOf 1 0 0) F 0 0 23 [some (.ref (ka k 65)), some (.int x1), some (.int x2), some (.int x3), some (.int x4), some (.int x5), some (.int l6), none] [] (81, ex, I1, J, Pw w) := by
  intro n
  induction n with
  | zero => intro l6 I1 hmu hok hj; exact absurd hmu (Nat.not_lt_zero _)
  | succ n ih =>
    intro l6 I1 hmu hok hj
    rw [oklp_X11_feed_23] at hok
    refine g_iload (i := 6) rfl d_X11_feed_23 ?_
    refine g_bipush 20 d_X11_feed_25 (by decide) ?_
    refine g_icmp_ge 120 d_X11_feed_27 (by decide) (fun h1 => ?_) (fun h1 => ?_)
    · skip
      (try simp only [lp_X11_feed_23, if_pos h1, opv_eq, if_true, if_false, Bool.false_eq_true, reduceCtorEq, b2i_t, b2i_f] at hj); exact hj
    · skip
      rw [if_neg h1] at hok
      refine g_iload (i := 6) rfl d_X11_feed_30 ?_
      refine g_iconst 4 d_X11_feed_32 (by decide) ?_
      refine g_cut (pc' := 76) (vs' := [some (.ref (ka k 65)), some (.int x1), some (.int x2), some (.int x3), some (.int x4), some (.int x5), some (.int l6), none]) (st' := [.int (u0_X11_feed x1 x2 x3 x4 x5 l6)]) (M' := (81, ex, I1, J, Pw w)) (fun hj => ?_) ?_
      · skip
        refine g_icmp_ge 40 d_X11_feed_33 (by decide) (fun h2 => ?_) (fun h2 => ?_)
        · skip
          refine g_iload (i := 6) rfl d_X11_feed_40 ?_
          refine g_bipush 8 d_X11_feed_42 (by decide) ?_
          refine g_icmp_ge 51 d_X11_feed_44 (by decide) (fun h3 => ?_) (fun h3 => ?_)
          · skip
            refine g_iload (i := 6) rfl d_X11_feed_51 ?_
            refine g_bipush 12 d_X11_feed_53 (by decide) ?_
            refine g_icmp_ge 62 d_X11_feed_55 (by decide) (fun h4 => ?_) (fun h4 => ?_)
            · skip
              refine g_iload (i := 6) rfl d_X11_feed_62 ?_
              refine g_bipush 16 d_X11_feed_64 (by decide) ?_
              refine g_icmp_ge 74 d_X11_feed_66 (by decide) (fun h5 => ?_) (fun h5 => ?_)
              · skip
                refine g_iload (i := 5) rfl d_X11_feed_74 ?_
                (try simp only [if_pos h2, if_pos h3, if_pos h4, if_pos h5, opv_eq, if_true, if_false, Bool.false_eq_true, reduceCtorEq, b2i_t, b2i_f, u0_X11_feed] at hj); exact hj
              · skip
                refine g_iload (i := 4) rfl d_X11_feed_69 ?_
                refine g_goto 76 d_X11_feed_71 (by decide) ?_
                (try simp only [if_pos h2, if_pos h3, if_pos h4, if_neg h5, opv_eq, if_true, if_false, Bool.false_eq_true, reduceCtorEq, b2i_t, b2i_f, u0_X11_feed] at hj); exact hj
            · skip
              refine g_iload_n3 rfl d_X11_feed_58 ?_
              refine g_goto 76 d_X11_feed_59 (by decide) ?_
              (try simp only [if_pos h2, if_pos h3, if_neg h4, opv_eq, if_true, if_false, Bool.false_eq_true, reduceCtorEq, b2i_t, b2i_f, u0_X11_feed] at hj); exact hj
          · skip
            refine g_iload_n2 rfl d_X11_feed_47 ?_
            refine g_goto 76 d_X11_feed_48 (by decide) ?_
            (try simp only [if_pos h2, if_neg h3, opv_eq, if_true, if_false, Bool.false_eq_true, reduceCtorEq, b2i_t, b2i_f, u0_X11_feed] at hj); exact hj
        · skip
          refine g_iload_n1 rfl d_X11_feed_36 ?_
          refine g_goto 76 d_X11_feed_37 (by decide) ?_
          (try simp only [if_neg h2, opv_eq, if_true, if_false, Bool.false_eq_true, reduceCtorEq, b2i_t, b2i_f, u0_X11_feed] at hj); exact hj
      · skip
        refine g_is7 rfl d_X11_feed_76 ?_
        refine g_aload_n0 rfl d_X11_feed_78 ?_
        refine g_getP (b := 66) f_X11_7 d_X11_feed_79 rfl (Nat.le_of_ble_eq_true rfl) rfl rfl ?_
        refine g_aload_n0 rfl d_X11_feed_82 ?_
        refine g_getI f_X11_66 d_X11_feed_83 rfl (Nat.le_of_ble_eq_true rfl) rfl ?_
        refine g_iload (i := 7) rfl d_X11_feed_86 ?_
        refine g_bipush 24 d_X11_feed_88 (by decide) ?_
        refine g_bipush 8 d_X11_feed_90 (by decide) ?_
        refine g_iload (i := 6) rfl d_X11_feed_92 ?_
        refine g_iconst 4 d_X11_feed_94 (by decide) ?_
        refine g_irem (by decide) d_X11_feed_95 ?_
        refine g_imul d_X11_feed_96 ?_
        refine g_isub d_X11_feed_97 ?_
        refine g_ishr d_X11_feed_98 ?_
        refine g_sipush 255 d_X11_feed_99 (by decide) ?_
        refine g_iand d_X11_feed_102 ?_
        obtain ⟨ho1, hok⟩ := hok
        refine g_iast d_X11_feed_103 rfl (Nat.le_of_ble_eq_true rfl) ho1 ?_
        refine g_aload_n0 rfl d_X11_feed_104 ?_
        refine g_dup rfl d_X11_feed_105 ?_
        refine g_getIv (I1 65 2) (vu_a _ _ (by decide) _) f_X11_66 d_X11_feed_106 rfl (Nat.le_of_ble_eq_true rfl) rfl ?_
        refine g_iconst 1 d_X11_feed_109 (by decide) ?_
        refine g_iadd d_X11_feed_110 ?_
        refine g_putI f_X11_66 d_X11_feed_111 rfl (Nat.le_of_ble_eq_true rfl) rfl rfl rfl ?_
        refine g_ic6 (l6 + 1) rfl rfl d_X11_feed_114 ?_
        refine g_goto 23 d_X11_feed_117 (by decide) ?_
        refine G.weak (wks (wks (wks (wks (wks (wks (wks (wkn wk0)))))))) ?_; exact ih (l6 + 1) (st2 (va_up I1 66 (upd (I1 66) (I1 65 2).toNatClampNeg (((u0_X11_feed x1 x2 x3 x4 x5 l6) >>> ((24 - (8 * (l6 - l6 / 4 * 4))) &&& 31)) &&& 255))) 65 2 ((I1 65 2) + 1)) (Nat.lt_of_lt_of_le (mu_up_lt h1) (Nat.le_of_lt_succ hmu)) (by (try simp only [if_neg h1, opv_eq, if_true, if_false, Bool.false_eq_true, reduceCtorEq, b2i_t, b2i_f] at hok); exact hok) (by (try simp only [lp_X11_feed_23, if_neg h1, opv_eq, if_true, if_false, Bool.false_eq_true, reduceCtorEq, b2i_t, b2i_f] at hj); exact hj)
noncomputable def f_X11_feed (I : Nat → Nat → Int32) (x1 : Int32) (x2 : Int32) (x3 : Int32) (x4 : Int32) (x5 : Int32) : Int32 := opv (if ((I 65 2) + 20) ≤ 900 then ((lp_X11_feed_23 x1 x2 x3 x4 x5 (mu_up 20 0 + 1) 0 (st2 I 65 0 0)).2) 65 2 else (-1))
noncomputable def m_X11_feed (I : Nat → Nat → Int32) (x1 : Int32) (x2 : Int32) (x3 : Int32) (x4 : Int32) (x5 : Int32) : Nat → Nat → Int32 := opv (if ((I 65 2) + 20) ≤ 900 then (lp_X11_feed_23 x1 x2 x3 x4 x5 (mu_up 20 0 + 1) 0 (st2 I 65 0 0)).2 else (st2 I 65 0 0))
noncomputable def ok_X11_feed (I : Nat → Nat → Int32) (x1 : Int32) (x2 : Int32) (x3 : Int32) (x4 : Int32) (x5 : Int32) : Prop := opv (if ((I 65 2) + 20) ≤ 900 then oklp_X11_feed_23 x1 x2 x3 x4 x5 (mu_up 20 0 + 1) 0 (st2 I 65 0 0) else True)
set_option maxHeartbeats 800000 in
set_option maxRecDepth 4000 in
theorem c_X11_feed {k : KT} {ex : Bool} {J : Nat → Nat → Int64} {w : Bool} (I : Nat → Nat → Int32) (x1 : Int32) (x2 : Int32) (x3 : Int32) (x4 : Int32) (x5 : Int32)  (hok : ok_X11_feed I x1 x2 x3 x4 x5) : Cx k mX11_feed 1 [.ref (ka k 65), .int x1, .int x2, .int x3, .int x4, .int x5] (81, ex, I, J, Pw w) (some (.int (f_X11_feed I x1 x2 x3 x4 x5))) (81, ex, m_X11_feed I x1 x2 x3 x4 x5, J, Pw w) := by
  refine Ct.of rfl [some (.ref (ka k 65)), some (.int x1), some (.int x2), some (.int x3), some (.int x4), some (.int x5), none, none] rfl rfl (Nat.le_of_ble_eq_true rfl) ?_
  rw [ok_X11_feed, opv_eq] at hok
  refine g_aload_n0 rfl d_X11_feed_0 ?_
  refine g_iconst 0 d_X11_feed_1 (by decide) ?_
  refine g_putI f_X11_60 d_X11_feed_2 rfl (Nat.le_of_ble_eq_true rfl) rfl rfl rfl ?_
  refine g_aload_n0 rfl d_X11_feed_5 ?_
  refine g_getIv (I 65 2) (st2_o _ _ _ (by decide)) f_X11_66 d_X11_feed_6 rfl (Nat.le_of_ble_eq_true rfl) rfl ?_
  refine g_bipush 20 d_X11_feed_9 (by decide) ?_
  refine g_iadd d_X11_feed_11 ?_
  refine g_sipush 900 d_X11_feed_12 (by decide) ?_
  refine g_icmp_le 20 d_X11_feed_15 (by decide) (fun h6 => ?_) (fun h6 => ?_)
  · skip
    rw [if_pos h6] at hok
    refine g_iconst 0 d_X11_feed_20 (by decide) ?_
    refine g_is6 rfl d_X11_feed_21 ?_
    refine k_lp_X11_feed_23 x1 x2 x3 x4 x5 _ 0 (st2 I 65 0 0) (Nat.lt_succ_self _) hok ?_
    refine g_aload_n0 rfl d_X11_feed_120 ?_
    refine g_getI f_X11_66 d_X11_feed_121 rfl (Nat.le_of_ble_eq_true rfl) rfl ?_
    exact g_iret rfl d_X11_feed_124 ⟨by simp only [f_X11_feed, m_X11_feed, if_pos h6, opv_eq, if_true, if_false, Bool.false_eq_true, reduceCtorEq, b2i_t, b2i_f], by simp only [f_X11_feed, m_X11_feed, if_pos h6, opv_eq, if_true, if_false, Bool.false_eq_true, reduceCtorEq, b2i_t, b2i_f]⟩ (Nat.le_refl _) (Nat.le_refl _)
  · skip
    refine g_iconst (-1) d_X11_feed_18 (by decide) ?_
    exact g_iret rfl d_X11_feed_19 ⟨by simp only [f_X11_feed, m_X11_feed, if_neg h6, opv_eq, if_true, if_false, Bool.false_eq_true, reduceCtorEq, b2i_t, b2i_f], by simp only [f_X11_feed, m_X11_feed, if_neg h6, opv_eq, if_true, if_false, Bool.false_eq_true, reduceCtorEq, b2i_t, b2i_f]⟩ (Nat.le_refl _) (Nat.le_refl _)
theorem see_lt {I : Nat → Nat → Int32} {k : Int32} (h : ¬ f_X11_see I k = -1) : ¬ I 65 3 ≤ k := by
  intro q
  apply h
  rw [f_X11_see, opv_eq, if_pos q]
theorem see_32 {I : Nat → Nat → Int32} {k : Int32} (h : f_X11_see I k = 32) : ¬ I 65 3 ≤ k := see_lt (by rw [h]; decide)
theorem see_sm {I : Nat → Nat → Int32} {k : Int32} (h : f_X11_isSmall I (f_X11_see I k) = true) : ¬ I 65 3 ≤ k := see_lt (by
  intro e
  rw [e] at h
  simp [f_X11_isSmall, u0_X11_isSmall, opv_eq] at h)
theorem see_dg {I : Nat → Nat → Int32} {k : Int32} (h : f_X11_isDigit I (f_X11_see I k) = true) : ¬ I 65 3 ≤ k := see_lt (by
  intro e
  rw [e] at h
  simp [f_X11_isDigit, u0_X11_isDigit, opv_eq] at h)
