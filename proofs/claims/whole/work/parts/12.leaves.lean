theorem b2i_t : b2i true = 1 := rfl
theorem b2i_f : b2i false = 0 := rfl
theorem nb {b : Bool} (h : b = false) : ¬ b = true := by rw [h]; decide
noncomputable def u0_X7_holds (I : Nat → Nat → Int32) (a : Nat) (x1 : Int32) : Bool := opv (if x1 < 0 then false else (if (I a 3) ≤ x1 then false else true))
noncomputable def f_X7_holds (I : Nat → Nat → Int32) (a : Nat) (x1 : Int32) : Bool := opv (u0_X7_holds I a x1)
set_option maxHeartbeats 800000 in
set_option maxRecDepth 4000 in
theorem c_X7_holds {k : KT} {ex : Bool} {J : Nat → Nat → Int64} {w : Bool} (I : Nat → Nat → Int32) (a : Nat) (ha : kd a = 6) (x1 : Int32)  : Cx k mX7_holds 1 [.ref (ka k a), .int x1] (81, ex, I, J, Pw w) (some (.int (b2i (f_X7_holds I a x1)))) (81, ex, I, J, Pw w) := by
  refine Ct.of rfl [some (.ref (ka k a)), some (.int x1)] rfl rfl (Nat.le_of_ble_eq_true rfl) ?_
  refine g_iload_n1 rfl d_X7_holds_0 ?_
  refine g_cut (pc' := 17) (vs' := [some (.ref (ka k a)), some (.int x1)]) (st' := [.int (b2i (u0_X7_holds I a x1))]) (M' := (81, ex, I, J, Pw w)) (fun hj => ?_) ?_
  · skip
    refine g_if_lt 16 d_X7_holds_1 (by decide) (fun h1 => ?_) (fun h1 => ?_)
    · skip
      refine g_iconst 0 d_X7_holds_16 (by decide) ?_
      (try simp only [if_pos h1, opv_eq, if_true, if_false, Bool.false_eq_true, reduceCtorEq, b2i_t, b2i_f, u0_X7_holds] at hj); exact hj
    · skip
      refine g_iload_n1 rfl d_X7_holds_4 ?_
      refine g_aload_n0 rfl d_X7_holds_5 ?_
      refine g_getI f_X7_20 d_X7_holds_6 ha (kd_sg ha (by decide)) rfl ?_
      refine g_icmp_ge 16 d_X7_holds_9 (by decide) (fun h2 => ?_) (fun h2 => ?_)
      · skip
        refine g_iconst 0 d_X7_holds_16 (by decide) ?_
        (try simp only [if_neg h1, if_pos h2, opv_eq, if_true, if_false, Bool.false_eq_true, reduceCtorEq, b2i_t, b2i_f, u0_X7_holds] at hj); exact hj
      · skip
        refine g_iconst 1 d_X7_holds_12 (by decide) ?_
        refine g_goto 17 d_X7_holds_13 (by decide) ?_
        (try simp only [if_neg h1, if_neg h2, opv_eq, if_true, if_false, Bool.false_eq_true, reduceCtorEq, b2i_t, b2i_f, u0_X7_holds] at hj); exact hj
  · skip
    exact g_zret rfl (nar_b _) d_X7_holds_17 ⟨by simp only [f_X7_holds, opv_eq, if_true, if_false, Bool.false_eq_true, reduceCtorEq, b2i_t, b2i_f], rfl⟩ (Nat.le_refl _) (Nat.le_refl _)
noncomputable def f_X7_isFull (I : Nat → Nat → Int32) (a : Nat) : Bool := opv (if (I a 3) < (I a 0) then false else true)
set_option maxHeartbeats 800000 in
set_option maxRecDepth 4000 in
theorem c_X7_isFull {k : KT} {ex : Bool} {J : Nat → Nat → Int64} {w : Bool} (I : Nat → Nat → Int32) (a : Nat) (ha : kd a = 6)  : Cx k mX7_isFull 1 [.ref (ka k a)] (81, ex, I, J, Pw w) (some (.int (b2i (f_X7_isFull I a)))) (81, ex, I, J, Pw w) := by
  refine Ct.of rfl [some (.ref (ka k a))] rfl rfl (Nat.le_of_ble_eq_true rfl) ?_
  refine g_aload_n0 rfl d_X7_isFull_0 ?_
  refine g_getI f_X7_20 d_X7_isFull_1 ha (kd_sg ha (by decide)) rfl ?_
  refine g_aload_n0 rfl d_X7_isFull_4 ?_
  refine g_getI f_X7_7 d_X7_isFull_5 ha (kd_sg ha (by decide)) rfl ?_
  refine g_cut (pc' := 16) (vs' := [some (.ref (ka k a))]) (st' := [.int (b2i (if (I a 3) < (I a 0) then false else true))]) (M' := (81, ex, I, J, Pw w)) (fun hj => ?_) ?_
  · skip
    refine g_icmp_lt 15 d_X7_isFull_8 (by decide) (fun h1 => ?_) (fun h1 => ?_)
    · skip
      refine g_iconst 0 d_X7_isFull_15 (by decide) ?_
      (try simp only [if_pos h1, opv_eq, if_true, if_false, Bool.false_eq_true, reduceCtorEq, b2i_t, b2i_f] at hj); exact hj
    · skip
      refine g_iconst 1 d_X7_isFull_11 (by decide) ?_
      refine g_goto 16 d_X7_isFull_12 (by decide) ?_
      (try simp only [if_neg h1, opv_eq, if_true, if_false, Bool.false_eq_true, reduceCtorEq, b2i_t, b2i_f] at hj); exact hj
  · skip
    exact g_zret rfl (nar_b _) d_X7_isFull_16 ⟨by simp only [f_X7_isFull, opv_eq, if_true, if_false, Bool.false_eq_true, reduceCtorEq, b2i_t, b2i_f], rfl⟩ (Nat.le_refl _) (Nat.le_refl _)
noncomputable def f_X0_pullOfDamp (I : Nat → Nat → Int32) (x1 : Int32) : Int32 := opv ((x1 - 50) / 10)
set_option maxHeartbeats 800000 in
set_option maxRecDepth 4000 in
theorem c_X0_pullOfDamp {k : KT} {ex : Bool} {J : Nat → Nat → Int64} {w : Bool} (I : Nat → Nat → Int32) (x1 : Int32)  : Cx k mX0_pullOfDamp 1 [.int x1] (81, ex, I, J, Pw w) (some (.int (f_X0_pullOfDamp I x1))) (81, ex, I, J, Pw w) := by
  refine Ct.of rfl [some (.int x1)] rfl rfl (Nat.le_of_ble_eq_true rfl) ?_
  refine g_iload_n0 rfl d_X0_pullOfDamp_0 ?_
  refine g_bipush 50 d_X0_pullOfDamp_1 (by decide) ?_
  refine g_isub d_X0_pullOfDamp_3 ?_
  refine g_bipush 10 d_X0_pullOfDamp_4 (by decide) ?_
  refine g_idiv (by decide) d_X0_pullOfDamp_6 ?_
  exact g_iret rfl d_X0_pullOfDamp_7 ⟨by simp only [f_X0_pullOfDamp, opv_eq, if_true, if_false, Bool.false_eq_true, reduceCtorEq, b2i_t, b2i_f], rfl⟩ (Nat.le_refl _) (Nat.le_refl _)
noncomputable def u0_X0_reach (I : Nat → Nat → Int32) (a : Nat) (x1 : Int32) : Int32 := opv (if x1 < (100 - (10 * (I a 2))) then 1 + (I a 3) else imax 0 ((1 + (I a 3)) - 1))
noncomputable def f_X0_reach (I : Nat → Nat → Int32) (a : Nat) (x1 : Int32) : Int32 := opv (u0_X0_reach I a x1)
set_option maxHeartbeats 800000 in
set_option maxRecDepth 4000 in
theorem c_X0_reach {k : KT} {ex : Bool} {J : Nat → Nat → Int64} {w : Bool} (I : Nat → Nat → Int32) (a : Nat) (ha : kd a = 0) (x1 : Int32)  : Cx k mX0_reach 2 [.ref (ka k a), .int x1] (81, ex, I, J, Pw w) (some (.int (f_X0_reach I a x1))) (81, ex, I, J, Pw w) := by
  refine Ct.of rfl [some (.ref (ka k a)), some (.int x1), none] rfl rfl (Nat.le_of_ble_eq_true rfl) ?_
  refine g_iconst 1 d_X0_reach_0 (by decide) ?_
  refine g_aload_n0 rfl d_X0_reach_1 ?_
  refine g_getI f_X0_21 d_X0_reach_2 ha (kd_sg ha (by decide)) rfl ?_
  refine g_iadd d_X0_reach_5 ?_
  refine g_isn2 rfl d_X0_reach_6 ?_
  refine g_iload_n1 rfl d_X0_reach_7 ?_
  refine g_bipush 100 d_X0_reach_8 (by decide) ?_
  refine g_bipush 10 d_X0_reach_10 (by decide) ?_
  refine g_aload_n0 rfl d_X0_reach_12 ?_
  refine g_getI f_X0_18 d_X0_reach_13 ha (kd_sg ha (by decide)) rfl ?_
  refine g_imul d_X0_reach_16 ?_
  refine g_isub d_X0_reach_17 ?_
  refine g_cut (pc' := 32) (vs' := [some (.ref (ka k a)), some (.int x1), some (.int (1 + (I a 3)))]) (st' := [.int (u0_X0_reach I a x1)]) (M' := (81, ex, I, J, Pw w)) (fun hj => ?_) ?_
  · skip
    refine g_icmp_lt 31 d_X0_reach_18 (by decide) (fun h1 => ?_) (fun h1 => ?_)
    · skip
      refine g_iload_n2 rfl d_X0_reach_31 ?_
      (try simp only [if_pos h1, opv_eq, if_true, if_false, Bool.false_eq_true, reduceCtorEq, b2i_t, b2i_f, u0_X0_reach] at hj); exact hj
    · skip
      refine g_iconst 0 d_X0_reach_21 (by decide) ?_
      refine g_iload_n2 rfl d_X0_reach_22 ?_
      refine g_iconst 1 d_X0_reach_23 (by decide) ?_
      refine g_isub d_X0_reach_24 ?_
      refine g_mmax lm_X0_39 d_X0_reach_25 (Nat.le_of_ble_eq_true rfl) ⟨Nat.le_of_ble_eq_true rfl, Nat.le_of_ble_eq_true rfl⟩ ⟨Nat.zero_le _, Nat.zero_le _⟩ ?_
      refine g_goto 32 d_X0_reach_28 (by decide) ?_
      (try simp only [if_neg h1, opv_eq, if_true, if_false, Bool.false_eq_true, reduceCtorEq, b2i_t, b2i_f, u0_X0_reach] at hj); exact hj
  · skip
    exact g_iret rfl d_X0_reach_32 ⟨by simp only [f_X0_reach, opv_eq, if_true, if_false, Bool.false_eq_true, reduceCtorEq, b2i_t, b2i_f], rfl⟩ (Nat.le_refl _) (Nat.le_refl _)
noncomputable def f_X0_turned (I : Nat → Nat → Int32) (a : Nat) (x1 : Int32) (x2 : Int32) : Int32 := opv ((I a 0) + (imax (-(f_X0_reach I a x2)) (imin (f_X0_reach I a x2) ((imax (-9) (imin 9 x1)) - (I a 0)))))
set_option maxHeartbeats 800000 in
set_option maxRecDepth 4000 in
theorem c_X0_turned {k : KT} {ex : Bool} {J : Nat → Nat → Int64} {w : Bool} (I : Nat → Nat → Int32) (a : Nat) (ha : kd a = 0) (x1 : Int32) (x2 : Int32)  : Cx k mX0_turned 3 [.ref (ka k a), .int x1, .int x2] (81, ex, I, J, Pw w) (some (.int (f_X0_turned I a x1 x2))) (81, ex, I, J, Pw w) := by
  refine Ct.of rfl [some (.ref (ka k a)), some (.int x1), some (.int x2), none, none] rfl rfl (Nat.le_of_ble_eq_true rfl) ?_
  refine g_aload_n0 rfl d_X0_turned_0 ?_
  refine g_iload_n2 rfl d_X0_turned_1 ?_
  refine g_callV1 (c_X0_reach I a ha x2) w_X0_reach l_X0_45 d_X0_turned_2 ha (kd_sg ha (by decide)) rfl rfl (Nat.le_of_ble_eq_true rfl) ⟨Nat.le_of_ble_eq_true rfl, Nat.le_of_ble_eq_true rfl⟩ ⟨Nat.zero_le _, Nat.zero_le _⟩ ⟨rfl, rfl⟩ ?_
  refine g_isn3 rfl d_X0_turned_5 ?_
  refine g_bipush (-9) d_X0_turned_6 (by decide) ?_
  refine g_bipush 9 d_X0_turned_8 (by decide) ?_
  refine g_iload_n1 rfl d_X0_turned_10 ?_
  refine g_mmin lm_X0_49 d_X0_turned_11 (Nat.le_of_ble_eq_true rfl) ⟨Nat.le_of_ble_eq_true rfl, Nat.le_of_ble_eq_true rfl⟩ ⟨Nat.zero_le _, Nat.zero_le _⟩ ?_
  refine g_mmax lm_X0_39 d_X0_turned_14 (Nat.le_of_ble_eq_true rfl) ⟨Nat.le_of_ble_eq_true rfl, Nat.le_of_ble_eq_true rfl⟩ ⟨Nat.zero_le _, Nat.zero_le _⟩ ?_
  refine g_is4 rfl d_X0_turned_17 ?_
  refine g_aload_n0 rfl d_X0_turned_19 ?_
  refine g_getI f_X0_9 d_X0_turned_20 ha (kd_sg ha (by decide)) rfl ?_
  refine g_iload_n3 rfl d_X0_turned_23 ?_
  refine g_ineg d_X0_turned_24 ?_
  refine g_iload_n3 rfl d_X0_turned_25 ?_
  refine g_iload (i := 4) rfl d_X0_turned_26 ?_
  refine g_aload_n0 rfl d_X0_turned_28 ?_
  refine g_getI f_X0_9 d_X0_turned_29 ha (kd_sg ha (by decide)) rfl ?_
  refine g_isub d_X0_turned_32 ?_
  refine g_mmin lm_X0_49 d_X0_turned_33 (Nat.le_of_ble_eq_true rfl) ⟨Nat.le_of_ble_eq_true rfl, Nat.le_of_ble_eq_true rfl⟩ ⟨Nat.zero_le _, Nat.zero_le _⟩ ?_
  refine g_mmax lm_X0_39 d_X0_turned_36 (Nat.le_of_ble_eq_true rfl) ⟨Nat.le_of_ble_eq_true rfl, Nat.le_of_ble_eq_true rfl⟩ ⟨Nat.zero_le _, Nat.zero_le _⟩ ?_
  refine g_iadd d_X0_turned_39 ?_
  exact g_iret rfl d_X0_turned_40 ⟨by simp only [f_X0_turned, opv_eq, if_true, if_false, Bool.false_eq_true, reduceCtorEq, b2i_t, b2i_f], rfl⟩ (Nat.le_refl _) (Nat.le_refl _)
noncomputable def f_X0_whoIsOut (I : Nat → Nat → Int32) (a : Nat) : Int32 := opv ((b2i (if (I a 0) < (3 - (I a 3)) then false else true)) + (if (-(I a 0)) < (3 - (I a 3)) then 0 else 2))
set_option maxHeartbeats 800000 in
set_option maxRecDepth 4000 in
theorem c_X0_whoIsOut {k : KT} {ex : Bool} {J : Nat → Nat → Int64} {w : Bool} (I : Nat → Nat → Int32) (a : Nat) (ha : kd a = 0)  : Cx k mX0_whoIsOut 1 [.ref (ka k a)] (81, ex, I, J, Pw w) (some (.int (f_X0_whoIsOut I a))) (81, ex, I, J, Pw w) := by
  refine Ct.of rfl [some (.ref (ka k a)), none] rfl rfl (Nat.le_of_ble_eq_true rfl) ?_
  refine g_iconst 3 d_X0_whoIsOut_0 (by decide) ?_
  refine g_aload_n0 rfl d_X0_whoIsOut_1 ?_
  refine g_getI f_X0_21 d_X0_whoIsOut_2 ha (kd_sg ha (by decide)) rfl ?_
  refine g_isub d_X0_whoIsOut_5 ?_
  refine g_isn1 rfl d_X0_whoIsOut_6 ?_
  refine g_aload_n0 rfl d_X0_whoIsOut_7 ?_
  refine g_getI f_X0_9 d_X0_whoIsOut_8 ha (kd_sg ha (by decide)) rfl ?_
  refine g_iload_n1 rfl d_X0_whoIsOut_11 ?_
  refine g_cut (pc' := 20) (vs' := [some (.ref (ka k a)), some (.int (3 - (I a 3)))]) (st' := [.int (b2i (if (I a 0) < (3 - (I a 3)) then false else true))]) (M' := (81, ex, I, J, Pw w)) (fun hj => ?_) ?_
  · skip
    refine g_icmp_lt 19 d_X0_whoIsOut_12 (by decide) (fun h1 => ?_) (fun h1 => ?_)
    · skip
      refine g_iconst 0 d_X0_whoIsOut_19 (by decide) ?_
      (try simp only [if_pos h1, opv_eq, if_true, if_false, Bool.false_eq_true, reduceCtorEq, b2i_t, b2i_f] at hj); exact hj
    · skip
      refine g_iconst 1 d_X0_whoIsOut_15 (by decide) ?_
      refine g_goto 20 d_X0_whoIsOut_16 (by decide) ?_
      (try simp only [if_neg h1, opv_eq, if_true, if_false, Bool.false_eq_true, reduceCtorEq, b2i_t, b2i_f] at hj); exact hj
  · skip
    refine g_aload_n0 rfl d_X0_whoIsOut_20 ?_
    refine g_getI f_X0_9 d_X0_whoIsOut_21 ha (kd_sg ha (by decide)) rfl ?_
    refine g_ineg d_X0_whoIsOut_24 ?_
    refine g_iload_n1 rfl d_X0_whoIsOut_25 ?_
    refine g_cut (pc' := 34) (vs' := [some (.ref (ka k a)), some (.int (3 - (I a 3)))]) (st' := [.int (if (-(I a 0)) < (3 - (I a 3)) then 0 else 2), .int (b2i (if (I a 0) < (3 - (I a 3)) then false else true))]) (M' := (81, ex, I, J, Pw w)) (fun hj => ?_) ?_
    · skip
      refine g_icmp_lt 33 d_X0_whoIsOut_26 (by decide) (fun h2 => ?_) (fun h2 => ?_)
      · skip
        refine g_iconst 0 d_X0_whoIsOut_33 (by decide) ?_
        (try simp only [if_pos h2, opv_eq, if_true, if_false, Bool.false_eq_true, reduceCtorEq, b2i_t, b2i_f] at hj); exact hj
      · skip
        refine g_iconst 2 d_X0_whoIsOut_29 (by decide) ?_
        refine g_goto 34 d_X0_whoIsOut_30 (by decide) ?_
        (try simp only [if_neg h2, opv_eq, if_true, if_false, Bool.false_eq_true, reduceCtorEq, b2i_t, b2i_f] at hj); exact hj
    · skip
      refine g_iadd d_X0_whoIsOut_34 ?_
      exact g_iret rfl d_X0_whoIsOut_35 ⟨by simp only [f_X0_whoIsOut, opv_eq, if_true, if_false, Bool.false_eq_true, reduceCtorEq, b2i_t, b2i_f], rfl⟩ (Nat.le_refl _) (Nat.le_refl _)
noncomputable def u0_X0_isOpen (I : Nat → Nat → Int32) (a : Nat) (x1 : Int32) : Bool := opv (if (((I a 4) >>> (x1 &&& 31)) &&& 1) = 1 then true else false)
noncomputable def f_X0_isOpen (I : Nat → Nat → Int32) (a : Nat) (x1 : Int32) : Bool := opv (u0_X0_isOpen I a x1)
set_option maxHeartbeats 800000 in
set_option maxRecDepth 4000 in
theorem c_X0_isOpen {k : KT} {ex : Bool} {J : Nat → Nat → Int64} {w : Bool} (I : Nat → Nat → Int32) (a : Nat) (ha : kd a = 0) (x1 : Int32)  : Cx k mX0_isOpen 1 [.ref (ka k a), .int x1] (81, ex, I, J, Pw w) (some (.int (b2i (f_X0_isOpen I a x1)))) (81, ex, I, J, Pw w) := by
  refine Ct.of rfl [some (.ref (ka k a)), some (.int x1)] rfl rfl (Nat.le_of_ble_eq_true rfl) ?_
  refine g_aload_n0 rfl d_X0_isOpen_0 ?_
  refine g_getI f_X0_24 d_X0_isOpen_1 ha (kd_sg ha (by decide)) rfl ?_
  refine g_iload_n1 rfl d_X0_isOpen_4 ?_
  refine g_ishr d_X0_isOpen_5 ?_
  refine g_iconst 1 d_X0_isOpen_6 (by decide) ?_
  refine g_iand d_X0_isOpen_7 ?_
  refine g_iconst 1 d_X0_isOpen_8 (by decide) ?_
  refine g_cut (pc' := 17) (vs' := [some (.ref (ka k a)), some (.int x1)]) (st' := [.int (b2i (u0_X0_isOpen I a x1))]) (M' := (81, ex, I, J, Pw w)) (fun hj => ?_) ?_
  · skip
    refine g_icmp_ne 16 d_X0_isOpen_9 (by decide) (fun h1 => ?_) (fun h1 => ?_)
    · skip
      refine g_iconst 0 d_X0_isOpen_16 (by decide) ?_
      (try simp only [if_neg h1, opv_eq, if_true, if_false, Bool.false_eq_true, reduceCtorEq, b2i_t, b2i_f, u0_X0_isOpen] at hj); exact hj
    · skip
      refine g_iconst 1 d_X0_isOpen_12 (by decide) ?_
      refine g_goto 17 d_X0_isOpen_13 (by decide) ?_
      (try simp only [if_pos h1, opv_eq, if_true, if_false, Bool.false_eq_true, reduceCtorEq, b2i_t, b2i_f, u0_X0_isOpen] at hj); exact hj
  · skip
    exact g_zret rfl (nar_b _) d_X0_isOpen_17 ⟨by simp only [f_X0_isOpen, opv_eq, if_true, if_false, Bool.false_eq_true, reduceCtorEq, b2i_t, b2i_f], rfl⟩ (Nat.le_refl _) (Nat.le_refl _)
noncomputable def u0_X10_within (x1 : Int32) (x2 : Int32) (x3 : Int32) : Bool := opv (if x1 < x2 then false else (if x3 < x1 then false else true))
noncomputable def f_X10_within (I : Nat → Nat → Int32) (x1 : Int32) (x2 : Int32) (x3 : Int32) : Bool := opv (u0_X10_within x1 x2 x3)
set_option maxHeartbeats 800000 in
set_option maxRecDepth 4000 in
theorem c_X10_within {k : KT} {ex : Bool} {J : Nat → Nat → Int64} {w : Bool} (I : Nat → Nat → Int32) (x1 : Int32) (x2 : Int32) (x3 : Int32)  : Cx k mX10_within 1 [.int x1, .int x2, .int x3] (81, ex, I, J, Pw w) (some (.int (b2i (f_X10_within I x1 x2 x3)))) (81, ex, I, J, Pw w) := by
  refine Ct.of rfl [some (.int x1), some (.int x2), some (.int x3)] rfl rfl (Nat.le_of_ble_eq_true rfl) ?_
  refine g_iload_n0 rfl d_X10_within_0 ?_
  refine g_iload_n1 rfl d_X10_within_1 ?_
  refine g_cut (pc' := 15) (vs' := [some (.int x1), some (.int x2), some (.int x3)]) (st' := [.int (b2i (u0_X10_within x1 x2 x3))]) (M' := (81, ex, I, J, Pw w)) (fun hj => ?_) ?_
  · skip
    refine g_icmp_lt 14 d_X10_within_2 (by decide) (fun h1 => ?_) (fun h1 => ?_)
    · skip
      refine g_iconst 0 d_X10_within_14 (by decide) ?_
      (try simp only [if_pos h1, opv_eq, if_true, if_false, Bool.false_eq_true, reduceCtorEq, b2i_t, b2i_f, u0_X10_within] at hj); exact hj
    · skip
      refine g_iload_n0 rfl d_X10_within_5 ?_
      refine g_iload_n2 rfl d_X10_within_6 ?_
      refine g_icmp_gt 14 d_X10_within_7 (by decide) (fun h2 => ?_) (fun h2 => ?_)
      · skip
        refine g_iconst 0 d_X10_within_14 (by decide) ?_
        (try simp only [if_neg h1, if_pos h2, opv_eq, if_true, if_false, Bool.false_eq_true, reduceCtorEq, b2i_t, b2i_f, u0_X10_within] at hj); exact hj
      · skip
        refine g_iconst 1 d_X10_within_10 (by decide) ?_
        refine g_goto 15 d_X10_within_11 (by decide) ?_
        (try simp only [if_neg h1, if_neg h2, opv_eq, if_true, if_false, Bool.false_eq_true, reduceCtorEq, b2i_t, b2i_f, u0_X10_within] at hj); exact hj
  · skip
    exact g_zret rfl (nar_b _) d_X10_within_15 ⟨by simp only [f_X10_within, opv_eq, if_true, if_false, Bool.false_eq_true, reduceCtorEq, b2i_t, b2i_f], rfl⟩ (Nat.le_refl _) (Nat.le_refl _)
noncomputable def u0_X7_cell (I : Nat → Nat → Int32) (a : Nat) (x1 : Int32) (x2 : Int32) : Bool := opv (if (f_X7_holds I a x1) = true then (if x2 < 0 then false else (if (I a 1) ≤ x2 then false else true)) else false)
noncomputable def u1_X7_cell (I : Nat → Nat → Int32) (a : Nat) (x1 : Int32) (x2 : Int32) : Int32 := opv (if (u0_X7_cell I a x1 x2) = true then (if ((x1 * (I a 1)) + x2) < 0 then 0 else (if (Int32.ofNat (sz (rt a 2))) ≤ ((x1 * (I a 1)) + x2) then 0 else I (rt a 2) ((x1 * (I a 1)) + x2).toNatClampNeg)) else 0)
noncomputable def f_X7_cell (I : Nat → Nat → Int32) (a : Nat) (x1 : Int32) (x2 : Int32) : Int32 := opv (u1_X7_cell I a x1 x2)
noncomputable def ok_X7_cell (I : Nat → Nat → Int32) (a : Nat) (x1 : Int32) (x2 : Int32) : Prop := opv (if (u0_X7_cell I a x1 x2) = true then (if ((x1 * (I a 1)) + x2) < 0 then True else (if (Int32.ofNat (sz (rt a 2))) ≤ ((x1 * (I a 1)) + x2) then True else vp_in ((x1 * (I a 1)) + x2) (sz (rt a 2)))) else True)
set_option maxHeartbeats 800000 in
set_option maxRecDepth 4000 in
theorem c_X7_cell {k : KT} {ex : Bool} {J : Nat → Nat → Int64} {w : Bool} (I : Nat → Nat → Int32) (a : Nat) (ha : kd a = 6) (x1 : Int32) (x2 : Int32)  (hok : ok_X7_cell I a x1 x2) : Cx k mX7_cell 2 [.ref (ka k a), .int x1, .int x2] (81, ex, I, J, Pw w) (some (.int (f_X7_cell I a x1 x2))) (81, ex, I, J, Pw w) := by
  refine Ct.of rfl [some (.ref (ka k a)), some (.int x1), some (.int x2), none, none] rfl rfl (Nat.le_of_ble_eq_true rfl) ?_
  rw [ok_X7_cell, opv_eq] at hok
  refine g_iload_n1 rfl d_X7_cell_0 ?_
  refine g_aload_n0 rfl d_X7_cell_1 ?_
  refine g_getI f_X7_13 d_X7_cell_2 ha (kd_sg ha (by decide)) rfl ?_
  refine g_imul d_X7_cell_5 ?_
  refine g_iload_n2 rfl d_X7_cell_6 ?_
  refine g_iadd d_X7_cell_7 ?_
  refine g_isn3 rfl d_X7_cell_8 ?_
  refine g_aload_n0 rfl d_X7_cell_9 ?_
  refine g_iload_n1 rfl d_X7_cell_10 ?_
  refine g_callV1 (c_X7_holds I a ha x1) w_X7_holds l_X7_23 d_X7_cell_11 ha (kd_sg ha (by decide)) rfl rfl (Nat.le_of_ble_eq_true rfl) ⟨Nat.le_of_ble_eq_true rfl, Nat.le_of_ble_eq_true rfl⟩ ⟨Nat.zero_le _, Nat.zero_le _⟩ ⟨rfl, rfl⟩ ?_
  refine g_cut (pc' := 34) (vs' := [some (.ref (ka k a)), some (.int x1), some (.int x2), some (.int ((x1 * (I a 1)) + x2)), none]) (st' := [.int (b2i (u0_X7_cell I a x1 x2))]) (M' := (81, ex, I, J, Pw w)) (fun hj => ?_) ?_
  · skip
    refine g_ifz 33 d_X7_cell_14 (by decide) (fun h1 => ?_) (fun h1 => ?_)
    · skip
      refine g_iconst 0 d_X7_cell_33 (by decide) ?_
      (try simp only [if_neg (nb h1), opv_eq, if_true, if_false, Bool.false_eq_true, reduceCtorEq, b2i_t, b2i_f, u0_X7_cell] at hj); exact hj
    · skip
      refine g_iload_n2 rfl d_X7_cell_17 ?_
      refine g_if_lt 33 d_X7_cell_18 (by decide) (fun h2 => ?_) (fun h2 => ?_)
      · skip
        refine g_iconst 0 d_X7_cell_33 (by decide) ?_
        (try simp only [if_pos h1, if_pos h2, opv_eq, if_true, if_false, Bool.false_eq_true, reduceCtorEq, b2i_t, b2i_f, u0_X7_cell] at hj); exact hj
      · skip
        refine g_iload_n2 rfl d_X7_cell_21 ?_
        refine g_aload_n0 rfl d_X7_cell_22 ?_
        refine g_getI f_X7_13 d_X7_cell_23 ha (kd_sg ha (by decide)) rfl ?_
        refine g_icmp_ge 33 d_X7_cell_26 (by decide) (fun h3 => ?_) (fun h3 => ?_)
        · skip
          refine g_iconst 0 d_X7_cell_33 (by decide) ?_
          (try simp only [if_pos h1, if_neg h2, if_pos h3, opv_eq, if_true, if_false, Bool.false_eq_true, reduceCtorEq, b2i_t, b2i_f, u0_X7_cell] at hj); exact hj
        · skip
          refine g_iconst 1 d_X7_cell_29 (by decide) ?_
          refine g_goto 34 d_X7_cell_30 (by decide) ?_
          (try simp only [if_pos h1, if_neg h2, if_neg h3, opv_eq, if_true, if_false, Bool.false_eq_true, reduceCtorEq, b2i_t, b2i_f, u0_X7_cell] at hj); exact hj
  · skip
    refine g_is4 rfl d_X7_cell_34 ?_
    refine g_iload (i := 4) rfl d_X7_cell_36 ?_
    refine g_cut (pc' := 64) (vs' := [some (.ref (ka k a)), some (.int x1), some (.int x2), some (.int ((x1 * (I a 1)) + x2)), some (.int (b2i (u0_X7_cell I a x1 x2)))]) (st' := [.int (u1_X7_cell I a x1 x2)]) (M' := (81, ex, I, J, Pw w)) (fun hj => ?_) ?_
    · skip
      refine g_ifz 63 d_X7_cell_38 (by decide) (fun h4 => ?_) (fun h4 => ?_)
      · skip
        refine g_iconst 0 d_X7_cell_63 (by decide) ?_
        (try simp only [if_neg (nb h4), opv_eq, if_true, if_false, Bool.false_eq_true, reduceCtorEq, b2i_t, b2i_f, u1_X7_cell] at hj); exact hj
      · skip
        rw [if_pos h4] at hok
        refine g_iload_n3 rfl d_X7_cell_41 ?_
        refine g_if_lt 63 d_X7_cell_42 (by decide) (fun h5 => ?_) (fun h5 => ?_)
        · skip
          refine g_iconst 0 d_X7_cell_63 (by decide) ?_
          (try simp only [if_pos h4, if_pos h5, opv_eq, if_true, if_false, Bool.false_eq_true, reduceCtorEq, b2i_t, b2i_f, u1_X7_cell] at hj); exact hj
        · skip
          rw [if_neg h5] at hok
          refine g_iload_n3 rfl d_X7_cell_45 ?_
          refine g_aload_n0 rfl d_X7_cell_46 ?_
          refine g_getP (b := rt a 2) f_X7_16 d_X7_cell_47 ha (kd_sg ha (by decide)) rfl (pw_rt ha (by decide) (by decide)) ?_
          refine g_alen12 d_X7_cell_50 (kt6 ha) (kd_sg (kt6 ha) (by decide)) ?_
          refine g_icmp_ge 63 d_X7_cell_51 (by decide) (fun h6 => ?_) (fun h6 => ?_)
          · skip
            refine g_iconst 0 d_X7_cell_63 (by decide) ?_
            (try simp only [if_pos h4, if_neg h5, if_pos h6, opv_eq, if_true, if_false, Bool.false_eq_true, reduceCtorEq, b2i_t, b2i_f, u1_X7_cell] at hj); exact hj
          · skip
            rw [if_neg h6] at hok
            refine g_aload_n0 rfl d_X7_cell_54 ?_
            refine g_getP (b := rt a 2) f_X7_16 d_X7_cell_55 ha (kd_sg ha (by decide)) rfl (pw_rt ha (by decide) (by decide)) ?_
            refine g_iload_n3 rfl d_X7_cell_58 ?_
            have ho1 := hok
            refine g_iald d_X7_cell_59 (kt6 ha) (kd_sg (kt6 ha) (by decide)) ho1 ?_
            refine g_goto 64 d_X7_cell_60 (by decide) ?_
            (try simp only [if_pos h4, if_neg h5, if_neg h6, opv_eq, if_true, if_false, Bool.false_eq_true, reduceCtorEq, b2i_t, b2i_f, u1_X7_cell] at hj); exact hj
    · skip
      exact g_iret rfl d_X7_cell_64 ⟨by simp only [f_X7_cell, opv_eq, if_true, if_false, Bool.false_eq_true, reduceCtorEq, b2i_t, b2i_f], rfl⟩ (Nat.le_refl _) (Nat.le_refl _)
theorem okt_X7_cell (I : Nat → Nat → Int32) (a : Nat) (ha : kd a = 6) (x1 : Int32) (x2 : Int32) : ok_X7_cell I a x1 x2 := by
  rw [ok_X7_cell, opv_eq]
  split
  · split
    · trivial
    · split
      · trivial
      · exact vp_mk (by assumption) (Int32.not_le.mp (by assumption)) (sz_lt (kt6 ha) (by decide))
  · trivial
noncomputable def u0_X8_pullOfVents (I : Nat → Nat → Int32) (a : Nat) (l3 : Int32) : Int32 := opv (if (f_X7_cell I (rt a 7) l3 0) = 1 then f_X7_cell I (rt a 7) l3 1 else -(f_X7_cell I (rt a 7) l3 1))
noncomputable def u1_X8_pullOfVents (I : Nat → Nat → Int32) (a : Nat) (x1 : Int32) (l2 : Int32) (l3 : Int32) : Int32 := opv (if ((x1 >>> (l3 &&& 31)) &&& 1) = 1 then l2 + (u0_X8_pullOfVents I a l3) else l2)
noncomputable def lp_X8_pullOfVents_4 (I : Nat → Nat → Int32) (a : Nat) (x1 : Int32) : Nat → Int32 → Int32 → Int32 × Int32
  | 0, l2, l3 => (l2, l3)
  | n + 1, l2, l3 => (if (I (rt a 7) 3) ≤ l3 then (l2, l3) else (lp_X8_pullOfVents_4 I a x1 n (u1_X8_pullOfVents I a x1 l2 l3) (l3 + 1)))
set_option maxHeartbeats 800000 in
set_option maxRecDepth 4000 in
theorem k_lp_X8_pullOfVents_4 {k : KT} {ex : Bool} {J : Nat → Nat → Int64} {w : Bool} (I : Nat → Nat → Int32) (a : Nat) (ha : kd a = 7) (x1 : Int32) {F : FinT} : ∀ (n : Nat) (l2 : Int32) (l3 : Int32), mu_up (I (rt a 7) 3) l3 < n → G k mX8_pullOfVents (roomOf 3 0 0) F 0 0 65 [some (.ref (ka k a)), some (.int x1), some (.int ((lp_X8_pullOfVents_4 I a x1 n l2 l3).1)), some (.int ((lp_X8_pullOfVents_4 I a x1 n l2 l3).2)), none] [] (81, ex, I, J, Pw w) → G k mX8_pullOfVents (roomOf 3 0 0) F 0 0 4 [some (.ref (ka k a)), some (.int x1), some (.int l2), some (.int l3), none] [] (81, ex, I, J, Pw w) := by
  intro n
  induction n with
  | zero => intro l2 l3 hmu hj; exact absurd hmu (Nat.not_lt_zero _)
  | succ n ih =>
    intro l2 l3 hmu hj
    refine g_iload_n3 rfl d_X8_pullOfVents_4 ?_
    refine g_aload_n0 rfl d_X8_pullOfVents_5 ?_
    refine g_getP (b := rt a 7) f_X8_14 d_X8_pullOfVents_6 ha (kd_sg ha (by decide)) rfl (pw_rt ha (by decide) (by decide)) ?_
    refine g_getI f_X8_51 d_X8_pullOfVents_9 (kt7 ha).1 (kd_sg ((kt7 ha).1) (by decide)) rfl ?_
    refine g_icmp_ge 65 d_X8_pullOfVents_12 (by decide) (fun h1 => ?_) (fun h1 => ?_)
    · skip
      (try simp only [lp_X8_pullOfVents_4, if_pos h1, opv_eq, if_true, if_false, Bool.false_eq_true, reduceCtorEq, b2i_t, b2i_f] at hj); exact hj
    · skip
      refine g_iload_n1 rfl d_X8_pullOfVents_15 ?_
      refine g_iload_n3 rfl d_X8_pullOfVents_16 ?_
      refine g_ishr d_X8_pullOfVents_17 ?_
      refine g_iconst 1 d_X8_pullOfVents_18 (by decide) ?_
      refine g_iand d_X8_pullOfVents_19 ?_
      refine g_iconst 1 d_X8_pullOfVents_20 (by decide) ?_
      refine g_cut (pc' := 59) (vs' := [some (.ref (ka k a)), some (.int x1), some (.int (u1_X8_pullOfVents I a x1 l2 l3)), some (.int l3), none]) (st' := []) (M' := (81, ex, I, J, Pw w)) (fun hj => ?_) ?_
      · skip
        refine g_icmp_ne 59 d_X8_pullOfVents_21 (by decide) (fun h2 => ?_) (fun h2 => ?_)
        · skip
          (try simp only [if_neg h2, opv_eq, if_true, if_false, Bool.false_eq_true, reduceCtorEq, b2i_t, b2i_f, u1_X8_pullOfVents] at hj); exact hj
        · skip
          refine g_aload_n0 rfl d_X8_pullOfVents_24 ?_
          refine g_getP (b := rt a 7) f_X8_14 d_X8_pullOfVents_25 ha (kd_sg ha (by decide)) rfl (pw_rt ha (by decide) (by decide)) ?_
          refine g_iload_n3 rfl d_X8_pullOfVents_28 ?_
          refine g_iconst 1 d_X8_pullOfVents_29 (by decide) ?_
          refine g_callV1 (c_X7_cell I (rt a 7) (kt7 ha).1 l3 1 (okt_X7_cell I (rt a 7) (kt7 ha).1 l3 1)) w_X7_cell l_X8_54 d_X8_pullOfVents_30 (kt7 ha).1 (kd_sg ((kt7 ha).1) (by decide)) rfl rfl (Nat.le_of_ble_eq_true rfl) ⟨Nat.le_of_ble_eq_true rfl, Nat.le_of_ble_eq_true rfl⟩ ⟨Nat.zero_le _, Nat.zero_le _⟩ ⟨rfl, rfl⟩ ?_
          refine g_is4 rfl d_X8_pullOfVents_33 ?_
          refine g_iload_n2 rfl d_X8_pullOfVents_35 ?_
          refine g_aload_n0 rfl d_X8_pullOfVents_36 ?_
          refine g_getP (b := rt a 7) f_X8_14 d_X8_pullOfVents_37 ha (kd_sg ha (by decide)) rfl (pw_rt ha (by decide) (by decide)) ?_
          refine g_iload_n3 rfl d_X8_pullOfVents_40 ?_
          refine g_iconst 0 d_X8_pullOfVents_41 (by decide) ?_
          refine g_callV1 (c_X7_cell I (rt a 7) (kt7 ha).1 l3 0 (okt_X7_cell I (rt a 7) (kt7 ha).1 l3 0)) w_X7_cell l_X8_54 d_X8_pullOfVents_42 (kt7 ha).1 (kd_sg ((kt7 ha).1) (by decide)) rfl rfl (Nat.le_of_ble_eq_true rfl) ⟨Nat.le_of_ble_eq_true rfl, Nat.le_of_ble_eq_true rfl⟩ ⟨Nat.zero_le _, Nat.zero_le _⟩ ⟨rfl, rfl⟩ ?_
          refine g_iconst 1 d_X8_pullOfVents_45 (by decide) ?_
          refine g_cut (pc' := 57) (vs' := [some (.ref (ka k a)), some (.int x1), some (.int l2), some (.int l3), some (.int (f_X7_cell I (rt a 7) l3 1))]) (st' := [.int (u0_X8_pullOfVents I a l3), .int l2]) (M' := (81, ex, I, J, Pw w)) (fun hj => ?_) ?_
          · skip
            refine g_icmp_ne 54 d_X8_pullOfVents_46 (by decide) (fun h3 => ?_) (fun h3 => ?_)
            · skip
              refine g_iload (i := 4) rfl d_X8_pullOfVents_54 ?_
              refine g_ineg d_X8_pullOfVents_56 ?_
              (try simp only [if_neg h3, opv_eq, if_true, if_false, Bool.false_eq_true, reduceCtorEq, b2i_t, b2i_f, u0_X8_pullOfVents] at hj); exact hj
            · skip
              refine g_iload (i := 4) rfl d_X8_pullOfVents_49 ?_
              refine g_goto 57 d_X8_pullOfVents_51 (by decide) ?_
              (try simp only [if_pos h3, opv_eq, if_true, if_false, Bool.false_eq_true, reduceCtorEq, b2i_t, b2i_f, u0_X8_pullOfVents] at hj); exact hj
          · skip
            refine g_iadd d_X8_pullOfVents_57 ?_
            refine g_isn2 rfl d_X8_pullOfVents_58 ?_
            refine G.weak (wks (wks (wks (wks (wkn wk0))))) ?_; (try simp only [if_pos h2, opv_eq, if_true, if_false, Bool.false_eq_true, reduceCtorEq, b2i_t, b2i_f, u1_X8_pullOfVents] at hj); exact hj
      · skip
        refine g_ic3 (l3 + 1) rfl rfl d_X8_pullOfVents_59 ?_
        refine g_goto 4 d_X8_pullOfVents_62 (by decide) ?_
        exact ih (u1_X8_pullOfVents I a x1 l2 l3) (l3 + 1) (Nat.lt_of_lt_of_le (mu_up_lt h1) (Nat.le_of_lt_succ hmu)) (by (try simp only [lp_X8_pullOfVents_4, if_neg h1, opv_eq, if_true, if_false, Bool.false_eq_true, reduceCtorEq, b2i_t, b2i_f] at hj); exact hj)
noncomputable def f_X8_pullOfVents (I : Nat → Nat → Int32) (a : Nat) (x1 : Int32) : Int32 := opv ((lp_X8_pullOfVents_4 I a x1 (mu_up (I (rt a 7) 3) 0 + 1) 0 0).1)
set_option maxHeartbeats 800000 in
set_option maxRecDepth 4000 in
theorem c_X8_pullOfVents {k : KT} {ex : Bool} {J : Nat → Nat → Int64} {w : Bool} (I : Nat → Nat → Int32) (a : Nat) (ha : kd a = 7) (x1 : Int32)  : Cx k mX8_pullOfVents 3 [.ref (ka k a), .int x1] (81, ex, I, J, Pw w) (some (.int (f_X8_pullOfVents I a x1))) (81, ex, I, J, Pw w) := by
  refine Ct.of rfl [some (.ref (ka k a)), some (.int x1), none, none, none] rfl rfl (Nat.le_of_ble_eq_true rfl) ?_
  refine g_iconst 0 d_X8_pullOfVents_0 (by decide) ?_
  refine g_isn2 rfl d_X8_pullOfVents_1 ?_
  refine g_iconst 0 d_X8_pullOfVents_2 (by decide) ?_
  refine g_isn3 rfl d_X8_pullOfVents_3 ?_
  refine k_lp_X8_pullOfVents_4 I a ha x1 _ 0 0 (Nat.lt_succ_self _) ?_
  refine g_iload_n2 rfl d_X8_pullOfVents_65 ?_
  exact g_iret rfl d_X8_pullOfVents_66 ⟨by simp only [f_X8_pullOfVents, opv_eq, if_true, if_false, Bool.false_eq_true, reduceCtorEq, b2i_t, b2i_f], rfl⟩ (Nat.le_refl _) (Nat.le_refl _)
noncomputable def m_X0_openVent (I : Nat → Nat → Int32) (a : Nat) (x1 : Int32) : Nat → Nat → Int32 := opv (st2 I a 4 ((I a 4) ||| (1 <<< (x1 &&& 31))))
set_option maxHeartbeats 800000 in
set_option maxRecDepth 4000 in
theorem c_X0_openVent {k : KT} {ex : Bool} {J : Nat → Nat → Int64} {w : Bool} (I : Nat → Nat → Int32) (a : Nat) (ha : kd a = 0) (x1 : Int32)  : Cx k mX0_openVent 1 [.ref (ka k a), .int x1] (81, ex, I, J, Pw w) none (81, ex, m_X0_openVent I a x1, J, Pw w) := by
  refine Ct.of rfl [some (.ref (ka k a)), some (.int x1)] rfl rfl (Nat.le_of_ble_eq_true rfl) ?_
  refine g_aload_n0 rfl d_X0_openVent_0 ?_
  refine g_dup rfl d_X0_openVent_1 ?_
  refine g_getI f_X0_24 d_X0_openVent_2 ha (kd_sg ha (by decide)) rfl ?_
  refine g_iconst 1 d_X0_openVent_5 (by decide) ?_
  refine g_iload_n1 rfl d_X0_openVent_6 ?_
  refine g_ishl d_X0_openVent_7 ?_
  refine g_ior d_X0_openVent_8 ?_
  refine g_putI f_X0_24 d_X0_openVent_9 ha (kd_sg ha (by decide)) rfl rfl rfl ?_
  exact g_vret rfl d_X0_openVent_12 ⟨rfl, by simp only [m_X0_openVent, opv_eq, if_true, if_false, Bool.false_eq_true, reduceCtorEq, b2i_t, b2i_f]⟩ (Nat.le_refl _) (Nat.le_refl _)
noncomputable def u0_X0_noteWeather (I : Nat → Nat → Int32) (a : Nat) : Nat → Nat → Int32 := opv (if 20 < (I a 6) then I else (st2 (st2 I a 7 ((I a 7) ||| (if (I a 5) = 1 then 1 <<< ((I a 6) &&& 31) else 0))) a 8 ((I a 8) ||| (if (I a 5) = 2 then 1 <<< ((I a 6) &&& 31) else 0))))
noncomputable def m_X0_noteWeather (I : Nat → Nat → Int32) (a : Nat) : Nat → Nat → Int32 := opv (u0_X0_noteWeather I a)
set_option maxHeartbeats 800000 in
set_option maxRecDepth 4000 in
theorem c_X0_noteWeather {k : KT} {ex : Bool} {J : Nat → Nat → Int64} {w : Bool} (I : Nat → Nat → Int32) (a : Nat) (ha : kd a = 0)  : Cx k mX0_noteWeather 1 [.ref (ka k a)] (81, ex, I, J, Pw w) none (81, ex, m_X0_noteWeather I a, J, Pw w) := by
  refine Ct.of rfl [some (.ref (ka k a))] rfl rfl (Nat.le_of_ble_eq_true rfl) ?_
  refine g_aload_n0 rfl d_X0_noteWeather_0 ?_
  refine g_getI f_X0_30 d_X0_noteWeather_1 ha (kd_sg ha (by decide)) rfl ?_
  refine g_bipush 20 d_X0_noteWeather_4 (by decide) ?_
  refine g_cut (pc' := 63) (vs' := [some (.ref (ka k a))]) (st' := []) (M' := (81, ex, (u0_X0_noteWeather I a), J, Pw w)) (fun hj => ?_) ?_
  · skip
    refine g_icmp_gt 63 d_X0_noteWeather_6 (by decide) (fun h1 => ?_) (fun h1 => ?_)
    · skip
      (try simp only [if_pos h1, opv_eq, if_true, if_false, Bool.false_eq_true, reduceCtorEq, b2i_t, b2i_f, u0_X0_noteWeather] at hj); exact hj
    · skip
      refine g_aload_n0 rfl d_X0_noteWeather_9 ?_
      refine g_dup rfl d_X0_noteWeather_10 ?_
      refine g_getI f_X0_33 d_X0_noteWeather_11 ha (kd_sg ha (by decide)) rfl ?_
      refine g_aload_n0 rfl d_X0_noteWeather_14 ?_
      refine g_getI f_X0_27 d_X0_noteWeather_15 ha (kd_sg ha (by decide)) rfl ?_
      refine g_iconst 1 d_X0_noteWeather_18 (by decide) ?_
      refine g_cut (pc' := 32) (vs' := [some (.ref (ka k a))]) (st' := [.int (if (I a 5) = 1 then 1 <<< ((I a 6) &&& 31) else 0), .int (I a 7), .ref (ka k a)]) (M' := (81, ex, I, J, Pw w)) (fun hj => ?_) ?_
      · skip
        refine g_icmp_ne 31 d_X0_noteWeather_19 (by decide) (fun h2 => ?_) (fun h2 => ?_)
        · skip
          refine g_iconst 0 d_X0_noteWeather_31 (by decide) ?_
          (try simp only [if_neg h2, opv_eq, if_true, if_false, Bool.false_eq_true, reduceCtorEq, b2i_t, b2i_f] at hj); exact hj
        · skip
          refine g_iconst 1 d_X0_noteWeather_22 (by decide) ?_
          refine g_aload_n0 rfl d_X0_noteWeather_23 ?_
          refine g_getI f_X0_30 d_X0_noteWeather_24 ha (kd_sg ha (by decide)) rfl ?_
          refine g_ishl d_X0_noteWeather_27 ?_
          refine g_goto 32 d_X0_noteWeather_28 (by decide) ?_
          (try simp only [if_pos h2, opv_eq, if_true, if_false, Bool.false_eq_true, reduceCtorEq, b2i_t, b2i_f] at hj); exact hj
      · skip
        refine g_ior d_X0_noteWeather_32 ?_
        refine g_putI f_X0_33 d_X0_noteWeather_33 ha (kd_sg ha (by decide)) rfl rfl rfl ?_
        refine g_aload_n0 rfl d_X0_noteWeather_36 ?_
        refine g_dup rfl d_X0_noteWeather_37 ?_
        refine g_getIv (I a 8) (st2_o _ _ _ (by decide)) f_X0_36 d_X0_noteWeather_38 ha (kd_sg ha (by decide)) rfl ?_
        refine g_aload_n0 rfl d_X0_noteWeather_41 ?_
        refine g_getIv (I a 5) (st2_o _ _ _ (by decide)) f_X0_27 d_X0_noteWeather_42 ha (kd_sg ha (by decide)) rfl ?_
        refine g_iconst 2 d_X0_noteWeather_45 (by decide) ?_
        refine g_cut (pc' := 59) (vs' := [some (.ref (ka k a))]) (st' := [.int (if (I a 5) = 2 then 1 <<< ((I a 6) &&& 31) else 0), .int (I a 8), .ref (ka k a)]) (M' := (81, ex, (st2 I a 7 ((I a 7) ||| (if (I a 5) = 1 then 1 <<< ((I a 6) &&& 31) else 0))), J, Pw w)) (fun hj => ?_) ?_
        · skip
          refine g_icmp_ne 58 d_X0_noteWeather_46 (by decide) (fun h3 => ?_) (fun h3 => ?_)
          · skip
            refine g_iconst 0 d_X0_noteWeather_58 (by decide) ?_
            (try simp only [if_neg h3, opv_eq, if_true, if_false, Bool.false_eq_true, reduceCtorEq, b2i_t, b2i_f] at hj); exact hj
          · skip
            refine g_iconst 1 d_X0_noteWeather_49 (by decide) ?_
            refine g_aload_n0 rfl d_X0_noteWeather_50 ?_
            refine g_getIv (I a 6) (st2_o _ _ _ (by decide)) f_X0_30 d_X0_noteWeather_51 ha (kd_sg ha (by decide)) rfl ?_
            refine g_ishl d_X0_noteWeather_54 ?_
            refine g_goto 59 d_X0_noteWeather_55 (by decide) ?_
            (try simp only [if_pos h3, opv_eq, if_true, if_false, Bool.false_eq_true, reduceCtorEq, b2i_t, b2i_f] at hj); exact hj
        · skip
          refine g_ior d_X0_noteWeather_59 ?_
          refine g_putI f_X0_36 d_X0_noteWeather_60 ha (kd_sg ha (by decide)) rfl rfl rfl ?_
          (try simp only [if_neg h1, opv_eq, if_true, if_false, Bool.false_eq_true, reduceCtorEq, b2i_t, b2i_f, u0_X0_noteWeather] at hj); exact hj
  · skip
    exact g_vret rfl d_X0_noteWeather_63 ⟨rfl, by simp only [m_X0_noteWeather, opv_eq, if_true, if_false, Bool.false_eq_true, reduceCtorEq, b2i_t, b2i_f]⟩ (Nat.le_refl _) (Nat.le_refl _)
noncomputable def u0_X0_passDay (I : Nat → Nat → Int32) (a : Nat) : Int32 := opv (if (f_X0_whoIsOut I a) = 1 then 1 else (if (f_X0_whoIsOut I a) = 2 then 2 else 0))
noncomputable def u1_X0_passDay (I : Nat → Nat → Int32) (a : Nat) (x1 : Nat) : Nat → Nat → Int32 := opv (if (u0_X0_passDay I a) = 1 then (st2 (st2 I a 5 (u0_X0_passDay I a)) a 1 (imin 100 ((I a 1) + (I x1 4)))) else (if (u0_X0_passDay I a) = 2 then (st2 (st2 I a 5 (u0_X0_passDay I a)) a 1 (imax 0 ((I a 1) - (I x1 5)))) else (st2 I a 5 (u0_X0_passDay I a))))
noncomputable def m_X0_passDay (I : Nat → Nat → Int32) (a : Nat) (x1 : Nat) : Nat → Nat → Int32 := opv (st2 (st2 (st2 (m_X0_noteWeather (u1_X0_passDay I a x1) a) a 0 (f_X0_turned (m_X0_noteWeather (u1_X0_passDay I a x1) a) a ((f_X0_pullOfDamp (m_X0_noteWeather (u1_X0_passDay I a x1) a) ((m_X0_noteWeather (u1_X0_passDay I a x1) a) a 1)) + (f_X8_pullOfVents (m_X0_noteWeather (u1_X0_passDay I a x1) a) x1 ((m_X0_noteWeather (u1_X0_passDay I a x1) a) a 4))) ((m_X0_noteWeather (u1_X0_passDay I a x1) a) a 1))) a 4 0) a 6 (((m_X0_noteWeather (u1_X0_passDay I a x1) a) a 6) + 1))
set_option maxHeartbeats 800000 in
set_option maxRecDepth 4000 in
theorem c_X0_passDay {k : KT} {ex : Bool} {J : Nat → Nat → Int64} {w : Bool} (I : Nat → Nat → Int32) (a : Nat) (ha : kd a = 0) (x1 : Nat) (hx1 : kd x1 = 7)  : Cx k mX0_passDay 4 [.ref (ka k a), .ref (ka k x1)] (81, ex, I, J, Pw w) none (81, ex, m_X0_passDay I a x1, J, Pw w) := by
  refine Ct.of rfl [some (.ref (ka k a)), some (.ref (ka k x1)), none] rfl rfl (Nat.le_of_ble_eq_true rfl) ?_
  refine g_aload_n0 rfl d_X0_passDay_0 ?_
  refine g_callV1 (c_X0_whoIsOut I a ha) w_X0_whoIsOut l_X0_52 d_X0_passDay_1 ha (kd_sg ha (by decide)) rfl rfl (Nat.le_of_ble_eq_true rfl) ⟨Nat.le_of_ble_eq_true rfl, Nat.le_of_ble_eq_true rfl⟩ ⟨Nat.zero_le _, Nat.zero_le _⟩ ⟨rfl, rfl⟩ ?_
  refine g_isn2 rfl d_X0_passDay_4 ?_
  refine g_aload_n0 rfl d_X0_passDay_5 ?_
  refine g_iload_n2 rfl d_X0_passDay_6 ?_
  refine g_iconst 1 d_X0_passDay_7 (by decide) ?_
  refine g_cut (pc' := 25) (vs' := [some (.ref (ka k a)), some (.ref (ka k x1)), some (.int (f_X0_whoIsOut I a))]) (st' := [.int (u0_X0_passDay I a), .ref (ka k a)]) (M' := (81, ex, I, J, Pw w)) (fun hj => ?_) ?_
  · skip
    refine g_icmp_ne 15 d_X0_passDay_8 (by decide) (fun h1 => ?_) (fun h1 => ?_)
    · skip
      refine g_iload_n2 rfl d_X0_passDay_15 ?_
      refine g_iconst 2 d_X0_passDay_16 (by decide) ?_
      refine g_icmp_ne 24 d_X0_passDay_17 (by decide) (fun h2 => ?_) (fun h2 => ?_)
      · skip
        refine g_iconst 0 d_X0_passDay_24 (by decide) ?_
        (try simp only [if_neg h1, if_neg h2, opv_eq, if_true, if_false, Bool.false_eq_true, reduceCtorEq, b2i_t, b2i_f, u0_X0_passDay] at hj); exact hj
      · skip
        refine g_iconst 2 d_X0_passDay_20 (by decide) ?_
        refine g_goto 25 d_X0_passDay_21 (by decide) ?_
        (try simp only [if_neg h1, if_pos h2, opv_eq, if_true, if_false, Bool.false_eq_true, reduceCtorEq, b2i_t, b2i_f, u0_X0_passDay] at hj); exact hj
    · skip
      refine g_iconst 1 d_X0_passDay_11 (by decide) ?_
      refine g_goto 25 d_X0_passDay_12 (by decide) ?_
      (try simp only [if_pos h1, opv_eq, if_true, if_false, Bool.false_eq_true, reduceCtorEq, b2i_t, b2i_f, u0_X0_passDay] at hj); exact hj
  · skip
    refine g_putI f_X0_27 d_X0_passDay_25 ha (kd_sg ha (by decide)) rfl rfl rfl ?_
    refine g_aload_n0 rfl d_X0_passDay_28 ?_
    refine g_getIv (u0_X0_passDay I a) (st2_s _ _ _ _) f_X0_27 d_X0_passDay_29 ha (kd_sg ha (by decide)) rfl ?_
    refine g_iconst 1 d_X0_passDay_32 (by decide) ?_
    refine g_cut (pc' := 82) (vs' := [some (.ref (ka k a)), some (.ref (ka k x1)), some (.int (f_X0_whoIsOut I a))]) (st' := []) (M' := (81, ex, (u1_X0_passDay I a x1), J, Pw w)) (fun hj => ?_) ?_
    · skip
      refine g_icmp_ne 57 d_X0_passDay_33 (by decide) (fun h3 => ?_) (fun h3 => ?_)
      · skip
        refine g_aload_n0 rfl d_X0_passDay_57 ?_
        refine g_getIv (u0_X0_passDay I a) (st2_s _ _ _ _) f_X0_27 d_X0_passDay_58 ha (kd_sg ha (by decide)) rfl ?_
        refine g_iconst 2 d_X0_passDay_61 (by decide) ?_
        refine g_icmp_ne 82 d_X0_passDay_62 (by decide) (fun h4 => ?_) (fun h4 => ?_)
        · skip
          (try simp only [if_neg h3, if_neg h4, opv_eq, if_true, if_false, Bool.false_eq_true, reduceCtorEq, b2i_t, b2i_f, u1_X0_passDay] at hj); exact hj
        · skip
          refine g_aload_n0 rfl d_X0_passDay_65 ?_
          refine g_iconst 0 d_X0_passDay_66 (by decide) ?_
          refine g_aload_n0 rfl d_X0_passDay_67 ?_
          refine g_getIv (I a 1) (st2_o _ _ _ (by decide)) f_X0_15 d_X0_passDay_68 ha (kd_sg ha (by decide)) rfl ?_
          refine g_aload_n1 rfl d_X0_passDay_71 ?_
          refine g_getIv (I x1 5) (st2_a _ _ (ne_kd hx1 ha (by decide))) f_X0_61 d_X0_passDay_72 hx1 (kd_sg hx1 (by decide)) rfl ?_
          refine g_isub d_X0_passDay_75 ?_
          refine g_mmax lm_X0_39 d_X0_passDay_76 (Nat.le_of_ble_eq_true rfl) ⟨Nat.le_of_ble_eq_true rfl, Nat.le_of_ble_eq_true rfl⟩ ⟨Nat.zero_le _, Nat.zero_le _⟩ ?_
          refine g_putI f_X0_15 d_X0_passDay_79 ha (kd_sg ha (by decide)) rfl rfl rfl ?_
          (try simp only [if_neg h3, if_pos h4, opv_eq, if_true, if_false, Bool.false_eq_true, reduceCtorEq, b2i_t, b2i_f, u1_X0_passDay] at hj); exact hj
      · skip
        refine g_aload_n0 rfl d_X0_passDay_36 ?_
        refine g_bipush 100 d_X0_passDay_37 (by decide) ?_
        refine g_aload_n0 rfl d_X0_passDay_39 ?_
        refine g_getIv (I a 1) (st2_o _ _ _ (by decide)) f_X0_15 d_X0_passDay_40 ha (kd_sg ha (by decide)) rfl ?_
        refine g_aload_n1 rfl d_X0_passDay_43 ?_
        refine g_getIv (I x1 4) (st2_a _ _ (ne_kd hx1 ha (by decide))) f_X0_56 d_X0_passDay_44 hx1 (kd_sg hx1 (by decide)) rfl ?_
        refine g_iadd d_X0_passDay_47 ?_
        refine g_mmin lm_X0_49 d_X0_passDay_48 (Nat.le_of_ble_eq_true rfl) ⟨Nat.le_of_ble_eq_true rfl, Nat.le_of_ble_eq_true rfl⟩ ⟨Nat.zero_le _, Nat.zero_le _⟩ ?_
        refine g_putI f_X0_15 d_X0_passDay_51 ha (kd_sg ha (by decide)) rfl rfl rfl ?_
        refine g_goto 82 d_X0_passDay_54 (by decide) ?_
        (try simp only [if_pos h3, opv_eq, if_true, if_false, Bool.false_eq_true, reduceCtorEq, b2i_t, b2i_f, u1_X0_passDay] at hj); exact hj
    · skip
      refine g_aload_n0 rfl d_X0_passDay_82 ?_
      refine g_callV0 (c_X0_noteWeather (u1_X0_passDay I a x1) a ha) w_X0_noteWeather l_X0_64 d_X0_passDay_83 ha (kd_sg ha (by decide)) rfl rfl (Nat.le_of_ble_eq_true rfl) ⟨Nat.le_of_ble_eq_true rfl, Nat.le_of_ble_eq_true rfl⟩ ⟨Nat.zero_le _, Nat.zero_le _⟩ ⟨rfl, rfl⟩ ?_
      refine g_aload_n0 rfl d_X0_passDay_86 ?_
      refine g_aload_n0 rfl d_X0_passDay_87 ?_
      refine g_aload_n0 rfl d_X0_passDay_88 ?_
      refine g_getI f_X0_15 d_X0_passDay_89 ha (kd_sg ha (by decide)) rfl ?_
      refine g_callS1 (c_X0_pullOfDamp (m_X0_noteWeather (u1_X0_passDay I a x1) a) ((m_X0_noteWeather (u1_X0_passDay I a x1) a) a 1)) w_X0_pullOfDamp l_X0_67 d_X0_passDay_92 rfl rfl (Nat.le_of_ble_eq_true rfl) ⟨Nat.le_of_ble_eq_true rfl, Nat.le_of_ble_eq_true rfl⟩ ⟨Nat.zero_le _, Nat.zero_le _⟩ ⟨rfl, rfl⟩ ?_
      refine g_aload_n1 rfl d_X0_passDay_95 ?_
      refine g_aload_n0 rfl d_X0_passDay_96 ?_
      refine g_getI f_X0_24 d_X0_passDay_97 ha (kd_sg ha (by decide)) rfl ?_
      refine g_callV1 (c_X8_pullOfVents (m_X0_noteWeather (u1_X0_passDay I a x1) a) x1 hx1 ((m_X0_noteWeather (u1_X0_passDay I a x1) a) a 4)) w_X8_pullOfVents l_X0_70 d_X0_passDay_100 hx1 (kd_sg hx1 (by decide)) rfl rfl (Nat.le_of_ble_eq_true rfl) ⟨Nat.le_of_ble_eq_true rfl, Nat.le_of_ble_eq_true rfl⟩ ⟨Nat.zero_le _, Nat.zero_le _⟩ ⟨rfl, rfl⟩ ?_
      refine g_iadd d_X0_passDay_103 ?_
      refine g_aload_n0 rfl d_X0_passDay_104 ?_
      refine g_getI f_X0_15 d_X0_passDay_105 ha (kd_sg ha (by decide)) rfl ?_
      refine g_callV1 (c_X0_turned (m_X0_noteWeather (u1_X0_passDay I a x1) a) a ha ((f_X0_pullOfDamp (m_X0_noteWeather (u1_X0_passDay I a x1) a) ((m_X0_noteWeather (u1_X0_passDay I a x1) a) a 1)) + (f_X8_pullOfVents (m_X0_noteWeather (u1_X0_passDay I a x1) a) x1 ((m_X0_noteWeather (u1_X0_passDay I a x1) a) a 4))) ((m_X0_noteWeather (u1_X0_passDay I a x1) a) a 1)) w_X0_turned l_X0_73 d_X0_passDay_108 ha (kd_sg ha (by decide)) rfl rfl (Nat.le_of_ble_eq_true rfl) ⟨Nat.le_of_ble_eq_true rfl, Nat.le_of_ble_eq_true rfl⟩ ⟨Nat.zero_le _, Nat.zero_le _⟩ ⟨rfl, rfl⟩ ?_
      refine g_putI f_X0_9 d_X0_passDay_111 ha (kd_sg ha (by decide)) rfl rfl rfl ?_
      refine g_aload_n0 rfl d_X0_passDay_114 ?_
      refine g_iconst 0 d_X0_passDay_115 (by decide) ?_
      refine g_putI f_X0_24 d_X0_passDay_116 ha (kd_sg ha (by decide)) rfl rfl rfl ?_
      refine g_aload_n0 rfl d_X0_passDay_119 ?_
      refine g_dup rfl d_X0_passDay_120 ?_
      refine g_getIv ((m_X0_noteWeather (u1_X0_passDay I a x1) a) a 6) ((st2_o _ _ _ (by decide)).trans (st2_o _ _ _ (by decide))) f_X0_30 d_X0_passDay_121 ha (kd_sg ha (by decide)) rfl ?_
      refine g_iconst 1 d_X0_passDay_124 (by decide) ?_
      refine g_iadd d_X0_passDay_125 ?_
      refine g_putI f_X0_30 d_X0_passDay_126 ha (kd_sg ha (by decide)) rfl rfl rfl ?_
      exact g_vret rfl d_X0_passDay_129 ⟨rfl, by simp only [m_X0_passDay, opv_eq, if_true, if_false, Bool.false_eq_true, reduceCtorEq, b2i_t, b2i_f]⟩ (Nat.le_refl _) (Nat.le_refl _)
noncomputable def m_X0_begin (I : Nat → Nat → Int32) (a : Nat) (x1 : Int32) (x2 : Int32) (x3 : Int32) : Nat → Nat → Int32 := opv (st2 (st2 (st2 (st2 (st2 (st2 (st2 (st2 (st2 I a 0 0) a 1 x1) a 2 x2) a 3 x3) a 4 0) a 5 0) a 6 0) a 7 0) a 8 0)
set_option maxHeartbeats 800000 in
set_option maxRecDepth 4000 in
theorem c_X0_begin {k : KT} {ex : Bool} {J : Nat → Nat → Int64} {w : Bool} (I : Nat → Nat → Int32) (a : Nat) (ha : kd a = 0) (x1 : Int32) (x2 : Int32) (x3 : Int32)  : Cx k mX0_begin 1 [.ref (ka k a), .int x1, .int x2, .int x3] (81, ex, I, J, Pw w) none (81, ex, m_X0_begin I a x1 x2 x3, J, Pw w) := by
  refine Ct.of rfl [some (.ref (ka k a)), some (.int x1), some (.int x2), some (.int x3)] rfl rfl (Nat.le_of_ble_eq_true rfl) ?_
  refine g_aload_n0 rfl d_X0_begin_0 ?_
  refine g_iconst 0 d_X0_begin_1 (by decide) ?_
  refine g_putI f_X0_9 d_X0_begin_2 ha (kd_sg ha (by decide)) rfl rfl rfl ?_
  refine g_aload_n0 rfl d_X0_begin_5 ?_
  refine g_iload_n1 rfl d_X0_begin_6 ?_
  refine g_putI f_X0_15 d_X0_begin_7 ha (kd_sg ha (by decide)) rfl rfl rfl ?_
  refine g_aload_n0 rfl d_X0_begin_10 ?_
  refine g_iload_n2 rfl d_X0_begin_11 ?_
  refine g_putI f_X0_18 d_X0_begin_12 ha (kd_sg ha (by decide)) rfl rfl rfl ?_
  refine g_aload_n0 rfl d_X0_begin_15 ?_
  refine g_iload_n3 rfl d_X0_begin_16 ?_
  refine g_putI f_X0_21 d_X0_begin_17 ha (kd_sg ha (by decide)) rfl rfl rfl ?_
  refine g_aload_n0 rfl d_X0_begin_20 ?_
  refine g_iconst 0 d_X0_begin_21 (by decide) ?_
  refine g_putI f_X0_24 d_X0_begin_22 ha (kd_sg ha (by decide)) rfl rfl rfl ?_
  refine g_aload_n0 rfl d_X0_begin_25 ?_
  refine g_iconst 0 d_X0_begin_26 (by decide) ?_
  refine g_putI f_X0_27 d_X0_begin_27 ha (kd_sg ha (by decide)) rfl rfl rfl ?_
  refine g_aload_n0 rfl d_X0_begin_30 ?_
  refine g_iconst 0 d_X0_begin_31 (by decide) ?_
  refine g_putI f_X0_30 d_X0_begin_32 ha (kd_sg ha (by decide)) rfl rfl rfl ?_
  refine g_aload_n0 rfl d_X0_begin_35 ?_
  refine g_iconst 0 d_X0_begin_36 (by decide) ?_
  refine g_putI f_X0_33 d_X0_begin_37 ha (kd_sg ha (by decide)) rfl rfl rfl ?_
  refine g_aload_n0 rfl d_X0_begin_40 ?_
  refine g_iconst 0 d_X0_begin_41 (by decide) ?_
  refine g_putI f_X0_36 d_X0_begin_42 ha (kd_sg ha (by decide)) rfl rfl rfl ?_
  exact g_vret rfl d_X0_begin_45 ⟨rfl, by simp only [m_X0_begin, opv_eq, if_true, if_false, Bool.false_eq_true, reduceCtorEq, b2i_t, b2i_f]⟩ (Nat.le_refl _) (Nat.le_refl _)
noncomputable def m_X0_copy (I : Nat → Nat → Int32) (a : Nat) (x1 : Nat) : Nat → Nat → Int32 := opv (st2 (st2 (st2 (st2 (st2 (st2 (st2 (st2 (st2 I a 0 (I x1 0)) a 1 (I x1 1)) a 2 (I x1 2)) a 3 (I x1 3)) a 4 (I x1 4)) a 5 (I x1 5)) a 6 (I x1 6)) a 7 (I x1 7)) a 8 (I x1 8))
set_option maxHeartbeats 800000 in
set_option maxRecDepth 4000 in
theorem c_X0_copy {k : KT} {ex : Bool} {J : Nat → Nat → Int64} {w : Bool} (I : Nat → Nat → Int32) (a : Nat) (ha : kd a = 0) (x1 : Nat) (hx1 : kd x1 = 0)  (hne_x1_a : x1 ≠ a) : Cx k mX0_copy 1 [.ref (ka k a), .ref (ka k x1)] (81, ex, I, J, Pw w) none (81, ex, m_X0_copy I a x1, J, Pw w) := by
  refine Ct.of rfl [some (.ref (ka k a)), some (.ref (ka k x1))] rfl rfl (Nat.le_of_ble_eq_true rfl) ?_
  refine g_aload_n0 rfl d_X0_copy_0 ?_
  refine g_aload_n1 rfl d_X0_copy_1 ?_
  refine g_getI f_X0_9 d_X0_copy_2 hx1 (kd_sg hx1 (by decide)) rfl ?_
  refine g_putI f_X0_9 d_X0_copy_5 ha (kd_sg ha (by decide)) rfl rfl rfl ?_
  refine g_aload_n0 rfl d_X0_copy_8 ?_
  refine g_aload_n1 rfl d_X0_copy_9 ?_
  refine g_getIv (I x1 1) (st2_a _ _ hne_x1_a) f_X0_15 d_X0_copy_10 hx1 (kd_sg hx1 (by decide)) rfl ?_
  refine g_putI f_X0_15 d_X0_copy_13 ha (kd_sg ha (by decide)) rfl rfl rfl ?_
  refine g_aload_n0 rfl d_X0_copy_16 ?_
  refine g_aload_n1 rfl d_X0_copy_17 ?_
  refine g_getIv (I x1 2) ((st2_a _ _ hne_x1_a).trans (st2_a _ _ hne_x1_a)) f_X0_18 d_X0_copy_18 hx1 (kd_sg hx1 (by decide)) rfl ?_
  refine g_putI f_X0_18 d_X0_copy_21 ha (kd_sg ha (by decide)) rfl rfl rfl ?_
  refine g_aload_n0 rfl d_X0_copy_24 ?_
  refine g_aload_n1 rfl d_X0_copy_25 ?_
  refine g_getIv (I x1 3) ((st2_a _ _ hne_x1_a).trans ((st2_a _ _ hne_x1_a).trans (st2_a _ _ hne_x1_a))) f_X0_21 d_X0_copy_26 hx1 (kd_sg hx1 (by decide)) rfl ?_
  refine g_putI f_X0_21 d_X0_copy_29 ha (kd_sg ha (by decide)) rfl rfl rfl ?_
  refine g_aload_n0 rfl d_X0_copy_32 ?_
  refine g_aload_n1 rfl d_X0_copy_33 ?_
  refine g_getIv (I x1 4) ((st2_a _ _ hne_x1_a).trans ((st2_a _ _ hne_x1_a).trans ((st2_a _ _ hne_x1_a).trans (st2_a _ _ hne_x1_a)))) f_X0_24 d_X0_copy_34 hx1 (kd_sg hx1 (by decide)) rfl ?_
  refine g_putI f_X0_24 d_X0_copy_37 ha (kd_sg ha (by decide)) rfl rfl rfl ?_
  refine g_aload_n0 rfl d_X0_copy_40 ?_
  refine g_aload_n1 rfl d_X0_copy_41 ?_
  refine g_getIv (I x1 5) ((st2_a _ _ hne_x1_a).trans ((st2_a _ _ hne_x1_a).trans ((st2_a _ _ hne_x1_a).trans ((st2_a _ _ hne_x1_a).trans (st2_a _ _ hne_x1_a))))) f_X0_27 d_X0_copy_42 hx1 (kd_sg hx1 (by decide)) rfl ?_
  refine g_putI f_X0_27 d_X0_copy_45 ha (kd_sg ha (by decide)) rfl rfl rfl ?_
  refine g_aload_n0 rfl d_X0_copy_48 ?_
  refine g_aload_n1 rfl d_X0_copy_49 ?_
  refine g_getIv (I x1 6) ((st2_a _ _ hne_x1_a).trans ((st2_a _ _ hne_x1_a).trans ((st2_a _ _ hne_x1_a).trans ((st2_a _ _ hne_x1_a).trans ((st2_a _ _ hne_x1_a).trans (st2_a _ _ hne_x1_a)))))) f_X0_30 d_X0_copy_50 hx1 (kd_sg hx1 (by decide)) rfl ?_
  refine g_putI f_X0_30 d_X0_copy_53 ha (kd_sg ha (by decide)) rfl rfl rfl ?_
  refine g_aload_n0 rfl d_X0_copy_56 ?_
  refine g_aload_n1 rfl d_X0_copy_57 ?_
  refine g_getIv (I x1 7) ((st2_a _ _ hne_x1_a).trans ((st2_a _ _ hne_x1_a).trans ((st2_a _ _ hne_x1_a).trans ((st2_a _ _ hne_x1_a).trans ((st2_a _ _ hne_x1_a).trans ((st2_a _ _ hne_x1_a).trans (st2_a _ _ hne_x1_a))))))) f_X0_33 d_X0_copy_58 hx1 (kd_sg hx1 (by decide)) rfl ?_
  refine g_putI f_X0_33 d_X0_copy_61 ha (kd_sg ha (by decide)) rfl rfl rfl ?_
  refine g_aload_n0 rfl d_X0_copy_64 ?_
  refine g_aload_n1 rfl d_X0_copy_65 ?_
  refine g_getIv (I x1 8) ((st2_a _ _ hne_x1_a).trans ((st2_a _ _ hne_x1_a).trans ((st2_a _ _ hne_x1_a).trans ((st2_a _ _ hne_x1_a).trans ((st2_a _ _ hne_x1_a).trans ((st2_a _ _ hne_x1_a).trans ((st2_a _ _ hne_x1_a).trans (st2_a _ _ hne_x1_a)))))))) f_X0_36 d_X0_copy_66 hx1 (kd_sg hx1 (by decide)) rfl ?_
  refine g_putI f_X0_36 d_X0_copy_69 ha (kd_sg ha (by decide)) rfl rfl rfl ?_
  exact g_vret rfl d_X0_copy_72 ⟨rfl, by simp only [m_X0_copy, opv_eq, if_true, if_false, Bool.false_eq_true, reduceCtorEq, b2i_t, b2i_f]⟩ (Nat.le_refl _) (Nat.le_refl _)
noncomputable def u0_X0_had (I : Nat → Nat → Int32) (a : Nat) (x1 : Int32) (x2 : Int32) : Bool := opv (if (((if x2 = 1 then I a 7 else I a 8) >>> (x1 &&& 31)) &&& 1) = 1 then true else false)
noncomputable def f_X0_had (I : Nat → Nat → Int32) (a : Nat) (x1 : Int32) (x2 : Int32) : Bool := opv (if x1 < 0 then false else (if (I a 6) ≤ x1 then false else (if x1 ≤ 20 then (u0_X0_had I a x1 x2) else false)))
set_option maxHeartbeats 800000 in
set_option maxRecDepth 4000 in
theorem c_X0_had {k : KT} {ex : Bool} {J : Nat → Nat → Int64} {w : Bool} (I : Nat → Nat → Int32) (a : Nat) (ha : kd a = 0) (x1 : Int32) (x2 : Int32)  : Cx k mX0_had 1 [.ref (ka k a), .int x1, .int x2] (81, ex, I, J, Pw w) (some (.int (b2i (f_X0_had I a x1 x2)))) (81, ex, I, J, Pw w) := by
  refine Ct.of rfl [some (.ref (ka k a)), some (.int x1), some (.int x2), none] rfl rfl (Nat.le_of_ble_eq_true rfl) ?_
  refine g_iload_n1 rfl d_X0_had_0 ?_
  refine g_if_lt 18 d_X0_had_1 (by decide) (fun h1 => ?_) (fun h1 => ?_)
  · skip
    refine g_iconst 0 d_X0_had_18 (by decide) ?_
    exact g_zret rfl (by decide) d_X0_had_19 ⟨by simp only [f_X0_had, if_pos h1, opv_eq, if_true, if_false, Bool.false_eq_true, reduceCtorEq, b2i_t, b2i_f], rfl⟩ (Nat.le_refl _) (Nat.le_refl _)
  · skip
    refine g_iload_n1 rfl d_X0_had_4 ?_
    refine g_aload_n0 rfl d_X0_had_5 ?_
    refine g_getI f_X0_30 d_X0_had_6 ha (kd_sg ha (by decide)) rfl ?_
    refine g_icmp_ge 18 d_X0_had_9 (by decide) (fun h2 => ?_) (fun h2 => ?_)
    · skip
      refine g_iconst 0 d_X0_had_18 (by decide) ?_
      exact g_zret rfl (by decide) d_X0_had_19 ⟨by simp only [f_X0_had, if_neg h1, if_pos h2, opv_eq, if_true, if_false, Bool.false_eq_true, reduceCtorEq, b2i_t, b2i_f], rfl⟩ (Nat.le_refl _) (Nat.le_refl _)
    · skip
      refine g_iload_n1 rfl d_X0_had_12 ?_
      refine g_bipush 20 d_X0_had_13 (by decide) ?_
      refine g_icmp_le 20 d_X0_had_15 (by decide) (fun h3 => ?_) (fun h3 => ?_)
      · skip
        refine g_iload_n2 rfl d_X0_had_20 ?_
        refine g_iconst 1 d_X0_had_21 (by decide) ?_
        refine g_cut (pc' := 36) (vs' := [some (.ref (ka k a)), some (.int x1), some (.int x2), none]) (st' := [.int (if x2 = 1 then I a 7 else I a 8)]) (M' := (81, ex, I, J, Pw w)) (fun hj => ?_) ?_
        · skip
          refine g_icmp_ne 32 d_X0_had_22 (by decide) (fun h4 => ?_) (fun h4 => ?_)
          · skip
            refine g_aload_n0 rfl d_X0_had_32 ?_
            refine g_getI f_X0_36 d_X0_had_33 ha (kd_sg ha (by decide)) rfl ?_
            (try simp only [if_neg h4, opv_eq, if_true, if_false, Bool.false_eq_true, reduceCtorEq, b2i_t, b2i_f] at hj); exact hj
          · skip
            refine g_aload_n0 rfl d_X0_had_25 ?_
            refine g_getI f_X0_33 d_X0_had_26 ha (kd_sg ha (by decide)) rfl ?_
            refine g_goto 36 d_X0_had_29 (by decide) ?_
            (try simp only [if_pos h4, opv_eq, if_true, if_false, Bool.false_eq_true, reduceCtorEq, b2i_t, b2i_f] at hj); exact hj
        · skip
          refine g_isn3 rfl d_X0_had_36 ?_
          refine g_iload_n3 rfl d_X0_had_37 ?_
          refine g_iload_n1 rfl d_X0_had_38 ?_
          refine g_ishr d_X0_had_39 ?_
          refine g_iconst 1 d_X0_had_40 (by decide) ?_
          refine g_iand d_X0_had_41 ?_
          refine g_iconst 1 d_X0_had_42 (by decide) ?_
          refine g_cut (pc' := 51) (vs' := [some (.ref (ka k a)), some (.int x1), some (.int x2), some (.int (if x2 = 1 then I a 7 else I a 8))]) (st' := [.int (b2i (u0_X0_had I a x1 x2))]) (M' := (81, ex, I, J, Pw w)) (fun hj => ?_) ?_
          · skip
            refine g_icmp_ne 50 d_X0_had_43 (by decide) (fun h5 => ?_) (fun h5 => ?_)
            · skip
              refine g_iconst 0 d_X0_had_50 (by decide) ?_
              (try simp only [if_neg h5, opv_eq, if_true, if_false, Bool.false_eq_true, reduceCtorEq, b2i_t, b2i_f, u0_X0_had] at hj); exact hj
            · skip
              refine g_iconst 1 d_X0_had_46 (by decide) ?_
              refine g_goto 51 d_X0_had_47 (by decide) ?_
              (try simp only [if_pos h5, opv_eq, if_true, if_false, Bool.false_eq_true, reduceCtorEq, b2i_t, b2i_f, u0_X0_had] at hj); exact hj
          · skip
            exact g_zret rfl (nar_b _) d_X0_had_51 ⟨by simp only [f_X0_had, if_neg h1, if_neg h2, if_pos h3, opv_eq, if_true, if_false, Bool.false_eq_true, reduceCtorEq, b2i_t, b2i_f], rfl⟩ (Nat.le_refl _) (Nat.le_refl _)
      · skip
        refine g_iconst 0 d_X0_had_18 (by decide) ?_
        exact g_zret rfl (by decide) d_X0_had_19 ⟨by simp only [f_X0_had, if_neg h1, if_neg h2, if_neg h3, opv_eq, if_true, if_false, Bool.false_eq_true, reduceCtorEq, b2i_t, b2i_f], rfl⟩ (Nat.le_refl _) (Nat.le_refl _)
noncomputable def m_X0_gust (I : Nat → Nat → Int32) (a : Nat) : Nat → Nat → Int32 := opv (st2 I a 0 (imin 9 ((I a 0) + 1)))
set_option maxHeartbeats 800000 in
set_option maxRecDepth 4000 in
theorem c_X0_gust {k : KT} {ex : Bool} {J : Nat → Nat → Int64} {w : Bool} (I : Nat → Nat → Int32) (a : Nat) (ha : kd a = 0)  : Cx k mX0_gust 2 [.ref (ka k a)] (81, ex, I, J, Pw w) none (81, ex, m_X0_gust I a, J, Pw w) := by
  refine Ct.of rfl [some (.ref (ka k a))] rfl rfl (Nat.le_of_ble_eq_true rfl) ?_
  refine g_aload_n0 rfl d_X0_gust_0 ?_
  refine g_bipush 9 d_X0_gust_1 (by decide) ?_
  refine g_aload_n0 rfl d_X0_gust_3 ?_
  refine g_getI f_X0_9 d_X0_gust_4 ha (kd_sg ha (by decide)) rfl ?_
  refine g_iconst 1 d_X0_gust_7 (by decide) ?_
  refine g_iadd d_X0_gust_8 ?_
  refine g_mmin lm_X0_49 d_X0_gust_9 (Nat.le_of_ble_eq_true rfl) ⟨Nat.le_of_ble_eq_true rfl, Nat.le_of_ble_eq_true rfl⟩ ⟨Nat.zero_le _, Nat.zero_le _⟩ ?_
  refine g_putI f_X0_9 d_X0_gust_12 ha (kd_sg ha (by decide)) rfl rfl rfl ?_
  exact g_vret rfl d_X0_gust_15 ⟨rfl, by simp only [m_X0_gust, opv_eq, if_true, if_false, Bool.false_eq_true, reduceCtorEq, b2i_t, b2i_f]⟩ (Nat.le_refl _) (Nat.le_refl _)
noncomputable def u0_X7_put (I : Nat → Nat → Int32) (a : Nat) (x1 : Int32) (x2 : Int32) : Nat → Nat → Int32 := opv (if x1 < 0 then I else (if (I a 1) ≤ x1 then I else (if (((I a 3) * (I a 1)) + x1) < 0 then I else (if (Int32.ofNat (sz (rt a 2))) ≤ (((I a 3) * (I a 1)) + x1) then I else (va_up I (rt a 2) (upd (I (rt a 2)) (((I a 3) * (I a 1)) + x1).toNatClampNeg x2))))))
noncomputable def m_X7_put (I : Nat → Nat → Int32) (a : Nat) (x1 : Int32) (x2 : Int32) : Nat → Nat → Int32 := opv (u0_X7_put I a x1 x2)
noncomputable def ok_X7_put (I : Nat → Nat → Int32) (a : Nat) (x1 : Int32) (x2 : Int32) : Prop := opv (if x1 < 0 then True else (if (I a 1) ≤ x1 then True else (if (((I a 3) * (I a 1)) + x1) < 0 then True else (if (Int32.ofNat (sz (rt a 2))) ≤ (((I a 3) * (I a 1)) + x1) then True else vp_in (((I a 3) * (I a 1)) + x1) (sz (rt a 2))))))
set_option maxHeartbeats 800000 in
set_option maxRecDepth 4000 in
theorem c_X7_put {k : KT} {ex : Bool} {J : Nat → Nat → Int64} {w : Bool} (I : Nat → Nat → Int32) (a : Nat) (ha : kd a = 6) (x1 : Int32) (x2 : Int32)  (hok : ok_X7_put I a x1 x2) : Cx k mX7_put 1 [.ref (ka k a), .int x1, .int x2] (81, ex, I, J, Pw w) none (81, ex, m_X7_put I a x1 x2, J, Pw w) := by
  refine Ct.of rfl [some (.ref (ka k a)), some (.int x1), some (.int x2), none] rfl rfl (Nat.le_of_ble_eq_true rfl) ?_
  rw [ok_X7_put, opv_eq] at hok
  refine g_aload_n0 rfl d_X7_put_0 ?_
  refine g_getI f_X7_20 d_X7_put_1 ha (kd_sg ha (by decide)) rfl ?_
  refine g_aload_n0 rfl d_X7_put_4 ?_
  refine g_getI f_X7_13 d_X7_put_5 ha (kd_sg ha (by decide)) rfl ?_
  refine g_imul d_X7_put_8 ?_
  refine g_iload_n1 rfl d_X7_put_9 ?_
  refine g_iadd d_X7_put_10 ?_
  refine g_isn3 rfl d_X7_put_11 ?_
  refine g_iload_n1 rfl d_X7_put_12 ?_
  refine g_cut (pc' := 44) (vs' := [some (.ref (ka k a)), some (.int x1), some (.int x2), some (.int (((I a 3) * (I a 1)) + x1))]) (st' := []) (M' := (81, ex, (u0_X7_put I a x1 x2), J, Pw w)) (fun hj => ?_) ?_
  · skip
    refine g_if_lt 44 d_X7_put_13 (by decide) (fun h1 => ?_) (fun h1 => ?_)
    · skip
      (try simp only [if_pos h1, opv_eq, if_true, if_false, Bool.false_eq_true, reduceCtorEq, b2i_t, b2i_f, u0_X7_put] at hj); exact hj
    · skip
      rw [if_neg h1] at hok
      refine g_iload_n1 rfl d_X7_put_16 ?_
      refine g_aload_n0 rfl d_X7_put_17 ?_
      refine g_getI f_X7_13 d_X7_put_18 ha (kd_sg ha (by decide)) rfl ?_
      refine g_icmp_ge 44 d_X7_put_21 (by decide) (fun h2 => ?_) (fun h2 => ?_)
      · skip
        (try simp only [if_neg h1, if_pos h2, opv_eq, if_true, if_false, Bool.false_eq_true, reduceCtorEq, b2i_t, b2i_f, u0_X7_put] at hj); exact hj
      · skip
        rw [if_neg h2] at hok
        refine g_iload_n3 rfl d_X7_put_24 ?_
        refine g_if_lt 44 d_X7_put_25 (by decide) (fun h3 => ?_) (fun h3 => ?_)
        · skip
          (try simp only [if_neg h1, if_neg h2, if_pos h3, opv_eq, if_true, if_false, Bool.false_eq_true, reduceCtorEq, b2i_t, b2i_f, u0_X7_put] at hj); exact hj
        · skip
          rw [if_neg h3] at hok
          refine g_iload_n3 rfl d_X7_put_28 ?_
          refine g_aload_n0 rfl d_X7_put_29 ?_
          refine g_getP (b := rt a 2) f_X7_16 d_X7_put_30 ha (kd_sg ha (by decide)) rfl (pw_rt ha (by decide) (by decide)) ?_
          refine g_alen12 d_X7_put_33 (kt6 ha) (kd_sg (kt6 ha) (by decide)) ?_
          refine g_icmp_ge 44 d_X7_put_34 (by decide) (fun h4 => ?_) (fun h4 => ?_)
          · skip
            (try simp only [if_neg h1, if_neg h2, if_neg h3, if_pos h4, opv_eq, if_true, if_false, Bool.false_eq_true, reduceCtorEq, b2i_t, b2i_f, u0_X7_put] at hj); exact hj
          · skip
            rw [if_neg h4] at hok
            refine g_aload_n0 rfl d_X7_put_37 ?_
            refine g_getP (b := rt a 2) f_X7_16 d_X7_put_38 ha (kd_sg ha (by decide)) rfl (pw_rt ha (by decide) (by decide)) ?_
            refine g_iload_n3 rfl d_X7_put_41 ?_
            refine g_iload_n2 rfl d_X7_put_42 ?_
            have ho1 := hok
            refine g_iast d_X7_put_43 (kt6 ha) (kd_sg (kt6 ha) (by decide)) ho1 ?_
            (try simp only [if_neg h1, if_neg h2, if_neg h3, if_neg h4, opv_eq, if_true, if_false, Bool.false_eq_true, reduceCtorEq, b2i_t, b2i_f, u0_X7_put] at hj); exact hj
  · skip
    exact g_vret rfl d_X7_put_44 ⟨rfl, by simp only [m_X7_put, opv_eq, if_true, if_false, Bool.false_eq_true, reduceCtorEq, b2i_t, b2i_f]⟩ (Nat.le_refl _) (Nat.le_refl _)
theorem okt_X7_put (I : Nat → Nat → Int32) (a : Nat) (ha : kd a = 6) (x1 : Int32) (x2 : Int32) : ok_X7_put I a x1 x2 := by
  rw [ok_X7_put, opv_eq]
  split
  · trivial
  · split
    · trivial
    · split
      · trivial
      · split
        · trivial
        · exact vp_mk (by assumption) (Int32.not_le.mp (by assumption)) (sz_lt (kt6 ha) (by decide))
noncomputable def u0_X7_closeRow (I : Nat → Nat → Int32) (a : Nat) : Nat → Nat → Int32 := opv (if (I a 0) ≤ (I a 3) then I else (st2 I a 3 ((I a 3) + 1)))
noncomputable def m_X7_closeRow (I : Nat → Nat → Int32) (a : Nat) : Nat → Nat → Int32 := opv (u0_X7_closeRow I a)
set_option maxHeartbeats 800000 in
set_option maxRecDepth 4000 in
theorem c_X7_closeRow {k : KT} {ex : Bool} {J : Nat → Nat → Int64} {w : Bool} (I : Nat → Nat → Int32) (a : Nat) (ha : kd a = 6)  : Cx k mX7_closeRow 1 [.ref (ka k a)] (81, ex, I, J, Pw w) none (81, ex, m_X7_closeRow I a, J, Pw w) := by
  refine Ct.of rfl [some (.ref (ka k a))] rfl rfl (Nat.le_of_ble_eq_true rfl) ?_
  refine g_aload_n0 rfl d_X7_closeRow_0 ?_
  refine g_getI f_X7_20 d_X7_closeRow_1 ha (kd_sg ha (by decide)) rfl ?_
  refine g_aload_n0 rfl d_X7_closeRow_4 ?_
  refine g_getI f_X7_7 d_X7_closeRow_5 ha (kd_sg ha (by decide)) rfl ?_
  refine g_cut (pc' := 21) (vs' := [some (.ref (ka k a))]) (st' := []) (M' := (81, ex, (u0_X7_closeRow I a), J, Pw w)) (fun hj => ?_) ?_
  · skip
    refine g_icmp_ge 21 d_X7_closeRow_8 (by decide) (fun h1 => ?_) (fun h1 => ?_)
    · skip
      (try simp only [if_pos h1, opv_eq, if_true, if_false, Bool.false_eq_true, reduceCtorEq, b2i_t, b2i_f, u0_X7_closeRow] at hj); exact hj
    · skip
      refine g_aload_n0 rfl d_X7_closeRow_11 ?_
      refine g_dup rfl d_X7_closeRow_12 ?_
      refine g_getI f_X7_20 d_X7_closeRow_13 ha (kd_sg ha (by decide)) rfl ?_
      refine g_iconst 1 d_X7_closeRow_16 (by decide) ?_
      refine g_iadd d_X7_closeRow_17 ?_
      refine g_putI f_X7_20 d_X7_closeRow_18 ha (kd_sg ha (by decide)) rfl rfl rfl ?_
      (try simp only [if_neg h1, opv_eq, if_true, if_false, Bool.false_eq_true, reduceCtorEq, b2i_t, b2i_f, u0_X7_closeRow] at hj); exact hj
  · skip
    exact g_vret rfl d_X7_closeRow_21 ⟨rfl, by simp only [m_X7_closeRow, opv_eq, if_true, if_false, Bool.false_eq_true, reduceCtorEq, b2i_t, b2i_f]⟩ (Nat.le_refl _) (Nat.le_refl _)
noncomputable def m_X8_clear (I : Nat → Nat → Int32) (a : Nat) : Nat → Nat → Int32 := opv (st2 (st2 (st2 (st2 (st2 (st2 (st2 (st2 (st2 (st2 (st2 I a 0 0) a 1 0) a 2 0) a 3 0) a 4 10) a 5 10) a 6 0) (rt a 7) 3 0) (rt a 8) 3 0) (rt a 9) 3 0) (rt a 10) 3 0)
set_option maxHeartbeats 800000 in
set_option maxRecDepth 4000 in
theorem c_X8_clear {k : KT} {ex : Bool} {J : Nat → Nat → Int64} {w : Bool} (I : Nat → Nat → Int32) (a : Nat) (ha : kd a = 7)  : Cx k mX8_clear 1 [.ref (ka k a)] (81, ex, I, J, Pw w) none (81, ex, m_X8_clear I a, J, Pw w) := by
  refine Ct.of rfl [some (.ref (ka k a))] rfl rfl (Nat.le_of_ble_eq_true rfl) ?_
  refine g_aload_n0 rfl d_X8_clear_0 ?_
  refine g_iconst 0 d_X8_clear_1 (by decide) ?_
  refine g_putI f_X8_29 d_X8_clear_2 ha (kd_sg ha (by decide)) rfl rfl rfl ?_
  refine g_aload_n0 rfl d_X8_clear_5 ?_
  refine g_iconst 0 d_X8_clear_6 (by decide) ?_
  refine g_putI f_X8_33 d_X8_clear_7 ha (kd_sg ha (by decide)) rfl rfl rfl ?_
  refine g_aload_n0 rfl d_X8_clear_10 ?_
  refine g_iconst 0 d_X8_clear_11 (by decide) ?_
  refine g_putI f_X8_36 d_X8_clear_12 ha (kd_sg ha (by decide)) rfl rfl rfl ?_
  refine g_aload_n0 rfl d_X8_clear_15 ?_
  refine g_iconst 0 d_X8_clear_16 (by decide) ?_
  refine g_putI f_X8_39 d_X8_clear_17 ha (kd_sg ha (by decide)) rfl rfl rfl ?_
  refine g_aload_n0 rfl d_X8_clear_20 ?_
  refine g_bipush 10 d_X8_clear_21 (by decide) ?_
  refine g_putI f_X8_42 d_X8_clear_23 ha (kd_sg ha (by decide)) rfl rfl rfl ?_
  refine g_aload_n0 rfl d_X8_clear_26 ?_
  refine g_bipush 10 d_X8_clear_27 (by decide) ?_
  refine g_putI f_X8_45 d_X8_clear_29 ha (kd_sg ha (by decide)) rfl rfl rfl ?_
  refine g_aload_n0 rfl d_X8_clear_32 ?_
  refine g_iconst 0 d_X8_clear_33 (by decide) ?_
  refine g_putI f_X8_48 d_X8_clear_34 ha (kd_sg ha (by decide)) rfl rfl rfl ?_
  refine g_aload_n0 rfl d_X8_clear_37 ?_
  refine g_getP (b := rt a 7) f_X8_14 d_X8_clear_38 ha (kd_sg ha (by decide)) rfl (pw_rt ha (by decide) (by decide)) ?_
  refine g_iconst 0 d_X8_clear_41 (by decide) ?_
  refine g_putI f_X8_51 d_X8_clear_42 (kt7 ha).1 (kd_sg ((kt7 ha).1) (by decide)) rfl rfl rfl ?_
  refine g_aload_n0 rfl d_X8_clear_45 ?_
  refine g_getP (b := rt a 8) f_X8_20 d_X8_clear_46 ha (kd_sg ha (by decide)) rfl (pw_rt ha (by decide) (by decide)) ?_
  refine g_iconst 0 d_X8_clear_49 (by decide) ?_
  refine g_putI f_X8_51 d_X8_clear_50 (kt7 ha).2.1 (kd_sg ((kt7 ha).2.1) (by decide)) rfl rfl rfl ?_
  refine g_aload_n0 rfl d_X8_clear_53 ?_
  refine g_getP (b := rt a 9) f_X8_23 d_X8_clear_54 ha (kd_sg ha (by decide)) rfl (pw_rt ha (by decide) (by decide)) ?_
  refine g_iconst 0 d_X8_clear_57 (by decide) ?_
  refine g_putI f_X8_51 d_X8_clear_58 (kt7 ha).2.2.1 (kd_sg ((kt7 ha).2.2.1) (by decide)) rfl rfl rfl ?_
  refine g_aload_n0 rfl d_X8_clear_61 ?_
  refine g_getP (b := rt a 10) f_X8_26 d_X8_clear_62 ha (kd_sg ha (by decide)) rfl (pw_rt ha (by decide) (by decide)) ?_
  refine g_iconst 0 d_X8_clear_65 (by decide) ?_
  refine g_putI f_X8_51 d_X8_clear_66 (kt7 ha).2.2.2 (kd_sg ((kt7 ha).2.2.2) (by decide)) rfl rfl rfl ?_
  exact g_vret rfl d_X8_clear_69 ⟨rfl, by simp only [m_X8_clear, opv_eq, if_true, if_false, Bool.false_eq_true, reduceCtorEq, b2i_t, b2i_f]⟩ (Nat.le_refl _) (Nat.le_refl _)
noncomputable def f_X8_isKept (I : Nat → Nat → Int32) (a : Nat) (x1 : Int32) (x2 : Nat) : Bool := opv (f_X0_had I x2 (f_X7_cell I (rt a 8) x1 0) (f_X7_cell I (rt a 8) x1 1))
set_option maxHeartbeats 800000 in
set_option maxRecDepth 4000 in
theorem c_X8_isKept {k : KT} {ex : Bool} {J : Nat → Nat → Int64} {w : Bool} (I : Nat → Nat → Int32) (a : Nat) (ha : kd a = 7) (x1 : Int32) (x2 : Nat) (hx2 : kd x2 = 0)  : Cx k mX8_isKept 3 [.ref (ka k a), .int x1, .ref (ka k x2)] (81, ex, I, J, Pw w) (some (.int (b2i (f_X8_isKept I a x1 x2)))) (81, ex, I, J, Pw w) := by
  refine Ct.of rfl [some (.ref (ka k a)), some (.int x1), some (.ref (ka k x2))] rfl rfl (Nat.le_of_ble_eq_true rfl) ?_
  refine g_aload_n2 rfl d_X8_isKept_0 ?_
  refine g_aload_n0 rfl d_X8_isKept_1 ?_
  refine g_getP (b := rt a 8) f_X8_20 d_X8_isKept_2 ha (kd_sg ha (by decide)) rfl (pw_rt ha (by decide) (by decide)) ?_
  refine g_iload_n1 rfl d_X8_isKept_5 ?_
  refine g_iconst 0 d_X8_isKept_6 (by decide) ?_
  refine g_callV1 (c_X7_cell I (rt a 8) (kt7 ha).2.1 x1 0 (okt_X7_cell I (rt a 8) (kt7 ha).2.1 x1 0)) w_X7_cell l_X8_54 d_X8_isKept_7 (kt7 ha).2.1 (kd_sg ((kt7 ha).2.1) (by decide)) rfl rfl (Nat.le_of_ble_eq_true rfl) ⟨Nat.le_of_ble_eq_true rfl, Nat.le_of_ble_eq_true rfl⟩ ⟨Nat.zero_le _, Nat.zero_le _⟩ ⟨rfl, rfl⟩ ?_
  refine g_aload_n0 rfl d_X8_isKept_10 ?_
  refine g_getP (b := rt a 8) f_X8_20 d_X8_isKept_11 ha (kd_sg ha (by decide)) rfl (pw_rt ha (by decide) (by decide)) ?_
  refine g_iload_n1 rfl d_X8_isKept_14 ?_
  refine g_iconst 1 d_X8_isKept_15 (by decide) ?_
  refine g_callV1 (c_X7_cell I (rt a 8) (kt7 ha).2.1 x1 1 (okt_X7_cell I (rt a 8) (kt7 ha).2.1 x1 1)) w_X7_cell l_X8_54 d_X8_isKept_16 (kt7 ha).2.1 (kd_sg ((kt7 ha).2.1) (by decide)) rfl rfl (Nat.le_of_ble_eq_true rfl) ⟨Nat.le_of_ble_eq_true rfl, Nat.le_of_ble_eq_true rfl⟩ ⟨Nat.zero_le _, Nat.zero_le _⟩ ⟨rfl, rfl⟩ ?_
  refine g_callV1 (c_X0_had I x2 hx2 (f_X7_cell I (rt a 8) x1 0) (f_X7_cell I (rt a 8) x1 1)) w_X0_had l_X8_58 d_X8_isKept_19 hx2 (kd_sg hx2 (by decide)) rfl rfl (Nat.le_of_ble_eq_true rfl) ⟨Nat.le_of_ble_eq_true rfl, Nat.le_of_ble_eq_true rfl⟩ ⟨Nat.zero_le _, Nat.zero_le _⟩ ⟨rfl, rfl⟩ ?_
  exact g_zret rfl (nar_b _) d_X8_isKept_22 ⟨by simp only [f_X8_isKept, opv_eq, if_true, if_false, Bool.false_eq_true, reduceCtorEq, b2i_t, b2i_f], rfl⟩ (Nat.le_refl _) (Nat.le_refl _)
noncomputable def u0_X8_worthKept (I : Nat → Nat → Int32) (a : Nat) (x1 : Nat) (x2 : Int32) (l3 : Int32) (l4 : Int32) : Int32 := opv (if (f_X7_cell I (rt a 8) l4 0) < x2 then l3 else (if (f_X8_isKept I a l4 x1) = true then l3 + (f_X7_cell I (rt a 8) l4 2) else l3))
noncomputable def lp_X8_worthKept_5 (I : Nat → Nat → Int32) (a : Nat) (x1 : Nat) (x2 : Int32) : Nat → Int32 → Int32 → Int32 × Int32
  | 0, l3, l4 => (l3, l4)
  | n + 1, l3, l4 => (if (I (rt a 8) 3) ≤ l4 then (l3, l4) else (lp_X8_worthKept_5 I a x1 x2 n (u0_X8_worthKept I a x1 x2 l3 l4) (l4 + 1)))
set_option maxHeartbeats 800000 in
set_option maxRecDepth 4000 in
theorem k_lp_X8_worthKept_5 {k : KT} {ex : Bool} {J : Nat → Nat → Int64} {w : Bool} (I : Nat → Nat → Int32) (a : Nat) (ha : kd a = 7) (x1 : Nat) (hx1 : kd x1 = 0) (x2 : Int32) {F : FinT} : ∀ (n : Nat) (l3 : Int32) (l4 : Int32), mu_up (I (rt a 8) 3) l4 < n → G k mX8_worthKept (roomOf 4 0 0) F 0 0 60 [some (.ref (ka k a)), some (.ref (ka k x1)), some (.int x2), some (.int ((lp_X8_worthKept_5 I a x1 x2 n l3 l4).1)), some (.int ((lp_X8_worthKept_5 I a x1 x2 n l3 l4).2))] [] (81, ex, I, J, Pw w) → G k mX8_worthKept (roomOf 4 0 0) F 0 0 5 [some (.ref (ka k a)), some (.ref (ka k x1)), some (.int x2), some (.int l3), some (.int l4)] [] (81, ex, I, J, Pw w) := by
  intro n
  induction n with
  | zero => intro l3 l4 hmu hj; exact absurd hmu (Nat.not_lt_zero _)
  | succ n ih =>
    intro l3 l4 hmu hj
    refine g_iload (i := 4) rfl d_X8_worthKept_5 ?_
    refine g_aload_n0 rfl d_X8_worthKept_7 ?_
    refine g_getP (b := rt a 8) f_X8_20 d_X8_worthKept_8 ha (kd_sg ha (by decide)) rfl (pw_rt ha (by decide) (by decide)) ?_
    refine g_getI f_X8_51 d_X8_worthKept_11 (kt7 ha).2.1 (kd_sg ((kt7 ha).2.1) (by decide)) rfl ?_
    refine g_icmp_ge 60 d_X8_worthKept_14 (by decide) (fun h1 => ?_) (fun h1 => ?_)
    · skip
      (try simp only [lp_X8_worthKept_5, if_pos h1, opv_eq, if_true, if_false, Bool.false_eq_true, reduceCtorEq, b2i_t, b2i_f] at hj); exact hj
    · skip
      refine g_aload_n0 rfl d_X8_worthKept_17 ?_
      refine g_getP (b := rt a 8) f_X8_20 d_X8_worthKept_18 ha (kd_sg ha (by decide)) rfl (pw_rt ha (by decide) (by decide)) ?_
      refine g_iload (i := 4) rfl d_X8_worthKept_21 ?_
      refine g_iconst 0 d_X8_worthKept_23 (by decide) ?_
      refine g_callV1 (c_X7_cell I (rt a 8) (kt7 ha).2.1 l4 0 (okt_X7_cell I (rt a 8) (kt7 ha).2.1 l4 0)) w_X7_cell l_X8_54 d_X8_worthKept_24 (kt7 ha).2.1 (kd_sg ((kt7 ha).2.1) (by decide)) rfl rfl (Nat.le_of_ble_eq_true rfl) ⟨Nat.le_of_ble_eq_true rfl, Nat.le_of_ble_eq_true rfl⟩ ⟨Nat.zero_le _, Nat.zero_le _⟩ ⟨rfl, rfl⟩ ?_
      refine g_iload_n2 rfl d_X8_worthKept_27 ?_
      refine g_cut (pc' := 54) (vs' := [some (.ref (ka k a)), some (.ref (ka k x1)), some (.int x2), some (.int (u0_X8_worthKept I a x1 x2 l3 l4)), some (.int l4)]) (st' := []) (M' := (81, ex, I, J, Pw w)) (fun hj => ?_) ?_
      · skip
        refine g_icmp_lt 54 d_X8_worthKept_28 (by decide) (fun h2 => ?_) (fun h2 => ?_)
        · skip
          (try simp only [if_pos h2, opv_eq, if_true, if_false, Bool.false_eq_true, reduceCtorEq, b2i_t, b2i_f, u0_X8_worthKept] at hj); exact hj
        · skip
          refine g_aload_n0 rfl d_X8_worthKept_31 ?_
          refine g_iload (i := 4) rfl d_X8_worthKept_32 ?_
          refine g_aload_n1 rfl d_X8_worthKept_34 ?_
          refine g_callV1 (c_X8_isKept I a ha l4 x1 hx1) w_X8_isKept l_X8_64 d_X8_worthKept_35 ha (kd_sg ha (by decide)) rfl rfl (Nat.le_of_ble_eq_true rfl) ⟨Nat.le_of_ble_eq_true rfl, Nat.le_of_ble_eq_true rfl⟩ ⟨Nat.zero_le _, Nat.zero_le _⟩ ⟨rfl, rfl⟩ ?_
          refine g_ifz 54 d_X8_worthKept_38 (by decide) (fun h3 => ?_) (fun h3 => ?_)
          · skip
            (try simp only [if_neg h2, if_neg (nb h3), opv_eq, if_true, if_false, Bool.false_eq_true, reduceCtorEq, b2i_t, b2i_f, u0_X8_worthKept] at hj); exact hj
          · skip
            refine g_iload_n3 rfl d_X8_worthKept_41 ?_
            refine g_aload_n0 rfl d_X8_worthKept_42 ?_
            refine g_getP (b := rt a 8) f_X8_20 d_X8_worthKept_43 ha (kd_sg ha (by decide)) rfl (pw_rt ha (by decide) (by decide)) ?_
            refine g_iload (i := 4) rfl d_X8_worthKept_46 ?_
            refine g_iconst 2 d_X8_worthKept_48 (by decide) ?_
            refine g_callV1 (c_X7_cell I (rt a 8) (kt7 ha).2.1 l4 2 (okt_X7_cell I (rt a 8) (kt7 ha).2.1 l4 2)) w_X7_cell l_X8_54 d_X8_worthKept_49 (kt7 ha).2.1 (kd_sg ((kt7 ha).2.1) (by decide)) rfl rfl (Nat.le_of_ble_eq_true rfl) ⟨Nat.le_of_ble_eq_true rfl, Nat.le_of_ble_eq_true rfl⟩ ⟨Nat.zero_le _, Nat.zero_le _⟩ ⟨rfl, rfl⟩ ?_
            refine g_iadd d_X8_worthKept_52 ?_
            refine g_isn3 rfl d_X8_worthKept_53 ?_
            (try simp only [if_neg h2, if_pos h3, opv_eq, if_true, if_false, Bool.false_eq_true, reduceCtorEq, b2i_t, b2i_f, u0_X8_worthKept] at hj); exact hj
      · skip
        refine g_ic4 (l4 + 1) rfl rfl d_X8_worthKept_54 ?_
        refine g_goto 5 d_X8_worthKept_57 (by decide) ?_
        exact ih (u0_X8_worthKept I a x1 x2 l3 l4) (l4 + 1) (Nat.lt_of_lt_of_le (mu_up_lt h1) (Nat.le_of_lt_succ hmu)) (by (try simp only [lp_X8_worthKept_5, if_neg h1, opv_eq, if_true, if_false, Bool.false_eq_true, reduceCtorEq, b2i_t, b2i_f] at hj); exact hj)
noncomputable def f_X8_worthKept (I : Nat → Nat → Int32) (a : Nat) (x1 : Nat) (x2 : Int32) : Int32 := opv ((lp_X8_worthKept_5 I a x1 x2 (mu_up (I (rt a 8) 3) 0 + 1) 0 0).1)
set_option maxHeartbeats 800000 in
set_option maxRecDepth 4000 in
theorem c_X8_worthKept {k : KT} {ex : Bool} {J : Nat → Nat → Int64} {w : Bool} (I : Nat → Nat → Int32) (a : Nat) (ha : kd a = 7) (x1 : Nat) (hx1 : kd x1 = 0) (x2 : Int32)  : Cx k mX8_worthKept 4 [.ref (ka k a), .ref (ka k x1), .int x2] (81, ex, I, J, Pw w) (some (.int (f_X8_worthKept I a x1 x2))) (81, ex, I, J, Pw w) := by
  refine Ct.of rfl [some (.ref (ka k a)), some (.ref (ka k x1)), some (.int x2), none, none] rfl rfl (Nat.le_of_ble_eq_true rfl) ?_
  refine g_iconst 0 d_X8_worthKept_0 (by decide) ?_
  refine g_isn3 rfl d_X8_worthKept_1 ?_
  refine g_iconst 0 d_X8_worthKept_2 (by decide) ?_
  refine g_is4 rfl d_X8_worthKept_3 ?_
  refine k_lp_X8_worthKept_5 I a ha x1 hx1 x2 _ 0 0 (Nat.lt_succ_self _) ?_
  refine g_iload_n3 rfl d_X8_worthKept_60 ?_
  exact g_iret rfl d_X8_worthKept_61 ⟨by simp only [f_X8_worthKept, opv_eq, if_true, if_false, Bool.false_eq_true, reduceCtorEq, b2i_t, b2i_f], rfl⟩ (Nat.le_refl _) (Nat.le_refl _)
noncomputable def lp_X8_keptAll_2 (I : Nat → Nat → Int32) (a : Nat) (x1 : Nat) (x2 : Int32) : Nat → Int32 → Bool
  | 0, l3 => false
  | n + 1, l3 => (if (I (rt a 8) 3) ≤ l3 then true else (if (f_X7_cell I (rt a 8) l3 0) < x2 then (lp_X8_keptAll_2 I a x1 x2 n (l3 + 1)) else (if (I x1 6) ≤ (f_X7_cell I (rt a 8) l3 0) then (lp_X8_keptAll_2 I a x1 x2 n (l3 + 1)) else (if (f_X8_isKept I a l3 x1) = true then (lp_X8_keptAll_2 I a x1 x2 n (l3 + 1)) else false))))
set_option maxHeartbeats 800000 in
set_option maxRecDepth 4000 in
theorem k_lp_X8_keptAll_2 {k : KT} {ex : Bool} {J : Nat → Nat → Int64} {w : Bool} (I : Nat → Nat → Int32) (a : Nat) (ha : kd a = 7) (x1 : Nat) (hx1 : kd x1 = 0) (x2 : Int32) {Q : Option Value → MM → Prop} : ∀ (n : Nat) (l3 : Int32), mu_up (I (rt a 8) 3) l3 < n → Q (some (.int (b2i (lp_X8_keptAll_2 I a x1 x2 n l3)))) (81, ex, I, J, Pw w) → G k mX8_keptAll (roomOf 4 0 0) (FinM k Q 0 0) 0 0 2 [some (.ref (ka k a)), some (.ref (ka k x1)), some (.int x2), some (.int l3), none] [] (81, ex, I, J, Pw w) := by
  intro n
  induction n with
  | zero => intro l3 hmu hq; exact absurd hmu (Nat.not_lt_zero _)
  | succ n ih =>
    intro l3 hmu hq
    refine g_iload_n3 rfl d_X8_keptAll_2 ?_
    refine g_aload_n0 rfl d_X8_keptAll_3 ?_
    refine g_getP (b := rt a 8) f_X8_20 d_X8_keptAll_4 ha (kd_sg ha (by decide)) rfl (pw_rt ha (by decide) (by decide)) ?_
    refine g_getI f_X8_51 d_X8_keptAll_7 (kt7 ha).2.1 (kd_sg ((kt7 ha).2.1) (by decide)) rfl ?_
    refine g_icmp_ge 56 d_X8_keptAll_10 (by decide) (fun h1 => ?_) (fun h1 => ?_)
    · skip
      refine g_iconst 1 d_X8_keptAll_56 (by decide) ?_
      exact g_zret rfl (by decide) d_X8_keptAll_57 (by (try simp only [lp_X8_keptAll_2, if_pos h1, opv_eq, if_true, if_false, Bool.false_eq_true, reduceCtorEq, b2i_t, b2i_f] at hq); exact hq) (Nat.le_refl _) (Nat.le_refl _)
    · skip
      refine g_aload_n0 rfl d_X8_keptAll_13 ?_
      refine g_getP (b := rt a 8) f_X8_20 d_X8_keptAll_14 ha (kd_sg ha (by decide)) rfl (pw_rt ha (by decide) (by decide)) ?_
      refine g_iload_n3 rfl d_X8_keptAll_17 ?_
      refine g_iconst 0 d_X8_keptAll_18 (by decide) ?_
      refine g_callV1 (c_X7_cell I (rt a 8) (kt7 ha).2.1 l3 0 (okt_X7_cell I (rt a 8) (kt7 ha).2.1 l3 0)) w_X7_cell l_X8_54 d_X8_keptAll_19 (kt7 ha).2.1 (kd_sg ((kt7 ha).2.1) (by decide)) rfl rfl (Nat.le_of_ble_eq_true rfl) ⟨Nat.le_of_ble_eq_true rfl, Nat.le_of_ble_eq_true rfl⟩ ⟨Nat.zero_le _, Nat.zero_le _⟩ ⟨rfl, rfl⟩ ?_
      refine g_is4 rfl d_X8_keptAll_22 ?_
      refine g_iload (i := 4) rfl d_X8_keptAll_24 ?_
      refine g_iload_n2 rfl d_X8_keptAll_26 ?_
      refine g_icmp_lt 50 d_X8_keptAll_27 (by decide) (fun h2 => ?_) (fun h2 => ?_)
      · skip
        refine g_ic3 (l3 + 1) rfl rfl d_X8_keptAll_50 ?_
        refine g_goto 2 d_X8_keptAll_53 (by decide) ?_
        refine G.weak (wks (wks (wks (wks (wkn wk0))))) ?_; exact ih (l3 + 1) (Nat.lt_of_lt_of_le (mu_up_lt h1) (Nat.le_of_lt_succ hmu)) (by (try simp only [lp_X8_keptAll_2, if_neg h1, if_pos h2, opv_eq, if_true, if_false, Bool.false_eq_true, reduceCtorEq, b2i_t, b2i_f] at hq); exact hq)
      · skip
        refine g_iload (i := 4) rfl d_X8_keptAll_30 ?_
        refine g_aload_n1 rfl d_X8_keptAll_32 ?_
        refine g_getI f_X8_68 d_X8_keptAll_33 hx1 (kd_sg hx1 (by decide)) rfl ?_
        refine g_icmp_ge 50 d_X8_keptAll_36 (by decide) (fun h3 => ?_) (fun h3 => ?_)
        · skip
          refine g_ic3 (l3 + 1) rfl rfl d_X8_keptAll_50 ?_
          refine g_goto 2 d_X8_keptAll_53 (by decide) ?_
          refine G.weak (wks (wks (wks (wks (wkn wk0))))) ?_; exact ih (l3 + 1) (Nat.lt_of_lt_of_le (mu_up_lt h1) (Nat.le_of_lt_succ hmu)) (by (try simp only [lp_X8_keptAll_2, if_neg h1, if_neg h2, if_pos h3, opv_eq, if_true, if_false, Bool.false_eq_true, reduceCtorEq, b2i_t, b2i_f] at hq); exact hq)
        · skip
          refine g_aload_n0 rfl d_X8_keptAll_39 ?_
          refine g_iload_n3 rfl d_X8_keptAll_40 ?_
          refine g_aload_n1 rfl d_X8_keptAll_41 ?_
          refine g_callV1 (c_X8_isKept I a ha l3 x1 hx1) w_X8_isKept l_X8_64 d_X8_keptAll_42 ha (kd_sg ha (by decide)) rfl rfl (Nat.le_of_ble_eq_true rfl) ⟨Nat.le_of_ble_eq_true rfl, Nat.le_of_ble_eq_true rfl⟩ ⟨Nat.zero_le _, Nat.zero_le _⟩ ⟨rfl, rfl⟩ ?_
          refine g_ifnz 50 d_X8_keptAll_45 (by decide) (fun h4 => ?_) (fun h4 => ?_)
          · skip
            refine g_ic3 (l3 + 1) rfl rfl d_X8_keptAll_50 ?_
            refine g_goto 2 d_X8_keptAll_53 (by decide) ?_
            refine G.weak (wks (wks (wks (wks (wkn wk0))))) ?_; exact ih (l3 + 1) (Nat.lt_of_lt_of_le (mu_up_lt h1) (Nat.le_of_lt_succ hmu)) (by (try simp only [lp_X8_keptAll_2, if_neg h1, if_neg h2, if_neg h3, if_pos h4, opv_eq, if_true, if_false, Bool.false_eq_true, reduceCtorEq, b2i_t, b2i_f] at hq); exact hq)
          · skip
            refine g_iconst 0 d_X8_keptAll_48 (by decide) ?_
            exact g_zret rfl (by decide) d_X8_keptAll_49 (by (try simp only [lp_X8_keptAll_2, if_neg h1, if_neg h2, if_neg h3, if_neg (nb h4), opv_eq, if_true, if_false, Bool.false_eq_true, reduceCtorEq, b2i_t, b2i_f] at hq); exact hq) (Nat.le_refl _) (Nat.le_refl _)
noncomputable def f_X8_keptAll (I : Nat → Nat → Int32) (a : Nat) (x1 : Nat) (x2 : Int32) : Bool := opv (lp_X8_keptAll_2 I a x1 x2 (mu_up (I (rt a 8) 3) 0 + 1) 0)
set_option maxHeartbeats 800000 in
set_option maxRecDepth 4000 in
theorem c_X8_keptAll {k : KT} {ex : Bool} {J : Nat → Nat → Int64} {w : Bool} (I : Nat → Nat → Int32) (a : Nat) (ha : kd a = 7) (x1 : Nat) (hx1 : kd x1 = 0) (x2 : Int32)  : Cx k mX8_keptAll 4 [.ref (ka k a), .ref (ka k x1), .int x2] (81, ex, I, J, Pw w) (some (.int (b2i (f_X8_keptAll I a x1 x2)))) (81, ex, I, J, Pw w) := by
  refine Ct.of rfl [some (.ref (ka k a)), some (.ref (ka k x1)), some (.int x2), none, none] rfl rfl (Nat.le_of_ble_eq_true rfl) ?_
  refine g_iconst 0 d_X8_keptAll_0 (by decide) ?_
  refine g_isn3 rfl d_X8_keptAll_1 ?_
  exact k_lp_X8_keptAll_2 I a ha x1 hx1 x2 _ 0 (Nat.lt_succ_self _) ⟨by simp only [f_X8_keptAll, opv_eq, if_true, if_false, Bool.false_eq_true, reduceCtorEq, b2i_t, b2i_f], rfl⟩
noncomputable def lp_X8_hasDitch_2 (I : Nat → Nat → Int32) (a : Nat) (x1 : Int32) (x2 : Int32) : Nat → Int32 → Bool
  | 0, l3 => false
  | n + 1, l3 => (if (I (rt a 10) 3) ≤ l3 then false else (if (f_X7_cell I (rt a 10) l3 0) = x1 then (if (f_X7_cell I (rt a 10) l3 1) = x2 then true else (lp_X8_hasDitch_2 I a x1 x2 n (l3 + 1))) else (lp_X8_hasDitch_2 I a x1 x2 n (l3 + 1))))
set_option maxHeartbeats 800000 in
set_option maxRecDepth 4000 in
theorem k_lp_X8_hasDitch_2 {k : KT} {ex : Bool} {J : Nat → Nat → Int64} {w : Bool} (I : Nat → Nat → Int32) (a : Nat) (ha : kd a = 7) (x1 : Int32) (x2 : Int32) {Q : Option Value → MM → Prop} : ∀ (n : Nat) (l3 : Int32), mu_up (I (rt a 10) 3) l3 < n → Q (some (.int (b2i (lp_X8_hasDitch_2 I a x1 x2 n l3)))) (81, ex, I, J, Pw w) → G k mX8_hasDitch (roomOf 3 0 0) (FinM k Q 0 0) 0 0 2 [some (.ref (ka k a)), some (.int x1), some (.int x2), some (.int l3)] [] (81, ex, I, J, Pw w) := by
  intro n
  induction n with
  | zero => intro l3 hmu hq; exact absurd hmu (Nat.not_lt_zero _)
  | succ n ih =>
    intro l3 hmu hq
    refine g_iload_n3 rfl d_X8_hasDitch_2 ?_
    refine g_aload_n0 rfl d_X8_hasDitch_3 ?_
    refine g_getP (b := rt a 10) f_X8_26 d_X8_hasDitch_4 ha (kd_sg ha (by decide)) rfl (pw_rt ha (by decide) (by decide)) ?_
    refine g_getI f_X8_51 d_X8_hasDitch_7 (kt7 ha).2.2.2 (kd_sg ((kt7 ha).2.2.2) (by decide)) rfl ?_
    refine g_icmp_ge 47 d_X8_hasDitch_10 (by decide) (fun h1 => ?_) (fun h1 => ?_)
    · skip
      refine g_iconst 0 d_X8_hasDitch_47 (by decide) ?_
      exact g_zret rfl (by decide) d_X8_hasDitch_48 (by (try simp only [lp_X8_hasDitch_2, if_pos h1, opv_eq, if_true, if_false, Bool.false_eq_true, reduceCtorEq, b2i_t, b2i_f] at hq); exact hq) (Nat.le_refl _) (Nat.le_refl _)
    · skip
      refine g_aload_n0 rfl d_X8_hasDitch_13 ?_
      refine g_getP (b := rt a 10) f_X8_26 d_X8_hasDitch_14 ha (kd_sg ha (by decide)) rfl (pw_rt ha (by decide) (by decide)) ?_
      refine g_iload_n3 rfl d_X8_hasDitch_17 ?_
      refine g_iconst 0 d_X8_hasDitch_18 (by decide) ?_
      refine g_callV1 (c_X7_cell I (rt a 10) (kt7 ha).2.2.2 l3 0 (okt_X7_cell I (rt a 10) (kt7 ha).2.2.2 l3 0)) w_X7_cell l_X8_54 d_X8_hasDitch_19 (kt7 ha).2.2.2 (kd_sg ((kt7 ha).2.2.2) (by decide)) rfl rfl (Nat.le_of_ble_eq_true rfl) ⟨Nat.le_of_ble_eq_true rfl, Nat.le_of_ble_eq_true rfl⟩ ⟨Nat.zero_le _, Nat.zero_le _⟩ ⟨rfl, rfl⟩ ?_
      refine g_iload_n1 rfl d_X8_hasDitch_22 ?_
      refine g_icmp_ne 41 d_X8_hasDitch_23 (by decide) (fun h2 => ?_) (fun h2 => ?_)
      · skip
        refine g_ic3 (l3 + 1) rfl rfl d_X8_hasDitch_41 ?_
        refine g_goto 2 d_X8_hasDitch_44 (by decide) ?_
        exact ih (l3 + 1) (Nat.lt_of_lt_of_le (mu_up_lt h1) (Nat.le_of_lt_succ hmu)) (by (try simp only [lp_X8_hasDitch_2, if_neg h1, if_neg h2, opv_eq, if_true, if_false, Bool.false_eq_true, reduceCtorEq, b2i_t, b2i_f] at hq); exact hq)
      · skip
        refine g_aload_n0 rfl d_X8_hasDitch_26 ?_
        refine g_getP (b := rt a 10) f_X8_26 d_X8_hasDitch_27 ha (kd_sg ha (by decide)) rfl (pw_rt ha (by decide) (by decide)) ?_
        refine g_iload_n3 rfl d_X8_hasDitch_30 ?_
        refine g_iconst 1 d_X8_hasDitch_31 (by decide) ?_
        refine g_callV1 (c_X7_cell I (rt a 10) (kt7 ha).2.2.2 l3 1 (okt_X7_cell I (rt a 10) (kt7 ha).2.2.2 l3 1)) w_X7_cell l_X8_54 d_X8_hasDitch_32 (kt7 ha).2.2.2 (kd_sg ((kt7 ha).2.2.2) (by decide)) rfl rfl (Nat.le_of_ble_eq_true rfl) ⟨Nat.le_of_ble_eq_true rfl, Nat.le_of_ble_eq_true rfl⟩ ⟨Nat.zero_le _, Nat.zero_le _⟩ ⟨rfl, rfl⟩ ?_
        refine g_iload_n2 rfl d_X8_hasDitch_35 ?_
        refine g_icmp_ne 41 d_X8_hasDitch_36 (by decide) (fun h3 => ?_) (fun h3 => ?_)
        · skip
          refine g_ic3 (l3 + 1) rfl rfl d_X8_hasDitch_41 ?_
          refine g_goto 2 d_X8_hasDitch_44 (by decide) ?_
          exact ih (l3 + 1) (Nat.lt_of_lt_of_le (mu_up_lt h1) (Nat.le_of_lt_succ hmu)) (by (try simp only [lp_X8_hasDitch_2, if_neg h1, if_pos h2, if_neg h3, opv_eq, if_true, if_false, Bool.false_eq_true, reduceCtorEq, b2i_t, b2i_f] at hq); exact hq)
        · skip
          refine g_iconst 1 d_X8_hasDitch_39 (by decide) ?_
          exact g_zret rfl (by decide) d_X8_hasDitch_40 (by (try simp only [lp_X8_hasDitch_2, if_neg h1, if_pos h2, if_pos h3, opv_eq, if_true, if_false, Bool.false_eq_true, reduceCtorEq, b2i_t, b2i_f] at hq); exact hq) (Nat.le_refl _) (Nat.le_refl _)
noncomputable def f_X8_hasDitch (I : Nat → Nat → Int32) (a : Nat) (x1 : Int32) (x2 : Int32) : Bool := opv (lp_X8_hasDitch_2 I a x1 x2 (mu_up (I (rt a 10) 3) 0 + 1) 0)
set_option maxHeartbeats 800000 in
set_option maxRecDepth 4000 in
theorem c_X8_hasDitch {k : KT} {ex : Bool} {J : Nat → Nat → Int64} {w : Bool} (I : Nat → Nat → Int32) (a : Nat) (ha : kd a = 7) (x1 : Int32) (x2 : Int32)  : Cx k mX8_hasDitch 3 [.ref (ka k a), .int x1, .int x2] (81, ex, I, J, Pw w) (some (.int (b2i (f_X8_hasDitch I a x1 x2)))) (81, ex, I, J, Pw w) := by
  refine Ct.of rfl [some (.ref (ka k a)), some (.int x1), some (.int x2), none] rfl rfl (Nat.le_of_ble_eq_true rfl) ?_
  refine g_iconst 0 d_X8_hasDitch_0 (by decide) ?_
  refine g_isn3 rfl d_X8_hasDitch_1 ?_
  exact k_lp_X8_hasDitch_2 I a ha x1 x2 _ 0 (Nat.lt_succ_self _) ⟨by simp only [f_X8_hasDitch, opv_eq, if_true, if_false, Bool.false_eq_true, reduceCtorEq, b2i_t, b2i_f], rfl⟩
noncomputable def lp_X8_sawOn_2 (I : Nat → Nat → Int32) (a : Nat) (x1 : Int32) : Nat → Int32 → Bool
  | 0, l2 => false
  | n + 1, l2 => (if (I (rt a 9) 3) ≤ l2 then false else (if (f_X7_cell I (rt a 9) l2 0) = x1 then true else (lp_X8_sawOn_2 I a x1 n (l2 + 1))))
set_option maxHeartbeats 800000 in
set_option maxRecDepth 4000 in
theorem k_lp_X8_sawOn_2 {k : KT} {ex : Bool} {J : Nat → Nat → Int64} {w : Bool} (I : Nat → Nat → Int32) (a : Nat) (ha : kd a = 7) (x1 : Int32) {Q : Option Value → MM → Prop} : ∀ (n : Nat) (l2 : Int32), mu_up (I (rt a 9) 3) l2 < n → Q (some (.int (b2i (lp_X8_sawOn_2 I a x1 n l2)))) (81, ex, I, J, Pw w) → G k mX8_sawOn (roomOf 3 0 0) (FinM k Q 0 0) 0 0 2 [some (.ref (ka k a)), some (.int x1), some (.int l2)] [] (81, ex, I, J, Pw w) := by
  intro n
  induction n with
  | zero => intro l2 hmu hq; exact absurd hmu (Nat.not_lt_zero _)
  | succ n ih =>
    intro l2 hmu hq
    refine g_iload_n2 rfl d_X8_sawOn_2 ?_
    refine g_aload_n0 rfl d_X8_sawOn_3 ?_
    refine g_getP (b := rt a 9) f_X8_23 d_X8_sawOn_4 ha (kd_sg ha (by decide)) rfl (pw_rt ha (by decide) (by decide)) ?_
    refine g_getI f_X8_51 d_X8_sawOn_7 (kt7 ha).2.2.1 (kd_sg ((kt7 ha).2.2.1) (by decide)) rfl ?_
    refine g_icmp_ge 34 d_X8_sawOn_10 (by decide) (fun h1 => ?_) (fun h1 => ?_)
    · skip
      refine g_iconst 0 d_X8_sawOn_34 (by decide) ?_
      exact g_zret rfl (by decide) d_X8_sawOn_35 (by (try simp only [lp_X8_sawOn_2, if_pos h1, opv_eq, if_true, if_false, Bool.false_eq_true, reduceCtorEq, b2i_t, b2i_f] at hq); exact hq) (Nat.le_refl _) (Nat.le_refl _)
    · skip
      refine g_aload_n0 rfl d_X8_sawOn_13 ?_
      refine g_getP (b := rt a 9) f_X8_23 d_X8_sawOn_14 ha (kd_sg ha (by decide)) rfl (pw_rt ha (by decide) (by decide)) ?_
      refine g_iload_n2 rfl d_X8_sawOn_17 ?_
      refine g_iconst 0 d_X8_sawOn_18 (by decide) ?_
      refine g_callV1 (c_X7_cell I (rt a 9) (kt7 ha).2.2.1 l2 0 (okt_X7_cell I (rt a 9) (kt7 ha).2.2.1 l2 0)) w_X7_cell l_X8_54 d_X8_sawOn_19 (kt7 ha).2.2.1 (kd_sg ((kt7 ha).2.2.1) (by decide)) rfl rfl (Nat.le_of_ble_eq_true rfl) ⟨Nat.le_of_ble_eq_true rfl, Nat.le_of_ble_eq_true rfl⟩ ⟨Nat.zero_le _, Nat.zero_le _⟩ ⟨rfl, rfl⟩ ?_
      refine g_iload_n1 rfl d_X8_sawOn_22 ?_
      refine g_icmp_ne 28 d_X8_sawOn_23 (by decide) (fun h2 => ?_) (fun h2 => ?_)
      · skip
        refine g_ic2 (l2 + 1) rfl rfl d_X8_sawOn_28 ?_
        refine g_goto 2 d_X8_sawOn_31 (by decide) ?_
        exact ih (l2 + 1) (Nat.lt_of_lt_of_le (mu_up_lt h1) (Nat.le_of_lt_succ hmu)) (by (try simp only [lp_X8_sawOn_2, if_neg h1, if_neg h2, opv_eq, if_true, if_false, Bool.false_eq_true, reduceCtorEq, b2i_t, b2i_f] at hq); exact hq)
      · skip
        refine g_iconst 1 d_X8_sawOn_26 (by decide) ?_
        exact g_zret rfl (by decide) d_X8_sawOn_27 (by (try simp only [lp_X8_sawOn_2, if_neg h1, if_pos h2, opv_eq, if_true, if_false, Bool.false_eq_true, reduceCtorEq, b2i_t, b2i_f] at hq); exact hq) (Nat.le_refl _) (Nat.le_refl _)
noncomputable def f_X8_sawOn (I : Nat → Nat → Int32) (a : Nat) (x1 : Int32) : Bool := opv (lp_X8_sawOn_2 I a x1 (mu_up (I (rt a 9) 3) 0 + 1) 0)
set_option maxHeartbeats 800000 in
set_option maxRecDepth 4000 in
theorem c_X8_sawOn {k : KT} {ex : Bool} {J : Nat → Nat → Int64} {w : Bool} (I : Nat → Nat → Int32) (a : Nat) (ha : kd a = 7) (x1 : Int32)  : Cx k mX8_sawOn 3 [.ref (ka k a), .int x1] (81, ex, I, J, Pw w) (some (.int (b2i (f_X8_sawOn I a x1)))) (81, ex, I, J, Pw w) := by
  refine Ct.of rfl [some (.ref (ka k a)), some (.int x1), none] rfl rfl (Nat.le_of_ble_eq_true rfl) ?_
  refine g_iconst 0 d_X8_sawOn_0 (by decide) ?_
  refine g_isn2 rfl d_X8_sawOn_1 ?_
  exact k_lp_X8_sawOn_2 I a ha x1 _ 0 (Nat.lt_succ_self _) ⟨by simp only [f_X8_sawOn, opv_eq, if_true, if_false, Bool.false_eq_true, reduceCtorEq, b2i_t, b2i_f], rfl⟩
noncomputable def u0_X1_acrossFrom (I : Nat → Nat → Int32) (x1 : Nat) (x2 : Int32) (l5 : Int32) : Bool := opv (if ((x2 >>> ((f_X7_cell I (rt x1 10) l5 0) &&& 31)) &&& 1) = 1 then true else false)
noncomputable def u1_X1_acrossFrom (I : Nat → Nat → Int32) (x1 : Nat) (x2 : Int32) (l5 : Int32) : Bool := opv (if ((x2 >>> ((f_X7_cell I (rt x1 10) l5 1) &&& 31)) &&& 1) = 1 then true else false)
noncomputable def u2_X1_acrossFrom (I : Nat → Nat → Int32) (x1 : Nat) (x2 : Int32) (x3 : Int32) (x4 : Int32) (l4 : Int32) (l5 : Int32) : Int32 := opv (if (u0_X1_acrossFrom I x1 x2 l5) = true then (if (u1_X1_acrossFrom I x1 x2 l5) = true then l4 else l4 + (if l5 = x3 then x4 else f_X7_cell I (rt x1 10) l5 2)) else l4)
noncomputable def lp_X1_acrossFrom_6 (I : Nat → Nat → Int32) (x1 : Nat) (x2 : Int32) (x3 : Int32) (x4 : Int32) : Nat → Int32 → Int32 → Int32 × Int32
  | 0, l4, l5 => (l4, l5)
  | n + 1, l4, l5 => (if (I (rt x1 10) 3) ≤ l5 then (l4, l5) else (lp_X1_acrossFrom_6 I x1 x2 x3 x4 n (u2_X1_acrossFrom I x1 x2 x3 x4 l4 l5) (l5 + 1)))
set_option maxHeartbeats 800000 in
set_option maxRecDepth 4000 in
theorem k_lp_X1_acrossFrom_6 {k : KT} {ex : Bool} {J : Nat → Nat → Int64} {w : Bool} (I : Nat → Nat → Int32) (x1 : Nat) (hx1 : kd x1 = 7) (x2 : Int32) (x3 : Int32) (x4 : Int32) {F : FinT} : ∀ (n : Nat) (l4 : Int32) (l5 : Int32), mu_up (I (rt x1 10) 3) l5 < n → G k mX1_acrossFrom (roomOf 3 0 0) F 0 0 109 [some (.ref (ka k x1)), some (.int x2), some (.int x3), some (.int x4), some (.int ((lp_X1_acrossFrom_6 I x1 x2 x3 x4 n l4 l5).1)), some (.int ((lp_X1_acrossFrom_6 I x1 x2 x3 x4 n l4 l5).2)), none, none] [] (81, ex, I, J, Pw w) → G k mX1_acrossFrom (roomOf 3 0 0) F 0 0 6 [some (.ref (ka k x1)), some (.int x2), some (.int x3), some (.int x4), some (.int l4), some (.int l5), none, none] [] (81, ex, I, J, Pw w) := by
  intro n
  induction n with
  | zero => intro l4 l5 hmu hj; exact absurd hmu (Nat.not_lt_zero _)
  | succ n ih =>
    intro l4 l5 hmu hj
    refine g_iload (i := 5) rfl d_X1_acrossFrom_6 ?_
    refine g_aload_n0 rfl d_X1_acrossFrom_8 ?_
    refine g_getP (b := rt x1 10) f_X1_25 d_X1_acrossFrom_9 hx1 (kd_sg hx1 (by decide)) rfl (pw_rt hx1 (by decide) (by decide)) ?_
    refine g_getI f_X1_29 d_X1_acrossFrom_12 (kt7 hx1).2.2.2 (kd_sg ((kt7 hx1).2.2.2) (by decide)) rfl ?_
    refine g_icmp_ge 109 d_X1_acrossFrom_15 (by decide) (fun h1 => ?_) (fun h1 => ?_)
    · skip
      (try simp only [lp_X1_acrossFrom_6, if_pos h1, opv_eq, if_true, if_false, Bool.false_eq_true, reduceCtorEq, b2i_t, b2i_f] at hj); exact hj
    · skip
      refine g_iload_n1 rfl d_X1_acrossFrom_18 ?_
      refine g_aload_n0 rfl d_X1_acrossFrom_19 ?_
      refine g_getP (b := rt x1 10) f_X1_25 d_X1_acrossFrom_20 hx1 (kd_sg hx1 (by decide)) rfl (pw_rt hx1 (by decide) (by decide)) ?_
      refine g_iload (i := 5) rfl d_X1_acrossFrom_23 ?_
      refine g_iconst 0 d_X1_acrossFrom_25 (by decide) ?_
      refine g_callV1 (c_X7_cell I (rt x1 10) (kt7 hx1).2.2.2 l5 0 (okt_X7_cell I (rt x1 10) (kt7 hx1).2.2.2 l5 0)) w_X7_cell l_X1_34 d_X1_acrossFrom_26 (kt7 hx1).2.2.2 (kd_sg ((kt7 hx1).2.2.2) (by decide)) rfl rfl (Nat.le_of_ble_eq_true rfl) ⟨Nat.le_of_ble_eq_true rfl, Nat.le_of_ble_eq_true rfl⟩ ⟨Nat.zero_le _, Nat.zero_le _⟩ ⟨rfl, rfl⟩ ?_
      refine g_ishr d_X1_acrossFrom_29 ?_
      refine g_iconst 1 d_X1_acrossFrom_30 (by decide) ?_
      refine g_iand d_X1_acrossFrom_31 ?_
      refine g_iconst 1 d_X1_acrossFrom_32 (by decide) ?_
      refine g_cut (pc' := 41) (vs' := [some (.ref (ka k x1)), some (.int x2), some (.int x3), some (.int x4), some (.int l4), some (.int l5), none, none]) (st' := [.int (b2i (u0_X1_acrossFrom I x1 x2 l5))]) (M' := (81, ex, I, J, Pw w)) (fun hj => ?_) ?_
      · skip
        refine g_icmp_ne 40 d_X1_acrossFrom_33 (by decide) (fun h2 => ?_) (fun h2 => ?_)
        · skip
          refine g_iconst 0 d_X1_acrossFrom_40 (by decide) ?_
          (try simp only [if_neg h2, opv_eq, if_true, if_false, Bool.false_eq_true, reduceCtorEq, b2i_t, b2i_f, u0_X1_acrossFrom] at hj); exact hj
        · skip
          refine g_iconst 1 d_X1_acrossFrom_36 (by decide) ?_
          refine g_goto 41 d_X1_acrossFrom_37 (by decide) ?_
          (try simp only [if_pos h2, opv_eq, if_true, if_false, Bool.false_eq_true, reduceCtorEq, b2i_t, b2i_f, u0_X1_acrossFrom] at hj); exact hj
      · skip
        refine g_is6 rfl d_X1_acrossFrom_41 ?_
        refine g_iload_n1 rfl d_X1_acrossFrom_43 ?_
        refine g_aload_n0 rfl d_X1_acrossFrom_44 ?_
        refine g_getP (b := rt x1 10) f_X1_25 d_X1_acrossFrom_45 hx1 (kd_sg hx1 (by decide)) rfl (pw_rt hx1 (by decide) (by decide)) ?_
        refine g_iload (i := 5) rfl d_X1_acrossFrom_48 ?_
        refine g_iconst 1 d_X1_acrossFrom_50 (by decide) ?_
        refine g_callV1 (c_X7_cell I (rt x1 10) (kt7 hx1).2.2.2 l5 1 (okt_X7_cell I (rt x1 10) (kt7 hx1).2.2.2 l5 1)) w_X7_cell l_X1_34 d_X1_acrossFrom_51 (kt7 hx1).2.2.2 (kd_sg ((kt7 hx1).2.2.2) (by decide)) rfl rfl (Nat.le_of_ble_eq_true rfl) ⟨Nat.le_of_ble_eq_true rfl, Nat.le_of_ble_eq_true rfl⟩ ⟨Nat.zero_le _, Nat.zero_le _⟩ ⟨rfl, rfl⟩ ?_
        refine g_ishr d_X1_acrossFrom_54 ?_
        refine g_iconst 1 d_X1_acrossFrom_55 (by decide) ?_
        refine g_iand d_X1_acrossFrom_56 ?_
        refine g_iconst 1 d_X1_acrossFrom_57 (by decide) ?_
        refine g_cut (pc' := 66) (vs' := [some (.ref (ka k x1)), some (.int x2), some (.int x3), some (.int x4), some (.int l4), some (.int l5), some (.int (b2i (u0_X1_acrossFrom I x1 x2 l5))), none]) (st' := [.int (b2i (u1_X1_acrossFrom I x1 x2 l5))]) (M' := (81, ex, I, J, Pw w)) (fun hj => ?_) ?_
        · skip
          refine g_icmp_ne 65 d_X1_acrossFrom_58 (by decide) (fun h3 => ?_) (fun h3 => ?_)
          · skip
            refine g_iconst 0 d_X1_acrossFrom_65 (by decide) ?_
            (try simp only [if_neg h3, opv_eq, if_true, if_false, Bool.false_eq_true, reduceCtorEq, b2i_t, b2i_f, u1_X1_acrossFrom] at hj); exact hj
          · skip
            refine g_iconst 1 d_X1_acrossFrom_61 (by decide) ?_
            refine g_goto 66 d_X1_acrossFrom_62 (by decide) ?_
            (try simp only [if_pos h3, opv_eq, if_true, if_false, Bool.false_eq_true, reduceCtorEq, b2i_t, b2i_f, u1_X1_acrossFrom] at hj); exact hj
        · skip
          refine g_is7 rfl d_X1_acrossFrom_66 ?_
          refine g_iload (i := 6) rfl d_X1_acrossFrom_68 ?_
          refine g_cut (pc' := 103) (vs' := [some (.ref (ka k x1)), some (.int x2), some (.int x3), some (.int x4), some (.int (u2_X1_acrossFrom I x1 x2 x3 x4 l4 l5)), some (.int l5), some (.int (b2i (u0_X1_acrossFrom I x1 x2 l5))), some (.int (b2i (u1_X1_acrossFrom I x1 x2 l5)))]) (st' := []) (M' := (81, ex, I, J, Pw w)) (fun hj => ?_) ?_
          · skip
            refine g_ifz 103 d_X1_acrossFrom_70 (by decide) (fun h4 => ?_) (fun h4 => ?_)
            · skip
              (try simp only [if_neg (nb h4), opv_eq, if_true, if_false, Bool.false_eq_true, reduceCtorEq, b2i_t, b2i_f, u2_X1_acrossFrom] at hj); exact hj
            · skip
              refine g_iload (i := 7) rfl d_X1_acrossFrom_73 ?_
              refine g_ifnz 103 d_X1_acrossFrom_75 (by decide) (fun h5 => ?_) (fun h5 => ?_)
              · skip
                (try simp only [if_pos h4, if_pos h5, opv_eq, if_true, if_false, Bool.false_eq_true, reduceCtorEq, b2i_t, b2i_f, u2_X1_acrossFrom] at hj); exact hj
              · skip
                refine g_iload (i := 4) rfl d_X1_acrossFrom_78 ?_
                refine g_iload (i := 5) rfl d_X1_acrossFrom_80 ?_
                refine g_iload_n2 rfl d_X1_acrossFrom_82 ?_
                refine g_cut (pc' := 100) (vs' := [some (.ref (ka k x1)), some (.int x2), some (.int x3), some (.int x4), some (.int l4), some (.int l5), some (.int (b2i (u0_X1_acrossFrom I x1 x2 l5))), some (.int (b2i (u1_X1_acrossFrom I x1 x2 l5)))]) (st' := [.int (if l5 = x3 then x4 else f_X7_cell I (rt x1 10) l5 2), .int l4]) (M' := (81, ex, I, J, Pw w)) (fun hj => ?_) ?_
                · skip
                  refine g_icmp_ne 90 d_X1_acrossFrom_83 (by decide) (fun h6 => ?_) (fun h6 => ?_)
                  · skip
                    refine g_aload_n0 rfl d_X1_acrossFrom_90 ?_
                    refine g_getP (b := rt x1 10) f_X1_25 d_X1_acrossFrom_91 hx1 (kd_sg hx1 (by decide)) rfl (pw_rt hx1 (by decide) (by decide)) ?_
                    refine g_iload (i := 5) rfl d_X1_acrossFrom_94 ?_
                    refine g_iconst 2 d_X1_acrossFrom_96 (by decide) ?_
                    refine g_callV1 (c_X7_cell I (rt x1 10) (kt7 hx1).2.2.2 l5 2 (okt_X7_cell I (rt x1 10) (kt7 hx1).2.2.2 l5 2)) w_X7_cell l_X1_34 d_X1_acrossFrom_97 (kt7 hx1).2.2.2 (kd_sg ((kt7 hx1).2.2.2) (by decide)) rfl rfl (Nat.le_of_ble_eq_true rfl) ⟨Nat.le_of_ble_eq_true rfl, Nat.le_of_ble_eq_true rfl⟩ ⟨Nat.zero_le _, Nat.zero_le _⟩ ⟨rfl, rfl⟩ ?_
                    (try simp only [if_neg h6, opv_eq, if_true, if_false, Bool.false_eq_true, reduceCtorEq, b2i_t, b2i_f] at hj); exact hj
                  · skip
                    refine g_iload_n3 rfl d_X1_acrossFrom_86 ?_
                    refine g_goto 100 d_X1_acrossFrom_87 (by decide) ?_
                    (try simp only [if_pos h6, opv_eq, if_true, if_false, Bool.false_eq_true, reduceCtorEq, b2i_t, b2i_f] at hj); exact hj
                · skip
                  refine g_iadd d_X1_acrossFrom_100 ?_
                  refine g_is4 rfl d_X1_acrossFrom_101 ?_
                  (try simp only [if_pos h4, if_neg (nb h5), opv_eq, if_true, if_false, Bool.false_eq_true, reduceCtorEq, b2i_t, b2i_f, u2_X1_acrossFrom] at hj); exact hj
          · skip
            refine g_ic5 (l5 + 1) rfl rfl d_X1_acrossFrom_103 ?_
            refine g_goto 6 d_X1_acrossFrom_106 (by decide) ?_
            refine G.weak (wks (wks (wks (wks (wks (wks (wkn (wkn wk0)))))))) ?_; exact ih (u2_X1_acrossFrom I x1 x2 x3 x4 l4 l5) (l5 + 1) (Nat.lt_of_lt_of_le (mu_up_lt h1) (Nat.le_of_lt_succ hmu)) (by (try simp only [lp_X1_acrossFrom_6, if_neg h1, opv_eq, if_true, if_false, Bool.false_eq_true, reduceCtorEq, b2i_t, b2i_f] at hj); exact hj)
noncomputable def f_X1_acrossFrom (I : Nat → Nat → Int32) (x1 : Nat) (x2 : Int32) (x3 : Int32) (x4 : Int32) : Int32 := opv ((lp_X1_acrossFrom_6 I x1 x2 x3 x4 (mu_up (I (rt x1 10) 3) 0 + 1) 0 0).1)
set_option maxHeartbeats 800000 in
set_option maxRecDepth 4000 in
theorem c_X1_acrossFrom {k : KT} {ex : Bool} {J : Nat → Nat → Int64} {w : Bool} (I : Nat → Nat → Int32) (x1 : Nat) (hx1 : kd x1 = 7) (x2 : Int32) (x3 : Int32) (x4 : Int32)  : Cx k mX1_acrossFrom 3 [.ref (ka k x1), .int x2, .int x3, .int x4] (81, ex, I, J, Pw w) (some (.int (f_X1_acrossFrom I x1 x2 x3 x4))) (81, ex, I, J, Pw w) := by
  refine Ct.of rfl [some (.ref (ka k x1)), some (.int x2), some (.int x3), some (.int x4), none, none, none, none] rfl rfl (Nat.le_of_ble_eq_true rfl) ?_
  refine g_iconst 0 d_X1_acrossFrom_0 (by decide) ?_
  refine g_is4 rfl d_X1_acrossFrom_1 ?_
  refine g_iconst 0 d_X1_acrossFrom_3 (by decide) ?_
  refine g_is5 rfl d_X1_acrossFrom_4 ?_
  refine k_lp_X1_acrossFrom_6 I x1 hx1 x2 x3 x4 _ 0 0 (Nat.lt_succ_self _) ?_
  refine g_iload (i := 4) rfl d_X1_acrossFrom_109 ?_
  exact g_iret rfl d_X1_acrossFrom_111 ⟨by simp only [f_X1_acrossFrom, opv_eq, if_true, if_false, Bool.false_eq_true, reduceCtorEq, b2i_t, b2i_f], rfl⟩ (Nat.le_refl _) (Nat.le_refl _)
noncomputable def u0_X1_leastSide (I : Nat → Nat → Int32) (x1 : Nat) (x2 : Int32) (x3 : Int32) (l5 : Int32) (l6 : Int32) : Int32 := opv (if l5 ≤ (f_X1_acrossFrom I x1 l6 x2 x3) then l5 else f_X1_acrossFrom I x1 l6 x2 x3)
noncomputable def lp_X1_leastSide_23 (I : Nat → Nat → Int32) (x1 : Nat) (x2 : Int32) (x3 : Int32) (l3 : Int32) : Nat → Int32 → Int32 → Int32 → Int32 × Int32 × Int32
  | 0, l4, l5, l6 => (l4, l5, l6)
  | n + 1, l4, l5, l6 => (if (1 <<< (l3 &&& 31)) ≤ l6 then (l4, l5, l6) else (lp_X1_leastSide_23 I x1 x2 x3 l3 n (if l5 ≤ (f_X1_acrossFrom I x1 l6 x2 x3) then l4 else l6) (u0_X1_leastSide I x1 x2 x3 l5 l6) (l6 + 2)))
set_option maxHeartbeats 800000 in
set_option maxRecDepth 4000 in
theorem k_lp_X1_leastSide_23 {k : KT} {ex : Bool} {J : Nat → Nat → Int64} {w : Bool} (I : Nat → Nat → Int32) (x1 : Nat) (hx1 : kd x1 = 7) (x2 : Int32) (x3 : Int32) (l3 : Int32) {F : FinT} : ∀ (n : Nat) (l4 : Int32) (l5 : Int32) (l6 : Int32), mu_up (1 <<< (l3 &&& 31)) l6 < n → G k mX1_leastSide (roomOf 4 0 0) F 0 0 62 [some (.ref (ka k x1)), some (.int x2), some (.int x3), some (.int l3), some (.int ((lp_X1_leastSide_23 I x1 x2 x3 l3 n l4 l5 l6).1)), some (.int ((lp_X1_leastSide_23 I x1 x2 x3 l3 n l4 l5 l6).2.1)), some (.int ((lp_X1_leastSide_23 I x1 x2 x3 l3 n l4 l5 l6).2.2)), none] [] (81, ex, I, J, Pw w) → G k mX1_leastSide (roomOf 4 0 0) F 0 0 23 [some (.ref (ka k x1)), some (.int x2), some (.int x3), some (.int l3), some (.int l4), some (.int l5), some (.int l6), none] [] (81, ex, I, J, Pw w) := by
  intro n
  induction n with
  | zero => intro l4 l5 l6 hmu hj; exact absurd hmu (Nat.not_lt_zero _)
  | succ n ih =>
    intro l4 l5 l6 hmu hj
    refine g_iload (i := 6) rfl d_X1_leastSide_23 ?_
    refine g_iconst 1 d_X1_leastSide_25 (by decide) ?_
    refine g_iload_n3 rfl d_X1_leastSide_26 ?_
    refine g_ishl d_X1_leastSide_27 ?_
    refine g_icmp_ge 62 d_X1_leastSide_28 (by decide) (fun h1 => ?_) (fun h1 => ?_)
    · skip
      (try simp only [lp_X1_leastSide_23, if_pos h1, opv_eq, if_true, if_false, Bool.false_eq_true, reduceCtorEq, b2i_t, b2i_f] at hj); exact hj
    · skip
      refine g_aload_n0 rfl d_X1_leastSide_31 ?_
      refine g_iload (i := 6) rfl d_X1_leastSide_32 ?_
      refine g_iload_n1 rfl d_X1_leastSide_34 ?_
      refine g_iload_n2 rfl d_X1_leastSide_35 ?_
      refine g_callS1 (c_X1_acrossFrom I x1 hx1 l6 x2 x3) w_X1_acrossFrom l_X1_21 d_X1_leastSide_36 rfl rfl (Nat.le_of_ble_eq_true rfl) ⟨Nat.le_of_ble_eq_true rfl, Nat.le_of_ble_eq_true rfl⟩ ⟨Nat.zero_le _, Nat.zero_le _⟩ ⟨rfl, rfl⟩ ?_
      refine g_is7 rfl d_X1_leastSide_39 ?_
      refine g_iload (i := 7) rfl d_X1_leastSide_41 ?_
      refine g_iload (i := 5) rfl d_X1_leastSide_43 ?_
      refine g_cut (pc' := 56) (vs' := [some (.ref (ka k x1)), some (.int x2), some (.int x3), some (.int l3), some (.int (if l5 ≤ (f_X1_acrossFrom I x1 l6 x2 x3) then l4 else l6)), some (.int (u0_X1_leastSide I x1 x2 x3 l5 l6)), some (.int l6), some (.int (f_X1_acrossFrom I x1 l6 x2 x3))]) (st' := []) (M' := (81, ex, I, J, Pw w)) (fun hj => ?_) ?_
      · skip
        refine g_icmp_ge 56 d_X1_leastSide_45 (by decide) (fun h2 => ?_) (fun h2 => ?_)
        · skip
          (try simp only [if_pos h2, opv_eq, if_true, if_false, Bool.false_eq_true, reduceCtorEq, b2i_t, b2i_f, u0_X1_leastSide] at hj); exact hj
        · skip
          refine g_iload (i := 7) rfl d_X1_leastSide_48 ?_
          refine g_is5 rfl d_X1_leastSide_50 ?_
          refine g_iload (i := 6) rfl d_X1_leastSide_52 ?_
          refine g_is4 rfl d_X1_leastSide_54 ?_
          (try simp only [if_neg h2, opv_eq, if_true, if_false, Bool.false_eq_true, reduceCtorEq, b2i_t, b2i_f, u0_X1_leastSide] at hj); exact hj
      · skip
        refine g_ic6 (l6 + 2) rfl rfl d_X1_leastSide_56 ?_
        refine g_goto 23 d_X1_leastSide_59 (by decide) ?_
        refine G.weak (wks (wks (wks (wks (wks (wks (wks (wkn wk0)))))))) ?_; exact ih (if l5 ≤ (f_X1_acrossFrom I x1 l6 x2 x3) then l4 else l6) (u0_X1_leastSide I x1 x2 x3 l5 l6) (l6 + 2) (Nat.lt_of_lt_of_le (mu_up_lt2 (shl1_le _) h1) (Nat.le_of_lt_succ hmu)) (by (try simp only [lp_X1_leastSide_23, if_neg h1, opv_eq, if_true, if_false, Bool.false_eq_true, reduceCtorEq, b2i_t, b2i_f] at hj); exact hj)
noncomputable def f_X1_leastSide (I : Nat → Nat → Int32) (x1 : Nat) (x2 : Int32) (x3 : Int32) : Int32 := opv ((lp_X1_leastSide_23 I x1 x2 x3 ((I x1 6) - 1) (mu_up (1 <<< (((I x1 6) - 1) &&& 31)) 3 + 1) 1 (f_X1_acrossFrom I x1 1 x2 x3) 3).1)
set_option maxHeartbeats 800000 in
set_option maxRecDepth 4000 in
theorem c_X1_leastSide {k : KT} {ex : Bool} {J : Nat → Nat → Int64} {w : Bool} (I : Nat → Nat → Int32) (x1 : Nat) (hx1 : kd x1 = 7) (x2 : Int32) (x3 : Int32)  : Cx k mX1_leastSide 4 [.ref (ka k x1), .int x2, .int x3] (81, ex, I, J, Pw w) (some (.int (f_X1_leastSide I x1 x2 x3))) (81, ex, I, J, Pw w) := by
  refine Ct.of rfl [some (.ref (ka k x1)), some (.int x2), some (.int x3), none, none, none, none, none] rfl rfl (Nat.le_of_ble_eq_true rfl) ?_
  refine g_aload_n0 rfl d_X1_leastSide_0 ?_
  refine g_getI f_X1_9 d_X1_leastSide_1 hx1 (kd_sg hx1 (by decide)) rfl ?_
  refine g_iconst 1 d_X1_leastSide_4 (by decide) ?_
  refine g_isub d_X1_leastSide_5 ?_
  refine g_isn3 rfl d_X1_leastSide_6 ?_
  refine g_iconst 1 d_X1_leastSide_7 (by decide) ?_
  refine g_is4 rfl d_X1_leastSide_8 ?_
  refine g_aload_n0 rfl d_X1_leastSide_10 ?_
  refine g_iload (i := 4) rfl d_X1_leastSide_11 ?_
  refine g_iload_n1 rfl d_X1_leastSide_13 ?_
  refine g_iload_n2 rfl d_X1_leastSide_14 ?_
  refine g_callS1 (c_X1_acrossFrom I x1 hx1 1 x2 x3) w_X1_acrossFrom l_X1_21 d_X1_leastSide_15 rfl rfl (Nat.le_of_ble_eq_true rfl) ⟨Nat.le_of_ble_eq_true rfl, Nat.le_of_ble_eq_true rfl⟩ ⟨Nat.zero_le _, Nat.zero_le _⟩ ⟨rfl, rfl⟩ ?_
  refine g_is5 rfl d_X1_leastSide_18 ?_
  refine g_iconst 3 d_X1_leastSide_20 (by decide) ?_
  refine g_is6 rfl d_X1_leastSide_21 ?_
  refine k_lp_X1_leastSide_23 I x1 hx1 x2 x3 ((I x1 6) - 1) _ 1 (f_X1_acrossFrom I x1 1 x2 x3) 3 (Nat.lt_succ_self _) ?_
  refine g_iload (i := 4) rfl d_X1_leastSide_62 ?_
  exact g_iret rfl d_X1_leastSide_64 ⟨by simp only [f_X1_leastSide, opv_eq, if_true, if_false, Bool.false_eq_true, reduceCtorEq, b2i_t, b2i_f], rfl⟩ (Nat.le_refl _) (Nat.le_refl _)
noncomputable def u0_X1_most (I : Nat → Nat → Int32) (x1 : Nat) (x2 : Int32) (x3 : Int32) : Int32 := opv (if 2 ≤ (I x1 6) then f_X1_acrossFrom I x1 (f_X1_leastSide I x1 x2 x3) x2 x3 else 0)
noncomputable def f_X1_most (I : Nat → Nat → Int32) (x1 : Nat) (x2 : Int32) (x3 : Int32) : Int32 := opv (u0_X1_most I x1 x2 x3)
set_option maxHeartbeats 800000 in
set_option maxRecDepth 4000 in
theorem c_X1_most {k : KT} {ex : Bool} {J : Nat → Nat → Int64} {w : Bool} (I : Nat → Nat → Int32) (x1 : Nat) (hx1 : kd x1 = 7) (x2 : Int32) (x3 : Int32)  : Cx k mX1_most 5 [.ref (ka k x1), .int x2, .int x3] (81, ex, I, J, Pw w) (some (.int (f_X1_most I x1 x2 x3))) (81, ex, I, J, Pw w) := by
  refine Ct.of rfl [some (.ref (ka k x1)), some (.int x2), some (.int x3)] rfl rfl (Nat.le_of_ble_eq_true rfl) ?_
  refine g_aload_n0 rfl d_X1_most_0 ?_
  refine g_getI f_X1_9 d_X1_most_1 hx1 (kd_sg hx1 (by decide)) rfl ?_
  refine g_iconst 2 d_X1_most_4 (by decide) ?_
  refine g_cut (pc' := 24) (vs' := [some (.ref (ka k x1)), some (.int x2), some (.int x3)]) (st' := [.int (u0_X1_most I x1 x2 x3)]) (M' := (81, ex, I, J, Pw w)) (fun hj => ?_) ?_
  · skip
    refine g_icmp_ge 12 d_X1_most_5 (by decide) (fun h1 => ?_) (fun h1 => ?_)
    · skip
      refine g_aload_n0 rfl d_X1_most_12 ?_
      refine g_aload_n0 rfl d_X1_most_13 ?_
      refine g_iload_n1 rfl d_X1_most_14 ?_
      refine g_iload_n2 rfl d_X1_most_15 ?_
      refine g_callS1 (c_X1_leastSide I x1 hx1 x2 x3) w_X1_leastSide l_X1_15 d_X1_most_16 rfl rfl (Nat.le_of_ble_eq_true rfl) ⟨Nat.le_of_ble_eq_true rfl, Nat.le_of_ble_eq_true rfl⟩ ⟨Nat.zero_le _, Nat.zero_le _⟩ ⟨rfl, rfl⟩ ?_
      refine g_iload_n1 rfl d_X1_most_19 ?_
      refine g_iload_n2 rfl d_X1_most_20 ?_
      refine g_callS1 (c_X1_acrossFrom I x1 hx1 (f_X1_leastSide I x1 x2 x3) x2 x3) w_X1_acrossFrom l_X1_21 d_X1_most_21 rfl rfl (Nat.le_of_ble_eq_true rfl) ⟨Nat.le_of_ble_eq_true rfl, Nat.le_of_ble_eq_true rfl⟩ ⟨Nat.zero_le _, Nat.zero_le _⟩ ⟨rfl, rfl⟩ ?_
      (try simp only [if_pos h1, opv_eq, if_true, if_false, Bool.false_eq_true, reduceCtorEq, b2i_t, b2i_f, u0_X1_most] at hj); exact hj
    · skip
      refine g_iconst 0 d_X1_most_8 (by decide) ?_
      refine g_goto 24 d_X1_most_9 (by decide) ?_
      (try simp only [if_neg h1, opv_eq, if_true, if_false, Bool.false_eq_true, reduceCtorEq, b2i_t, b2i_f, u0_X1_most] at hj); exact hj
  · skip
    exact g_iret rfl d_X1_most_24 ⟨by simp only [f_X1_most, opv_eq, if_true, if_false, Bool.false_eq_true, reduceCtorEq, b2i_t, b2i_f], rfl⟩ (Nat.le_refl _) (Nat.le_refl _)
noncomputable def u0_X1_narrowDitches (I : Nat → Nat → Int32) (x1 : Nat) (l1 : Int32) (l2 : Int32) (l3 : Int32) : Int32 := opv (if (f_X1_most I x1 l3 ((f_X7_cell I (rt x1 10) l3 2) + 1)) ≤ l1 then l2 else l2 ||| (1 <<< (l3 &&& 31)))
noncomputable def lp_X1_narrowDitches_11 (I : Nat → Nat → Int32) (x1 : Nat) (l1 : Int32) : Nat → Int32 → Int32 → Int32 × Int32
  | 0, l2, l3 => (l2, l3)
  | n + 1, l2, l3 => (if (I (rt x1 10) 3) ≤ l3 then (l2, l3) else (lp_X1_narrowDitches_11 I x1 l1 n (u0_X1_narrowDitches I x1 l1 l2 l3) (l3 + 1)))
set_option maxHeartbeats 800000 in
set_option maxRecDepth 4000 in
theorem k_lp_X1_narrowDitches_11 {k : KT} {ex : Bool} {J : Nat → Nat → Int64} {w : Bool} (I : Nat → Nat → Int32) (x1 : Nat) (hx1 : kd x1 = 7) (l1 : Int32) {F : FinT} : ∀ (n : Nat) (l2 : Int32) (l3 : Int32), mu_up (I (rt x1 10) 3) l3 < n → G k mX1_narrowDitches (roomOf 6 0 0) F 0 0 54 [some (.ref (ka k x1)), some (.int l1), some (.int ((lp_X1_narrowDitches_11 I x1 l1 n l2 l3).1)), some (.int ((lp_X1_narrowDitches_11 I x1 l1 n l2 l3).2))] [] (81, ex, I, J, Pw w) → G k mX1_narrowDitches (roomOf 6 0 0) F 0 0 11 [some (.ref (ka k x1)), some (.int l1), some (.int l2), some (.int l3)] [] (81, ex, I, J, Pw w) := by
  intro n
  induction n with
  | zero => intro l2 l3 hmu hj; exact absurd hmu (Nat.not_lt_zero _)
  | succ n ih =>
    intro l2 l3 hmu hj
    refine g_iload_n3 rfl d_X1_narrowDitches_11 ?_
    refine g_aload_n0 rfl d_X1_narrowDitches_12 ?_
    refine g_getP (b := rt x1 10) f_X1_25 d_X1_narrowDitches_13 hx1 (kd_sg hx1 (by decide)) rfl (pw_rt hx1 (by decide) (by decide)) ?_
    refine g_getI f_X1_29 d_X1_narrowDitches_16 (kt7 hx1).2.2.2 (kd_sg ((kt7 hx1).2.2.2) (by decide)) rfl ?_
    refine g_icmp_ge 54 d_X1_narrowDitches_19 (by decide) (fun h1 => ?_) (fun h1 => ?_)
    · skip
      (try simp only [lp_X1_narrowDitches_11, if_pos h1, opv_eq, if_true, if_false, Bool.false_eq_true, reduceCtorEq, b2i_t, b2i_f] at hj); exact hj
    · skip
      refine g_aload_n0 rfl d_X1_narrowDitches_22 ?_
      refine g_iload_n3 rfl d_X1_narrowDitches_23 ?_
      refine g_aload_n0 rfl d_X1_narrowDitches_24 ?_
      refine g_getP (b := rt x1 10) f_X1_25 d_X1_narrowDitches_25 hx1 (kd_sg hx1 (by decide)) rfl (pw_rt hx1 (by decide) (by decide)) ?_
      refine g_iload_n3 rfl d_X1_narrowDitches_28 ?_
      refine g_iconst 2 d_X1_narrowDitches_29 (by decide) ?_
      refine g_callV1 (c_X7_cell I (rt x1 10) (kt7 hx1).2.2.2 l3 2 (okt_X7_cell I (rt x1 10) (kt7 hx1).2.2.2 l3 2)) w_X7_cell l_X1_34 d_X1_narrowDitches_30 (kt7 hx1).2.2.2 (kd_sg ((kt7 hx1).2.2.2) (by decide)) rfl rfl (Nat.le_of_ble_eq_true rfl) ⟨Nat.le_of_ble_eq_true rfl, Nat.le_of_ble_eq_true rfl⟩ ⟨Nat.zero_le _, Nat.zero_le _⟩ ⟨rfl, rfl⟩ ?_
      refine g_iconst 1 d_X1_narrowDitches_33 (by decide) ?_
      refine g_iadd d_X1_narrowDitches_34 ?_
      refine g_callS1 (c_X1_most I x1 hx1 l3 ((f_X7_cell I (rt x1 10) l3 2) + 1)) w_X1_most l_X1_38 d_X1_narrowDitches_35 rfl rfl (Nat.le_of_ble_eq_true rfl) ⟨Nat.le_of_ble_eq_true rfl, Nat.le_of_ble_eq_true rfl⟩ ⟨Nat.zero_le _, Nat.zero_le _⟩ ⟨rfl, rfl⟩ ?_
      refine g_iload_n1 rfl d_X1_narrowDitches_38 ?_
      refine g_cut (pc' := 48) (vs' := [some (.ref (ka k x1)), some (.int l1), some (.int (u0_X1_narrowDitches I x1 l1 l2 l3)), some (.int l3)]) (st' := []) (M' := (81, ex, I, J, Pw w)) (fun hj => ?_) ?_
      · skip
        refine g_icmp_le 48 d_X1_narrowDitches_39 (by decide) (fun h2 => ?_) (fun h2 => ?_)
        · skip
          (try simp only [if_pos h2, opv_eq, if_true, if_false, Bool.false_eq_true, reduceCtorEq, b2i_t, b2i_f, u0_X1_narrowDitches] at hj); exact hj
        · skip
          refine g_iload_n2 rfl d_X1_narrowDitches_42 ?_
          refine g_iconst 1 d_X1_narrowDitches_43 (by decide) ?_
          refine g_iload_n3 rfl d_X1_narrowDitches_44 ?_
          refine g_ishl d_X1_narrowDitches_45 ?_
          refine g_ior d_X1_narrowDitches_46 ?_
          refine g_isn2 rfl d_X1_narrowDitches_47 ?_
          (try simp only [if_neg h2, opv_eq, if_true, if_false, Bool.false_eq_true, reduceCtorEq, b2i_t, b2i_f, u0_X1_narrowDitches] at hj); exact hj
      · skip
        refine g_ic3 (l3 + 1) rfl rfl d_X1_narrowDitches_48 ?_
        refine g_goto 11 d_X1_narrowDitches_51 (by decide) ?_
        exact ih (u0_X1_narrowDitches I x1 l1 l2 l3) (l3 + 1) (Nat.lt_of_lt_of_le (mu_up_lt h1) (Nat.le_of_lt_succ hmu)) (by (try simp only [lp_X1_narrowDitches_11, if_neg h1, opv_eq, if_true, if_false, Bool.false_eq_true, reduceCtorEq, b2i_t, b2i_f] at hj); exact hj)
noncomputable def f_X1_narrowDitches (I : Nat → Nat → Int32) (x1 : Nat) : Int32 := opv ((lp_X1_narrowDitches_11 I x1 (f_X1_most I x1 (-1) 0) (mu_up (I (rt x1 10) 3) 0 + 1) 0 0).1)
set_option maxHeartbeats 800000 in
set_option maxRecDepth 4000 in
theorem c_X1_narrowDitches {k : KT} {ex : Bool} {J : Nat → Nat → Int64} {w : Bool} (I : Nat → Nat → Int32) (x1 : Nat) (hx1 : kd x1 = 7)  : Cx k mX1_narrowDitches 6 [.ref (ka k x1)] (81, ex, I, J, Pw w) (some (.int (f_X1_narrowDitches I x1))) (81, ex, I, J, Pw w) := by
  refine Ct.of rfl [some (.ref (ka k x1)), none, none, none] rfl rfl (Nat.le_of_ble_eq_true rfl) ?_
  refine g_aload_n0 rfl d_X1_narrowDitches_0 ?_
  refine g_iconst (-1) d_X1_narrowDitches_1 (by decide) ?_
  refine g_iconst 0 d_X1_narrowDitches_2 (by decide) ?_
  refine g_callS1 (c_X1_most I x1 hx1 (-1) 0) w_X1_most l_X1_38 d_X1_narrowDitches_3 rfl rfl (Nat.le_of_ble_eq_true rfl) ⟨Nat.le_of_ble_eq_true rfl, Nat.le_of_ble_eq_true rfl⟩ ⟨Nat.zero_le _, Nat.zero_le _⟩ ⟨rfl, rfl⟩ ?_
  refine g_isn1 rfl d_X1_narrowDitches_6 ?_
  refine g_iconst 0 d_X1_narrowDitches_7 (by decide) ?_
  refine g_isn2 rfl d_X1_narrowDitches_8 ?_
  refine g_iconst 0 d_X1_narrowDitches_9 (by decide) ?_
  refine g_isn3 rfl d_X1_narrowDitches_10 ?_
  refine k_lp_X1_narrowDitches_11 I x1 hx1 (f_X1_most I x1 (-1) 0) _ 0 0 (Nat.lt_succ_self _) ?_
  refine g_iload_n2 rfl d_X1_narrowDitches_54 ?_
  exact g_iret rfl d_X1_narrowDitches_55 ⟨by simp only [f_X1_narrowDitches, opv_eq, if_true, if_false, Bool.false_eq_true, reduceCtorEq, b2i_t, b2i_f], rfl⟩ (Nat.le_refl _) (Nat.le_refl _)
noncomputable def u0_X1_reachedFrom (I : Nat → Nat → Int32) (x1 : Nat) (l2 : Int32) (l4 : Int32) : Int32 := opv (if ((l2 >>> ((f_X7_cell I (rt x1 10) l4 0) &&& 31)) &&& 1) = 1 then l2 ||| (1 <<< ((f_X7_cell I (rt x1 10) l4 1) &&& 31)) else l2)
noncomputable def lp_X1_reachedFrom_17 (I : Nat → Nat → Int32) (x1 : Nat) (x2 : Int32) (l3 : Int32) : Nat → Int32 → Int32 → Int32 × Int32
  | 0, l2, l4 => (l2, l4)
  | n + 1, l2, l4 => (if (I (rt x1 10) 3) ≤ l4 then (l2, l4) else (lp_X1_reachedFrom_17 I x1 x2 l3 n (u0_X1_reachedFrom I x1 l2 l4) (l4 + 1)))
set_option maxHeartbeats 800000 in
set_option maxRecDepth 4000 in
theorem k_lp_X1_reachedFrom_17 {k : KT} {ex : Bool} {J : Nat → Nat → Int64} {w : Bool} (I : Nat → Nat → Int32) (x1 : Nat) (hx1 : kd x1 = 7) (x2 : Int32) (l3 : Int32) {F : FinT} : ∀ (n : Nat) (l2 : Int32) (l4 : Int32), mu_up (I (rt x1 10) 3) l4 < n → G k mX1_reachedFrom (roomOf 3 0 0) F 0 0 68 [some (.ref (ka k x1)), some (.int x2), some (.int ((lp_X1_reachedFrom_17 I x1 x2 l3 n l2 l4).1)), some (.int l3), some (.int ((lp_X1_reachedFrom_17 I x1 x2 l3 n l2 l4).2))] [] (81, ex, I, J, Pw w) → G k mX1_reachedFrom (roomOf 3 0 0) F 0 0 17 [some (.ref (ka k x1)), some (.int x2), some (.int l2), some (.int l3), some (.int l4)] [] (81, ex, I, J, Pw w) := by
  intro n
  induction n with
  | zero => intro l2 l4 hmu hj; exact absurd hmu (Nat.not_lt_zero _)
  | succ n ih =>
    intro l2 l4 hmu hj
    refine g_iload (i := 4) rfl d_X1_reachedFrom_17 ?_
    refine g_aload_n0 rfl d_X1_reachedFrom_19 ?_
    refine g_getP (b := rt x1 10) f_X1_25 d_X1_reachedFrom_20 hx1 (kd_sg hx1 (by decide)) rfl (pw_rt hx1 (by decide) (by decide)) ?_
    refine g_getI f_X1_29 d_X1_reachedFrom_23 (kt7 hx1).2.2.2 (kd_sg ((kt7 hx1).2.2.2) (by decide)) rfl ?_
    refine g_icmp_ge 68 d_X1_reachedFrom_26 (by decide) (fun h1 => ?_) (fun h1 => ?_)
    · skip
      (try simp only [lp_X1_reachedFrom_17, if_pos h1, opv_eq, if_true, if_false, Bool.false_eq_true, reduceCtorEq, b2i_t, b2i_f] at hj); exact hj
    · skip
      refine g_iload_n2 rfl d_X1_reachedFrom_29 ?_
      refine g_aload_n0 rfl d_X1_reachedFrom_30 ?_
      refine g_getP (b := rt x1 10) f_X1_25 d_X1_reachedFrom_31 hx1 (kd_sg hx1 (by decide)) rfl (pw_rt hx1 (by decide) (by decide)) ?_
      refine g_iload (i := 4) rfl d_X1_reachedFrom_34 ?_
      refine g_iconst 0 d_X1_reachedFrom_36 (by decide) ?_
      refine g_callV1 (c_X7_cell I (rt x1 10) (kt7 hx1).2.2.2 l4 0 (okt_X7_cell I (rt x1 10) (kt7 hx1).2.2.2 l4 0)) w_X7_cell l_X1_34 d_X1_reachedFrom_37 (kt7 hx1).2.2.2 (kd_sg ((kt7 hx1).2.2.2) (by decide)) rfl rfl (Nat.le_of_ble_eq_true rfl) ⟨Nat.le_of_ble_eq_true rfl, Nat.le_of_ble_eq_true rfl⟩ ⟨Nat.zero_le _, Nat.zero_le _⟩ ⟨rfl, rfl⟩ ?_
      refine g_ishr d_X1_reachedFrom_40 ?_
      refine g_iconst 1 d_X1_reachedFrom_41 (by decide) ?_
      refine g_iand d_X1_reachedFrom_42 ?_
      refine g_iconst 1 d_X1_reachedFrom_43 (by decide) ?_
      refine g_cut (pc' := 62) (vs' := [some (.ref (ka k x1)), some (.int x2), some (.int (u0_X1_reachedFrom I x1 l2 l4)), some (.int l3), some (.int l4)]) (st' := []) (M' := (81, ex, I, J, Pw w)) (fun hj => ?_) ?_
      · skip
        refine g_icmp_ne 62 d_X1_reachedFrom_44 (by decide) (fun h2 => ?_) (fun h2 => ?_)
        · skip
          (try simp only [if_neg h2, opv_eq, if_true, if_false, Bool.false_eq_true, reduceCtorEq, b2i_t, b2i_f, u0_X1_reachedFrom] at hj); exact hj
        · skip
          refine g_iload_n2 rfl d_X1_reachedFrom_47 ?_
          refine g_iconst 1 d_X1_reachedFrom_48 (by decide) ?_
          refine g_aload_n0 rfl d_X1_reachedFrom_49 ?_
          refine g_getP (b := rt x1 10) f_X1_25 d_X1_reachedFrom_50 hx1 (kd_sg hx1 (by decide)) rfl (pw_rt hx1 (by decide) (by decide)) ?_
          refine g_iload (i := 4) rfl d_X1_reachedFrom_53 ?_
          refine g_iconst 1 d_X1_reachedFrom_55 (by decide) ?_
          refine g_callV1 (c_X7_cell I (rt x1 10) (kt7 hx1).2.2.2 l4 1 (okt_X7_cell I (rt x1 10) (kt7 hx1).2.2.2 l4 1)) w_X7_cell l_X1_34 d_X1_reachedFrom_56 (kt7 hx1).2.2.2 (kd_sg ((kt7 hx1).2.2.2) (by decide)) rfl rfl (Nat.le_of_ble_eq_true rfl) ⟨Nat.le_of_ble_eq_true rfl, Nat.le_of_ble_eq_true rfl⟩ ⟨Nat.zero_le _, Nat.zero_le _⟩ ⟨rfl, rfl⟩ ?_
          refine g_ishl d_X1_reachedFrom_59 ?_
          refine g_ior d_X1_reachedFrom_60 ?_
          refine g_isn2 rfl d_X1_reachedFrom_61 ?_
          (try simp only [if_pos h2, opv_eq, if_true, if_false, Bool.false_eq_true, reduceCtorEq, b2i_t, b2i_f, u0_X1_reachedFrom] at hj); exact hj
      · skip
        refine g_ic4 (l4 + 1) rfl rfl d_X1_reachedFrom_62 ?_
        refine g_goto 17 d_X1_reachedFrom_65 (by decide) ?_
        exact ih (u0_X1_reachedFrom I x1 l2 l4) (l4 + 1) (Nat.lt_of_lt_of_le (mu_up_lt h1) (Nat.le_of_lt_succ hmu)) (by (try simp only [lp_X1_reachedFrom_17, if_neg h1, opv_eq, if_true, if_false, Bool.false_eq_true, reduceCtorEq, b2i_t, b2i_f] at hj); exact hj)
noncomputable def lp_X1_reachedFrom_6 (I : Nat → Nat → Int32) (x1 : Nat) (x2 : Int32) : Nat → Int32 → Int32 → Int32 × Int32
  | 0, l2, l3 => (l2, l3)
  | n + 1, l2, l3 => (if (I x1 6) ≤ l3 then (l2, l3) else (lp_X1_reachedFrom_6 I x1 x2 n ((lp_X1_reachedFrom_17 I x1 x2 l3 (mu_up (I (rt x1 10) 3) 0 + 1) l2 0).1) (l3 + 1)))
set_option maxHeartbeats 800000 in
set_option maxRecDepth 4000 in
theorem k_lp_X1_reachedFrom_6 {k : KT} {ex : Bool} {J : Nat → Nat → Int64} {w : Bool} (I : Nat → Nat → Int32) (x1 : Nat) (hx1 : kd x1 = 7) (x2 : Int32) {F : FinT} : ∀ (n : Nat) (l2 : Int32) (l3 : Int32), mu_up (I x1 6) l3 < n → G k mX1_reachedFrom (roomOf 3 0 0) F 0 0 74 [some (.ref (ka k x1)), some (.int x2), some (.int ((lp_X1_reachedFrom_6 I x1 x2 n l2 l3).1)), some (.int ((lp_X1_reachedFrom_6 I x1 x2 n l2 l3).2)), none] [] (81, ex, I, J, Pw w) → G k mX1_reachedFrom (roomOf 3 0 0) F 0 0 6 [some (.ref (ka k x1)), some (.int x2), some (.int l2), some (.int l3), none] [] (81, ex, I, J, Pw w) := by
  intro n
  induction n with
  | zero => intro l2 l3 hmu hj; exact absurd hmu (Nat.not_lt_zero _)
  | succ n ih =>
    intro l2 l3 hmu hj
    refine g_iload_n3 rfl d_X1_reachedFrom_6 ?_
    refine g_aload_n0 rfl d_X1_reachedFrom_7 ?_
    refine g_getI f_X1_9 d_X1_reachedFrom_8 hx1 (kd_sg hx1 (by decide)) rfl ?_
    refine g_icmp_ge 74 d_X1_reachedFrom_11 (by decide) (fun h3 => ?_) (fun h3 => ?_)
    · skip
      (try simp only [lp_X1_reachedFrom_6, if_pos h3, opv_eq, if_true, if_false, Bool.false_eq_true, reduceCtorEq, b2i_t, b2i_f] at hj); exact hj
    · skip
      refine g_iconst 0 d_X1_reachedFrom_14 (by decide) ?_
      refine g_is4 rfl d_X1_reachedFrom_15 ?_
      refine k_lp_X1_reachedFrom_17 I x1 hx1 x2 l3 _ l2 0 (Nat.lt_succ_self _) ?_
      refine g_ic3 (l3 + 1) rfl rfl d_X1_reachedFrom_68 ?_
      refine g_goto 6 d_X1_reachedFrom_71 (by decide) ?_
      refine G.weak (wks (wks (wks (wks (wkn wk0))))) ?_; exact ih ((lp_X1_reachedFrom_17 I x1 x2 l3 (mu_up (I (rt x1 10) 3) 0 + 1) l2 0).1) (l3 + 1) (Nat.lt_of_lt_of_le (mu_up_lt h3) (Nat.le_of_lt_succ hmu)) (by (try simp only [lp_X1_reachedFrom_6, if_neg h3, opv_eq, if_true, if_false, Bool.false_eq_true, reduceCtorEq, b2i_t, b2i_f] at hj); exact hj)
noncomputable def f_X1_reachedFrom (I : Nat → Nat → Int32) (x1 : Nat) (x2 : Int32) : Int32 := opv ((lp_X1_reachedFrom_6 I x1 x2 (mu_up (I x1 6) 0 + 1) (1 <<< (x2 &&& 31)) 0).1)
set_option maxHeartbeats 800000 in
set_option maxRecDepth 4000 in
theorem c_X1_reachedFrom {k : KT} {ex : Bool} {J : Nat → Nat → Int64} {w : Bool} (I : Nat → Nat → Int32) (x1 : Nat) (hx1 : kd x1 = 7) (x2 : Int32)  : Cx k mX1_reachedFrom 3 [.ref (ka k x1), .int x2] (81, ex, I, J, Pw w) (some (.int (f_X1_reachedFrom I x1 x2))) (81, ex, I, J, Pw w) := by
  refine Ct.of rfl [some (.ref (ka k x1)), some (.int x2), none, none, none] rfl rfl (Nat.le_of_ble_eq_true rfl) ?_
  refine g_iconst 1 d_X1_reachedFrom_0 (by decide) ?_
  refine g_iload_n1 rfl d_X1_reachedFrom_1 ?_
  refine g_ishl d_X1_reachedFrom_2 ?_
  refine g_isn2 rfl d_X1_reachedFrom_3 ?_
  refine g_iconst 0 d_X1_reachedFrom_4 (by decide) ?_
  refine g_isn3 rfl d_X1_reachedFrom_5 ?_
  refine k_lp_X1_reachedFrom_6 I x1 hx1 x2 _ (1 <<< (x2 &&& 31)) 0 (Nat.lt_succ_self _) ?_
  refine g_iload_n2 rfl d_X1_reachedFrom_74 ?_
  exact g_iret rfl d_X1_reachedFrom_75 ⟨by simp only [f_X1_reachedFrom, opv_eq, if_true, if_false, Bool.false_eq_true, reduceCtorEq, b2i_t, b2i_f], rfl⟩ (Nat.le_refl _) (Nat.le_refl _)
