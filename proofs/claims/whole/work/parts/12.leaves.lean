theorem b2i_t : b2i true = 1 := rfl
theorem b2i_f : b2i false = 0 := rfl
theorem nb {b : Bool} (h : b = false) : ¬ b = true := by rw [h]; decide
def f_X7_holds (I : Nat → Nat → Int32) (a : Nat) (x1 : Int32) : Bool := (if x1 < 0 then false else (if (I a 3) ≤ x1 then false else true))
set_option maxHeartbeats 2000000 in
set_option maxRecDepth 4000 in
theorem c_X7_holds {k : KT} {ex : Bool} {J : Nat → Nat → Int64} {w : Bool} (I : Nat → Nat → Int32) (a : Nat) (ha : kd a = 6) (x1 : Int32)  : Cx k mX7_holds 1 [.ref (kB k + a), .int x1] (81, ex, I, J, Pw w) (some (.int (b2i (f_X7_holds I a x1)))) (81, ex, I, J, Pw w) := by
  refine Ct.of rfl [some (.ref (kB k + a)), some (.int x1)] rfl rfl (Nat.le_of_ble_eq_true rfl) ?_
  refine g_iload_n1 rfl d_X7_holds_0 ?_
  refine g_cut (pc' := 17) (vs' := [some (.ref (kB k + a)), some (.int x1)]) (st' := [.int (b2i (if x1 < 0 then false else (if (I a 3) ≤ x1 then false else true)))]) (M' := (81, ex, I, J, Pw w)) (fun hj => ?_) ?_
  · skip
    refine g_if_lt 16 d_X7_holds_1 (by decide) (fun h1 => ?_) (fun h1 => ?_)
    · skip
      refine g_iconst 0 d_X7_holds_16 (by decide) ?_
      (try simp only [if_pos h1, if_true, if_false, Bool.false_eq_true, ite_true, ite_false, reduceCtorEq, b2i_t, b2i_f] at hj); exact hj
    · skip
      refine g_iload_n1 rfl d_X7_holds_4 ?_
      refine g_aload_n0 rfl d_X7_holds_5 ?_
      refine g_getI f_X7_20 d_X7_holds_6 ha (kd_lt ha (by decide)) rfl ?_
      refine g_icmp_ge 16 d_X7_holds_9 (by decide) (fun h2 => ?_) (fun h2 => ?_)
      · skip
        refine g_iconst 0 d_X7_holds_16 (by decide) ?_
        (try simp only [if_neg h1, if_pos h2, if_true, if_false, Bool.false_eq_true, ite_true, ite_false, reduceCtorEq, b2i_t, b2i_f] at hj); exact hj
      · skip
        refine g_iconst 1 d_X7_holds_12 (by decide) ?_
        refine g_goto 17 d_X7_holds_13 (by decide) ?_
        (try simp only [if_neg h1, if_neg h2, if_true, if_false, Bool.false_eq_true, ite_true, ite_false, reduceCtorEq, b2i_t, b2i_f] at hj); exact hj
  · skip
    exact g_zret rfl (nar_b _) d_X7_holds_17 ⟨by simp only [f_X7_holds, if_true, if_false, Bool.false_eq_true, reduceCtorEq, b2i_t, b2i_f], rfl⟩ (Nat.le_refl _) (Nat.le_refl _)
def f_X7_isFull (I : Nat → Nat → Int32) (a : Nat) : Bool := (if (I a 3) < (I a 0) then false else true)
set_option maxHeartbeats 2000000 in
set_option maxRecDepth 4000 in
theorem c_X7_isFull {k : KT} {ex : Bool} {J : Nat → Nat → Int64} {w : Bool} (I : Nat → Nat → Int32) (a : Nat) (ha : kd a = 6)  : Cx k mX7_isFull 1 [.ref (kB k + a)] (81, ex, I, J, Pw w) (some (.int (b2i (f_X7_isFull I a)))) (81, ex, I, J, Pw w) := by
  refine Ct.of rfl [some (.ref (kB k + a))] rfl rfl (Nat.le_of_ble_eq_true rfl) ?_
  refine g_aload_n0 rfl d_X7_isFull_0 ?_
  refine g_getI f_X7_20 d_X7_isFull_1 ha (kd_lt ha (by decide)) rfl ?_
  refine g_aload_n0 rfl d_X7_isFull_4 ?_
  refine g_getI f_X7_7 d_X7_isFull_5 ha (kd_lt ha (by decide)) rfl ?_
  refine g_cut (pc' := 16) (vs' := [some (.ref (kB k + a))]) (st' := [.int (b2i (if (I a 3) < (I a 0) then false else true))]) (M' := (81, ex, I, J, Pw w)) (fun hj => ?_) ?_
  · skip
    refine g_icmp_lt 15 d_X7_isFull_8 (by decide) (fun h1 => ?_) (fun h1 => ?_)
    · skip
      refine g_iconst 0 d_X7_isFull_15 (by decide) ?_
      (try simp only [if_pos h1, if_true, if_false, Bool.false_eq_true, ite_true, ite_false, reduceCtorEq, b2i_t, b2i_f] at hj); exact hj
    · skip
      refine g_iconst 1 d_X7_isFull_11 (by decide) ?_
      refine g_goto 16 d_X7_isFull_12 (by decide) ?_
      (try simp only [if_neg h1, if_true, if_false, Bool.false_eq_true, ite_true, ite_false, reduceCtorEq, b2i_t, b2i_f] at hj); exact hj
  · skip
    exact g_zret rfl (nar_b _) d_X7_isFull_16 ⟨by simp only [f_X7_isFull, if_true, if_false, Bool.false_eq_true, reduceCtorEq, b2i_t, b2i_f], rfl⟩ (Nat.le_refl _) (Nat.le_refl _)
def f_X0_pullOfDamp (I : Nat → Nat → Int32) (x1 : Int32) : Int32 := (x1 - 50) / 10
set_option maxHeartbeats 2000000 in
set_option maxRecDepth 4000 in
theorem c_X0_pullOfDamp {k : KT} {ex : Bool} {J : Nat → Nat → Int64} {w : Bool} (I : Nat → Nat → Int32) (x1 : Int32)  : Cx k mX0_pullOfDamp 1 [.int x1] (81, ex, I, J, Pw w) (some (.int (f_X0_pullOfDamp I x1))) (81, ex, I, J, Pw w) := by
  refine Ct.of rfl [some (.int x1)] rfl rfl (Nat.le_of_ble_eq_true rfl) ?_
  refine g_iload_n0 rfl d_X0_pullOfDamp_0 ?_
  refine g_bipush 50 d_X0_pullOfDamp_1 (by decide) ?_
  refine g_isub d_X0_pullOfDamp_3 ?_
  refine g_bipush 10 d_X0_pullOfDamp_4 (by decide) ?_
  refine g_idiv (by decide) d_X0_pullOfDamp_6 ?_
  exact g_iret rfl d_X0_pullOfDamp_7 ⟨by simp only [f_X0_pullOfDamp, if_true, if_false, Bool.false_eq_true, reduceCtorEq, b2i_t, b2i_f], rfl⟩ (Nat.le_refl _) (Nat.le_refl _)
def f_X0_reach (I : Nat → Nat → Int32) (a : Nat) (x1 : Int32) : Int32 := (if x1 < (100 - (10 * (I a 2))) then 1 + (I a 3) else imax 0 ((1 + (I a 3)) - 1))
set_option maxHeartbeats 2000000 in
set_option maxRecDepth 4000 in
theorem c_X0_reach {k : KT} {ex : Bool} {J : Nat → Nat → Int64} {w : Bool} (I : Nat → Nat → Int32) (a : Nat) (ha : kd a = 0) (x1 : Int32)  : Cx k mX0_reach 2 [.ref (kB k + a), .int x1] (81, ex, I, J, Pw w) (some (.int (f_X0_reach I a x1))) (81, ex, I, J, Pw w) := by
  refine Ct.of rfl [some (.ref (kB k + a)), some (.int x1), none] rfl rfl (Nat.le_of_ble_eq_true rfl) ?_
  refine g_iconst 1 d_X0_reach_0 (by decide) ?_
  refine g_aload_n0 rfl d_X0_reach_1 ?_
  refine g_getI f_X0_21 d_X0_reach_2 ha (kd_lt ha (by decide)) rfl ?_
  refine g_iadd d_X0_reach_5 ?_
  refine g_isn2 rfl d_X0_reach_6 ?_
  refine g_iload_n1 rfl d_X0_reach_7 ?_
  refine g_bipush 100 d_X0_reach_8 (by decide) ?_
  refine g_bipush 10 d_X0_reach_10 (by decide) ?_
  refine g_aload_n0 rfl d_X0_reach_12 ?_
  refine g_getI f_X0_18 d_X0_reach_13 ha (kd_lt ha (by decide)) rfl ?_
  refine g_imul d_X0_reach_16 ?_
  refine g_isub d_X0_reach_17 ?_
  refine g_cut (pc' := 32) (vs' := [some (.ref (kB k + a)), some (.int x1), some (.int (1 + (I a 3)))]) (st' := [.int (if x1 < (100 - (10 * (I a 2))) then 1 + (I a 3) else imax 0 ((1 + (I a 3)) - 1))]) (M' := (81, ex, I, J, Pw w)) (fun hj => ?_) ?_
  · skip
    refine g_icmp_lt 31 d_X0_reach_18 (by decide) (fun h1 => ?_) (fun h1 => ?_)
    · skip
      refine g_iload_n2 rfl d_X0_reach_31 ?_
      (try simp only [if_pos h1, if_true, if_false, Bool.false_eq_true, ite_true, ite_false, reduceCtorEq, b2i_t, b2i_f] at hj); exact hj
    · skip
      refine g_iconst 0 d_X0_reach_21 (by decide) ?_
      refine g_iload_n2 rfl d_X0_reach_22 ?_
      refine g_iconst 1 d_X0_reach_23 (by decide) ?_
      refine g_isub d_X0_reach_24 ?_
      refine g_mmax lm_X0_39 d_X0_reach_25 (Nat.le_of_ble_eq_true rfl) ⟨Nat.le_of_ble_eq_true rfl, Nat.le_of_ble_eq_true rfl⟩ ⟨Nat.zero_le _, Nat.zero_le _⟩ ?_
      refine g_goto 32 d_X0_reach_28 (by decide) ?_
      (try simp only [if_neg h1, if_true, if_false, Bool.false_eq_true, ite_true, ite_false, reduceCtorEq, b2i_t, b2i_f] at hj); exact hj
  · skip
    exact g_iret rfl d_X0_reach_32 ⟨by simp only [f_X0_reach, if_true, if_false, Bool.false_eq_true, reduceCtorEq, b2i_t, b2i_f], rfl⟩ (Nat.le_refl _) (Nat.le_refl _)
def f_X0_turned (I : Nat → Nat → Int32) (a : Nat) (x1 : Int32) (x2 : Int32) : Int32 := (I a 0) + (imax (-(f_X0_reach I a x2)) (imin (f_X0_reach I a x2) ((imax (-9) (imin 9 x1)) - (I a 0))))
set_option maxHeartbeats 2000000 in
set_option maxRecDepth 4000 in
theorem c_X0_turned {k : KT} {ex : Bool} {J : Nat → Nat → Int64} {w : Bool} (I : Nat → Nat → Int32) (a : Nat) (ha : kd a = 0) (x1 : Int32) (x2 : Int32)  : Cx k mX0_turned 3 [.ref (kB k + a), .int x1, .int x2] (81, ex, I, J, Pw w) (some (.int (f_X0_turned I a x1 x2))) (81, ex, I, J, Pw w) := by
  refine Ct.of rfl [some (.ref (kB k + a)), some (.int x1), some (.int x2), none, none] rfl rfl (Nat.le_of_ble_eq_true rfl) ?_
  refine g_aload_n0 rfl d_X0_turned_0 ?_
  refine g_iload_n2 rfl d_X0_turned_1 ?_
  refine g_callV1 (c_X0_reach I a ha x2) w_X0_reach l_X0_45 d_X0_turned_2 ha (kd_lt ha (by decide)) rfl rfl (Nat.le_of_ble_eq_true rfl) ⟨Nat.le_of_ble_eq_true rfl, Nat.le_of_ble_eq_true rfl⟩ ⟨Nat.zero_le _, Nat.zero_le _⟩ ⟨rfl, rfl⟩ ?_
  refine g_isn3 rfl d_X0_turned_5 ?_
  refine g_bipush (-9) d_X0_turned_6 (by decide) ?_
  refine g_bipush 9 d_X0_turned_8 (by decide) ?_
  refine g_iload_n1 rfl d_X0_turned_10 ?_
  refine g_mmin lm_X0_49 d_X0_turned_11 (Nat.le_of_ble_eq_true rfl) ⟨Nat.le_of_ble_eq_true rfl, Nat.le_of_ble_eq_true rfl⟩ ⟨Nat.zero_le _, Nat.zero_le _⟩ ?_
  refine g_mmax lm_X0_39 d_X0_turned_14 (Nat.le_of_ble_eq_true rfl) ⟨Nat.le_of_ble_eq_true rfl, Nat.le_of_ble_eq_true rfl⟩ ⟨Nat.zero_le _, Nat.zero_le _⟩ ?_
  refine g_is4 rfl d_X0_turned_17 ?_
  refine g_aload_n0 rfl d_X0_turned_19 ?_
  refine g_getI f_X0_9 d_X0_turned_20 ha (kd_lt ha (by decide)) rfl ?_
  refine g_iload_n3 rfl d_X0_turned_23 ?_
  refine g_ineg d_X0_turned_24 ?_
  refine g_iload_n3 rfl d_X0_turned_25 ?_
  refine g_iload (i := 4) rfl d_X0_turned_26 ?_
  refine g_aload_n0 rfl d_X0_turned_28 ?_
  refine g_getI f_X0_9 d_X0_turned_29 ha (kd_lt ha (by decide)) rfl ?_
  refine g_isub d_X0_turned_32 ?_
  refine g_mmin lm_X0_49 d_X0_turned_33 (Nat.le_of_ble_eq_true rfl) ⟨Nat.le_of_ble_eq_true rfl, Nat.le_of_ble_eq_true rfl⟩ ⟨Nat.zero_le _, Nat.zero_le _⟩ ?_
  refine g_mmax lm_X0_39 d_X0_turned_36 (Nat.le_of_ble_eq_true rfl) ⟨Nat.le_of_ble_eq_true rfl, Nat.le_of_ble_eq_true rfl⟩ ⟨Nat.zero_le _, Nat.zero_le _⟩ ?_
  refine g_iadd d_X0_turned_39 ?_
  exact g_iret rfl d_X0_turned_40 ⟨by simp only [f_X0_turned, if_true, if_false, Bool.false_eq_true, reduceCtorEq, b2i_t, b2i_f], rfl⟩ (Nat.le_refl _) (Nat.le_refl _)
def f_X0_whoIsOut (I : Nat → Nat → Int32) (a : Nat) : Int32 := (b2i (if (I a 0) < (3 - (I a 3)) then false else true)) + (if (-(I a 0)) < (3 - (I a 3)) then 0 else 2)
set_option maxHeartbeats 2000000 in
set_option maxRecDepth 4000 in
theorem c_X0_whoIsOut {k : KT} {ex : Bool} {J : Nat → Nat → Int64} {w : Bool} (I : Nat → Nat → Int32) (a : Nat) (ha : kd a = 0)  : Cx k mX0_whoIsOut 1 [.ref (kB k + a)] (81, ex, I, J, Pw w) (some (.int (f_X0_whoIsOut I a))) (81, ex, I, J, Pw w) := by
  refine Ct.of rfl [some (.ref (kB k + a)), none] rfl rfl (Nat.le_of_ble_eq_true rfl) ?_
  refine g_iconst 3 d_X0_whoIsOut_0 (by decide) ?_
  refine g_aload_n0 rfl d_X0_whoIsOut_1 ?_
  refine g_getI f_X0_21 d_X0_whoIsOut_2 ha (kd_lt ha (by decide)) rfl ?_
  refine g_isub d_X0_whoIsOut_5 ?_
  refine g_isn1 rfl d_X0_whoIsOut_6 ?_
  refine g_aload_n0 rfl d_X0_whoIsOut_7 ?_
  refine g_getI f_X0_9 d_X0_whoIsOut_8 ha (kd_lt ha (by decide)) rfl ?_
  refine g_iload_n1 rfl d_X0_whoIsOut_11 ?_
  refine g_cut (pc' := 20) (vs' := [some (.ref (kB k + a)), some (.int (3 - (I a 3)))]) (st' := [.int (b2i (if (I a 0) < (3 - (I a 3)) then false else true))]) (M' := (81, ex, I, J, Pw w)) (fun hj => ?_) ?_
  · skip
    refine g_icmp_lt 19 d_X0_whoIsOut_12 (by decide) (fun h1 => ?_) (fun h1 => ?_)
    · skip
      refine g_iconst 0 d_X0_whoIsOut_19 (by decide) ?_
      (try simp only [if_pos h1, if_true, if_false, Bool.false_eq_true, ite_true, ite_false, reduceCtorEq, b2i_t, b2i_f] at hj); exact hj
    · skip
      refine g_iconst 1 d_X0_whoIsOut_15 (by decide) ?_
      refine g_goto 20 d_X0_whoIsOut_16 (by decide) ?_
      (try simp only [if_neg h1, if_true, if_false, Bool.false_eq_true, ite_true, ite_false, reduceCtorEq, b2i_t, b2i_f] at hj); exact hj
  · skip
    refine g_aload_n0 rfl d_X0_whoIsOut_20 ?_
    refine g_getI f_X0_9 d_X0_whoIsOut_21 ha (kd_lt ha (by decide)) rfl ?_
    refine g_ineg d_X0_whoIsOut_24 ?_
    refine g_iload_n1 rfl d_X0_whoIsOut_25 ?_
    refine g_cut (pc' := 34) (vs' := [some (.ref (kB k + a)), some (.int (3 - (I a 3)))]) (st' := [.int (if (-(I a 0)) < (3 - (I a 3)) then 0 else 2), .int (b2i (if (I a 0) < (3 - (I a 3)) then false else true))]) (M' := (81, ex, I, J, Pw w)) (fun hj => ?_) ?_
    · skip
      refine g_icmp_lt 33 d_X0_whoIsOut_26 (by decide) (fun h2 => ?_) (fun h2 => ?_)
      · skip
        refine g_iconst 0 d_X0_whoIsOut_33 (by decide) ?_
        (try simp only [if_pos h2, if_true, if_false, Bool.false_eq_true, ite_true, ite_false, reduceCtorEq, b2i_t, b2i_f] at hj); exact hj
      · skip
        refine g_iconst 2 d_X0_whoIsOut_29 (by decide) ?_
        refine g_goto 34 d_X0_whoIsOut_30 (by decide) ?_
        (try simp only [if_neg h2, if_true, if_false, Bool.false_eq_true, ite_true, ite_false, reduceCtorEq, b2i_t, b2i_f] at hj); exact hj
    · skip
      refine g_iadd d_X0_whoIsOut_34 ?_
      exact g_iret rfl d_X0_whoIsOut_35 ⟨by simp only [f_X0_whoIsOut, if_true, if_false, Bool.false_eq_true, reduceCtorEq, b2i_t, b2i_f], rfl⟩ (Nat.le_refl _) (Nat.le_refl _)
def f_X0_isOpen (I : Nat → Nat → Int32) (a : Nat) (x1 : Int32) : Bool := (if (((I a 4) >>> (x1 &&& 31)) &&& 1) = 1 then true else false)
set_option maxHeartbeats 2000000 in
set_option maxRecDepth 4000 in
theorem c_X0_isOpen {k : KT} {ex : Bool} {J : Nat → Nat → Int64} {w : Bool} (I : Nat → Nat → Int32) (a : Nat) (ha : kd a = 0) (x1 : Int32)  : Cx k mX0_isOpen 1 [.ref (kB k + a), .int x1] (81, ex, I, J, Pw w) (some (.int (b2i (f_X0_isOpen I a x1)))) (81, ex, I, J, Pw w) := by
  refine Ct.of rfl [some (.ref (kB k + a)), some (.int x1)] rfl rfl (Nat.le_of_ble_eq_true rfl) ?_
  refine g_aload_n0 rfl d_X0_isOpen_0 ?_
  refine g_getI f_X0_24 d_X0_isOpen_1 ha (kd_lt ha (by decide)) rfl ?_
  refine g_iload_n1 rfl d_X0_isOpen_4 ?_
  refine g_ishr d_X0_isOpen_5 ?_
  refine g_iconst 1 d_X0_isOpen_6 (by decide) ?_
  refine g_iand d_X0_isOpen_7 ?_
  refine g_iconst 1 d_X0_isOpen_8 (by decide) ?_
  refine g_cut (pc' := 17) (vs' := [some (.ref (kB k + a)), some (.int x1)]) (st' := [.int (b2i (if (((I a 4) >>> (x1 &&& 31)) &&& 1) = 1 then true else false))]) (M' := (81, ex, I, J, Pw w)) (fun hj => ?_) ?_
  · skip
    refine g_icmp_ne 16 d_X0_isOpen_9 (by decide) (fun h1 => ?_) (fun h1 => ?_)
    · skip
      refine g_iconst 0 d_X0_isOpen_16 (by decide) ?_
      (try simp only [if_neg h1, if_true, if_false, Bool.false_eq_true, ite_true, ite_false, reduceCtorEq, b2i_t, b2i_f] at hj); exact hj
    · skip
      refine g_iconst 1 d_X0_isOpen_12 (by decide) ?_
      refine g_goto 17 d_X0_isOpen_13 (by decide) ?_
      (try simp only [if_pos h1, if_true, if_false, Bool.false_eq_true, ite_true, ite_false, reduceCtorEq, b2i_t, b2i_f] at hj); exact hj
  · skip
    exact g_zret rfl (nar_b _) d_X0_isOpen_17 ⟨by simp only [f_X0_isOpen, if_true, if_false, Bool.false_eq_true, reduceCtorEq, b2i_t, b2i_f], rfl⟩ (Nat.le_refl _) (Nat.le_refl _)
def f_X10_within (I : Nat → Nat → Int32) (x1 : Int32) (x2 : Int32) (x3 : Int32) : Bool := (if x1 < x2 then false else (if x3 < x1 then false else true))
set_option maxHeartbeats 2000000 in
set_option maxRecDepth 4000 in
theorem c_X10_within {k : KT} {ex : Bool} {J : Nat → Nat → Int64} {w : Bool} (I : Nat → Nat → Int32) (x1 : Int32) (x2 : Int32) (x3 : Int32)  : Cx k mX10_within 1 [.int x1, .int x2, .int x3] (81, ex, I, J, Pw w) (some (.int (b2i (f_X10_within I x1 x2 x3)))) (81, ex, I, J, Pw w) := by
  refine Ct.of rfl [some (.int x1), some (.int x2), some (.int x3)] rfl rfl (Nat.le_of_ble_eq_true rfl) ?_
  refine g_iload_n0 rfl d_X10_within_0 ?_
  refine g_iload_n1 rfl d_X10_within_1 ?_
  refine g_cut (pc' := 15) (vs' := [some (.int x1), some (.int x2), some (.int x3)]) (st' := [.int (b2i (if x1 < x2 then false else (if x3 < x1 then false else true)))]) (M' := (81, ex, I, J, Pw w)) (fun hj => ?_) ?_
  · skip
    refine g_icmp_lt 14 d_X10_within_2 (by decide) (fun h1 => ?_) (fun h1 => ?_)
    · skip
      refine g_iconst 0 d_X10_within_14 (by decide) ?_
      (try simp only [if_pos h1, if_true, if_false, Bool.false_eq_true, ite_true, ite_false, reduceCtorEq, b2i_t, b2i_f] at hj); exact hj
    · skip
      refine g_iload_n0 rfl d_X10_within_5 ?_
      refine g_iload_n2 rfl d_X10_within_6 ?_
      refine g_icmp_gt 14 d_X10_within_7 (by decide) (fun h2 => ?_) (fun h2 => ?_)
      · skip
        refine g_iconst 0 d_X10_within_14 (by decide) ?_
        (try simp only [if_neg h1, if_pos h2, if_true, if_false, Bool.false_eq_true, ite_true, ite_false, reduceCtorEq, b2i_t, b2i_f] at hj); exact hj
      · skip
        refine g_iconst 1 d_X10_within_10 (by decide) ?_
        refine g_goto 15 d_X10_within_11 (by decide) ?_
        (try simp only [if_neg h1, if_neg h2, if_true, if_false, Bool.false_eq_true, ite_true, ite_false, reduceCtorEq, b2i_t, b2i_f] at hj); exact hj
  · skip
    exact g_zret rfl (nar_b _) d_X10_within_15 ⟨by simp only [f_X10_within, if_true, if_false, Bool.false_eq_true, reduceCtorEq, b2i_t, b2i_f], rfl⟩ (Nat.le_refl _) (Nat.le_refl _)
