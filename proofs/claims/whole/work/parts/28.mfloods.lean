noncomputable def u0_X11_carriesOf (I : Nat → Nat → Int32) (x1 : Int32) : Int32 := opv (if x1 = (I 65 34) then I 65 35 else I 68 ((53 + (3 * x1)) + 2).toNatClampNeg)
noncomputable def f_X11_carriesOf (I : Nat → Nat → Int32) (x1 : Int32) : Int32 := opv (u0_X11_carriesOf I x1)
noncomputable def ok_X11_carriesOf (I : Nat → Nat → Int32) (x1 : Int32) : Prop := opv (if x1 = (I 65 34) then True else vp_in ((53 + (3 * x1)) + 2) (sz 68))
set_option maxHeartbeats 800000 in
set_option maxRecDepth 4000 in
theorem c_X11_carriesOf {k : KT} {ex : Bool} {J : Nat → Nat → Int64} {w : Bool} (I : Nat → Nat → Int32) (x1 : Int32)  (hok : ok_X11_carriesOf I x1) : Cx k mX11_carriesOf 1 [.ref (ka k 65), .int x1] (81, ex, I, J, Pw w) (some (.int (f_X11_carriesOf I x1))) (81, ex, I, J, Pw w) := by
  refine Ct.of rfl [some (.ref (ka k 65)), some (.int x1)] rfl rfl (Nat.le_of_ble_eq_true rfl) ?_
  rw [ok_X11_carriesOf, opv_eq] at hok
  refine g_iload_n1 rfl d_X11_carriesOf_0 ?_
  refine g_aload_n0 rfl d_X11_carriesOf_1 ?_
  refine g_getI f_X11_53 d_X11_carriesOf_2 rfl (Nat.le_of_ble_eq_true rfl) rfl ?_
  refine g_cut (pc' := 28) (vs' := [some (.ref (ka k 65)), some (.int x1)]) (st' := [.int (u0_X11_carriesOf I x1)]) (M' := (81, ex, I, J, Pw w)) (fun hj => ?_) ?_
  · skip
    refine g_icmp_ne 15 d_X11_carriesOf_5 (by decide) (fun h1 => ?_) (fun h1 => ?_)
    · skip
      rw [if_neg h1] at hok
      refine g_aload_n0 rfl d_X11_carriesOf_15 ?_
      refine g_getP (b := 68) f_X11_20 d_X11_carriesOf_16 rfl (Nat.le_of_ble_eq_true rfl) rfl rfl ?_
      refine g_bipush 53 d_X11_carriesOf_19 (by decide) ?_
      refine g_iconst 3 d_X11_carriesOf_21 (by decide) ?_
      refine g_iload_n1 rfl d_X11_carriesOf_22 ?_
      refine g_imul d_X11_carriesOf_23 ?_
      refine g_iadd d_X11_carriesOf_24 ?_
      refine g_iconst 2 d_X11_carriesOf_25 (by decide) ?_
      refine g_iadd d_X11_carriesOf_26 ?_
      have ho1 := hok
      refine g_iald d_X11_carriesOf_27 rfl (Nat.le_of_ble_eq_true rfl) ho1 ?_
      (try simp only [if_neg h1, opv_eq, if_true, if_false, Bool.false_eq_true, reduceCtorEq, b2i_t, b2i_f, u0_X11_carriesOf] at hj); exact hj
    · skip
      refine g_aload_n0 rfl d_X11_carriesOf_8 ?_
      refine g_getI f_X11_367 d_X11_carriesOf_9 rfl (Nat.le_of_ble_eq_true rfl) rfl ?_
      refine g_goto 28 d_X11_carriesOf_12 (by decide) ?_
      (try simp only [if_pos h1, opv_eq, if_true, if_false, Bool.false_eq_true, reduceCtorEq, b2i_t, b2i_f, u0_X11_carriesOf] at hj); exact hj
  · skip
    exact g_iret rfl d_X11_carriesOf_28 ⟨by simp only [f_X11_carriesOf, opv_eq, if_true, if_false, Bool.false_eq_true, reduceCtorEq, b2i_t, b2i_f], rfl⟩ (Nat.le_refl _) (Nat.le_refl _)
noncomputable def u0_X11_acrossOf (I : Nat → Nat → Int32) (x1 : Int32) (l3 : Int32) : Int32 := opv (if (f_X11_hasBit I x1 (I 68 (53 + (3 * l3)).toNatClampNeg)) = true then (if (f_X11_hasBit I x1 (I 68 ((53 + (3 * l3)) + 1).toNatClampNeg)) = true then 0 else f_X11_carriesOf I l3) else 0)
noncomputable def lp_X11_acrossOf_4 (I : Nat → Nat → Int32) (x1 : Int32) : Nat → Int32 → Int32 → Int32 × Int32
  | 0, l2, l3 => (l2, l3)
  | n + 1, l2, l3 => (if (I 68 9) ≤ l3 then (l2, l3) else (lp_X11_acrossOf_4 I x1 n (l2 + (u0_X11_acrossOf I x1 l3)) (l3 + 1)))
def oklp_X11_acrossOf_4 (I : Nat → Nat → Int32) (x1 : Int32) : Nat → Int32 → Int32 → Prop
  | 0, l2, l3 => True
  | n + 1, l2, l3 => (if (I 68 9) ≤ l3 then True else (vp_in (53 + (3 * l3)) (sz 68) ∧ ((if (f_X11_hasBit I x1 (I 68 (53 + (3 * l3)).toNatClampNeg)) = true then (vp_in ((53 + (3 * l3)) + 1) (sz 68) ∧ (if (f_X11_hasBit I x1 (I 68 ((53 + (3 * l3)) + 1).toNatClampNeg)) = true then True else ok_X11_carriesOf I l3)) else True) ∧ oklp_X11_acrossOf_4 I x1 n (l2 + (u0_X11_acrossOf I x1 l3)) (l3 + 1))))
set_option maxHeartbeats 800000 in
set_option maxRecDepth 4000 in
theorem k_lp_X11_acrossOf_4 {k : KT} {ex : Bool} {J : Nat → Nat → Int64} {w : Bool} (I : Nat → Nat → Int32) (x1 : Int32) {F : FinT} : ∀ (n : Nat) (l2 : Int32) (l3 : Int32), mu_up (I 68 9) l3 < n → oklp_X11_acrossOf_4 I x1 n l2 l3 → G k mX11_acrossOf (roomOf 2 0 0) F 0 0 71 [some (.ref (ka k 65)), some (.int x1), some (.int ((lp_X11_acrossOf_4 I x1 n l2 l3).1)), some (.int ((lp_X11_acrossOf_4 I x1 n l2 l3).2))] [] (81, ex, I, J, Pw w) → G k mX11_acrossOf (roomOf 2 0 0) F 0 0 4 [some (.ref (ka k 65)), some (.int x1), some (.int l2), some (.int l3)] [] (81, ex, I, J, Pw w) := by
  intro n
  induction n with
  | zero => intro l2 l3 hmu hok hj; exact absurd hmu (Nat.not_lt_zero _)
  | succ n ih =>
    intro l2 l3 hmu hok hj
    rw [oklp_X11_acrossOf_4] at hok
    refine g_iload_n3 rfl d_X11_acrossOf_4 ?_
    refine g_aload_n0 rfl d_X11_acrossOf_5 ?_
    refine g_getP (b := 68) f_X11_20 d_X11_acrossOf_6 rfl (Nat.le_of_ble_eq_true rfl) rfl rfl ?_
    refine g_bipush 9 d_X11_acrossOf_9 (by decide) ?_
    refine g_ialdv (I 68 9) rfl d_X11_acrossOf_11 rfl (Nat.le_of_ble_eq_true rfl) (vp_c (by decide +kernel)) ?_
    refine g_icmp_ge 71 d_X11_acrossOf_12 (by decide) (fun h1 => ?_) (fun h1 => ?_)
    · skip
      (try simp only [lp_X11_acrossOf_4, if_pos h1, opv_eq, if_true, if_false, Bool.false_eq_true, reduceCtorEq, b2i_t, b2i_f] at hj); exact hj
    · skip
      rw [if_neg h1] at hok
      refine g_iload_n2 rfl d_X11_acrossOf_15 ?_
      refine g_iload_n1 rfl d_X11_acrossOf_16 ?_
      refine g_aload_n0 rfl d_X11_acrossOf_17 ?_
      refine g_getP (b := 68) f_X11_20 d_X11_acrossOf_18 rfl (Nat.le_of_ble_eq_true rfl) rfl rfl ?_
      refine g_bipush 53 d_X11_acrossOf_21 (by decide) ?_
      refine g_iconst 3 d_X11_acrossOf_23 (by decide) ?_
      refine g_iload_n3 rfl d_X11_acrossOf_24 ?_
      refine g_imul d_X11_acrossOf_25 ?_
      refine g_iadd d_X11_acrossOf_26 ?_
      obtain ⟨ho1, hok⟩ := hok
      refine g_iald d_X11_acrossOf_27 rfl (Nat.le_of_ble_eq_true rfl) ho1 ?_
      refine g_callS1 (c_X11_hasBit I x1 (I 68 (53 + (3 * l3)).toNatClampNeg)) w_X11_hasBit l_X11_261 d_X11_acrossOf_28 rfl rfl (Nat.le_of_ble_eq_true rfl) ⟨Nat.le_of_ble_eq_true rfl, Nat.le_of_ble_eq_true rfl⟩ ⟨Nat.zero_le _, Nat.zero_le _⟩ ⟨rfl, rfl⟩ ?_
      obtain ⟨hoa, hob⟩ := hok
      refine g_cut (pc' := 63) (vs' := [some (.ref (ka k 65)), some (.int x1), some (.int l2), some (.int l3)]) (st' := [.int (u0_X11_acrossOf I x1 l3), .int l2]) (M' := (81, ex, I, J, Pw w)) (fun hj => ?_) ?_
      · skip
        refine g_ifz 62 d_X11_acrossOf_31 (by decide) (fun h2 => ?_) (fun h2 => ?_)
        · skip
          refine g_iconst 0 d_X11_acrossOf_62 (by decide) ?_
          (try simp only [if_neg (nb h2), opv_eq, if_true, if_false, Bool.false_eq_true, reduceCtorEq, b2i_t, b2i_f, u0_X11_acrossOf] at hj); exact hj
        · skip
          rw [if_pos h2] at hoa
          refine g_iload_n1 rfl d_X11_acrossOf_34 ?_
          refine g_aload_n0 rfl d_X11_acrossOf_35 ?_
          refine g_getP (b := 68) f_X11_20 d_X11_acrossOf_36 rfl (Nat.le_of_ble_eq_true rfl) rfl rfl ?_
          refine g_bipush 53 d_X11_acrossOf_39 (by decide) ?_
          refine g_iconst 3 d_X11_acrossOf_41 (by decide) ?_
          refine g_iload_n3 rfl d_X11_acrossOf_42 ?_
          refine g_imul d_X11_acrossOf_43 ?_
          refine g_iadd d_X11_acrossOf_44 ?_
          refine g_iconst 1 d_X11_acrossOf_45 (by decide) ?_
          refine g_iadd d_X11_acrossOf_46 ?_
          obtain ⟨ho2, hok⟩ := hoa
          refine g_iald d_X11_acrossOf_47 rfl (Nat.le_of_ble_eq_true rfl) ho2 ?_
          refine g_callS1 (c_X11_hasBit I x1 (I 68 ((53 + (3 * l3)) + 1).toNatClampNeg)) w_X11_hasBit l_X11_261 d_X11_acrossOf_48 rfl rfl (Nat.le_of_ble_eq_true rfl) ⟨Nat.le_of_ble_eq_true rfl, Nat.le_of_ble_eq_true rfl⟩ ⟨Nat.zero_le _, Nat.zero_le _⟩ ⟨rfl, rfl⟩ ?_
          refine g_ifnz 62 d_X11_acrossOf_51 (by decide) (fun h3 => ?_) (fun h3 => ?_)
          · skip
            refine g_iconst 0 d_X11_acrossOf_62 (by decide) ?_
            (try simp only [if_pos h2, if_pos h3, opv_eq, if_true, if_false, Bool.false_eq_true, reduceCtorEq, b2i_t, b2i_f, u0_X11_acrossOf] at hj); exact hj
          · skip
            rw [if_neg (nb h3)] at hok
            refine g_aload_n0 rfl d_X11_acrossOf_54 ?_
            refine g_iload_n3 rfl d_X11_acrossOf_55 ?_
            have ho3 := hok
            refine g_callV1 (c_X11_carriesOf I l3 ho3) w_X11_carriesOf l_X11_370 d_X11_acrossOf_56 rfl (Nat.le_of_ble_eq_true rfl) rfl rfl (Nat.le_of_ble_eq_true rfl) ⟨Nat.le_of_ble_eq_true rfl, Nat.le_of_ble_eq_true rfl⟩ ⟨Nat.zero_le _, Nat.zero_le _⟩ ⟨rfl, rfl⟩ ?_
            refine g_goto 63 d_X11_acrossOf_59 (by decide) ?_
            (try simp only [if_pos h2, if_neg (nb h3), opv_eq, if_true, if_false, Bool.false_eq_true, reduceCtorEq, b2i_t, b2i_f, u0_X11_acrossOf] at hj); exact hj
      · skip
        refine g_iadd d_X11_acrossOf_63 ?_
        refine g_isn2 rfl d_X11_acrossOf_64 ?_
        refine g_ic3 (l3 + 1) rfl rfl d_X11_acrossOf_65 ?_
        refine g_goto 4 d_X11_acrossOf_68 (by decide) ?_
        exact ih (l2 + (u0_X11_acrossOf I x1 l3)) (l3 + 1) (Nat.lt_of_lt_of_le (mu_up_lt h1) (Nat.le_of_lt_succ hmu)) (by (try simp only [if_neg h1, opv_eq, if_true, if_false, Bool.false_eq_true, reduceCtorEq, b2i_t, b2i_f] at hob); exact hob) (by (try simp only [lp_X11_acrossOf_4, if_neg h1, opv_eq, if_true, if_false, Bool.false_eq_true, reduceCtorEq, b2i_t, b2i_f] at hj); exact hj)
noncomputable def f_X11_acrossOf (I : Nat → Nat → Int32) (x1 : Int32) : Int32 := opv ((lp_X11_acrossOf_4 I x1 (mu_up (I 68 9) 0 + 1) 0 0).1)
noncomputable def ok_X11_acrossOf (I : Nat → Nat → Int32) (x1 : Int32) : Prop := opv (oklp_X11_acrossOf_4 I x1 (mu_up (I 68 9) 0 + 1) 0 0)
set_option maxHeartbeats 800000 in
set_option maxRecDepth 4000 in
theorem c_X11_acrossOf {k : KT} {ex : Bool} {J : Nat → Nat → Int64} {w : Bool} (I : Nat → Nat → Int32) (x1 : Int32)  (hok : ok_X11_acrossOf I x1) : Cx k mX11_acrossOf 2 [.ref (ka k 65), .int x1] (81, ex, I, J, Pw w) (some (.int (f_X11_acrossOf I x1))) (81, ex, I, J, Pw w) := by
  refine Ct.of rfl [some (.ref (ka k 65)), some (.int x1), none, none] rfl rfl (Nat.le_of_ble_eq_true rfl) ?_
  rw [ok_X11_acrossOf, opv_eq] at hok
  refine g_iconst 0 d_X11_acrossOf_0 (by decide) ?_
  refine g_isn2 rfl d_X11_acrossOf_1 ?_
  refine g_iconst 0 d_X11_acrossOf_2 (by decide) ?_
  refine g_isn3 rfl d_X11_acrossOf_3 ?_
  refine k_lp_X11_acrossOf_4 I x1 _ 0 0 (Nat.lt_succ_self _) hok ?_
  refine g_iload_n2 rfl d_X11_acrossOf_71 ?_
  exact g_iret rfl d_X11_acrossOf_72 ⟨by simp only [f_X11_acrossOf, opv_eq, if_true, if_false, Bool.false_eq_true, reduceCtorEq, b2i_t, b2i_f], rfl⟩ (Nat.le_refl _) (Nat.le_refl _)
noncomputable def u0_X11_cutOf (I : Nat → Nat → Int32) (l1 : Int32) (l2 : Int32) (l3 : Int32) : Int32 := opv (if (f_X11_hasBit I l3 l1) = true then l2 else (if l2 < 0 then l3 else (if (f_X11_acrossOf I l2) ≤ (f_X11_acrossOf I l3) then l2 else l3)))
noncomputable def lp_X11_cutOf_15 (I : Nat → Nat → Int32) (l1 : Int32) : Nat → Int32 → Int32 → Int32 × Int32
  | 0, l2, l3 => (l2, l3)
  | n + 1, l2, l3 => (if (1 <<< ((I 68 8) &&& 31)) ≤ l3 then (l2, l3) else (if l1 ≤ 0 then (l2, l3) else (lp_X11_cutOf_15 I l1 n (u0_X11_cutOf I l1 l2 l3) (l3 + 2))))
def oklp_X11_cutOf_15 (I : Nat → Nat → Int32) (l1 : Int32) : Nat → Int32 → Int32 → Prop
  | 0, l2, l3 => True
  | n + 1, l2, l3 => (if (1 <<< ((I 68 8) &&& 31)) ≤ l3 then True else (if l1 ≤ 0 then True else ((if (f_X11_hasBit I l3 l1) = true then True else (if l2 < 0 then True else (ok_X11_acrossOf I l3 ∧ ok_X11_acrossOf I l2))) ∧ oklp_X11_cutOf_15 I l1 n (u0_X11_cutOf I l1 l2 l3) (l3 + 2))))
set_option maxHeartbeats 800000 in
set_option maxRecDepth 4000 in
theorem k_lp_X11_cutOf_15 {k : KT} {ex : Bool} {J : Nat → Nat → Int64} {w : Bool} (I : Nat → Nat → Int32) (l1 : Int32) {F : FinT} : ∀ (n : Nat) (l2 : Int32) (l3 : Int32), mu_up (1 <<< ((I 68 8) &&& 31)) l3 < n → oklp_X11_cutOf_15 I l1 n l2 l3 → G k mX11_cutOf (roomOf 3 0 0) F 0 0 65 [some (.ref (ka k 65)), some (.int l1), some (.int ((lp_X11_cutOf_15 I l1 n l2 l3).1)), some (.int ((lp_X11_cutOf_15 I l1 n l2 l3).2))] [] (81, ex, I, J, Pw w) → G k mX11_cutOf (roomOf 3 0 0) F 0 0 15 [some (.ref (ka k 65)), some (.int l1), some (.int l2), some (.int l3)] [] (81, ex, I, J, Pw w) := by
  intro n
  induction n with
  | zero => intro l2 l3 hmu hok hj; exact absurd hmu (Nat.not_lt_zero _)
  | succ n ih =>
    intro l2 l3 hmu hok hj
    rw [oklp_X11_cutOf_15] at hok
    refine g_iload_n3 rfl d_X11_cutOf_15 ?_
    refine g_iconst 1 d_X11_cutOf_16 (by decide) ?_
    refine g_aload_n0 rfl d_X11_cutOf_17 ?_
    refine g_getP (b := 68) f_X11_20 d_X11_cutOf_18 rfl (Nat.le_of_ble_eq_true rfl) rfl rfl ?_
    refine g_bipush 8 d_X11_cutOf_21 (by decide) ?_
    refine g_ialdv (I 68 8) rfl d_X11_cutOf_23 rfl (Nat.le_of_ble_eq_true rfl) (vp_c (by decide +kernel)) ?_
    refine g_ishl d_X11_cutOf_24 ?_
    refine g_icmp_ge 65 d_X11_cutOf_25 (by decide) (fun h1 => ?_) (fun h1 => ?_)
    · skip
      (try simp only [lp_X11_cutOf_15, if_pos h1, opv_eq, if_true, if_false, Bool.false_eq_true, reduceCtorEq, b2i_t, b2i_f] at hj); exact hj
    · skip
      rw [if_neg h1] at hok
      refine g_iload_n1 rfl d_X11_cutOf_28 ?_
      refine g_if_le 65 d_X11_cutOf_29 (by decide) (fun h2 => ?_) (fun h2 => ?_)
      · skip
        (try simp only [lp_X11_cutOf_15, if_neg h1, if_pos h2, opv_eq, if_true, if_false, Bool.false_eq_true, reduceCtorEq, b2i_t, b2i_f] at hj); exact hj
      · skip
        rw [if_neg h2] at hok
        refine g_iload_n3 rfl d_X11_cutOf_32 ?_
        refine g_iload_n1 rfl d_X11_cutOf_33 ?_
        refine g_callS1 (c_X11_hasBit I l3 l1) w_X11_hasBit l_X11_261 d_X11_cutOf_34 rfl rfl (Nat.le_of_ble_eq_true rfl) ⟨Nat.le_of_ble_eq_true rfl, Nat.le_of_ble_eq_true rfl⟩ ⟨Nat.zero_le _, Nat.zero_le _⟩ ⟨rfl, rfl⟩ ?_
        obtain ⟨hoa, hob⟩ := hok
        refine g_cut (pc' := 59) (vs' := [some (.ref (ka k 65)), some (.int l1), some (.int (u0_X11_cutOf I l1 l2 l3)), some (.int l3)]) (st' := []) (M' := (81, ex, I, J, Pw w)) (fun hj => ?_) ?_
        · skip
          refine g_ifnz 59 d_X11_cutOf_37 (by decide) (fun h3 => ?_) (fun h3 => ?_)
          · skip
            (try simp only [if_pos h3, opv_eq, if_true, if_false, Bool.false_eq_true, reduceCtorEq, b2i_t, b2i_f, u0_X11_cutOf] at hj); exact hj
          · skip
            rw [if_neg (nb h3)] at hoa
            refine g_iload_n2 rfl d_X11_cutOf_40 ?_
            refine g_if_lt 57 d_X11_cutOf_41 (by decide) (fun h4 => ?_) (fun h4 => ?_)
            · skip
              refine g_iload_n3 rfl d_X11_cutOf_57 ?_
              refine g_isn2 rfl d_X11_cutOf_58 ?_
              (try simp only [if_neg (nb h3), if_pos h4, opv_eq, if_true, if_false, Bool.false_eq_true, reduceCtorEq, b2i_t, b2i_f, u0_X11_cutOf] at hj); exact hj
            · skip
              rw [if_neg h4] at hoa
              refine g_aload_n0 rfl d_X11_cutOf_44 ?_
              refine g_iload_n3 rfl d_X11_cutOf_45 ?_
              obtain ⟨ho1, hok⟩ := hoa
              refine g_callV1 (c_X11_acrossOf I l3 ho1) w_X11_acrossOf l_X11_373 d_X11_cutOf_46 rfl (Nat.le_of_ble_eq_true rfl) rfl rfl (Nat.le_of_ble_eq_true rfl) ⟨Nat.le_of_ble_eq_true rfl, Nat.le_of_ble_eq_true rfl⟩ ⟨Nat.zero_le _, Nat.zero_le _⟩ ⟨rfl, rfl⟩ ?_
              refine g_aload_n0 rfl d_X11_cutOf_49 ?_
              refine g_iload_n2 rfl d_X11_cutOf_50 ?_
              have ho2 := hok
              refine g_callV1 (c_X11_acrossOf I l2 ho2) w_X11_acrossOf l_X11_373 d_X11_cutOf_51 rfl (Nat.le_of_ble_eq_true rfl) rfl rfl (Nat.le_of_ble_eq_true rfl) ⟨Nat.le_of_ble_eq_true rfl, Nat.le_of_ble_eq_true rfl⟩ ⟨Nat.zero_le _, Nat.zero_le _⟩ ⟨rfl, rfl⟩ ?_
              refine g_icmp_ge 59 d_X11_cutOf_54 (by decide) (fun h5 => ?_) (fun h5 => ?_)
              · skip
                (try simp only [if_neg (nb h3), if_neg h4, if_pos h5, opv_eq, if_true, if_false, Bool.false_eq_true, reduceCtorEq, b2i_t, b2i_f, u0_X11_cutOf] at hj); exact hj
              · skip
                refine g_iload_n3 rfl d_X11_cutOf_57 ?_
                refine g_isn2 rfl d_X11_cutOf_58 ?_
                (try simp only [if_neg (nb h3), if_neg h4, if_neg h5, opv_eq, if_true, if_false, Bool.false_eq_true, reduceCtorEq, b2i_t, b2i_f, u0_X11_cutOf] at hj); exact hj
        · skip
          refine g_ic3 (l3 + 2) rfl rfl d_X11_cutOf_59 ?_
          refine g_goto 15 d_X11_cutOf_62 (by decide) ?_
          exact ih (u0_X11_cutOf I l1 l2 l3) (l3 + 2) (Nat.lt_of_lt_of_le (mu_up_lt2 (shl1_le _) h1) (Nat.le_of_lt_succ hmu)) (by (try simp only [if_neg h1, if_neg h2, opv_eq, if_true, if_false, Bool.false_eq_true, reduceCtorEq, b2i_t, b2i_f] at hob); exact hob) (by (try simp only [lp_X11_cutOf_15, if_neg h1, if_neg h2, opv_eq, if_true, if_false, Bool.false_eq_true, reduceCtorEq, b2i_t, b2i_f] at hj); exact hj)
noncomputable def f_X11_cutOf (I : Nat → Nat → Int32)  : Int32 := opv ((lp_X11_cutOf_15 I ((I 68 8) - 1) (mu_up (1 <<< ((I 68 8) &&& 31)) 1 + 1) (-2) 1).1)
noncomputable def ok_X11_cutOf (I : Nat → Nat → Int32)  : Prop := opv (oklp_X11_cutOf_15 I ((I 68 8) - 1) (mu_up (1 <<< ((I 68 8) &&& 31)) 1 + 1) (-2) 1)
set_option maxHeartbeats 800000 in
set_option maxRecDepth 4000 in
theorem c_X11_cutOf {k : KT} {ex : Bool} {J : Nat → Nat → Int64} {w : Bool} (I : Nat → Nat → Int32)   (hok : ok_X11_cutOf I) : Cx k mX11_cutOf 3 [.ref (ka k 65)] (81, ex, I, J, Pw w) (some (.int (f_X11_cutOf I))) (81, ex, I, J, Pw w) := by
  refine Ct.of rfl [some (.ref (ka k 65)), none, none, none] rfl rfl (Nat.le_of_ble_eq_true rfl) ?_
  rw [ok_X11_cutOf, opv_eq] at hok
  refine g_aload_n0 rfl d_X11_cutOf_0 ?_
  refine g_getP (b := 68) f_X11_20 d_X11_cutOf_1 rfl (Nat.le_of_ble_eq_true rfl) rfl rfl ?_
  refine g_bipush 8 d_X11_cutOf_4 (by decide) ?_
  refine g_ialdv (I 68 8) rfl d_X11_cutOf_6 rfl (Nat.le_of_ble_eq_true rfl) (vp_c (by decide +kernel)) ?_
  refine g_iconst 1 d_X11_cutOf_7 (by decide) ?_
  refine g_isub d_X11_cutOf_8 ?_
  refine g_isn1 rfl d_X11_cutOf_9 ?_
  refine g_bipush (-2) d_X11_cutOf_10 (by decide) ?_
  refine g_isn2 rfl d_X11_cutOf_12 ?_
  refine g_iconst 1 d_X11_cutOf_13 (by decide) ?_
  refine g_isn3 rfl d_X11_cutOf_14 ?_
  refine k_lp_X11_cutOf_15 I ((I 68 8) - 1) _ (-2) 1 (Nat.lt_succ_self _) hok ?_
  refine g_iload_n2 rfl d_X11_cutOf_65 ?_
  exact g_iret rfl d_X11_cutOf_66 ⟨by simp only [f_X11_cutOf, opv_eq, if_true, if_false, Bool.false_eq_true, reduceCtorEq, b2i_t, b2i_f], rfl⟩ (Nat.le_refl _) (Nat.le_refl _)
noncomputable def u0_X11_floodBy (I : Nat → Nat → Int32) (x1 : Int32) (x2 : Int32) : Int32 := opv (if 0 ≤ (f_X11_cutOf (st2 (st2 I 65 34 x1) 65 35 x2)) then f_X11_acrossOf (st2 (st2 I 65 34 x1) 65 35 x2) (f_X11_cutOf (st2 (st2 I 65 34 x1) 65 35 x2)) else 0)
noncomputable def f_X11_floodBy (I : Nat → Nat → Int32) (x1 : Int32) (x2 : Int32) : Int32 := opv (u0_X11_floodBy I x1 x2)
noncomputable def m_X11_floodBy (I : Nat → Nat → Int32) (x1 : Int32) (x2 : Int32) : Nat → Nat → Int32 := opv (st2 (st2 (st2 I 65 34 x1) 65 35 x2) 65 34 (-1))
noncomputable def ok_X11_floodBy (I : Nat → Nat → Int32) (x1 : Int32) (x2 : Int32) : Prop := opv (ok_X11_cutOf (st2 (st2 I 65 34 x1) 65 35 x2) ∧ (if 0 ≤ (f_X11_cutOf (st2 (st2 I 65 34 x1) 65 35 x2)) then ok_X11_acrossOf (st2 (st2 I 65 34 x1) 65 35 x2) (f_X11_cutOf (st2 (st2 I 65 34 x1) 65 35 x2)) else True))
set_option maxHeartbeats 800000 in
set_option maxRecDepth 4000 in
theorem c_X11_floodBy {k : KT} {ex : Bool} {J : Nat → Nat → Int64} {w : Bool} (I : Nat → Nat → Int32) (x1 : Int32) (x2 : Int32)  (hok : ok_X11_floodBy I x1 x2) : Cx k mX11_floodBy 4 [.ref (ka k 65), .int x1, .int x2] (81, ex, I, J, Pw w) (some (.int (f_X11_floodBy I x1 x2))) (81, ex, m_X11_floodBy I x1 x2, J, Pw w) := by
  refine Ct.of rfl [some (.ref (ka k 65)), some (.int x1), some (.int x2), none, none] rfl rfl (Nat.le_of_ble_eq_true rfl) ?_
  rw [ok_X11_floodBy, opv_eq] at hok
  refine g_aload_n0 rfl d_X11_floodBy_0 ?_
  refine g_iload_n1 rfl d_X11_floodBy_1 ?_
  refine g_putI f_X11_53 d_X11_floodBy_2 rfl (Nat.le_of_ble_eq_true rfl) rfl rfl rfl ?_
  refine g_aload_n0 rfl d_X11_floodBy_5 ?_
  refine g_iload_n2 rfl d_X11_floodBy_6 ?_
  refine g_putI f_X11_367 d_X11_floodBy_7 rfl (Nat.le_of_ble_eq_true rfl) rfl rfl rfl ?_
  refine g_aload_n0 rfl d_X11_floodBy_10 ?_
  obtain ⟨ho1, hok⟩ := hok
  refine g_callV1 (c_X11_cutOf (st2 (st2 I 65 34 x1) 65 35 x2)  ho1) w_X11_cutOf l_X11_376 d_X11_floodBy_11 rfl (Nat.le_of_ble_eq_true rfl) rfl rfl (Nat.le_of_ble_eq_true rfl) ⟨Nat.le_of_ble_eq_true rfl, Nat.le_of_ble_eq_true rfl⟩ ⟨Nat.zero_le _, Nat.zero_le _⟩ ⟨rfl, rfl⟩ ?_
  refine g_isn3 rfl d_X11_floodBy_14 ?_
  refine g_iload_n3 rfl d_X11_floodBy_15 ?_
  refine g_cut (pc' := 28) (vs' := [some (.ref (ka k 65)), some (.int x1), some (.int x2), some (.int (f_X11_cutOf (st2 (st2 I 65 34 x1) 65 35 x2))), none]) (st' := [.int (u0_X11_floodBy I x1 x2)]) (M' := (81, ex, (st2 (st2 I 65 34 x1) 65 35 x2), J, Pw w)) (fun hj => ?_) ?_
  · skip
    refine g_if_ge 23 d_X11_floodBy_16 (by decide) (fun h1 => ?_) (fun h1 => ?_)
    · skip
      rw [if_pos h1] at hok
      refine g_aload_n0 rfl d_X11_floodBy_23 ?_
      refine g_iload_n3 rfl d_X11_floodBy_24 ?_
      have ho2 := hok
      refine g_callV1 (c_X11_acrossOf (st2 (st2 I 65 34 x1) 65 35 x2) (f_X11_cutOf (st2 (st2 I 65 34 x1) 65 35 x2)) ho2) w_X11_acrossOf l_X11_373 d_X11_floodBy_25 rfl (Nat.le_of_ble_eq_true rfl) rfl rfl (Nat.le_of_ble_eq_true rfl) ⟨Nat.le_of_ble_eq_true rfl, Nat.le_of_ble_eq_true rfl⟩ ⟨Nat.zero_le _, Nat.zero_le _⟩ ⟨rfl, rfl⟩ ?_
      (try simp only [if_pos h1, opv_eq, if_true, if_false, Bool.false_eq_true, reduceCtorEq, b2i_t, b2i_f, u0_X11_floodBy] at hj); exact hj
    · skip
      refine g_iconst 0 d_X11_floodBy_19 (by decide) ?_
      refine g_goto 28 d_X11_floodBy_20 (by decide) ?_
      (try simp only [if_neg h1, opv_eq, if_true, if_false, Bool.false_eq_true, reduceCtorEq, b2i_t, b2i_f, u0_X11_floodBy] at hj); exact hj
  · skip
    refine g_is4 rfl d_X11_floodBy_28 ?_
    refine g_aload_n0 rfl d_X11_floodBy_30 ?_
    refine g_iconst (-1) d_X11_floodBy_31 (by decide) ?_
    refine g_putI f_X11_53 d_X11_floodBy_32 rfl (Nat.le_of_ble_eq_true rfl) rfl rfl rfl ?_
    refine g_iload (i := 4) rfl d_X11_floodBy_35 ?_
    exact g_iret rfl d_X11_floodBy_37 ⟨by simp only [f_X11_floodBy, m_X11_floodBy, opv_eq, if_true, if_false, Bool.false_eq_true, reduceCtorEq, b2i_t, b2i_f], by simp only [f_X11_floodBy, m_X11_floodBy, opv_eq, if_true, if_false, Bool.false_eq_true, reduceCtorEq, b2i_t, b2i_f]⟩ (Nat.le_refl _) (Nat.le_refl _)
noncomputable def u0_X11_flood (I : Nat → Nat → Int32) : Int32 := opv (if ((m_X11_good I) 65 14) = 0 then f_X11_no (m_X11_good I) 1 else f_X11_floodBy (m_X11_good I) (-1) 0)
noncomputable def u1_X11_flood (I : Nat → Nat → Int32) : Nat → Nat → Int32 := opv (if ((m_X11_good I) 65 14) = 0 then (m_X11_no (m_X11_good I) 1) else (m_X11_floodBy (m_X11_good I) (-1) 0))
noncomputable def f_X11_flood (I : Nat → Nat → Int32)  : Int32 := opv (u0_X11_flood I)
noncomputable def m_X11_flood (I : Nat → Nat → Int32)  : Nat → Nat → Int32 := opv (u1_X11_flood I)
noncomputable def ok_X11_flood (I : Nat → Nat → Int32)  : Prop := opv (if ((m_X11_good I) 65 14) = 0 then True else ok_X11_floodBy (m_X11_good I) (-1) 0)
set_option maxHeartbeats 800000 in
set_option maxRecDepth 4000 in
theorem c_X11_flood {k : KT} {ex : Bool} {J : Nat → Nat → Int64} {w : Bool} (I : Nat → Nat → Int32)   (hok : ok_X11_flood I) : Cx k mX11_flood 5 [.ref (ka k 65)] (81, ex, I, J, Pw w) (some (.int (f_X11_flood I))) (81, ex, m_X11_flood I, J, Pw w) := by
  refine Ct.of rfl [some (.ref (ka k 65))] rfl rfl (Nat.le_of_ble_eq_true rfl) ?_
  rw [ok_X11_flood, opv_eq] at hok
  refine g_aload_n0 rfl d_X11_flood_0 ?_
  refine g_callV0 (c_X11_good I ) w_X11_good l_X11_168 d_X11_flood_1 rfl (Nat.le_of_ble_eq_true rfl) rfl rfl (Nat.le_of_ble_eq_true rfl) ⟨Nat.le_of_ble_eq_true rfl, Nat.le_of_ble_eq_true rfl⟩ ⟨Nat.zero_le _, Nat.zero_le _⟩ ⟨rfl, rfl⟩ ?_
  refine g_aload_n0 rfl d_X11_flood_4 ?_
  refine g_getI f_X11_185 d_X11_flood_5 rfl (Nat.le_of_ble_eq_true rfl) rfl ?_
  refine g_cut (pc' := 25) (vs' := [some (.ref (ka k 65))]) (st' := [.int (u0_X11_flood I)]) (M' := (81, ex, (u1_X11_flood I), J, Pw w)) (fun hj => ?_) ?_
  · skip
    refine g_if_eq 20 d_X11_flood_8 (by decide) (fun h1 => ?_) (fun h1 => ?_)
    · skip
      refine g_aload_n0 rfl d_X11_flood_20 ?_
      refine g_iconst 1 d_X11_flood_21 (by decide) ?_
      refine g_callV1 (c_X11_no (m_X11_good I) 1) w_X11_no l_X11_171 d_X11_flood_22 rfl (Nat.le_of_ble_eq_true rfl) rfl rfl (Nat.le_of_ble_eq_true rfl) ⟨Nat.le_of_ble_eq_true rfl, Nat.le_of_ble_eq_true rfl⟩ ⟨Nat.zero_le _, Nat.zero_le _⟩ ⟨rfl, rfl⟩ ?_
      (try simp only [if_pos h1, opv_eq, if_true, if_false, Bool.false_eq_true, reduceCtorEq, b2i_t, b2i_f, u0_X11_flood, u1_X11_flood] at hj); exact hj
    · skip
      rw [if_neg h1] at hok
      refine g_aload_n0 rfl d_X11_flood_11 ?_
      refine g_iconst (-1) d_X11_flood_12 (by decide) ?_
      refine g_iconst 0 d_X11_flood_13 (by decide) ?_
      have ho1 := hok
      refine g_callV1 (c_X11_floodBy (m_X11_good I) (-1) 0 ho1) w_X11_floodBy l_X11_379 d_X11_flood_14 rfl (Nat.le_of_ble_eq_true rfl) rfl rfl (Nat.le_of_ble_eq_true rfl) ⟨Nat.le_of_ble_eq_true rfl, Nat.le_of_ble_eq_true rfl⟩ ⟨Nat.zero_le _, Nat.zero_le _⟩ ⟨rfl, rfl⟩ ?_
      refine g_goto 25 d_X11_flood_17 (by decide) ?_
      (try simp only [if_neg h1, opv_eq, if_true, if_false, Bool.false_eq_true, reduceCtorEq, b2i_t, b2i_f, u0_X11_flood, u1_X11_flood] at hj); exact hj
  · skip
    exact g_iret rfl d_X11_flood_25 ⟨by simp only [f_X11_flood, m_X11_flood, opv_eq, if_true, if_false, Bool.false_eq_true, reduceCtorEq, b2i_t, b2i_f], by simp only [f_X11_flood, m_X11_flood, opv_eq, if_true, if_false, Bool.false_eq_true, reduceCtorEq, b2i_t, b2i_f]⟩ (Nat.le_refl _) (Nat.le_refl _)
noncomputable def u0_X11_cut (I : Nat → Nat → Int32) : Int32 := opv (if ((m_X11_good I) 65 14) = 0 then f_X11_no (m_X11_good I) 1 else f_X11_cutOf (m_X11_good I))
noncomputable def u1_X11_cut (I : Nat → Nat → Int32) : Nat → Nat → Int32 := opv (if ((m_X11_good I) 65 14) = 0 then (m_X11_no (m_X11_good I) 1) else (m_X11_good I))
noncomputable def f_X11_cut (I : Nat → Nat → Int32)  : Int32 := opv (u0_X11_cut I)
noncomputable def m_X11_cut (I : Nat → Nat → Int32)  : Nat → Nat → Int32 := opv (u1_X11_cut I)
noncomputable def ok_X11_cut (I : Nat → Nat → Int32)  : Prop := opv (if ((m_X11_good I) 65 14) = 0 then True else ok_X11_cutOf (m_X11_good I))
set_option maxHeartbeats 800000 in
set_option maxRecDepth 4000 in
theorem c_X11_cut {k : KT} {ex : Bool} {J : Nat → Nat → Int64} {w : Bool} (I : Nat → Nat → Int32)   (hok : ok_X11_cut I) : Cx k mX11_cut 4 [.ref (ka k 65)] (81, ex, I, J, Pw w) (some (.int (f_X11_cut I))) (81, ex, m_X11_cut I, J, Pw w) := by
  refine Ct.of rfl [some (.ref (ka k 65))] rfl rfl (Nat.le_of_ble_eq_true rfl) ?_
  rw [ok_X11_cut, opv_eq] at hok
  refine g_aload_n0 rfl d_X11_cut_0 ?_
  refine g_callV0 (c_X11_good I ) w_X11_good l_X11_168 d_X11_cut_1 rfl (Nat.le_of_ble_eq_true rfl) rfl rfl (Nat.le_of_ble_eq_true rfl) ⟨Nat.le_of_ble_eq_true rfl, Nat.le_of_ble_eq_true rfl⟩ ⟨Nat.zero_le _, Nat.zero_le _⟩ ⟨rfl, rfl⟩ ?_
  refine g_aload_n0 rfl d_X11_cut_4 ?_
  refine g_getI f_X11_185 d_X11_cut_5 rfl (Nat.le_of_ble_eq_true rfl) rfl ?_
  refine g_cut (pc' := 23) (vs' := [some (.ref (ka k 65))]) (st' := [.int (u0_X11_cut I)]) (M' := (81, ex, (u1_X11_cut I), J, Pw w)) (fun hj => ?_) ?_
  · skip
    refine g_if_eq 18 d_X11_cut_8 (by decide) (fun h1 => ?_) (fun h1 => ?_)
    · skip
      refine g_aload_n0 rfl d_X11_cut_18 ?_
      refine g_iconst 1 d_X11_cut_19 (by decide) ?_
      refine g_callV1 (c_X11_no (m_X11_good I) 1) w_X11_no l_X11_171 d_X11_cut_20 rfl (Nat.le_of_ble_eq_true rfl) rfl rfl (Nat.le_of_ble_eq_true rfl) ⟨Nat.le_of_ble_eq_true rfl, Nat.le_of_ble_eq_true rfl⟩ ⟨Nat.zero_le _, Nat.zero_le _⟩ ⟨rfl, rfl⟩ ?_
      (try simp only [if_pos h1, opv_eq, if_true, if_false, Bool.false_eq_true, reduceCtorEq, b2i_t, b2i_f, u0_X11_cut, u1_X11_cut] at hj); exact hj
    · skip
      rw [if_neg h1] at hok
      refine g_aload_n0 rfl d_X11_cut_11 ?_
      have ho1 := hok
      refine g_callV1 (c_X11_cutOf (m_X11_good I)  ho1) w_X11_cutOf l_X11_376 d_X11_cut_12 rfl (Nat.le_of_ble_eq_true rfl) rfl rfl (Nat.le_of_ble_eq_true rfl) ⟨Nat.le_of_ble_eq_true rfl, Nat.le_of_ble_eq_true rfl⟩ ⟨Nat.zero_le _, Nat.zero_le _⟩ ⟨rfl, rfl⟩ ?_
      refine g_goto 23 d_X11_cut_15 (by decide) ?_
      (try simp only [if_neg h1, opv_eq, if_true, if_false, Bool.false_eq_true, reduceCtorEq, b2i_t, b2i_f, u0_X11_cut, u1_X11_cut] at hj); exact hj
  · skip
    exact g_iret rfl d_X11_cut_23 ⟨by simp only [f_X11_cut, m_X11_cut, opv_eq, if_true, if_false, Bool.false_eq_true, reduceCtorEq, b2i_t, b2i_f], by simp only [f_X11_cut, m_X11_cut, opv_eq, if_true, if_false, Bool.false_eq_true, reduceCtorEq, b2i_t, b2i_f]⟩ (Nat.le_refl _) (Nat.le_refl _)
noncomputable def u0_X11_floodIf (I : Nat → Nat → Int32) (x1 : Int32) (x2 : Int32) : Int32 := opv (if (f_X11_in (m_X11_good I) x2 0 999) = true then f_X11_floodBy (m_X11_good I) x1 x2 else f_X11_no (m_X11_good I) 2)
noncomputable def u1_X11_floodIf (I : Nat → Nat → Int32) (x1 : Int32) (x2 : Int32) : Nat → Nat → Int32 := opv (if (f_X11_in (m_X11_good I) x2 0 999) = true then (m_X11_floodBy (m_X11_good I) x1 x2) else (m_X11_no (m_X11_good I) 2))
noncomputable def f_X11_floodIf (I : Nat → Nat → Int32) (x1 : Int32) (x2 : Int32) : Int32 := opv (if ((m_X11_good I) 65 14) = 0 then f_X11_no (m_X11_good I) 1 else (if (f_X11_in (m_X11_good I) x1 0 (((m_X11_good I) 68 9) - 1)) = true then (u0_X11_floodIf I x1 x2) else f_X11_no (m_X11_good I) 1))
noncomputable def m_X11_floodIf (I : Nat → Nat → Int32) (x1 : Int32) (x2 : Int32) : Nat → Nat → Int32 := opv (if ((m_X11_good I) 65 14) = 0 then (m_X11_no (m_X11_good I) 1) else (if (f_X11_in (m_X11_good I) x1 0 (((m_X11_good I) 68 9) - 1)) = true then (u1_X11_floodIf I x1 x2) else (m_X11_no (m_X11_good I) 1)))
noncomputable def ok_X11_floodIf (I : Nat → Nat → Int32) (x1 : Int32) (x2 : Int32) : Prop := opv (if ((m_X11_good I) 65 14) = 0 then True else (if (f_X11_in (m_X11_good I) x1 0 (((m_X11_good I) 68 9) - 1)) = true then (if (f_X11_in (m_X11_good I) x2 0 999) = true then ok_X11_floodBy (m_X11_good I) x1 x2 else True) else True))
set_option maxHeartbeats 800000 in
set_option maxRecDepth 4000 in
theorem c_X11_floodIf {k : KT} {ex : Bool} {J : Nat → Nat → Int64} {w : Bool} (I : Nat → Nat → Int32) (x1 : Int32) (x2 : Int32)  (hok : ok_X11_floodIf I x1 x2) : Cx k mX11_floodIf 5 [.ref (ka k 65), .int x1, .int x2] (81, ex, I, J, Pw w) (some (.int (f_X11_floodIf I x1 x2))) (81, ex, m_X11_floodIf I x1 x2, J, Pw w) := by
  refine Ct.of rfl [some (.ref (ka k 65)), some (.int x1), some (.int x2)] rfl rfl (Nat.le_of_ble_eq_true rfl) ?_
  rw [ok_X11_floodIf, opv_eq] at hok
  refine g_aload_n0 rfl d_X11_floodIf_0 ?_
  refine g_callV0 (c_X11_good I ) w_X11_good l_X11_168 d_X11_floodIf_1 rfl (Nat.le_of_ble_eq_true rfl) rfl rfl (Nat.le_of_ble_eq_true rfl) ⟨Nat.le_of_ble_eq_true rfl, Nat.le_of_ble_eq_true rfl⟩ ⟨Nat.zero_le _, Nat.zero_le _⟩ ⟨rfl, rfl⟩ ?_
  refine g_aload_n0 rfl d_X11_floodIf_4 ?_
  refine g_getI f_X11_185 d_X11_floodIf_5 rfl (Nat.le_of_ble_eq_true rfl) rfl ?_
  refine g_if_eq 28 d_X11_floodIf_8 (by decide) (fun h1 => ?_) (fun h1 => ?_)
  · skip
    refine g_aload_n0 rfl d_X11_floodIf_28 ?_
    refine g_iconst 1 d_X11_floodIf_29 (by decide) ?_
    refine g_callV1 (c_X11_no (m_X11_good I) 1) w_X11_no l_X11_171 d_X11_floodIf_30 rfl (Nat.le_of_ble_eq_true rfl) rfl rfl (Nat.le_of_ble_eq_true rfl) ⟨Nat.le_of_ble_eq_true rfl, Nat.le_of_ble_eq_true rfl⟩ ⟨Nat.zero_le _, Nat.zero_le _⟩ ⟨rfl, rfl⟩ ?_
    exact g_iret rfl d_X11_floodIf_33 ⟨by simp only [f_X11_floodIf, m_X11_floodIf, if_pos h1, opv_eq, if_true, if_false, Bool.false_eq_true, reduceCtorEq, b2i_t, b2i_f], by simp only [f_X11_floodIf, m_X11_floodIf, if_pos h1, opv_eq, if_true, if_false, Bool.false_eq_true, reduceCtorEq, b2i_t, b2i_f]⟩ (Nat.le_refl _) (Nat.le_refl _)
  · skip
    rw [if_neg h1] at hok
    refine g_iload_n1 rfl d_X11_floodIf_11 ?_
    refine g_iconst 0 d_X11_floodIf_12 (by decide) ?_
    refine g_aload_n0 rfl d_X11_floodIf_13 ?_
    refine g_getP (b := 68) f_X11_20 d_X11_floodIf_14 rfl (Nat.le_of_ble_eq_true rfl) rfl rfl ?_
    refine g_bipush 9 d_X11_floodIf_17 (by decide) ?_
    refine g_ialdv ((m_X11_good I) 68 9) rfl d_X11_floodIf_19 rfl (Nat.le_of_ble_eq_true rfl) (vp_c (by decide +kernel)) ?_
    refine g_iconst 1 d_X11_floodIf_20 (by decide) ?_
    refine g_isub d_X11_floodIf_21 ?_
    refine g_callS1 (c_X11_in (m_X11_good I) x1 0 (((m_X11_good I) 68 9) - 1)) w_X11_in l_X11_149 d_X11_floodIf_22 rfl rfl (Nat.le_of_ble_eq_true rfl) ⟨Nat.le_of_ble_eq_true rfl, Nat.le_of_ble_eq_true rfl⟩ ⟨Nat.zero_le _, Nat.zero_le _⟩ ⟨rfl, rfl⟩ ?_
    refine g_ifnz 34 d_X11_floodIf_25 (by decide) (fun h2 => ?_) (fun h2 => ?_)
    · skip
      rw [if_pos h2] at hok
      refine g_iload_n2 rfl d_X11_floodIf_34 ?_
      refine g_iconst 0 d_X11_floodIf_35 (by decide) ?_
      refine g_sipush 999 d_X11_floodIf_36 (by decide) ?_
      refine g_callS1 (c_X11_in (m_X11_good I) x2 0 999) w_X11_in l_X11_149 d_X11_floodIf_39 rfl rfl (Nat.le_of_ble_eq_true rfl) ⟨Nat.le_of_ble_eq_true rfl, Nat.le_of_ble_eq_true rfl⟩ ⟨Nat.zero_le _, Nat.zero_le _⟩ ⟨rfl, rfl⟩ ?_
      refine g_cut (pc' := 59) (vs' := [some (.ref (ka k 65)), some (.int x1), some (.int x2)]) (st' := [.int (u0_X11_floodIf I x1 x2)]) (M' := (81, ex, (u1_X11_floodIf I x1 x2), J, Pw w)) (fun hj => ?_) ?_
      · skip
        refine g_ifz 54 d_X11_floodIf_42 (by decide) (fun h3 => ?_) (fun h3 => ?_)
        · skip
          refine g_aload_n0 rfl d_X11_floodIf_54 ?_
          refine g_iconst 2 d_X11_floodIf_55 (by decide) ?_
          refine g_callV1 (c_X11_no (m_X11_good I) 2) w_X11_no l_X11_171 d_X11_floodIf_56 rfl (Nat.le_of_ble_eq_true rfl) rfl rfl (Nat.le_of_ble_eq_true rfl) ⟨Nat.le_of_ble_eq_true rfl, Nat.le_of_ble_eq_true rfl⟩ ⟨Nat.zero_le _, Nat.zero_le _⟩ ⟨rfl, rfl⟩ ?_
          (try simp only [if_neg (nb h3), opv_eq, if_true, if_false, Bool.false_eq_true, reduceCtorEq, b2i_t, b2i_f, u0_X11_floodIf, u1_X11_floodIf] at hj); exact hj
        · skip
          rw [if_pos h3] at hok
          refine g_aload_n0 rfl d_X11_floodIf_45 ?_
          refine g_iload_n1 rfl d_X11_floodIf_46 ?_
          refine g_iload_n2 rfl d_X11_floodIf_47 ?_
          have ho1 := hok
          refine g_callV1 (c_X11_floodBy (m_X11_good I) x1 x2 ho1) w_X11_floodBy l_X11_379 d_X11_floodIf_48 rfl (Nat.le_of_ble_eq_true rfl) rfl rfl (Nat.le_of_ble_eq_true rfl) ⟨Nat.le_of_ble_eq_true rfl, Nat.le_of_ble_eq_true rfl⟩ ⟨Nat.zero_le _, Nat.zero_le _⟩ ⟨rfl, rfl⟩ ?_
          refine g_goto 59 d_X11_floodIf_51 (by decide) ?_
          (try simp only [if_pos h3, opv_eq, if_true, if_false, Bool.false_eq_true, reduceCtorEq, b2i_t, b2i_f, u0_X11_floodIf, u1_X11_floodIf] at hj); exact hj
      · skip
        exact g_iret rfl d_X11_floodIf_59 ⟨by simp only [f_X11_floodIf, m_X11_floodIf, if_neg h1, if_pos h2, opv_eq, if_true, if_false, Bool.false_eq_true, reduceCtorEq, b2i_t, b2i_f], by simp only [f_X11_floodIf, m_X11_floodIf, if_neg h1, if_pos h2, opv_eq, if_true, if_false, Bool.false_eq_true, reduceCtorEq, b2i_t, b2i_f]⟩ (Nat.le_refl _) (Nat.le_refl _)
    · skip
      refine g_aload_n0 rfl d_X11_floodIf_28 ?_
      refine g_iconst 1 d_X11_floodIf_29 (by decide) ?_
      refine g_callV1 (c_X11_no (m_X11_good I) 1) w_X11_no l_X11_171 d_X11_floodIf_30 rfl (Nat.le_of_ble_eq_true rfl) rfl rfl (Nat.le_of_ble_eq_true rfl) ⟨Nat.le_of_ble_eq_true rfl, Nat.le_of_ble_eq_true rfl⟩ ⟨Nat.zero_le _, Nat.zero_le _⟩ ⟨rfl, rfl⟩ ?_
      exact g_iret rfl d_X11_floodIf_33 ⟨by simp only [f_X11_floodIf, m_X11_floodIf, if_neg h1, if_neg (nb h2), opv_eq, if_true, if_false, Bool.false_eq_true, reduceCtorEq, b2i_t, b2i_f], by simp only [f_X11_floodIf, m_X11_floodIf, if_neg h1, if_neg (nb h2), opv_eq, if_true, if_false, Bool.false_eq_true, reduceCtorEq, b2i_t, b2i_f]⟩ (Nat.le_refl _) (Nat.le_refl _)
theorem floodBy_o (I : Nat → Nat → Int32) (x y : Int32) {c : Nat} (h : c ≠ 65) (j : Nat) : m_X11_floodBy I x y c j = I c j := by
  simp [m_X11_floodBy, opv_eq, st2, va_up, h]
noncomputable def u0_X11_narrow (l2 : Int32) (I1 : Nat → Nat → Int32) : Nat → Nat → Int32 := opv (m_X11_floodBy I1 l2 ((I1 68 ((53 + (3 * l2)) + 2).toNatClampNeg) + 1))
noncomputable def u1_X11_narrow (l2 : Int32) (I1 : Nat → Nat → Int32) : Int32 := opv (if (f_X11_floodBy I1 l2 ((I1 68 ((53 + (3 * l2)) + 2).toNatClampNeg) + 1)) ≤ (f_X11_floodBy (u0_X11_narrow l2 I1) (-1) 0) then 0 else 1 <<< (l2 &&& 31))
noncomputable def lp_X11_narrow_21  : Nat → Int32 → Int32 → (Nat → Nat → Int32) → Int32 × Int32 × (Nat → Nat → Int32)
  | 0, l1, l2, I1 => (l1, l2, I1)
  | n + 1, l1, l2, I1 => (if (I1 68 9) ≤ l2 then (l1, l2, I1) else (lp_X11_narrow_21  n (l1 ||| (u1_X11_narrow l2 I1)) (l2 + 1) (m_X11_floodBy (u0_X11_narrow l2 I1) (-1) 0)))
def oklp_X11_narrow_21  : Nat → Int32 → Int32 → (Nat → Nat → Int32) → Prop
  | 0, l1, l2, I1 => True
  | n + 1, l1, l2, I1 => (if (I1 68 9) ≤ l2 then True else (vp_in ((53 + (3 * l2)) + 2) (sz 68) ∧ (ok_X11_floodBy I1 l2 ((I1 68 ((53 + (3 * l2)) + 2).toNatClampNeg) + 1) ∧ (ok_X11_floodBy (u0_X11_narrow l2 I1) (-1) 0 ∧ oklp_X11_narrow_21  n (l1 ||| (u1_X11_narrow l2 I1)) (l2 + 1) (m_X11_floodBy (u0_X11_narrow l2 I1) (-1) 0)))))
set_option maxHeartbeats 800000 in
set_option maxRecDepth 4000 in
theorem k_lp_X11_narrow_21 {k : KT} {ex : Bool} {J : Nat → Nat → Int64} {w : Bool}  {F : FinT} : ∀ (n : Nat) (l1 : Int32) (l2 : Int32) (I1 : (Nat → Nat → Int32)), mu_up (I1 68 9) l2 < n → oklp_X11_narrow_21  n l1 l2 I1 → G k mX11_narrow (roomOf 5 0 0) F 0 0 77 [some (.ref (ka k 65)), some (.int ((lp_X11_narrow_21  n l1 l2 I1).1)), some (.int ((lp_X11_narrow_21  n l1 l2 I1).2.1))] [] (81, ex, (lp_X11_narrow_21  n l1 l2 I1).2.2, J, Pw w) → G k mX11_narrow (roomOf 5 0 0) F 0 0 21 [some (.ref (ka k 65)), some (.int l1), some (.int l2)] [] (81, ex, I1, J, Pw w) := by
  intro n
  induction n with
  | zero => intro l1 l2 I1 hmu hok hj; exact absurd hmu (Nat.not_lt_zero _)
  | succ n ih =>
    intro l1 l2 I1 hmu hok hj
    rw [oklp_X11_narrow_21] at hok
    refine g_iload_n2 rfl d_X11_narrow_21 ?_
    refine g_aload_n0 rfl d_X11_narrow_22 ?_
    refine g_getP (b := 68) f_X11_20 d_X11_narrow_23 rfl (Nat.le_of_ble_eq_true rfl) rfl rfl ?_
    refine g_bipush 9 d_X11_narrow_26 (by decide) ?_
    refine g_ialdv (I1 68 9) rfl d_X11_narrow_28 rfl (Nat.le_of_ble_eq_true rfl) (vp_c (by decide +kernel)) ?_
    refine g_icmp_ge 77 d_X11_narrow_29 (by decide) (fun h1 => ?_) (fun h1 => ?_)
    · skip
      (try simp only [lp_X11_narrow_21, if_pos h1, opv_eq, if_true, if_false, Bool.false_eq_true, reduceCtorEq, b2i_t, b2i_f] at hj); exact hj
    · skip
      rw [if_neg h1] at hok
      refine g_iload_n1 rfl d_X11_narrow_32 ?_
      refine g_aload_n0 rfl d_X11_narrow_33 ?_
      refine g_iload_n2 rfl d_X11_narrow_34 ?_
      refine g_aload_n0 rfl d_X11_narrow_35 ?_
      refine g_getP (b := 68) f_X11_20 d_X11_narrow_36 rfl (Nat.le_of_ble_eq_true rfl) rfl rfl ?_
      refine g_bipush 53 d_X11_narrow_39 (by decide) ?_
      refine g_iconst 3 d_X11_narrow_41 (by decide) ?_
      refine g_iload_n2 rfl d_X11_narrow_42 ?_
      refine g_imul d_X11_narrow_43 ?_
      refine g_iadd d_X11_narrow_44 ?_
      refine g_iconst 2 d_X11_narrow_45 (by decide) ?_
      refine g_iadd d_X11_narrow_46 ?_
      obtain ⟨ho1, hok⟩ := hok
      refine g_iald d_X11_narrow_47 rfl (Nat.le_of_ble_eq_true rfl) ho1 ?_
      refine g_iconst 1 d_X11_narrow_48 (by decide) ?_
      refine g_iadd d_X11_narrow_49 ?_
      obtain ⟨ho2, hok⟩ := hok
      refine g_callV1 (c_X11_floodBy I1 l2 ((I1 68 ((53 + (3 * l2)) + 2).toNatClampNeg) + 1) ho2) w_X11_floodBy l_X11_379 d_X11_narrow_50 rfl (Nat.le_of_ble_eq_true rfl) rfl rfl (Nat.le_of_ble_eq_true rfl) ⟨Nat.le_of_ble_eq_true rfl, Nat.le_of_ble_eq_true rfl⟩ ⟨Nat.zero_le _, Nat.zero_le _⟩ ⟨rfl, rfl⟩ ?_
      refine G.toI (I' := (u0_X11_narrow l2 I1)) (by rw [u0_X11_narrow, opv_eq]) ?_
      refine g_aload_n0 rfl d_X11_narrow_53 ?_
      refine g_iconst (-1) d_X11_narrow_54 (by decide) ?_
      refine g_iconst 0 d_X11_narrow_55 (by decide) ?_
      obtain ⟨ho3, hok⟩ := hok
      refine g_callV1 (c_X11_floodBy (u0_X11_narrow l2 I1) (-1) 0 ho3) w_X11_floodBy l_X11_379 d_X11_narrow_56 rfl (Nat.le_of_ble_eq_true rfl) rfl rfl (Nat.le_of_ble_eq_true rfl) ⟨Nat.le_of_ble_eq_true rfl, Nat.le_of_ble_eq_true rfl⟩ ⟨Nat.zero_le _, Nat.zero_le _⟩ ⟨rfl, rfl⟩ ?_
      refine g_cut (pc' := 69) (vs' := [some (.ref (ka k 65)), some (.int l1), some (.int l2)]) (st' := [.int (u1_X11_narrow l2 I1), .int l1]) (M' := (81, ex, (m_X11_floodBy (u0_X11_narrow l2 I1) (-1) 0), J, Pw w)) (fun hj => ?_) ?_
      · skip
        refine g_icmp_le 68 d_X11_narrow_59 (by decide) (fun h2 => ?_) (fun h2 => ?_)
        · skip
          refine g_iconst 0 d_X11_narrow_68 (by decide) ?_
          (try simp only [if_pos h2, opv_eq, if_true, if_false, Bool.false_eq_true, reduceCtorEq, b2i_t, b2i_f, u1_X11_narrow] at hj); exact hj
        · skip
          refine g_iconst 1 d_X11_narrow_62 (by decide) ?_
          refine g_iload_n2 rfl d_X11_narrow_63 ?_
          refine g_ishl d_X11_narrow_64 ?_
          refine g_goto 69 d_X11_narrow_65 (by decide) ?_
          (try simp only [if_neg h2, opv_eq, if_true, if_false, Bool.false_eq_true, reduceCtorEq, b2i_t, b2i_f, u1_X11_narrow] at hj); exact hj
      · skip
        refine g_ior d_X11_narrow_69 ?_
        refine g_isn1 rfl d_X11_narrow_70 ?_
        refine g_ic2 (l2 + 1) rfl rfl d_X11_narrow_71 ?_
        refine g_goto 21 d_X11_narrow_74 (by decide) ?_
        exact ih (l1 ||| (u1_X11_narrow l2 I1)) (l2 + 1) (m_X11_floodBy (u0_X11_narrow l2 I1) (-1) 0) (Nat.lt_of_lt_of_le (by simp only [u0_X11_narrow, u1_X11_narrow, opv_eq, floodBy_o _ _ _ (show (68 : Nat) ≠ 65 by decide)]; exact mu_up_lt h1) (Nat.le_of_lt_succ hmu)) (by (try simp only [if_neg h1, opv_eq, if_true, if_false, Bool.false_eq_true, reduceCtorEq, b2i_t, b2i_f] at hok); exact hok) (by (try simp only [lp_X11_narrow_21, if_neg h1, opv_eq, if_true, if_false, Bool.false_eq_true, reduceCtorEq, b2i_t, b2i_f] at hj); exact hj)
noncomputable def f_X11_narrow (I : Nat → Nat → Int32)  : Int32 := opv (if ((m_X11_good I) 65 14) = 0 then f_X11_no (m_X11_good I) 1 else (lp_X11_narrow_21  (mu_up ((m_X11_good I) 68 9) 0 + 1) 0 0 (m_X11_good I)).1)
noncomputable def m_X11_narrow (I : Nat → Nat → Int32)  : Nat → Nat → Int32 := opv (if ((m_X11_good I) 65 14) = 0 then (m_X11_no (m_X11_good I) 1) else (lp_X11_narrow_21  (mu_up ((m_X11_good I) 68 9) 0 + 1) 0 0 (m_X11_good I)).2.2)
noncomputable def ok_X11_narrow (I : Nat → Nat → Int32)  : Prop := opv (if ((m_X11_good I) 65 14) = 0 then True else oklp_X11_narrow_21  (mu_up ((m_X11_good I) 68 9) 0 + 1) 0 0 (m_X11_good I))
set_option maxHeartbeats 800000 in
set_option maxRecDepth 4000 in
theorem c_X11_narrow {k : KT} {ex : Bool} {J : Nat → Nat → Int64} {w : Bool} (I : Nat → Nat → Int32)   (hok : ok_X11_narrow I) : Cx k mX11_narrow 5 [.ref (ka k 65)] (81, ex, I, J, Pw w) (some (.int (f_X11_narrow I))) (81, ex, m_X11_narrow I, J, Pw w) := by
  refine Ct.of rfl [some (.ref (ka k 65)), none, none] rfl rfl (Nat.le_of_ble_eq_true rfl) ?_
  rw [ok_X11_narrow, opv_eq] at hok
  refine g_aload_n0 rfl d_X11_narrow_0 ?_
  refine g_callV0 (c_X11_good I ) w_X11_good l_X11_168 d_X11_narrow_1 rfl (Nat.le_of_ble_eq_true rfl) rfl rfl (Nat.le_of_ble_eq_true rfl) ⟨Nat.le_of_ble_eq_true rfl, Nat.le_of_ble_eq_true rfl⟩ ⟨Nat.zero_le _, Nat.zero_le _⟩ ⟨rfl, rfl⟩ ?_
  refine g_aload_n0 rfl d_X11_narrow_4 ?_
  refine g_getI f_X11_185 d_X11_narrow_5 rfl (Nat.le_of_ble_eq_true rfl) rfl ?_
  refine g_if_ne 17 d_X11_narrow_8 (by decide) (fun h3 => ?_) (fun h3 => ?_)
  · skip
    rw [if_neg h3] at hok
    refine g_iconst 0 d_X11_narrow_17 (by decide) ?_
    refine g_isn1 rfl d_X11_narrow_18 ?_
    refine g_iconst 0 d_X11_narrow_19 (by decide) ?_
    refine g_isn2 rfl d_X11_narrow_20 ?_
    refine k_lp_X11_narrow_21  _ 0 0 (m_X11_good I) (Nat.lt_succ_self _) hok ?_
    refine g_iload_n1 rfl d_X11_narrow_77 ?_
    exact g_iret rfl d_X11_narrow_78 ⟨by simp only [f_X11_narrow, m_X11_narrow, if_neg h3, opv_eq, if_true, if_false, Bool.false_eq_true, reduceCtorEq, b2i_t, b2i_f], by simp only [f_X11_narrow, m_X11_narrow, if_neg h3, opv_eq, if_true, if_false, Bool.false_eq_true, reduceCtorEq, b2i_t, b2i_f]⟩ (Nat.le_refl _) (Nat.le_refl _)
  · skip
    refine g_aload_n0 rfl d_X11_narrow_11 ?_
    refine g_iconst 1 d_X11_narrow_12 (by decide) ?_
    refine g_callV1 (c_X11_no (m_X11_good I) 1) w_X11_no l_X11_171 d_X11_narrow_13 rfl (Nat.le_of_ble_eq_true rfl) rfl rfl (Nat.le_of_ble_eq_true rfl) ⟨Nat.le_of_ble_eq_true rfl, Nat.le_of_ble_eq_true rfl⟩ ⟨Nat.zero_le _, Nat.zero_le _⟩ ⟨rfl, rfl⟩ ?_
    exact g_iret rfl d_X11_narrow_16 ⟨by simp only [f_X11_narrow, m_X11_narrow, if_pos h3, opv_eq, if_true, if_false, Bool.false_eq_true, reduceCtorEq, b2i_t, b2i_f], by simp only [f_X11_narrow, m_X11_narrow, if_pos h3, opv_eq, if_true, if_false, Bool.false_eq_true, reduceCtorEq, b2i_t, b2i_f]⟩ (Nat.le_refl _) (Nat.le_refl _)
noncomputable def u0_X11_downhill (I1 : Nat → Nat → Int32) (l2 : Int32) (l4 : Int32) : Int32 := opv (if (f_X11_hasBit I1 l2 (I1 68 (53 + (3 * l4)).toNatClampNeg)) = true then l2 ||| (1 <<< ((I1 68 ((53 + (3 * l4)) + 1).toNatClampNeg) &&& 31)) else l2)
noncomputable def lp_X11_downhill_49 (I1 : Nat → Nat → Int32) (x1 : Int32) (l3 : Int32) : Nat → Int32 → Int32 → Int32 × Int32
  | 0, l2, l4 => (l2, l4)
  | n + 1, l2, l4 => (if (I1 68 9) ≤ l4 then (l2, l4) else (lp_X11_downhill_49 I1 x1 l3 n (u0_X11_downhill I1 l2 l4) (l4 + 1)))
def oklp_X11_downhill_49 (I1 : Nat → Nat → Int32) (x1 : Int32) (l3 : Int32) : Nat → Int32 → Int32 → Prop
  | 0, l2, l4 => True
  | n + 1, l2, l4 => (if (I1 68 9) ≤ l4 then True else (vp_in (53 + (3 * l4)) (sz 68) ∧ ((if (f_X11_hasBit I1 l2 (I1 68 (53 + (3 * l4)).toNatClampNeg)) = true then vp_in ((53 + (3 * l4)) + 1) (sz 68) else True) ∧ oklp_X11_downhill_49 I1 x1 l3 n (u0_X11_downhill I1 l2 l4) (l4 + 1))))
set_option maxHeartbeats 800000 in
set_option maxRecDepth 4000 in
theorem k_lp_X11_downhill_49 {k : KT} {ex : Bool} {J : Nat → Nat → Int64} {w : Bool} (I1 : Nat → Nat → Int32) (x1 : Int32) (l3 : Int32) {F : FinT} : ∀ (n : Nat) (l2 : Int32) (l4 : Int32), mu_up (I1 68 9) l4 < n → oklp_X11_downhill_49 I1 x1 l3 n l2 l4 → G k mX11_downhill (roomOf 2 0 0) F 0 0 108 [some (.ref (ka k 65)), some (.int x1), some (.int ((lp_X11_downhill_49 I1 x1 l3 n l2 l4).1)), some (.int l3), some (.int ((lp_X11_downhill_49 I1 x1 l3 n l2 l4).2))] [] (81, ex, I1, J, Pw w) → G k mX11_downhill (roomOf 2 0 0) F 0 0 49 [some (.ref (ka k 65)), some (.int x1), some (.int l2), some (.int l3), some (.int l4)] [] (81, ex, I1, J, Pw w) := by
  intro n
  induction n with
  | zero => intro l2 l4 hmu hok hj; exact absurd hmu (Nat.not_lt_zero _)
  | succ n ih =>
    intro l2 l4 hmu hok hj
    rw [oklp_X11_downhill_49] at hok
    refine g_iload (i := 4) rfl d_X11_downhill_49 ?_
    refine g_aload_n0 rfl d_X11_downhill_51 ?_
    refine g_getP (b := 68) f_X11_20 d_X11_downhill_52 rfl (Nat.le_of_ble_eq_true rfl) rfl rfl ?_
    refine g_bipush 9 d_X11_downhill_55 (by decide) ?_
    refine g_ialdv (I1 68 9) rfl d_X11_downhill_57 rfl (Nat.le_of_ble_eq_true rfl) (vp_c (by decide +kernel)) ?_
    refine g_icmp_ge 108 d_X11_downhill_58 (by decide) (fun h1 => ?_) (fun h1 => ?_)
    · skip
      (try simp only [lp_X11_downhill_49, if_pos h1, opv_eq, if_true, if_false, Bool.false_eq_true, reduceCtorEq, b2i_t, b2i_f] at hj); exact hj
    · skip
      rw [if_neg h1] at hok
      refine g_iload_n2 rfl d_X11_downhill_61 ?_
      refine g_aload_n0 rfl d_X11_downhill_62 ?_
      refine g_getP (b := 68) f_X11_20 d_X11_downhill_63 rfl (Nat.le_of_ble_eq_true rfl) rfl rfl ?_
      refine g_bipush 53 d_X11_downhill_66 (by decide) ?_
      refine g_iconst 3 d_X11_downhill_68 (by decide) ?_
      refine g_iload (i := 4) rfl d_X11_downhill_69 ?_
      refine g_imul d_X11_downhill_71 ?_
      refine g_iadd d_X11_downhill_72 ?_
      obtain ⟨ho1, hok⟩ := hok
      refine g_iald d_X11_downhill_73 rfl (Nat.le_of_ble_eq_true rfl) ho1 ?_
      refine g_callS1 (c_X11_hasBit I1 l2 (I1 68 (53 + (3 * l4)).toNatClampNeg)) w_X11_hasBit l_X11_261 d_X11_downhill_74 rfl rfl (Nat.le_of_ble_eq_true rfl) ⟨Nat.le_of_ble_eq_true rfl, Nat.le_of_ble_eq_true rfl⟩ ⟨Nat.zero_le _, Nat.zero_le _⟩ ⟨rfl, rfl⟩ ?_
      obtain ⟨hoa, hob⟩ := hok
      refine g_cut (pc' := 102) (vs' := [some (.ref (ka k 65)), some (.int x1), some (.int (u0_X11_downhill I1 l2 l4)), some (.int l3), some (.int l4)]) (st' := []) (M' := (81, ex, I1, J, Pw w)) (fun hj => ?_) ?_
      · skip
        refine g_ifnz 83 d_X11_downhill_77 (by decide) (fun h2 => ?_) (fun h2 => ?_)
        · skip
          rw [if_pos h2] at hoa
          refine g_iload_n2 rfl d_X11_downhill_83 ?_
          refine g_iconst 1 d_X11_downhill_84 (by decide) ?_
          refine g_aload_n0 rfl d_X11_downhill_85 ?_
          refine g_getP (b := 68) f_X11_20 d_X11_downhill_86 rfl (Nat.le_of_ble_eq_true rfl) rfl rfl ?_
          refine g_bipush 53 d_X11_downhill_89 (by decide) ?_
          refine g_iconst 3 d_X11_downhill_91 (by decide) ?_
          refine g_iload (i := 4) rfl d_X11_downhill_92 ?_
          refine g_imul d_X11_downhill_94 ?_
          refine g_iadd d_X11_downhill_95 ?_
          refine g_iconst 1 d_X11_downhill_96 (by decide) ?_
          refine g_iadd d_X11_downhill_97 ?_
          have ho2 := hoa
          refine g_iald d_X11_downhill_98 rfl (Nat.le_of_ble_eq_true rfl) ho2 ?_
          refine g_ishl d_X11_downhill_99 ?_
          refine g_ior d_X11_downhill_100 ?_
          refine g_isn2 rfl d_X11_downhill_101 ?_
          (try simp only [if_pos h2, opv_eq, if_true, if_false, Bool.false_eq_true, reduceCtorEq, b2i_t, b2i_f, u0_X11_downhill] at hj); exact hj
        · skip
          refine g_goto 102 d_X11_downhill_80 (by decide) ?_
          (try simp only [if_neg (nb h2), opv_eq, if_true, if_false, Bool.false_eq_true, reduceCtorEq, b2i_t, b2i_f, u0_X11_downhill] at hj); exact hj
      · skip
        refine g_ic4 (l4 + 1) rfl rfl d_X11_downhill_102 ?_
        refine g_goto 49 d_X11_downhill_105 (by decide) ?_
        exact ih (u0_X11_downhill I1 l2 l4) (l4 + 1) (Nat.lt_of_lt_of_le (mu_up_lt h1) (Nat.le_of_lt_succ hmu)) (by (try simp only [if_neg h1, opv_eq, if_true, if_false, Bool.false_eq_true, reduceCtorEq, b2i_t, b2i_f] at hob); exact hob) (by (try simp only [lp_X11_downhill_49, if_neg h1, opv_eq, if_true, if_false, Bool.false_eq_true, reduceCtorEq, b2i_t, b2i_f] at hj); exact hj)
noncomputable def lp_X11_downhill_40 (I1 : Nat → Nat → Int32) (x1 : Int32) : Nat → Int32 → Int32 → Int32 × Int32
  | 0, l2, l3 => (l2, l3)
  | n + 1, l2, l3 => (if 6 ≤ l3 then (l2, l3) else (lp_X11_downhill_40 I1 x1 n ((lp_X11_downhill_49 I1 x1 l3 (mu_up (I1 68 9) 0 + 1) l2 0).1) (l3 + 1)))
def oklp_X11_downhill_40 (I1 : Nat → Nat → Int32) (x1 : Int32) : Nat → Int32 → Int32 → Prop
  | 0, l2, l3 => True
  | n + 1, l2, l3 => (if 6 ≤ l3 then True else (oklp_X11_downhill_49 I1 x1 l3 (mu_up (I1 68 9) 0 + 1) l2 0 ∧ oklp_X11_downhill_40 I1 x1 n ((lp_X11_downhill_49 I1 x1 l3 (mu_up (I1 68 9) 0 + 1) l2 0).1) (l3 + 1)))
set_option maxHeartbeats 800000 in
set_option maxRecDepth 4000 in
theorem k_lp_X11_downhill_40 {k : KT} {ex : Bool} {J : Nat → Nat → Int64} {w : Bool} (I1 : Nat → Nat → Int32) (x1 : Int32) {F : FinT} : ∀ (n : Nat) (l2 : Int32) (l3 : Int32), mu_up 6 l3 < n → oklp_X11_downhill_40 I1 x1 n l2 l3 → G k mX11_downhill (roomOf 2 0 0) F 0 0 114 [some (.ref (ka k 65)), some (.int x1), some (.int ((lp_X11_downhill_40 I1 x1 n l2 l3).1)), some (.int ((lp_X11_downhill_40 I1 x1 n l2 l3).2)), none] [] (81, ex, I1, J, Pw w) → G k mX11_downhill (roomOf 2 0 0) F 0 0 40 [some (.ref (ka k 65)), some (.int x1), some (.int l2), some (.int l3), none] [] (81, ex, I1, J, Pw w) := by
  intro n
  induction n with
  | zero => intro l2 l3 hmu hok hj; exact absurd hmu (Nat.not_lt_zero _)
  | succ n ih =>
    intro l2 l3 hmu hok hj
    rw [oklp_X11_downhill_40] at hok
    refine g_iload_n3 rfl d_X11_downhill_40 ?_
    refine g_bipush 6 d_X11_downhill_41 (by decide) ?_
    refine g_icmp_ge 114 d_X11_downhill_43 (by decide) (fun h3 => ?_) (fun h3 => ?_)
    · skip
      (try simp only [lp_X11_downhill_40, if_pos h3, opv_eq, if_true, if_false, Bool.false_eq_true, reduceCtorEq, b2i_t, b2i_f] at hj); exact hj
    · skip
      rw [if_neg h3] at hok
      refine g_iconst 0 d_X11_downhill_46 (by decide) ?_
      refine g_is4 rfl d_X11_downhill_47 ?_
      obtain ⟨hol, hok⟩ := hok
      refine k_lp_X11_downhill_49 I1 x1 l3 _ l2 0 (Nat.lt_succ_self _) hol ?_
      refine g_ic3 (l3 + 1) rfl rfl d_X11_downhill_108 ?_
      refine g_goto 40 d_X11_downhill_111 (by decide) ?_
      refine G.weak (wks (wks (wks (wks (wkn wk0))))) ?_; exact ih ((lp_X11_downhill_49 I1 x1 l3 (mu_up (I1 68 9) 0 + 1) l2 0).1) (l3 + 1) (Nat.lt_of_lt_of_le (mu_up_lt h3) (Nat.le_of_lt_succ hmu)) (by (try simp only [if_neg h3, opv_eq, if_true, if_false, Bool.false_eq_true, reduceCtorEq, b2i_t, b2i_f] at hok); exact hok) (by (try simp only [lp_X11_downhill_40, if_neg h3, opv_eq, if_true, if_false, Bool.false_eq_true, reduceCtorEq, b2i_t, b2i_f] at hj); exact hj)
noncomputable def f_X11_downhill (I : Nat → Nat → Int32) (x1 : Int32) : Int32 := opv (if ((m_X11_good I) 65 14) = 0 then f_X11_no (m_X11_good I) 1 else (if (f_X11_in (m_X11_good I) x1 0 (((m_X11_good I) 68 8) - 1)) = true then (lp_X11_downhill_40 (m_X11_good I) x1 (mu_up 6 0 + 1) (1 <<< (x1 &&& 31)) 0).1 else f_X11_no (m_X11_good I) 1))
noncomputable def m_X11_downhill (I : Nat → Nat → Int32) (x1 : Int32) : Nat → Nat → Int32 := opv (if ((m_X11_good I) 65 14) = 0 then (m_X11_no (m_X11_good I) 1) else (if (f_X11_in (m_X11_good I) x1 0 (((m_X11_good I) 68 8) - 1)) = true then (m_X11_good I) else (m_X11_no (m_X11_good I) 1)))
noncomputable def ok_X11_downhill (I : Nat → Nat → Int32) (x1 : Int32) : Prop := opv (if ((m_X11_good I) 65 14) = 0 then True else (if (f_X11_in (m_X11_good I) x1 0 (((m_X11_good I) 68 8) - 1)) = true then oklp_X11_downhill_40 (m_X11_good I) x1 (mu_up 6 0 + 1) (1 <<< (x1 &&& 31)) 0 else True))
set_option maxHeartbeats 800000 in
set_option maxRecDepth 4000 in
theorem c_X11_downhill {k : KT} {ex : Bool} {J : Nat → Nat → Int64} {w : Bool} (I : Nat → Nat → Int32) (x1 : Int32)  (hok : ok_X11_downhill I x1) : Cx k mX11_downhill 2 [.ref (ka k 65), .int x1] (81, ex, I, J, Pw w) (some (.int (f_X11_downhill I x1))) (81, ex, m_X11_downhill I x1, J, Pw w) := by
  refine Ct.of rfl [some (.ref (ka k 65)), some (.int x1), none, none, none] rfl rfl (Nat.le_of_ble_eq_true rfl) ?_
  rw [ok_X11_downhill, opv_eq] at hok
  refine g_aload_n0 rfl d_X11_downhill_0 ?_
  refine g_callV0 (c_X11_good I ) w_X11_good l_X11_168 d_X11_downhill_1 rfl (Nat.le_of_ble_eq_true rfl) rfl rfl (Nat.le_of_ble_eq_true rfl) ⟨Nat.le_of_ble_eq_true rfl, Nat.le_of_ble_eq_true rfl⟩ ⟨Nat.zero_le _, Nat.zero_le _⟩ ⟨rfl, rfl⟩ ?_
  refine g_aload_n0 rfl d_X11_downhill_4 ?_
  refine g_getI f_X11_185 d_X11_downhill_5 rfl (Nat.le_of_ble_eq_true rfl) rfl ?_
  refine g_if_eq 28 d_X11_downhill_8 (by decide) (fun h4 => ?_) (fun h4 => ?_)
  · skip
    refine g_aload_n0 rfl d_X11_downhill_28 ?_
    refine g_iconst 1 d_X11_downhill_29 (by decide) ?_
    refine g_callV1 (c_X11_no (m_X11_good I) 1) w_X11_no l_X11_171 d_X11_downhill_30 rfl (Nat.le_of_ble_eq_true rfl) rfl rfl (Nat.le_of_ble_eq_true rfl) ⟨Nat.le_of_ble_eq_true rfl, Nat.le_of_ble_eq_true rfl⟩ ⟨Nat.zero_le _, Nat.zero_le _⟩ ⟨rfl, rfl⟩ ?_
    exact g_iret rfl d_X11_downhill_33 ⟨by simp only [f_X11_downhill, m_X11_downhill, if_pos h4, opv_eq, if_true, if_false, Bool.false_eq_true, reduceCtorEq, b2i_t, b2i_f], by simp only [f_X11_downhill, m_X11_downhill, if_pos h4, opv_eq, if_true, if_false, Bool.false_eq_true, reduceCtorEq, b2i_t, b2i_f]⟩ (Nat.le_refl _) (Nat.le_refl _)
  · skip
    rw [if_neg h4] at hok
    refine g_iload_n1 rfl d_X11_downhill_11 ?_
    refine g_iconst 0 d_X11_downhill_12 (by decide) ?_
    refine g_aload_n0 rfl d_X11_downhill_13 ?_
    refine g_getP (b := 68) f_X11_20 d_X11_downhill_14 rfl (Nat.le_of_ble_eq_true rfl) rfl rfl ?_
    refine g_bipush 8 d_X11_downhill_17 (by decide) ?_
    refine g_ialdv ((m_X11_good I) 68 8) rfl d_X11_downhill_19 rfl (Nat.le_of_ble_eq_true rfl) (vp_c (by decide +kernel)) ?_
    refine g_iconst 1 d_X11_downhill_20 (by decide) ?_
    refine g_isub d_X11_downhill_21 ?_
    refine g_callS1 (c_X11_in (m_X11_good I) x1 0 (((m_X11_good I) 68 8) - 1)) w_X11_in l_X11_149 d_X11_downhill_22 rfl rfl (Nat.le_of_ble_eq_true rfl) ⟨Nat.le_of_ble_eq_true rfl, Nat.le_of_ble_eq_true rfl⟩ ⟨Nat.zero_le _, Nat.zero_le _⟩ ⟨rfl, rfl⟩ ?_
    refine g_ifnz 34 d_X11_downhill_25 (by decide) (fun h5 => ?_) (fun h5 => ?_)
    · skip
      rw [if_pos h5] at hok
      refine g_iconst 1 d_X11_downhill_34 (by decide) ?_
      refine g_iload_n1 rfl d_X11_downhill_35 ?_
      refine g_ishl d_X11_downhill_36 ?_
      refine g_isn2 rfl d_X11_downhill_37 ?_
      refine g_iconst 0 d_X11_downhill_38 (by decide) ?_
      refine g_isn3 rfl d_X11_downhill_39 ?_
      refine k_lp_X11_downhill_40 (m_X11_good I) x1 _ (1 <<< (x1 &&& 31)) 0 (Nat.lt_succ_self _) hok ?_
      refine g_iload_n2 rfl d_X11_downhill_114 ?_
      exact g_iret rfl d_X11_downhill_115 ⟨by simp only [f_X11_downhill, m_X11_downhill, if_neg h4, if_pos h5, opv_eq, if_true, if_false, Bool.false_eq_true, reduceCtorEq, b2i_t, b2i_f], by simp only [f_X11_downhill, m_X11_downhill, if_neg h4, if_pos h5, opv_eq, if_true, if_false, Bool.false_eq_true, reduceCtorEq, b2i_t, b2i_f]⟩ (Nat.le_refl _) (Nat.le_refl _)
    · skip
      refine g_aload_n0 rfl d_X11_downhill_28 ?_
      refine g_iconst 1 d_X11_downhill_29 (by decide) ?_
      refine g_callV1 (c_X11_no (m_X11_good I) 1) w_X11_no l_X11_171 d_X11_downhill_30 rfl (Nat.le_of_ble_eq_true rfl) rfl rfl (Nat.le_of_ble_eq_true rfl) ⟨Nat.le_of_ble_eq_true rfl, Nat.le_of_ble_eq_true rfl⟩ ⟨Nat.zero_le _, Nat.zero_le _⟩ ⟨rfl, rfl⟩ ?_
      exact g_iret rfl d_X11_downhill_33 ⟨by simp only [f_X11_downhill, m_X11_downhill, if_neg h4, if_neg (nb h5), opv_eq, if_true, if_false, Bool.false_eq_true, reduceCtorEq, b2i_t, b2i_f], by simp only [f_X11_downhill, m_X11_downhill, if_neg h4, if_neg (nb h5), opv_eq, if_true, if_false, Bool.false_eq_true, reduceCtorEq, b2i_t, b2i_f]⟩ (Nat.le_refl _) (Nat.le_refl _)
noncomputable def m_X11_gust (I : Nat → Nat → Int32) (x1 : Nat) : Nat → Nat → Int32 := opv (st2 I x1 0 (f_X11_bound I ((I x1 0) + 1)))
noncomputable def ok_X11_gust (I : Nat → Nat → Int32) (x1 : Nat) : Prop := opv (vp_in (0 : Int32) (sz x1) ∧ vp_in (0 : Int32) (sz x1))
set_option maxHeartbeats 800000 in
set_option maxRecDepth 4000 in
theorem c_X11_gust {k : KT} {ex : Bool} {J : Nat → Nat → Int64} {w : Bool} (I : Nat → Nat → Int32) (x1 : Nat) (hx1 : kd x1 = 12)  (hok : ok_X11_gust I x1) : Cx k mX11_gust 2 [.ref (ka k x1)] (81, ex, I, J, Pw w) none (81, ex, m_X11_gust I x1, J, Pw w) := by
  refine Ct.of rfl [some (.ref (ka k x1))] rfl rfl (Nat.le_of_ble_eq_true rfl) ?_
  rw [ok_X11_gust, opv_eq] at hok
  refine g_aload_n0 rfl d_X11_gust_0 ?_
  refine g_iconst 0 d_X11_gust_1 (by decide) ?_
  refine g_aload_n0 rfl d_X11_gust_2 ?_
  refine g_iconst 0 d_X11_gust_3 (by decide) ?_
  obtain ⟨ho1, hok⟩ := hok
  refine g_ialdv (I x1 0) rfl d_X11_gust_4 hx1 (kd_sg hx1 (by decide)) ho1 ?_
  refine g_iconst 1 d_X11_gust_5 (by decide) ?_
  refine g_iadd d_X11_gust_6 ?_
  refine g_callS1 (c_X11_bound I ((I x1 0) + 1)) w_X11_bound l_X11_265 d_X11_gust_7 rfl rfl (Nat.le_of_ble_eq_true rfl) ⟨Nat.le_of_ble_eq_true rfl, Nat.le_of_ble_eq_true rfl⟩ ⟨Nat.zero_le _, Nat.zero_le _⟩ ⟨rfl, rfl⟩ ?_
  have ho2 := hok
  refine g_iasts (n := 0) rfl d_X11_gust_10 hx1 (kd_sg hx1 (by decide)) ho2 ?_
  exact g_vret rfl d_X11_gust_11 ⟨rfl, by simp only [m_X11_gust, opv_eq, if_true, if_false, Bool.false_eq_true, reduceCtorEq, b2i_t, b2i_f]⟩ (Nat.le_refl _) (Nat.le_refl _)
noncomputable def lp_X11_tryGusts_12 (I : Nat → Nat → Int32) (x1 : Int32) : Nat → Int32 → (Nat → Nat → Int64) → Int32 × (Nat → Nat → Int64)
  | 0, l2, J1 => (l2, J1)
  | n + 1, l2, J1 => (if 4 ≤ l2 then (l2, J1) else (lp_X11_tryGusts_12 I x1 n (l2 + 1) (va_up J1 79 (vp_updL (J1 79) l2.toNatClampNeg 0))))
def oklp_X11_tryGusts_12 (I : Nat → Nat → Int32) (x1 : Int32) : Nat → Int32 → (Nat → Nat → Int64) → Prop
  | 0, l2, J1 => True
  | n + 1, l2, J1 => (if 4 ≤ l2 then True else (vp_in l2 (sz 79) ∧ oklp_X11_tryGusts_12 I x1 n (l2 + 1) (va_up J1 79 (vp_updL (J1 79) l2.toNatClampNeg 0))))
set_option maxHeartbeats 800000 in
set_option maxRecDepth 4000 in
theorem k_lp_X11_tryGusts_12 {k : KT} {ex : Bool} {w : Bool} (I : Nat → Nat → Int32) (x1 : Int32) {F : FinT} : ∀ (n : Nat) (l2 : Int32) (J1 : (Nat → Nat → Int64)), mu_up 4 l2 < n → oklp_X11_tryGusts_12 I x1 n l2 J1 → G k mX11_tryGusts (roomOf 5 0 0) F 0 0 30 [some (.ref (ka k 65)), some (.int x1), some (.int ((lp_X11_tryGusts_12 I x1 n l2 J1).1)), none, none, none] [] (81, ex, I, (lp_X11_tryGusts_12 I x1 n l2 J1).2, Pw w) → G k mX11_tryGusts (roomOf 5 0 0) F 0 0 12 [some (.ref (ka k 65)), some (.int x1), some (.int l2), none, none, none] [] (81, ex, I, J1, Pw w) := by
  intro n
  induction n with
  | zero => intro l2 J1 hmu hok hj; exact absurd hmu (Nat.not_lt_zero _)
  | succ n ih =>
    intro l2 J1 hmu hok hj
    rw [oklp_X11_tryGusts_12] at hok
    refine g_iload_n2 rfl d_X11_tryGusts_12 ?_
    refine g_iconst 4 d_X11_tryGusts_13 (by decide) ?_
    refine g_icmp_ge 30 d_X11_tryGusts_14 (by decide) (fun h1 => ?_) (fun h1 => ?_)
    · skip
      (try simp only [lp_X11_tryGusts_12, if_pos h1, opv_eq, if_true, if_false, Bool.false_eq_true, reduceCtorEq, b2i_t, b2i_f] at hj); exact hj
    · skip
      rw [if_neg h1] at hok
      refine g_aload_n0 rfl d_X11_tryGusts_17 ?_
      refine g_getP (b := 79) f_X11_56 d_X11_tryGusts_18 rfl (Nat.le_of_ble_eq_true rfl) rfl rfl ?_
      refine g_iload_n2 rfl d_X11_tryGusts_21 ?_
      refine g_lconst 0 d_X11_tryGusts_22 (by decide) ?_
      obtain ⟨ho1, hok⟩ := hok
      refine g_last d_X11_tryGusts_23 rfl (Nat.le_of_ble_eq_true rfl) ho1 ?_
      refine g_ic2 (l2 + 1) rfl rfl d_X11_tryGusts_24 ?_
      refine g_goto 12 d_X11_tryGusts_27 (by decide) ?_
      exact ih (l2 + 1) (va_up J1 79 (vp_updL (J1 79) l2.toNatClampNeg 0)) (Nat.lt_of_lt_of_le (mu_up_lt h1) (Nat.le_of_lt_succ hmu)) (by (try simp only [if_neg h1, opv_eq, if_true, if_false, Bool.false_eq_true, reduceCtorEq, b2i_t, b2i_f] at hok); exact hok) (by (try simp only [lp_X11_tryGusts_12, if_neg h1, opv_eq, if_true, if_false, Bool.false_eq_true, reduceCtorEq, b2i_t, b2i_f] at hj); exact hj)
noncomputable def lp_X11_tryGusts_32 (I : Nat → Nat → Int32) (x1 : Int32) : Nat → Int32 → (Nat → Nat → Int64) → Int32 × (Nat → Nat → Int64)
  | 0, l2, J1 => (l2, J1)
  | n + 1, l2, J1 => (if x1 ≤ l2 then (l2, J1) else (lp_X11_tryGusts_32 I x1 n (l2 + 1) (stJ J1 65 37 ((J1 65 37) * 100))))
set_option maxHeartbeats 800000 in
set_option maxRecDepth 4000 in
theorem k_lp_X11_tryGusts_32 {k : KT} {ex : Bool} {w : Bool} (I : Nat → Nat → Int32) (x1 : Int32) {F : FinT} : ∀ (n : Nat) (l2 : Int32) (J1 : (Nat → Nat → Int64)), mu_up x1 l2 < n → G k mX11_tryGusts (roomOf 5 0 0) F 0 0 55 [some (.ref (ka k 65)), some (.int x1), some (.int ((lp_X11_tryGusts_32 I x1 n l2 J1).1)), none, none, none] [] (81, ex, I, (lp_X11_tryGusts_32 I x1 n l2 J1).2, Pw w) → G k mX11_tryGusts (roomOf 5 0 0) F 0 0 32 [some (.ref (ka k 65)), some (.int x1), some (.int l2), none, none, none] [] (81, ex, I, J1, Pw w) := by
  intro n
  induction n with
  | zero => intro l2 J1 hmu hj; exact absurd hmu (Nat.not_lt_zero _)
  | succ n ih =>
    intro l2 J1 hmu hj
    refine g_iload_n2 rfl d_X11_tryGusts_32 ?_
    refine g_iload_n1 rfl d_X11_tryGusts_33 ?_
    refine g_icmp_ge 55 d_X11_tryGusts_34 (by decide) (fun h2 => ?_) (fun h2 => ?_)
    · skip
      (try simp only [lp_X11_tryGusts_32, if_pos h2, opv_eq, if_true, if_false, Bool.false_eq_true, reduceCtorEq, b2i_t, b2i_f] at hj); exact hj
    · skip
      refine g_aload_n0 rfl d_X11_tryGusts_37 ?_
      refine g_dup rfl d_X11_tryGusts_38 ?_
      refine g_getJ f_X11_382 d_X11_tryGusts_39 rfl (Nat.le_of_ble_eq_true rfl) rfl ?_
      refine g_ldc2 (v := 100) (in8 48 (by decide +kernel) rfl) d_X11_tryGusts_42 ?_
      refine g_lmul d_X11_tryGusts_45 ?_
      refine g_putJ f_X11_382 d_X11_tryGusts_46 rfl (Nat.le_of_ble_eq_true rfl) rfl rfl rfl ?_
      refine g_ic2 (l2 + 1) rfl rfl d_X11_tryGusts_49 ?_
      refine g_goto 32 d_X11_tryGusts_52 (by decide) ?_
      exact ih (l2 + 1) (stJ J1 65 37 ((J1 65 37) * 100)) (Nat.lt_of_lt_of_le (mu_up_lt h2) (Nat.le_of_lt_succ hmu)) (by (try simp only [lp_X11_tryGusts_32, if_neg h2, opv_eq, if_true, if_false, Bool.false_eq_true, reduceCtorEq, b2i_t, b2i_f] at hj); exact hj)
noncomputable def u0_X11_tryGusts (l2 : Int32) (l5 : Int32) (I1 : Nat → Nat → Int32) : Int64 := opv (if (f_X11_hasBit (m_X11_dayOf I1 73) l2 l5) = true then ((m_X11_dayOf I1 73) 68 2).toInt64 else (100 - ((m_X11_dayOf I1 73) 68 2)).toInt64)
noncomputable def u1_X11_tryGusts (l2 : Int32) (l5 : Int32) (I1 : Nat → Nat → Int32) : Nat → Nat → Int32 := opv (if (f_X11_hasBit (m_X11_dayOf I1 73) l2 l5) = true then (m_X11_gust (m_X11_dayOf I1 73) 73) else (m_X11_dayOf I1 73))
noncomputable def lp_X11_tryGusts_73 (J1 : Nat → Nat → Int64) (x1 : Int32) (l2 : Int32) : Nat → Int64 → Int32 → (Nat → Nat → Int32) → Int64 × Int32 × (Nat → Nat → Int32)
  | 0, l3, l5, I1 => (l3, l5, I1)
  | n + 1, l3, l5, I1 => (if x1 ≤ l5 then (l3, l5, I1) else (lp_X11_tryGusts_73 J1 x1 l2 n (l3 * (u0_X11_tryGusts l2 l5 I1)) (l5 + 1) (u1_X11_tryGusts l2 l5 I1)))
def oklp_X11_tryGusts_73 (J1 : Nat → Nat → Int64) (x1 : Int32) (l2 : Int32) : Nat → Int64 → Int32 → (Nat → Nat → Int32) → Prop
  | 0, l3, l5, I1 => True
  | n + 1, l3, l5, I1 => (if x1 ≤ l5 then True else (ok_X11_dayOf I1 73 ∧ ((if (f_X11_hasBit (m_X11_dayOf I1 73) l2 l5) = true then ok_X11_gust (m_X11_dayOf I1 73) 73 else True) ∧ oklp_X11_tryGusts_73 J1 x1 l2 n (l3 * (u0_X11_tryGusts l2 l5 I1)) (l5 + 1) (u1_X11_tryGusts l2 l5 I1))))
set_option maxHeartbeats 800000 in
set_option maxRecDepth 4000 in
theorem k_lp_X11_tryGusts_73 {k : KT} {ex : Bool} {w : Bool} (J1 : Nat → Nat → Int64) (x1 : Int32) (l2 : Int32) {F : FinT} : ∀ (n : Nat) (l3 : Int64) (l5 : Int32) (I1 : (Nat → Nat → Int32)), mu_up x1 l5 < n → oklp_X11_tryGusts_73 J1 x1 l2 n l3 l5 I1 → G k mX11_tryGusts (roomOf 5 0 0) F 0 0 141 [some (.ref (ka k 65)), some (.int x1), some (.int l2), some (.long ((lp_X11_tryGusts_73 J1 x1 l2 n l3 l5 I1).1)), none, some (.int ((lp_X11_tryGusts_73 J1 x1 l2 n l3 l5 I1).2.1))] [] (81, ex, (lp_X11_tryGusts_73 J1 x1 l2 n l3 l5 I1).2.2, J1, Pw w) → G k mX11_tryGusts (roomOf 5 0 0) F 0 0 73 [some (.ref (ka k 65)), some (.int x1), some (.int l2), some (.long l3), none, some (.int l5)] [] (81, ex, I1, J1, Pw w) := by
  intro n
  induction n with
  | zero => intro l3 l5 I1 hmu hok hj; exact absurd hmu (Nat.not_lt_zero _)
  | succ n ih =>
    intro l3 l5 I1 hmu hok hj
    rw [oklp_X11_tryGusts_73] at hok
    refine g_iload (i := 5) rfl d_X11_tryGusts_73 ?_
    refine g_iload_n1 rfl d_X11_tryGusts_75 ?_
    refine g_icmp_ge 141 d_X11_tryGusts_76 (by decide) (fun h3 => ?_) (fun h3 => ?_)
    · skip
      (try simp only [lp_X11_tryGusts_73, if_pos h3, opv_eq, if_true, if_false, Bool.false_eq_true, reduceCtorEq, b2i_t, b2i_f] at hj); exact hj
    · skip
      rw [if_neg h3] at hok
      refine g_aload_n0 rfl d_X11_tryGusts_79 ?_
      refine g_aload_n0 rfl d_X11_tryGusts_80 ?_
      refine g_getP (b := 73) f_X11_35 d_X11_tryGusts_81 rfl (Nat.le_of_ble_eq_true rfl) rfl rfl ?_
      obtain ⟨ho3, hok⟩ := hok
      refine g_callV0 (c_X11_dayOf I1 73 rfl (by decide) ho3) w_X11_dayOf l_X11_288 d_X11_tryGusts_84 rfl (Nat.le_of_ble_eq_true rfl) rfl rfl (Nat.le_of_ble_eq_true rfl) ⟨Nat.le_of_ble_eq_true rfl, Nat.le_of_ble_eq_true rfl⟩ ⟨Nat.zero_le _, Nat.zero_le _⟩ ⟨rfl, rfl⟩ ?_
      refine g_lload_n3 rfl d_X11_tryGusts_87 ?_
      refine g_iload_n2 rfl d_X11_tryGusts_88 ?_
      refine g_iload (i := 5) rfl d_X11_tryGusts_89 ?_
      refine g_callS1 (c_X11_hasBit (m_X11_dayOf I1 73) l2 l5) w_X11_hasBit l_X11_261 d_X11_tryGusts_91 rfl rfl (Nat.le_of_ble_eq_true rfl) ⟨Nat.le_of_ble_eq_true rfl, Nat.le_of_ble_eq_true rfl⟩ ⟨Nat.zero_le _, Nat.zero_le _⟩ ⟨rfl, rfl⟩ ?_
      refine g_cut (pc' := 117) (vs' := [some (.ref (ka k 65)), some (.int x1), some (.int l2), some (.long l3), none, some (.int l5)]) (st' := [.long (u0_X11_tryGusts l2 l5 I1), .long l3]) (M' := (81, ex, (m_X11_dayOf I1 73), J1, Pw w)) (fun hj => ?_) ?_
      · skip
        refine g_ifz 107 d_X11_tryGusts_94 (by decide) (fun h4 => ?_) (fun h4 => ?_)
        · skip
          refine g_bipush 100 d_X11_tryGusts_107 (by decide) ?_
          refine g_aload_n0 rfl d_X11_tryGusts_109 ?_
          refine g_getP (b := 68) f_X11_20 d_X11_tryGusts_110 rfl (Nat.le_of_ble_eq_true rfl) rfl rfl ?_
          refine g_iconst 2 d_X11_tryGusts_113 (by decide) ?_
          refine g_ialdv ((m_X11_dayOf I1 73) 68 2) rfl d_X11_tryGusts_114 rfl (Nat.le_of_ble_eq_true rfl) (vp_c (by decide +kernel)) ?_
          refine g_isub d_X11_tryGusts_115 ?_
          refine g_i2l d_X11_tryGusts_116 ?_
          (try simp only [if_neg (nb h4), opv_eq, if_true, if_false, Bool.false_eq_true, reduceCtorEq, b2i_t, b2i_f, u0_X11_tryGusts] at hj); exact hj
        · skip
          refine g_aload_n0 rfl d_X11_tryGusts_97 ?_
          refine g_getP (b := 68) f_X11_20 d_X11_tryGusts_98 rfl (Nat.le_of_ble_eq_true rfl) rfl rfl ?_
          refine g_iconst 2 d_X11_tryGusts_101 (by decide) ?_
          refine g_ialdv ((m_X11_dayOf I1 73) 68 2) rfl d_X11_tryGusts_102 rfl (Nat.le_of_ble_eq_true rfl) (vp_c (by decide +kernel)) ?_
          refine g_i2l d_X11_tryGusts_103 ?_
          refine g_goto 117 d_X11_tryGusts_104 (by decide) ?_
          (try simp only [if_pos h4, opv_eq, if_true, if_false, Bool.false_eq_true, reduceCtorEq, b2i_t, b2i_f, u0_X11_tryGusts] at hj); exact hj
      · skip
        refine g_lmul d_X11_tryGusts_117 ?_
        refine g_lsn3 rfl d_X11_tryGusts_118 ?_
        refine g_iload_n2 rfl d_X11_tryGusts_119 ?_
        refine g_iload (i := 5) rfl d_X11_tryGusts_120 ?_
        refine g_callS1 (c_X11_hasBit (m_X11_dayOf I1 73) l2 l5) w_X11_hasBit l_X11_261 d_X11_tryGusts_122 rfl rfl (Nat.le_of_ble_eq_true rfl) ⟨Nat.le_of_ble_eq_true rfl, Nat.le_of_ble_eq_true rfl⟩ ⟨Nat.zero_le _, Nat.zero_le _⟩ ⟨rfl, rfl⟩ ?_
        obtain ⟨hoa, hob⟩ := hok
        refine g_cut (pc' := 135) (vs' := [some (.ref (ka k 65)), some (.int x1), some (.int l2), some (.long (l3 * (u0_X11_tryGusts l2 l5 I1))), none, some (.int l5)]) (st' := []) (M' := (81, ex, (u1_X11_tryGusts l2 l5 I1), J1, Pw w)) (fun hj => ?_) ?_
        · skip
          refine g_ifz 135 d_X11_tryGusts_125 (by decide) (fun h5 => ?_) (fun h5 => ?_)
          · skip
            (try simp only [if_neg (nb h5), opv_eq, if_true, if_false, Bool.false_eq_true, reduceCtorEq, b2i_t, b2i_f, u1_X11_tryGusts] at hj); exact hj
          · skip
            rw [if_pos h5] at hoa
            refine g_aload_n0 rfl d_X11_tryGusts_128 ?_
            refine g_getP (b := 73) f_X11_35 d_X11_tryGusts_129 rfl (Nat.le_of_ble_eq_true rfl) rfl rfl ?_
            have ho4 := hoa
            refine g_callS0 (c_X11_gust (m_X11_dayOf I1 73) 73 rfl ho4) w_X11_gust l_X11_391 d_X11_tryGusts_132 rfl rfl (Nat.le_of_ble_eq_true rfl) ⟨Nat.le_of_ble_eq_true rfl, Nat.le_of_ble_eq_true rfl⟩ ⟨Nat.zero_le _, Nat.zero_le _⟩ ⟨rfl, rfl⟩ ?_
            (try simp only [if_pos h5, opv_eq, if_true, if_false, Bool.false_eq_true, reduceCtorEq, b2i_t, b2i_f, u1_X11_tryGusts] at hj); exact hj
        · skip
          refine g_ic5 (l5 + 1) rfl rfl d_X11_tryGusts_135 ?_
          refine g_goto 73 d_X11_tryGusts_138 (by decide) ?_
          exact ih (l3 * (u0_X11_tryGusts l2 l5 I1)) (l5 + 1) (u1_X11_tryGusts l2 l5 I1) (Nat.lt_of_lt_of_le (mu_up_lt h3) (Nat.le_of_lt_succ hmu)) (by (try simp only [if_neg h3, opv_eq, if_true, if_false, Bool.false_eq_true, reduceCtorEq, b2i_t, b2i_f] at hob); exact hob) (by (try simp only [lp_X11_tryGusts_73, if_neg h3, opv_eq, if_true, if_false, Bool.false_eq_true, reduceCtorEq, b2i_t, b2i_f] at hj); exact hj)
noncomputable def u2_X11_tryGusts (x1 : Int32) (l2 : Int32) (I1 : Nat → Nat → Int32) (J1 : Nat → Nat → Int64) : Nat → Nat → Int32 := opv ((lp_X11_tryGusts_73 J1 x1 l2 (mu_up x1 0 + 1) 1 0 (m_X11_begin I1)).2.2)
noncomputable def lp_X11_tryGusts_57 (x1 : Int32) : Nat → Int32 → (Nat → Nat → Int32) → (Nat → Nat → Int64) → Int32 × (Nat → Nat → Int32) × (Nat → Nat → Int64)
  | 0, l2, I1, J1 => (l2, I1, J1)
  | n + 1, l2, I1, J1 => (if (1 <<< (x1 &&& 31)) ≤ l2 then (l2, I1, J1) else (lp_X11_tryGusts_57 x1 n (l2 + 1) (u2_X11_tryGusts x1 l2 I1 J1) (stJ (va_up J1 79 (vp_updL (J1 79) (f_X11_whoOf ((lp_X11_tryGusts_73 J1 x1 l2 (mu_up x1 0 + 1) 1 0 (m_X11_begin I1)).2.2) 73).toNatClampNeg ((J1 79 (f_X11_whoOf ((lp_X11_tryGusts_73 J1 x1 l2 (mu_up x1 0 + 1) 1 0 (m_X11_begin I1)).2.2) 73).toNatClampNeg) + ((lp_X11_tryGusts_73 J1 x1 l2 (mu_up x1 0 + 1) 1 0 (m_X11_begin I1)).1)))) 65 38 ((J1 65 38) + (((lp_X11_tryGusts_73 J1 x1 l2 (mu_up x1 0 + 1) 1 0 (m_X11_begin I1)).1) * ((((u2_X11_tryGusts x1 l2 I1 J1) 73 0) + 9).toInt64))))))
def oklp_X11_tryGusts_57 (x1 : Int32) : Nat → Int32 → (Nat → Nat → Int32) → (Nat → Nat → Int64) → Prop
  | 0, l2, I1, J1 => True
  | n + 1, l2, I1, J1 => (if (1 <<< (x1 &&& 31)) ≤ l2 then True else (ok_X11_begin I1 ∧ (oklp_X11_tryGusts_73 J1 x1 l2 (mu_up x1 0 + 1) 1 0 (m_X11_begin I1) ∧ (ok_X11_whoOf ((lp_X11_tryGusts_73 J1 x1 l2 (mu_up x1 0 + 1) 1 0 (m_X11_begin I1)).2.2) 73 ∧ (vp_in (f_X11_whoOf ((lp_X11_tryGusts_73 J1 x1 l2 (mu_up x1 0 + 1) 1 0 (m_X11_begin I1)).2.2) 73) (sz 79) ∧ (vp_in (f_X11_whoOf ((lp_X11_tryGusts_73 J1 x1 l2 (mu_up x1 0 + 1) 1 0 (m_X11_begin I1)).2.2) 73) (sz 79) ∧ oklp_X11_tryGusts_57 x1 n (l2 + 1) (u2_X11_tryGusts x1 l2 I1 J1) (stJ (va_up J1 79 (vp_updL (J1 79) (f_X11_whoOf ((lp_X11_tryGusts_73 J1 x1 l2 (mu_up x1 0 + 1) 1 0 (m_X11_begin I1)).2.2) 73).toNatClampNeg ((J1 79 (f_X11_whoOf ((lp_X11_tryGusts_73 J1 x1 l2 (mu_up x1 0 + 1) 1 0 (m_X11_begin I1)).2.2) 73).toNatClampNeg) + ((lp_X11_tryGusts_73 J1 x1 l2 (mu_up x1 0 + 1) 1 0 (m_X11_begin I1)).1)))) 65 38 ((J1 65 38) + (((lp_X11_tryGusts_73 J1 x1 l2 (mu_up x1 0 + 1) 1 0 (m_X11_begin I1)).1) * ((((u2_X11_tryGusts x1 l2 I1 J1) 73 0) + 9).toInt64))))))))))
set_option maxHeartbeats 800000 in
set_option maxRecDepth 4000 in
theorem k_lp_X11_tryGusts_57 {k : KT} {ex : Bool} {w : Bool} (x1 : Int32) {F : FinT} : ∀ (n : Nat) (l2 : Int32) (I1 : (Nat → Nat → Int32)) (J1 : (Nat → Nat → Int64)), mu_up (1 <<< (x1 &&& 31)) l2 < n → oklp_X11_tryGusts_57 x1 n l2 I1 J1 → G k mX11_tryGusts (roomOf 5 0 0) F 0 0 184 [some (.ref (ka k 65)), some (.int x1), some (.int ((lp_X11_tryGusts_57 x1 n l2 I1 J1).1)), none, none, none] [] (81, ex, (lp_X11_tryGusts_57 x1 n l2 I1 J1).2.1, (lp_X11_tryGusts_57 x1 n l2 I1 J1).2.2, Pw w) → G k mX11_tryGusts (roomOf 5 0 0) F 0 0 57 [some (.ref (ka k 65)), some (.int x1), some (.int l2), none, none, none] [] (81, ex, I1, J1, Pw w) := by
  intro n
  induction n with
  | zero => intro l2 I1 J1 hmu hok hj; exact absurd hmu (Nat.not_lt_zero _)
  | succ n ih =>
    intro l2 I1 J1 hmu hok hj
    rw [oklp_X11_tryGusts_57] at hok
    refine g_iload_n2 rfl d_X11_tryGusts_57 ?_
    refine g_iconst 1 d_X11_tryGusts_58 (by decide) ?_
    refine g_iload_n1 rfl d_X11_tryGusts_59 ?_
    refine g_ishl d_X11_tryGusts_60 ?_
    refine g_icmp_ge 184 d_X11_tryGusts_61 (by decide) (fun h6 => ?_) (fun h6 => ?_)
    · skip
      (try simp only [lp_X11_tryGusts_57, if_pos h6, opv_eq, if_true, if_false, Bool.false_eq_true, reduceCtorEq, b2i_t, b2i_f] at hj); exact hj
    · skip
      rw [if_neg h6] at hok
      refine g_aload_n0 rfl d_X11_tryGusts_64 ?_
      obtain ⟨ho2, hok⟩ := hok
      refine g_callV0 (c_X11_begin I1  ho2) w_X11_begin l_X11_285 d_X11_tryGusts_65 rfl (Nat.le_of_ble_eq_true rfl) rfl rfl (Nat.le_of_ble_eq_true rfl) ⟨Nat.le_of_ble_eq_true rfl, Nat.le_of_ble_eq_true rfl⟩ ⟨Nat.zero_le _, Nat.zero_le _⟩ ⟨rfl, rfl⟩ ?_
      refine g_lconst 1 d_X11_tryGusts_68 (by decide) ?_
      refine g_lsn3 rfl d_X11_tryGusts_69 ?_
      refine g_iconst 0 d_X11_tryGusts_70 (by decide) ?_
      refine g_is5 rfl d_X11_tryGusts_71 ?_
      obtain ⟨hol, hok⟩ := hok
      refine k_lp_X11_tryGusts_73 J1 x1 l2 _ 1 0 (m_X11_begin I1) (Nat.lt_succ_self _) hol ?_
      refine g_aload_n0 rfl d_X11_tryGusts_141 ?_
      refine g_getP (b := 79) f_X11_56 d_X11_tryGusts_142 rfl (Nat.le_of_ble_eq_true rfl) rfl rfl ?_
      refine g_aload_n0 rfl d_X11_tryGusts_145 ?_
      refine g_getP (b := 73) f_X11_35 d_X11_tryGusts_146 rfl (Nat.le_of_ble_eq_true rfl) rfl rfl ?_
      obtain ⟨ho5, hok⟩ := hok
      refine g_callS1 (c_X11_whoOf ((lp_X11_tryGusts_73 J1 x1 l2 (mu_up x1 0 + 1) 1 0 (m_X11_begin I1)).2.2) 73 rfl ho5) w_X11_whoOf l_X11_268 d_X11_tryGusts_149 rfl rfl (Nat.le_of_ble_eq_true rfl) ⟨Nat.le_of_ble_eq_true rfl, Nat.le_of_ble_eq_true rfl⟩ ⟨Nat.zero_le _, Nat.zero_le _⟩ ⟨rfl, rfl⟩ ?_
      refine G.toI (I' := (u2_X11_tryGusts x1 l2 I1 J1)) (by rw [u2_X11_tryGusts, opv_eq]) ?_
      refine g_dup2 rfl rfl d_X11_tryGusts_152 ?_
      obtain ⟨ho6, hok⟩ := hok
      refine g_lald d_X11_tryGusts_153 rfl (Nat.le_of_ble_eq_true rfl) ho6 ?_
      refine g_lload_n3 rfl d_X11_tryGusts_154 ?_
      refine g_ladd d_X11_tryGusts_155 ?_
      obtain ⟨ho7, hok⟩ := hok
      refine g_last d_X11_tryGusts_156 rfl (Nat.le_of_ble_eq_true rfl) ho7 ?_
      refine g_aload_n0 rfl d_X11_tryGusts_157 ?_
      refine g_dup rfl d_X11_tryGusts_158 ?_
      refine g_getJv (J1 65 38) (vu_a _ _ (by decide) _) f_X11_386 d_X11_tryGusts_159 rfl (Nat.le_of_ble_eq_true rfl) rfl ?_
      refine g_lload_n3 rfl d_X11_tryGusts_162 ?_
      refine g_aload_n0 rfl d_X11_tryGusts_163 ?_
      refine g_getP (b := 73) f_X11_35 d_X11_tryGusts_164 rfl (Nat.le_of_ble_eq_true rfl) rfl rfl ?_
      refine g_iconst 0 d_X11_tryGusts_167 (by decide) ?_
      refine g_ialdv ((u2_X11_tryGusts x1 l2 I1 J1) 73 0) rfl d_X11_tryGusts_168 rfl (Nat.le_of_ble_eq_true rfl) (vp_c (by decide +kernel)) ?_
      refine g_bipush 9 d_X11_tryGusts_169 (by decide) ?_
      refine g_iadd d_X11_tryGusts_171 ?_
      refine g_i2l d_X11_tryGusts_172 ?_
      refine g_lmul d_X11_tryGusts_173 ?_
      refine g_ladd d_X11_tryGusts_174 ?_
      refine g_putJ f_X11_386 d_X11_tryGusts_175 rfl (Nat.le_of_ble_eq_true rfl) rfl rfl rfl ?_
      refine g_ic2 (l2 + 1) rfl rfl d_X11_tryGusts_178 ?_
      refine g_goto 57 d_X11_tryGusts_181 (by decide) ?_
      refine G.weak (wks (wks (wks (wkn (wkn (wkn wk0)))))) ?_; exact ih (l2 + 1) (u2_X11_tryGusts x1 l2 I1 J1) (stJ (va_up J1 79 (vp_updL (J1 79) (f_X11_whoOf ((lp_X11_tryGusts_73 J1 x1 l2 (mu_up x1 0 + 1) 1 0 (m_X11_begin I1)).2.2) 73).toNatClampNeg ((J1 79 (f_X11_whoOf ((lp_X11_tryGusts_73 J1 x1 l2 (mu_up x1 0 + 1) 1 0 (m_X11_begin I1)).2.2) 73).toNatClampNeg) + ((lp_X11_tryGusts_73 J1 x1 l2 (mu_up x1 0 + 1) 1 0 (m_X11_begin I1)).1)))) 65 38 ((J1 65 38) + (((lp_X11_tryGusts_73 J1 x1 l2 (mu_up x1 0 + 1) 1 0 (m_X11_begin I1)).1) * ((((u2_X11_tryGusts x1 l2 I1 J1) 73 0) + 9).toInt64)))) (Nat.lt_of_lt_of_le (mu_up_lt h6) (Nat.le_of_lt_succ hmu)) (by (try simp only [if_neg h6, opv_eq, if_true, if_false, Bool.false_eq_true, reduceCtorEq, b2i_t, b2i_f] at hok); exact hok) (by (try simp only [lp_X11_tryGusts_57, if_neg h6, opv_eq, if_true, if_false, Bool.false_eq_true, reduceCtorEq, b2i_t, b2i_f] at hj); exact hj)
noncomputable def m_X11_tryGusts (I : Nat → Nat → Int32) (J : Nat → Nat → Int64) (x1 : Int32) : Nat → Nat → Int32 := opv ((lp_X11_tryGusts_57 x1 (mu_up (1 <<< (x1 &&& 31)) 0 + 1) 0 I ((lp_X11_tryGusts_32 I x1 (mu_up x1 0 + 1) 0 ((lp_X11_tryGusts_12 I x1 (mu_up 4 0 + 1) 0 (stJ (stJ J 65 37 1) 65 38 0)).2)).2)).2.1)
noncomputable def j_X11_tryGusts (I : Nat → Nat → Int32) (J : Nat → Nat → Int64) (x1 : Int32) : Nat → Nat → Int64 := opv ((lp_X11_tryGusts_57 x1 (mu_up (1 <<< (x1 &&& 31)) 0 + 1) 0 I ((lp_X11_tryGusts_32 I x1 (mu_up x1 0 + 1) 0 ((lp_X11_tryGusts_12 I x1 (mu_up 4 0 + 1) 0 (stJ (stJ J 65 37 1) 65 38 0)).2)).2)).2.2)
noncomputable def ok_X11_tryGusts (I : Nat → Nat → Int32) (J : Nat → Nat → Int64) (x1 : Int32) : Prop := opv (oklp_X11_tryGusts_12 I x1 (mu_up 4 0 + 1) 0 (stJ (stJ J 65 37 1) 65 38 0) ∧ oklp_X11_tryGusts_57 x1 (mu_up (1 <<< (x1 &&& 31)) 0 + 1) 0 I ((lp_X11_tryGusts_32 I x1 (mu_up x1 0 + 1) 0 ((lp_X11_tryGusts_12 I x1 (mu_up 4 0 + 1) 0 (stJ (stJ J 65 37 1) 65 38 0)).2)).2))
set_option maxHeartbeats 800000 in
set_option maxRecDepth 4000 in
theorem c_X11_tryGusts {k : KT} {ex : Bool} {w : Bool} (I : Nat → Nat → Int32) (J : Nat → Nat → Int64) (x1 : Int32)  (hok : ok_X11_tryGusts I J x1) : Cx k mX11_tryGusts 5 [.ref (ka k 65), .int x1] (81, ex, I, J, Pw w) none (81, ex, m_X11_tryGusts I J x1, j_X11_tryGusts I J x1, Pw w) := by
  refine Ct.of rfl [some (.ref (ka k 65)), some (.int x1), none, none, none, none] rfl rfl (Nat.le_of_ble_eq_true rfl) ?_
  rw [ok_X11_tryGusts, opv_eq] at hok
  refine g_aload_n0 rfl d_X11_tryGusts_0 ?_
  refine g_lconst 1 d_X11_tryGusts_1 (by decide) ?_
  refine g_putJ f_X11_382 d_X11_tryGusts_2 rfl (Nat.le_of_ble_eq_true rfl) rfl rfl rfl ?_
  refine g_aload_n0 rfl d_X11_tryGusts_5 ?_
  refine g_lconst 0 d_X11_tryGusts_6 (by decide) ?_
  refine g_putJ f_X11_386 d_X11_tryGusts_7 rfl (Nat.le_of_ble_eq_true rfl) rfl rfl rfl ?_
  refine g_iconst 0 d_X11_tryGusts_10 (by decide) ?_
  refine g_isn2 rfl d_X11_tryGusts_11 ?_
  obtain ⟨hol, hok⟩ := hok
  refine k_lp_X11_tryGusts_12 I x1 _ 0 (stJ (stJ J 65 37 1) 65 38 0) (Nat.lt_succ_self _) hol ?_
  refine g_iconst 0 d_X11_tryGusts_30 (by decide) ?_
  refine g_isn2 rfl d_X11_tryGusts_31 ?_
  refine k_lp_X11_tryGusts_32 I x1 _ 0 ((lp_X11_tryGusts_12 I x1 (mu_up 4 0 + 1) 0 (stJ (stJ J 65 37 1) 65 38 0)).2) (Nat.lt_succ_self _) ?_
  refine g_iconst 0 d_X11_tryGusts_55 (by decide) ?_
  refine g_isn2 rfl d_X11_tryGusts_56 ?_
  refine k_lp_X11_tryGusts_57 x1 _ 0 I ((lp_X11_tryGusts_32 I x1 (mu_up x1 0 + 1) 0 ((lp_X11_tryGusts_12 I x1 (mu_up 4 0 + 1) 0 (stJ (stJ J 65 37 1) 65 38 0)).2)).2) (Nat.lt_succ_self _) hok ?_
  exact g_vret rfl d_X11_tryGusts_184 ⟨rfl, by simp only [m_X11_tryGusts, j_X11_tryGusts, opv_eq, if_true, if_false, Bool.false_eq_true, reduceCtorEq, b2i_t, b2i_f]⟩ (Nat.le_refl _) (Nat.le_refl _)
noncomputable def f_X11_likely (I : Nat → Nat → Int32) (J : Nat → Nat → Int64) (x1 : Int32) (x2 : Int32) (x3 : Bool) : Int64 := opv (if ((m_X11_good I) 65 14) = 0 then (f_X11_no (m_X11_good I) 1).toInt64 else (if (f_X11_in (m_X11_good I) x1 0 3) = true then (if (f_X11_in (m_X11_good I) x2 0 6) = true then f_X11_lowest (m_X11_tryGusts (m_X11_good I) J x2) ((j_X11_tryGusts (m_X11_good I) J x2) 79 x1.toNatClampNeg) ((j_X11_tryGusts (m_X11_good I) J x2) 65 37) x3 else (f_X11_no (m_X11_good I) 2).toInt64) else (f_X11_no (m_X11_good I) 2).toInt64))
noncomputable def m_X11_likely (I : Nat → Nat → Int32) (J : Nat → Nat → Int64) (x1 : Int32) (x2 : Int32) (x3 : Bool) : Nat → Nat → Int32 := opv (if ((m_X11_good I) 65 14) = 0 then (m_X11_no (m_X11_good I) 1) else (if (f_X11_in (m_X11_good I) x1 0 3) = true then (if (f_X11_in (m_X11_good I) x2 0 6) = true then (m_X11_tryGusts (m_X11_good I) J x2) else (m_X11_no (m_X11_good I) 2)) else (m_X11_no (m_X11_good I) 2)))
noncomputable def j_X11_likely (I : Nat → Nat → Int32) (J : Nat → Nat → Int64) (x1 : Int32) (x2 : Int32) (x3 : Bool) : Nat → Nat → Int64 := opv (if ((m_X11_good I) 65 14) = 0 then J else (if (f_X11_in (m_X11_good I) x1 0 3) = true then (if (f_X11_in (m_X11_good I) x2 0 6) = true then (j_X11_tryGusts (m_X11_good I) J x2) else J) else J))
noncomputable def ok_X11_likely (I : Nat → Nat → Int32) (J : Nat → Nat → Int64) (x1 : Int32) (x2 : Int32) (x3 : Bool) : Prop := opv (if ((m_X11_good I) 65 14) = 0 then True else (if (f_X11_in (m_X11_good I) x1 0 3) = true then (if (f_X11_in (m_X11_good I) x2 0 6) = true then (ok_X11_tryGusts (m_X11_good I) J x2 ∧ (vp_in x1 (sz 79) ∧ ok_X11_lowest (m_X11_tryGusts (m_X11_good I) J x2) ((j_X11_tryGusts (m_X11_good I) J x2) 79 x1.toNatClampNeg) ((j_X11_tryGusts (m_X11_good I) J x2) 65 37) x3)) else True) else True))
set_option maxHeartbeats 800000 in
set_option maxRecDepth 4000 in
theorem c_X11_likely {k : KT} {ex : Bool} {w : Bool} (I : Nat → Nat → Int32) (J : Nat → Nat → Int64) (x1 : Int32) (x2 : Int32) (x3 : Bool)  (hok : ok_X11_likely I J x1 x2 x3) : Cx k mX11_likely 6 [.ref (ka k 65), .int x1, .int x2, .int (b2i x3)] (81, ex, I, J, Pw w) (some (.long (f_X11_likely I J x1 x2 x3))) (81, ex, m_X11_likely I J x1 x2 x3, j_X11_likely I J x1 x2 x3, Pw w) := by
  refine Ct.of rfl [some (.ref (ka k 65)), some (.int x1), some (.int x2), some (.int (b2i x3))] rfl rfl (Nat.le_of_ble_eq_true rfl) ?_
  rw [ok_X11_likely, opv_eq] at hok
  refine g_aload_n0 rfl d_X11_likely_0 ?_
  refine g_callV0 (c_X11_good I ) w_X11_good l_X11_168 d_X11_likely_1 rfl (Nat.le_of_ble_eq_true rfl) rfl rfl (Nat.le_of_ble_eq_true rfl) ⟨Nat.le_of_ble_eq_true rfl, Nat.le_of_ble_eq_true rfl⟩ ⟨Nat.zero_le _, Nat.zero_le _⟩ ⟨rfl, rfl⟩ ?_
  refine g_aload_n0 rfl d_X11_likely_4 ?_
  refine g_getI f_X11_185 d_X11_likely_5 rfl (Nat.le_of_ble_eq_true rfl) rfl ?_
  refine g_if_ne 18 d_X11_likely_8 (by decide) (fun h1 => ?_) (fun h1 => ?_)
  · skip
    rw [if_neg h1] at hok
    refine g_iload_n1 rfl d_X11_likely_18 ?_
    refine g_iconst 0 d_X11_likely_19 (by decide) ?_
    refine g_iconst 3 d_X11_likely_20 (by decide) ?_
    refine g_callS1 (c_X11_in (m_X11_good I) x1 0 3) w_X11_in l_X11_149 d_X11_likely_21 rfl rfl (Nat.le_of_ble_eq_true rfl) ⟨Nat.le_of_ble_eq_true rfl, Nat.le_of_ble_eq_true rfl⟩ ⟨Nat.zero_le _, Nat.zero_le _⟩ ⟨rfl, rfl⟩ ?_
    refine g_ifz 37 d_X11_likely_24 (by decide) (fun h2 => ?_) (fun h2 => ?_)
    · skip
      refine g_aload_n0 rfl d_X11_likely_37 ?_
      refine g_iconst 2 d_X11_likely_38 (by decide) ?_
      refine g_callV1 (c_X11_no (m_X11_good I) 2) w_X11_no l_X11_171 d_X11_likely_39 rfl (Nat.le_of_ble_eq_true rfl) rfl rfl (Nat.le_of_ble_eq_true rfl) ⟨Nat.le_of_ble_eq_true rfl, Nat.le_of_ble_eq_true rfl⟩ ⟨Nat.zero_le _, Nat.zero_le _⟩ ⟨rfl, rfl⟩ ?_
      refine g_i2l d_X11_likely_42 ?_
      exact g_lret rfl d_X11_likely_43 ⟨by simp only [f_X11_likely, m_X11_likely, j_X11_likely, if_neg h1, if_neg (nb h2), opv_eq, if_true, if_false, Bool.false_eq_true, reduceCtorEq, b2i_t, b2i_f], by simp only [f_X11_likely, m_X11_likely, j_X11_likely, if_neg h1, if_neg (nb h2), opv_eq, if_true, if_false, Bool.false_eq_true, reduceCtorEq, b2i_t, b2i_f]⟩ (Nat.le_refl _) (Nat.le_refl _)
    · skip
      rw [if_pos h2] at hok
      refine g_iload_n2 rfl d_X11_likely_27 ?_
      refine g_iconst 0 d_X11_likely_28 (by decide) ?_
      refine g_bipush 6 d_X11_likely_29 (by decide) ?_
      refine g_callS1 (c_X11_in (m_X11_good I) x2 0 6) w_X11_in l_X11_149 d_X11_likely_31 rfl rfl (Nat.le_of_ble_eq_true rfl) ⟨Nat.le_of_ble_eq_true rfl, Nat.le_of_ble_eq_true rfl⟩ ⟨Nat.zero_le _, Nat.zero_le _⟩ ⟨rfl, rfl⟩ ?_
      refine g_ifnz 44 d_X11_likely_34 (by decide) (fun h3 => ?_) (fun h3 => ?_)
      · skip
        rw [if_pos h3] at hok
        refine g_aload_n0 rfl d_X11_likely_44 ?_
        refine g_iload_n2 rfl d_X11_likely_45 ?_
        obtain ⟨ho1, hok⟩ := hok
        refine g_callV0 (c_X11_tryGusts (m_X11_good I) J x2 ho1) w_X11_tryGusts l_X11_393 d_X11_likely_46 rfl (Nat.le_of_ble_eq_true rfl) rfl rfl (Nat.le_of_ble_eq_true rfl) ⟨Nat.le_of_ble_eq_true rfl, Nat.le_of_ble_eq_true rfl⟩ ⟨Nat.zero_le _, Nat.zero_le _⟩ ⟨rfl, rfl⟩ ?_
        refine g_aload_n0 rfl d_X11_likely_49 ?_
        refine g_getP (b := 79) f_X11_56 d_X11_likely_50 rfl (Nat.le_of_ble_eq_true rfl) rfl rfl ?_
        refine g_iload_n1 rfl d_X11_likely_53 ?_
        obtain ⟨ho2, hok⟩ := hok
        refine g_lald d_X11_likely_54 rfl (Nat.le_of_ble_eq_true rfl) ho2 ?_
        refine g_aload_n0 rfl d_X11_likely_55 ?_
        refine g_getJ f_X11_382 d_X11_likely_56 rfl (Nat.le_of_ble_eq_true rfl) rfl ?_
        refine g_iload_n3 rfl d_X11_likely_59 ?_
        have ho3 := hok
        refine g_callS1 (c_X11_lowest (m_X11_tryGusts (m_X11_good I) J x2) ((j_X11_tryGusts (m_X11_good I) J x2) 79 x1.toNatClampNeg) ((j_X11_tryGusts (m_X11_good I) J x2) 65 37) x3 ho3) w_X11_lowest l_X11_396 d_X11_likely_60 rfl rfl (Nat.le_of_ble_eq_true rfl) ⟨Nat.le_of_ble_eq_true rfl, Nat.le_of_ble_eq_true rfl⟩ ⟨Nat.zero_le _, Nat.zero_le _⟩ ⟨rfl, rfl⟩ ?_
        exact g_lret rfl d_X11_likely_63 ⟨by simp only [f_X11_likely, m_X11_likely, j_X11_likely, if_neg h1, if_pos h2, if_pos h3, opv_eq, if_true, if_false, Bool.false_eq_true, reduceCtorEq, b2i_t, b2i_f], by simp only [f_X11_likely, m_X11_likely, j_X11_likely, if_neg h1, if_pos h2, if_pos h3, opv_eq, if_true, if_false, Bool.false_eq_true, reduceCtorEq, b2i_t, b2i_f]⟩ (Nat.le_refl _) (Nat.le_refl _)
      · skip
        refine g_aload_n0 rfl d_X11_likely_37 ?_
        refine g_iconst 2 d_X11_likely_38 (by decide) ?_
        refine g_callV1 (c_X11_no (m_X11_good I) 2) w_X11_no l_X11_171 d_X11_likely_39 rfl (Nat.le_of_ble_eq_true rfl) rfl rfl (Nat.le_of_ble_eq_true rfl) ⟨Nat.le_of_ble_eq_true rfl, Nat.le_of_ble_eq_true rfl⟩ ⟨Nat.zero_le _, Nat.zero_le _⟩ ⟨rfl, rfl⟩ ?_
        refine g_i2l d_X11_likely_42 ?_
        exact g_lret rfl d_X11_likely_43 ⟨by simp only [f_X11_likely, m_X11_likely, j_X11_likely, if_neg h1, if_pos h2, if_neg (nb h3), opv_eq, if_true, if_false, Bool.false_eq_true, reduceCtorEq, b2i_t, b2i_f], by simp only [f_X11_likely, m_X11_likely, j_X11_likely, if_neg h1, if_pos h2, if_neg (nb h3), opv_eq, if_true, if_false, Bool.false_eq_true, reduceCtorEq, b2i_t, b2i_f]⟩ (Nat.le_refl _) (Nat.le_refl _)
  · skip
    refine g_aload_n0 rfl d_X11_likely_11 ?_
    refine g_iconst 1 d_X11_likely_12 (by decide) ?_
    refine g_callV1 (c_X11_no (m_X11_good I) 1) w_X11_no l_X11_171 d_X11_likely_13 rfl (Nat.le_of_ble_eq_true rfl) rfl rfl (Nat.le_of_ble_eq_true rfl) ⟨Nat.le_of_ble_eq_true rfl, Nat.le_of_ble_eq_true rfl⟩ ⟨Nat.zero_le _, Nat.zero_le _⟩ ⟨rfl, rfl⟩ ?_
    refine g_i2l d_X11_likely_16 ?_
    exact g_lret rfl d_X11_likely_17 ⟨by simp only [f_X11_likely, m_X11_likely, j_X11_likely, if_pos h1, opv_eq, if_true, if_false, Bool.false_eq_true, reduceCtorEq, b2i_t, b2i_f], by simp only [f_X11_likely, m_X11_likely, j_X11_likely, if_pos h1, opv_eq, if_true, if_false, Bool.false_eq_true, reduceCtorEq, b2i_t, b2i_f]⟩ (Nat.le_refl _) (Nat.le_refl _)
noncomputable def f_X11_mean (I : Nat → Nat → Int32) (J : Nat → Nat → Int64) (x1 : Int32) (x2 : Bool) : Int64 := opv (if (f_X11_why (m_X11_good I) x1 0 6) = 0 then f_X11_lowest (m_X11_tryGusts (m_X11_good I) J x1) ((j_X11_tryGusts (m_X11_good I) J x1) 65 38) ((j_X11_tryGusts (m_X11_good I) J x1) 65 37) x2 else (f_X11_no (m_X11_good I) (f_X11_why (m_X11_good I) x1 0 6)).toInt64)
noncomputable def m_X11_mean (I : Nat → Nat → Int32) (J : Nat → Nat → Int64) (x1 : Int32) (x2 : Bool) : Nat → Nat → Int32 := opv (if (f_X11_why (m_X11_good I) x1 0 6) = 0 then (m_X11_tryGusts (m_X11_good I) J x1) else (m_X11_no (m_X11_good I) (f_X11_why (m_X11_good I) x1 0 6)))
noncomputable def j_X11_mean (I : Nat → Nat → Int32) (J : Nat → Nat → Int64) (x1 : Int32) (x2 : Bool) : Nat → Nat → Int64 := opv (if (f_X11_why (m_X11_good I) x1 0 6) = 0 then (j_X11_tryGusts (m_X11_good I) J x1) else J)
noncomputable def ok_X11_mean (I : Nat → Nat → Int32) (J : Nat → Nat → Int64) (x1 : Int32) (x2 : Bool) : Prop := opv (if (f_X11_why (m_X11_good I) x1 0 6) = 0 then (ok_X11_tryGusts (m_X11_good I) J x1 ∧ ok_X11_lowest (m_X11_tryGusts (m_X11_good I) J x1) ((j_X11_tryGusts (m_X11_good I) J x1) 65 38) ((j_X11_tryGusts (m_X11_good I) J x1) 65 37) x2) else True)
set_option maxHeartbeats 800000 in
set_option maxRecDepth 4000 in
theorem c_X11_mean {k : KT} {ex : Bool} {w : Bool} (I : Nat → Nat → Int32) (J : Nat → Nat → Int64) (x1 : Int32) (x2 : Bool)  (hok : ok_X11_mean I J x1 x2) : Cx k mX11_mean 6 [.ref (ka k 65), .int x1, .int (b2i x2)] (81, ex, I, J, Pw w) (some (.long (f_X11_mean I J x1 x2))) (81, ex, m_X11_mean I J x1 x2, j_X11_mean I J x1 x2, Pw w) := by
  refine Ct.of rfl [some (.ref (ka k 65)), some (.int x1), some (.int (b2i x2)), none] rfl rfl (Nat.le_of_ble_eq_true rfl) ?_
  rw [ok_X11_mean, opv_eq] at hok
  refine g_aload_n0 rfl d_X11_mean_0 ?_
  refine g_callV0 (c_X11_good I ) w_X11_good l_X11_168 d_X11_mean_1 rfl (Nat.le_of_ble_eq_true rfl) rfl rfl (Nat.le_of_ble_eq_true rfl) ⟨Nat.le_of_ble_eq_true rfl, Nat.le_of_ble_eq_true rfl⟩ ⟨Nat.zero_le _, Nat.zero_le _⟩ ⟨rfl, rfl⟩ ?_
  refine g_aload_n0 rfl d_X11_mean_4 ?_
  refine g_iload_n1 rfl d_X11_mean_5 ?_
  refine g_iconst 0 d_X11_mean_6 (by decide) ?_
  refine g_bipush 6 d_X11_mean_7 (by decide) ?_
  refine g_callV1 (c_X11_why (m_X11_good I) x1 0 6) w_X11_why l_X11_295 d_X11_mean_9 rfl (Nat.le_of_ble_eq_true rfl) rfl rfl (Nat.le_of_ble_eq_true rfl) ⟨Nat.le_of_ble_eq_true rfl, Nat.le_of_ble_eq_true rfl⟩ ⟨Nat.zero_le _, Nat.zero_le _⟩ ⟨rfl, rfl⟩ ?_
  refine g_isn3 rfl d_X11_mean_12 ?_
  refine g_iload_n3 rfl d_X11_mean_13 ?_
  refine g_if_eq 24 d_X11_mean_14 (by decide) (fun h1 => ?_) (fun h1 => ?_)
  · skip
    rw [if_pos h1] at hok
    refine g_aload_n0 rfl d_X11_mean_24 ?_
    refine g_iload_n1 rfl d_X11_mean_25 ?_
    obtain ⟨ho1, hok⟩ := hok
    refine g_callV0 (c_X11_tryGusts (m_X11_good I) J x1 ho1) w_X11_tryGusts l_X11_393 d_X11_mean_26 rfl (Nat.le_of_ble_eq_true rfl) rfl rfl (Nat.le_of_ble_eq_true rfl) ⟨Nat.le_of_ble_eq_true rfl, Nat.le_of_ble_eq_true rfl⟩ ⟨Nat.zero_le _, Nat.zero_le _⟩ ⟨rfl, rfl⟩ ?_
    refine g_aload_n0 rfl d_X11_mean_29 ?_
    refine g_getJ f_X11_386 d_X11_mean_30 rfl (Nat.le_of_ble_eq_true rfl) rfl ?_
    refine g_aload_n0 rfl d_X11_mean_33 ?_
    refine g_getJ f_X11_382 d_X11_mean_34 rfl (Nat.le_of_ble_eq_true rfl) rfl ?_
    refine g_iload_n2 rfl d_X11_mean_37 ?_
    have ho2 := hok
    refine g_callS1 (c_X11_lowest (m_X11_tryGusts (m_X11_good I) J x1) ((j_X11_tryGusts (m_X11_good I) J x1) 65 38) ((j_X11_tryGusts (m_X11_good I) J x1) 65 37) x2 ho2) w_X11_lowest l_X11_396 d_X11_mean_38 rfl rfl (Nat.le_of_ble_eq_true rfl) ⟨Nat.le_of_ble_eq_true rfl, Nat.le_of_ble_eq_true rfl⟩ ⟨Nat.zero_le _, Nat.zero_le _⟩ ⟨rfl, rfl⟩ ?_
    exact g_lret rfl d_X11_mean_41 ⟨by simp only [f_X11_mean, m_X11_mean, j_X11_mean, if_pos h1, opv_eq, if_true, if_false, Bool.false_eq_true, reduceCtorEq, b2i_t, b2i_f], by simp only [f_X11_mean, m_X11_mean, j_X11_mean, if_pos h1, opv_eq, if_true, if_false, Bool.false_eq_true, reduceCtorEq, b2i_t, b2i_f]⟩ (Nat.le_refl _) (Nat.le_refl _)
  · skip
    refine g_aload_n0 rfl d_X11_mean_17 ?_
    refine g_iload_n3 rfl d_X11_mean_18 ?_
    refine g_callV1 (c_X11_no (m_X11_good I) (f_X11_why (m_X11_good I) x1 0 6)) w_X11_no l_X11_171 d_X11_mean_19 rfl (Nat.le_of_ble_eq_true rfl) rfl rfl (Nat.le_of_ble_eq_true rfl) ⟨Nat.le_of_ble_eq_true rfl, Nat.le_of_ble_eq_true rfl⟩ ⟨Nat.zero_le _, Nat.zero_le _⟩ ⟨rfl, rfl⟩ ?_
    refine g_i2l d_X11_mean_22 ?_
    exact g_lret rfl d_X11_mean_23 ⟨by simp only [f_X11_mean, m_X11_mean, j_X11_mean, if_neg h1, opv_eq, if_true, if_false, Bool.false_eq_true, reduceCtorEq, b2i_t, b2i_f], by simp only [f_X11_mean, m_X11_mean, j_X11_mean, if_neg h1, opv_eq, if_true, if_false, Bool.false_eq_true, reduceCtorEq, b2i_t, b2i_f]⟩ (Nat.le_refl _) (Nat.le_refl _)
noncomputable def u0_X11_gustWhy (I1 : Nat → Nat → Int32) : Nat → Nat → Int32 := opv (m_X11_gust (st2 (m_X11_dayOf I1 73) 65 39 (((m_X11_dayOf I1 73) 65 39) + (b2i (if ((m_X11_dayOf I1 73) 73 5) = 1 then true else false)))) 73)
noncomputable def u1_X11_gustWhy (l3 : Int32) (I1 : Nat → Nat → Int32) : Nat → Nat → Int32 := opv (if ((m_X11_dayOf I1 73) 68 2) ≤ ((((75 * l3) + 74) - ((75 * l3) + 74) / 65537 * 65537) - (((75 * l3) + 74) - ((75 * l3) + 74) / 65537 * 65537) / 100 * 100) then (st2 (m_X11_dayOf I1 73) 65 39 (((m_X11_dayOf I1 73) 65 39) + (b2i (if ((m_X11_dayOf I1 73) 73 5) = 1 then true else false)))) else (u0_X11_gustWhy I1))
noncomputable def lp_X11_gustWhy_46 (x1 : Int32) (x2 : Int32) : Nat → Int32 → Int32 → (Nat → Nat → Int32) → Int32 × Int32 × (Nat → Nat → Int32)
  | 0, l3, l4, I1 => (l3, l4, I1)
  | n + 1, l3, l4, I1 => (if x2 ≤ l4 then (l3, l4, I1) else (lp_X11_gustWhy_46 x1 x2 n (((75 * l3) + 74) - ((75 * l3) + 74) / 65537 * 65537) (l4 + 1) (u1_X11_gustWhy l3 I1)))
def oklp_X11_gustWhy_46 (x1 : Int32) (x2 : Int32) : Nat → Int32 → Int32 → (Nat → Nat → Int32) → Prop
  | 0, l3, l4, I1 => True
  | n + 1, l3, l4, I1 => (if x2 ≤ l4 then True else (ok_X11_dayOf I1 73 ∧ ((if ((m_X11_dayOf I1 73) 68 2) ≤ ((((75 * l3) + 74) - ((75 * l3) + 74) / 65537 * 65537) - (((75 * l3) + 74) - ((75 * l3) + 74) / 65537 * 65537) / 100 * 100) then True else ok_X11_gust (st2 (m_X11_dayOf I1 73) 65 39 (((m_X11_dayOf I1 73) 65 39) + (b2i (if ((m_X11_dayOf I1 73) 73 5) = 1 then true else false)))) 73) ∧ oklp_X11_gustWhy_46 x1 x2 n (((75 * l3) + 74) - ((75 * l3) + 74) / 65537 * 65537) (l4 + 1) (u1_X11_gustWhy l3 I1))))
set_option maxHeartbeats 800000 in
set_option maxRecDepth 4000 in
theorem k_lp_X11_gustWhy_46 {k : KT} {ex : Bool} {J : Nat → Nat → Int64} {w : Bool} (x1 : Int32) (x2 : Int32) {F : FinT} : ∀ (n : Nat) (l3 : Int32) (l4 : Int32) (I1 : (Nat → Nat → Int32)), mu_up x2 l4 < n → oklp_X11_gustWhy_46 x1 x2 n l3 l4 I1 → G k mX11_gustWhy (roomOf 5 0 0) F 0 0 122 [some (.ref (ka k 65)), some (.int x1), some (.int x2), some (.int ((lp_X11_gustWhy_46 x1 x2 n l3 l4 I1).1)), some (.int ((lp_X11_gustWhy_46 x1 x2 n l3 l4 I1).2.1))] [] (81, ex, (lp_X11_gustWhy_46 x1 x2 n l3 l4 I1).2.2, J, Pw w) → G k mX11_gustWhy (roomOf 5 0 0) F 0 0 46 [some (.ref (ka k 65)), some (.int x1), some (.int x2), some (.int l3), some (.int l4)] [] (81, ex, I1, J, Pw w) := by
  intro n
  induction n with
  | zero => intro l3 l4 I1 hmu hok hj; exact absurd hmu (Nat.not_lt_zero _)
  | succ n ih =>
    intro l3 l4 I1 hmu hok hj
    rw [oklp_X11_gustWhy_46] at hok
    refine g_iload (i := 4) rfl d_X11_gustWhy_46 ?_
    refine g_iload_n2 rfl d_X11_gustWhy_48 ?_
    refine g_icmp_ge 122 d_X11_gustWhy_49 (by decide) (fun h1 => ?_) (fun h1 => ?_)
    · skip
      (try simp only [lp_X11_gustWhy_46, if_pos h1, opv_eq, if_true, if_false, Bool.false_eq_true, reduceCtorEq, b2i_t, b2i_f] at hj); exact hj
    · skip
      rw [if_neg h1] at hok
      refine g_aload_n0 rfl d_X11_gustWhy_52 ?_
      refine g_aload_n0 rfl d_X11_gustWhy_53 ?_
      refine g_getP (b := 73) f_X11_35 d_X11_gustWhy_54 rfl (Nat.le_of_ble_eq_true rfl) rfl rfl ?_
      obtain ⟨ho2, hok⟩ := hok
      refine g_callV0 (c_X11_dayOf I1 73 rfl (by decide) ho2) w_X11_dayOf l_X11_288 d_X11_gustWhy_57 rfl (Nat.le_of_ble_eq_true rfl) rfl rfl (Nat.le_of_ble_eq_true rfl) ⟨Nat.le_of_ble_eq_true rfl, Nat.le_of_ble_eq_true rfl⟩ ⟨Nat.zero_le _, Nat.zero_le _⟩ ⟨rfl, rfl⟩ ?_
      refine g_aload_n0 rfl d_X11_gustWhy_60 ?_
      refine g_dup rfl d_X11_gustWhy_61 ?_
      refine g_getI f_X11_401 d_X11_gustWhy_62 rfl (Nat.le_of_ble_eq_true rfl) rfl ?_
      refine g_aload_n0 rfl d_X11_gustWhy_65 ?_
      refine g_getP (b := 73) f_X11_35 d_X11_gustWhy_66 rfl (Nat.le_of_ble_eq_true rfl) rfl rfl ?_
      refine g_iconst 5 d_X11_gustWhy_69 (by decide) ?_
      refine g_ialdv ((m_X11_dayOf I1 73) 73 5) rfl d_X11_gustWhy_70 rfl (Nat.le_of_ble_eq_true rfl) (vp_c (by decide +kernel)) ?_
      refine g_iconst 1 d_X11_gustWhy_71 (by decide) ?_
      refine g_cut (pc' := 80) (vs' := [some (.ref (ka k 65)), some (.int x1), some (.int x2), some (.int l3), some (.int l4)]) (st' := [.int (b2i (if ((m_X11_dayOf I1 73) 73 5) = 1 then true else false)), .int ((m_X11_dayOf I1 73) 65 39), .ref (ka k 65)]) (M' := (81, ex, (m_X11_dayOf I1 73), J, Pw w)) (fun hj => ?_) ?_
      · skip
        refine g_icmp_ne 79 d_X11_gustWhy_72 (by decide) (fun h2 => ?_) (fun h2 => ?_)
        · skip
          refine g_iconst 0 d_X11_gustWhy_79 (by decide) ?_
          (try simp only [if_neg h2, opv_eq, if_true, if_false, Bool.false_eq_true, reduceCtorEq, b2i_t, b2i_f] at hj); exact hj
        · skip
          refine g_iconst 1 d_X11_gustWhy_75 (by decide) ?_
          refine g_goto 80 d_X11_gustWhy_76 (by decide) ?_
          (try simp only [if_pos h2, opv_eq, if_true, if_false, Bool.false_eq_true, reduceCtorEq, b2i_t, b2i_f] at hj); exact hj
      · skip
        refine g_iadd d_X11_gustWhy_80 ?_
        refine g_putI f_X11_401 d_X11_gustWhy_81 rfl (Nat.le_of_ble_eq_true rfl) rfl rfl rfl ?_
        refine g_bipush 75 d_X11_gustWhy_84 (by decide) ?_
        refine g_iload_n3 rfl d_X11_gustWhy_86 ?_
        refine g_imul d_X11_gustWhy_87 ?_
        refine g_bipush 74 d_X11_gustWhy_88 (by decide) ?_
        refine g_iadd d_X11_gustWhy_90 ?_
        refine g_ldcw (v := 65537) (in8 68 (by decide +kernel) rfl) d_X11_gustWhy_91 ?_
        refine g_irem (by decide) d_X11_gustWhy_94 ?_
        refine g_isn3 rfl d_X11_gustWhy_95 ?_
        refine g_iload_n3 rfl d_X11_gustWhy_96 ?_
        refine g_bipush 100 d_X11_gustWhy_97 (by decide) ?_
        refine g_irem (by decide) d_X11_gustWhy_99 ?_
        refine g_aload_n0 rfl d_X11_gustWhy_100 ?_
        refine g_getP (b := 68) f_X11_20 d_X11_gustWhy_101 rfl (Nat.le_of_ble_eq_true rfl) rfl rfl ?_
        refine g_iconst 2 d_X11_gustWhy_104 (by decide) ?_
        refine g_ialdv ((m_X11_dayOf I1 73) 68 2) (st2_a _ _ (by decide)) d_X11_gustWhy_105 rfl (Nat.le_of_ble_eq_true rfl) (vp_c (by decide +kernel)) ?_
        obtain ⟨hoa, hob⟩ := hok
        refine g_cut (pc' := 116) (vs' := [some (.ref (ka k 65)), some (.int x1), some (.int x2), some (.int (((75 * l3) + 74) - ((75 * l3) + 74) / 65537 * 65537)), some (.int l4)]) (st' := []) (M' := (81, ex, (u1_X11_gustWhy l3 I1), J, Pw w)) (fun hj => ?_) ?_
        · skip
          refine g_icmp_ge 116 d_X11_gustWhy_106 (by decide) (fun h3 => ?_) (fun h3 => ?_)
          · skip
            (try simp only [if_pos h3, opv_eq, if_true, if_false, Bool.false_eq_true, reduceCtorEq, b2i_t, b2i_f, u1_X11_gustWhy] at hj); exact hj
          · skip
            rw [if_neg h3] at hoa
            refine g_aload_n0 rfl d_X11_gustWhy_109 ?_
            refine g_getP (b := 73) f_X11_35 d_X11_gustWhy_110 rfl (Nat.le_of_ble_eq_true rfl) rfl rfl ?_
            have ho3 := hoa
            refine g_callS0 (c_X11_gust (st2 (m_X11_dayOf I1 73) 65 39 (((m_X11_dayOf I1 73) 65 39) + (b2i (if ((m_X11_dayOf I1 73) 73 5) = 1 then true else false)))) 73 rfl ho3) w_X11_gust l_X11_391 d_X11_gustWhy_113 rfl rfl (Nat.le_of_ble_eq_true rfl) ⟨Nat.le_of_ble_eq_true rfl, Nat.le_of_ble_eq_true rfl⟩ ⟨Nat.zero_le _, Nat.zero_le _⟩ ⟨rfl, rfl⟩ ?_
            refine G.toI (I' := (u0_X11_gustWhy I1)) (by rw [u0_X11_gustWhy, opv_eq]) ?_
            (try simp only [if_neg h3, opv_eq, if_true, if_false, Bool.false_eq_true, reduceCtorEq, b2i_t, b2i_f, u1_X11_gustWhy] at hj); exact hj
        · skip
          refine g_ic4 (l4 + 1) rfl rfl d_X11_gustWhy_116 ?_
          refine g_goto 46 d_X11_gustWhy_119 (by decide) ?_
          exact ih (((75 * l3) + 74) - ((75 * l3) + 74) / 65537 * 65537) (l4 + 1) (u1_X11_gustWhy l3 I1) (Nat.lt_of_lt_of_le (mu_up_lt h1) (Nat.le_of_lt_succ hmu)) (by (try simp only [if_neg h1, opv_eq, if_true, if_false, Bool.false_eq_true, reduceCtorEq, b2i_t, b2i_f] at hob); exact hob) (by (try simp only [lp_X11_gustWhy_46, if_neg h1, opv_eq, if_true, if_false, Bool.false_eq_true, reduceCtorEq, b2i_t, b2i_f] at hj); exact hj)
noncomputable def f_X11_gustWhy (I : Nat → Nat → Int32) (x1 : Int32) (x2 : Int32) : Int32 := opv (if (I 65 14) = 0 then 1 else (if (f_X11_in I x1 0 65536) = true then (if (f_X11_in I x2 0 60) = true then 0 else 2) else 2))
noncomputable def m_X11_gustWhy (I : Nat → Nat → Int32) (x1 : Int32) (x2 : Int32) : Nat → Nat → Int32 := opv (if (I 65 14) = 0 then I else (if (f_X11_in I x1 0 65536) = true then (if (f_X11_in I x2 0 60) = true then (lp_X11_gustWhy_46 x1 x2 (mu_up x2 0 + 1) x1 0 (st2 (m_X11_begin I) 65 39 0)).2.2 else I) else I))
noncomputable def ok_X11_gustWhy (I : Nat → Nat → Int32) (x1 : Int32) (x2 : Int32) : Prop := opv (if (I 65 14) = 0 then True else (if (f_X11_in I x1 0 65536) = true then (if (f_X11_in I x2 0 60) = true then (ok_X11_begin I ∧ oklp_X11_gustWhy_46 x1 x2 (mu_up x2 0 + 1) x1 0 (st2 (m_X11_begin I) 65 39 0)) else True) else True))
set_option maxHeartbeats 800000 in
set_option maxRecDepth 4000 in
theorem c_X11_gustWhy {k : KT} {ex : Bool} {J : Nat → Nat → Int64} {w : Bool} (I : Nat → Nat → Int32) (x1 : Int32) (x2 : Int32)  (hok : ok_X11_gustWhy I x1 x2) : Cx k mX11_gustWhy 5 [.ref (ka k 65), .int x1, .int x2] (81, ex, I, J, Pw w) (some (.int (f_X11_gustWhy I x1 x2))) (81, ex, m_X11_gustWhy I x1 x2, J, Pw w) := by
  refine Ct.of rfl [some (.ref (ka k 65)), some (.int x1), some (.int x2), none, none] rfl rfl (Nat.le_of_ble_eq_true rfl) ?_
  rw [ok_X11_gustWhy, opv_eq] at hok
  refine g_aload_n0 rfl d_X11_gustWhy_0 ?_
  refine g_getI f_X11_185 d_X11_gustWhy_1 rfl (Nat.le_of_ble_eq_true rfl) rfl ?_
  refine g_if_ne 9 d_X11_gustWhy_4 (by decide) (fun h4 => ?_) (fun h4 => ?_)
  · skip
    rw [if_neg h4] at hok
    refine g_iload_n1 rfl d_X11_gustWhy_9 ?_
    refine g_iconst 0 d_X11_gustWhy_10 (by decide) ?_
    refine g_ldcw (v := 65536) (in8 67 (by decide +kernel) rfl) d_X11_gustWhy_11 ?_
    refine g_callS1 (c_X11_in I x1 0 65536) w_X11_in l_X11_149 d_X11_gustWhy_14 rfl rfl (Nat.le_of_ble_eq_true rfl) ⟨Nat.le_of_ble_eq_true rfl, Nat.le_of_ble_eq_true rfl⟩ ⟨Nat.zero_le _, Nat.zero_le _⟩ ⟨rfl, rfl⟩ ?_
    refine g_ifz 30 d_X11_gustWhy_17 (by decide) (fun h5 => ?_) (fun h5 => ?_)
    · skip
      refine g_iconst 2 d_X11_gustWhy_30 (by decide) ?_
      exact g_iret rfl d_X11_gustWhy_31 ⟨by simp only [f_X11_gustWhy, m_X11_gustWhy, if_neg h4, if_neg (nb h5), opv_eq, if_true, if_false, Bool.false_eq_true, reduceCtorEq, b2i_t, b2i_f], by simp only [f_X11_gustWhy, m_X11_gustWhy, if_neg h4, if_neg (nb h5), opv_eq, if_true, if_false, Bool.false_eq_true, reduceCtorEq, b2i_t, b2i_f]⟩ (Nat.le_refl _) (Nat.le_refl _)
    · skip
      rw [if_pos h5] at hok
      refine g_iload_n2 rfl d_X11_gustWhy_20 ?_
      refine g_iconst 0 d_X11_gustWhy_21 (by decide) ?_
      refine g_bipush 60 d_X11_gustWhy_22 (by decide) ?_
      refine g_callS1 (c_X11_in I x2 0 60) w_X11_in l_X11_149 d_X11_gustWhy_24 rfl rfl (Nat.le_of_ble_eq_true rfl) ⟨Nat.le_of_ble_eq_true rfl, Nat.le_of_ble_eq_true rfl⟩ ⟨Nat.zero_le _, Nat.zero_le _⟩ ⟨rfl, rfl⟩ ?_
      refine g_ifnz 32 d_X11_gustWhy_27 (by decide) (fun h6 => ?_) (fun h6 => ?_)
      · skip
        rw [if_pos h6] at hok
        refine g_aload_n0 rfl d_X11_gustWhy_32 ?_
        obtain ⟨ho1, hok⟩ := hok
        refine g_callV0 (c_X11_begin I  ho1) w_X11_begin l_X11_285 d_X11_gustWhy_33 rfl (Nat.le_of_ble_eq_true rfl) rfl rfl (Nat.le_of_ble_eq_true rfl) ⟨Nat.le_of_ble_eq_true rfl, Nat.le_of_ble_eq_true rfl⟩ ⟨Nat.zero_le _, Nat.zero_le _⟩ ⟨rfl, rfl⟩ ?_
        refine g_aload_n0 rfl d_X11_gustWhy_36 ?_
        refine g_iconst 0 d_X11_gustWhy_37 (by decide) ?_
        refine g_putI f_X11_401 d_X11_gustWhy_38 rfl (Nat.le_of_ble_eq_true rfl) rfl rfl rfl ?_
        refine g_iload_n1 rfl d_X11_gustWhy_41 ?_
        refine g_isn3 rfl d_X11_gustWhy_42 ?_
        refine g_iconst 0 d_X11_gustWhy_43 (by decide) ?_
        refine g_is4 rfl d_X11_gustWhy_44 ?_
        refine k_lp_X11_gustWhy_46 x1 x2 _ x1 0 (st2 (m_X11_begin I) 65 39 0) (Nat.lt_succ_self _) hok ?_
        refine g_iconst 0 d_X11_gustWhy_122 (by decide) ?_
        exact g_iret rfl d_X11_gustWhy_123 ⟨by simp only [f_X11_gustWhy, m_X11_gustWhy, if_neg h4, if_pos h5, if_pos h6, opv_eq, if_true, if_false, Bool.false_eq_true, reduceCtorEq, b2i_t, b2i_f], by simp only [f_X11_gustWhy, m_X11_gustWhy, if_neg h4, if_pos h5, if_pos h6, opv_eq, if_true, if_false, Bool.false_eq_true, reduceCtorEq, b2i_t, b2i_f]⟩ (Nat.le_refl _) (Nat.le_refl _)
      · skip
        refine g_iconst 2 d_X11_gustWhy_30 (by decide) ?_
        exact g_iret rfl d_X11_gustWhy_31 ⟨by simp only [f_X11_gustWhy, m_X11_gustWhy, if_neg h4, if_pos h5, if_neg (nb h6), opv_eq, if_true, if_false, Bool.false_eq_true, reduceCtorEq, b2i_t, b2i_f], by simp only [f_X11_gustWhy, m_X11_gustWhy, if_neg h4, if_pos h5, if_neg (nb h6), opv_eq, if_true, if_false, Bool.false_eq_true, reduceCtorEq, b2i_t, b2i_f]⟩ (Nat.le_refl _) (Nat.le_refl _)
  · skip
    refine g_iconst 1 d_X11_gustWhy_7 (by decide) ?_
    exact g_iret rfl d_X11_gustWhy_8 ⟨by simp only [f_X11_gustWhy, m_X11_gustWhy, if_pos h4, opv_eq, if_true, if_false, Bool.false_eq_true, reduceCtorEq, b2i_t, b2i_f], by simp only [f_X11_gustWhy, m_X11_gustWhy, if_pos h4, opv_eq, if_true, if_false, Bool.false_eq_true, reduceCtorEq, b2i_t, b2i_f]⟩ (Nat.le_refl _) (Nat.le_refl _)
noncomputable def u0_X11_gusted (I : Nat → Nat → Int32) (x1 : Int32) (x2 : Int32) : Nat → Nat → Int32 := opv (m_X11_no (m_X11_gustWhy (m_X11_good I) x1 x2) (f_X11_gustWhy (m_X11_good I) x1 x2))
noncomputable def u1_X11_gusted (I : Nat → Nat → Int32) (x1 : Int32) (x2 : Int32) : Int32 := opv (if (f_X11_gustWhy (m_X11_good I) x1 x2) = 0 then ((m_X11_gustWhy (m_X11_good I) x1 x2) 73 0) + 9 else f_X11_no (m_X11_gustWhy (m_X11_good I) x1 x2) (f_X11_gustWhy (m_X11_good I) x1 x2))
noncomputable def u2_X11_gusted (I : Nat → Nat → Int32) (x1 : Int32) (x2 : Int32) : Nat → Nat → Int32 := opv (if (f_X11_gustWhy (m_X11_good I) x1 x2) = 0 then (m_X11_gustWhy (m_X11_good I) x1 x2) else (u0_X11_gusted I x1 x2))
noncomputable def f_X11_gusted (I : Nat → Nat → Int32) (x1 : Int32) (x2 : Int32) : Int32 := opv (u1_X11_gusted I x1 x2)
noncomputable def m_X11_gusted (I : Nat → Nat → Int32) (x1 : Int32) (x2 : Int32) : Nat → Nat → Int32 := opv (u2_X11_gusted I x1 x2)
noncomputable def ok_X11_gusted (I : Nat → Nat → Int32) (x1 : Int32) (x2 : Int32) : Prop := opv (ok_X11_gustWhy (m_X11_good I) x1 x2)
set_option maxHeartbeats 800000 in
set_option maxRecDepth 4000 in
theorem c_X11_gusted {k : KT} {ex : Bool} {J : Nat → Nat → Int64} {w : Bool} (I : Nat → Nat → Int32) (x1 : Int32) (x2 : Int32)  (hok : ok_X11_gusted I x1 x2) : Cx k mX11_gusted 6 [.ref (ka k 65), .int x1, .int x2] (81, ex, I, J, Pw w) (some (.int (f_X11_gusted I x1 x2))) (81, ex, m_X11_gusted I x1 x2, J, Pw w) := by
  refine Ct.of rfl [some (.ref (ka k 65)), some (.int x1), some (.int x2), none] rfl rfl (Nat.le_of_ble_eq_true rfl) ?_
  rw [ok_X11_gusted, opv_eq] at hok
  refine g_aload_n0 rfl d_X11_gusted_0 ?_
  refine g_callV0 (c_X11_good I ) w_X11_good l_X11_168 d_X11_gusted_1 rfl (Nat.le_of_ble_eq_true rfl) rfl rfl (Nat.le_of_ble_eq_true rfl) ⟨Nat.le_of_ble_eq_true rfl, Nat.le_of_ble_eq_true rfl⟩ ⟨Nat.zero_le _, Nat.zero_le _⟩ ⟨rfl, rfl⟩ ?_
  refine g_aload_n0 rfl d_X11_gusted_4 ?_
  refine g_iload_n1 rfl d_X11_gusted_5 ?_
  refine g_iload_n2 rfl d_X11_gusted_6 ?_
  have ho1 := hok
  refine g_callV1 (c_X11_gustWhy (m_X11_good I) x1 x2 ho1) w_X11_gustWhy l_X11_405 d_X11_gusted_7 rfl (Nat.le_of_ble_eq_true rfl) rfl rfl (Nat.le_of_ble_eq_true rfl) ⟨Nat.le_of_ble_eq_true rfl, Nat.le_of_ble_eq_true rfl⟩ ⟨Nat.zero_le _, Nat.zero_le _⟩ ⟨rfl, rfl⟩ ?_
  refine g_isn3 rfl d_X11_gusted_10 ?_
  refine g_iload_n3 rfl d_X11_gusted_11 ?_
  refine g_cut (pc' := 32) (vs' := [some (.ref (ka k 65)), some (.int x1), some (.int x2), some (.int (f_X11_gustWhy (m_X11_good I) x1 x2))]) (st' := [.int (u1_X11_gusted I x1 x2)]) (M' := (81, ex, (u2_X11_gusted I x1 x2), J, Pw w)) (fun hj => ?_) ?_
  · skip
    refine g_if_eq 23 d_X11_gusted_12 (by decide) (fun h1 => ?_) (fun h1 => ?_)
    · skip
      refine g_aload_n0 rfl d_X11_gusted_23 ?_
      refine g_getP (b := 73) f_X11_35 d_X11_gusted_24 rfl (Nat.le_of_ble_eq_true rfl) rfl rfl ?_
      refine g_iconst 0 d_X11_gusted_27 (by decide) ?_
      refine g_ialdv ((m_X11_gustWhy (m_X11_good I) x1 x2) 73 0) rfl d_X11_gusted_28 rfl (Nat.le_of_ble_eq_true rfl) (vp_c (by decide +kernel)) ?_
      refine g_bipush 9 d_X11_gusted_29 (by decide) ?_
      refine g_iadd d_X11_gusted_31 ?_
      (try simp only [if_pos h1, opv_eq, if_true, if_false, Bool.false_eq_true, reduceCtorEq, b2i_t, b2i_f, u1_X11_gusted, u2_X11_gusted] at hj); exact hj
    · skip
      refine g_aload_n0 rfl d_X11_gusted_15 ?_
      refine g_iload_n3 rfl d_X11_gusted_16 ?_
      refine g_callV1 (c_X11_no (m_X11_gustWhy (m_X11_good I) x1 x2) (f_X11_gustWhy (m_X11_good I) x1 x2)) w_X11_no l_X11_171 d_X11_gusted_17 rfl (Nat.le_of_ble_eq_true rfl) rfl rfl (Nat.le_of_ble_eq_true rfl) ⟨Nat.le_of_ble_eq_true rfl, Nat.le_of_ble_eq_true rfl⟩ ⟨Nat.zero_le _, Nat.zero_le _⟩ ⟨rfl, rfl⟩ ?_
      refine G.toI (I' := (u0_X11_gusted I x1 x2)) (by rw [u0_X11_gusted, opv_eq]) ?_
      refine g_goto 32 d_X11_gusted_20 (by decide) ?_
      (try simp only [if_neg h1, opv_eq, if_true, if_false, Bool.false_eq_true, reduceCtorEq, b2i_t, b2i_f, u1_X11_gusted, u2_X11_gusted] at hj); exact hj
  · skip
    exact g_iret rfl d_X11_gusted_32 ⟨by simp only [f_X11_gusted, m_X11_gusted, opv_eq, if_true, if_false, Bool.false_eq_true, reduceCtorEq, b2i_t, b2i_f], by simp only [f_X11_gusted, m_X11_gusted, opv_eq, if_true, if_false, Bool.false_eq_true, reduceCtorEq, b2i_t, b2i_f]⟩ (Nat.le_refl _) (Nat.le_refl _)
noncomputable def u0_X11_wetIn (I : Nat → Nat → Int32) (x1 : Int32) (x2 : Int32) : Nat → Nat → Int32 := opv (m_X11_no (m_X11_gustWhy (m_X11_good I) x1 x2) (f_X11_gustWhy (m_X11_good I) x1 x2))
noncomputable def u1_X11_wetIn (I : Nat → Nat → Int32) (x1 : Int32) (x2 : Int32) : Int32 := opv (if (f_X11_gustWhy (m_X11_good I) x1 x2) = 0 then (m_X11_gustWhy (m_X11_good I) x1 x2) 65 39 else f_X11_no (m_X11_gustWhy (m_X11_good I) x1 x2) (f_X11_gustWhy (m_X11_good I) x1 x2))
noncomputable def u2_X11_wetIn (I : Nat → Nat → Int32) (x1 : Int32) (x2 : Int32) : Nat → Nat → Int32 := opv (if (f_X11_gustWhy (m_X11_good I) x1 x2) = 0 then (m_X11_gustWhy (m_X11_good I) x1 x2) else (u0_X11_wetIn I x1 x2))
noncomputable def f_X11_wetIn (I : Nat → Nat → Int32) (x1 : Int32) (x2 : Int32) : Int32 := opv (u1_X11_wetIn I x1 x2)
noncomputable def m_X11_wetIn (I : Nat → Nat → Int32) (x1 : Int32) (x2 : Int32) : Nat → Nat → Int32 := opv (u2_X11_wetIn I x1 x2)
noncomputable def ok_X11_wetIn (I : Nat → Nat → Int32) (x1 : Int32) (x2 : Int32) : Prop := opv (ok_X11_gustWhy (m_X11_good I) x1 x2)
set_option maxHeartbeats 800000 in
set_option maxRecDepth 4000 in
theorem c_X11_wetIn {k : KT} {ex : Bool} {J : Nat → Nat → Int64} {w : Bool} (I : Nat → Nat → Int32) (x1 : Int32) (x2 : Int32)  (hok : ok_X11_wetIn I x1 x2) : Cx k mX11_wetIn 6 [.ref (ka k 65), .int x1, .int x2] (81, ex, I, J, Pw w) (some (.int (f_X11_wetIn I x1 x2))) (81, ex, m_X11_wetIn I x1 x2, J, Pw w) := by
  refine Ct.of rfl [some (.ref (ka k 65)), some (.int x1), some (.int x2), none] rfl rfl (Nat.le_of_ble_eq_true rfl) ?_
  rw [ok_X11_wetIn, opv_eq] at hok
  refine g_aload_n0 rfl d_X11_wetIn_0 ?_
  refine g_callV0 (c_X11_good I ) w_X11_good l_X11_168 d_X11_wetIn_1 rfl (Nat.le_of_ble_eq_true rfl) rfl rfl (Nat.le_of_ble_eq_true rfl) ⟨Nat.le_of_ble_eq_true rfl, Nat.le_of_ble_eq_true rfl⟩ ⟨Nat.zero_le _, Nat.zero_le _⟩ ⟨rfl, rfl⟩ ?_
  refine g_aload_n0 rfl d_X11_wetIn_4 ?_
  refine g_iload_n1 rfl d_X11_wetIn_5 ?_
  refine g_iload_n2 rfl d_X11_wetIn_6 ?_
  have ho1 := hok
  refine g_callV1 (c_X11_gustWhy (m_X11_good I) x1 x2 ho1) w_X11_gustWhy l_X11_405 d_X11_wetIn_7 rfl (Nat.le_of_ble_eq_true rfl) rfl rfl (Nat.le_of_ble_eq_true rfl) ⟨Nat.le_of_ble_eq_true rfl, Nat.le_of_ble_eq_true rfl⟩ ⟨Nat.zero_le _, Nat.zero_le _⟩ ⟨rfl, rfl⟩ ?_
  refine g_isn3 rfl d_X11_wetIn_10 ?_
  refine g_iload_n3 rfl d_X11_wetIn_11 ?_
  refine g_cut (pc' := 27) (vs' := [some (.ref (ka k 65)), some (.int x1), some (.int x2), some (.int (f_X11_gustWhy (m_X11_good I) x1 x2))]) (st' := [.int (u1_X11_wetIn I x1 x2)]) (M' := (81, ex, (u2_X11_wetIn I x1 x2), J, Pw w)) (fun hj => ?_) ?_
  · skip
    refine g_if_eq 23 d_X11_wetIn_12 (by decide) (fun h1 => ?_) (fun h1 => ?_)
    · skip
      refine g_aload_n0 rfl d_X11_wetIn_23 ?_
      refine g_getI f_X11_401 d_X11_wetIn_24 rfl (Nat.le_of_ble_eq_true rfl) rfl ?_
      (try simp only [if_pos h1, opv_eq, if_true, if_false, Bool.false_eq_true, reduceCtorEq, b2i_t, b2i_f, u1_X11_wetIn, u2_X11_wetIn] at hj); exact hj
    · skip
      refine g_aload_n0 rfl d_X11_wetIn_15 ?_
      refine g_iload_n3 rfl d_X11_wetIn_16 ?_
      refine g_callV1 (c_X11_no (m_X11_gustWhy (m_X11_good I) x1 x2) (f_X11_gustWhy (m_X11_good I) x1 x2)) w_X11_no l_X11_171 d_X11_wetIn_17 rfl (Nat.le_of_ble_eq_true rfl) rfl rfl (Nat.le_of_ble_eq_true rfl) ⟨Nat.le_of_ble_eq_true rfl, Nat.le_of_ble_eq_true rfl⟩ ⟨Nat.zero_le _, Nat.zero_le _⟩ ⟨rfl, rfl⟩ ?_
      refine G.toI (I' := (u0_X11_wetIn I x1 x2)) (by rw [u0_X11_wetIn, opv_eq]) ?_
      refine g_goto 27 d_X11_wetIn_20 (by decide) ?_
      (try simp only [if_neg h1, opv_eq, if_true, if_false, Bool.false_eq_true, reduceCtorEq, b2i_t, b2i_f, u1_X11_wetIn, u2_X11_wetIn] at hj); exact hj
  · skip
    exact g_iret rfl d_X11_wetIn_27 ⟨by simp only [f_X11_wetIn, m_X11_wetIn, opv_eq, if_true, if_false, Bool.false_eq_true, reduceCtorEq, b2i_t, b2i_f], by simp only [f_X11_wetIn, m_X11_wetIn, opv_eq, if_true, if_false, Bool.false_eq_true, reduceCtorEq, b2i_t, b2i_f]⟩ (Nat.le_refl _) (Nat.le_refl _)
