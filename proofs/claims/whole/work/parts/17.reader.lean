noncomputable def lp_X6_isWord_15 (I : Nat → Nat → Int32) (J : Nat → Nat → Int64) (x1 : Nat) : Nat → Int64 → Int32 → Int64 × Int32
  | 0, l2, l4 => (l2, l4)
  | n + 1, l2, l4 => (if (sLen x1) ≤ l4 then (l2, l4) else (lp_X6_isWord_15 I J x1 n ((l2 * 32) + ((((sCh x1 l4) - 97) + 1).toInt64)) (l4 + 1)))
def oklp_X6_isWord_15 (I : Nat → Nat → Int32) (J : Nat → Nat → Int64) (x1 : Nat) : Nat → Int64 → Int32 → Prop
  | 0, l2, l4 => True
  | n + 1, l2, l4 => (if (sLen x1) ≤ l4 then True else (vp_in l4 (lenS.getD x1 0) ∧ oklp_X6_isWord_15 I J x1 n ((l2 * 32) + ((((sCh x1 l4) - 97) + 1).toInt64)) (l4 + 1)))
set_option maxHeartbeats 800000 in
set_option maxRecDepth 4000 in
theorem k_lp_X6_isWord_15 {k : KT} {ex : Bool} {w : Bool} (I : Nat → Nat → Int32) (J : Nat → Nat → Int64) (x1 : Nat) (hx1 : x1 < nStr) {F : FinT} : ∀ (n : Nat) (l2 : Int64) (l4 : Int32), mu_up (sLen x1) l4 < n → oklp_X6_isWord_15 I J x1 n l2 l4 → G k mX6_isWord (roomOf 5 0 0) F 0 0 49 [some (.ref (ka k 2)), some (.ref (adK k x1)), some (.long ((lp_X6_isWord_15 I J x1 n l2 l4).1)), none, some (.int ((lp_X6_isWord_15 I J x1 n l2 l4).2))] [] (81, ex, I, J, Pw w) → G k mX6_isWord (roomOf 5 0 0) F 0 0 15 [some (.ref (ka k 2)), some (.ref (adK k x1)), some (.long l2), none, some (.int l4)] [] (81, ex, I, J, Pw w) := by
  intro n
  induction n with
  | zero => intro l2 l4 hmu hok hj; exact absurd hmu (Nat.not_lt_zero _)
  | succ n ih =>
    intro l2 l4 hmu hok hj
    rw [oklp_X6_isWord_15] at hok
    refine g_iload (i := 4) rfl d_X6_isWord_15 ?_
    refine g_aload_n1 rfl d_X6_isWord_17 ?_
    refine g_callK1 (c_J0_length_8abf5 x1 hx1) w_J0_length_8abf5 rfl hx1 l_X6_244 d_X6_isWord_18 rfl rfl (Nat.le_of_ble_eq_true rfl) ⟨Nat.le_of_ble_eq_true rfl, Nat.le_of_ble_eq_true rfl⟩ ⟨Nat.zero_le _, Nat.zero_le _⟩ ⟨rfl, rfl⟩ ?_
    refine g_icmp_ge 49 d_X6_isWord_21 (by decide) (fun h1 => ?_) (fun h1 => ?_)
    · skip
      (try simp only [lp_X6_isWord_15, if_pos h1, opv_eq, if_true, if_false, Bool.false_eq_true, reduceCtorEq, b2i_t, b2i_f] at hj); exact hj
    · skip
      rw [if_neg h1] at hok
      refine g_lload_n2 rfl d_X6_isWord_24 ?_
      refine g_ldc2 (v := 32) (in2 216 (by decide +kernel) rfl) d_X6_isWord_25 ?_
      refine g_lmul d_X6_isWord_28 ?_
      refine g_aload_n1 rfl d_X6_isWord_29 ?_
      refine g_iload (i := 4) rfl d_X6_isWord_30 ?_
      obtain ⟨ho1, hok⟩ := hok
      refine g_callK1 (c_J0_charAt_5068e x1 hx1 l4 ho1) w_J0_charAt_5068e rfl hx1 l_X6_250 d_X6_isWord_32 rfl rfl (Nat.le_of_ble_eq_true rfl) ⟨Nat.le_of_ble_eq_true rfl, Nat.le_of_ble_eq_true rfl⟩ ⟨Nat.zero_le _, Nat.zero_le _⟩ ⟨rfl, rfl⟩ ?_
      refine g_bipush 97 d_X6_isWord_35 (by decide) ?_
      refine g_isub d_X6_isWord_37 ?_
      refine g_iconst 1 d_X6_isWord_38 (by decide) ?_
      refine g_iadd d_X6_isWord_39 ?_
      refine g_i2l d_X6_isWord_40 ?_
      refine g_ladd d_X6_isWord_41 ?_
      refine g_lsn2 rfl d_X6_isWord_42 ?_
      refine g_ic4 (l4 + 1) rfl rfl d_X6_isWord_43 ?_
      refine g_goto 15 d_X6_isWord_46 (by decide) ?_
      exact ih ((l2 * 32) + ((((sCh x1 l4) - 97) + 1).toInt64)) (l4 + 1) (Nat.lt_of_lt_of_le (mu_up_lt h1) (Nat.le_of_lt_succ hmu)) (by (try simp only [if_neg h1, opv_eq, if_true, if_false, Bool.false_eq_true, reduceCtorEq, b2i_t, b2i_f] at hok); exact hok) (by (try simp only [lp_X6_isWord_15, if_neg h1, opv_eq, if_true, if_false, Bool.false_eq_true, reduceCtorEq, b2i_t, b2i_f] at hj); exact hj)
noncomputable def u0_X6_isWord (I : Nat → Nat → Int32) (J : Nat → Nat → Int64) (x1 : Nat) : Bool := opv (if (lg_cmp ((lp_X6_isWord_15 I J x1 (mu_up (sLen x1) 0 + 1) 0 0).1) (J 2 8)) = 0 then true else false)
noncomputable def f_X6_isWord (I : Nat → Nat → Int32) (J : Nat → Nat → Int64) (x1 : Nat) : Bool := opv (if (I 2 6) = 1 then (u0_X6_isWord I J x1) else false)
noncomputable def ok_X6_isWord (I : Nat → Nat → Int32) (J : Nat → Nat → Int64) (x1 : Nat) : Prop := opv (if (I 2 6) = 1 then oklp_X6_isWord_15 I J x1 (mu_up (sLen x1) 0 + 1) 0 0 else True)
set_option maxHeartbeats 800000 in
set_option maxRecDepth 4000 in
theorem c_X6_isWord {k : KT} {ex : Bool} {w : Bool} (I : Nat → Nat → Int32) (J : Nat → Nat → Int64) (x1 : Nat) (hx1 : x1 < nStr)  (hok : ok_X6_isWord I J x1) : Cx k mX6_isWord 5 [.ref (ka k 2), .ref (adK k x1)] (81, ex, I, J, Pw w) (some (.int (b2i (f_X6_isWord I J x1)))) (81, ex, I, J, Pw w) := by
  refine Ct.of rfl [some (.ref (ka k 2)), some (.ref (adK k x1)), none, none, none] rfl rfl (Nat.le_of_ble_eq_true rfl) ?_
  rw [ok_X6_isWord, opv_eq] at hok
  refine g_aload_n0 rfl d_X6_isWord_0 ?_
  refine g_getI f_X6_69 d_X6_isWord_1 rfl (Nat.le_of_ble_eq_true rfl) rfl ?_
  refine g_iconst 1 d_X6_isWord_4 (by decide) ?_
  refine g_icmp_eq 10 d_X6_isWord_5 (by decide) (fun h2 => ?_) (fun h2 => ?_)
  · skip
    rw [if_pos h2] at hok
    refine g_lconst 0 d_X6_isWord_10 (by decide) ?_
    refine g_lsn2 rfl d_X6_isWord_11 ?_
    refine g_iconst 0 d_X6_isWord_12 (by decide) ?_
    refine g_is4 rfl d_X6_isWord_13 ?_
    refine k_lp_X6_isWord_15 I J x1 hx1 _ 0 0 (Nat.lt_succ_self _) hok ?_
    refine g_lload_n2 rfl d_X6_isWord_49 ?_
    refine g_aload_n0 rfl d_X6_isWord_50 ?_
    refine g_getJ f_X6_238 d_X6_isWord_51 rfl (Nat.le_of_ble_eq_true rfl) rfl ?_
    refine g_lcmp d_X6_isWord_54 ?_
    refine g_cut (pc' := 63) (vs' := [some (.ref (ka k 2)), some (.ref (adK k x1)), some (.long ((lp_X6_isWord_15 I J x1 (mu_up (sLen x1) 0 + 1) 0 0).1)), none, some (.int ((lp_X6_isWord_15 I J x1 (mu_up (sLen x1) 0 + 1) 0 0).2))]) (st' := [.int (b2i (u0_X6_isWord I J x1))]) (M' := (81, ex, I, J, Pw w)) (fun hj => ?_) ?_
    · skip
      refine g_if_ne 62 d_X6_isWord_55 (by decide) (fun h3 => ?_) (fun h3 => ?_)
      · skip
        refine g_iconst 0 d_X6_isWord_62 (by decide) ?_
        (try simp only [if_neg h3, opv_eq, if_true, if_false, Bool.false_eq_true, reduceCtorEq, b2i_t, b2i_f, u0_X6_isWord] at hj); exact hj
      · skip
        refine g_iconst 1 d_X6_isWord_58 (by decide) ?_
        refine g_goto 63 d_X6_isWord_59 (by decide) ?_
        (try simp only [if_pos h3, opv_eq, if_true, if_false, Bool.false_eq_true, reduceCtorEq, b2i_t, b2i_f, u0_X6_isWord] at hj); exact hj
    · skip
      exact g_zret rfl (nar_b _) d_X6_isWord_63 ⟨by simp only [f_X6_isWord, if_pos h2, opv_eq, if_true, if_false, Bool.false_eq_true, reduceCtorEq, b2i_t, b2i_f], rfl⟩ (Nat.le_refl _) (Nat.le_refl _)
  · skip
    refine g_iconst 0 d_X6_isWord_8 (by decide) ?_
    exact g_zret rfl (by decide) d_X6_isWord_9 ⟨by simp only [f_X6_isWord, if_neg h2, opv_eq, if_true, if_false, Bool.false_eq_true, reduceCtorEq, b2i_t, b2i_f], rfl⟩ (Nat.le_refl _) (Nat.le_refl _)
noncomputable def f_X6_fails (I : Nat → Nat → Int32) (x1 : Int32) : Bool := opv false
noncomputable def m_X6_fails (I : Nat → Nat → Int32) (x1 : Int32) : Nat → Nat → Int32 := opv (st2 (st2 I 2 0 x1) 2 1 (I 2 7))
set_option maxHeartbeats 800000 in
set_option maxRecDepth 4000 in
theorem c_X6_fails {k : KT} {ex : Bool} {J : Nat → Nat → Int64} {w : Bool} (I : Nat → Nat → Int32) (x1 : Int32)  : Cx k mX6_fails 1 [.ref (ka k 2), .int x1] (81, ex, I, J, Pw w) (some (.int (b2i (f_X6_fails I x1)))) (81, ex, m_X6_fails I x1, J, Pw w) := by
  refine Ct.of rfl [some (.ref (ka k 2)), some (.int x1)] rfl rfl (Nat.le_of_ble_eq_true rfl) ?_
  refine g_aload_n0 rfl d_X6_fails_0 ?_
  refine g_iload_n1 rfl d_X6_fails_1 ?_
  refine g_putI f_X6_49 d_X6_fails_2 rfl (Nat.le_of_ble_eq_true rfl) rfl rfl rfl ?_
  refine g_aload_n0 rfl d_X6_fails_5 ?_
  refine g_aload_n0 rfl d_X6_fails_6 ?_
  refine g_getIv (I 2 7) (st2_o _ _ _ (by decide)) f_X6_216 d_X6_fails_7 rfl (Nat.le_of_ble_eq_true rfl) rfl ?_
  refine g_putI f_X6_52 d_X6_fails_10 rfl (Nat.le_of_ble_eq_true rfl) rfl rfl rfl ?_
  refine g_iconst 0 d_X6_fails_13 (by decide) ?_
  exact g_zret rfl (by decide) d_X6_fails_14 ⟨by simp only [f_X6_fails, m_X6_fails, opv_eq, if_true, if_false, Bool.false_eq_true, reduceCtorEq, b2i_t, b2i_f], by simp only [f_X6_fails, m_X6_fails, opv_eq, if_true, if_false, Bool.false_eq_true, reduceCtorEq, b2i_t, b2i_f]⟩ (Nat.le_refl _) (Nat.le_refl _)
noncomputable def lp_X6_nameNumber_2 (I : Nat → Nat → Int32) (J : Nat → Nat → Int64) : Nat → Int32 → Int32
  | 0, l1 => 0
  | n + 1, l1 => (if (I 2 14) ≤ l1 then (-1) else (if (Int32.ofNat (sz 12)) ≤ l1 then (-1) else (if (lg_cmp (J 12 l1.toNatClampNeg) (J 2 8)) = 0 then l1 else (lp_X6_nameNumber_2 I J n (l1 + 1)))))
def oklp_X6_nameNumber_2 (I : Nat → Nat → Int32) (J : Nat → Nat → Int64) : Nat → Int32 → Prop
  | 0, l1 => True
  | n + 1, l1 => (if (I 2 14) ≤ l1 then True else (if (Int32.ofNat (sz 12)) ≤ l1 then True else (vp_in l1 (sz 12) ∧ (if (lg_cmp (J 12 l1.toNatClampNeg) (J 2 8)) = 0 then True else oklp_X6_nameNumber_2 I J n (l1 + 1)))))
set_option maxHeartbeats 800000 in
set_option maxRecDepth 4000 in
theorem k_lp_X6_nameNumber_2 {k : KT} {ex : Bool} {w : Bool} (I : Nat → Nat → Int32) (J : Nat → Nat → Int64) {Q : Option Value → MM → Prop} : ∀ (n : Nat) (l1 : Int32), mu_up (I 2 14) l1 < n → oklp_X6_nameNumber_2 I J n l1 → Q (some (.int (lp_X6_nameNumber_2 I J n l1))) (81, ex, I, J, Pw w) → G k mX6_nameNumber (roomOf 1 0 0) (FinM k Q 0 0) 0 0 2 [some (.ref (ka k 2)), some (.int l1)] [] (81, ex, I, J, Pw w) := by
  intro n
  induction n with
  | zero => intro l1 hmu hok hq; exact absurd hmu (Nat.not_lt_zero _)
  | succ n ih =>
    intro l1 hmu hok hq
    rw [oklp_X6_nameNumber_2] at hok
    refine g_iload_n1 rfl d_X6_nameNumber_2 ?_
    refine g_aload_n0 rfl d_X6_nameNumber_3 ?_
    refine g_getI f_X6_59 d_X6_nameNumber_4 rfl (Nat.le_of_ble_eq_true rfl) rfl ?_
    refine g_icmp_ge 41 d_X6_nameNumber_7 (by decide) (fun h1 => ?_) (fun h1 => ?_)
    · skip
      refine g_iconst (-1) d_X6_nameNumber_41 (by decide) ?_
      exact g_iret rfl d_X6_nameNumber_42 (by (try simp only [lp_X6_nameNumber_2, if_pos h1, opv_eq, if_true, if_false, Bool.false_eq_true, reduceCtorEq, b2i_t, b2i_f] at hq); exact hq) (Nat.le_refl _) (Nat.le_refl _)
    · skip
      rw [if_neg h1] at hok
      refine g_iload_n1 rfl d_X6_nameNumber_10 ?_
      refine g_aload_n0 rfl d_X6_nameNumber_11 ?_
      refine g_getP (b := 12) f_X6_22 d_X6_nameNumber_12 rfl (Nat.le_of_ble_eq_true rfl) rfl rfl ?_
      refine g_alen13 d_X6_nameNumber_15 rfl (Nat.le_of_ble_eq_true rfl) ?_
      refine g_icmp_ge 41 d_X6_nameNumber_16 (by decide) (fun h2 => ?_) (fun h2 => ?_)
      · skip
        refine g_iconst (-1) d_X6_nameNumber_41 (by decide) ?_
        exact g_iret rfl d_X6_nameNumber_42 (by (try simp only [lp_X6_nameNumber_2, if_neg h1, if_pos h2, opv_eq, if_true, if_false, Bool.false_eq_true, reduceCtorEq, b2i_t, b2i_f] at hq); exact hq) (Nat.le_refl _) (Nat.le_refl _)
      · skip
        rw [if_neg h2] at hok
        refine g_aload_n0 rfl d_X6_nameNumber_19 ?_
        refine g_getP (b := 12) f_X6_22 d_X6_nameNumber_20 rfl (Nat.le_of_ble_eq_true rfl) rfl rfl ?_
        refine g_iload_n1 rfl d_X6_nameNumber_23 ?_
        obtain ⟨ho1, hok⟩ := hok
        refine g_lald d_X6_nameNumber_24 rfl (Nat.le_of_ble_eq_true rfl) ho1 ?_
        refine g_aload_n0 rfl d_X6_nameNumber_25 ?_
        refine g_getJ f_X6_238 d_X6_nameNumber_26 rfl (Nat.le_of_ble_eq_true rfl) rfl ?_
        refine g_lcmp d_X6_nameNumber_29 ?_
        refine g_if_ne 35 d_X6_nameNumber_30 (by decide) (fun h3 => ?_) (fun h3 => ?_)
        · skip
          rw [if_neg h3] at hok
          refine g_ic1 (l1 + 1) rfl rfl d_X6_nameNumber_35 ?_
          refine g_goto 2 d_X6_nameNumber_38 (by decide) ?_
          exact ih (l1 + 1) (Nat.lt_of_lt_of_le (mu_up_lt h1) (Nat.le_of_lt_succ hmu)) (by (try simp only [if_neg h1, if_neg h2, if_neg h3, opv_eq, if_true, if_false, Bool.false_eq_true, reduceCtorEq, b2i_t, b2i_f] at hok); exact hok) (by (try simp only [lp_X6_nameNumber_2, if_neg h1, if_neg h2, if_neg h3, opv_eq, if_true, if_false, Bool.false_eq_true, reduceCtorEq, b2i_t, b2i_f] at hq); exact hq)
        · skip
          refine g_iload_n1 rfl d_X6_nameNumber_33 ?_
          exact g_iret rfl d_X6_nameNumber_34 (by (try simp only [lp_X6_nameNumber_2, if_neg h1, if_neg h2, if_pos h3, opv_eq, if_true, if_false, Bool.false_eq_true, reduceCtorEq, b2i_t, b2i_f] at hq); exact hq) (Nat.le_refl _) (Nat.le_refl _)
noncomputable def f_X6_nameNumber (I : Nat → Nat → Int32) (J : Nat → Nat → Int64)  : Int32 := opv (lp_X6_nameNumber_2 I J (mu_up (I 2 14) 0 + 1) 0)
noncomputable def ok_X6_nameNumber (I : Nat → Nat → Int32) (J : Nat → Nat → Int64)  : Prop := opv (oklp_X6_nameNumber_2 I J (mu_up (I 2 14) 0 + 1) 0)
set_option maxHeartbeats 800000 in
set_option maxRecDepth 4000 in
theorem c_X6_nameNumber {k : KT} {ex : Bool} {w : Bool} (I : Nat → Nat → Int32) (J : Nat → Nat → Int64)   (hok : ok_X6_nameNumber I J) : Cx k mX6_nameNumber 1 [.ref (ka k 2)] (81, ex, I, J, Pw w) (some (.int (f_X6_nameNumber I J))) (81, ex, I, J, Pw w) := by
  refine Ct.of rfl [some (.ref (ka k 2)), none] rfl rfl (Nat.le_of_ble_eq_true rfl) ?_
  rw [ok_X6_nameNumber, opv_eq] at hok
  refine g_iconst 0 d_X6_nameNumber_0 (by decide) ?_
  refine g_isn1 rfl d_X6_nameNumber_1 ?_
  exact k_lp_X6_nameNumber_2 I J _ 0 (Nat.lt_succ_self _) hok ⟨by simp only [f_X6_nameNumber, opv_eq, if_true, if_false, Bool.false_eq_true, reduceCtorEq, b2i_t, b2i_f], rfl⟩
noncomputable def lp_X6_takeWord_5  : Nat → (Nat → Nat → Int32) → (Nat → Nat → Int64) → (Nat → Nat → Int32) × (Nat → Nat → Int64)
  | 0, I1, J1 => (I1, J1)
  | n + 1, I1, J1 => (if (I1 2 4) ≤ (I1 2 5) then (I1, J1) else (if (I1 1 (I1 2 5).toNatClampNeg) < 97 then (I1, J1) else (if 122 < (I1 1 (I1 2 5).toNatClampNeg) then (I1, J1) else (lp_X6_takeWord_5  n (st2 I1 2 5 ((I1 2 5) + 1)) (stJ J1 2 8 (((J1 2 8) * 32) + ((((I1 1 (I1 2 5).toNatClampNeg) - 97) + 1).toInt64)))))))
def oklp_X6_takeWord_5  : Nat → (Nat → Nat → Int32) → (Nat → Nat → Int64) → Prop
  | 0, I1, J1 => True
  | n + 1, I1, J1 => (if (I1 2 4) ≤ (I1 2 5) then True else (vp_in (I1 2 5) (sz 1) ∧ (if (I1 1 (I1 2 5).toNatClampNeg) < 97 then True else (vp_in (I1 2 5) (sz 1) ∧ (if 122 < (I1 1 (I1 2 5).toNatClampNeg) then True else (vp_in (I1 2 5) (sz 1) ∧ oklp_X6_takeWord_5  n (st2 I1 2 5 ((I1 2 5) + 1)) (stJ J1 2 8 (((J1 2 8) * 32) + ((((I1 1 (I1 2 5).toNatClampNeg) - 97) + 1).toInt64)))))))))
set_option maxHeartbeats 800000 in
set_option maxRecDepth 4000 in
theorem k_lp_X6_takeWord_5 {k : KT} {ex : Bool} {w : Bool}  {F : FinT} : ∀ (n : Nat) (I1 : (Nat → Nat → Int32)) (J1 : (Nat → Nat → Int64)), mu_up (I1 2 4) (I1 2 5) < n → oklp_X6_takeWord_5  n I1 J1 → G k mX6_takeWord (roomOf 1 0 0) F 0 0 85 [some (.ref (ka k 2)), none] [] (81, ex, (lp_X6_takeWord_5  n I1 J1).1, (lp_X6_takeWord_5  n I1 J1).2, Pw w) → G k mX6_takeWord (roomOf 1 0 0) F 0 0 5 [some (.ref (ka k 2)), none] [] (81, ex, I1, J1, Pw w) := by
  intro n
  induction n with
  | zero => intro I1 J1 hmu hok hj; exact absurd hmu (Nat.not_lt_zero _)
  | succ n ih =>
    intro I1 J1 hmu hok hj
    rw [oklp_X6_takeWord_5] at hok
    refine g_aload_n0 rfl d_X6_takeWord_5 ?_
    refine g_getI f_X6_46 d_X6_takeWord_6 rfl (Nat.le_of_ble_eq_true rfl) rfl ?_
    refine g_aload_n0 rfl d_X6_takeWord_9 ?_
    refine g_getI f_X6_40 d_X6_takeWord_10 rfl (Nat.le_of_ble_eq_true rfl) rfl ?_
    refine g_icmp_ge 85 d_X6_takeWord_13 (by decide) (fun h1 => ?_) (fun h1 => ?_)
    · skip
      (try simp only [lp_X6_takeWord_5, if_pos h1, opv_eq, if_true, if_false, Bool.false_eq_true, reduceCtorEq, b2i_t, b2i_f] at hj); exact hj
    · skip
      rw [if_neg h1] at hok
      refine g_aload_n0 rfl d_X6_takeWord_16 ?_
      refine g_getP (b := 1) f_X6_18 d_X6_takeWord_17 rfl (Nat.le_of_ble_eq_true rfl) rfl rfl ?_
      refine g_aload_n0 rfl d_X6_takeWord_20 ?_
      refine g_getI f_X6_46 d_X6_takeWord_21 rfl (Nat.le_of_ble_eq_true rfl) rfl ?_
      obtain ⟨ho1, hok⟩ := hok
      refine g_bald d_X6_takeWord_24 rfl (Nat.le_of_ble_eq_true rfl) ho1 ?_
      refine g_bipush 97 d_X6_takeWord_25 (by decide) ?_
      refine g_icmp_lt 85 d_X6_takeWord_27 (by decide) (fun h2 => ?_) (fun h2 => ?_)
      · skip
        (try simp only [lp_X6_takeWord_5, if_neg h1, if_pos h2, opv_eq, if_true, if_false, Bool.false_eq_true, reduceCtorEq, b2i_t, b2i_f] at hj); exact hj
      · skip
        rw [if_neg h2] at hok
        refine g_aload_n0 rfl d_X6_takeWord_30 ?_
        refine g_getP (b := 1) f_X6_18 d_X6_takeWord_31 rfl (Nat.le_of_ble_eq_true rfl) rfl rfl ?_
        refine g_aload_n0 rfl d_X6_takeWord_34 ?_
        refine g_getI f_X6_46 d_X6_takeWord_35 rfl (Nat.le_of_ble_eq_true rfl) rfl ?_
        obtain ⟨ho2, hok⟩ := hok
        refine g_bald d_X6_takeWord_38 rfl (Nat.le_of_ble_eq_true rfl) ho2 ?_
        refine g_bipush 122 d_X6_takeWord_39 (by decide) ?_
        refine g_icmp_gt 85 d_X6_takeWord_41 (by decide) (fun h3 => ?_) (fun h3 => ?_)
        · skip
          (try simp only [lp_X6_takeWord_5, if_neg h1, if_neg h2, if_pos h3, opv_eq, if_true, if_false, Bool.false_eq_true, reduceCtorEq, b2i_t, b2i_f] at hj); exact hj
        · skip
          rw [if_neg h3] at hok
          refine g_aload_n0 rfl d_X6_takeWord_44 ?_
          refine g_aload_n0 rfl d_X6_takeWord_45 ?_
          refine g_getJ f_X6_238 d_X6_takeWord_46 rfl (Nat.le_of_ble_eq_true rfl) rfl ?_
          refine g_ldc2 (v := 32) (in2 216 (by decide +kernel) rfl) d_X6_takeWord_49 ?_
          refine g_lmul d_X6_takeWord_52 ?_
          refine g_aload_n0 rfl d_X6_takeWord_53 ?_
          refine g_getP (b := 1) f_X6_18 d_X6_takeWord_54 rfl (Nat.le_of_ble_eq_true rfl) rfl rfl ?_
          refine g_aload_n0 rfl d_X6_takeWord_57 ?_
          refine g_getI f_X6_46 d_X6_takeWord_58 rfl (Nat.le_of_ble_eq_true rfl) rfl ?_
          obtain ⟨ho3, hok⟩ := hok
          refine g_bald d_X6_takeWord_61 rfl (Nat.le_of_ble_eq_true rfl) ho3 ?_
          refine g_bipush 97 d_X6_takeWord_62 (by decide) ?_
          refine g_isub d_X6_takeWord_64 ?_
          refine g_iconst 1 d_X6_takeWord_65 (by decide) ?_
          refine g_iadd d_X6_takeWord_66 ?_
          refine g_i2l d_X6_takeWord_67 ?_
          refine g_ladd d_X6_takeWord_68 ?_
          refine g_putJ f_X6_238 d_X6_takeWord_69 rfl (Nat.le_of_ble_eq_true rfl) rfl rfl rfl ?_
          refine g_aload_n0 rfl d_X6_takeWord_72 ?_
          refine g_dup rfl d_X6_takeWord_73 ?_
          refine g_getI f_X6_46 d_X6_takeWord_74 rfl (Nat.le_of_ble_eq_true rfl) rfl ?_
          refine g_iconst 1 d_X6_takeWord_77 (by decide) ?_
          refine g_iadd d_X6_takeWord_78 ?_
          refine g_putI f_X6_46 d_X6_takeWord_79 rfl (Nat.le_of_ble_eq_true rfl) rfl rfl rfl ?_
          refine g_goto 5 d_X6_takeWord_82 (by decide) ?_
          exact ih (st2 I1 2 5 ((I1 2 5) + 1)) (stJ J1 2 8 (((J1 2 8) * 32) + ((((I1 1 (I1 2 5).toNatClampNeg) - 97) + 1).toInt64))) (Nat.lt_of_lt_of_le (by simpa [st2, va_up] using mu_up_lt h1) (Nat.le_of_lt_succ hmu)) (by (try simp only [if_neg h1, if_neg h2, if_neg h3, opv_eq, if_true, if_false, Bool.false_eq_true, reduceCtorEq, b2i_t, b2i_f] at hok); exact hok) (by (try simp only [lp_X6_takeWord_5, if_neg h1, if_neg h2, if_neg h3, opv_eq, if_true, if_false, Bool.false_eq_true, reduceCtorEq, b2i_t, b2i_f] at hj); exact hj)
noncomputable def u0_X6_takeWord (I : Nat → Nat → Int32) (J : Nat → Nat → Int64) : Int32 := opv (if ((((lp_X6_takeWord_5  (mu_up (I 2 4) (I 2 5) + 1) I (stJ J 2 8 0)).1) 2 5) - (((lp_X6_takeWord_5  (mu_up (I 2 4) (I 2 5) + 1) I (stJ J 2 8 0)).1) 2 7)) < 1 then 4 else (if 8 < ((((lp_X6_takeWord_5  (mu_up (I 2 4) (I 2 5) + 1) I (stJ J 2 8 0)).1) 2 5) - (((lp_X6_takeWord_5  (mu_up (I 2 4) (I 2 5) + 1) I (stJ J 2 8 0)).1) 2 7)) then 4 else 1))
noncomputable def m_X6_takeWord (I : Nat → Nat → Int32) (J : Nat → Nat → Int64)  : Nat → Nat → Int32 := opv (st2 ((lp_X6_takeWord_5  (mu_up (I 2 4) (I 2 5) + 1) I (stJ J 2 8 0)).1) 2 6 (u0_X6_takeWord I J))
noncomputable def j_X6_takeWord (I : Nat → Nat → Int32) (J : Nat → Nat → Int64)  : Nat → Nat → Int64 := opv ((lp_X6_takeWord_5  (mu_up (I 2 4) (I 2 5) + 1) I (stJ J 2 8 0)).2)
noncomputable def ok_X6_takeWord (I : Nat → Nat → Int32) (J : Nat → Nat → Int64)  : Prop := opv (oklp_X6_takeWord_5  (mu_up (I 2 4) (I 2 5) + 1) I (stJ J 2 8 0))
set_option maxHeartbeats 800000 in
set_option maxRecDepth 4000 in
theorem c_X6_takeWord {k : KT} {ex : Bool} {w : Bool} (I : Nat → Nat → Int32) (J : Nat → Nat → Int64)   (hok : ok_X6_takeWord I J) : Cx k mX6_takeWord 1 [.ref (ka k 2)] (81, ex, I, J, Pw w) none (81, ex, m_X6_takeWord I J, j_X6_takeWord I J, Pw w) := by
  refine Ct.of rfl [some (.ref (ka k 2)), none] rfl rfl (Nat.le_of_ble_eq_true rfl) ?_
  rw [ok_X6_takeWord, opv_eq] at hok
  refine g_aload_n0 rfl d_X6_takeWord_0 ?_
  refine g_lconst 0 d_X6_takeWord_1 (by decide) ?_
  refine g_putJ f_X6_238 d_X6_takeWord_2 rfl (Nat.le_of_ble_eq_true rfl) rfl rfl rfl ?_
  refine k_lp_X6_takeWord_5  _ I (stJ J 2 8 0) (Nat.lt_succ_self _) hok ?_
  refine g_aload_n0 rfl d_X6_takeWord_85 ?_
  refine g_getI f_X6_46 d_X6_takeWord_86 rfl (Nat.le_of_ble_eq_true rfl) rfl ?_
  refine g_aload_n0 rfl d_X6_takeWord_89 ?_
  refine g_getI f_X6_216 d_X6_takeWord_90 rfl (Nat.le_of_ble_eq_true rfl) rfl ?_
  refine g_isub d_X6_takeWord_93 ?_
  refine g_isn1 rfl d_X6_takeWord_94 ?_
  refine g_aload_n0 rfl d_X6_takeWord_95 ?_
  refine g_iload_n1 rfl d_X6_takeWord_96 ?_
  refine g_iconst 1 d_X6_takeWord_97 (by decide) ?_
  refine g_cut (pc' := 112) (vs' := [some (.ref (ka k 2)), some (.int ((((lp_X6_takeWord_5  (mu_up (I 2 4) (I 2 5) + 1) I (stJ J 2 8 0)).1) 2 5) - (((lp_X6_takeWord_5  (mu_up (I 2 4) (I 2 5) + 1) I (stJ J 2 8 0)).1) 2 7)))]) (st' := [.int (u0_X6_takeWord I J), .ref (ka k 2)]) (M' := (81, ex, (lp_X6_takeWord_5  (mu_up (I 2 4) (I 2 5) + 1) I (stJ J 2 8 0)).1, (lp_X6_takeWord_5  (mu_up (I 2 4) (I 2 5) + 1) I (stJ J 2 8 0)).2, Pw w)) (fun hj => ?_) ?_
  · skip
    refine g_icmp_lt 111 d_X6_takeWord_98 (by decide) (fun h4 => ?_) (fun h4 => ?_)
    · skip
      refine g_iconst 4 d_X6_takeWord_111 (by decide) ?_
      (try simp only [if_pos h4, opv_eq, if_true, if_false, Bool.false_eq_true, reduceCtorEq, b2i_t, b2i_f, u0_X6_takeWord] at hj); exact hj
    · skip
      refine g_iload_n1 rfl d_X6_takeWord_101 ?_
      refine g_bipush 8 d_X6_takeWord_102 (by decide) ?_
      refine g_icmp_gt 111 d_X6_takeWord_104 (by decide) (fun h5 => ?_) (fun h5 => ?_)
      · skip
        refine g_iconst 4 d_X6_takeWord_111 (by decide) ?_
        (try simp only [if_neg h4, if_pos h5, opv_eq, if_true, if_false, Bool.false_eq_true, reduceCtorEq, b2i_t, b2i_f, u0_X6_takeWord] at hj); exact hj
      · skip
        refine g_iconst 1 d_X6_takeWord_107 (by decide) ?_
        refine g_goto 112 d_X6_takeWord_108 (by decide) ?_
        (try simp only [if_neg h4, if_neg h5, opv_eq, if_true, if_false, Bool.false_eq_true, reduceCtorEq, b2i_t, b2i_f, u0_X6_takeWord] at hj); exact hj
  · skip
    refine g_putI f_X6_69 d_X6_takeWord_112 rfl (Nat.le_of_ble_eq_true rfl) rfl rfl rfl ?_
    exact g_vret rfl d_X6_takeWord_115 ⟨rfl, by simp only [m_X6_takeWord, j_X6_takeWord, opv_eq, if_true, if_false, Bool.false_eq_true, reduceCtorEq, b2i_t, b2i_f]⟩ (Nat.le_refl _) (Nat.le_refl _)
noncomputable def lp_X6_takeWhole_5  : Nat → (Nat → Nat → Int32) → (Nat → Nat → Int32)
  | 0, I1 => I1
  | n + 1, I1 => (if (I1 2 4) ≤ (I1 2 5) then I1 else (if (I1 1 (I1 2 5).toNatClampNeg) < 48 then I1 else (if 57 < (I1 1 (I1 2 5).toNatClampNeg) then I1 else (lp_X6_takeWhole_5  n (st2 (st2 I1 2 9 (((I1 2 9) * 10) + ((I1 1 (I1 2 5).toNatClampNeg) - 48))) 2 5 ((I1 2 5) + 1))))))
def oklp_X6_takeWhole_5  : Nat → (Nat → Nat → Int32) → Prop
  | 0, I1 => True
  | n + 1, I1 => (if (I1 2 4) ≤ (I1 2 5) then True else (vp_in (I1 2 5) (sz 1) ∧ (if (I1 1 (I1 2 5).toNatClampNeg) < 48 then True else (vp_in (I1 2 5) (sz 1) ∧ (if 57 < (I1 1 (I1 2 5).toNatClampNeg) then True else (vp_in (I1 2 5) (sz 1) ∧ oklp_X6_takeWhole_5  n (st2 (st2 I1 2 9 (((I1 2 9) * 10) + ((I1 1 (I1 2 5).toNatClampNeg) - 48))) 2 5 ((I1 2 5) + 1))))))))
set_option maxHeartbeats 800000 in
set_option maxRecDepth 4000 in
theorem k_lp_X6_takeWhole_5 {k : KT} {ex : Bool} {J : Nat → Nat → Int64} {w : Bool}  {F : FinT} : ∀ (n : Nat) (I1 : (Nat → Nat → Int32)), mu_up (I1 2 4) (I1 2 5) < n → oklp_X6_takeWhole_5  n I1 → G k mX6_takeWhole (roomOf 1 0 0) F 0 0 81 [some (.ref (ka k 2))] [] (81, ex, (lp_X6_takeWhole_5  n I1), J, Pw w) → G k mX6_takeWhole (roomOf 1 0 0) F 0 0 5 [some (.ref (ka k 2))] [] (81, ex, I1, J, Pw w) := by
  intro n
  induction n with
  | zero => intro I1 hmu hok hj; exact absurd hmu (Nat.not_lt_zero _)
  | succ n ih =>
    intro I1 hmu hok hj
    rw [oklp_X6_takeWhole_5] at hok
    refine g_aload_n0 rfl d_X6_takeWhole_5 ?_
    refine g_getI f_X6_46 d_X6_takeWhole_6 rfl (Nat.le_of_ble_eq_true rfl) rfl ?_
    refine g_aload_n0 rfl d_X6_takeWhole_9 ?_
    refine g_getI f_X6_40 d_X6_takeWhole_10 rfl (Nat.le_of_ble_eq_true rfl) rfl ?_
    refine g_icmp_ge 81 d_X6_takeWhole_13 (by decide) (fun h1 => ?_) (fun h1 => ?_)
    · skip
      (try simp only [lp_X6_takeWhole_5, if_pos h1, opv_eq, if_true, if_false, Bool.false_eq_true, reduceCtorEq, b2i_t, b2i_f] at hj); exact hj
    · skip
      rw [if_neg h1] at hok
      refine g_aload_n0 rfl d_X6_takeWhole_16 ?_
      refine g_getP (b := 1) f_X6_18 d_X6_takeWhole_17 rfl (Nat.le_of_ble_eq_true rfl) rfl rfl ?_
      refine g_aload_n0 rfl d_X6_takeWhole_20 ?_
      refine g_getI f_X6_46 d_X6_takeWhole_21 rfl (Nat.le_of_ble_eq_true rfl) rfl ?_
      obtain ⟨ho1, hok⟩ := hok
      refine g_bald d_X6_takeWhole_24 rfl (Nat.le_of_ble_eq_true rfl) ho1 ?_
      refine g_bipush 48 d_X6_takeWhole_25 (by decide) ?_
      refine g_icmp_lt 81 d_X6_takeWhole_27 (by decide) (fun h2 => ?_) (fun h2 => ?_)
      · skip
        (try simp only [lp_X6_takeWhole_5, if_neg h1, if_pos h2, opv_eq, if_true, if_false, Bool.false_eq_true, reduceCtorEq, b2i_t, b2i_f] at hj); exact hj
      · skip
        rw [if_neg h2] at hok
        refine g_aload_n0 rfl d_X6_takeWhole_30 ?_
        refine g_getP (b := 1) f_X6_18 d_X6_takeWhole_31 rfl (Nat.le_of_ble_eq_true rfl) rfl rfl ?_
        refine g_aload_n0 rfl d_X6_takeWhole_34 ?_
        refine g_getI f_X6_46 d_X6_takeWhole_35 rfl (Nat.le_of_ble_eq_true rfl) rfl ?_
        obtain ⟨ho2, hok⟩ := hok
        refine g_bald d_X6_takeWhole_38 rfl (Nat.le_of_ble_eq_true rfl) ho2 ?_
        refine g_bipush 57 d_X6_takeWhole_39 (by decide) ?_
        refine g_icmp_gt 81 d_X6_takeWhole_41 (by decide) (fun h3 => ?_) (fun h3 => ?_)
        · skip
          (try simp only [lp_X6_takeWhole_5, if_neg h1, if_neg h2, if_pos h3, opv_eq, if_true, if_false, Bool.false_eq_true, reduceCtorEq, b2i_t, b2i_f] at hj); exact hj
        · skip
          rw [if_neg h3] at hok
          refine g_aload_n0 rfl d_X6_takeWhole_44 ?_
          refine g_aload_n0 rfl d_X6_takeWhole_45 ?_
          refine g_getI f_X6_147 d_X6_takeWhole_46 rfl (Nat.le_of_ble_eq_true rfl) rfl ?_
          refine g_bipush 10 d_X6_takeWhole_49 (by decide) ?_
          refine g_imul d_X6_takeWhole_51 ?_
          refine g_aload_n0 rfl d_X6_takeWhole_52 ?_
          refine g_getP (b := 1) f_X6_18 d_X6_takeWhole_53 rfl (Nat.le_of_ble_eq_true rfl) rfl rfl ?_
          refine g_aload_n0 rfl d_X6_takeWhole_56 ?_
          refine g_getI f_X6_46 d_X6_takeWhole_57 rfl (Nat.le_of_ble_eq_true rfl) rfl ?_
          obtain ⟨ho3, hok⟩ := hok
          refine g_bald d_X6_takeWhole_60 rfl (Nat.le_of_ble_eq_true rfl) ho3 ?_
          refine g_bipush 48 d_X6_takeWhole_61 (by decide) ?_
          refine g_isub d_X6_takeWhole_63 ?_
          refine g_iadd d_X6_takeWhole_64 ?_
          refine g_putI f_X6_147 d_X6_takeWhole_65 rfl (Nat.le_of_ble_eq_true rfl) rfl rfl rfl ?_
          refine g_aload_n0 rfl d_X6_takeWhole_68 ?_
          refine g_dup rfl d_X6_takeWhole_69 ?_
          refine g_getIv (I1 2 5) (st2_o _ _ _ (by decide)) f_X6_46 d_X6_takeWhole_70 rfl (Nat.le_of_ble_eq_true rfl) rfl ?_
          refine g_iconst 1 d_X6_takeWhole_73 (by decide) ?_
          refine g_iadd d_X6_takeWhole_74 ?_
          refine g_putI f_X6_46 d_X6_takeWhole_75 rfl (Nat.le_of_ble_eq_true rfl) rfl rfl rfl ?_
          refine g_goto 5 d_X6_takeWhole_78 (by decide) ?_
          exact ih (st2 (st2 I1 2 9 (((I1 2 9) * 10) + ((I1 1 (I1 2 5).toNatClampNeg) - 48))) 2 5 ((I1 2 5) + 1)) (Nat.lt_of_lt_of_le (by simpa [st2, va_up] using mu_up_lt h1) (Nat.le_of_lt_succ hmu)) (by (try simp only [if_neg h1, if_neg h2, if_neg h3, opv_eq, if_true, if_false, Bool.false_eq_true, reduceCtorEq, b2i_t, b2i_f] at hok); exact hok) (by (try simp only [lp_X6_takeWhole_5, if_neg h1, if_neg h2, if_neg h3, opv_eq, if_true, if_false, Bool.false_eq_true, reduceCtorEq, b2i_t, b2i_f] at hj); exact hj)
noncomputable def u0_X6_takeWhole (I : Nat → Nat → Int32) : Int32 := opv (if 3 < (((lp_X6_takeWhole_5  (mu_up ((st2 I 2 9 0) 2 4) ((st2 I 2 9 0) 2 5) + 1) (st2 I 2 9 0)) 2 5) - ((lp_X6_takeWhole_5  (mu_up ((st2 I 2 9 0) 2 4) ((st2 I 2 9 0) 2 5) + 1) (st2 I 2 9 0)) 2 7)) then 4 else 2)
noncomputable def m_X6_takeWhole (I : Nat → Nat → Int32)  : Nat → Nat → Int32 := opv (st2 (lp_X6_takeWhole_5  (mu_up ((st2 I 2 9 0) 2 4) ((st2 I 2 9 0) 2 5) + 1) (st2 I 2 9 0)) 2 6 (u0_X6_takeWhole I))
noncomputable def ok_X6_takeWhole (I : Nat → Nat → Int32)  : Prop := opv (oklp_X6_takeWhole_5  (mu_up ((st2 I 2 9 0) 2 4) ((st2 I 2 9 0) 2 5) + 1) (st2 I 2 9 0))
set_option maxHeartbeats 800000 in
set_option maxRecDepth 4000 in
theorem c_X6_takeWhole {k : KT} {ex : Bool} {J : Nat → Nat → Int64} {w : Bool} (I : Nat → Nat → Int32)   (hok : ok_X6_takeWhole I) : Cx k mX6_takeWhole 1 [.ref (ka k 2)] (81, ex, I, J, Pw w) none (81, ex, m_X6_takeWhole I, J, Pw w) := by
  refine Ct.of rfl [some (.ref (ka k 2))] rfl rfl (Nat.le_of_ble_eq_true rfl) ?_
  rw [ok_X6_takeWhole, opv_eq] at hok
  refine g_aload_n0 rfl d_X6_takeWhole_0 ?_
  refine g_iconst 0 d_X6_takeWhole_1 (by decide) ?_
  refine g_putI f_X6_147 d_X6_takeWhole_2 rfl (Nat.le_of_ble_eq_true rfl) rfl rfl rfl ?_
  refine k_lp_X6_takeWhole_5  _ (st2 I 2 9 0) (Nat.lt_succ_self _) hok ?_
  refine g_aload_n0 rfl d_X6_takeWhole_81 ?_
  refine g_aload_n0 rfl d_X6_takeWhole_82 ?_
  refine g_getI f_X6_46 d_X6_takeWhole_83 rfl (Nat.le_of_ble_eq_true rfl) rfl ?_
  refine g_aload_n0 rfl d_X6_takeWhole_86 ?_
  refine g_getI f_X6_216 d_X6_takeWhole_87 rfl (Nat.le_of_ble_eq_true rfl) rfl ?_
  refine g_isub d_X6_takeWhole_90 ?_
  refine g_iconst 3 d_X6_takeWhole_91 (by decide) ?_
  refine g_cut (pc' := 100) (vs' := [some (.ref (ka k 2))]) (st' := [.int (u0_X6_takeWhole I), .ref (ka k 2)]) (M' := (81, ex, (lp_X6_takeWhole_5  (mu_up ((st2 I 2 9 0) 2 4) ((st2 I 2 9 0) 2 5) + 1) (st2 I 2 9 0)), J, Pw w)) (fun hj => ?_) ?_
  · skip
    refine g_icmp_gt 99 d_X6_takeWhole_92 (by decide) (fun h4 => ?_) (fun h4 => ?_)
    · skip
      refine g_iconst 4 d_X6_takeWhole_99 (by decide) ?_
      (try simp only [if_pos h4, opv_eq, if_true, if_false, Bool.false_eq_true, reduceCtorEq, b2i_t, b2i_f, u0_X6_takeWhole] at hj); exact hj
    · skip
      refine g_iconst 2 d_X6_takeWhole_95 (by decide) ?_
      refine g_goto 100 d_X6_takeWhole_96 (by decide) ?_
      (try simp only [if_neg h4, opv_eq, if_true, if_false, Bool.false_eq_true, reduceCtorEq, b2i_t, b2i_f, u0_X6_takeWhole] at hj); exact hj
  · skip
    refine g_putI f_X6_69 d_X6_takeWhole_100 rfl (Nat.le_of_ble_eq_true rfl) rfl rfl rfl ?_
    exact g_vret rfl d_X6_takeWhole_103 ⟨rfl, by simp only [m_X6_takeWhole, opv_eq, if_true, if_false, Bool.false_eq_true, reduceCtorEq, b2i_t, b2i_f]⟩ (Nat.le_refl _) (Nat.le_refl _)
noncomputable def lp_X6_nextToken_0 (J : Nat → Nat → Int64) : Nat → (Nat → Nat → Int32) → (Nat → Nat → Int32)
  | 0, I1 => I1
  | n + 1, I1 => (if (I1 2 4) ≤ (I1 2 5) then I1 else (if (I1 1 (I1 2 5).toNatClampNeg) = 32 then (lp_X6_nextToken_0 J n (st2 I1 2 5 ((I1 2 5) + 1))) else I1))
def oklp_X6_nextToken_0 (J : Nat → Nat → Int64) : Nat → (Nat → Nat → Int32) → Prop
  | 0, I1 => True
  | n + 1, I1 => (if (I1 2 4) ≤ (I1 2 5) then True else (vp_in (I1 2 5) (sz 1) ∧ (if (I1 1 (I1 2 5).toNatClampNeg) = 32 then oklp_X6_nextToken_0 J n (st2 I1 2 5 ((I1 2 5) + 1)) else True)))
set_option maxHeartbeats 800000 in
set_option maxRecDepth 4000 in
theorem k_lp_X6_nextToken_0 {k : KT} {ex : Bool} {w : Bool} (J : Nat → Nat → Int64) {F : FinT} : ∀ (n : Nat) (I1 : (Nat → Nat → Int32)), mu_up (I1 2 4) (I1 2 5) < n → oklp_X6_nextToken_0 J n I1 → G k mX6_nextToken (roomOf 2 0 0) F 0 0 38 [some (.ref (ka k 2))] [] (81, ex, (lp_X6_nextToken_0 J n I1), J, Pw w) → G k mX6_nextToken (roomOf 2 0 0) F 0 0 0 [some (.ref (ka k 2))] [] (81, ex, I1, J, Pw w) := by
  intro n
  induction n with
  | zero => intro I1 hmu hok hj; exact absurd hmu (Nat.not_lt_zero _)
  | succ n ih =>
    intro I1 hmu hok hj
    rw [oklp_X6_nextToken_0] at hok
    refine g_aload_n0 rfl d_X6_nextToken_0 ?_
    refine g_getI f_X6_46 d_X6_nextToken_1 rfl (Nat.le_of_ble_eq_true rfl) rfl ?_
    refine g_aload_n0 rfl d_X6_nextToken_4 ?_
    refine g_getI f_X6_40 d_X6_nextToken_5 rfl (Nat.le_of_ble_eq_true rfl) rfl ?_
    refine g_icmp_ge 38 d_X6_nextToken_8 (by decide) (fun h1 => ?_) (fun h1 => ?_)
    · skip
      (try simp only [lp_X6_nextToken_0, if_pos h1, opv_eq, if_true, if_false, Bool.false_eq_true, reduceCtorEq, b2i_t, b2i_f] at hj); exact hj
    · skip
      rw [if_neg h1] at hok
      refine g_aload_n0 rfl d_X6_nextToken_11 ?_
      refine g_getP (b := 1) f_X6_18 d_X6_nextToken_12 rfl (Nat.le_of_ble_eq_true rfl) rfl rfl ?_
      refine g_aload_n0 rfl d_X6_nextToken_15 ?_
      refine g_getI f_X6_46 d_X6_nextToken_16 rfl (Nat.le_of_ble_eq_true rfl) rfl ?_
      obtain ⟨ho1, hok⟩ := hok
      refine g_bald d_X6_nextToken_19 rfl (Nat.le_of_ble_eq_true rfl) ho1 ?_
      refine g_bipush 32 d_X6_nextToken_20 (by decide) ?_
      refine g_icmp_ne 38 d_X6_nextToken_22 (by decide) (fun h2 => ?_) (fun h2 => ?_)
      · skip
        (try simp only [lp_X6_nextToken_0, if_neg h1, if_neg h2, opv_eq, if_true, if_false, Bool.false_eq_true, reduceCtorEq, b2i_t, b2i_f] at hj); exact hj
      · skip
        rw [if_pos h2] at hok
        refine g_aload_n0 rfl d_X6_nextToken_25 ?_
        refine g_dup rfl d_X6_nextToken_26 ?_
        refine g_getI f_X6_46 d_X6_nextToken_27 rfl (Nat.le_of_ble_eq_true rfl) rfl ?_
        refine g_iconst 1 d_X6_nextToken_30 (by decide) ?_
        refine g_iadd d_X6_nextToken_31 ?_
        refine g_putI f_X6_46 d_X6_nextToken_32 rfl (Nat.le_of_ble_eq_true rfl) rfl rfl rfl ?_
        refine g_goto 0 d_X6_nextToken_35 (by decide) ?_
        exact ih (st2 I1 2 5 ((I1 2 5) + 1)) (Nat.lt_of_lt_of_le (by simpa [st2, va_up] using mu_up_lt h1) (Nat.le_of_lt_succ hmu)) (by (try simp only [if_neg h1, if_pos h2, opv_eq, if_true, if_false, Bool.false_eq_true, reduceCtorEq, b2i_t, b2i_f] at hok); exact hok) (by (try simp only [lp_X6_nextToken_0, if_neg h1, if_pos h2, opv_eq, if_true, if_false, Bool.false_eq_true, reduceCtorEq, b2i_t, b2i_f] at hj); exact hj)
noncomputable def u0_X6_nextToken (I : Nat → Nat → Int32) (J : Nat → Nat → Int64) : Nat → Nat → Int32 := opv (m_X6_takeWord (st2 (lp_X6_nextToken_0 J (mu_up (I 2 4) (I 2 5) + 1) I) 2 7 ((lp_X6_nextToken_0 J (mu_up (I 2 4) (I 2 5) + 1) I) 2 5)) J)
noncomputable def u1_X6_nextToken (I : Nat → Nat → Int32) (J : Nat → Nat → Int64) : Nat → Nat → Int64 := opv (j_X6_takeWord (st2 (lp_X6_nextToken_0 J (mu_up (I 2 4) (I 2 5) + 1) I) 2 7 ((lp_X6_nextToken_0 J (mu_up (I 2 4) (I 2 5) + 1) I) 2 5)) J)
noncomputable def u2_X6_nextToken (I : Nat → Nat → Int32) (J : Nat → Nat → Int64) : Nat → Nat → Int32 := opv (m_X6_takeWord (st2 (lp_X6_nextToken_0 J (mu_up (I 2 4) (I 2 5) + 1) I) 2 7 ((lp_X6_nextToken_0 J (mu_up (I 2 4) (I 2 5) + 1) I) 2 5)) J)
noncomputable def u3_X6_nextToken (I : Nat → Nat → Int32) (J : Nat → Nat → Int64) : Nat → Nat → Int64 := opv (j_X6_takeWord (st2 (lp_X6_nextToken_0 J (mu_up (I 2 4) (I 2 5) + 1) I) 2 7 ((lp_X6_nextToken_0 J (mu_up (I 2 4) (I 2 5) + 1) I) 2 5)) J)
noncomputable def u4_X6_nextToken (I : Nat → Nat → Int32) (J : Nat → Nat → Int64) : Nat → Nat → Int32 := opv (m_X6_takeWhole (st2 (lp_X6_nextToken_0 J (mu_up (I 2 4) (I 2 5) + 1) I) 2 7 ((lp_X6_nextToken_0 J (mu_up (I 2 4) (I 2 5) + 1) I) 2 5)))
noncomputable def u5_X6_nextToken (I : Nat → Nat → Int32) (J : Nat → Nat → Int64) : Nat → Nat → Int32 := opv (if ((lp_X6_nextToken_0 J (mu_up (I 2 4) (I 2 5) + 1) I) 2 5) < ((lp_X6_nextToken_0 J (mu_up (I 2 4) (I 2 5) + 1) I) 2 4) then (if ((st2 (lp_X6_nextToken_0 J (mu_up (I 2 4) (I 2 5) + 1) I) 2 7 ((lp_X6_nextToken_0 J (mu_up (I 2 4) (I 2 5) + 1) I) 2 5)) 1 ((lp_X6_nextToken_0 J (mu_up (I 2 4) (I 2 5) + 1) I) 2 5).toNatClampNeg) = 59 then (st2 (st2 (st2 (lp_X6_nextToken_0 J (mu_up (I 2 4) (I 2 5) + 1) I) 2 7 ((lp_X6_nextToken_0 J (mu_up (I 2 4) (I 2 5) + 1) I) 2 5)) 2 6 3) 2 5 (((lp_X6_nextToken_0 J (mu_up (I 2 4) (I 2 5) + 1) I) 2 5) + 1)) else (if ((st2 (lp_X6_nextToken_0 J (mu_up (I 2 4) (I 2 5) + 1) I) 2 7 ((lp_X6_nextToken_0 J (mu_up (I 2 4) (I 2 5) + 1) I) 2 5)) 1 ((lp_X6_nextToken_0 J (mu_up (I 2 4) (I 2 5) + 1) I) 2 5).toNatClampNeg) < 48 then (u0_X6_nextToken I J) else (if 57 < ((st2 (lp_X6_nextToken_0 J (mu_up (I 2 4) (I 2 5) + 1) I) 2 7 ((lp_X6_nextToken_0 J (mu_up (I 2 4) (I 2 5) + 1) I) 2 5)) 1 ((lp_X6_nextToken_0 J (mu_up (I 2 4) (I 2 5) + 1) I) 2 5).toNatClampNeg) then (u2_X6_nextToken I J) else (u4_X6_nextToken I J)))) else (st2 (st2 (lp_X6_nextToken_0 J (mu_up (I 2 4) (I 2 5) + 1) I) 2 7 ((lp_X6_nextToken_0 J (mu_up (I 2 4) (I 2 5) + 1) I) 2 5)) 2 6 0))
noncomputable def u6_X6_nextToken (I : Nat → Nat → Int32) (J : Nat → Nat → Int64) : Nat → Nat → Int64 := opv (if ((lp_X6_nextToken_0 J (mu_up (I 2 4) (I 2 5) + 1) I) 2 5) < ((lp_X6_nextToken_0 J (mu_up (I 2 4) (I 2 5) + 1) I) 2 4) then (if ((st2 (lp_X6_nextToken_0 J (mu_up (I 2 4) (I 2 5) + 1) I) 2 7 ((lp_X6_nextToken_0 J (mu_up (I 2 4) (I 2 5) + 1) I) 2 5)) 1 ((lp_X6_nextToken_0 J (mu_up (I 2 4) (I 2 5) + 1) I) 2 5).toNatClampNeg) = 59 then J else (if ((st2 (lp_X6_nextToken_0 J (mu_up (I 2 4) (I 2 5) + 1) I) 2 7 ((lp_X6_nextToken_0 J (mu_up (I 2 4) (I 2 5) + 1) I) 2 5)) 1 ((lp_X6_nextToken_0 J (mu_up (I 2 4) (I 2 5) + 1) I) 2 5).toNatClampNeg) < 48 then (u1_X6_nextToken I J) else (if 57 < ((st2 (lp_X6_nextToken_0 J (mu_up (I 2 4) (I 2 5) + 1) I) 2 7 ((lp_X6_nextToken_0 J (mu_up (I 2 4) (I 2 5) + 1) I) 2 5)) 1 ((lp_X6_nextToken_0 J (mu_up (I 2 4) (I 2 5) + 1) I) 2 5).toNatClampNeg) then (u3_X6_nextToken I J) else J))) else J)
noncomputable def m_X6_nextToken (I : Nat → Nat → Int32) (J : Nat → Nat → Int64)  : Nat → Nat → Int32 := opv (u5_X6_nextToken I J)
noncomputable def j_X6_nextToken (I : Nat → Nat → Int32) (J : Nat → Nat → Int64)  : Nat → Nat → Int64 := opv (u6_X6_nextToken I J)
noncomputable def ok_X6_nextToken (I : Nat → Nat → Int32) (J : Nat → Nat → Int64)  : Prop := opv (oklp_X6_nextToken_0 J (mu_up (I 2 4) (I 2 5) + 1) I ∧ (if ((lp_X6_nextToken_0 J (mu_up (I 2 4) (I 2 5) + 1) I) 2 5) < ((lp_X6_nextToken_0 J (mu_up (I 2 4) (I 2 5) + 1) I) 2 4) then (vp_in ((lp_X6_nextToken_0 J (mu_up (I 2 4) (I 2 5) + 1) I) 2 5) (sz 1) ∧ (if ((st2 (lp_X6_nextToken_0 J (mu_up (I 2 4) (I 2 5) + 1) I) 2 7 ((lp_X6_nextToken_0 J (mu_up (I 2 4) (I 2 5) + 1) I) 2 5)) 1 ((lp_X6_nextToken_0 J (mu_up (I 2 4) (I 2 5) + 1) I) 2 5).toNatClampNeg) = 59 then True else (vp_in ((lp_X6_nextToken_0 J (mu_up (I 2 4) (I 2 5) + 1) I) 2 5) (sz 1) ∧ (if ((st2 (lp_X6_nextToken_0 J (mu_up (I 2 4) (I 2 5) + 1) I) 2 7 ((lp_X6_nextToken_0 J (mu_up (I 2 4) (I 2 5) + 1) I) 2 5)) 1 ((lp_X6_nextToken_0 J (mu_up (I 2 4) (I 2 5) + 1) I) 2 5).toNatClampNeg) < 48 then ok_X6_takeWord (st2 (lp_X6_nextToken_0 J (mu_up (I 2 4) (I 2 5) + 1) I) 2 7 ((lp_X6_nextToken_0 J (mu_up (I 2 4) (I 2 5) + 1) I) 2 5)) J else (vp_in ((lp_X6_nextToken_0 J (mu_up (I 2 4) (I 2 5) + 1) I) 2 5) (sz 1) ∧ (if 57 < ((st2 (lp_X6_nextToken_0 J (mu_up (I 2 4) (I 2 5) + 1) I) 2 7 ((lp_X6_nextToken_0 J (mu_up (I 2 4) (I 2 5) + 1) I) 2 5)) 1 ((lp_X6_nextToken_0 J (mu_up (I 2 4) (I 2 5) + 1) I) 2 5).toNatClampNeg) then ok_X6_takeWord (st2 (lp_X6_nextToken_0 J (mu_up (I 2 4) (I 2 5) + 1) I) 2 7 ((lp_X6_nextToken_0 J (mu_up (I 2 4) (I 2 5) + 1) I) 2 5)) J else ok_X6_takeWhole (st2 (lp_X6_nextToken_0 J (mu_up (I 2 4) (I 2 5) + 1) I) 2 7 ((lp_X6_nextToken_0 J (mu_up (I 2 4) (I 2 5) + 1) I) 2 5)))))))) else True))
set_option maxHeartbeats 800000 in
set_option maxRecDepth 4000 in
theorem c_X6_nextToken {k : KT} {ex : Bool} {w : Bool} (I : Nat → Nat → Int32) (J : Nat → Nat → Int64)   (hok : ok_X6_nextToken I J) : Cx k mX6_nextToken 2 [.ref (ka k 2)] (81, ex, I, J, Pw w) none (81, ex, m_X6_nextToken I J, j_X6_nextToken I J, Pw w) := by
  refine Ct.of rfl [some (.ref (ka k 2))] rfl rfl (Nat.le_of_ble_eq_true rfl) ?_
  rw [ok_X6_nextToken, opv_eq] at hok
  obtain ⟨hol, hok⟩ := hok
  refine k_lp_X6_nextToken_0 J _ I (Nat.lt_succ_self _) hol ?_
  refine g_aload_n0 rfl d_X6_nextToken_38 ?_
  refine g_aload_n0 rfl d_X6_nextToken_39 ?_
  refine g_getI f_X6_46 d_X6_nextToken_40 rfl (Nat.le_of_ble_eq_true rfl) rfl ?_
  refine g_putI f_X6_216 d_X6_nextToken_43 rfl (Nat.le_of_ble_eq_true rfl) rfl rfl rfl ?_
  refine g_aload_n0 rfl d_X6_nextToken_46 ?_
  refine g_getIv ((lp_X6_nextToken_0 J (mu_up (I 2 4) (I 2 5) + 1) I) 2 5) (st2_o _ _ _ (by decide)) f_X6_46 d_X6_nextToken_47 rfl (Nat.le_of_ble_eq_true rfl) rfl ?_
  refine g_aload_n0 rfl d_X6_nextToken_50 ?_
  refine g_getIv ((lp_X6_nextToken_0 J (mu_up (I 2 4) (I 2 5) + 1) I) 2 4) (st2_o _ _ _ (by decide)) f_X6_40 d_X6_nextToken_51 rfl (Nat.le_of_ble_eq_true rfl) rfl ?_
  refine g_cut (pc' := 136) (vs' := [some (.ref (ka k 2))]) (st' := []) (M' := (81, ex, (u5_X6_nextToken I J), (u6_X6_nextToken I J), Pw w)) (fun hj => ?_) ?_
  · skip
    refine g_icmp_lt 65 d_X6_nextToken_54 (by decide) (fun h3 => ?_) (fun h3 => ?_)
    · skip
      rw [if_pos h3] at hok
      refine g_aload_n0 rfl d_X6_nextToken_65 ?_
      refine g_getP (b := 1) f_X6_18 d_X6_nextToken_66 rfl (Nat.le_of_ble_eq_true rfl) rfl rfl ?_
      refine g_aload_n0 rfl d_X6_nextToken_69 ?_
      refine g_getIv ((lp_X6_nextToken_0 J (mu_up (I 2 4) (I 2 5) + 1) I) 2 5) (st2_o _ _ _ (by decide)) f_X6_46 d_X6_nextToken_70 rfl (Nat.le_of_ble_eq_true rfl) rfl ?_
      obtain ⟨ho2, hok⟩ := hok
      refine g_bald d_X6_nextToken_73 rfl (Nat.le_of_ble_eq_true rfl) ho2 ?_
      refine g_bipush 59 d_X6_nextToken_74 (by decide) ?_
      refine g_icmp_ne 97 d_X6_nextToken_76 (by decide) (fun h4 => ?_) (fun h4 => ?_)
      · skip
        rw [if_neg h4] at hok
        refine g_aload_n0 rfl d_X6_nextToken_97 ?_
        refine g_getP (b := 1) f_X6_18 d_X6_nextToken_98 rfl (Nat.le_of_ble_eq_true rfl) rfl rfl ?_
        refine g_aload_n0 rfl d_X6_nextToken_101 ?_
        refine g_getIv ((lp_X6_nextToken_0 J (mu_up (I 2 4) (I 2 5) + 1) I) 2 5) (st2_o _ _ _ (by decide)) f_X6_46 d_X6_nextToken_102 rfl (Nat.le_of_ble_eq_true rfl) rfl ?_
        obtain ⟨ho3, hok⟩ := hok
        refine g_bald d_X6_nextToken_105 rfl (Nat.le_of_ble_eq_true rfl) ho3 ?_
        refine g_bipush 48 d_X6_nextToken_106 (by decide) ?_
        refine g_icmp_lt 132 d_X6_nextToken_108 (by decide) (fun h5 => ?_) (fun h5 => ?_)
        · skip
          rw [if_pos h5] at hok
          refine g_aload_n0 rfl d_X6_nextToken_132 ?_
          have ho4 := hok
          refine g_callV0 (c_X6_takeWord (st2 (lp_X6_nextToken_0 J (mu_up (I 2 4) (I 2 5) + 1) I) 2 7 ((lp_X6_nextToken_0 J (mu_up (I 2 4) (I 2 5) + 1) I) 2 5)) J  ho4) w_X6_takeWord l_X6_257 d_X6_nextToken_133 rfl (Nat.le_of_ble_eq_true rfl) rfl rfl (Nat.le_of_ble_eq_true rfl) ⟨Nat.le_of_ble_eq_true rfl, Nat.le_of_ble_eq_true rfl⟩ ⟨Nat.zero_le _, Nat.zero_le _⟩ ⟨rfl, rfl⟩ ?_
          refine G.toI (I' := (u0_X6_nextToken I J)) (by rw [u0_X6_nextToken, opv_eq]) ?_
          refine G.toJ (J' := (u1_X6_nextToken I J)) (by rw [u1_X6_nextToken, opv_eq]) ?_
          (try simp only [if_pos h3, if_neg h4, if_pos h5, opv_eq, if_true, if_false, Bool.false_eq_true, reduceCtorEq, b2i_t, b2i_f, u5_X6_nextToken, u6_X6_nextToken] at hj); exact hj
        · skip
          rw [if_neg h5] at hok
          refine g_aload_n0 rfl d_X6_nextToken_111 ?_
          refine g_getP (b := 1) f_X6_18 d_X6_nextToken_112 rfl (Nat.le_of_ble_eq_true rfl) rfl rfl ?_
          refine g_aload_n0 rfl d_X6_nextToken_115 ?_
          refine g_getIv ((lp_X6_nextToken_0 J (mu_up (I 2 4) (I 2 5) + 1) I) 2 5) (st2_o _ _ _ (by decide)) f_X6_46 d_X6_nextToken_116 rfl (Nat.le_of_ble_eq_true rfl) rfl ?_
          obtain ⟨ho5, hok⟩ := hok
          refine g_bald d_X6_nextToken_119 rfl (Nat.le_of_ble_eq_true rfl) ho5 ?_
          refine g_bipush 57 d_X6_nextToken_120 (by decide) ?_
          refine g_icmp_gt 132 d_X6_nextToken_122 (by decide) (fun h6 => ?_) (fun h6 => ?_)
          · skip
            rw [if_pos h6] at hok
            refine g_aload_n0 rfl d_X6_nextToken_132 ?_
            have ho6 := hok
            refine g_callV0 (c_X6_takeWord (st2 (lp_X6_nextToken_0 J (mu_up (I 2 4) (I 2 5) + 1) I) 2 7 ((lp_X6_nextToken_0 J (mu_up (I 2 4) (I 2 5) + 1) I) 2 5)) J  ho6) w_X6_takeWord l_X6_257 d_X6_nextToken_133 rfl (Nat.le_of_ble_eq_true rfl) rfl rfl (Nat.le_of_ble_eq_true rfl) ⟨Nat.le_of_ble_eq_true rfl, Nat.le_of_ble_eq_true rfl⟩ ⟨Nat.zero_le _, Nat.zero_le _⟩ ⟨rfl, rfl⟩ ?_
            refine G.toI (I' := (u2_X6_nextToken I J)) (by rw [u2_X6_nextToken, opv_eq]) ?_
            refine G.toJ (J' := (u3_X6_nextToken I J)) (by rw [u3_X6_nextToken, opv_eq]) ?_
            (try simp only [if_pos h3, if_neg h4, if_neg h5, if_pos h6, opv_eq, if_true, if_false, Bool.false_eq_true, reduceCtorEq, b2i_t, b2i_f, u5_X6_nextToken, u6_X6_nextToken] at hj); exact hj
          · skip
            rw [if_neg h6] at hok
            refine g_aload_n0 rfl d_X6_nextToken_125 ?_
            have ho7 := hok
            refine g_callV0 (c_X6_takeWhole (st2 (lp_X6_nextToken_0 J (mu_up (I 2 4) (I 2 5) + 1) I) 2 7 ((lp_X6_nextToken_0 J (mu_up (I 2 4) (I 2 5) + 1) I) 2 5))  ho7) w_X6_takeWhole l_X6_254 d_X6_nextToken_126 rfl (Nat.le_of_ble_eq_true rfl) rfl rfl (Nat.le_of_ble_eq_true rfl) ⟨Nat.le_of_ble_eq_true rfl, Nat.le_of_ble_eq_true rfl⟩ ⟨Nat.zero_le _, Nat.zero_le _⟩ ⟨rfl, rfl⟩ ?_
            refine G.toI (I' := (u4_X6_nextToken I J)) (by rw [u4_X6_nextToken, opv_eq]) ?_
            refine g_goto 136 d_X6_nextToken_129 (by decide) ?_
            (try simp only [if_pos h3, if_neg h4, if_neg h5, if_neg h6, opv_eq, if_true, if_false, Bool.false_eq_true, reduceCtorEq, b2i_t, b2i_f, u5_X6_nextToken, u6_X6_nextToken] at hj); exact hj
      · skip
        refine g_aload_n0 rfl d_X6_nextToken_79 ?_
        refine g_iconst 3 d_X6_nextToken_80 (by decide) ?_
        refine g_putI f_X6_69 d_X6_nextToken_81 rfl (Nat.le_of_ble_eq_true rfl) rfl rfl rfl ?_
        refine g_aload_n0 rfl d_X6_nextToken_84 ?_
        refine g_dup rfl d_X6_nextToken_85 ?_
        refine g_getIv ((lp_X6_nextToken_0 J (mu_up (I 2 4) (I 2 5) + 1) I) 2 5) ((st2_o _ _ _ (by decide)).trans (st2_o _ _ _ (by decide))) f_X6_46 d_X6_nextToken_86 rfl (Nat.le_of_ble_eq_true rfl) rfl ?_
        refine g_iconst 1 d_X6_nextToken_89 (by decide) ?_
        refine g_iadd d_X6_nextToken_90 ?_
        refine g_putI f_X6_46 d_X6_nextToken_91 rfl (Nat.le_of_ble_eq_true rfl) rfl rfl rfl ?_
        refine g_goto 136 d_X6_nextToken_94 (by decide) ?_
        (try simp only [if_pos h3, if_pos h4, opv_eq, if_true, if_false, Bool.false_eq_true, reduceCtorEq, b2i_t, b2i_f, u5_X6_nextToken, u6_X6_nextToken] at hj); exact hj
    · skip
      refine g_aload_n0 rfl d_X6_nextToken_57 ?_
      refine g_iconst 0 d_X6_nextToken_58 (by decide) ?_
      refine g_putI f_X6_69 d_X6_nextToken_59 rfl (Nat.le_of_ble_eq_true rfl) rfl rfl rfl ?_
      refine g_goto 136 d_X6_nextToken_62 (by decide) ?_
      (try simp only [if_neg h3, opv_eq, if_true, if_false, Bool.false_eq_true, reduceCtorEq, b2i_t, b2i_f, u5_X6_nextToken, u6_X6_nextToken] at hj); exact hj
  · skip
    exact g_vret rfl d_X6_nextToken_136 ⟨rfl, by simp only [m_X6_nextToken, j_X6_nextToken, opv_eq, if_true, if_false, Bool.false_eq_true, reduceCtorEq, b2i_t, b2i_f]⟩ (Nat.le_refl _) (Nat.le_refl _)
noncomputable def lp_X6_putBytes_3 (x1 : Int32) : Nat → Int32 → (Nat → Nat → Int32) → Int32 × (Nat → Nat → Int32)
  | 0, l2, I1 => (l2, I1)
  | n + 1, l2, I1 => (if l2 < 0 then (l2, I1) else (if (Int32.ofNat (sz 1)) ≤ (I1 0 1) then (l2, I1) else (lp_X6_putBytes_3 x1 n (l2 + (-8)) (st2 (va_up I1 1 (upd (I1 1) (I1 0 1).toNatClampNeg (vp_nar .byte (((x1.toUInt32 >>> ((l2 : Int32).toUInt32 &&& Int32.toUInt32 31)).toInt32).toInt8.toInt32)))) 0 1 ((I1 0 1) + 1)))))
def oklp_X6_putBytes_3 (x1 : Int32) : Nat → Int32 → (Nat → Nat → Int32) → Prop
  | 0, l2, I1 => True
  | n + 1, l2, I1 => (if l2 < 0 then True else (if (Int32.ofNat (sz 1)) ≤ (I1 0 1) then True else (vp_in (I1 0 1) (sz 1) ∧ oklp_X6_putBytes_3 x1 n (l2 + (-8)) (st2 (va_up I1 1 (upd (I1 1) (I1 0 1).toNatClampNeg (vp_nar .byte (((x1.toUInt32 >>> ((l2 : Int32).toUInt32 &&& Int32.toUInt32 31)).toInt32).toInt8.toInt32)))) 0 1 ((I1 0 1) + 1)))))
set_option maxHeartbeats 800000 in
set_option maxRecDepth 4000 in
theorem k_lp_X6_putBytes_3 {k : KT} {ex : Bool} {J : Nat → Nat → Int64} {w : Bool} (x1 : Int32) {F : FinT} : ∀ (n : Nat) (l2 : Int32) (I1 : (Nat → Nat → Int32)), mu_dn l2 < n → oklp_X6_putBytes_3 x1 n l2 I1 → G k mX6_putBytes (roomOf 1 0 0) F 0 0 48 [some (.ref (ka k 2)), some (.int x1), some (.int ((lp_X6_putBytes_3 x1 n l2 I1).1))] [] (81, ex, (lp_X6_putBytes_3 x1 n l2 I1).2, J, Pw w) → G k mX6_putBytes (roomOf 1 0 0) F 0 0 3 [some (.ref (ka k 2)), some (.int x1), some (.int l2)] [] (81, ex, I1, J, Pw w) := by
  intro n
  induction n with
  | zero => intro l2 I1 hmu hok hj; exact absurd hmu (Nat.not_lt_zero _)
  | succ n ih =>
    intro l2 I1 hmu hok hj
    rw [oklp_X6_putBytes_3] at hok
    refine g_iload_n2 rfl d_X6_putBytes_3 ?_
    refine g_if_lt 48 d_X6_putBytes_4 (by decide) (fun h1 => ?_) (fun h1 => ?_)
    · skip
      (try simp only [lp_X6_putBytes_3, if_pos h1, opv_eq, if_true, if_false, Bool.false_eq_true, reduceCtorEq, b2i_t, b2i_f] at hj); exact hj
    · skip
      rw [if_neg h1] at hok
      refine g_aload_n0 rfl d_X6_putBytes_7 ?_
      refine g_getT f_X6_30 d_X6_putBytes_8 rfl (Nat.le_of_ble_eq_true rfl) rfl ?_
      refine g_aload_n0 rfl d_X6_putBytes_11 ?_
      refine g_getP (b := 1) f_X6_18 d_X6_putBytes_12 rfl (Nat.le_of_ble_eq_true rfl) rfl rfl ?_
      refine g_alen11 d_X6_putBytes_15 rfl (Nat.le_of_ble_eq_true rfl) ?_
      refine g_icmp_ge 48 d_X6_putBytes_16 (by decide) (fun h2 => ?_) (fun h2 => ?_)
      · skip
        (try simp only [lp_X6_putBytes_3, if_neg h1, if_pos h2, opv_eq, if_true, if_false, Bool.false_eq_true, reduceCtorEq, b2i_t, b2i_f] at hj); exact hj
      · skip
        rw [if_neg h2] at hok
        refine g_aload_n0 rfl d_X6_putBytes_19 ?_
        refine g_getP (b := 1) f_X6_18 d_X6_putBytes_20 rfl (Nat.le_of_ble_eq_true rfl) rfl rfl ?_
        refine g_aload_n0 rfl d_X6_putBytes_23 ?_
        refine g_getT f_X6_30 d_X6_putBytes_24 rfl (Nat.le_of_ble_eq_true rfl) rfl ?_
        refine g_iload_n1 rfl d_X6_putBytes_27 ?_
        refine g_iload_n2 rfl d_X6_putBytes_28 ?_
        refine g_iushr d_X6_putBytes_29 ?_
        refine g_i2b d_X6_putBytes_30 ?_
        obtain ⟨ho1, hok⟩ := hok
        refine g_bast d_X6_putBytes_31 rfl (Nat.le_of_ble_eq_true rfl) ho1 ?_
        refine g_aload_n0 rfl d_X6_putBytes_32 ?_
        refine g_dup rfl d_X6_putBytes_33 ?_
        refine g_getTv (I1 0 1) (vu_a _ _ (by decide) _) f_X6_30 d_X6_putBytes_34 rfl (Nat.le_of_ble_eq_true rfl) rfl ?_
        refine g_iconst 1 d_X6_putBytes_37 (by decide) ?_
        refine g_iadd d_X6_putBytes_38 ?_
        refine g_putT f_X6_30 d_X6_putBytes_39 rfl ft5 (Nat.le_of_ble_eq_true rfl) rfl rfl rfl ?_
        refine g_ic2 (l2 + (-8)) (congrArg (HAdd.hAdd l2) (by decide)) rfl d_X6_putBytes_42 ?_
        refine g_goto 3 d_X6_putBytes_45 (by decide) ?_
        exact ih (l2 + (-8)) (st2 (va_up I1 1 (upd (I1 1) (I1 0 1).toNatClampNeg (vp_nar .byte (((x1.toUInt32 >>> ((l2 : Int32).toUInt32 &&& Int32.toUInt32 31)).toInt32).toInt8.toInt32)))) 0 1 ((I1 0 1) + 1)) (Nat.lt_of_lt_of_le (mu_dn_lt8 h1) (Nat.le_of_lt_succ hmu)) (by (try simp only [if_neg h1, if_neg h2, opv_eq, if_true, if_false, Bool.false_eq_true, reduceCtorEq, b2i_t, b2i_f] at hok); exact hok) (by (try simp only [lp_X6_putBytes_3, if_neg h1, if_neg h2, opv_eq, if_true, if_false, Bool.false_eq_true, reduceCtorEq, b2i_t, b2i_f] at hj); exact hj)
noncomputable def m_X6_putBytes (I : Nat → Nat → Int32) (x1 : Int32) : Nat → Nat → Int32 := opv ((lp_X6_putBytes_3 x1 (mu_dn 24 + 1) 24 I).2)
noncomputable def ok_X6_putBytes (I : Nat → Nat → Int32) (x1 : Int32) : Prop := opv (oklp_X6_putBytes_3 x1 (mu_dn 24 + 1) 24 I)
set_option maxHeartbeats 800000 in
set_option maxRecDepth 4000 in
theorem c_X6_putBytes {k : KT} {ex : Bool} {J : Nat → Nat → Int64} {w : Bool} (I : Nat → Nat → Int32) (x1 : Int32)  (hok : ok_X6_putBytes I x1) : Cx k mX6_putBytes 1 [.ref (ka k 2), .int x1] (81, ex, I, J, Pw w) none (81, ex, m_X6_putBytes I x1, J, Pw w) := by
  refine Ct.of rfl [some (.ref (ka k 2)), some (.int x1), none] rfl rfl (Nat.le_of_ble_eq_true rfl) ?_
  rw [ok_X6_putBytes, opv_eq] at hok
  refine g_bipush 24 d_X6_putBytes_0 (by decide) ?_
  refine g_isn2 rfl d_X6_putBytes_2 ?_
  refine k_lp_X6_putBytes_3 x1 _ 24 I (Nat.lt_succ_self _) hok ?_
  exact g_vret rfl d_X6_putBytes_48 ⟨rfl, by simp only [m_X6_putBytes, opv_eq, if_true, if_false, Bool.false_eq_true, reduceCtorEq, b2i_t, b2i_f]⟩ (Nat.le_refl _) (Nat.le_refl _)
noncomputable def u0_X6_beginsLine (I : Nat → Nat → Int32) (J : Nat → Nat → Int64) : Bool := opv (if (f_X6_isWord I J 0) = true then true else (if (f_X6_isWord I J 1) = true then true else (if (f_X6_isWord I J 2) = true then true else (if (f_X6_isWord I J 3) = true then true else (if (f_X6_isWord I J 4) = true then true else (if (f_X6_isWord I J 5) = true then true else (if (f_X6_isWord I J 6) = true then true else false)))))))
noncomputable def f_X6_beginsLine (I : Nat → Nat → Int32) (J : Nat → Nat → Int64)  : Bool := opv (u0_X6_beginsLine I J)
noncomputable def ok_X6_beginsLine (I : Nat → Nat → Int32) (J : Nat → Nat → Int64)  : Prop := opv (ok_X6_isWord I J 0 ∧ (if (f_X6_isWord I J 0) = true then True else (ok_X6_isWord I J 1 ∧ (if (f_X6_isWord I J 1) = true then True else (ok_X6_isWord I J 2 ∧ (if (f_X6_isWord I J 2) = true then True else (ok_X6_isWord I J 3 ∧ (if (f_X6_isWord I J 3) = true then True else (ok_X6_isWord I J 4 ∧ (if (f_X6_isWord I J 4) = true then True else (ok_X6_isWord I J 5 ∧ (if (f_X6_isWord I J 5) = true then True else ok_X6_isWord I J 6))))))))))))
set_option maxHeartbeats 800000 in
set_option maxRecDepth 4000 in
theorem c_X6_beginsLine {k : KT} {ex : Bool} {w : Bool} (I : Nat → Nat → Int32) (J : Nat → Nat → Int64)   (hok : ok_X6_beginsLine I J) : Cx k mX6_beginsLine 6 [.ref (ka k 2)] (81, ex, I, J, Pw w) (some (.int (b2i (f_X6_beginsLine I J)))) (81, ex, I, J, Pw w) := by
  refine Ct.of rfl [some (.ref (ka k 2))] rfl rfl (Nat.le_of_ble_eq_true rfl) ?_
  rw [ok_X6_beginsLine, opv_eq] at hok
  refine g_aload_n0 rfl d_X6_beginsLine_0 ?_
  refine g_ldcS (n := 0) (tx := "chalet") (by decide) d_X6_beginsLine_1 ?_
  obtain ⟨ho1, hok⟩ := hok
  refine g_callV1 (c_X6_isWord I J 0 (by decide) ho1) w_X6_isWord l_X6_82 d_X6_beginsLine_3 rfl (Nat.le_of_ble_eq_true rfl) rfl rfl (Nat.le_of_ble_eq_true rfl) ⟨Nat.le_of_ble_eq_true rfl, Nat.le_of_ble_eq_true rfl⟩ ⟨Nat.zero_le _, Nat.zero_le _⟩ ⟨rfl, rfl⟩ ?_
  refine g_cut (pc' := 68) (vs' := [some (.ref (ka k 2))]) (st' := [.int (b2i (u0_X6_beginsLine I J))]) (M' := (81, ex, I, J, Pw w)) (fun hj => ?_) ?_
  · skip
    refine g_ifnz 63 d_X6_beginsLine_6 (by decide) (fun h1 => ?_) (fun h1 => ?_)
    · skip
      refine g_iconst 1 d_X6_beginsLine_63 (by decide) ?_
      refine g_goto 68 d_X6_beginsLine_64 (by decide) ?_
      (try simp only [if_pos h1, opv_eq, if_true, if_false, Bool.false_eq_true, reduceCtorEq, b2i_t, b2i_f, u0_X6_beginsLine] at hj); exact hj
    · skip
      rw [if_neg (nb h1)] at hok
      refine g_aload_n0 rfl d_X6_beginsLine_9 ?_
      refine g_ldcS (n := 1) (tx := "weather") (by decide) d_X6_beginsLine_10 ?_
      obtain ⟨ho2, hok⟩ := hok
      refine g_callV1 (c_X6_isWord I J 1 (by decide) ho2) w_X6_isWord l_X6_82 d_X6_beginsLine_12 rfl (Nat.le_of_ble_eq_true rfl) rfl rfl (Nat.le_of_ble_eq_true rfl) ⟨Nat.le_of_ble_eq_true rfl, Nat.le_of_ble_eq_true rfl⟩ ⟨Nat.zero_le _, Nat.zero_le _⟩ ⟨rfl, rfl⟩ ?_
      refine g_ifnz 63 d_X6_beginsLine_15 (by decide) (fun h2 => ?_) (fun h2 => ?_)
      · skip
        refine g_iconst 1 d_X6_beginsLine_63 (by decide) ?_
        refine g_goto 68 d_X6_beginsLine_64 (by decide) ?_
        (try simp only [if_neg (nb h1), if_pos h2, opv_eq, if_true, if_false, Bool.false_eq_true, reduceCtorEq, b2i_t, b2i_f, u0_X6_beginsLine] at hj); exact hj
      · skip
        rw [if_neg (nb h2)] at hok
        refine g_aload_n0 rfl d_X6_beginsLine_18 ?_
        refine g_ldcS (n := 2) (tx := "vent") (by decide) d_X6_beginsLine_19 ?_
        obtain ⟨ho3, hok⟩ := hok
        refine g_callV1 (c_X6_isWord I J 2 (by decide) ho3) w_X6_isWord l_X6_82 d_X6_beginsLine_21 rfl (Nat.le_of_ble_eq_true rfl) rfl rfl (Nat.le_of_ble_eq_true rfl) ⟨Nat.le_of_ble_eq_true rfl, Nat.le_of_ble_eq_true rfl⟩ ⟨Nat.zero_le _, Nat.zero_le _⟩ ⟨rfl, rfl⟩ ?_
        refine g_ifnz 63 d_X6_beginsLine_24 (by decide) (fun h3 => ?_) (fun h3 => ?_)
        · skip
          refine g_iconst 1 d_X6_beginsLine_63 (by decide) ?_
          refine g_goto 68 d_X6_beginsLine_64 (by decide) ?_
          (try simp only [if_neg (nb h1), if_neg (nb h2), if_pos h3, opv_eq, if_true, if_false, Bool.false_eq_true, reduceCtorEq, b2i_t, b2i_f, u0_X6_beginsLine] at hj); exact hj
        · skip
          rw [if_neg (nb h3)] at hok
          refine g_aload_n0 rfl d_X6_beginsLine_27 ?_
          refine g_ldcS (n := 3) (tx := "plan") (by decide) d_X6_beginsLine_28 ?_
          obtain ⟨ho4, hok⟩ := hok
          refine g_callV1 (c_X6_isWord I J 3 (by decide) ho4) w_X6_isWord l_X6_82 d_X6_beginsLine_30 rfl (Nat.le_of_ble_eq_true rfl) rfl rfl (Nat.le_of_ble_eq_true rfl) ⟨Nat.le_of_ble_eq_true rfl, Nat.le_of_ble_eq_true rfl⟩ ⟨Nat.zero_le _, Nat.zero_le _⟩ ⟨rfl, rfl⟩ ?_
          refine g_ifnz 63 d_X6_beginsLine_33 (by decide) (fun h4 => ?_) (fun h4 => ?_)
          · skip
            refine g_iconst 1 d_X6_beginsLine_63 (by decide) ?_
            refine g_goto 68 d_X6_beginsLine_64 (by decide) ?_
            (try simp only [if_neg (nb h1), if_neg (nb h2), if_neg (nb h3), if_pos h4, opv_eq, if_true, if_false, Bool.false_eq_true, reduceCtorEq, b2i_t, b2i_f, u0_X6_beginsLine] at hj); exact hj
          · skip
            rw [if_neg (nb h4)] at hok
            refine g_aload_n0 rfl d_X6_beginsLine_36 ?_
            refine g_ldcS (n := 4) (tx := "saw") (by decide) d_X6_beginsLine_37 ?_
            obtain ⟨ho5, hok⟩ := hok
            refine g_callV1 (c_X6_isWord I J 4 (by decide) ho5) w_X6_isWord l_X6_82 d_X6_beginsLine_39 rfl (Nat.le_of_ble_eq_true rfl) rfl rfl (Nat.le_of_ble_eq_true rfl) ⟨Nat.le_of_ble_eq_true rfl, Nat.le_of_ble_eq_true rfl⟩ ⟨Nat.zero_le _, Nat.zero_le _⟩ ⟨rfl, rfl⟩ ?_
            refine g_ifnz 63 d_X6_beginsLine_42 (by decide) (fun h5 => ?_) (fun h5 => ?_)
            · skip
              refine g_iconst 1 d_X6_beginsLine_63 (by decide) ?_
              refine g_goto 68 d_X6_beginsLine_64 (by decide) ?_
              (try simp only [if_neg (nb h1), if_neg (nb h2), if_neg (nb h3), if_neg (nb h4), if_pos h5, opv_eq, if_true, if_false, Bool.false_eq_true, reduceCtorEq, b2i_t, b2i_f, u0_X6_beginsLine] at hj); exact hj
            · skip
              rw [if_neg (nb h5)] at hok
              refine g_aload_n0 rfl d_X6_beginsLine_45 ?_
              refine g_ldcS (n := 5) (tx := "field") (by decide) d_X6_beginsLine_46 ?_
              obtain ⟨ho6, hok⟩ := hok
              refine g_callV1 (c_X6_isWord I J 5 (by decide) ho6) w_X6_isWord l_X6_82 d_X6_beginsLine_48 rfl (Nat.le_of_ble_eq_true rfl) rfl rfl (Nat.le_of_ble_eq_true rfl) ⟨Nat.le_of_ble_eq_true rfl, Nat.le_of_ble_eq_true rfl⟩ ⟨Nat.zero_le _, Nat.zero_le _⟩ ⟨rfl, rfl⟩ ?_
              refine g_ifnz 63 d_X6_beginsLine_51 (by decide) (fun h6 => ?_) (fun h6 => ?_)
              · skip
                refine g_iconst 1 d_X6_beginsLine_63 (by decide) ?_
                refine g_goto 68 d_X6_beginsLine_64 (by decide) ?_
                (try simp only [if_neg (nb h1), if_neg (nb h2), if_neg (nb h3), if_neg (nb h4), if_neg (nb h5), if_pos h6, opv_eq, if_true, if_false, Bool.false_eq_true, reduceCtorEq, b2i_t, b2i_f, u0_X6_beginsLine] at hj); exact hj
              · skip
                rw [if_neg (nb h6)] at hok
                refine g_aload_n0 rfl d_X6_beginsLine_54 ?_
                refine g_ldcS (n := 6) (tx := "ditch") (by decide) d_X6_beginsLine_55 ?_
                have ho7 := hok
                refine g_callV1 (c_X6_isWord I J 6 (by decide) ho7) w_X6_isWord l_X6_82 d_X6_beginsLine_57 rfl (Nat.le_of_ble_eq_true rfl) rfl rfl (Nat.le_of_ble_eq_true rfl) ⟨Nat.le_of_ble_eq_true rfl, Nat.le_of_ble_eq_true rfl⟩ ⟨Nat.zero_le _, Nat.zero_le _⟩ ⟨rfl, rfl⟩ ?_
                refine g_ifz 67 d_X6_beginsLine_60 (by decide) (fun h7 => ?_) (fun h7 => ?_)
                · skip
                  refine g_iconst 0 d_X6_beginsLine_67 (by decide) ?_
                  (try simp only [if_neg (nb h1), if_neg (nb h2), if_neg (nb h3), if_neg (nb h4), if_neg (nb h5), if_neg (nb h6), if_neg (nb h7), opv_eq, if_true, if_false, Bool.false_eq_true, reduceCtorEq, b2i_t, b2i_f, u0_X6_beginsLine] at hj); exact hj
                · skip
                  refine g_iconst 1 d_X6_beginsLine_63 (by decide) ?_
                  refine g_goto 68 d_X6_beginsLine_64 (by decide) ?_
                  (try simp only [if_neg (nb h1), if_neg (nb h2), if_neg (nb h3), if_neg (nb h4), if_neg (nb h5), if_neg (nb h6), if_pos h7, opv_eq, if_true, if_false, Bool.false_eq_true, reduceCtorEq, b2i_t, b2i_f, u0_X6_beginsLine] at hj); exact hj
  · skip
    exact g_zret rfl (nar_b _) d_X6_beginsLine_68 ⟨by simp only [f_X6_beginsLine, opv_eq, if_true, if_false, Bool.false_eq_true, reduceCtorEq, b2i_t, b2i_f], rfl⟩ (Nat.le_refl _) (Nat.le_refl _)
noncomputable def u0_X6_begin (I : Nat → Nat → Int32) (w : Bool) (x1 : Int32) : Nat → Nat → Int32 := opv (m_X8_clear (st2 (st2 I 2 4 (imin x1 (Int32.ofNat (sz 1)))) 0 1 0) (dr w))
noncomputable def m_X6_begin (I : Nat → Nat → Int32) (w : Bool) (x1 : Int32) : Nat → Nat → Int32 := opv (st2 (st2 (st2 (st2 (st2 (u0_X6_begin I w x1) 2 5 0) 2 0 0) 2 1 (-1)) 2 10 0) 2 14 0)
set_option maxHeartbeats 800000 in
set_option maxRecDepth 4000 in
theorem c_X6_begin {k : KT} {ex : Bool} {J : Nat → Nat → Int64} (I : Nat → Nat → Int32) (w : Bool) (x1 : Int32)  : Cx k mX6_begin 2 [.ref (ka k 2), .int x1] (81, ex, I, J, Pw w) none (81, ex, m_X6_begin I w x1, J, Pw w) := by
  refine Ct.of rfl [some (.ref (ka k 2)), some (.int x1)] rfl rfl (Nat.le_of_ble_eq_true rfl) ?_
  refine g_aload_n0 rfl d_X6_begin_0 ?_
  refine g_iload_n1 rfl d_X6_begin_1 ?_
  refine g_aload_n0 rfl d_X6_begin_2 ?_
  refine g_getP (b := 1) f_X6_18 d_X6_begin_3 rfl (Nat.le_of_ble_eq_true rfl) rfl rfl ?_
  refine g_alen11 d_X6_begin_6 rfl (Nat.le_of_ble_eq_true rfl) ?_
  refine g_mmin lm_X6_34 d_X6_begin_7 (Nat.le_of_ble_eq_true rfl) ⟨Nat.le_of_ble_eq_true rfl, Nat.le_of_ble_eq_true rfl⟩ ⟨Nat.zero_le _, Nat.zero_le _⟩ ?_
  refine g_putI f_X6_40 d_X6_begin_10 rfl (Nat.le_of_ble_eq_true rfl) rfl rfl rfl ?_
  refine g_aload_n0 rfl d_X6_begin_13 ?_
  refine g_iconst 0 d_X6_begin_14 (by decide) ?_
  refine g_putT f_X6_30 d_X6_begin_15 rfl ft5 (Nat.le_of_ble_eq_true rfl) rfl rfl rfl ?_
  refine g_aload_n0 rfl d_X6_begin_18 ?_
  refine g_getP (b := dr w) f_X6_12 d_X6_begin_19 rfl (Nat.le_of_ble_eq_true rfl) rfl rfl ?_
  refine g_callV0 (c_X8_clear (st2 (st2 I 2 4 (imin x1 (Int32.ofNat (sz 1)))) 0 1 0) (dr w) (kd_dr w)) w_X8_clear l_X6_43 d_X6_begin_22 (kd_dr w) (kd_sg (kd_dr w) (by decide)) rfl rfl (Nat.le_of_ble_eq_true rfl) ⟨Nat.le_of_ble_eq_true rfl, Nat.le_of_ble_eq_true rfl⟩ ⟨Nat.zero_le _, Nat.zero_le _⟩ ⟨rfl, rfl⟩ ?_
  refine G.toI (I' := (u0_X6_begin I w x1)) (by rw [u0_X6_begin, opv_eq]) ?_
  refine g_aload_n0 rfl d_X6_begin_25 ?_
  refine g_iconst 0 d_X6_begin_26 (by decide) ?_
  refine g_putI f_X6_46 d_X6_begin_27 rfl (Nat.le_of_ble_eq_true rfl) rfl rfl rfl ?_
  refine g_aload_n0 rfl d_X6_begin_30 ?_
  refine g_iconst 0 d_X6_begin_31 (by decide) ?_
  refine g_putI f_X6_49 d_X6_begin_32 rfl (Nat.le_of_ble_eq_true rfl) rfl rfl rfl ?_
  refine g_aload_n0 rfl d_X6_begin_35 ?_
  refine g_iconst (-1) d_X6_begin_36 (by decide) ?_
  refine g_putI f_X6_52 d_X6_begin_37 rfl (Nat.le_of_ble_eq_true rfl) rfl rfl rfl ?_
  refine g_aload_n0 rfl d_X6_begin_40 ?_
  refine g_iconst 0 d_X6_begin_41 (by decide) ?_
  refine g_putI f_X6_55 d_X6_begin_42 rfl (Nat.le_of_ble_eq_true rfl) rfl (by decide) (by decide) ?_
  refine g_aload_n0 rfl d_X6_begin_45 ?_
  refine g_iconst 0 d_X6_begin_46 (by decide) ?_
  refine g_putI f_X6_59 d_X6_begin_47 rfl (Nat.le_of_ble_eq_true rfl) rfl rfl rfl ?_
  exact g_vret rfl d_X6_begin_50 ⟨rfl, by simp only [m_X6_begin, opv_eq, if_true, if_false, Bool.false_eq_true, reduceCtorEq, b2i_t, b2i_f]⟩ (Nat.le_refl _) (Nat.le_refl _)
noncomputable def u0_X6_wants (I : Nat → Nat → Int32) (J : Nat → Nat → Int64) (x1 : Nat) : Bool := opv (if (f_X6_isWord (m_X6_nextToken I J) (j_X6_nextToken I J) x1) = true then true else (if (f_X6_fails (m_X6_nextToken I J) 1) = true then true else false))
noncomputable def u1_X6_wants (I : Nat → Nat → Int32) (J : Nat → Nat → Int64) (x1 : Nat) : Nat → Nat → Int32 := opv (if (f_X6_isWord (m_X6_nextToken I J) (j_X6_nextToken I J) x1) = true then (m_X6_nextToken I J) else (m_X6_fails (m_X6_nextToken I J) 1))
noncomputable def f_X6_wants (I : Nat → Nat → Int32) (J : Nat → Nat → Int64) (x1 : Nat) : Bool := opv (u0_X6_wants I J x1)
noncomputable def m_X6_wants (I : Nat → Nat → Int32) (J : Nat → Nat → Int64) (x1 : Nat) : Nat → Nat → Int32 := opv (u1_X6_wants I J x1)
noncomputable def j_X6_wants (I : Nat → Nat → Int32) (J : Nat → Nat → Int64) (x1 : Nat) : Nat → Nat → Int64 := opv (j_X6_nextToken I J)
noncomputable def ok_X6_wants (I : Nat → Nat → Int32) (J : Nat → Nat → Int64) (x1 : Nat) : Prop := opv (ok_X6_nextToken I J ∧ ok_X6_isWord (m_X6_nextToken I J) (j_X6_nextToken I J) x1)
set_option maxHeartbeats 800000 in
set_option maxRecDepth 4000 in
theorem c_X6_wants {k : KT} {ex : Bool} {w : Bool} (I : Nat → Nat → Int32) (J : Nat → Nat → Int64) (x1 : Nat) (hx1 : x1 < nStr)  (hok : ok_X6_wants I J x1) : Cx k mX6_wants 6 [.ref (ka k 2), .ref (adK k x1)] (81, ex, I, J, Pw w) (some (.int (b2i (f_X6_wants I J x1)))) (81, ex, m_X6_wants I J x1, j_X6_wants I J x1, Pw w) := by
  refine Ct.of rfl [some (.ref (ka k 2)), some (.ref (adK k x1))] rfl rfl (Nat.le_of_ble_eq_true rfl) ?_
  rw [ok_X6_wants, opv_eq] at hok
  refine g_aload_n0 rfl d_X6_wants_0 ?_
  obtain ⟨ho1, hok⟩ := hok
  refine g_callV0 (c_X6_nextToken I J  ho1) w_X6_nextToken l_X6_66 d_X6_wants_1 rfl (Nat.le_of_ble_eq_true rfl) rfl rfl (Nat.le_of_ble_eq_true rfl) ⟨Nat.le_of_ble_eq_true rfl, Nat.le_of_ble_eq_true rfl⟩ ⟨Nat.zero_le _, Nat.zero_le _⟩ ⟨rfl, rfl⟩ ?_
  refine g_aload_n0 rfl d_X6_wants_4 ?_
  refine g_aload_n1 rfl d_X6_wants_5 ?_
  have ho2 := hok
  refine g_callV1 (c_X6_isWord (m_X6_nextToken I J) (j_X6_nextToken I J) x1 hx1 ho2) w_X6_isWord l_X6_82 d_X6_wants_6 rfl (Nat.le_of_ble_eq_true rfl) rfl rfl (Nat.le_of_ble_eq_true rfl) ⟨Nat.le_of_ble_eq_true rfl, Nat.le_of_ble_eq_true rfl⟩ ⟨Nat.zero_le _, Nat.zero_le _⟩ ⟨rfl, rfl⟩ ?_
  refine g_cut (pc' := 25) (vs' := [some (.ref (ka k 2)), some (.ref (adK k x1))]) (st' := [.int (b2i (u0_X6_wants I J x1))]) (M' := (81, ex, (u1_X6_wants I J x1), (j_X6_nextToken I J), Pw w)) (fun hj => ?_) ?_
  · skip
    refine g_ifnz 20 d_X6_wants_9 (by decide) (fun h1 => ?_) (fun h1 => ?_)
    · skip
      refine g_iconst 1 d_X6_wants_20 (by decide) ?_
      refine g_goto 25 d_X6_wants_21 (by decide) ?_
      (try simp only [if_pos h1, opv_eq, if_true, if_false, Bool.false_eq_true, reduceCtorEq, b2i_t, b2i_f, u0_X6_wants, u1_X6_wants] at hj); exact hj
    · skip
      refine g_aload_n0 rfl d_X6_wants_12 ?_
      refine g_iconst 1 d_X6_wants_13 (by decide) ?_
      refine g_callV1 (c_X6_fails (m_X6_nextToken I J) 1) w_X6_fails l_X6_72 d_X6_wants_14 rfl (Nat.le_of_ble_eq_true rfl) rfl rfl (Nat.le_of_ble_eq_true rfl) ⟨Nat.le_of_ble_eq_true rfl, Nat.le_of_ble_eq_true rfl⟩ ⟨Nat.zero_le _, Nat.zero_le _⟩ ⟨rfl, rfl⟩ ?_
      refine g_ifz 24 d_X6_wants_17 (by decide) (fun h2 => ?_) (fun h2 => ?_)
      · skip
        refine g_iconst 0 d_X6_wants_24 (by decide) ?_
        (try simp only [if_neg (nb h1), if_neg (nb h2), opv_eq, if_true, if_false, Bool.false_eq_true, reduceCtorEq, b2i_t, b2i_f, u0_X6_wants, u1_X6_wants] at hj); exact hj
      · skip
        refine g_iconst 1 d_X6_wants_20 (by decide) ?_
        refine g_goto 25 d_X6_wants_21 (by decide) ?_
        (try simp only [if_neg (nb h1), if_pos h2, opv_eq, if_true, if_false, Bool.false_eq_true, reduceCtorEq, b2i_t, b2i_f, u0_X6_wants, u1_X6_wants] at hj); exact hj
  · skip
    exact g_zret rfl (nar_b _) d_X6_wants_25 ⟨by simp only [f_X6_wants, m_X6_wants, j_X6_wants, opv_eq, if_true, if_false, Bool.false_eq_true, reduceCtorEq, b2i_t, b2i_f], by simp only [f_X6_wants, m_X6_wants, j_X6_wants, opv_eq, if_true, if_false, Bool.false_eq_true, reduceCtorEq, b2i_t, b2i_f]⟩ (Nat.le_refl _) (Nat.le_refl _)
noncomputable def u0_X6_wantsWhole (I : Nat → Nat → Int32) (J : Nat → Nat → Int64) (x1 : Int32) (x2 : Int32) : Bool := opv (if (f_X10_within (m_X6_nextToken I J) ((m_X6_nextToken I J) 2 9) x1 x2) = true then true else (if (f_X6_fails (m_X6_nextToken I J) 4) = true then true else false))
noncomputable def u1_X6_wantsWhole (I : Nat → Nat → Int32) (J : Nat → Nat → Int64) (x1 : Int32) (x2 : Int32) : Nat → Nat → Int32 := opv (if (f_X10_within (m_X6_nextToken I J) ((m_X6_nextToken I J) 2 9) x1 x2) = true then (m_X6_nextToken I J) else (m_X6_fails (m_X6_nextToken I J) 4))
noncomputable def f_X6_wantsWhole (I : Nat → Nat → Int32) (J : Nat → Nat → Int64) (x1 : Int32) (x2 : Int32) : Bool := opv (if ((m_X6_nextToken I J) 2 6) = 2 then (u0_X6_wantsWhole I J x1 x2) else f_X6_fails (m_X6_nextToken I J) 1)
noncomputable def m_X6_wantsWhole (I : Nat → Nat → Int32) (J : Nat → Nat → Int64) (x1 : Int32) (x2 : Int32) : Nat → Nat → Int32 := opv (if ((m_X6_nextToken I J) 2 6) = 2 then (u1_X6_wantsWhole I J x1 x2) else (m_X6_fails (m_X6_nextToken I J) 1))
noncomputable def j_X6_wantsWhole (I : Nat → Nat → Int32) (J : Nat → Nat → Int64) (x1 : Int32) (x2 : Int32) : Nat → Nat → Int64 := opv (j_X6_nextToken I J)
noncomputable def ok_X6_wantsWhole (I : Nat → Nat → Int32) (J : Nat → Nat → Int64) (x1 : Int32) (x2 : Int32) : Prop := opv (ok_X6_nextToken I J)
set_option maxHeartbeats 800000 in
set_option maxRecDepth 4000 in
theorem c_X6_wantsWhole {k : KT} {ex : Bool} {w : Bool} (I : Nat → Nat → Int32) (J : Nat → Nat → Int64) (x1 : Int32) (x2 : Int32)  (hok : ok_X6_wantsWhole I J x1 x2) : Cx k mX6_wantsWhole 3 [.ref (ka k 2), .int x1, .int x2] (81, ex, I, J, Pw w) (some (.int (b2i (f_X6_wantsWhole I J x1 x2)))) (81, ex, m_X6_wantsWhole I J x1 x2, j_X6_wantsWhole I J x1 x2, Pw w) := by
  refine Ct.of rfl [some (.ref (ka k 2)), some (.int x1), some (.int x2)] rfl rfl (Nat.le_of_ble_eq_true rfl) ?_
  rw [ok_X6_wantsWhole, opv_eq] at hok
  refine g_aload_n0 rfl d_X6_wantsWhole_0 ?_
  have ho1 := hok
  refine g_callV0 (c_X6_nextToken I J  ho1) w_X6_nextToken l_X6_66 d_X6_wantsWhole_1 rfl (Nat.le_of_ble_eq_true rfl) rfl rfl (Nat.le_of_ble_eq_true rfl) ⟨Nat.le_of_ble_eq_true rfl, Nat.le_of_ble_eq_true rfl⟩ ⟨Nat.zero_le _, Nat.zero_le _⟩ ⟨rfl, rfl⟩ ?_
  refine g_aload_n0 rfl d_X6_wantsWhole_4 ?_
  refine g_getI f_X6_69 d_X6_wantsWhole_5 rfl (Nat.le_of_ble_eq_true rfl) rfl ?_
  refine g_iconst 2 d_X6_wantsWhole_8 (by decide) ?_
  refine g_icmp_eq 18 d_X6_wantsWhole_9 (by decide) (fun h1 => ?_) (fun h1 => ?_)
  · skip
    refine g_aload_n0 rfl d_X6_wantsWhole_18 ?_
    refine g_getI f_X6_147 d_X6_wantsWhole_19 rfl (Nat.le_of_ble_eq_true rfl) rfl ?_
    refine g_iload_n1 rfl d_X6_wantsWhole_22 ?_
    refine g_iload_n2 rfl d_X6_wantsWhole_23 ?_
    refine g_callN1 (c_X10_within (m_X6_nextToken I J) ((m_X6_nextToken I J) 2 9) x1 x2) w_X10_within nest6 d_X6_wantsWhole_24 rfl rfl (Nat.le_of_ble_eq_true rfl) ⟨Nat.le_of_ble_eq_true rfl, Nat.le_of_ble_eq_true rfl⟩ ⟨Nat.zero_le _, Nat.zero_le _⟩ ⟨rfl, rfl⟩ ?_
    refine g_cut (pc' := 43) (vs' := [some (.ref (ka k 2)), some (.int x1), some (.int x2)]) (st' := [.int (b2i (u0_X6_wantsWhole I J x1 x2))]) (M' := (81, ex, (u1_X6_wantsWhole I J x1 x2), (j_X6_nextToken I J), Pw w)) (fun hj => ?_) ?_
    · skip
      refine g_ifnz 38 d_X6_wantsWhole_27 (by decide) (fun h2 => ?_) (fun h2 => ?_)
      · skip
        refine g_iconst 1 d_X6_wantsWhole_38 (by decide) ?_
        refine g_goto 43 d_X6_wantsWhole_39 (by decide) ?_
        (try simp only [if_pos h2, opv_eq, if_true, if_false, Bool.false_eq_true, reduceCtorEq, b2i_t, b2i_f, u0_X6_wantsWhole, u1_X6_wantsWhole] at hj); exact hj
      · skip
        refine g_aload_n0 rfl d_X6_wantsWhole_30 ?_
        refine g_iconst 4 d_X6_wantsWhole_31 (by decide) ?_
        refine g_callV1 (c_X6_fails (m_X6_nextToken I J) 4) w_X6_fails l_X6_72 d_X6_wantsWhole_32 rfl (Nat.le_of_ble_eq_true rfl) rfl rfl (Nat.le_of_ble_eq_true rfl) ⟨Nat.le_of_ble_eq_true rfl, Nat.le_of_ble_eq_true rfl⟩ ⟨Nat.zero_le _, Nat.zero_le _⟩ ⟨rfl, rfl⟩ ?_
        refine g_ifz 42 d_X6_wantsWhole_35 (by decide) (fun h3 => ?_) (fun h3 => ?_)
        · skip
          refine g_iconst 0 d_X6_wantsWhole_42 (by decide) ?_
          (try simp only [if_neg (nb h2), if_neg (nb h3), opv_eq, if_true, if_false, Bool.false_eq_true, reduceCtorEq, b2i_t, b2i_f, u0_X6_wantsWhole, u1_X6_wantsWhole] at hj); exact hj
        · skip
          refine g_iconst 1 d_X6_wantsWhole_38 (by decide) ?_
          refine g_goto 43 d_X6_wantsWhole_39 (by decide) ?_
          (try simp only [if_neg (nb h2), if_pos h3, opv_eq, if_true, if_false, Bool.false_eq_true, reduceCtorEq, b2i_t, b2i_f, u0_X6_wantsWhole, u1_X6_wantsWhole] at hj); exact hj
    · skip
      exact g_zret rfl (nar_b _) d_X6_wantsWhole_43 ⟨by simp only [f_X6_wantsWhole, m_X6_wantsWhole, j_X6_wantsWhole, if_pos h1, opv_eq, if_true, if_false, Bool.false_eq_true, reduceCtorEq, b2i_t, b2i_f], by simp only [f_X6_wantsWhole, m_X6_wantsWhole, j_X6_wantsWhole, if_pos h1, opv_eq, if_true, if_false, Bool.false_eq_true, reduceCtorEq, b2i_t, b2i_f]⟩ (Nat.le_refl _) (Nat.le_refl _)
  · skip
    refine g_aload_n0 rfl d_X6_wantsWhole_12 ?_
    refine g_iconst 1 d_X6_wantsWhole_13 (by decide) ?_
    refine g_callV1 (c_X6_fails (m_X6_nextToken I J) 1) w_X6_fails l_X6_72 d_X6_wantsWhole_14 rfl (Nat.le_of_ble_eq_true rfl) rfl rfl (Nat.le_of_ble_eq_true rfl) ⟨Nat.le_of_ble_eq_true rfl, Nat.le_of_ble_eq_true rfl⟩ ⟨Nat.zero_le _, Nat.zero_le _⟩ ⟨rfl, rfl⟩ ?_
    exact g_zret rfl (nar_b _) d_X6_wantsWhole_17 ⟨by simp only [f_X6_wantsWhole, m_X6_wantsWhole, j_X6_wantsWhole, if_neg h1, opv_eq, if_true, if_false, Bool.false_eq_true, reduceCtorEq, b2i_t, b2i_f], by simp only [f_X6_wantsWhole, m_X6_wantsWhole, j_X6_wantsWhole, if_neg h1, opv_eq, if_true, if_false, Bool.false_eq_true, reduceCtorEq, b2i_t, b2i_f]⟩ (Nat.le_refl _) (Nat.le_refl _)
noncomputable def u0_X6_wantsCell (I : Nat → Nat → Int32) (J : Nat → Nat → Int64) (x1 : Nat) (x2 : Int32) (x3 : Int32) (x4 : Int32) : Nat → Nat → Int32 := opv (m_X7_put (m_X6_wantsWhole I J x3 x4) x1 x2 ((m_X6_wantsWhole I J x3 x4) 2 9))
noncomputable def f_X6_wantsCell (I : Nat → Nat → Int32) (J : Nat → Nat → Int64) (x1 : Nat) (x2 : Int32) (x3 : Int32) (x4 : Int32) : Bool := opv (if (f_X6_wantsWhole I J x3 x4) = true then true else false)
noncomputable def m_X6_wantsCell (I : Nat → Nat → Int32) (J : Nat → Nat → Int64) (x1 : Nat) (x2 : Int32) (x3 : Int32) (x4 : Int32) : Nat → Nat → Int32 := opv (if (f_X6_wantsWhole I J x3 x4) = true then (u0_X6_wantsCell I J x1 x2 x3 x4) else (m_X6_wantsWhole I J x3 x4))
noncomputable def j_X6_wantsCell (I : Nat → Nat → Int32) (J : Nat → Nat → Int64) (x1 : Nat) (x2 : Int32) (x3 : Int32) (x4 : Int32) : Nat → Nat → Int64 := opv (j_X6_wantsWhole I J x3 x4)
noncomputable def ok_X6_wantsCell (I : Nat → Nat → Int32) (J : Nat → Nat → Int64) (x1 : Nat) (x2 : Int32) (x3 : Int32) (x4 : Int32) : Prop := opv (ok_X6_wantsWhole I J x3 x4)
set_option maxHeartbeats 800000 in
set_option maxRecDepth 4000 in
theorem c_X6_wantsCell {k : KT} {ex : Bool} {w : Bool} (I : Nat → Nat → Int32) (J : Nat → Nat → Int64) (x1 : Nat) (hx1 : kd x1 = 6) (x2 : Int32) (x3 : Int32) (x4 : Int32)  (hok : ok_X6_wantsCell I J x1 x2 x3 x4) : Cx k mX6_wantsCell 4 [.ref (ka k 2), .ref (ka k x1), .int x2, .int x3, .int x4] (81, ex, I, J, Pw w) (some (.int (b2i (f_X6_wantsCell I J x1 x2 x3 x4)))) (81, ex, m_X6_wantsCell I J x1 x2 x3 x4, j_X6_wantsCell I J x1 x2 x3 x4, Pw w) := by
  refine Ct.of rfl [some (.ref (ka k 2)), some (.ref (ka k x1)), some (.int x2), some (.int x3), some (.int x4)] rfl rfl (Nat.le_of_ble_eq_true rfl) ?_
  rw [ok_X6_wantsCell, opv_eq] at hok
  refine g_aload_n0 rfl d_X6_wantsCell_0 ?_
  refine g_iload_n3 rfl d_X6_wantsCell_1 ?_
  refine g_iload (i := 4) rfl d_X6_wantsCell_2 ?_
  have ho1 := hok
  refine g_callV1 (c_X6_wantsWhole I J x3 x4 ho1) w_X6_wantsWhole l_X6_143 d_X6_wantsCell_4 rfl (Nat.le_of_ble_eq_true rfl) rfl rfl (Nat.le_of_ble_eq_true rfl) ⟨Nat.le_of_ble_eq_true rfl, Nat.le_of_ble_eq_true rfl⟩ ⟨Nat.zero_le _, Nat.zero_le _⟩ ⟨rfl, rfl⟩ ?_
  refine g_ifnz 12 d_X6_wantsCell_7 (by decide) (fun h1 => ?_) (fun h1 => ?_)
  · skip
    refine g_aload_n1 rfl d_X6_wantsCell_12 ?_
    refine g_iload_n2 rfl d_X6_wantsCell_13 ?_
    refine g_aload_n0 rfl d_X6_wantsCell_14 ?_
    refine g_getI f_X6_147 d_X6_wantsCell_15 rfl (Nat.le_of_ble_eq_true rfl) rfl ?_
    refine g_callV0 (c_X7_put (m_X6_wantsWhole I J x3 x4) x1 hx1 x2 ((m_X6_wantsWhole I J x3 x4) 2 9) (okt_X7_put (m_X6_wantsWhole I J x3 x4) x1 hx1 x2 ((m_X6_wantsWhole I J x3 x4) 2 9))) w_X7_put l_X6_210 d_X6_wantsCell_18 hx1 (kd_sg hx1 (by decide)) rfl rfl (Nat.le_of_ble_eq_true rfl) ⟨Nat.le_of_ble_eq_true rfl, Nat.le_of_ble_eq_true rfl⟩ ⟨Nat.zero_le _, Nat.zero_le _⟩ ⟨rfl, rfl⟩ ?_
    refine G.toI (I' := (u0_X6_wantsCell I J x1 x2 x3 x4)) (by rw [u0_X6_wantsCell, opv_eq]) ?_
    refine g_iconst 1 d_X6_wantsCell_21 (by decide) ?_
    exact g_zret rfl (by decide) d_X6_wantsCell_22 ⟨by simp only [f_X6_wantsCell, m_X6_wantsCell, j_X6_wantsCell, if_pos h1, opv_eq, if_true, if_false, Bool.false_eq_true, reduceCtorEq, b2i_t, b2i_f], by simp only [f_X6_wantsCell, m_X6_wantsCell, j_X6_wantsCell, if_pos h1, opv_eq, if_true, if_false, Bool.false_eq_true, reduceCtorEq, b2i_t, b2i_f]⟩ (Nat.le_refl _) (Nat.le_refl _)
  · skip
    refine g_iconst 0 d_X6_wantsCell_10 (by decide) ?_
    exact g_zret rfl (by decide) d_X6_wantsCell_11 ⟨by simp only [f_X6_wantsCell, m_X6_wantsCell, j_X6_wantsCell, if_neg (nb h1), opv_eq, if_true, if_false, Bool.false_eq_true, reduceCtorEq, b2i_t, b2i_f], by simp only [f_X6_wantsCell, m_X6_wantsCell, j_X6_wantsCell, if_neg (nb h1), opv_eq, if_true, if_false, Bool.false_eq_true, reduceCtorEq, b2i_t, b2i_f]⟩ (Nat.le_refl _) (Nat.le_refl _)
noncomputable def f_X6_closes (I : Nat → Nat → Int32) (x1 : Nat) : Bool := opv true
noncomputable def m_X6_closes (I : Nat → Nat → Int32) (x1 : Nat) : Nat → Nat → Int32 := opv (m_X7_closeRow I x1)
set_option maxHeartbeats 800000 in
set_option maxRecDepth 4000 in
theorem c_X6_closes {k : KT} {ex : Bool} {J : Nat → Nat → Int64} {w : Bool} (I : Nat → Nat → Int32) (x1 : Nat) (hx1 : kd x1 = 6)  : Cx k mX6_closes 2 [.ref (ka k 2), .ref (ka k x1)] (81, ex, I, J, Pw w) (some (.int (b2i (f_X6_closes I x1)))) (81, ex, m_X6_closes I x1, J, Pw w) := by
  refine Ct.of rfl [some (.ref (ka k 2)), some (.ref (ka k x1))] rfl rfl (Nat.le_of_ble_eq_true rfl) ?_
  refine g_aload_n1 rfl d_X6_closes_0 ?_
  refine g_callV0 (c_X7_closeRow I x1 hx1) w_X7_closeRow l_X6_223 d_X6_closes_1 hx1 (kd_sg hx1 (by decide)) rfl rfl (Nat.le_of_ble_eq_true rfl) ⟨Nat.le_of_ble_eq_true rfl, Nat.le_of_ble_eq_true rfl⟩ ⟨Nat.zero_le _, Nat.zero_le _⟩ ⟨rfl, rfl⟩ ?_
  refine g_iconst 1 d_X6_closes_4 (by decide) ?_
  exact g_zret rfl (by decide) d_X6_closes_5 ⟨by simp only [f_X6_closes, m_X6_closes, opv_eq, if_true, if_false, Bool.false_eq_true, reduceCtorEq, b2i_t, b2i_f], by simp only [f_X6_closes, m_X6_closes, opv_eq, if_true, if_false, Bool.false_eq_true, reduceCtorEq, b2i_t, b2i_f]⟩ (Nat.le_refl _) (Nat.le_refl _)
noncomputable def u0_X6_wantsWeather (I : Nat → Nat → Int32) (J : Nat → Nat → Int64) : Int32 := opv (if (f_X6_isWord (m_X6_nextToken I J) (j_X6_nextToken I J) 11) = true then 1 else 2)
noncomputable def u1_X6_wantsWeather (I : Nat → Nat → Int32) (J : Nat → Nat → Int64) : Int32 := opv (if (f_X6_isWord (m_X6_nextToken I J) (j_X6_nextToken I J) 11) = true then 1 else 2)
noncomputable def f_X6_wantsWeather (I : Nat → Nat → Int32) (J : Nat → Nat → Int64) (x1 : Nat) (x2 : Int32) : Bool := opv (if (f_X6_isWord (m_X6_nextToken I J) (j_X6_nextToken I J) 11) = true then true else (if (f_X6_isWord (m_X6_nextToken I J) (j_X6_nextToken I J) 12) = true then true else f_X6_fails (m_X6_nextToken I J) 1))
noncomputable def m_X6_wantsWeather (I : Nat → Nat → Int32) (J : Nat → Nat → Int64) (x1 : Nat) (x2 : Int32) : Nat → Nat → Int32 := opv (if (f_X6_isWord (m_X6_nextToken I J) (j_X6_nextToken I J) 11) = true then (m_X7_put (m_X6_nextToken I J) x1 x2 (u0_X6_wantsWeather I J)) else (if (f_X6_isWord (m_X6_nextToken I J) (j_X6_nextToken I J) 12) = true then (m_X7_put (m_X6_nextToken I J) x1 x2 (u1_X6_wantsWeather I J)) else (m_X6_fails (m_X6_nextToken I J) 1)))
noncomputable def j_X6_wantsWeather (I : Nat → Nat → Int32) (J : Nat → Nat → Int64) (x1 : Nat) (x2 : Int32) : Nat → Nat → Int64 := opv (j_X6_nextToken I J)
noncomputable def ok_X6_wantsWeather (I : Nat → Nat → Int32) (J : Nat → Nat → Int64) (x1 : Nat) (x2 : Int32) : Prop := opv (ok_X6_nextToken I J ∧ (ok_X6_isWord (m_X6_nextToken I J) (j_X6_nextToken I J) 11 ∧ (if (f_X6_isWord (m_X6_nextToken I J) (j_X6_nextToken I J) 11) = true then ok_X6_isWord (m_X6_nextToken I J) (j_X6_nextToken I J) 11 else (ok_X6_isWord (m_X6_nextToken I J) (j_X6_nextToken I J) 12 ∧ (if (f_X6_isWord (m_X6_nextToken I J) (j_X6_nextToken I J) 12) = true then ok_X6_isWord (m_X6_nextToken I J) (j_X6_nextToken I J) 11 else True)))))
set_option maxHeartbeats 800000 in
set_option maxRecDepth 4000 in
theorem c_X6_wantsWeather {k : KT} {ex : Bool} {w : Bool} (I : Nat → Nat → Int32) (J : Nat → Nat → Int64) (x1 : Nat) (hx1 : kd x1 = 6) (x2 : Int32)  (hok : ok_X6_wantsWeather I J x1 x2) : Cx k mX6_wantsWeather 6 [.ref (ka k 2), .ref (ka k x1), .int x2] (81, ex, I, J, Pw w) (some (.int (b2i (f_X6_wantsWeather I J x1 x2)))) (81, ex, m_X6_wantsWeather I J x1 x2, j_X6_wantsWeather I J x1 x2, Pw w) := by
  refine Ct.of rfl [some (.ref (ka k 2)), some (.ref (ka k x1)), some (.int x2)] rfl rfl (Nat.le_of_ble_eq_true rfl) ?_
  rw [ok_X6_wantsWeather, opv_eq] at hok
  refine g_aload_n0 rfl d_X6_wantsWeather_0 ?_
  obtain ⟨ho1, hok⟩ := hok
  refine g_callV0 (c_X6_nextToken I J  ho1) w_X6_nextToken l_X6_66 d_X6_wantsWeather_1 rfl (Nat.le_of_ble_eq_true rfl) rfl rfl (Nat.le_of_ble_eq_true rfl) ⟨Nat.le_of_ble_eq_true rfl, Nat.le_of_ble_eq_true rfl⟩ ⟨Nat.zero_le _, Nat.zero_le _⟩ ⟨rfl, rfl⟩ ?_
  refine g_aload_n0 rfl d_X6_wantsWeather_4 ?_
  refine g_ldcS (n := 11) (tx := "wet") (by decide) d_X6_wantsWeather_5 ?_
  obtain ⟨ho2, hok⟩ := hok
  refine g_callV1 (c_X6_isWord (m_X6_nextToken I J) (j_X6_nextToken I J) 11 (by decide) ho2) w_X6_isWord l_X6_82 d_X6_wantsWeather_7 rfl (Nat.le_of_ble_eq_true rfl) rfl rfl (Nat.le_of_ble_eq_true rfl) ⟨Nat.le_of_ble_eq_true rfl, Nat.le_of_ble_eq_true rfl⟩ ⟨Nat.zero_le _, Nat.zero_le _⟩ ⟨rfl, rfl⟩ ?_
  refine g_ifnz 28 d_X6_wantsWeather_10 (by decide) (fun h1 => ?_) (fun h1 => ?_)
  · skip
    rw [if_pos h1] at hok
    refine g_aload_n1 rfl d_X6_wantsWeather_28 ?_
    refine g_iload_n2 rfl d_X6_wantsWeather_29 ?_
    refine g_aload_n0 rfl d_X6_wantsWeather_30 ?_
    refine g_ldcS (n := 11) (tx := "wet") (by decide) d_X6_wantsWeather_31 ?_
    have ho3 := hok
    refine g_callV1 (c_X6_isWord (m_X6_nextToken I J) (j_X6_nextToken I J) 11 (by decide) ho3) w_X6_isWord l_X6_82 d_X6_wantsWeather_33 rfl (Nat.le_of_ble_eq_true rfl) rfl rfl (Nat.le_of_ble_eq_true rfl) ⟨Nat.le_of_ble_eq_true rfl, Nat.le_of_ble_eq_true rfl⟩ ⟨Nat.zero_le _, Nat.zero_le _⟩ ⟨rfl, rfl⟩ ?_
    refine g_cut (pc' := 44) (vs' := [some (.ref (ka k 2)), some (.ref (ka k x1)), some (.int x2)]) (st' := [.int (u0_X6_wantsWeather I J), .int x2, .ref (ka k x1)]) (M' := (81, ex, (m_X6_nextToken I J), (j_X6_nextToken I J), Pw w)) (fun hj => ?_) ?_
    · skip
      refine g_ifz 43 d_X6_wantsWeather_36 (by decide) (fun h2 => ?_) (fun h2 => ?_)
      · skip
        refine g_iconst 2 d_X6_wantsWeather_43 (by decide) ?_
        (try simp only [if_neg (nb h2), opv_eq, if_true, if_false, Bool.false_eq_true, reduceCtorEq, b2i_t, b2i_f, u0_X6_wantsWeather] at hj); exact hj
      · skip
        refine g_iconst 1 d_X6_wantsWeather_39 (by decide) ?_
        refine g_goto 44 d_X6_wantsWeather_40 (by decide) ?_
        (try simp only [if_pos h2, opv_eq, if_true, if_false, Bool.false_eq_true, reduceCtorEq, b2i_t, b2i_f, u0_X6_wantsWeather] at hj); exact hj
    · skip
      refine g_callV0 (c_X7_put (m_X6_nextToken I J) x1 hx1 x2 (u0_X6_wantsWeather I J) (okt_X7_put (m_X6_nextToken I J) x1 hx1 x2 (u0_X6_wantsWeather I J))) w_X7_put l_X6_210 d_X6_wantsWeather_44 hx1 (kd_sg hx1 (by decide)) rfl rfl (Nat.le_of_ble_eq_true rfl) ⟨Nat.le_of_ble_eq_true rfl, Nat.le_of_ble_eq_true rfl⟩ ⟨Nat.zero_le _, Nat.zero_le _⟩ ⟨rfl, rfl⟩ ?_
      refine g_iconst 1 d_X6_wantsWeather_47 (by decide) ?_
      exact g_zret rfl (by decide) d_X6_wantsWeather_48 ⟨by simp only [f_X6_wantsWeather, m_X6_wantsWeather, j_X6_wantsWeather, if_pos h1, opv_eq, if_true, if_false, Bool.false_eq_true, reduceCtorEq, b2i_t, b2i_f], by simp only [f_X6_wantsWeather, m_X6_wantsWeather, j_X6_wantsWeather, if_pos h1, opv_eq, if_true, if_false, Bool.false_eq_true, reduceCtorEq, b2i_t, b2i_f]⟩ (Nat.le_refl _) (Nat.le_refl _)
  · skip
    rw [if_neg (nb h1)] at hok
    refine g_aload_n0 rfl d_X6_wantsWeather_13 ?_
    refine g_ldcS (n := 12) (tx := "fine") (by decide) d_X6_wantsWeather_14 ?_
    obtain ⟨ho4, hok⟩ := hok
    refine g_callV1 (c_X6_isWord (m_X6_nextToken I J) (j_X6_nextToken I J) 12 (by decide) ho4) w_X6_isWord l_X6_82 d_X6_wantsWeather_16 rfl (Nat.le_of_ble_eq_true rfl) rfl rfl (Nat.le_of_ble_eq_true rfl) ⟨Nat.le_of_ble_eq_true rfl, Nat.le_of_ble_eq_true rfl⟩ ⟨Nat.zero_le _, Nat.zero_le _⟩ ⟨rfl, rfl⟩ ?_
    refine g_ifnz 28 d_X6_wantsWeather_19 (by decide) (fun h3 => ?_) (fun h3 => ?_)
    · skip
      rw [if_pos h3] at hok
      refine g_aload_n1 rfl d_X6_wantsWeather_28 ?_
      refine g_iload_n2 rfl d_X6_wantsWeather_29 ?_
      refine g_aload_n0 rfl d_X6_wantsWeather_30 ?_
      refine g_ldcS (n := 11) (tx := "wet") (by decide) d_X6_wantsWeather_31 ?_
      have ho5 := hok
      refine g_callV1 (c_X6_isWord (m_X6_nextToken I J) (j_X6_nextToken I J) 11 (by decide) ho5) w_X6_isWord l_X6_82 d_X6_wantsWeather_33 rfl (Nat.le_of_ble_eq_true rfl) rfl rfl (Nat.le_of_ble_eq_true rfl) ⟨Nat.le_of_ble_eq_true rfl, Nat.le_of_ble_eq_true rfl⟩ ⟨Nat.zero_le _, Nat.zero_le _⟩ ⟨rfl, rfl⟩ ?_
      refine g_cut (pc' := 44) (vs' := [some (.ref (ka k 2)), some (.ref (ka k x1)), some (.int x2)]) (st' := [.int (u1_X6_wantsWeather I J), .int x2, .ref (ka k x1)]) (M' := (81, ex, (m_X6_nextToken I J), (j_X6_nextToken I J), Pw w)) (fun hj => ?_) ?_
      · skip
        refine g_ifz 43 d_X6_wantsWeather_36 (by decide) (fun h4 => ?_) (fun h4 => ?_)
        · skip
          refine g_iconst 2 d_X6_wantsWeather_43 (by decide) ?_
          (try simp only [if_neg (nb h4), opv_eq, if_true, if_false, Bool.false_eq_true, reduceCtorEq, b2i_t, b2i_f, u1_X6_wantsWeather] at hj); exact hj
        · skip
          refine g_iconst 1 d_X6_wantsWeather_39 (by decide) ?_
          refine g_goto 44 d_X6_wantsWeather_40 (by decide) ?_
          (try simp only [if_pos h4, opv_eq, if_true, if_false, Bool.false_eq_true, reduceCtorEq, b2i_t, b2i_f, u1_X6_wantsWeather] at hj); exact hj
      · skip
        refine g_callV0 (c_X7_put (m_X6_nextToken I J) x1 hx1 x2 (u1_X6_wantsWeather I J) (okt_X7_put (m_X6_nextToken I J) x1 hx1 x2 (u1_X6_wantsWeather I J))) w_X7_put l_X6_210 d_X6_wantsWeather_44 hx1 (kd_sg hx1 (by decide)) rfl rfl (Nat.le_of_ble_eq_true rfl) ⟨Nat.le_of_ble_eq_true rfl, Nat.le_of_ble_eq_true rfl⟩ ⟨Nat.zero_le _, Nat.zero_le _⟩ ⟨rfl, rfl⟩ ?_
        refine g_iconst 1 d_X6_wantsWeather_47 (by decide) ?_
        exact g_zret rfl (by decide) d_X6_wantsWeather_48 ⟨by simp only [f_X6_wantsWeather, m_X6_wantsWeather, j_X6_wantsWeather, if_neg (nb h1), if_pos h3, opv_eq, if_true, if_false, Bool.false_eq_true, reduceCtorEq, b2i_t, b2i_f], by simp only [f_X6_wantsWeather, m_X6_wantsWeather, j_X6_wantsWeather, if_neg (nb h1), if_pos h3, opv_eq, if_true, if_false, Bool.false_eq_true, reduceCtorEq, b2i_t, b2i_f]⟩ (Nat.le_refl _) (Nat.le_refl _)
    · skip
      refine g_aload_n0 rfl d_X6_wantsWeather_22 ?_
      refine g_iconst 1 d_X6_wantsWeather_23 (by decide) ?_
      refine g_callV1 (c_X6_fails (m_X6_nextToken I J) 1) w_X6_fails l_X6_72 d_X6_wantsWeather_24 rfl (Nat.le_of_ble_eq_true rfl) rfl rfl (Nat.le_of_ble_eq_true rfl) ⟨Nat.le_of_ble_eq_true rfl, Nat.le_of_ble_eq_true rfl⟩ ⟨Nat.zero_le _, Nat.zero_le _⟩ ⟨rfl, rfl⟩ ?_
      exact g_zret rfl (nar_b _) d_X6_wantsWeather_27 ⟨by simp only [f_X6_wantsWeather, m_X6_wantsWeather, j_X6_wantsWeather, if_neg (nb h1), if_neg (nb h3), opv_eq, if_true, if_false, Bool.false_eq_true, reduceCtorEq, b2i_t, b2i_f], by simp only [f_X6_wantsWeather, m_X6_wantsWeather, j_X6_wantsWeather, if_neg (nb h1), if_neg (nb h3), opv_eq, if_true, if_false, Bool.false_eq_true, reduceCtorEq, b2i_t, b2i_f]⟩ (Nat.le_refl _) (Nat.le_refl _)
noncomputable def u0_X6_wantsWho (I : Nat → Nat → Int32) (J : Nat → Nat → Int64) : Int32 := opv (if (f_X6_isWord (m_X6_nextToken I J) (j_X6_nextToken I J) 17) = true then 0 else (if (f_X6_isWord (m_X6_nextToken I J) (j_X6_nextToken I J) 18) = true then 1 else (if (f_X6_isWord (m_X6_nextToken I J) (j_X6_nextToken I J) 19) = true then 2 else (if (f_X6_isWord (m_X6_nextToken I J) (j_X6_nextToken I J) 20) = true then 3 else (-1)))))
noncomputable def f_X6_wantsWho (I : Nat → Nat → Int32) (J : Nat → Nat → Int64) (w : Bool)  : Bool := opv (if (u0_X6_wantsWho I J) = (-1) then f_X6_fails (m_X6_nextToken I J) 1 else true)
noncomputable def m_X6_wantsWho (I : Nat → Nat → Int32) (J : Nat → Nat → Int64) (w : Bool)  : Nat → Nat → Int32 := opv (if (u0_X6_wantsWho I J) = (-1) then (m_X6_fails (m_X6_nextToken I J) 1) else (m_X7_put (m_X6_nextToken I J) (rt (dr w) 9) 1 (u0_X6_wantsWho I J)))
noncomputable def j_X6_wantsWho (I : Nat → Nat → Int32) (J : Nat → Nat → Int64) (w : Bool)  : Nat → Nat → Int64 := opv (j_X6_nextToken I J)
noncomputable def ok_X6_wantsWho (I : Nat → Nat → Int32) (J : Nat → Nat → Int64) (w : Bool)  : Prop := opv (ok_X6_nextToken I J ∧ (ok_X6_isWord (m_X6_nextToken I J) (j_X6_nextToken I J) 17 ∧ (if (f_X6_isWord (m_X6_nextToken I J) (j_X6_nextToken I J) 17) = true then True else (ok_X6_isWord (m_X6_nextToken I J) (j_X6_nextToken I J) 18 ∧ (if (f_X6_isWord (m_X6_nextToken I J) (j_X6_nextToken I J) 18) = true then True else (ok_X6_isWord (m_X6_nextToken I J) (j_X6_nextToken I J) 19 ∧ (if (f_X6_isWord (m_X6_nextToken I J) (j_X6_nextToken I J) 19) = true then True else ok_X6_isWord (m_X6_nextToken I J) (j_X6_nextToken I J) 20)))))))
set_option maxHeartbeats 800000 in
set_option maxRecDepth 4000 in
theorem c_X6_wantsWho {k : KT} {ex : Bool} (I : Nat → Nat → Int32) (J : Nat → Nat → Int64) (w : Bool)   (hok : ok_X6_wantsWho I J w) : Cx k mX6_wantsWho 6 [.ref (ka k 2)] (81, ex, I, J, Pw w) (some (.int (b2i (f_X6_wantsWho I J w)))) (81, ex, m_X6_wantsWho I J w, j_X6_wantsWho I J w, Pw w) := by
  refine Ct.of rfl [some (.ref (ka k 2)), none] rfl rfl (Nat.le_of_ble_eq_true rfl) ?_
  rw [ok_X6_wantsWho, opv_eq] at hok
  refine g_aload_n0 rfl d_X6_wantsWho_0 ?_
  obtain ⟨ho1, hok⟩ := hok
  refine g_callV0 (c_X6_nextToken I J  ho1) w_X6_nextToken l_X6_66 d_X6_wantsWho_1 rfl (Nat.le_of_ble_eq_true rfl) rfl rfl (Nat.le_of_ble_eq_true rfl) ⟨Nat.le_of_ble_eq_true rfl, Nat.le_of_ble_eq_true rfl⟩ ⟨Nat.zero_le _, Nat.zero_le _⟩ ⟨rfl, rfl⟩ ?_
  refine g_aload_n0 rfl d_X6_wantsWho_4 ?_
  refine g_ldcS (n := 17) (tx := "none") (by decide) d_X6_wantsWho_5 ?_
  obtain ⟨ho2, hok⟩ := hok
  refine g_callV1 (c_X6_isWord (m_X6_nextToken I J) (j_X6_nextToken I J) 17 (by decide) ho2) w_X6_isWord l_X6_82 d_X6_wantsWho_7 rfl (Nat.le_of_ble_eq_true rfl) rfl rfl (Nat.le_of_ble_eq_true rfl) ⟨Nat.le_of_ble_eq_true rfl, Nat.le_of_ble_eq_true rfl⟩ ⟨Nat.zero_le _, Nat.zero_le _⟩ ⟨rfl, rfl⟩ ?_
  refine g_cut (pc' := 57) (vs' := [some (.ref (ka k 2)), none]) (st' := [.int (u0_X6_wantsWho I J)]) (M' := (81, ex, (m_X6_nextToken I J), (j_X6_nextToken I J), Pw w)) (fun hj => ?_) ?_
  · skip
    refine g_ifz 17 d_X6_wantsWho_10 (by decide) (fun h1 => ?_) (fun h1 => ?_)
    · skip
      rw [if_neg (nb h1)] at hok
      refine g_aload_n0 rfl d_X6_wantsWho_17 ?_
      refine g_ldcS (n := 18) (tx := "he") (by decide) d_X6_wantsWho_18 ?_
      obtain ⟨ho3, hok⟩ := hok
      refine g_callV1 (c_X6_isWord (m_X6_nextToken I J) (j_X6_nextToken I J) 18 (by decide) ho3) w_X6_isWord l_X6_82 d_X6_wantsWho_20 rfl (Nat.le_of_ble_eq_true rfl) rfl rfl (Nat.le_of_ble_eq_true rfl) ⟨Nat.le_of_ble_eq_true rfl, Nat.le_of_ble_eq_true rfl⟩ ⟨Nat.zero_le _, Nat.zero_le _⟩ ⟨rfl, rfl⟩ ?_
      refine g_ifz 30 d_X6_wantsWho_23 (by decide) (fun h2 => ?_) (fun h2 => ?_)
      · skip
        rw [if_neg (nb h2)] at hok
        refine g_aload_n0 rfl d_X6_wantsWho_30 ?_
        refine g_ldcS (n := 19) (tx := "she") (by decide) d_X6_wantsWho_31 ?_
        obtain ⟨ho4, hok⟩ := hok
        refine g_callV1 (c_X6_isWord (m_X6_nextToken I J) (j_X6_nextToken I J) 19 (by decide) ho4) w_X6_isWord l_X6_82 d_X6_wantsWho_33 rfl (Nat.le_of_ble_eq_true rfl) rfl rfl (Nat.le_of_ble_eq_true rfl) ⟨Nat.le_of_ble_eq_true rfl, Nat.le_of_ble_eq_true rfl⟩ ⟨Nat.zero_le _, Nat.zero_le _⟩ ⟨rfl, rfl⟩ ?_
        refine g_ifz 43 d_X6_wantsWho_36 (by decide) (fun h3 => ?_) (fun h3 => ?_)
        · skip
          rw [if_neg (nb h3)] at hok
          refine g_aload_n0 rfl d_X6_wantsWho_43 ?_
          refine g_ldcS (n := 20) (tx := "both") (by decide) d_X6_wantsWho_44 ?_
          have ho5 := hok
          refine g_callV1 (c_X6_isWord (m_X6_nextToken I J) (j_X6_nextToken I J) 20 (by decide) ho5) w_X6_isWord l_X6_82 d_X6_wantsWho_46 rfl (Nat.le_of_ble_eq_true rfl) rfl rfl (Nat.le_of_ble_eq_true rfl) ⟨Nat.le_of_ble_eq_true rfl, Nat.le_of_ble_eq_true rfl⟩ ⟨Nat.zero_le _, Nat.zero_le _⟩ ⟨rfl, rfl⟩ ?_
          refine g_ifz 56 d_X6_wantsWho_49 (by decide) (fun h4 => ?_) (fun h4 => ?_)
          · skip
            refine g_iconst (-1) d_X6_wantsWho_56 (by decide) ?_
            (try simp only [if_neg (nb h1), if_neg (nb h2), if_neg (nb h3), if_neg (nb h4), opv_eq, if_true, if_false, Bool.false_eq_true, reduceCtorEq, b2i_t, b2i_f, u0_X6_wantsWho] at hj); exact hj
          · skip
            refine g_iconst 3 d_X6_wantsWho_52 (by decide) ?_
            refine g_goto 57 d_X6_wantsWho_53 (by decide) ?_
            (try simp only [if_neg (nb h1), if_neg (nb h2), if_neg (nb h3), if_pos h4, opv_eq, if_true, if_false, Bool.false_eq_true, reduceCtorEq, b2i_t, b2i_f, u0_X6_wantsWho] at hj); exact hj
        · skip
          refine g_iconst 2 d_X6_wantsWho_39 (by decide) ?_
          refine g_goto 57 d_X6_wantsWho_40 (by decide) ?_
          (try simp only [if_neg (nb h1), if_neg (nb h2), if_pos h3, opv_eq, if_true, if_false, Bool.false_eq_true, reduceCtorEq, b2i_t, b2i_f, u0_X6_wantsWho] at hj); exact hj
      · skip
        refine g_iconst 1 d_X6_wantsWho_26 (by decide) ?_
        refine g_goto 57 d_X6_wantsWho_27 (by decide) ?_
        (try simp only [if_neg (nb h1), if_pos h2, opv_eq, if_true, if_false, Bool.false_eq_true, reduceCtorEq, b2i_t, b2i_f, u0_X6_wantsWho] at hj); exact hj
    · skip
      refine g_iconst 0 d_X6_wantsWho_13 (by decide) ?_
      refine g_goto 57 d_X6_wantsWho_14 (by decide) ?_
      (try simp only [if_pos h1, opv_eq, if_true, if_false, Bool.false_eq_true, reduceCtorEq, b2i_t, b2i_f, u0_X6_wantsWho] at hj); exact hj
  · skip
    refine g_isn1 rfl d_X6_wantsWho_57 ?_
    refine g_iload_n1 rfl d_X6_wantsWho_58 ?_
    refine g_iconst (-1) d_X6_wantsWho_59 (by decide) ?_
    refine g_icmp_ne 69 d_X6_wantsWho_60 (by decide) (fun h5 => ?_) (fun h5 => ?_)
    · skip
      refine g_aload_n0 rfl d_X6_wantsWho_69 ?_
      refine g_getP (b := dr w) f_X6_12 d_X6_wantsWho_70 rfl (Nat.le_of_ble_eq_true rfl) rfl rfl ?_
      refine g_getP (b := rt (dr w) 9) f_X6_118 d_X6_wantsWho_73 (kd_dr w) (kd_sg (kd_dr w) (by decide)) rfl (pw_rt (kd_dr w) (by decide) (by decide)) ?_
      refine g_iconst 1 d_X6_wantsWho_76 (by decide) ?_
      refine g_iload_n1 rfl d_X6_wantsWho_77 ?_
      refine g_callV0 (c_X7_put (m_X6_nextToken I J) (rt (dr w) 9) (kt7 (kd_dr w)).2.2.1 1 (u0_X6_wantsWho I J) (okt_X7_put (m_X6_nextToken I J) (rt (dr w) 9) (kt7 (kd_dr w)).2.2.1 1 (u0_X6_wantsWho I J))) w_X7_put l_X6_210 d_X6_wantsWho_78 (kt7 (kd_dr w)).2.2.1 (kd_sg ((kt7 (kd_dr w)).2.2.1) (by decide)) rfl rfl (Nat.le_of_ble_eq_true rfl) ⟨Nat.le_of_ble_eq_true rfl, Nat.le_of_ble_eq_true rfl⟩ ⟨Nat.zero_le _, Nat.zero_le _⟩ ⟨rfl, rfl⟩ ?_
      refine g_iconst 1 d_X6_wantsWho_81 (by decide) ?_
      exact g_zret rfl (by decide) d_X6_wantsWho_82 ⟨by simp only [f_X6_wantsWho, m_X6_wantsWho, j_X6_wantsWho, if_neg h5, opv_eq, if_true, if_false, Bool.false_eq_true, reduceCtorEq, b2i_t, b2i_f], by simp only [f_X6_wantsWho, m_X6_wantsWho, j_X6_wantsWho, if_neg h5, opv_eq, if_true, if_false, Bool.false_eq_true, reduceCtorEq, b2i_t, b2i_f]⟩ (Nat.le_refl _) (Nat.le_refl _)
    · skip
      refine g_aload_n0 rfl d_X6_wantsWho_63 ?_
      refine g_iconst 1 d_X6_wantsWho_64 (by decide) ?_
      refine g_callV1 (c_X6_fails (m_X6_nextToken I J) 1) w_X6_fails l_X6_72 d_X6_wantsWho_65 rfl (Nat.le_of_ble_eq_true rfl) rfl rfl (Nat.le_of_ble_eq_true rfl) ⟨Nat.le_of_ble_eq_true rfl, Nat.le_of_ble_eq_true rfl⟩ ⟨Nat.zero_le _, Nat.zero_le _⟩ ⟨rfl, rfl⟩ ?_
      exact g_zret rfl (nar_b _) d_X6_wantsWho_68 ⟨by simp only [f_X6_wantsWho, m_X6_wantsWho, j_X6_wantsWho, if_pos h5, opv_eq, if_true, if_false, Bool.false_eq_true, reduceCtorEq, b2i_t, b2i_f], by simp only [f_X6_wantsWho, m_X6_wantsWho, j_X6_wantsWho, if_pos h5, opv_eq, if_true, if_false, Bool.false_eq_true, reduceCtorEq, b2i_t, b2i_f]⟩ (Nat.le_refl _) (Nat.le_refl _)
noncomputable def u0_X6_wantsNewName (I : Nat → Nat → Int32) (J : Nat → Nat → Int64) (x1 : Int32) : Nat → Nat → Int32 := opv (if (Int32.ofNat (sz 12)) ≤ ((m_X6_nextToken I J) 2 14) then (m_X6_nextToken I J) else (if (Int32.ofNat (sz 13)) ≤ ((m_X6_nextToken I J) 2 14) then (m_X6_nextToken I J) else (st2 (va_up (m_X6_nextToken I J) 13 (upd ((m_X6_nextToken I J) 13) ((m_X6_nextToken I J) 2 14).toNatClampNeg x1)) 2 14 (((m_X6_nextToken I J) 2 14) + 1))))
noncomputable def u1_X6_wantsNewName (I : Nat → Nat → Int32) (J : Nat → Nat → Int64) : Nat → Nat → Int64 := opv (if (Int32.ofNat (sz 12)) ≤ ((m_X6_nextToken I J) 2 14) then (j_X6_nextToken I J) else (if (Int32.ofNat (sz 13)) ≤ ((m_X6_nextToken I J) 2 14) then (j_X6_nextToken I J) else (va_up (j_X6_nextToken I J) 12 (vp_updL ((j_X6_nextToken I J) 12) ((m_X6_nextToken I J) 2 14).toNatClampNeg ((j_X6_nextToken I J) 2 8)))))
noncomputable def f_X6_wantsNewName (I : Nat → Nat → Int32) (J : Nat → Nat → Int64) (x1 : Int32) : Bool := opv (if ((m_X6_nextToken I J) 2 6) = 1 then (if (f_X6_beginsLine (m_X6_nextToken I J) (j_X6_nextToken I J)) = true then f_X6_fails (m_X6_nextToken I J) 1 else (if (f_X6_nameNumber (m_X6_nextToken I J) (j_X6_nextToken I J)) = (-1) then true else f_X6_fails (m_X6_nextToken I J) 3)) else f_X6_fails (m_X6_nextToken I J) 1)
noncomputable def m_X6_wantsNewName (I : Nat → Nat → Int32) (J : Nat → Nat → Int64) (x1 : Int32) : Nat → Nat → Int32 := opv (if ((m_X6_nextToken I J) 2 6) = 1 then (if (f_X6_beginsLine (m_X6_nextToken I J) (j_X6_nextToken I J)) = true then (m_X6_fails (m_X6_nextToken I J) 1) else (if (f_X6_nameNumber (m_X6_nextToken I J) (j_X6_nextToken I J)) = (-1) then (u0_X6_wantsNewName I J x1) else (m_X6_fails (m_X6_nextToken I J) 3))) else (m_X6_fails (m_X6_nextToken I J) 1))
noncomputable def j_X6_wantsNewName (I : Nat → Nat → Int32) (J : Nat → Nat → Int64) (x1 : Int32) : Nat → Nat → Int64 := opv (if ((m_X6_nextToken I J) 2 6) = 1 then (if (f_X6_beginsLine (m_X6_nextToken I J) (j_X6_nextToken I J)) = true then (j_X6_nextToken I J) else (if (f_X6_nameNumber (m_X6_nextToken I J) (j_X6_nextToken I J)) = (-1) then (u1_X6_wantsNewName I J) else (j_X6_nextToken I J))) else (j_X6_nextToken I J))
noncomputable def ok_X6_wantsNewName (I : Nat → Nat → Int32) (J : Nat → Nat → Int64) (x1 : Int32) : Prop := opv (ok_X6_nextToken I J ∧ (if ((m_X6_nextToken I J) 2 6) = 1 then (ok_X6_beginsLine (m_X6_nextToken I J) (j_X6_nextToken I J) ∧ (if (f_X6_beginsLine (m_X6_nextToken I J) (j_X6_nextToken I J)) = true then True else (ok_X6_nameNumber (m_X6_nextToken I J) (j_X6_nextToken I J) ∧ (if (f_X6_nameNumber (m_X6_nextToken I J) (j_X6_nextToken I J)) = (-1) then (if (Int32.ofNat (sz 12)) ≤ ((m_X6_nextToken I J) 2 14) then True else (if (Int32.ofNat (sz 13)) ≤ ((m_X6_nextToken I J) 2 14) then True else (vp_in ((m_X6_nextToken I J) 2 14) (sz 12) ∧ vp_in ((m_X6_nextToken I J) 2 14) (sz 13)))) else True)))) else True))
set_option maxHeartbeats 800000 in
set_option maxRecDepth 4000 in
theorem c_X6_wantsNewName {k : KT} {ex : Bool} {w : Bool} (I : Nat → Nat → Int32) (J : Nat → Nat → Int64) (x1 : Int32)  (hok : ok_X6_wantsNewName I J x1) : Cx k mX6_wantsNewName 7 [.ref (ka k 2), .int x1] (81, ex, I, J, Pw w) (some (.int (b2i (f_X6_wantsNewName I J x1)))) (81, ex, m_X6_wantsNewName I J x1, j_X6_wantsNewName I J x1, Pw w) := by
  refine Ct.of rfl [some (.ref (ka k 2)), some (.int x1)] rfl rfl (Nat.le_of_ble_eq_true rfl) ?_
  rw [ok_X6_wantsNewName, opv_eq] at hok
  refine g_aload_n0 rfl d_X6_wantsNewName_0 ?_
  obtain ⟨ho1, hok⟩ := hok
  refine g_callV0 (c_X6_nextToken I J  ho1) w_X6_nextToken l_X6_66 d_X6_wantsNewName_1 rfl (Nat.le_of_ble_eq_true rfl) rfl rfl (Nat.le_of_ble_eq_true rfl) ⟨Nat.le_of_ble_eq_true rfl, Nat.le_of_ble_eq_true rfl⟩ ⟨Nat.zero_le _, Nat.zero_le _⟩ ⟨rfl, rfl⟩ ?_
  refine g_aload_n0 rfl d_X6_wantsNewName_4 ?_
  refine g_getI f_X6_69 d_X6_wantsNewName_5 rfl (Nat.le_of_ble_eq_true rfl) rfl ?_
  refine g_iconst 1 d_X6_wantsNewName_8 (by decide) ?_
  refine g_icmp_ne 19 d_X6_wantsNewName_9 (by decide) (fun h1 => ?_) (fun h1 => ?_)
  · skip
    refine g_aload_n0 rfl d_X6_wantsNewName_19 ?_
    refine g_iconst 1 d_X6_wantsNewName_20 (by decide) ?_
    refine g_callV1 (c_X6_fails (m_X6_nextToken I J) 1) w_X6_fails l_X6_72 d_X6_wantsNewName_21 rfl (Nat.le_of_ble_eq_true rfl) rfl rfl (Nat.le_of_ble_eq_true rfl) ⟨Nat.le_of_ble_eq_true rfl, Nat.le_of_ble_eq_true rfl⟩ ⟨Nat.zero_le _, Nat.zero_le _⟩ ⟨rfl, rfl⟩ ?_
    exact g_zret rfl (nar_b _) d_X6_wantsNewName_24 ⟨by simp only [f_X6_wantsNewName, m_X6_wantsNewName, j_X6_wantsNewName, if_neg h1, opv_eq, if_true, if_false, Bool.false_eq_true, reduceCtorEq, b2i_t, b2i_f], by simp only [f_X6_wantsNewName, m_X6_wantsNewName, j_X6_wantsNewName, if_neg h1, opv_eq, if_true, if_false, Bool.false_eq_true, reduceCtorEq, b2i_t, b2i_f]⟩ (Nat.le_refl _) (Nat.le_refl _)
  · skip
    rw [if_pos h1] at hok
    refine g_aload_n0 rfl d_X6_wantsNewName_12 ?_
    obtain ⟨ho2, hok⟩ := hok
    refine g_callV1 (c_X6_beginsLine (m_X6_nextToken I J) (j_X6_nextToken I J)  ho2) w_X6_beginsLine l_X6_76 d_X6_wantsNewName_13 rfl (Nat.le_of_ble_eq_true rfl) rfl rfl (Nat.le_of_ble_eq_true rfl) ⟨Nat.le_of_ble_eq_true rfl, Nat.le_of_ble_eq_true rfl⟩ ⟨Nat.zero_le _, Nat.zero_le _⟩ ⟨rfl, rfl⟩ ?_
    refine g_ifz 25 d_X6_wantsNewName_16 (by decide) (fun h2 => ?_) (fun h2 => ?_)
    · skip
      rw [if_neg (nb h2)] at hok
      refine g_aload_n0 rfl d_X6_wantsNewName_25 ?_
      obtain ⟨ho3, hok⟩ := hok
      refine g_callV1 (c_X6_nameNumber (m_X6_nextToken I J) (j_X6_nextToken I J)  ho3) w_X6_nameNumber l_X6_234 d_X6_wantsNewName_26 rfl (Nat.le_of_ble_eq_true rfl) rfl rfl (Nat.le_of_ble_eq_true rfl) ⟨Nat.le_of_ble_eq_true rfl, Nat.le_of_ble_eq_true rfl⟩ ⟨Nat.zero_le _, Nat.zero_le _⟩ ⟨rfl, rfl⟩ ?_
      refine g_iconst (-1) d_X6_wantsNewName_29 (by decide) ?_
      refine g_icmp_eq 39 d_X6_wantsNewName_30 (by decide) (fun h3 => ?_) (fun h3 => ?_)
      · skip
        rw [if_pos h3] at hok
        refine g_aload_n0 rfl d_X6_wantsNewName_39 ?_
        refine g_getI f_X6_59 d_X6_wantsNewName_40 rfl (Nat.le_of_ble_eq_true rfl) rfl ?_
        refine g_aload_n0 rfl d_X6_wantsNewName_43 ?_
        refine g_getP (b := 12) f_X6_22 d_X6_wantsNewName_44 rfl (Nat.le_of_ble_eq_true rfl) rfl rfl ?_
        refine g_alen13 d_X6_wantsNewName_47 rfl (Nat.le_of_ble_eq_true rfl) ?_
        refine g_cut (pc' := 96) (vs' := [some (.ref (ka k 2)), some (.int x1)]) (st' := []) (M' := (81, ex, (u0_X6_wantsNewName I J x1), (u1_X6_wantsNewName I J), Pw w)) (fun hj => ?_) ?_
        · skip
          refine g_icmp_ge 96 d_X6_wantsNewName_48 (by decide) (fun h4 => ?_) (fun h4 => ?_)
          · skip
            (try simp only [if_pos h4, opv_eq, if_true, if_false, Bool.false_eq_true, reduceCtorEq, b2i_t, b2i_f, u0_X6_wantsNewName, u1_X6_wantsNewName] at hj); exact hj
          · skip
            rw [if_neg h4] at hok
            refine g_aload_n0 rfl d_X6_wantsNewName_51 ?_
            refine g_getI f_X6_59 d_X6_wantsNewName_52 rfl (Nat.le_of_ble_eq_true rfl) rfl ?_
            refine g_aload_n0 rfl d_X6_wantsNewName_55 ?_
            refine g_getP (b := 13) f_X6_26 d_X6_wantsNewName_56 rfl (Nat.le_of_ble_eq_true rfl) rfl rfl ?_
            refine g_alen12 d_X6_wantsNewName_59 rfl (Nat.le_of_ble_eq_true rfl) ?_
            refine g_icmp_ge 96 d_X6_wantsNewName_60 (by decide) (fun h5 => ?_) (fun h5 => ?_)
            · skip
              (try simp only [if_neg h4, if_pos h5, opv_eq, if_true, if_false, Bool.false_eq_true, reduceCtorEq, b2i_t, b2i_f, u0_X6_wantsNewName, u1_X6_wantsNewName] at hj); exact hj
            · skip
              rw [if_neg h5] at hok
              refine g_aload_n0 rfl d_X6_wantsNewName_63 ?_
              refine g_getP (b := 12) f_X6_22 d_X6_wantsNewName_64 rfl (Nat.le_of_ble_eq_true rfl) rfl rfl ?_
              refine g_aload_n0 rfl d_X6_wantsNewName_67 ?_
              refine g_getI f_X6_59 d_X6_wantsNewName_68 rfl (Nat.le_of_ble_eq_true rfl) rfl ?_
              refine g_aload_n0 rfl d_X6_wantsNewName_71 ?_
              refine g_getJ f_X6_238 d_X6_wantsNewName_72 rfl (Nat.le_of_ble_eq_true rfl) rfl ?_
              obtain ⟨ho4, hok⟩ := hok
              refine g_last d_X6_wantsNewName_75 rfl (Nat.le_of_ble_eq_true rfl) ho4 ?_
              refine g_aload_n0 rfl d_X6_wantsNewName_76 ?_
              refine g_getP (b := 13) f_X6_26 d_X6_wantsNewName_77 rfl (Nat.le_of_ble_eq_true rfl) rfl rfl ?_
              refine g_aload_n0 rfl d_X6_wantsNewName_80 ?_
              refine g_getI f_X6_59 d_X6_wantsNewName_81 rfl (Nat.le_of_ble_eq_true rfl) rfl ?_
              refine g_iload_n1 rfl d_X6_wantsNewName_84 ?_
              have ho5 := hok
              refine g_iast d_X6_wantsNewName_85 rfl (Nat.le_of_ble_eq_true rfl) ho5 ?_
              refine g_aload_n0 rfl d_X6_wantsNewName_86 ?_
              refine g_dup rfl d_X6_wantsNewName_87 ?_
              refine g_getIv ((m_X6_nextToken I J) 2 14) (vu_a _ _ (by decide) _) f_X6_59 d_X6_wantsNewName_88 rfl (Nat.le_of_ble_eq_true rfl) rfl ?_
              refine g_iconst 1 d_X6_wantsNewName_91 (by decide) ?_
              refine g_iadd d_X6_wantsNewName_92 ?_
              refine g_putI f_X6_59 d_X6_wantsNewName_93 rfl (Nat.le_of_ble_eq_true rfl) rfl rfl rfl ?_
              (try simp only [if_neg h4, if_neg h5, opv_eq, if_true, if_false, Bool.false_eq_true, reduceCtorEq, b2i_t, b2i_f, u0_X6_wantsNewName, u1_X6_wantsNewName] at hj); exact hj
        · skip
          refine g_iconst 1 d_X6_wantsNewName_96 (by decide) ?_
          exact g_zret rfl (by decide) d_X6_wantsNewName_97 ⟨by simp only [f_X6_wantsNewName, m_X6_wantsNewName, j_X6_wantsNewName, if_pos h1, if_neg (nb h2), if_pos h3, opv_eq, if_true, if_false, Bool.false_eq_true, reduceCtorEq, b2i_t, b2i_f], by simp only [f_X6_wantsNewName, m_X6_wantsNewName, j_X6_wantsNewName, if_pos h1, if_neg (nb h2), if_pos h3, opv_eq, if_true, if_false, Bool.false_eq_true, reduceCtorEq, b2i_t, b2i_f]⟩ (Nat.le_refl _) (Nat.le_refl _)
      · skip
        refine g_aload_n0 rfl d_X6_wantsNewName_33 ?_
        refine g_iconst 3 d_X6_wantsNewName_34 (by decide) ?_
        refine g_callV1 (c_X6_fails (m_X6_nextToken I J) 3) w_X6_fails l_X6_72 d_X6_wantsNewName_35 rfl (Nat.le_of_ble_eq_true rfl) rfl rfl (Nat.le_of_ble_eq_true rfl) ⟨Nat.le_of_ble_eq_true rfl, Nat.le_of_ble_eq_true rfl⟩ ⟨Nat.zero_le _, Nat.zero_le _⟩ ⟨rfl, rfl⟩ ?_
        exact g_zret rfl (nar_b _) d_X6_wantsNewName_38 ⟨by simp only [f_X6_wantsNewName, m_X6_wantsNewName, j_X6_wantsNewName, if_pos h1, if_neg (nb h2), if_neg h3, opv_eq, if_true, if_false, Bool.false_eq_true, reduceCtorEq, b2i_t, b2i_f], by simp only [f_X6_wantsNewName, m_X6_wantsNewName, j_X6_wantsNewName, if_pos h1, if_neg (nb h2), if_neg h3, opv_eq, if_true, if_false, Bool.false_eq_true, reduceCtorEq, b2i_t, b2i_f]⟩ (Nat.le_refl _) (Nat.le_refl _)
    · skip
      refine g_aload_n0 rfl d_X6_wantsNewName_19 ?_
      refine g_iconst 1 d_X6_wantsNewName_20 (by decide) ?_
      refine g_callV1 (c_X6_fails (m_X6_nextToken I J) 1) w_X6_fails l_X6_72 d_X6_wantsNewName_21 rfl (Nat.le_of_ble_eq_true rfl) rfl rfl (Nat.le_of_ble_eq_true rfl) ⟨Nat.le_of_ble_eq_true rfl, Nat.le_of_ble_eq_true rfl⟩ ⟨Nat.zero_le _, Nat.zero_le _⟩ ⟨rfl, rfl⟩ ?_
      exact g_zret rfl (nar_b _) d_X6_wantsNewName_24 ⟨by simp only [f_X6_wantsNewName, m_X6_wantsNewName, j_X6_wantsNewName, if_pos h1, if_pos h2, opv_eq, if_true, if_false, Bool.false_eq_true, reduceCtorEq, b2i_t, b2i_f], by simp only [f_X6_wantsNewName, m_X6_wantsNewName, j_X6_wantsNewName, if_pos h1, if_pos h2, opv_eq, if_true, if_false, Bool.false_eq_true, reduceCtorEq, b2i_t, b2i_f]⟩ (Nat.le_refl _) (Nat.le_refl _)
noncomputable def u0_X6_wantsField (I : Nat → Nat → Int32) (J : Nat → Nat → Int64) : Int32 := opv (if (f_X6_nameNumber (m_X6_nextToken I J) (j_X6_nextToken I J)) < 0 then (-1) else (if (Int32.ofNat (sz 13)) ≤ (f_X6_nameNumber (m_X6_nextToken I J) (j_X6_nextToken I J)) then (-1) else (m_X6_nextToken I J) 13 (f_X6_nameNumber (m_X6_nextToken I J) (j_X6_nextToken I J)).toNatClampNeg))
noncomputable def u1_X6_wantsField (I : Nat → Nat → Int32) (J : Nat → Nat → Int64) : Bool := opv (if (u0_X6_wantsField I J) = (-1) then (if (f_X6_fails (st2 (m_X6_nextToken I J) 2 11 (u0_X6_wantsField I J)) 2) = true then true else false) else true)
noncomputable def u2_X6_wantsField (I : Nat → Nat → Int32) (J : Nat → Nat → Int64) : Nat → Nat → Int32 := opv (if (u0_X6_wantsField I J) = (-1) then (m_X6_fails (st2 (m_X6_nextToken I J) 2 11 (u0_X6_wantsField I J)) 2) else (st2 (m_X6_nextToken I J) 2 11 (u0_X6_wantsField I J)))
noncomputable def f_X6_wantsField (I : Nat → Nat → Int32) (J : Nat → Nat → Int64)  : Bool := opv (if ((m_X6_nextToken I J) 2 6) = 1 then (if (f_X6_beginsLine (m_X6_nextToken I J) (j_X6_nextToken I J)) = true then f_X6_fails (m_X6_nextToken I J) 1 else (u1_X6_wantsField I J)) else f_X6_fails (m_X6_nextToken I J) 1)
noncomputable def m_X6_wantsField (I : Nat → Nat → Int32) (J : Nat → Nat → Int64)  : Nat → Nat → Int32 := opv (if ((m_X6_nextToken I J) 2 6) = 1 then (if (f_X6_beginsLine (m_X6_nextToken I J) (j_X6_nextToken I J)) = true then (m_X6_fails (m_X6_nextToken I J) 1) else (u2_X6_wantsField I J)) else (m_X6_fails (m_X6_nextToken I J) 1))
noncomputable def j_X6_wantsField (I : Nat → Nat → Int32) (J : Nat → Nat → Int64)  : Nat → Nat → Int64 := opv (j_X6_nextToken I J)
noncomputable def ok_X6_wantsField (I : Nat → Nat → Int32) (J : Nat → Nat → Int64)  : Prop := opv (ok_X6_nextToken I J ∧ (if ((m_X6_nextToken I J) 2 6) = 1 then (ok_X6_beginsLine (m_X6_nextToken I J) (j_X6_nextToken I J) ∧ (if (f_X6_beginsLine (m_X6_nextToken I J) (j_X6_nextToken I J)) = true then True else (ok_X6_nameNumber (m_X6_nextToken I J) (j_X6_nextToken I J) ∧ (if (f_X6_nameNumber (m_X6_nextToken I J) (j_X6_nextToken I J)) < 0 then True else (if (Int32.ofNat (sz 13)) ≤ (f_X6_nameNumber (m_X6_nextToken I J) (j_X6_nextToken I J)) then True else vp_in (f_X6_nameNumber (m_X6_nextToken I J) (j_X6_nextToken I J)) (sz 13)))))) else True))
set_option maxHeartbeats 800000 in
set_option maxRecDepth 4000 in
theorem c_X6_wantsField {k : KT} {ex : Bool} {w : Bool} (I : Nat → Nat → Int32) (J : Nat → Nat → Int64)   (hok : ok_X6_wantsField I J) : Cx k mX6_wantsField 7 [.ref (ka k 2)] (81, ex, I, J, Pw w) (some (.int (b2i (f_X6_wantsField I J)))) (81, ex, m_X6_wantsField I J, j_X6_wantsField I J, Pw w) := by
  refine Ct.of rfl [some (.ref (ka k 2)), none] rfl rfl (Nat.le_of_ble_eq_true rfl) ?_
  rw [ok_X6_wantsField, opv_eq] at hok
  refine g_aload_n0 rfl d_X6_wantsField_0 ?_
  obtain ⟨ho1, hok⟩ := hok
  refine g_callV0 (c_X6_nextToken I J  ho1) w_X6_nextToken l_X6_66 d_X6_wantsField_1 rfl (Nat.le_of_ble_eq_true rfl) rfl rfl (Nat.le_of_ble_eq_true rfl) ⟨Nat.le_of_ble_eq_true rfl, Nat.le_of_ble_eq_true rfl⟩ ⟨Nat.zero_le _, Nat.zero_le _⟩ ⟨rfl, rfl⟩ ?_
  refine g_aload_n0 rfl d_X6_wantsField_4 ?_
  refine g_getI f_X6_69 d_X6_wantsField_5 rfl (Nat.le_of_ble_eq_true rfl) rfl ?_
  refine g_iconst 1 d_X6_wantsField_8 (by decide) ?_
  refine g_icmp_ne 19 d_X6_wantsField_9 (by decide) (fun h1 => ?_) (fun h1 => ?_)
  · skip
    refine g_aload_n0 rfl d_X6_wantsField_19 ?_
    refine g_iconst 1 d_X6_wantsField_20 (by decide) ?_
    refine g_callV1 (c_X6_fails (m_X6_nextToken I J) 1) w_X6_fails l_X6_72 d_X6_wantsField_21 rfl (Nat.le_of_ble_eq_true rfl) rfl rfl (Nat.le_of_ble_eq_true rfl) ⟨Nat.le_of_ble_eq_true rfl, Nat.le_of_ble_eq_true rfl⟩ ⟨Nat.zero_le _, Nat.zero_le _⟩ ⟨rfl, rfl⟩ ?_
    exact g_zret rfl (nar_b _) d_X6_wantsField_24 ⟨by simp only [f_X6_wantsField, m_X6_wantsField, j_X6_wantsField, if_neg h1, opv_eq, if_true, if_false, Bool.false_eq_true, reduceCtorEq, b2i_t, b2i_f], by simp only [f_X6_wantsField, m_X6_wantsField, j_X6_wantsField, if_neg h1, opv_eq, if_true, if_false, Bool.false_eq_true, reduceCtorEq, b2i_t, b2i_f]⟩ (Nat.le_refl _) (Nat.le_refl _)
  · skip
    rw [if_pos h1] at hok
    refine g_aload_n0 rfl d_X6_wantsField_12 ?_
    obtain ⟨ho2, hok⟩ := hok
    refine g_callV1 (c_X6_beginsLine (m_X6_nextToken I J) (j_X6_nextToken I J)  ho2) w_X6_beginsLine l_X6_76 d_X6_wantsField_13 rfl (Nat.le_of_ble_eq_true rfl) rfl rfl (Nat.le_of_ble_eq_true rfl) ⟨Nat.le_of_ble_eq_true rfl, Nat.le_of_ble_eq_true rfl⟩ ⟨Nat.zero_le _, Nat.zero_le _⟩ ⟨rfl, rfl⟩ ?_
    refine g_ifz 25 d_X6_wantsField_16 (by decide) (fun h2 => ?_) (fun h2 => ?_)
    · skip
      rw [if_neg (nb h2)] at hok
      refine g_aload_n0 rfl d_X6_wantsField_25 ?_
      obtain ⟨ho3, hok⟩ := hok
      refine g_callV1 (c_X6_nameNumber (m_X6_nextToken I J) (j_X6_nextToken I J)  ho3) w_X6_nameNumber l_X6_234 d_X6_wantsField_26 rfl (Nat.le_of_ble_eq_true rfl) rfl rfl (Nat.le_of_ble_eq_true rfl) ⟨Nat.le_of_ble_eq_true rfl, Nat.le_of_ble_eq_true rfl⟩ ⟨Nat.zero_le _, Nat.zero_le _⟩ ⟨rfl, rfl⟩ ?_
      refine g_isn1 rfl d_X6_wantsField_29 ?_
      refine g_aload_n0 rfl d_X6_wantsField_30 ?_
      refine g_iload_n1 rfl d_X6_wantsField_31 ?_
      refine g_cut (pc' := 54) (vs' := [some (.ref (ka k 2)), some (.int (f_X6_nameNumber (m_X6_nextToken I J) (j_X6_nextToken I J)))]) (st' := [.int (u0_X6_wantsField I J), .ref (ka k 2)]) (M' := (81, ex, (m_X6_nextToken I J), (j_X6_nextToken I J), Pw w)) (fun hj => ?_) ?_
      · skip
        refine g_if_lt 53 d_X6_wantsField_32 (by decide) (fun h3 => ?_) (fun h3 => ?_)
        · skip
          refine g_iconst (-1) d_X6_wantsField_53 (by decide) ?_
          (try simp only [if_pos h3, opv_eq, if_true, if_false, Bool.false_eq_true, reduceCtorEq, b2i_t, b2i_f, u0_X6_wantsField] at hj); exact hj
        · skip
          rw [if_neg h3] at hok
          refine g_iload_n1 rfl d_X6_wantsField_35 ?_
          refine g_aload_n0 rfl d_X6_wantsField_36 ?_
          refine g_getP (b := 13) f_X6_26 d_X6_wantsField_37 rfl (Nat.le_of_ble_eq_true rfl) rfl rfl ?_
          refine g_alen12 d_X6_wantsField_40 rfl (Nat.le_of_ble_eq_true rfl) ?_
          refine g_icmp_ge 53 d_X6_wantsField_41 (by decide) (fun h4 => ?_) (fun h4 => ?_)
          · skip
            refine g_iconst (-1) d_X6_wantsField_53 (by decide) ?_
            (try simp only [if_neg h3, if_pos h4, opv_eq, if_true, if_false, Bool.false_eq_true, reduceCtorEq, b2i_t, b2i_f, u0_X6_wantsField] at hj); exact hj
          · skip
            rw [if_neg h4] at hok
            refine g_aload_n0 rfl d_X6_wantsField_44 ?_
            refine g_getP (b := 13) f_X6_26 d_X6_wantsField_45 rfl (Nat.le_of_ble_eq_true rfl) rfl rfl ?_
            refine g_iload_n1 rfl d_X6_wantsField_48 ?_
            have ho4 := hok
            refine g_iald d_X6_wantsField_49 rfl (Nat.le_of_ble_eq_true rfl) ho4 ?_
            refine g_goto 54 d_X6_wantsField_50 (by decide) ?_
            (try simp only [if_neg h3, if_neg h4, opv_eq, if_true, if_false, Bool.false_eq_true, reduceCtorEq, b2i_t, b2i_f, u0_X6_wantsField] at hj); exact hj
      · skip
        refine g_putI f_X6_204 d_X6_wantsField_54 rfl (Nat.le_of_ble_eq_true rfl) rfl rfl rfl ?_
        refine g_aload_n0 rfl d_X6_wantsField_57 ?_
        refine g_getIv (u0_X6_wantsField I J) (st2_s _ _ _ _) f_X6_204 d_X6_wantsField_58 rfl (Nat.le_of_ble_eq_true rfl) rfl ?_
        refine g_iconst (-1) d_X6_wantsField_61 (by decide) ?_
        refine g_cut (pc' := 78) (vs' := [some (.ref (ka k 2)), some (.int (f_X6_nameNumber (m_X6_nextToken I J) (j_X6_nextToken I J)))]) (st' := [.int (b2i (u1_X6_wantsField I J))]) (M' := (81, ex, (u2_X6_wantsField I J), (j_X6_nextToken I J), Pw w)) (fun hj => ?_) ?_
        · skip
          refine g_icmp_ne 73 d_X6_wantsField_62 (by decide) (fun h5 => ?_) (fun h5 => ?_)
          · skip
            refine g_iconst 1 d_X6_wantsField_73 (by decide) ?_
            refine g_goto 78 d_X6_wantsField_74 (by decide) ?_
            (try simp only [if_neg h5, opv_eq, if_true, if_false, Bool.false_eq_true, reduceCtorEq, b2i_t, b2i_f, u1_X6_wantsField, u2_X6_wantsField] at hj); exact hj
          · skip
            refine g_aload_n0 rfl d_X6_wantsField_65 ?_
            refine g_iconst 2 d_X6_wantsField_66 (by decide) ?_
            refine g_callV1 (c_X6_fails (st2 (m_X6_nextToken I J) 2 11 (u0_X6_wantsField I J)) 2) w_X6_fails l_X6_72 d_X6_wantsField_67 rfl (Nat.le_of_ble_eq_true rfl) rfl rfl (Nat.le_of_ble_eq_true rfl) ⟨Nat.le_of_ble_eq_true rfl, Nat.le_of_ble_eq_true rfl⟩ ⟨Nat.zero_le _, Nat.zero_le _⟩ ⟨rfl, rfl⟩ ?_
            refine g_ifz 77 d_X6_wantsField_70 (by decide) (fun h6 => ?_) (fun h6 => ?_)
            · skip
              refine g_iconst 0 d_X6_wantsField_77 (by decide) ?_
              (try simp only [if_pos h5, if_neg (nb h6), opv_eq, if_true, if_false, Bool.false_eq_true, reduceCtorEq, b2i_t, b2i_f, u1_X6_wantsField, u2_X6_wantsField] at hj); exact hj
            · skip
              refine g_iconst 1 d_X6_wantsField_73 (by decide) ?_
              refine g_goto 78 d_X6_wantsField_74 (by decide) ?_
              (try simp only [if_pos h5, if_pos h6, opv_eq, if_true, if_false, Bool.false_eq_true, reduceCtorEq, b2i_t, b2i_f, u1_X6_wantsField, u2_X6_wantsField] at hj); exact hj
        · skip
          exact g_zret rfl (nar_b _) d_X6_wantsField_78 ⟨by simp only [f_X6_wantsField, m_X6_wantsField, j_X6_wantsField, if_pos h1, if_neg (nb h2), opv_eq, if_true, if_false, Bool.false_eq_true, reduceCtorEq, b2i_t, b2i_f], by simp only [f_X6_wantsField, m_X6_wantsField, j_X6_wantsField, if_pos h1, if_neg (nb h2), opv_eq, if_true, if_false, Bool.false_eq_true, reduceCtorEq, b2i_t, b2i_f]⟩ (Nat.le_refl _) (Nat.le_refl _)
    · skip
      refine g_aload_n0 rfl d_X6_wantsField_19 ?_
      refine g_iconst 1 d_X6_wantsField_20 (by decide) ?_
      refine g_callV1 (c_X6_fails (m_X6_nextToken I J) 1) w_X6_fails l_X6_72 d_X6_wantsField_21 rfl (Nat.le_of_ble_eq_true rfl) rfl rfl (Nat.le_of_ble_eq_true rfl) ⟨Nat.le_of_ble_eq_true rfl, Nat.le_of_ble_eq_true rfl⟩ ⟨Nat.zero_le _, Nat.zero_le _⟩ ⟨rfl, rfl⟩ ?_
      exact g_zret rfl (nar_b _) d_X6_wantsField_24 ⟨by simp only [f_X6_wantsField, m_X6_wantsField, j_X6_wantsField, if_pos h1, if_pos h2, opv_eq, if_true, if_false, Bool.false_eq_true, reduceCtorEq, b2i_t, b2i_f], by simp only [f_X6_wantsField, m_X6_wantsField, j_X6_wantsField, if_pos h1, if_pos h2, opv_eq, if_true, if_false, Bool.false_eq_true, reduceCtorEq, b2i_t, b2i_f]⟩ (Nat.le_refl _) (Nat.le_refl _)
