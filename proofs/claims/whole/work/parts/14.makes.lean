noncomputable def lp_X3_shorten_13 (I : Nat → Nat → Int32) (J : Nat → Nat → Int64) : Nat → Int64 → Int64 → Int32 → Int64 × Int64 × Int32
  | 0, l1, l3, l5 => (l1, l3, l5)
  | n + 1, l1, l3, l5 => (if 200 ≤ l5 then (l1, l3, l5) else (if (lg_cmp l3 0) = 0 then (l1, l3, l5) else (lp_X3_shorten_13 I J n l3 (l1 - l1 / l3 * l3) (l5 + 1))))
def oklp_X3_shorten_13 (I : Nat → Nat → Int32) (J : Nat → Nat → Int64) : Nat → Int64 → Int64 → Int32 → Prop
  | 0, l1, l3, l5 => True
  | n + 1, l1, l3, l5 => (if 200 ≤ l5 then True else (if (lg_cmp l3 0) = 0 then True else (¬ l3 = 0 ∧ oklp_X3_shorten_13 I J n l3 (l1 - l1 / l3 * l3) (l5 + 1))))
set_option maxHeartbeats 800000 in
set_option maxRecDepth 4000 in
theorem k_lp_X3_shorten_13 {k : KT} {ex : Bool} {w : Bool} (I : Nat → Nat → Int32) (J : Nat → Nat → Int64) {F : FinT} : ∀ (n : Nat) (l1 : Int64) (l3 : Int64) (l5 : Int32), mu_up 200 l5 < n → oklp_X3_shorten_13 I J n l1 l3 l5 → G k mX3_shorten (roomOf 1 0 0) F 0 0 43 [some (.ref (ka k 63)), some (.long ((lp_X3_shorten_13 I J n l1 l3 l5).1)), none, some (.long ((lp_X3_shorten_13 I J n l1 l3 l5).2.1)), none, some (.int ((lp_X3_shorten_13 I J n l1 l3 l5).2.2)), none, none] [] (81, ex, I, J, Pw w) → G k mX3_shorten (roomOf 1 0 0) F 0 0 13 [some (.ref (ka k 63)), some (.long l1), none, some (.long l3), none, some (.int l5), none, none] [] (81, ex, I, J, Pw w) := by
  intro n
  induction n with
  | zero => intro l1 l3 l5 hmu hok hj; exact absurd hmu (Nat.not_lt_zero _)
  | succ n ih =>
    intro l1 l3 l5 hmu hok hj
    rw [oklp_X3_shorten_13] at hok
    refine g_iload (i := 5) rfl d_X3_shorten_13 ?_
    refine g_sipush 200 d_X3_shorten_15 (by decide) ?_
    refine g_icmp_ge 43 d_X3_shorten_18 (by decide) (fun h1 => ?_) (fun h1 => ?_)
    · skip
      (try simp only [lp_X3_shorten_13, if_pos h1, opv_eq, if_true, if_false, Bool.false_eq_true, reduceCtorEq, b2i_t, b2i_f] at hj); exact hj
    · skip
      rw [if_neg h1] at hok
      refine g_lload_n3 rfl d_X3_shorten_21 ?_
      refine g_lconst 0 d_X3_shorten_22 (by decide) ?_
      refine g_lcmp d_X3_shorten_23 ?_
      refine g_if_eq 43 d_X3_shorten_24 (by decide) (fun h2 => ?_) (fun h2 => ?_)
      · skip
        (try simp only [lp_X3_shorten_13, if_neg h1, if_pos h2, opv_eq, if_true, if_false, Bool.false_eq_true, reduceCtorEq, b2i_t, b2i_f] at hj); exact hj
      · skip
        rw [if_neg h2] at hok
        refine g_lload_n1 rfl d_X3_shorten_27 ?_
        refine g_lload_n3 rfl d_X3_shorten_28 ?_
        obtain ⟨ho1, hok⟩ := hok
        refine g_lrem ho1 d_X3_shorten_29 ?_
        refine g_ls6 rfl d_X3_shorten_30 ?_
        refine g_lload_n3 rfl d_X3_shorten_32 ?_
        refine g_lsn1 rfl d_X3_shorten_33 ?_
        refine g_lload (i := 6) rfl d_X3_shorten_34 ?_
        refine g_lsn3 rfl d_X3_shorten_36 ?_
        refine g_ic5 (l5 + 1) rfl rfl d_X3_shorten_37 ?_
        refine g_goto 13 d_X3_shorten_40 (by decide) ?_
        refine G.weak (wks (wks (wkn (wks (wkn (wks (wkn (wkn wk0)))))))) ?_; exact ih l3 (l1 - l1 / l3 * l3) (l5 + 1) (Nat.lt_of_lt_of_le (mu_up_lt h1) (Nat.le_of_lt_succ hmu)) (by (try simp only [if_neg h1, if_neg h2, opv_eq, if_true, if_false, Bool.false_eq_true, reduceCtorEq, b2i_t, b2i_f] at hok); exact hok) (by (try simp only [lp_X3_shorten_13, if_neg h1, if_neg h2, opv_eq, if_true, if_false, Bool.false_eq_true, reduceCtorEq, b2i_t, b2i_f] at hj); exact hj)
noncomputable def u0_X3_shorten (I : Nat → Nat → Int32) (J : Nat → Nat → Int64) : Nat → Nat → Int64 := opv (if (lg_cmp ((lp_X3_shorten_13 I J (mu_up 200 0 + 1) (J 63 1) (J 63 0) 0).1) 1) ≤ 0 then J else (stJ (stJ J 63 0 ((J 63 0) / ((lp_X3_shorten_13 I J (mu_up 200 0 + 1) (J 63 1) (J 63 0) 0).1))) 63 1 ((J 63 1) / ((lp_X3_shorten_13 I J (mu_up 200 0 + 1) (J 63 1) (J 63 0) 0).1))))
noncomputable def j_X3_shorten (I : Nat → Nat → Int32) (J : Nat → Nat → Int64)  : Nat → Nat → Int64 := opv (u0_X3_shorten I J)
noncomputable def ok_X3_shorten (I : Nat → Nat → Int32) (J : Nat → Nat → Int64)  : Prop := opv (oklp_X3_shorten_13 I J (mu_up 200 0 + 1) (J 63 1) (J 63 0) 0 ∧ (if (lg_cmp ((lp_X3_shorten_13 I J (mu_up 200 0 + 1) (J 63 1) (J 63 0) 0).1) 1) ≤ 0 then True else (¬ ((lp_X3_shorten_13 I J (mu_up 200 0 + 1) (J 63 1) (J 63 0) 0).1) = 0 ∧ ¬ ((lp_X3_shorten_13 I J (mu_up 200 0 + 1) (J 63 1) (J 63 0) 0).1) = 0)))
set_option maxHeartbeats 800000 in
set_option maxRecDepth 4000 in
theorem c_X3_shorten {k : KT} {ex : Bool} {w : Bool} (I : Nat → Nat → Int32) (J : Nat → Nat → Int64)   (hok : ok_X3_shorten I J) : Cx k mX3_shorten 1 [.ref (ka k 63)] (81, ex, I, J, Pw w) none (81, ex, I, j_X3_shorten I J, Pw w) := by
  refine Ct.of rfl [some (.ref (ka k 63)), none, none, none, none, none, none, none] rfl rfl (Nat.le_of_ble_eq_true rfl) ?_
  rw [ok_X3_shorten, opv_eq] at hok
  refine g_aload_n0 rfl d_X3_shorten_0 ?_
  refine g_getJ f_X3_22 d_X3_shorten_1 rfl (Nat.le_of_ble_eq_true rfl) rfl ?_
  refine g_lsn1 rfl d_X3_shorten_4 ?_
  refine g_aload_n0 rfl d_X3_shorten_5 ?_
  refine g_getJ f_X3_18 d_X3_shorten_6 rfl (Nat.le_of_ble_eq_true rfl) rfl ?_
  refine g_lsn3 rfl d_X3_shorten_9 ?_
  refine g_iconst 0 d_X3_shorten_10 (by decide) ?_
  refine g_is5 rfl d_X3_shorten_11 ?_
  obtain ⟨hol, hok⟩ := hok
  refine k_lp_X3_shorten_13 I J _ (J 63 1) (J 63 0) 0 (Nat.lt_succ_self _) hol ?_
  refine g_lload_n1 rfl d_X3_shorten_43 ?_
  refine g_lconst 1 d_X3_shorten_44 (by decide) ?_
  refine g_lcmp d_X3_shorten_45 ?_
  refine g_cut (pc' := 69) (vs' := [some (.ref (ka k 63)), some (.long ((lp_X3_shorten_13 I J (mu_up 200 0 + 1) (J 63 1) (J 63 0) 0).1)), none, some (.long ((lp_X3_shorten_13 I J (mu_up 200 0 + 1) (J 63 1) (J 63 0) 0).2.1)), none, some (.int ((lp_X3_shorten_13 I J (mu_up 200 0 + 1) (J 63 1) (J 63 0) 0).2.2)), none, none]) (st' := []) (M' := (81, ex, I, (u0_X3_shorten I J), Pw w)) (fun hj => ?_) ?_
  · skip
    refine g_if_le 69 d_X3_shorten_46 (by decide) (fun h3 => ?_) (fun h3 => ?_)
    · skip
      (try simp only [if_pos h3, opv_eq, if_true, if_false, Bool.false_eq_true, reduceCtorEq, b2i_t, b2i_f, u0_X3_shorten] at hj); exact hj
    · skip
      rw [if_neg h3] at hok
      refine g_aload_n0 rfl d_X3_shorten_49 ?_
      refine g_dup rfl d_X3_shorten_50 ?_
      refine g_getJ f_X3_18 d_X3_shorten_51 rfl (Nat.le_of_ble_eq_true rfl) rfl ?_
      refine g_lload_n1 rfl d_X3_shorten_54 ?_
      obtain ⟨ho2, hok⟩ := hok
      refine g_ldiv ho2 d_X3_shorten_55 ?_
      refine g_putJ f_X3_18 d_X3_shorten_56 rfl (Nat.le_of_ble_eq_true rfl) rfl rfl rfl ?_
      refine g_aload_n0 rfl d_X3_shorten_59 ?_
      refine g_dup rfl d_X3_shorten_60 ?_
      refine g_getJv (J 63 1) (st2_oJ _ _ _ (by decide)) f_X3_22 d_X3_shorten_61 rfl (Nat.le_of_ble_eq_true rfl) rfl ?_
      refine g_lload_n1 rfl d_X3_shorten_64 ?_
      have ho3 := hok
      refine g_ldiv ho3 d_X3_shorten_65 ?_
      refine g_putJ f_X3_22 d_X3_shorten_66 rfl (Nat.le_of_ble_eq_true rfl) rfl rfl rfl ?_
      (try simp only [if_neg h3, opv_eq, if_true, if_false, Bool.false_eq_true, reduceCtorEq, b2i_t, b2i_f, u0_X3_shorten] at hj); exact hj
  · skip
    exact g_vret rfl d_X3_shorten_69 ⟨rfl, by simp only [j_X3_shorten, opv_eq, if_true, if_false, Bool.false_eq_true, reduceCtorEq, b2i_t, b2i_f]⟩ (Nat.le_refl _) (Nat.le_refl _)
noncomputable def lp_X3_weigh_13 (I : Nat → Nat → Int32) (x1 : Nat) (x2 : Nat) (x3 : Int32) (x4 : Int32) : Nat → Int32 → (Nat → Nat → Int64) → Int32 × (Nat → Nat → Int64)
  | 0, l5, J1 => (l5, J1)
  | n + 1, l5, J1 => (if x3 ≤ l5 then (l5, J1) else (lp_X3_weigh_13 I x1 x2 x3 x4 n (l5 + 1) (stJ J1 63 1 ((J1 63 1) * 100))))
set_option maxHeartbeats 800000 in
set_option maxRecDepth 4000 in
theorem k_lp_X3_weigh_13 {k : KT} {ex : Bool} {w : Bool} (I : Nat → Nat → Int32) (x1 : Nat) (hx1 : kd x1 = 7) (x2 : Nat) (hx2 : kd x2 = 0) (x3 : Int32) (x4 : Int32) {F : FinT} : ∀ (n : Nat) (l5 : Int32) (J1 : (Nat → Nat → Int64)), mu_up x3 l5 < n → G k mX3_weigh (roomOf 6 0 0) F 0 0 37 [some (.ref (ka k 63)), some (.ref (ka k x1)), some (.ref (ka k x2)), some (.int x3), some (.int x4), some (.int ((lp_X3_weigh_13 I x1 x2 x3 x4 n l5 J1).1)), none, none] [] (81, ex, I, (lp_X3_weigh_13 I x1 x2 x3 x4 n l5 J1).2, Pw w) → G k mX3_weigh (roomOf 6 0 0) F 0 0 13 [some (.ref (ka k 63)), some (.ref (ka k x1)), some (.ref (ka k x2)), some (.int x3), some (.int x4), some (.int l5), none, none] [] (81, ex, I, J1, Pw w) := by
  intro n
  induction n with
  | zero => intro l5 J1 hmu hj; exact absurd hmu (Nat.not_lt_zero _)
  | succ n ih =>
    intro l5 J1 hmu hj
    refine g_iload (i := 5) rfl d_X3_weigh_13 ?_
    refine g_iload_n3 rfl d_X3_weigh_15 ?_
    refine g_icmp_ge 37 d_X3_weigh_16 (by decide) (fun h1 => ?_) (fun h1 => ?_)
    · skip
      (try simp only [lp_X3_weigh_13, if_pos h1, opv_eq, if_true, if_false, Bool.false_eq_true, reduceCtorEq, b2i_t, b2i_f] at hj); exact hj
    · skip
      refine g_aload_n0 rfl d_X3_weigh_19 ?_
      refine g_dup rfl d_X3_weigh_20 ?_
      refine g_getJ f_X3_22 d_X3_weigh_21 rfl (Nat.le_of_ble_eq_true rfl) rfl ?_
      refine g_ldc2 (v := 100) (in5 62 (by decide +kernel) rfl) d_X3_weigh_24 ?_
      refine g_lmul d_X3_weigh_27 ?_
      refine g_putJ f_X3_22 d_X3_weigh_28 rfl (Nat.le_of_ble_eq_true rfl) rfl rfl rfl ?_
      refine g_ic5 (l5 + 1) rfl rfl d_X3_weigh_31 ?_
      refine g_goto 13 d_X3_weigh_34 (by decide) ?_
      exact ih (l5 + 1) (stJ J1 63 1 ((J1 63 1) * 100)) (Nat.lt_of_lt_of_le (mu_up_lt h1) (Nat.le_of_lt_succ hmu)) (by (try simp only [lp_X3_weigh_13, if_neg h1, opv_eq, if_true, if_false, Bool.false_eq_true, reduceCtorEq, b2i_t, b2i_f] at hj); exact hj)
noncomputable def u0_X3_weigh (x1 : Nat) (x2 : Nat) (x3 : Int32) (x4 : Int32) (l5 : Int32) (I1 : Nat → Nat → Int32) (J1 : Nat → Nat → Int64) : Nat → Nat → Int64 := opv (if x4 = (-1) then (stJ J1 63 0 ((J1 63 0) + ((f_X3_blow I1 x1 x2 x3 l5) * ((((m_X3_blow I1 x1 x2 x3 l5) 64 0) + 9).toInt64)))) else (if (f_X0_whoIsOut (m_X3_blow I1 x1 x2 x3 l5) 64) = x4 then (stJ J1 63 0 ((J1 63 0) + (f_X3_blow I1 x1 x2 x3 l5))) else J1))
noncomputable def lp_X3_weigh_40 (x1 : Nat) (x2 : Nat) (x3 : Int32) (x4 : Int32) : Nat → Int32 → (Nat → Nat → Int32) → (Nat → Nat → Int64) → Int32 × (Nat → Nat → Int32) × (Nat → Nat → Int64)
  | 0, l5, I1, J1 => (l5, I1, J1)
  | n + 1, l5, I1, J1 => (if (1 <<< (x3 &&& 31)) ≤ l5 then (l5, I1, J1) else (lp_X3_weigh_40 x1 x2 x3 x4 n (l5 + 1) (m_X3_blow I1 x1 x2 x3 l5) (u0_X3_weigh x1 x2 x3 x4 l5 I1 J1)))
def oklp_X3_weigh_40 (x1 : Nat) (x2 : Nat) (x3 : Int32) (x4 : Int32) : Nat → Int32 → (Nat → Nat → Int32) → (Nat → Nat → Int64) → Prop
  | 0, l5, I1, J1 => True
  | n + 1, l5, I1, J1 => (if (1 <<< (x3 &&& 31)) ≤ l5 then True else (ok_X3_blow I1 x1 x2 x3 l5 ∧ oklp_X3_weigh_40 x1 x2 x3 x4 n (l5 + 1) (m_X3_blow I1 x1 x2 x3 l5) (u0_X3_weigh x1 x2 x3 x4 l5 I1 J1)))
set_option maxHeartbeats 800000 in
set_option maxRecDepth 4000 in
theorem k_lp_X3_weigh_40 {k : KT} {ex : Bool} {w : Bool} (x1 : Nat) (hx1 : kd x1 = 7) (x2 : Nat) (hx2 : kd x2 = 0) (x3 : Int32) (x4 : Int32) {F : FinT} : ∀ (n : Nat) (l5 : Int32) (I1 : (Nat → Nat → Int32)) (J1 : (Nat → Nat → Int64)), mu_up (1 <<< (x3 &&& 31)) l5 < n → oklp_X3_weigh_40 x1 x2 x3 x4 n l5 I1 J1 → G k mX3_weigh (roomOf 6 0 0) F 0 0 120 [some (.ref (ka k 63)), some (.ref (ka k x1)), some (.ref (ka k x2)), some (.int x3), some (.int x4), some (.int ((lp_X3_weigh_40 x1 x2 x3 x4 n l5 I1 J1).1)), none, none] [] (81, ex, (lp_X3_weigh_40 x1 x2 x3 x4 n l5 I1 J1).2.1, (lp_X3_weigh_40 x1 x2 x3 x4 n l5 I1 J1).2.2, Pw w) → G k mX3_weigh (roomOf 6 0 0) F 0 0 40 [some (.ref (ka k 63)), some (.ref (ka k x1)), some (.ref (ka k x2)), some (.int x3), some (.int x4), some (.int l5), none, none] [] (81, ex, I1, J1, Pw w) := by
  intro n
  induction n with
  | zero => intro l5 I1 J1 hmu hok hj; exact absurd hmu (Nat.not_lt_zero _)
  | succ n ih =>
    intro l5 I1 J1 hmu hok hj
    rw [oklp_X3_weigh_40] at hok
    refine g_iload (i := 5) rfl d_X3_weigh_40 ?_
    refine g_iconst 1 d_X3_weigh_42 (by decide) ?_
    refine g_iload_n3 rfl d_X3_weigh_43 ?_
    refine g_ishl d_X3_weigh_44 ?_
    refine g_icmp_ge 120 d_X3_weigh_45 (by decide) (fun h2 => ?_) (fun h2 => ?_)
    · skip
      (try simp only [lp_X3_weigh_40, if_pos h2, opv_eq, if_true, if_false, Bool.false_eq_true, reduceCtorEq, b2i_t, b2i_f] at hj); exact hj
    · skip
      rw [if_neg h2] at hok
      refine g_aload_n0 rfl d_X3_weigh_48 ?_
      refine g_aload_n1 rfl d_X3_weigh_49 ?_
      refine g_aload_n2 rfl d_X3_weigh_50 ?_
      refine g_iload_n3 rfl d_X3_weigh_51 ?_
      refine g_iload (i := 5) rfl d_X3_weigh_52 ?_
      obtain ⟨ho1, hok⟩ := hok
      refine g_callV1 (c_X3_blow I1 x1 hx1 x2 hx2 x3 l5 ho1) w_X3_blow l_X3_27 d_X3_weigh_54 rfl (Nat.le_of_ble_eq_true rfl) rfl rfl (Nat.le_of_ble_eq_true rfl) ⟨Nat.le_of_ble_eq_true rfl, Nat.le_of_ble_eq_true rfl⟩ ⟨Nat.zero_le _, Nat.zero_le _⟩ ⟨rfl, rfl⟩ ?_
      refine g_ls6 rfl d_X3_weigh_57 ?_
      refine g_iload (i := 4) rfl d_X3_weigh_59 ?_
      refine g_iconst (-1) d_X3_weigh_61 (by decide) ?_
      refine g_cut (pc' := 114) (vs' := [some (.ref (ka k 63)), some (.ref (ka k x1)), some (.ref (ka k x2)), some (.int x3), some (.int x4), some (.int l5), some (.long (f_X3_blow I1 x1 x2 x3 l5)), none]) (st' := []) (M' := (81, ex, (m_X3_blow I1 x1 x2 x3 l5), (u0_X3_weigh x1 x2 x3 x4 l5 I1 J1), Pw w)) (fun hj => ?_) ?_
      · skip
        refine g_icmp_ne 91 d_X3_weigh_62 (by decide) (fun h3 => ?_) (fun h3 => ?_)
        · skip
          refine g_aload_n0 rfl d_X3_weigh_91 ?_
          refine g_getP (b := 64) f_X3_12 d_X3_weigh_92 rfl (Nat.le_of_ble_eq_true rfl) rfl rfl ?_
          refine g_callV1 (c_X0_whoIsOut (m_X3_blow I1 x1 x2 x3 l5) 64 rfl) w_X0_whoIsOut l_X3_35 d_X3_weigh_95 rfl (Nat.le_of_ble_eq_true rfl) rfl rfl (Nat.le_of_ble_eq_true rfl) ⟨Nat.le_of_ble_eq_true rfl, Nat.le_of_ble_eq_true rfl⟩ ⟨Nat.zero_le _, Nat.zero_le _⟩ ⟨rfl, rfl⟩ ?_
          refine g_iload (i := 4) rfl d_X3_weigh_98 ?_
          refine g_icmp_ne 114 d_X3_weigh_100 (by decide) (fun h4 => ?_) (fun h4 => ?_)
          · skip
            (try simp only [if_neg h3, if_neg h4, opv_eq, if_true, if_false, Bool.false_eq_true, reduceCtorEq, b2i_t, b2i_f, u0_X3_weigh] at hj); exact hj
          · skip
            refine g_aload_n0 rfl d_X3_weigh_103 ?_
            refine g_dup rfl d_X3_weigh_104 ?_
            refine g_getJ f_X3_18 d_X3_weigh_105 rfl (Nat.le_of_ble_eq_true rfl) rfl ?_
            refine g_lload (i := 6) rfl d_X3_weigh_108 ?_
            refine g_ladd d_X3_weigh_110 ?_
            refine g_putJ f_X3_18 d_X3_weigh_111 rfl (Nat.le_of_ble_eq_true rfl) rfl rfl rfl ?_
            (try simp only [if_neg h3, if_pos h4, opv_eq, if_true, if_false, Bool.false_eq_true, reduceCtorEq, b2i_t, b2i_f, u0_X3_weigh] at hj); exact hj
        · skip
          refine g_aload_n0 rfl d_X3_weigh_65 ?_
          refine g_dup rfl d_X3_weigh_66 ?_
          refine g_getJ f_X3_18 d_X3_weigh_67 rfl (Nat.le_of_ble_eq_true rfl) rfl ?_
          refine g_lload (i := 6) rfl d_X3_weigh_70 ?_
          refine g_aload_n0 rfl d_X3_weigh_72 ?_
          refine g_getP (b := 64) f_X3_12 d_X3_weigh_73 rfl (Nat.le_of_ble_eq_true rfl) rfl rfl ?_
          refine g_getI f_X3_31 d_X3_weigh_76 rfl (Nat.le_of_ble_eq_true rfl) rfl ?_
          refine g_bipush 9 d_X3_weigh_79 (by decide) ?_
          refine g_iadd d_X3_weigh_81 ?_
          refine g_i2l d_X3_weigh_82 ?_
          refine g_lmul d_X3_weigh_83 ?_
          refine g_ladd d_X3_weigh_84 ?_
          refine g_putJ f_X3_18 d_X3_weigh_85 rfl (Nat.le_of_ble_eq_true rfl) rfl rfl rfl ?_
          refine g_goto 114 d_X3_weigh_88 (by decide) ?_
          (try simp only [if_pos h3, opv_eq, if_true, if_false, Bool.false_eq_true, reduceCtorEq, b2i_t, b2i_f, u0_X3_weigh] at hj); exact hj
      · skip
        refine g_ic5 (l5 + 1) rfl rfl d_X3_weigh_114 ?_
        refine g_goto 40 d_X3_weigh_117 (by decide) ?_
        refine G.weak (wks (wks (wks (wks (wks (wks (wkn (wkn wk0)))))))) ?_; exact ih (l5 + 1) (m_X3_blow I1 x1 x2 x3 l5) (u0_X3_weigh x1 x2 x3 x4 l5 I1 J1) (Nat.lt_of_lt_of_le (mu_up_lt h2) (Nat.le_of_lt_succ hmu)) (by (try simp only [if_neg h2, opv_eq, if_true, if_false, Bool.false_eq_true, reduceCtorEq, b2i_t, b2i_f] at hok); exact hok) (by (try simp only [lp_X3_weigh_40, if_neg h2, opv_eq, if_true, if_false, Bool.false_eq_true, reduceCtorEq, b2i_t, b2i_f] at hj); exact hj)
noncomputable def u1_X3_weigh (I : Nat → Nat → Int32) (J : Nat → Nat → Int64) (x1 : Nat) (x2 : Nat) (x3 : Int32) (x4 : Int32) : Nat → Nat → Int32 := opv ((lp_X3_weigh_40 x1 x2 x3 x4 (mu_up (1 <<< (x3 &&& 31)) 0 + 1) 0 I ((lp_X3_weigh_13 I x1 x2 x3 x4 (mu_up x3 0 + 1) 0 (stJ (stJ J 63 0 0) 63 1 1)).2)).2.1)
noncomputable def u2_X3_weigh (I : Nat → Nat → Int32) (J : Nat → Nat → Int64) (x1 : Nat) (x2 : Nat) (x3 : Int32) (x4 : Int32) : Nat → Nat → Int64 := opv (j_X3_shorten ((lp_X3_weigh_40 x1 x2 x3 x4 (mu_up (1 <<< (x3 &&& 31)) 0 + 1) 0 I ((lp_X3_weigh_13 I x1 x2 x3 x4 (mu_up x3 0 + 1) 0 (stJ (stJ J 63 0 0) 63 1 1)).2)).2.1) ((lp_X3_weigh_40 x1 x2 x3 x4 (mu_up (1 <<< (x3 &&& 31)) 0 + 1) 0 I ((lp_X3_weigh_13 I x1 x2 x3 x4 (mu_up x3 0 + 1) 0 (stJ (stJ J 63 0 0) 63 1 1)).2)).2.2))
noncomputable def m_X3_weigh (I : Nat → Nat → Int32) (J : Nat → Nat → Int64) (x1 : Nat) (x2 : Nat) (x3 : Int32) (x4 : Int32) : Nat → Nat → Int32 := opv (u1_X3_weigh I J x1 x2 x3 x4)
noncomputable def j_X3_weigh (I : Nat → Nat → Int32) (J : Nat → Nat → Int64) (x1 : Nat) (x2 : Nat) (x3 : Int32) (x4 : Int32) : Nat → Nat → Int64 := opv (u2_X3_weigh I J x1 x2 x3 x4)
noncomputable def ok_X3_weigh (I : Nat → Nat → Int32) (J : Nat → Nat → Int64) (x1 : Nat) (x2 : Nat) (x3 : Int32) (x4 : Int32) : Prop := opv (oklp_X3_weigh_40 x1 x2 x3 x4 (mu_up (1 <<< (x3 &&& 31)) 0 + 1) 0 I ((lp_X3_weigh_13 I x1 x2 x3 x4 (mu_up x3 0 + 1) 0 (stJ (stJ J 63 0 0) 63 1 1)).2) ∧ ok_X3_shorten ((lp_X3_weigh_40 x1 x2 x3 x4 (mu_up (1 <<< (x3 &&& 31)) 0 + 1) 0 I ((lp_X3_weigh_13 I x1 x2 x3 x4 (mu_up x3 0 + 1) 0 (stJ (stJ J 63 0 0) 63 1 1)).2)).2.1) ((lp_X3_weigh_40 x1 x2 x3 x4 (mu_up (1 <<< (x3 &&& 31)) 0 + 1) 0 I ((lp_X3_weigh_13 I x1 x2 x3 x4 (mu_up x3 0 + 1) 0 (stJ (stJ J 63 0 0) 63 1 1)).2)).2.2))
set_option maxHeartbeats 800000 in
set_option maxRecDepth 4000 in
theorem c_X3_weigh {k : KT} {ex : Bool} {w : Bool} (I : Nat → Nat → Int32) (J : Nat → Nat → Int64) (x1 : Nat) (hx1 : kd x1 = 7) (x2 : Nat) (hx2 : kd x2 = 0) (x3 : Int32) (x4 : Int32)  (hok : ok_X3_weigh I J x1 x2 x3 x4) : Cx k mX3_weigh 6 [.ref (ka k 63), .ref (ka k x1), .ref (ka k x2), .int x3, .int x4] (81, ex, I, J, Pw w) none (81, ex, m_X3_weigh I J x1 x2 x3 x4, j_X3_weigh I J x1 x2 x3 x4, Pw w) := by
  refine Ct.of rfl [some (.ref (ka k 63)), some (.ref (ka k x1)), some (.ref (ka k x2)), some (.int x3), some (.int x4), none, none, none] rfl rfl (Nat.le_of_ble_eq_true rfl) ?_
  rw [ok_X3_weigh, opv_eq] at hok
  refine g_aload_n0 rfl d_X3_weigh_0 ?_
  refine g_lconst 0 d_X3_weigh_1 (by decide) ?_
  refine g_putJ f_X3_18 d_X3_weigh_2 rfl (Nat.le_of_ble_eq_true rfl) rfl rfl rfl ?_
  refine g_aload_n0 rfl d_X3_weigh_5 ?_
  refine g_lconst 1 d_X3_weigh_6 (by decide) ?_
  refine g_putJ f_X3_22 d_X3_weigh_7 rfl (Nat.le_of_ble_eq_true rfl) rfl rfl rfl ?_
  refine g_iconst 0 d_X3_weigh_10 (by decide) ?_
  refine g_is5 rfl d_X3_weigh_11 ?_
  refine k_lp_X3_weigh_13 I x1 hx1 x2 hx2 x3 x4 _ 0 (stJ (stJ J 63 0 0) 63 1 1) (Nat.lt_succ_self _) ?_
  refine g_iconst 0 d_X3_weigh_37 (by decide) ?_
  refine g_is5 rfl d_X3_weigh_38 ?_
  obtain ⟨hol, hok⟩ := hok
  refine k_lp_X3_weigh_40 x1 hx1 x2 hx2 x3 x4 _ 0 I ((lp_X3_weigh_13 I x1 x2 x3 x4 (mu_up x3 0 + 1) 0 (stJ (stJ J 63 0 0) 63 1 1)).2) (Nat.lt_succ_self _) hol ?_
  refine g_aload_n0 rfl d_X3_weigh_120 ?_
  have ho2 := hok
  refine g_callV0 (c_X3_shorten ((lp_X3_weigh_40 x1 x2 x3 x4 (mu_up (1 <<< (x3 &&& 31)) 0 + 1) 0 I ((lp_X3_weigh_13 I x1 x2 x3 x4 (mu_up x3 0 + 1) 0 (stJ (stJ J 63 0 0) 63 1 1)).2)).2.1) ((lp_X3_weigh_40 x1 x2 x3 x4 (mu_up (1 <<< (x3 &&& 31)) 0 + 1) 0 I ((lp_X3_weigh_13 I x1 x2 x3 x4 (mu_up x3 0 + 1) 0 (stJ (stJ J 63 0 0) 63 1 1)).2)).2.2)  ho2) w_X3_shorten l_X3_39 d_X3_weigh_121 rfl (Nat.le_of_ble_eq_true rfl) rfl rfl (Nat.le_of_ble_eq_true rfl) ⟨Nat.le_of_ble_eq_true rfl, Nat.le_of_ble_eq_true rfl⟩ ⟨Nat.zero_le _, Nat.zero_le _⟩ ⟨rfl, rfl⟩ ?_
  refine G.toI (I' := (u1_X3_weigh I J x1 x2 x3 x4)) (by rw [u1_X3_weigh, opv_eq]) ?_
  refine G.toJ (J' := (u2_X3_weigh I J x1 x2 x3 x4)) (by rw [u2_X3_weigh, opv_eq]) ?_
  exact g_vret rfl d_X3_weigh_124 ⟨rfl, by simp only [m_X3_weigh, j_X3_weigh, opv_eq, if_true, if_false, Bool.false_eq_true, reduceCtorEq, b2i_t, b2i_f]⟩ (Nat.le_refl _) (Nat.le_refl _)
noncomputable def lp_X2_goesRound_18 (x1 : Nat) (x2 : Nat) : Nat → Int32 → (Nat → Nat → Int32) → Int32 × (Nat → Nat → Int32)
  | 0, l3, I1 => (0, I1)
  | n + 1, l3, I1 => (if 1920 < l3 then ((-2), I1) else (if (((((m_X0_passDay I1 47 x1) 47 0) + 9) * 101) + ((m_X0_passDay I1 47 x1) 47 1)) < 0 then ((-2), (m_X0_passDay I1 47 x1)) else (if (((((m_X0_passDay I1 47 x1) 47 0) + 9) * 101) + ((m_X0_passDay I1 47 x1) 47 1)) < 1919 then (if ((m_X0_passDay I1 47 x1) 48 (((((m_X0_passDay I1 47 x1) 47 0) + 9) * 101) + ((m_X0_passDay I1 47 x1) 47 1)).toNatClampNeg) ≤ 0 then (lp_X2_goesRound_18 x1 x2 n (l3 + 1) (va_up (m_X0_passDay I1 47 x1) 48 (upd ((m_X0_passDay I1 47 x1) 48) (((((m_X0_passDay I1 47 x1) 47 0) + 9) * 101) + ((m_X0_passDay I1 47 x1) 47 1)).toNatClampNeg l3))) else (((10000 * l3) + l3) - ((m_X0_passDay I1 47 x1) 48 (((((m_X0_passDay I1 47 x1) 47 0) + 9) * 101) + ((m_X0_passDay I1 47 x1) 47 1)).toNatClampNeg), (m_X0_passDay I1 47 x1))) else ((-2), (m_X0_passDay I1 47 x1)))))
def oklp_X2_goesRound_18 (x1 : Nat) (x2 : Nat) : Nat → Int32 → (Nat → Nat → Int32) → Prop
  | 0, l3, I1 => True
  | n + 1, l3, I1 => (if 1920 < l3 then True else (if (((((m_X0_passDay I1 47 x1) 47 0) + 9) * 101) + ((m_X0_passDay I1 47 x1) 47 1)) < 0 then True else (if (((((m_X0_passDay I1 47 x1) 47 0) + 9) * 101) + ((m_X0_passDay I1 47 x1) 47 1)) < 1919 then (vp_in (((((m_X0_passDay I1 47 x1) 47 0) + 9) * 101) + ((m_X0_passDay I1 47 x1) 47 1)) (sz 48) ∧ (if ((m_X0_passDay I1 47 x1) 48 (((((m_X0_passDay I1 47 x1) 47 0) + 9) * 101) + ((m_X0_passDay I1 47 x1) 47 1)).toNatClampNeg) ≤ 0 then (vp_in (((((m_X0_passDay I1 47 x1) 47 0) + 9) * 101) + ((m_X0_passDay I1 47 x1) 47 1)) (sz 48) ∧ oklp_X2_goesRound_18 x1 x2 n (l3 + 1) (va_up (m_X0_passDay I1 47 x1) 48 (upd ((m_X0_passDay I1 47 x1) 48) (((((m_X0_passDay I1 47 x1) 47 0) + 9) * 101) + ((m_X0_passDay I1 47 x1) 47 1)).toNatClampNeg l3))) else vp_in (((((m_X0_passDay I1 47 x1) 47 0) + 9) * 101) + ((m_X0_passDay I1 47 x1) 47 1)) (sz 48))) else True)))
set_option maxHeartbeats 800000 in
set_option maxRecDepth 4000 in
theorem k_lp_X2_goesRound_18 {k : KT} {ex : Bool} {J : Nat → Nat → Int64} {w : Bool} (x1 : Nat) (hx1 : kd x1 = 7) (x2 : Nat) (hx2 : kd x2 = 0) {Q : Option Value → MM → Prop} : ∀ (n : Nat) (l3 : Int32) (I1 : (Nat → Nat → Int32)), mu_le 1920 l3 < n → oklp_X2_goesRound_18 x1 x2 n l3 I1 → Q (some (.int (lp_X2_goesRound_18 x1 x2 n l3 I1).1)) (81, ex, (lp_X2_goesRound_18 x1 x2 n l3 I1).2, J, Pw w) → G k mX2_goesRound (roomOf 5 0 0) (FinM k Q 0 0) 0 0 18 [some (.ref (ka k 46)), some (.ref (ka k x1)), some (.ref (ka k x2)), some (.int l3), none] [] (81, ex, I1, J, Pw w) := by
  intro n
  induction n with
  | zero => intro l3 I1 hmu hok hq; exact absurd hmu (Nat.not_lt_zero _)
  | succ n ih =>
    intro l3 I1 hmu hok hq
    rw [oklp_X2_goesRound_18] at hok
    refine g_iload_n3 rfl d_X2_goesRound_18 ?_
    refine g_sipush 1920 d_X2_goesRound_19 (by decide) ?_
    refine g_icmp_gt 112 d_X2_goesRound_22 (by decide) (fun h1 => ?_) (fun h1 => ?_)
    · skip
      refine g_bipush (-2) d_X2_goesRound_112 (by decide) ?_
      exact g_iret rfl d_X2_goesRound_114 (by (try simp only [lp_X2_goesRound_18, if_pos h1, opv_eq, if_true, if_false, Bool.false_eq_true, reduceCtorEq, b2i_t, b2i_f] at hq); exact hq) (Nat.le_refl _) (Nat.le_refl _)
    · skip
      rw [if_neg h1] at hok
      refine g_aload_n0 rfl d_X2_goesRound_25 ?_
      refine g_getP (b := 47) f_X2_14 d_X2_goesRound_26 rfl (Nat.le_of_ble_eq_true rfl) rfl rfl ?_
      refine g_aload_n1 rfl d_X2_goesRound_29 ?_
      refine g_callV0 (c_X0_passDay I1 47 rfl x1 hx1) w_X0_passDay l_X2_26 d_X2_goesRound_30 rfl (Nat.le_of_ble_eq_true rfl) rfl rfl (Nat.le_of_ble_eq_true rfl) ⟨Nat.le_of_ble_eq_true rfl, Nat.le_of_ble_eq_true rfl⟩ ⟨Nat.zero_le _, Nat.zero_le _⟩ ⟨rfl, rfl⟩ ?_
      refine g_aload_n0 rfl d_X2_goesRound_33 ?_
      refine g_getP (b := 47) f_X2_14 d_X2_goesRound_34 rfl (Nat.le_of_ble_eq_true rfl) rfl rfl ?_
      refine g_getI f_X2_67 d_X2_goesRound_37 rfl (Nat.le_of_ble_eq_true rfl) rfl ?_
      refine g_bipush 9 d_X2_goesRound_40 (by decide) ?_
      refine g_iadd d_X2_goesRound_42 ?_
      refine g_bipush 101 d_X2_goesRound_43 (by decide) ?_
      refine g_imul d_X2_goesRound_45 ?_
      refine g_aload_n0 rfl d_X2_goesRound_46 ?_
      refine g_getP (b := 47) f_X2_14 d_X2_goesRound_47 rfl (Nat.le_of_ble_eq_true rfl) rfl rfl ?_
      refine g_getI f_X2_70 d_X2_goesRound_50 rfl (Nat.le_of_ble_eq_true rfl) rfl ?_
      refine g_iadd d_X2_goesRound_53 ?_
      refine g_is4 rfl d_X2_goesRound_54 ?_
      refine g_iload (i := 4) rfl d_X2_goesRound_56 ?_
      refine g_if_lt 69 d_X2_goesRound_58 (by decide) (fun h2 => ?_) (fun h2 => ?_)
      · skip
        refine g_bipush (-2) d_X2_goesRound_69 (by decide) ?_
        exact g_iret rfl d_X2_goesRound_71 (by (try simp only [lp_X2_goesRound_18, if_neg h1, if_pos h2, opv_eq, if_true, if_false, Bool.false_eq_true, reduceCtorEq, b2i_t, b2i_f] at hq); exact hq) (Nat.le_refl _) (Nat.le_refl _)
      · skip
        rw [if_neg h2] at hok
        refine g_iload (i := 4) rfl d_X2_goesRound_61 ?_
        refine g_sipush 1919 d_X2_goesRound_63 (by decide) ?_
        refine g_icmp_lt 72 d_X2_goesRound_66 (by decide) (fun h3 => ?_) (fun h3 => ?_)
        · skip
          rw [if_pos h3] at hok
          refine g_aload_n0 rfl d_X2_goesRound_72 ?_
          refine g_getP (b := 48) f_X2_18 d_X2_goesRound_73 rfl (Nat.le_of_ble_eq_true rfl) rfl rfl ?_
          refine g_iload (i := 4) rfl d_X2_goesRound_76 ?_
          obtain ⟨ho3, hok⟩ := hok
          refine g_iald d_X2_goesRound_78 rfl (Nat.le_of_ble_eq_true rfl) ho3 ?_
          refine g_if_le 98 d_X2_goesRound_79 (by decide) (fun h4 => ?_) (fun h4 => ?_)
          · skip
            rw [if_pos h4] at hok
            refine g_aload_n0 rfl d_X2_goesRound_98 ?_
            refine g_getP (b := 48) f_X2_18 d_X2_goesRound_99 rfl (Nat.le_of_ble_eq_true rfl) rfl rfl ?_
            refine g_iload (i := 4) rfl d_X2_goesRound_102 ?_
            refine g_iload_n3 rfl d_X2_goesRound_104 ?_
            obtain ⟨ho4, hok⟩ := hok
            refine g_iast d_X2_goesRound_105 rfl (Nat.le_of_ble_eq_true rfl) ho4 ?_
            refine g_ic3 (l3 + 1) rfl rfl d_X2_goesRound_106 ?_
            refine g_goto 18 d_X2_goesRound_109 (by decide) ?_
            refine G.weak (wks (wks (wks (wks (wkn wk0))))) ?_; exact ih (l3 + 1) (va_up (m_X0_passDay I1 47 x1) 48 (upd ((m_X0_passDay I1 47 x1) 48) (((((m_X0_passDay I1 47 x1) 47 0) + 9) * 101) + ((m_X0_passDay I1 47 x1) 47 1)).toNatClampNeg l3)) (Nat.lt_of_lt_of_le (mu_le_lt (by decide) h1) (Nat.le_of_lt_succ hmu)) (by (try simp only [if_neg h1, if_neg h2, if_pos h3, if_pos h4, opv_eq, if_true, if_false, Bool.false_eq_true, reduceCtorEq, b2i_t, b2i_f] at hok); exact hok) (by (try simp only [lp_X2_goesRound_18, if_neg h1, if_neg h2, if_pos h3, if_pos h4, opv_eq, if_true, if_false, Bool.false_eq_true, reduceCtorEq, b2i_t, b2i_f] at hq); exact hq)
          · skip
            rw [if_neg h4] at hok
            refine g_sipush 10000 d_X2_goesRound_82 (by decide) ?_
            refine g_iload_n3 rfl d_X2_goesRound_85 ?_
            refine g_imul d_X2_goesRound_86 ?_
            refine g_iload_n3 rfl d_X2_goesRound_87 ?_
            refine g_iadd d_X2_goesRound_88 ?_
            refine g_aload_n0 rfl d_X2_goesRound_89 ?_
            refine g_getP (b := 48) f_X2_18 d_X2_goesRound_90 rfl (Nat.le_of_ble_eq_true rfl) rfl rfl ?_
            refine g_iload (i := 4) rfl d_X2_goesRound_93 ?_
            have ho5 := hok
            refine g_iald d_X2_goesRound_95 rfl (Nat.le_of_ble_eq_true rfl) ho5 ?_
            refine g_isub d_X2_goesRound_96 ?_
            exact g_iret rfl d_X2_goesRound_97 (by (try simp only [lp_X2_goesRound_18, if_neg h1, if_neg h2, if_pos h3, if_neg h4, opv_eq, if_true, if_false, Bool.false_eq_true, reduceCtorEq, b2i_t, b2i_f] at hq); exact hq) (Nat.le_refl _) (Nat.le_refl _)
        · skip
          refine g_bipush (-2) d_X2_goesRound_69 (by decide) ?_
          exact g_iret rfl d_X2_goesRound_71 (by (try simp only [lp_X2_goesRound_18, if_neg h1, if_neg h2, if_neg h3, opv_eq, if_true, if_false, Bool.false_eq_true, reduceCtorEq, b2i_t, b2i_f] at hq); exact hq) (Nat.le_refl _) (Nat.le_refl _)
noncomputable def f_X2_goesRound (I : Nat → Nat → Int32) (x1 : Nat) (x2 : Nat) : Int32 := opv ((lp_X2_goesRound_18 x1 x2 (mu_le 1920 1 + 1) 1 (m_X0_copy (m_J7_fill_53178 I 48 0) 47 x2)).1)
noncomputable def m_X2_goesRound (I : Nat → Nat → Int32) (x1 : Nat) (x2 : Nat) : Nat → Nat → Int32 := opv ((lp_X2_goesRound_18 x1 x2 (mu_le 1920 1 + 1) 1 (m_X0_copy (m_J7_fill_53178 I 48 0) 47 x2)).2)
noncomputable def ok_X2_goesRound (I : Nat → Nat → Int32) (x1 : Nat) (x2 : Nat) : Prop := opv (ok_J7_fill_53178 I 48 0 ∧ (x2 ≠ 47 ∧ oklp_X2_goesRound_18 x1 x2 (mu_le 1920 1 + 1) 1 (m_X0_copy (m_J7_fill_53178 I 48 0) 47 x2)))
set_option maxHeartbeats 800000 in
set_option maxRecDepth 4000 in
theorem c_X2_goesRound {k : KT} {ex : Bool} {J : Nat → Nat → Int64} {w : Bool} (I : Nat → Nat → Int32) (x1 : Nat) (hx1 : kd x1 = 7) (x2 : Nat) (hx2 : kd x2 = 0)  (hok : ok_X2_goesRound I x1 x2) : Cx k mX2_goesRound 5 [.ref (ka k 46), .ref (ka k x1), .ref (ka k x2)] (81, ex, I, J, Pw w) (some (.int (f_X2_goesRound I x1 x2))) (81, ex, m_X2_goesRound I x1 x2, J, Pw w) := by
  refine Ct.of rfl [some (.ref (ka k 46)), some (.ref (ka k x1)), some (.ref (ka k x2)), none, none] rfl rfl (Nat.le_of_ble_eq_true rfl) ?_
  rw [ok_X2_goesRound, opv_eq] at hok
  refine g_aload_n0 rfl d_X2_goesRound_0 ?_
  refine g_getP (b := 48) f_X2_18 d_X2_goesRound_1 rfl (Nat.le_of_ble_eq_true rfl) rfl rfl ?_
  refine g_iconst 0 d_X2_goesRound_4 (by decide) ?_
  obtain ⟨ho1, hok⟩ := hok
  refine g_callS0 (c_J7_fill_53178 I 48 rfl 0 ho1) w_J7_fill_53178 l_X2_61 d_X2_goesRound_5 rfl rfl (Nat.le_of_ble_eq_true rfl) ⟨Nat.le_of_ble_eq_true rfl, Nat.le_of_ble_eq_true rfl⟩ ⟨Nat.zero_le _, Nat.zero_le _⟩ ⟨rfl, rfl⟩ ?_
  refine g_aload_n0 rfl d_X2_goesRound_8 ?_
  refine g_getP (b := 47) f_X2_14 d_X2_goesRound_9 rfl (Nat.le_of_ble_eq_true rfl) rfl rfl ?_
  refine g_aload_n2 rfl d_X2_goesRound_12 ?_
  obtain ⟨ho2, hok⟩ := hok
  refine g_callV0 (c_X0_copy (m_J7_fill_53178 I 48 0) 47 rfl x2 hx2 ho2) w_X0_copy l_X2_22 d_X2_goesRound_13 rfl (Nat.le_of_ble_eq_true rfl) rfl rfl (Nat.le_of_ble_eq_true rfl) ⟨Nat.le_of_ble_eq_true rfl, Nat.le_of_ble_eq_true rfl⟩ ⟨Nat.zero_le _, Nat.zero_le _⟩ ⟨rfl, rfl⟩ ?_
  refine g_iconst 1 d_X2_goesRound_16 (by decide) ?_
  refine g_isn3 rfl d_X2_goesRound_17 ?_
  exact k_lp_X2_goesRound_18 x1 hx1 x2 hx2 _ 1 (m_X0_copy (m_J7_fill_53178 I 48 0) 47 x2) (Nat.lt_succ_self _) hok ⟨by simp only [f_X2_goesRound, m_X2_goesRound, opv_eq, if_true, if_false, Bool.false_eq_true, reduceCtorEq, b2i_t, b2i_f], by simp only [f_X2_goesRound, m_X2_goesRound, opv_eq, if_true, if_false, Bool.false_eq_true, reduceCtorEq, b2i_t, b2i_f]⟩
noncomputable def m_X4_forget (I : Nat → Nat → Int32)  : Nat → Nat → Int32 := opv (st2 (st2 I 58 4 0) 58 0 0)
set_option maxHeartbeats 800000 in
set_option maxRecDepth 4000 in
theorem c_X4_forget {k : KT} {ex : Bool} {J : Nat → Nat → Int64} {w : Bool} (I : Nat → Nat → Int32)   : Cx k mX4_forget 1 [.ref (ka k 58)] (81, ex, I, J, Pw w) none (81, ex, m_X4_forget I, J, Pw w) := by
  refine Ct.of rfl [some (.ref (ka k 58))] rfl rfl (Nat.le_of_ble_eq_true rfl) ?_
  refine g_aload_n0 rfl d_X4_forget_0 ?_
  refine g_iconst 0 d_X4_forget_1 (by decide) ?_
  refine g_putI f_X4_28 d_X4_forget_2 rfl (Nat.le_of_ble_eq_true rfl) rfl (by decide) (by decide) ?_
  refine g_aload_n0 rfl d_X4_forget_5 ?_
  refine g_iconst 0 d_X4_forget_6 (by decide) ?_
  refine g_putI f_X4_32 d_X4_forget_7 rfl (Nat.le_of_ble_eq_true rfl) rfl rfl rfl ?_
  exact g_vret rfl d_X4_forget_10 ⟨rfl, by simp only [m_X4_forget, opv_eq, if_true, if_false, Bool.false_eq_true, reduceCtorEq, b2i_t, b2i_f]⟩ (Nat.le_refl _) (Nat.le_refl _)
noncomputable def u0_X4_nameOf (I : Nat → Nat → Int32) (x1 : Int32) : Int32 := opv (if x1 < 0 then (-1) else (if (I 58 0) ≤ x1 then (-1) else (if (Int32.ofNat (sz 59)) ≤ x1 then (-1) else (((I 59 x1.toNatClampNeg) / 4) * 10) + ((I 59 x1.toNatClampNeg) - (I 59 x1.toNatClampNeg) / 4 * 4))))
noncomputable def f_X4_nameOf (I : Nat → Nat → Int32) (x1 : Int32) : Int32 := opv (u0_X4_nameOf I x1)
noncomputable def ok_X4_nameOf (I : Nat → Nat → Int32) (x1 : Int32) : Prop := opv (if x1 < 0 then True else (if (I 58 0) ≤ x1 then True else (if (Int32.ofNat (sz 59)) ≤ x1 then True else (vp_in x1 (sz 59) ∧ vp_in x1 (sz 59)))))
set_option maxHeartbeats 800000 in
set_option maxRecDepth 4000 in
theorem c_X4_nameOf {k : KT} {ex : Bool} {J : Nat → Nat → Int64} {w : Bool} (I : Nat → Nat → Int32) (x1 : Int32)  (hok : ok_X4_nameOf I x1) : Cx k mX4_nameOf 1 [.ref (ka k 58), .int x1] (81, ex, I, J, Pw w) (some (.int (f_X4_nameOf I x1))) (81, ex, I, J, Pw w) := by
  refine Ct.of rfl [some (.ref (ka k 58)), some (.int x1)] rfl rfl (Nat.le_of_ble_eq_true rfl) ?_
  rw [ok_X4_nameOf, opv_eq] at hok
  refine g_iload_n1 rfl d_X4_nameOf_0 ?_
  refine g_cut (pc' := 45) (vs' := [some (.ref (ka k 58)), some (.int x1)]) (st' := [.int (u0_X4_nameOf I x1)]) (M' := (81, ex, I, J, Pw w)) (fun hj => ?_) ?_
  · skip
    refine g_if_lt 44 d_X4_nameOf_1 (by decide) (fun h1 => ?_) (fun h1 => ?_)
    · skip
      refine g_iconst (-1) d_X4_nameOf_44 (by decide) ?_
      (try simp only [if_pos h1, opv_eq, if_true, if_false, Bool.false_eq_true, reduceCtorEq, b2i_t, b2i_f, u0_X4_nameOf] at hj); exact hj
    · skip
      rw [if_neg h1] at hok
      refine g_iload_n1 rfl d_X4_nameOf_4 ?_
      refine g_aload_n0 rfl d_X4_nameOf_5 ?_
      refine g_getI f_X4_32 d_X4_nameOf_6 rfl (Nat.le_of_ble_eq_true rfl) rfl ?_
      refine g_icmp_ge 44 d_X4_nameOf_9 (by decide) (fun h2 => ?_) (fun h2 => ?_)
      · skip
        refine g_iconst (-1) d_X4_nameOf_44 (by decide) ?_
        (try simp only [if_neg h1, if_pos h2, opv_eq, if_true, if_false, Bool.false_eq_true, reduceCtorEq, b2i_t, b2i_f, u0_X4_nameOf] at hj); exact hj
      · skip
        rw [if_neg h2] at hok
        refine g_iload_n1 rfl d_X4_nameOf_12 ?_
        refine g_aload_n0 rfl d_X4_nameOf_13 ?_
        refine g_getP (b := 59) f_X4_11 d_X4_nameOf_14 rfl (Nat.le_of_ble_eq_true rfl) rfl rfl ?_
        refine g_alen12 d_X4_nameOf_17 rfl (Nat.le_of_ble_eq_true rfl) ?_
        refine g_icmp_ge 44 d_X4_nameOf_18 (by decide) (fun h3 => ?_) (fun h3 => ?_)
        · skip
          refine g_iconst (-1) d_X4_nameOf_44 (by decide) ?_
          (try simp only [if_neg h1, if_neg h2, if_pos h3, opv_eq, if_true, if_false, Bool.false_eq_true, reduceCtorEq, b2i_t, b2i_f, u0_X4_nameOf] at hj); exact hj
        · skip
          rw [if_neg h3] at hok
          refine g_aload_n0 rfl d_X4_nameOf_21 ?_
          refine g_getP (b := 59) f_X4_11 d_X4_nameOf_22 rfl (Nat.le_of_ble_eq_true rfl) rfl rfl ?_
          refine g_iload_n1 rfl d_X4_nameOf_25 ?_
          obtain ⟨ho1, hok⟩ := hok
          refine g_iald d_X4_nameOf_26 rfl (Nat.le_of_ble_eq_true rfl) ho1 ?_
          refine g_iconst 4 d_X4_nameOf_27 (by decide) ?_
          refine g_idiv (by decide) d_X4_nameOf_28 ?_
          refine g_bipush 10 d_X4_nameOf_29 (by decide) ?_
          refine g_imul d_X4_nameOf_31 ?_
          refine g_aload_n0 rfl d_X4_nameOf_32 ?_
          refine g_getP (b := 59) f_X4_11 d_X4_nameOf_33 rfl (Nat.le_of_ble_eq_true rfl) rfl rfl ?_
          refine g_iload_n1 rfl d_X4_nameOf_36 ?_
          have ho2 := hok
          refine g_iald d_X4_nameOf_37 rfl (Nat.le_of_ble_eq_true rfl) ho2 ?_
          refine g_iconst 4 d_X4_nameOf_38 (by decide) ?_
          refine g_irem (by decide) d_X4_nameOf_39 ?_
          refine g_iadd d_X4_nameOf_40 ?_
          refine g_goto 45 d_X4_nameOf_41 (by decide) ?_
          (try simp only [if_neg h1, if_neg h2, if_neg h3, opv_eq, if_true, if_false, Bool.false_eq_true, reduceCtorEq, b2i_t, b2i_f, u0_X4_nameOf] at hj); exact hj
  · skip
    exact g_iret rfl d_X4_nameOf_45 ⟨by simp only [f_X4_nameOf, opv_eq, if_true, if_false, Bool.false_eq_true, reduceCtorEq, b2i_t, b2i_f], rfl⟩ (Nat.le_refl _) (Nat.le_refl _)
noncomputable def u0_X4_bitsOf (I : Nat → Nat → Int32) (x1 : Bool) (l3 : Int32) : Int32 := opv (if x1 = true then (I 59 l3.toNatClampNeg) - (I 59 l3.toNatClampNeg) / 4 * 4 else (I 59 l3.toNatClampNeg) / 4)
noncomputable def lp_X4_bitsOf_4 (I : Nat → Nat → Int32) (x1 : Bool) : Nat → Int32 → Int32 → Int32 × Int32
  | 0, l2, l3 => (l2, l3)
  | n + 1, l2, l3 => (if (I 58 0) ≤ l3 then (l2, l3) else (if (Int32.ofNat (sz 59)) ≤ l3 then (l2, l3) else (lp_X4_bitsOf_4 I x1 n (l2 ||| (1 <<< ((u0_X4_bitsOf I x1 l3) &&& 31))) (l3 + 1))))
def oklp_X4_bitsOf_4 (I : Nat → Nat → Int32) (x1 : Bool) : Nat → Int32 → Int32 → Prop
  | 0, l2, l3 => True
  | n + 1, l2, l3 => (if (I 58 0) ≤ l3 then True else (if (Int32.ofNat (sz 59)) ≤ l3 then True else (vp_in l3 (sz 59) ∧ oklp_X4_bitsOf_4 I x1 n (l2 ||| (1 <<< ((u0_X4_bitsOf I x1 l3) &&& 31))) (l3 + 1))))
set_option maxHeartbeats 800000 in
set_option maxRecDepth 4000 in
theorem k_lp_X4_bitsOf_4 {k : KT} {ex : Bool} {J : Nat → Nat → Int64} {w : Bool} (I : Nat → Nat → Int32) (x1 : Bool) {F : FinT} : ∀ (n : Nat) (l2 : Int32) (l3 : Int32), mu_up (I 58 0) l3 < n → oklp_X4_bitsOf_4 I x1 n l2 l3 → G k mX4_bitsOf (roomOf 1 0 0) F 0 0 55 [some (.ref (ka k 58)), some (.int (b2i x1)), some (.int ((lp_X4_bitsOf_4 I x1 n l2 l3).1)), some (.int ((lp_X4_bitsOf_4 I x1 n l2 l3).2))] [] (81, ex, I, J, Pw w) → G k mX4_bitsOf (roomOf 1 0 0) F 0 0 4 [some (.ref (ka k 58)), some (.int (b2i x1)), some (.int l2), some (.int l3)] [] (81, ex, I, J, Pw w) := by
  intro n
  induction n with
  | zero => intro l2 l3 hmu hok hj; exact absurd hmu (Nat.not_lt_zero _)
  | succ n ih =>
    intro l2 l3 hmu hok hj
    rw [oklp_X4_bitsOf_4] at hok
    refine g_iload_n3 rfl d_X4_bitsOf_4 ?_
    refine g_aload_n0 rfl d_X4_bitsOf_5 ?_
    refine g_getI f_X4_32 d_X4_bitsOf_6 rfl (Nat.le_of_ble_eq_true rfl) rfl ?_
    refine g_icmp_ge 55 d_X4_bitsOf_9 (by decide) (fun h1 => ?_) (fun h1 => ?_)
    · skip
      (try simp only [lp_X4_bitsOf_4, if_pos h1, opv_eq, if_true, if_false, Bool.false_eq_true, reduceCtorEq, b2i_t, b2i_f] at hj); exact hj
    · skip
      rw [if_neg h1] at hok
      refine g_iload_n3 rfl d_X4_bitsOf_12 ?_
      refine g_aload_n0 rfl d_X4_bitsOf_13 ?_
      refine g_getP (b := 59) f_X4_11 d_X4_bitsOf_14 rfl (Nat.le_of_ble_eq_true rfl) rfl rfl ?_
      refine g_alen12 d_X4_bitsOf_17 rfl (Nat.le_of_ble_eq_true rfl) ?_
      refine g_icmp_ge 55 d_X4_bitsOf_18 (by decide) (fun h2 => ?_) (fun h2 => ?_)
      · skip
        (try simp only [lp_X4_bitsOf_4, if_neg h1, if_pos h2, opv_eq, if_true, if_false, Bool.false_eq_true, reduceCtorEq, b2i_t, b2i_f] at hj); exact hj
      · skip
        rw [if_neg h2] at hok
        refine g_iload_n2 rfl d_X4_bitsOf_21 ?_
        refine g_iconst 1 d_X4_bitsOf_22 (by decide) ?_
        refine g_iload_n1 rfl d_X4_bitsOf_23 ?_
        obtain ⟨hoa, hob⟩ := hok
        refine g_cut (pc' := 46) (vs' := [some (.ref (ka k 58)), some (.int (b2i x1)), some (.int l2), some (.int l3)]) (st' := [.int (u0_X4_bitsOf I x1 l3), .int 1, .int l2]) (M' := (81, ex, I, J, Pw w)) (fun hj => ?_) ?_
        · skip
          refine g_ifz 38 d_X4_bitsOf_24 (by decide) (fun h3 => ?_) (fun h3 => ?_)
          · skip
            refine g_aload_n0 rfl d_X4_bitsOf_38 ?_
            refine g_getP (b := 59) f_X4_11 d_X4_bitsOf_39 rfl (Nat.le_of_ble_eq_true rfl) rfl rfl ?_
            refine g_iload_n3 rfl d_X4_bitsOf_42 ?_
            have ho1 := hoa
            refine g_iald d_X4_bitsOf_43 rfl (Nat.le_of_ble_eq_true rfl) ho1 ?_
            refine g_iconst 4 d_X4_bitsOf_44 (by decide) ?_
            refine g_idiv (by decide) d_X4_bitsOf_45 ?_
            (try simp only [if_neg (nb h3), opv_eq, if_true, if_false, Bool.false_eq_true, reduceCtorEq, b2i_t, b2i_f, u0_X4_bitsOf] at hj); exact hj
          · skip
            refine g_aload_n0 rfl d_X4_bitsOf_27 ?_
            refine g_getP (b := 59) f_X4_11 d_X4_bitsOf_28 rfl (Nat.le_of_ble_eq_true rfl) rfl rfl ?_
            refine g_iload_n3 rfl d_X4_bitsOf_31 ?_
            have ho2 := hoa
            refine g_iald d_X4_bitsOf_32 rfl (Nat.le_of_ble_eq_true rfl) ho2 ?_
            refine g_iconst 4 d_X4_bitsOf_33 (by decide) ?_
            refine g_irem (by decide) d_X4_bitsOf_34 ?_
            refine g_goto 46 d_X4_bitsOf_35 (by decide) ?_
            (try simp only [if_pos h3, opv_eq, if_true, if_false, Bool.false_eq_true, reduceCtorEq, b2i_t, b2i_f, u0_X4_bitsOf] at hj); exact hj
        · skip
          refine g_ishl d_X4_bitsOf_46 ?_
          refine g_ior d_X4_bitsOf_47 ?_
          refine g_isn2 rfl d_X4_bitsOf_48 ?_
          refine g_ic3 (l3 + 1) rfl rfl d_X4_bitsOf_49 ?_
          refine g_goto 4 d_X4_bitsOf_52 (by decide) ?_
          exact ih (l2 ||| (1 <<< ((u0_X4_bitsOf I x1 l3) &&& 31))) (l3 + 1) (Nat.lt_of_lt_of_le (mu_up_lt h1) (Nat.le_of_lt_succ hmu)) (by (try simp only [if_neg h1, if_neg h2, opv_eq, if_true, if_false, Bool.false_eq_true, reduceCtorEq, b2i_t, b2i_f] at hob); exact hob) (by (try simp only [lp_X4_bitsOf_4, if_neg h1, if_neg h2, opv_eq, if_true, if_false, Bool.false_eq_true, reduceCtorEq, b2i_t, b2i_f] at hj); exact hj)
noncomputable def f_X4_bitsOf (I : Nat → Nat → Int32) (x1 : Bool) : Int32 := opv ((lp_X4_bitsOf_4 I x1 (mu_up (I 58 0) 0 + 1) 0 0).1)
noncomputable def ok_X4_bitsOf (I : Nat → Nat → Int32) (x1 : Bool) : Prop := opv (oklp_X4_bitsOf_4 I x1 (mu_up (I 58 0) 0 + 1) 0 0)
set_option maxHeartbeats 800000 in
set_option maxRecDepth 4000 in
theorem c_X4_bitsOf {k : KT} {ex : Bool} {J : Nat → Nat → Int64} {w : Bool} (I : Nat → Nat → Int32) (x1 : Bool)  (hok : ok_X4_bitsOf I x1) : Cx k mX4_bitsOf 1 [.ref (ka k 58), .int (b2i x1)] (81, ex, I, J, Pw w) (some (.int (f_X4_bitsOf I x1))) (81, ex, I, J, Pw w) := by
  refine Ct.of rfl [some (.ref (ka k 58)), some (.int (b2i x1)), none, none] rfl rfl (Nat.le_of_ble_eq_true rfl) ?_
  rw [ok_X4_bitsOf, opv_eq] at hok
  refine g_iconst 0 d_X4_bitsOf_0 (by decide) ?_
  refine g_isn2 rfl d_X4_bitsOf_1 ?_
  refine g_iconst 0 d_X4_bitsOf_2 (by decide) ?_
  refine g_isn3 rfl d_X4_bitsOf_3 ?_
  refine k_lp_X4_bitsOf_4 I x1 _ 0 0 (Nat.lt_succ_self _) hok ?_
  refine g_iload_n2 rfl d_X4_bitsOf_55 ?_
  exact g_iret rfl d_X4_bitsOf_56 ⟨by simp only [f_X4_bitsOf, opv_eq, if_true, if_false, Bool.false_eq_true, reduceCtorEq, b2i_t, b2i_f], rfl⟩ (Nat.le_refl _) (Nat.le_refl _)
noncomputable def lp_X4_onlyOne_8 (I : Nat → Nat → Int32) (x1 : Bool) (l2 : Int32) : Nat → Int32 → Int32
  | 0, l3 => 0
  | n + 1, l3 => (if 9 < l3 then (-2) else (if l2 = (1 <<< (l3 &&& 31)) then l3 else (lp_X4_onlyOne_8 I x1 l2 n (l3 + 1))))
set_option maxHeartbeats 800000 in
set_option maxRecDepth 4000 in
theorem k_lp_X4_onlyOne_8 {k : KT} {ex : Bool} {J : Nat → Nat → Int64} {w : Bool} (I : Nat → Nat → Int32) (x1 : Bool) (l2 : Int32) {Q : Option Value → MM → Prop} : ∀ (n : Nat) (l3 : Int32), mu_le 9 l3 < n → Q (some (.int (lp_X4_onlyOne_8 I x1 l2 n l3))) (81, ex, I, J, Pw w) → G k mX4_onlyOne (roomOf 2 0 0) (FinM k Q 0 0) 0 0 8 [some (.ref (ka k 58)), some (.int (b2i x1)), some (.int l2), some (.int l3)] [] (81, ex, I, J, Pw w) := by
  intro n
  induction n with
  | zero => intro l3 hmu hq; exact absurd hmu (Nat.not_lt_zero _)
  | succ n ih =>
    intro l3 hmu hq
    refine g_iload_n3 rfl d_X4_onlyOne_8 ?_
    refine g_bipush 9 d_X4_onlyOne_9 (by decide) ?_
    refine g_icmp_gt 29 d_X4_onlyOne_11 (by decide) (fun h1 => ?_) (fun h1 => ?_)
    · skip
      refine g_bipush (-2) d_X4_onlyOne_29 (by decide) ?_
      exact g_iret rfl d_X4_onlyOne_31 (by (try simp only [lp_X4_onlyOne_8, if_pos h1, opv_eq, if_true, if_false, Bool.false_eq_true, reduceCtorEq, b2i_t, b2i_f] at hq); exact hq) (Nat.le_refl _) (Nat.le_refl _)
    · skip
      refine g_iload_n2 rfl d_X4_onlyOne_14 ?_
      refine g_iconst 1 d_X4_onlyOne_15 (by decide) ?_
      refine g_iload_n3 rfl d_X4_onlyOne_16 ?_
      refine g_ishl d_X4_onlyOne_17 ?_
      refine g_icmp_ne 23 d_X4_onlyOne_18 (by decide) (fun h2 => ?_) (fun h2 => ?_)
      · skip
        refine g_ic3 (l3 + 1) rfl rfl d_X4_onlyOne_23 ?_
        refine g_goto 8 d_X4_onlyOne_26 (by decide) ?_
        exact ih (l3 + 1) (Nat.lt_of_lt_of_le (mu_le_lt (by decide) h1) (Nat.le_of_lt_succ hmu)) (by (try simp only [lp_X4_onlyOne_8, if_neg h1, if_neg h2, opv_eq, if_true, if_false, Bool.false_eq_true, reduceCtorEq, b2i_t, b2i_f] at hq); exact hq)
      · skip
        refine g_iload_n3 rfl d_X4_onlyOne_21 ?_
        exact g_iret rfl d_X4_onlyOne_22 (by (try simp only [lp_X4_onlyOne_8, if_neg h1, if_pos h2, opv_eq, if_true, if_false, Bool.false_eq_true, reduceCtorEq, b2i_t, b2i_f] at hq); exact hq) (Nat.le_refl _) (Nat.le_refl _)
noncomputable def f_X4_onlyOne (I : Nat → Nat → Int32) (x1 : Bool) : Int32 := opv (lp_X4_onlyOne_8 I x1 (f_X4_bitsOf I x1) (mu_le 9 0 + 1) 0)
noncomputable def ok_X4_onlyOne (I : Nat → Nat → Int32) (x1 : Bool) : Prop := opv (ok_X4_bitsOf I x1)
set_option maxHeartbeats 800000 in
set_option maxRecDepth 4000 in
theorem c_X4_onlyOne {k : KT} {ex : Bool} {J : Nat → Nat → Int64} {w : Bool} (I : Nat → Nat → Int32) (x1 : Bool)  (hok : ok_X4_onlyOne I x1) : Cx k mX4_onlyOne 2 [.ref (ka k 58), .int (b2i x1)] (81, ex, I, J, Pw w) (some (.int (f_X4_onlyOne I x1))) (81, ex, I, J, Pw w) := by
  refine Ct.of rfl [some (.ref (ka k 58)), some (.int (b2i x1)), none, none] rfl rfl (Nat.le_of_ble_eq_true rfl) ?_
  rw [ok_X4_onlyOne, opv_eq] at hok
  refine g_aload_n0 rfl d_X4_onlyOne_0 ?_
  refine g_iload_n1 rfl d_X4_onlyOne_1 ?_
  have ho1 := hok
  refine g_callV1 (c_X4_bitsOf I x1 ho1) w_X4_bitsOf l_X4_36 d_X4_onlyOne_2 rfl (Nat.le_of_ble_eq_true rfl) rfl rfl (Nat.le_of_ble_eq_true rfl) ⟨Nat.le_of_ble_eq_true rfl, Nat.le_of_ble_eq_true rfl⟩ ⟨Nat.zero_le _, Nat.zero_le _⟩ ⟨rfl, rfl⟩ ?_
  refine g_isn2 rfl d_X4_onlyOne_5 ?_
  refine g_iconst 0 d_X4_onlyOne_6 (by decide) ?_
  refine g_isn3 rfl d_X4_onlyOne_7 ?_
  exact k_lp_X4_onlyOne_8 I x1 (f_X4_bitsOf I x1) _ 0 (Nat.lt_succ_self _) ⟨by simp only [f_X4_onlyOne, opv_eq, if_true, if_false, Bool.false_eq_true, reduceCtorEq, b2i_t, b2i_f], rfl⟩
noncomputable def u0_X4_mostOf (I : Nat → Nat → Int32) (x1 : Int32) (l2 : Int32) (l3 : Int32) : Int32 := opv (if ((x1 * 4) + l3) < 0 then l2 else (if (Int32.ofNat (sz 62)) ≤ ((x1 * 4) + l3) then l2 else imax l2 (I 62 ((x1 * 4) + l3).toNatClampNeg)))
noncomputable def lp_X4_mostOf_4 (I : Nat → Nat → Int32) (x1 : Int32) : Nat → Int32 → Int32 → Int32 × Int32
  | 0, l2, l3 => (l2, l3)
  | n + 1, l2, l3 => (if 3 < l3 then (l2, l3) else (lp_X4_mostOf_4 I x1 n (u0_X4_mostOf I x1 l2 l3) (l3 + 1)))
def oklp_X4_mostOf_4 (I : Nat → Nat → Int32) (x1 : Int32) : Nat → Int32 → Int32 → Prop
  | 0, l2, l3 => True
  | n + 1, l2, l3 => (if 3 < l3 then True else ((if ((x1 * 4) + l3) < 0 then True else (if (Int32.ofNat (sz 62)) ≤ ((x1 * 4) + l3) then True else vp_in ((x1 * 4) + l3) (sz 62))) ∧ oklp_X4_mostOf_4 I x1 n (u0_X4_mostOf I x1 l2 l3) (l3 + 1)))
set_option maxHeartbeats 800000 in
set_option maxRecDepth 4000 in
theorem k_lp_X4_mostOf_4 {k : KT} {ex : Bool} {J : Nat → Nat → Int64} {w : Bool} (I : Nat → Nat → Int32) (x1 : Int32) {F : FinT} : ∀ (n : Nat) (l2 : Int32) (l3 : Int32), mu_le 3 l3 < n → oklp_X4_mostOf_4 I x1 n l2 l3 → G k mX4_mostOf (roomOf 2 0 0) F 0 0 49 [some (.ref (ka k 58)), some (.int x1), some (.int ((lp_X4_mostOf_4 I x1 n l2 l3).1)), some (.int ((lp_X4_mostOf_4 I x1 n l2 l3).2)), none] [] (81, ex, I, J, Pw w) → G k mX4_mostOf (roomOf 2 0 0) F 0 0 4 [some (.ref (ka k 58)), some (.int x1), some (.int l2), some (.int l3), none] [] (81, ex, I, J, Pw w) := by
  intro n
  induction n with
  | zero => intro l2 l3 hmu hok hj; exact absurd hmu (Nat.not_lt_zero _)
  | succ n ih =>
    intro l2 l3 hmu hok hj
    rw [oklp_X4_mostOf_4] at hok
    refine g_iload_n3 rfl d_X4_mostOf_4 ?_
    refine g_iconst 3 d_X4_mostOf_5 (by decide) ?_
    refine g_icmp_gt 49 d_X4_mostOf_6 (by decide) (fun h1 => ?_) (fun h1 => ?_)
    · skip
      (try simp only [lp_X4_mostOf_4, if_pos h1, opv_eq, if_true, if_false, Bool.false_eq_true, reduceCtorEq, b2i_t, b2i_f] at hj); exact hj
    · skip
      rw [if_neg h1] at hok
      refine g_iload_n1 rfl d_X4_mostOf_9 ?_
      refine g_iconst 4 d_X4_mostOf_10 (by decide) ?_
      refine g_imul d_X4_mostOf_11 ?_
      refine g_iload_n3 rfl d_X4_mostOf_12 ?_
      refine g_iadd d_X4_mostOf_13 ?_
      refine g_is4 rfl d_X4_mostOf_14 ?_
      refine g_iload (i := 4) rfl d_X4_mostOf_16 ?_
      obtain ⟨hoa, hob⟩ := hok
      refine g_cut (pc' := 43) (vs' := [some (.ref (ka k 58)), some (.int x1), some (.int (u0_X4_mostOf I x1 l2 l3)), some (.int l3), some (.int ((x1 * 4) + l3))]) (st' := []) (M' := (81, ex, I, J, Pw w)) (fun hj => ?_) ?_
      · skip
        refine g_if_lt 43 d_X4_mostOf_18 (by decide) (fun h2 => ?_) (fun h2 => ?_)
        · skip
          (try simp only [if_pos h2, opv_eq, if_true, if_false, Bool.false_eq_true, reduceCtorEq, b2i_t, b2i_f, u0_X4_mostOf] at hj); exact hj
        · skip
          rw [if_neg h2] at hoa
          refine g_iload (i := 4) rfl d_X4_mostOf_21 ?_
          refine g_aload_n0 rfl d_X4_mostOf_23 ?_
          refine g_getP (b := 62) f_X4_25 d_X4_mostOf_24 rfl (Nat.le_of_ble_eq_true rfl) rfl rfl ?_
          refine g_alen12 d_X4_mostOf_27 rfl (Nat.le_of_ble_eq_true rfl) ?_
          refine g_icmp_ge 43 d_X4_mostOf_28 (by decide) (fun h3 => ?_) (fun h3 => ?_)
          · skip
            (try simp only [if_neg h2, if_pos h3, opv_eq, if_true, if_false, Bool.false_eq_true, reduceCtorEq, b2i_t, b2i_f, u0_X4_mostOf] at hj); exact hj
          · skip
            rw [if_neg h3] at hoa
            refine g_iload_n2 rfl d_X4_mostOf_31 ?_
            refine g_aload_n0 rfl d_X4_mostOf_32 ?_
            refine g_getP (b := 62) f_X4_25 d_X4_mostOf_33 rfl (Nat.le_of_ble_eq_true rfl) rfl rfl ?_
            refine g_iload (i := 4) rfl d_X4_mostOf_36 ?_
            have ho1 := hoa
            refine g_iald d_X4_mostOf_38 rfl (Nat.le_of_ble_eq_true rfl) ho1 ?_
            refine g_mmax lm_X4_101 d_X4_mostOf_39 (Nat.le_of_ble_eq_true rfl) ⟨Nat.le_of_ble_eq_true rfl, Nat.le_of_ble_eq_true rfl⟩ ⟨Nat.zero_le _, Nat.zero_le _⟩ ?_
            refine g_isn2 rfl d_X4_mostOf_42 ?_
            (try simp only [if_neg h2, if_neg h3, opv_eq, if_true, if_false, Bool.false_eq_true, reduceCtorEq, b2i_t, b2i_f, u0_X4_mostOf] at hj); exact hj
      · skip
        refine g_ic3 (l3 + 1) rfl rfl d_X4_mostOf_43 ?_
        refine g_goto 4 d_X4_mostOf_46 (by decide) ?_
        refine G.weak (wks (wks (wks (wks (wkn wk0))))) ?_; exact ih (u0_X4_mostOf I x1 l2 l3) (l3 + 1) (Nat.lt_of_lt_of_le (mu_le_lt (by decide) h1) (Nat.le_of_lt_succ hmu)) (by (try simp only [if_neg h1, opv_eq, if_true, if_false, Bool.false_eq_true, reduceCtorEq, b2i_t, b2i_f] at hob); exact hob) (by (try simp only [lp_X4_mostOf_4, if_neg h1, opv_eq, if_true, if_false, Bool.false_eq_true, reduceCtorEq, b2i_t, b2i_f] at hj); exact hj)
noncomputable def f_X4_mostOf (I : Nat → Nat → Int32) (x1 : Int32) : Int32 := opv ((lp_X4_mostOf_4 I x1 (mu_le 3 0 + 1) 0 0).1)
noncomputable def ok_X4_mostOf (I : Nat → Nat → Int32) (x1 : Int32) : Prop := opv (oklp_X4_mostOf_4 I x1 (mu_le 3 0 + 1) 0 0)
set_option maxHeartbeats 800000 in
set_option maxRecDepth 4000 in
theorem c_X4_mostOf {k : KT} {ex : Bool} {J : Nat → Nat → Int64} {w : Bool} (I : Nat → Nat → Int32) (x1 : Int32)  (hok : ok_X4_mostOf I x1) : Cx k mX4_mostOf 2 [.ref (ka k 58), .int x1] (81, ex, I, J, Pw w) (some (.int (f_X4_mostOf I x1))) (81, ex, I, J, Pw w) := by
  refine Ct.of rfl [some (.ref (ka k 58)), some (.int x1), none, none, none] rfl rfl (Nat.le_of_ble_eq_true rfl) ?_
  rw [ok_X4_mostOf, opv_eq] at hok
  refine g_iconst 0 d_X4_mostOf_0 (by decide) ?_
  refine g_isn2 rfl d_X4_mostOf_1 ?_
  refine g_iconst 0 d_X4_mostOf_2 (by decide) ?_
  refine g_isn3 rfl d_X4_mostOf_3 ?_
  refine k_lp_X4_mostOf_4 I x1 _ 0 0 (Nat.lt_succ_self _) hok ?_
  refine g_iload_n2 rfl d_X4_mostOf_49 ?_
  exact g_iret rfl d_X4_mostOf_50 ⟨by simp only [f_X4_mostOf, opv_eq, if_true, if_false, Bool.false_eq_true, reduceCtorEq, b2i_t, b2i_f], rfl⟩ (Nat.le_refl _) (Nat.le_refl _)
noncomputable def lp_X4_watch_16 (x1 : Nat) (x2 : Int32) (x3 : Int32) : Nat → Int32 → (Nat → Nat → Int32) → Int32 × (Nat → Nat → Int32)
  | 0, l4, I1 => (l4, I1)
  | n + 1, l4, I1 => (if (Int32.ofNat (sz 61)) ≤ l4 then (l4, I1) else (lp_X4_watch_16 x1 x2 x3 n (l4 + 1) (va_up (m_X0_passDay I1 60 x1) 61 (upd ((m_X0_passDay I1 60 x1) 61) l4.toNatClampNeg (f_X0_whoIsOut (m_X0_passDay I1 60 x1) 60)))))
def oklp_X4_watch_16 (x1 : Nat) (x2 : Int32) (x3 : Int32) : Nat → Int32 → (Nat → Nat → Int32) → Prop
  | 0, l4, I1 => True
  | n + 1, l4, I1 => (if (Int32.ofNat (sz 61)) ≤ l4 then True else (vp_in l4 (sz 61) ∧ oklp_X4_watch_16 x1 x2 x3 n (l4 + 1) (va_up (m_X0_passDay I1 60 x1) 61 (upd ((m_X0_passDay I1 60 x1) 61) l4.toNatClampNeg (f_X0_whoIsOut (m_X0_passDay I1 60 x1) 60)))))
set_option maxHeartbeats 800000 in
set_option maxRecDepth 4000 in
theorem k_lp_X4_watch_16 {k : KT} {ex : Bool} {J : Nat → Nat → Int64} {w : Bool} (x1 : Nat) (hx1 : kd x1 = 7) (x2 : Int32) (x3 : Int32) {F : FinT} : ∀ (n : Nat) (l4 : Int32) (I1 : (Nat → Nat → Int32)), mu_up (Int32.ofNat (sz 61)) l4 < n → oklp_X4_watch_16 x1 x2 x3 n l4 I1 → G k mX4_watch (roomOf 5 0 0) F 0 0 54 [some (.ref (ka k 58)), some (.ref (ka k x1)), some (.int x2), some (.int x3), some (.int ((lp_X4_watch_16 x1 x2 x3 n l4 I1).1))] [] (81, ex, (lp_X4_watch_16 x1 x2 x3 n l4 I1).2, J, Pw w) → G k mX4_watch (roomOf 5 0 0) F 0 0 16 [some (.ref (ka k 58)), some (.ref (ka k x1)), some (.int x2), some (.int x3), some (.int l4)] [] (81, ex, I1, J, Pw w) := by
  intro n
  induction n with
  | zero => intro l4 I1 hmu hok hj; exact absurd hmu (Nat.not_lt_zero _)
  | succ n ih =>
    intro l4 I1 hmu hok hj
    rw [oklp_X4_watch_16] at hok
    refine g_iload (i := 4) rfl d_X4_watch_16 ?_
    refine g_aload_n0 rfl d_X4_watch_18 ?_
    refine g_getP (b := 61) f_X4_22 d_X4_watch_19 rfl (Nat.le_of_ble_eq_true rfl) rfl rfl ?_
    refine g_alen12 d_X4_watch_22 rfl (Nat.le_of_ble_eq_true rfl) ?_
    refine g_icmp_ge 54 d_X4_watch_23 (by decide) (fun h1 => ?_) (fun h1 => ?_)
    · skip
      (try simp only [lp_X4_watch_16, if_pos h1, opv_eq, if_true, if_false, Bool.false_eq_true, reduceCtorEq, b2i_t, b2i_f] at hj); exact hj
    · skip
      rw [if_neg h1] at hok
      refine g_aload_n0 rfl d_X4_watch_26 ?_
      refine g_getP (b := 60) f_X4_18 d_X4_watch_27 rfl (Nat.le_of_ble_eq_true rfl) rfl rfl ?_
      refine g_aload_n1 rfl d_X4_watch_30 ?_
      refine g_callV0 (c_X0_passDay I1 60 rfl x1 hx1) w_X0_passDay l_X4_77 d_X4_watch_31 rfl (Nat.le_of_ble_eq_true rfl) rfl rfl (Nat.le_of_ble_eq_true rfl) ⟨Nat.le_of_ble_eq_true rfl, Nat.le_of_ble_eq_true rfl⟩ ⟨Nat.zero_le _, Nat.zero_le _⟩ ⟨rfl, rfl⟩ ?_
      refine g_aload_n0 rfl d_X4_watch_34 ?_
      refine g_getP (b := 61) f_X4_22 d_X4_watch_35 rfl (Nat.le_of_ble_eq_true rfl) rfl rfl ?_
      refine g_iload (i := 4) rfl d_X4_watch_38 ?_
      refine g_aload_n0 rfl d_X4_watch_40 ?_
      refine g_getP (b := 60) f_X4_18 d_X4_watch_41 rfl (Nat.le_of_ble_eq_true rfl) rfl rfl ?_
      refine g_callV1 (c_X0_whoIsOut (m_X0_passDay I1 60 x1) 60 rfl) w_X0_whoIsOut l_X4_80 d_X4_watch_44 rfl (Nat.le_of_ble_eq_true rfl) rfl rfl (Nat.le_of_ble_eq_true rfl) ⟨Nat.le_of_ble_eq_true rfl, Nat.le_of_ble_eq_true rfl⟩ ⟨Nat.zero_le _, Nat.zero_le _⟩ ⟨rfl, rfl⟩ ?_
      obtain ⟨ho1, hok⟩ := hok
      refine g_iast d_X4_watch_47 rfl (Nat.le_of_ble_eq_true rfl) ho1 ?_
      refine g_ic4 (l4 + 1) rfl rfl d_X4_watch_48 ?_
      refine g_goto 16 d_X4_watch_51 (by decide) ?_
      exact ih (l4 + 1) (va_up (m_X0_passDay I1 60 x1) 61 (upd ((m_X0_passDay I1 60 x1) 61) l4.toNatClampNeg (f_X0_whoIsOut (m_X0_passDay I1 60 x1) 60))) (Nat.lt_of_lt_of_le (mu_up_lt h1) (Nat.le_of_lt_succ hmu)) (by (try simp only [if_neg h1, opv_eq, if_true, if_false, Bool.false_eq_true, reduceCtorEq, b2i_t, b2i_f] at hok); exact hok) (by (try simp only [lp_X4_watch_16, if_neg h1, opv_eq, if_true, if_false, Bool.false_eq_true, reduceCtorEq, b2i_t, b2i_f] at hj); exact hj)
noncomputable def m_X4_watch (I : Nat → Nat → Int32) (x1 : Nat) (x2 : Int32) (x3 : Int32) : Nat → Nat → Int32 := opv ((lp_X4_watch_16 x1 x2 x3 (mu_up (Int32.ofNat (sz 61)) 0 + 1) 0 (m_X0_begin I 60 (I x1 0) x2 x3)).2)
noncomputable def ok_X4_watch (I : Nat → Nat → Int32) (x1 : Nat) (x2 : Int32) (x3 : Int32) : Prop := opv (oklp_X4_watch_16 x1 x2 x3 (mu_up (Int32.ofNat (sz 61)) 0 + 1) 0 (m_X0_begin I 60 (I x1 0) x2 x3))
set_option maxHeartbeats 800000 in
set_option maxRecDepth 4000 in
theorem c_X4_watch {k : KT} {ex : Bool} {J : Nat → Nat → Int64} {w : Bool} (I : Nat → Nat → Int32) (x1 : Nat) (hx1 : kd x1 = 7) (x2 : Int32) (x3 : Int32)  (hok : ok_X4_watch I x1 x2 x3) : Cx k mX4_watch 5 [.ref (ka k 58), .ref (ka k x1), .int x2, .int x3] (81, ex, I, J, Pw w) none (81, ex, m_X4_watch I x1 x2 x3, J, Pw w) := by
  refine Ct.of rfl [some (.ref (ka k 58)), some (.ref (ka k x1)), some (.int x2), some (.int x3), none] rfl rfl (Nat.le_of_ble_eq_true rfl) ?_
  rw [ok_X4_watch, opv_eq] at hok
  refine g_aload_n0 rfl d_X4_watch_0 ?_
  refine g_getP (b := 60) f_X4_18 d_X4_watch_1 rfl (Nat.le_of_ble_eq_true rfl) rfl rfl ?_
  refine g_aload_n1 rfl d_X4_watch_4 ?_
  refine g_getI f_X4_70 d_X4_watch_5 hx1 (kd_sg hx1 (by decide)) rfl ?_
  refine g_iload_n2 rfl d_X4_watch_8 ?_
  refine g_iload_n3 rfl d_X4_watch_9 ?_
  refine g_callV0 (c_X0_begin I 60 rfl (I x1 0) x2 x3) w_X0_begin l_X4_73 d_X4_watch_10 rfl (Nat.le_of_ble_eq_true rfl) rfl rfl (Nat.le_of_ble_eq_true rfl) ⟨Nat.le_of_ble_eq_true rfl, Nat.le_of_ble_eq_true rfl⟩ ⟨Nat.zero_le _, Nat.zero_le _⟩ ⟨rfl, rfl⟩ ?_
  refine g_iconst 0 d_X4_watch_13 (by decide) ?_
  refine g_is4 rfl d_X4_watch_14 ?_
  refine k_lp_X4_watch_16 x1 hx1 x2 x3 _ 0 (m_X0_begin I 60 (I x1 0) x2 x3) (Nat.lt_succ_self _) hok ?_
  exact g_vret rfl d_X4_watch_54 ⟨rfl, by simp only [m_X4_watch, opv_eq, if_true, if_false, Bool.false_eq_true, reduceCtorEq, b2i_t, b2i_f]⟩ (Nat.le_refl _) (Nat.le_refl _)
noncomputable def lp_X4_unlikeSeen_2 (I : Nat → Nat → Int32) (x1 : Nat) : Nat → Int32 → Int32
  | 0, l2 => 0
  | n + 1, l2 => (if (I (rt x1 9) 3) ≤ l2 then (-2) else (if (f_X7_cell I (rt x1 9) l2 0) < 0 then (lp_X4_unlikeSeen_2 I x1 n (l2 + 1)) else (if (Int32.ofNat (sz 61)) ≤ (f_X7_cell I (rt x1 9) l2 0) then (lp_X4_unlikeSeen_2 I x1 n (l2 + 1)) else (if (I 61 (f_X7_cell I (rt x1 9) l2 0).toNatClampNeg) = (f_X7_cell I (rt x1 9) l2 1) then (lp_X4_unlikeSeen_2 I x1 n (l2 + 1)) else l2))))
def oklp_X4_unlikeSeen_2 (I : Nat → Nat → Int32) (x1 : Nat) : Nat → Int32 → Prop
  | 0, l2 => True
  | n + 1, l2 => (if (I (rt x1 9) 3) ≤ l2 then True else (if (f_X7_cell I (rt x1 9) l2 0) < 0 then oklp_X4_unlikeSeen_2 I x1 n (l2 + 1) else (if (Int32.ofNat (sz 61)) ≤ (f_X7_cell I (rt x1 9) l2 0) then oklp_X4_unlikeSeen_2 I x1 n (l2 + 1) else (vp_in (f_X7_cell I (rt x1 9) l2 0) (sz 61) ∧ (if (I 61 (f_X7_cell I (rt x1 9) l2 0).toNatClampNeg) = (f_X7_cell I (rt x1 9) l2 1) then oklp_X4_unlikeSeen_2 I x1 n (l2 + 1) else True)))))
set_option maxHeartbeats 800000 in
set_option maxRecDepth 4000 in
theorem k_lp_X4_unlikeSeen_2 {k : KT} {ex : Bool} {J : Nat → Nat → Int64} {w : Bool} (I : Nat → Nat → Int32) (x1 : Nat) (hx1 : kd x1 = 7) {Q : Option Value → MM → Prop} : ∀ (n : Nat) (l2 : Int32), mu_up (I (rt x1 9) 3) l2 < n → oklp_X4_unlikeSeen_2 I x1 n l2 → Q (some (.int (lp_X4_unlikeSeen_2 I x1 n l2))) (81, ex, I, J, Pw w) → G k mX4_unlikeSeen (roomOf 3 0 0) (FinM k Q 0 0) 0 0 2 [some (.ref (ka k 58)), some (.ref (ka k x1)), some (.int l2), none] [] (81, ex, I, J, Pw w) := by
  intro n
  induction n with
  | zero => intro l2 hmu hok hq; exact absurd hmu (Nat.not_lt_zero _)
  | succ n ih =>
    intro l2 hmu hok hq
    rw [oklp_X4_unlikeSeen_2] at hok
    refine g_iload_n2 rfl d_X4_unlikeSeen_2 ?_
    refine g_aload_n1 rfl d_X4_unlikeSeen_3 ?_
    refine g_getP (b := rt x1 9) f_X4_84 d_X4_unlikeSeen_4 hx1 (kd_sg hx1 (by decide)) rfl (pw_rt hx1 (by decide) (by decide)) ?_
    refine g_getI f_X4_88 d_X4_unlikeSeen_7 (kt7 hx1).2.2.1 (kd_sg ((kt7 hx1).2.2.1) (by decide)) rfl ?_
    refine g_icmp_ge 62 d_X4_unlikeSeen_10 (by decide) (fun h1 => ?_) (fun h1 => ?_)
    · skip
      refine g_bipush (-2) d_X4_unlikeSeen_62 (by decide) ?_
      exact g_iret rfl d_X4_unlikeSeen_64 (by (try simp only [lp_X4_unlikeSeen_2, if_pos h1, opv_eq, if_true, if_false, Bool.false_eq_true, reduceCtorEq, b2i_t, b2i_f] at hq); exact hq) (Nat.le_refl _) (Nat.le_refl _)
    · skip
      rw [if_neg h1] at hok
      refine g_aload_n1 rfl d_X4_unlikeSeen_13 ?_
      refine g_getP (b := rt x1 9) f_X4_84 d_X4_unlikeSeen_14 hx1 (kd_sg hx1 (by decide)) rfl (pw_rt hx1 (by decide) (by decide)) ?_
      refine g_iload_n2 rfl d_X4_unlikeSeen_17 ?_
      refine g_iconst 0 d_X4_unlikeSeen_18 (by decide) ?_
      refine g_callV1 (c_X7_cell I (rt x1 9) (kt7 hx1).2.2.1 l2 0 (okt_X7_cell I (rt x1 9) (kt7 hx1).2.2.1 l2 0)) w_X7_cell l_X4_91 d_X4_unlikeSeen_19 (kt7 hx1).2.2.1 (kd_sg ((kt7 hx1).2.2.1) (by decide)) rfl rfl (Nat.le_of_ble_eq_true rfl) ⟨Nat.le_of_ble_eq_true rfl, Nat.le_of_ble_eq_true rfl⟩ ⟨Nat.zero_le _, Nat.zero_le _⟩ ⟨rfl, rfl⟩ ?_
      refine g_isn3 rfl d_X4_unlikeSeen_22 ?_
      refine g_iload_n3 rfl d_X4_unlikeSeen_23 ?_
      refine g_if_lt 56 d_X4_unlikeSeen_24 (by decide) (fun h2 => ?_) (fun h2 => ?_)
      · skip
        rw [if_pos h2] at hok
        refine g_ic2 (l2 + 1) rfl rfl d_X4_unlikeSeen_56 ?_
        refine g_goto 2 d_X4_unlikeSeen_59 (by decide) ?_
        refine G.weak (wks (wks (wks (wkn wk0)))) ?_; exact ih (l2 + 1) (Nat.lt_of_lt_of_le (mu_up_lt h1) (Nat.le_of_lt_succ hmu)) (by (try simp only [if_neg h1, if_pos h2, opv_eq, if_true, if_false, Bool.false_eq_true, reduceCtorEq, b2i_t, b2i_f] at hok); exact hok) (by (try simp only [lp_X4_unlikeSeen_2, if_neg h1, if_pos h2, opv_eq, if_true, if_false, Bool.false_eq_true, reduceCtorEq, b2i_t, b2i_f] at hq); exact hq)
      · skip
        rw [if_neg h2] at hok
        refine g_iload_n3 rfl d_X4_unlikeSeen_27 ?_
        refine g_aload_n0 rfl d_X4_unlikeSeen_28 ?_
        refine g_getP (b := 61) f_X4_22 d_X4_unlikeSeen_29 rfl (Nat.le_of_ble_eq_true rfl) rfl rfl ?_
        refine g_alen12 d_X4_unlikeSeen_32 rfl (Nat.le_of_ble_eq_true rfl) ?_
        refine g_icmp_ge 56 d_X4_unlikeSeen_33 (by decide) (fun h3 => ?_) (fun h3 => ?_)
        · skip
          rw [if_pos h3] at hok
          refine g_ic2 (l2 + 1) rfl rfl d_X4_unlikeSeen_56 ?_
          refine g_goto 2 d_X4_unlikeSeen_59 (by decide) ?_
          refine G.weak (wks (wks (wks (wkn wk0)))) ?_; exact ih (l2 + 1) (Nat.lt_of_lt_of_le (mu_up_lt h1) (Nat.le_of_lt_succ hmu)) (by (try simp only [if_neg h1, if_neg h2, if_pos h3, opv_eq, if_true, if_false, Bool.false_eq_true, reduceCtorEq, b2i_t, b2i_f] at hok); exact hok) (by (try simp only [lp_X4_unlikeSeen_2, if_neg h1, if_neg h2, if_pos h3, opv_eq, if_true, if_false, Bool.false_eq_true, reduceCtorEq, b2i_t, b2i_f] at hq); exact hq)
        · skip
          rw [if_neg h3] at hok
          refine g_aload_n0 rfl d_X4_unlikeSeen_36 ?_
          refine g_getP (b := 61) f_X4_22 d_X4_unlikeSeen_37 rfl (Nat.le_of_ble_eq_true rfl) rfl rfl ?_
          refine g_iload_n3 rfl d_X4_unlikeSeen_40 ?_
          obtain ⟨ho1, hok⟩ := hok
          refine g_iald d_X4_unlikeSeen_41 rfl (Nat.le_of_ble_eq_true rfl) ho1 ?_
          refine g_aload_n1 rfl d_X4_unlikeSeen_42 ?_
          refine g_getP (b := rt x1 9) f_X4_84 d_X4_unlikeSeen_43 hx1 (kd_sg hx1 (by decide)) rfl (pw_rt hx1 (by decide) (by decide)) ?_
          refine g_iload_n2 rfl d_X4_unlikeSeen_46 ?_
          refine g_iconst 1 d_X4_unlikeSeen_47 (by decide) ?_
          refine g_callV1 (c_X7_cell I (rt x1 9) (kt7 hx1).2.2.1 l2 1 (okt_X7_cell I (rt x1 9) (kt7 hx1).2.2.1 l2 1)) w_X7_cell l_X4_91 d_X4_unlikeSeen_48 (kt7 hx1).2.2.1 (kd_sg ((kt7 hx1).2.2.1) (by decide)) rfl rfl (Nat.le_of_ble_eq_true rfl) ⟨Nat.le_of_ble_eq_true rfl, Nat.le_of_ble_eq_true rfl⟩ ⟨Nat.zero_le _, Nat.zero_le _⟩ ⟨rfl, rfl⟩ ?_
          refine g_icmp_eq 56 d_X4_unlikeSeen_51 (by decide) (fun h4 => ?_) (fun h4 => ?_)
          · skip
            rw [if_pos h4] at hok
            refine g_ic2 (l2 + 1) rfl rfl d_X4_unlikeSeen_56 ?_
            refine g_goto 2 d_X4_unlikeSeen_59 (by decide) ?_
            refine G.weak (wks (wks (wks (wkn wk0)))) ?_; exact ih (l2 + 1) (Nat.lt_of_lt_of_le (mu_up_lt h1) (Nat.le_of_lt_succ hmu)) (by (try simp only [if_neg h1, if_neg h2, if_neg h3, if_pos h4, opv_eq, if_true, if_false, Bool.false_eq_true, reduceCtorEq, b2i_t, b2i_f] at hok); exact hok) (by (try simp only [lp_X4_unlikeSeen_2, if_neg h1, if_neg h2, if_neg h3, if_pos h4, opv_eq, if_true, if_false, Bool.false_eq_true, reduceCtorEq, b2i_t, b2i_f] at hq); exact hq)
          · skip
            refine g_iload_n2 rfl d_X4_unlikeSeen_54 ?_
            exact g_iret rfl d_X4_unlikeSeen_55 (by (try simp only [lp_X4_unlikeSeen_2, if_neg h1, if_neg h2, if_neg h3, if_neg h4, opv_eq, if_true, if_false, Bool.false_eq_true, reduceCtorEq, b2i_t, b2i_f] at hq); exact hq) (Nat.le_refl _) (Nat.le_refl _)
noncomputable def f_X4_unlikeSeen (I : Nat → Nat → Int32) (x1 : Nat) : Int32 := opv (lp_X4_unlikeSeen_2 I x1 (mu_up (I (rt x1 9) 3) 0 + 1) 0)
noncomputable def ok_X4_unlikeSeen (I : Nat → Nat → Int32) (x1 : Nat) : Prop := opv (oklp_X4_unlikeSeen_2 I x1 (mu_up (I (rt x1 9) 3) 0 + 1) 0)
set_option maxHeartbeats 800000 in
set_option maxRecDepth 4000 in
theorem c_X4_unlikeSeen {k : KT} {ex : Bool} {J : Nat → Nat → Int64} {w : Bool} (I : Nat → Nat → Int32) (x1 : Nat) (hx1 : kd x1 = 7)  (hok : ok_X4_unlikeSeen I x1) : Cx k mX4_unlikeSeen 3 [.ref (ka k 58), .ref (ka k x1)] (81, ex, I, J, Pw w) (some (.int (f_X4_unlikeSeen I x1))) (81, ex, I, J, Pw w) := by
  refine Ct.of rfl [some (.ref (ka k 58)), some (.ref (ka k x1)), none, none] rfl rfl (Nat.le_of_ble_eq_true rfl) ?_
  rw [ok_X4_unlikeSeen, opv_eq] at hok
  refine g_iconst 0 d_X4_unlikeSeen_0 (by decide) ?_
  refine g_isn2 rfl d_X4_unlikeSeen_1 ?_
  exact k_lp_X4_unlikeSeen_2 I x1 hx1 _ 0 (Nat.lt_succ_self _) hok ⟨by simp only [f_X4_unlikeSeen, opv_eq, if_true, if_false, Bool.false_eq_true, reduceCtorEq, b2i_t, b2i_f], rfl⟩
noncomputable def u0_X4_countOuts (x1 : Nat) (l2 : Int32) (I1 : Nat → Nat → Int32) : Nat → Nat → Int32 := opv (m_X4_watch I1 x1 ((I1 59 l2.toNatClampNeg) / 4) ((I1 59 l2.toNatClampNeg) - (I1 59 l2.toNatClampNeg) / 4 * 4))
noncomputable def u1_X4_countOuts (l3 : Int32) (I1 : Nat → Nat → Int32) : Nat → Nat → Int32 := opv (if ((l3 * 4) + (I1 61 l3.toNatClampNeg)) < 0 then I1 else (if (Int32.ofNat (sz 62)) ≤ ((l3 * 4) + (I1 61 l3.toNatClampNeg)) then I1 else (va_up I1 62 (upd (I1 62) ((l3 * 4) + (I1 61 l3.toNatClampNeg)).toNatClampNeg ((I1 62 ((l3 * 4) + (I1 61 l3.toNatClampNeg)).toNatClampNeg) + 1)))))
noncomputable def lp_X4_countOuts_50 (x1 : Nat) (l2 : Int32) : Nat → Int32 → (Nat → Nat → Int32) → Int32 × (Nat → Nat → Int32)
  | 0, l3, I1 => (l3, I1)
  | n + 1, l3, I1 => (if (Int32.ofNat (sz 61)) ≤ l3 then (l3, I1) else (lp_X4_countOuts_50 x1 l2 n (l3 + 1) (u1_X4_countOuts l3 I1)))
def oklp_X4_countOuts_50 (x1 : Nat) (l2 : Int32) : Nat → Int32 → (Nat → Nat → Int32) → Prop
  | 0, l3, I1 => True
  | n + 1, l3, I1 => (if (Int32.ofNat (sz 61)) ≤ l3 then True else (vp_in l3 (sz 61) ∧ ((if ((l3 * 4) + (I1 61 l3.toNatClampNeg)) < 0 then True else (if (Int32.ofNat (sz 62)) ≤ ((l3 * 4) + (I1 61 l3.toNatClampNeg)) then True else (vp_in ((l3 * 4) + (I1 61 l3.toNatClampNeg)) (sz 62) ∧ vp_in ((l3 * 4) + (I1 61 l3.toNatClampNeg)) (sz 62)))) ∧ oklp_X4_countOuts_50 x1 l2 n (l3 + 1) (u1_X4_countOuts l3 I1))))
set_option maxHeartbeats 800000 in
set_option maxRecDepth 4000 in
theorem k_lp_X4_countOuts_50 {k : KT} {ex : Bool} {J : Nat → Nat → Int64} {w : Bool} (x1 : Nat) (hx1 : kd x1 = 7) (l2 : Int32) {F : FinT} : ∀ (n : Nat) (l3 : Int32) (I1 : (Nat → Nat → Int32)), mu_up (Int32.ofNat (sz 61)) l3 < n → oklp_X4_countOuts_50 x1 l2 n l3 I1 → G k mX4_countOuts (roomOf 6 0 0) F 0 0 103 [some (.ref (ka k 58)), some (.ref (ka k x1)), some (.int l2), some (.int ((lp_X4_countOuts_50 x1 l2 n l3 I1).1)), none] [] (81, ex, (lp_X4_countOuts_50 x1 l2 n l3 I1).2, J, Pw w) → G k mX4_countOuts (roomOf 6 0 0) F 0 0 50 [some (.ref (ka k 58)), some (.ref (ka k x1)), some (.int l2), some (.int l3), none] [] (81, ex, I1, J, Pw w) := by
  intro n
  induction n with
  | zero => intro l3 I1 hmu hok hj; exact absurd hmu (Nat.not_lt_zero _)
  | succ n ih =>
    intro l3 I1 hmu hok hj
    rw [oklp_X4_countOuts_50] at hok
    refine g_iload_n3 rfl d_X4_countOuts_50 ?_
    refine g_aload_n0 rfl d_X4_countOuts_51 ?_
    refine g_getP (b := 61) f_X4_22 d_X4_countOuts_52 rfl (Nat.le_of_ble_eq_true rfl) rfl rfl ?_
    refine g_alen12 d_X4_countOuts_55 rfl (Nat.le_of_ble_eq_true rfl) ?_
    refine g_icmp_ge 103 d_X4_countOuts_56 (by decide) (fun h1 => ?_) (fun h1 => ?_)
    · skip
      (try simp only [lp_X4_countOuts_50, if_pos h1, opv_eq, if_true, if_false, Bool.false_eq_true, reduceCtorEq, b2i_t, b2i_f] at hj); exact hj
    · skip
      rw [if_neg h1] at hok
      refine g_iload_n3 rfl d_X4_countOuts_59 ?_
      refine g_iconst 4 d_X4_countOuts_60 (by decide) ?_
      refine g_imul d_X4_countOuts_61 ?_
      refine g_aload_n0 rfl d_X4_countOuts_62 ?_
      refine g_getP (b := 61) f_X4_22 d_X4_countOuts_63 rfl (Nat.le_of_ble_eq_true rfl) rfl rfl ?_
      refine g_iload_n3 rfl d_X4_countOuts_66 ?_
      obtain ⟨ho5, hok⟩ := hok
      refine g_iald d_X4_countOuts_67 rfl (Nat.le_of_ble_eq_true rfl) ho5 ?_
      refine g_iadd d_X4_countOuts_68 ?_
      refine g_is4 rfl d_X4_countOuts_69 ?_
      refine g_iload (i := 4) rfl d_X4_countOuts_71 ?_
      obtain ⟨hoa, hob⟩ := hok
      refine g_cut (pc' := 97) (vs' := [some (.ref (ka k 58)), some (.ref (ka k x1)), some (.int l2), some (.int l3), some (.int ((l3 * 4) + (I1 61 l3.toNatClampNeg)))]) (st' := []) (M' := (81, ex, (u1_X4_countOuts l3 I1), J, Pw w)) (fun hj => ?_) ?_
      · skip
        refine g_if_lt 97 d_X4_countOuts_73 (by decide) (fun h2 => ?_) (fun h2 => ?_)
        · skip
          (try simp only [if_pos h2, opv_eq, if_true, if_false, Bool.false_eq_true, reduceCtorEq, b2i_t, b2i_f, u1_X4_countOuts] at hj); exact hj
        · skip
          rw [if_neg h2] at hoa
          refine g_iload (i := 4) rfl d_X4_countOuts_76 ?_
          refine g_aload_n0 rfl d_X4_countOuts_78 ?_
          refine g_getP (b := 62) f_X4_25 d_X4_countOuts_79 rfl (Nat.le_of_ble_eq_true rfl) rfl rfl ?_
          refine g_alen12 d_X4_countOuts_82 rfl (Nat.le_of_ble_eq_true rfl) ?_
          refine g_icmp_ge 97 d_X4_countOuts_83 (by decide) (fun h3 => ?_) (fun h3 => ?_)
          · skip
            (try simp only [if_neg h2, if_pos h3, opv_eq, if_true, if_false, Bool.false_eq_true, reduceCtorEq, b2i_t, b2i_f, u1_X4_countOuts] at hj); exact hj
          · skip
            rw [if_neg h3] at hoa
            refine g_aload_n0 rfl d_X4_countOuts_86 ?_
            refine g_getP (b := 62) f_X4_25 d_X4_countOuts_87 rfl (Nat.le_of_ble_eq_true rfl) rfl rfl ?_
            refine g_iload (i := 4) rfl d_X4_countOuts_90 ?_
            refine g_dup2 rfl rfl d_X4_countOuts_92 ?_
            obtain ⟨ho6, hok⟩ := hoa
            refine g_iald d_X4_countOuts_93 rfl (Nat.le_of_ble_eq_true rfl) ho6 ?_
            refine g_iconst 1 d_X4_countOuts_94 (by decide) ?_
            refine g_iadd d_X4_countOuts_95 ?_
            have ho7 := hok
            refine g_iast d_X4_countOuts_96 rfl (Nat.le_of_ble_eq_true rfl) ho7 ?_
            (try simp only [if_neg h2, if_neg h3, opv_eq, if_true, if_false, Bool.false_eq_true, reduceCtorEq, b2i_t, b2i_f, u1_X4_countOuts] at hj); exact hj
      · skip
        refine g_ic3 (l3 + 1) rfl rfl d_X4_countOuts_97 ?_
        refine g_goto 50 d_X4_countOuts_100 (by decide) ?_
        refine G.weak (wks (wks (wks (wks (wkn wk0))))) ?_; exact ih (l3 + 1) (u1_X4_countOuts l3 I1) (Nat.lt_of_lt_of_le (mu_up_lt h1) (Nat.le_of_lt_succ hmu)) (by (try simp only [if_neg h1, opv_eq, if_true, if_false, Bool.false_eq_true, reduceCtorEq, b2i_t, b2i_f] at hob); exact hob) (by (try simp only [lp_X4_countOuts_50, if_neg h1, opv_eq, if_true, if_false, Bool.false_eq_true, reduceCtorEq, b2i_t, b2i_f] at hj); exact hj)
noncomputable def lp_X4_countOuts_10 (x1 : Nat) : Nat → Int32 → (Nat → Nat → Int32) → Int32 × (Nat → Nat → Int32)
  | 0, l2, I1 => (l2, I1)
  | n + 1, l2, I1 => (if (I1 58 0) ≤ l2 then (l2, I1) else (if (Int32.ofNat (sz 59)) ≤ l2 then (l2, I1) else (lp_X4_countOuts_10 x1 n (l2 + 1) ((lp_X4_countOuts_50 x1 l2 (mu_up (Int32.ofNat (sz 61)) 0 + 1) 0 (u0_X4_countOuts x1 l2 I1)).2))))
def oklp_X4_countOuts_10 (x1 : Nat) : Nat → Int32 → (Nat → Nat → Int32) → Prop
  | 0, l2, I1 => True
  | n + 1, l2, I1 => (if (I1 58 0) ≤ l2 then True else (if (Int32.ofNat (sz 59)) ≤ l2 then True else (vp_in l2 (sz 59) ∧ (vp_in l2 (sz 59) ∧ (ok_X4_watch I1 x1 ((I1 59 l2.toNatClampNeg) / 4) ((I1 59 l2.toNatClampNeg) - (I1 59 l2.toNatClampNeg) / 4 * 4) ∧ (oklp_X4_countOuts_50 x1 l2 (mu_up (Int32.ofNat (sz 61)) 0 + 1) 0 (u0_X4_countOuts x1 l2 I1) ∧ oklp_X4_countOuts_10 x1 n (l2 + 1) ((lp_X4_countOuts_50 x1 l2 (mu_up (Int32.ofNat (sz 61)) 0 + 1) 0 (u0_X4_countOuts x1 l2 I1)).2)))))))
set_option maxHeartbeats 800000 in
set_option maxRecDepth 4000 in
theorem k_lp_X4_countOuts_10 {k : KT} {ex : Bool} {J : Nat → Nat → Int64} {w : Bool} (x1 : Nat) (hx1 : kd x1 = 7) {F : FinT} : ∀ (n : Nat) (l2 : Int32) (I1 : (Nat → Nat → Int32)), mu_up (Int32.ofNat (sz 59)) l2 < n → oklp_X4_countOuts_10 x1 n l2 I1 → G k mX4_countOuts (roomOf 6 0 0) F 0 0 109 [some (.ref (ka k 58)), some (.ref (ka k x1)), some (.int ((lp_X4_countOuts_10 x1 n l2 I1).1)), none, none] [] (81, ex, (lp_X4_countOuts_10 x1 n l2 I1).2, J, Pw w) → G k mX4_countOuts (roomOf 6 0 0) F 0 0 10 [some (.ref (ka k 58)), some (.ref (ka k x1)), some (.int l2), none, none] [] (81, ex, I1, J, Pw w) := by
  intro n
  induction n with
  | zero => intro l2 I1 hmu hok hj; exact absurd hmu (Nat.not_lt_zero _)
  | succ n ih =>
    intro l2 I1 hmu hok hj
    rw [oklp_X4_countOuts_10] at hok
    refine g_iload_n2 rfl d_X4_countOuts_10 ?_
    refine g_aload_n0 rfl d_X4_countOuts_11 ?_
    refine g_getI f_X4_32 d_X4_countOuts_12 rfl (Nat.le_of_ble_eq_true rfl) rfl ?_
    refine g_icmp_ge 109 d_X4_countOuts_15 (by decide) (fun h4 => ?_) (fun h4 => ?_)
    · skip
      (try simp only [lp_X4_countOuts_10, if_pos h4, opv_eq, if_true, if_false, Bool.false_eq_true, reduceCtorEq, b2i_t, b2i_f] at hj); exact hj
    · skip
      rw [if_neg h4] at hok
      refine g_iload_n2 rfl d_X4_countOuts_18 ?_
      refine g_aload_n0 rfl d_X4_countOuts_19 ?_
      refine g_getP (b := 59) f_X4_11 d_X4_countOuts_20 rfl (Nat.le_of_ble_eq_true rfl) rfl rfl ?_
      refine g_alen12 d_X4_countOuts_23 rfl (Nat.le_of_ble_eq_true rfl) ?_
      refine g_icmp_ge 109 d_X4_countOuts_24 (by decide) (fun h5 => ?_) (fun h5 => ?_)
      · skip
        (try simp only [lp_X4_countOuts_10, if_neg h4, if_pos h5, opv_eq, if_true, if_false, Bool.false_eq_true, reduceCtorEq, b2i_t, b2i_f] at hj); exact hj
      · skip
        rw [if_neg h5] at hok
        refine g_aload_n0 rfl d_X4_countOuts_27 ?_
        refine g_aload_n1 rfl d_X4_countOuts_28 ?_
        refine g_aload_n0 rfl d_X4_countOuts_29 ?_
        refine g_getP (b := 59) f_X4_11 d_X4_countOuts_30 rfl (Nat.le_of_ble_eq_true rfl) rfl rfl ?_
        refine g_iload_n2 rfl d_X4_countOuts_33 ?_
        obtain ⟨ho2, hok⟩ := hok
        refine g_iald d_X4_countOuts_34 rfl (Nat.le_of_ble_eq_true rfl) ho2 ?_
        refine g_iconst 4 d_X4_countOuts_35 (by decide) ?_
        refine g_idiv (by decide) d_X4_countOuts_36 ?_
        refine g_aload_n0 rfl d_X4_countOuts_37 ?_
        refine g_getP (b := 59) f_X4_11 d_X4_countOuts_38 rfl (Nat.le_of_ble_eq_true rfl) rfl rfl ?_
        refine g_iload_n2 rfl d_X4_countOuts_41 ?_
        obtain ⟨ho3, hok⟩ := hok
        refine g_iald d_X4_countOuts_42 rfl (Nat.le_of_ble_eq_true rfl) ho3 ?_
        refine g_iconst 4 d_X4_countOuts_43 (by decide) ?_
        refine g_irem (by decide) d_X4_countOuts_44 ?_
        obtain ⟨ho4, hok⟩ := hok
        refine g_callV0 (c_X4_watch I1 x1 hx1 ((I1 59 l2.toNatClampNeg) / 4) ((I1 59 l2.toNatClampNeg) - (I1 59 l2.toNatClampNeg) / 4 * 4) ho4) w_X4_watch l_X4_62 d_X4_countOuts_45 rfl (Nat.le_of_ble_eq_true rfl) rfl rfl (Nat.le_of_ble_eq_true rfl) ⟨Nat.le_of_ble_eq_true rfl, Nat.le_of_ble_eq_true rfl⟩ ⟨Nat.zero_le _, Nat.zero_le _⟩ ⟨rfl, rfl⟩ ?_
        refine G.toI (I' := (u0_X4_countOuts x1 l2 I1)) (by rw [u0_X4_countOuts, opv_eq]) ?_
        refine g_iconst 0 d_X4_countOuts_48 (by decide) ?_
        refine g_isn3 rfl d_X4_countOuts_49 ?_
        obtain ⟨hol, hok⟩ := hok
        refine k_lp_X4_countOuts_50 x1 hx1 l2 _ 0 (u0_X4_countOuts x1 l2 I1) (Nat.lt_succ_self _) hol ?_
        refine g_ic2 (l2 + 1) rfl rfl d_X4_countOuts_103 ?_
        refine g_goto 10 d_X4_countOuts_106 (by decide) ?_
        refine G.weak (wks (wks (wks (wkn (wkn wk0))))) ?_; exact ih (l2 + 1) ((lp_X4_countOuts_50 x1 l2 (mu_up (Int32.ofNat (sz 61)) 0 + 1) 0 (u0_X4_countOuts x1 l2 I1)).2) (Nat.lt_of_lt_of_le (mu_up_lt h5) (Nat.le_of_lt_succ hmu)) (by (try simp only [if_neg h4, if_neg h5, opv_eq, if_true, if_false, Bool.false_eq_true, reduceCtorEq, b2i_t, b2i_f] at hok); exact hok) (by (try simp only [lp_X4_countOuts_10, if_neg h4, if_neg h5, opv_eq, if_true, if_false, Bool.false_eq_true, reduceCtorEq, b2i_t, b2i_f] at hj); exact hj)
noncomputable def m_X4_countOuts (I : Nat → Nat → Int32) (x1 : Nat) : Nat → Nat → Int32 := opv ((lp_X4_countOuts_10 x1 (mu_up (Int32.ofNat (sz 59)) 0 + 1) 0 (m_J7_fill_53178 I 62 0)).2)
noncomputable def ok_X4_countOuts (I : Nat → Nat → Int32) (x1 : Nat) : Prop := opv (ok_J7_fill_53178 I 62 0 ∧ oklp_X4_countOuts_10 x1 (mu_up (Int32.ofNat (sz 59)) 0 + 1) 0 (m_J7_fill_53178 I 62 0))
set_option maxHeartbeats 800000 in
set_option maxRecDepth 4000 in
theorem c_X4_countOuts {k : KT} {ex : Bool} {J : Nat → Nat → Int64} {w : Bool} (I : Nat → Nat → Int32) (x1 : Nat) (hx1 : kd x1 = 7)  (hok : ok_X4_countOuts I x1) : Cx k mX4_countOuts 6 [.ref (ka k 58), .ref (ka k x1)] (81, ex, I, J, Pw w) none (81, ex, m_X4_countOuts I x1, J, Pw w) := by
  refine Ct.of rfl [some (.ref (ka k 58)), some (.ref (ka k x1)), none, none, none] rfl rfl (Nat.le_of_ble_eq_true rfl) ?_
  rw [ok_X4_countOuts, opv_eq] at hok
  refine g_aload_n0 rfl d_X4_countOuts_0 ?_
  refine g_getP (b := 62) f_X4_25 d_X4_countOuts_1 rfl (Nat.le_of_ble_eq_true rfl) rfl rfl ?_
  refine g_iconst 0 d_X4_countOuts_4 (by decide) ?_
  obtain ⟨ho1, hok⟩ := hok
  refine g_callS0 (c_J7_fill_53178 I 62 rfl 0 ho1) w_J7_fill_53178 l_X4_95 d_X4_countOuts_5 rfl rfl (Nat.le_of_ble_eq_true rfl) ⟨Nat.le_of_ble_eq_true rfl, Nat.le_of_ble_eq_true rfl⟩ ⟨Nat.zero_le _, Nat.zero_le _⟩ ⟨rfl, rfl⟩ ?_
  refine g_iconst 0 d_X4_countOuts_8 (by decide) ?_
  refine g_isn2 rfl d_X4_countOuts_9 ?_
  refine k_lp_X4_countOuts_10 x1 hx1 _ 0 (m_J7_fill_53178 I 62 0) (Nat.lt_succ_self _) hok ?_
  exact g_vret rfl d_X4_countOuts_109 ⟨rfl, by simp only [m_X4_countOuts, opv_eq, if_true, if_false, Bool.false_eq_true, reduceCtorEq, b2i_t, b2i_f]⟩ (Nat.le_refl _) (Nat.le_refl _)
noncomputable def u0_X4_chooseDay (l2 : Int32) (I1 : Nat → Nat → Int32) : Nat → Nat → Int32 := opv (if (I1 58 1) = (-2) then (st2 (st2 I1 58 1 l2) 58 2 (f_X4_mostOf I1 l2)) else (if (I1 58 2) ≤ (f_X4_mostOf I1 l2) then I1 else (st2 (st2 I1 58 1 l2) 58 2 (f_X4_mostOf I1 l2))))
noncomputable def lp_X4_chooseDay_19 (x1 : Nat) : Nat → Int32 → (Nat → Nat → Int32) → Int32 × (Nat → Nat → Int32)
  | 0, l2, I1 => (l2, I1)
  | n + 1, l2, I1 => (if 21 ≤ l2 then (l2, I1) else (if (I1 58 0) ≤ 0 then (l2, I1) else (lp_X4_chooseDay_19 x1 n (l2 + 1) (u0_X4_chooseDay l2 I1))))
def oklp_X4_chooseDay_19 (x1 : Nat) : Nat → Int32 → (Nat → Nat → Int32) → Prop
  | 0, l2, I1 => True
  | n + 1, l2, I1 => (if 21 ≤ l2 then True else (if (I1 58 0) ≤ 0 then True else (ok_X4_mostOf I1 l2 ∧ oklp_X4_chooseDay_19 x1 n (l2 + 1) (u0_X4_chooseDay l2 I1))))
set_option maxHeartbeats 800000 in
set_option maxRecDepth 4000 in
theorem k_lp_X4_chooseDay_19 {k : KT} {ex : Bool} {J : Nat → Nat → Int64} {w : Bool} (x1 : Nat) (hx1 : kd x1 = 7) {F : FinT} : ∀ (n : Nat) (l2 : Int32) (I1 : (Nat → Nat → Int32)), mu_up 21 l2 < n → oklp_X4_chooseDay_19 x1 n l2 I1 → G k mX4_chooseDay (roomOf 7 0 0) F 0 0 71 [some (.ref (ka k 58)), some (.ref (ka k x1)), some (.int ((lp_X4_chooseDay_19 x1 n l2 I1).1)), none] [] (81, ex, (lp_X4_chooseDay_19 x1 n l2 I1).2, J, Pw w) → G k mX4_chooseDay (roomOf 7 0 0) F 0 0 19 [some (.ref (ka k 58)), some (.ref (ka k x1)), some (.int l2), none] [] (81, ex, I1, J, Pw w) := by
  intro n
  induction n with
  | zero => intro l2 I1 hmu hok hj; exact absurd hmu (Nat.not_lt_zero _)
  | succ n ih =>
    intro l2 I1 hmu hok hj
    rw [oklp_X4_chooseDay_19] at hok
    refine g_iload_n2 rfl d_X4_chooseDay_19 ?_
    refine g_bipush 21 d_X4_chooseDay_20 (by decide) ?_
    refine g_icmp_ge 71 d_X4_chooseDay_22 (by decide) (fun h1 => ?_) (fun h1 => ?_)
    · skip
      (try simp only [lp_X4_chooseDay_19, if_pos h1, opv_eq, if_true, if_false, Bool.false_eq_true, reduceCtorEq, b2i_t, b2i_f] at hj); exact hj
    · skip
      rw [if_neg h1] at hok
      refine g_aload_n0 rfl d_X4_chooseDay_25 ?_
      refine g_getI f_X4_32 d_X4_chooseDay_26 rfl (Nat.le_of_ble_eq_true rfl) rfl ?_
      refine g_if_le 71 d_X4_chooseDay_29 (by decide) (fun h2 => ?_) (fun h2 => ?_)
      · skip
        (try simp only [lp_X4_chooseDay_19, if_neg h1, if_pos h2, opv_eq, if_true, if_false, Bool.false_eq_true, reduceCtorEq, b2i_t, b2i_f] at hj); exact hj
      · skip
        rw [if_neg h2] at hok
        refine g_aload_n0 rfl d_X4_chooseDay_32 ?_
        refine g_iload_n2 rfl d_X4_chooseDay_33 ?_
        obtain ⟨ho2, hok⟩ := hok
        refine g_callV1 (c_X4_mostOf I1 l2 ho2) w_X4_mostOf l_X4_50 d_X4_chooseDay_34 rfl (Nat.le_of_ble_eq_true rfl) rfl rfl (Nat.le_of_ble_eq_true rfl) ⟨Nat.le_of_ble_eq_true rfl, Nat.le_of_ble_eq_true rfl⟩ ⟨Nat.zero_le _, Nat.zero_le _⟩ ⟨rfl, rfl⟩ ?_
        refine g_isn3 rfl d_X4_chooseDay_37 ?_
        refine g_aload_n0 rfl d_X4_chooseDay_38 ?_
        refine g_getI f_X4_44 d_X4_chooseDay_39 rfl (Nat.le_of_ble_eq_true rfl) rfl ?_
        refine g_bipush (-2) d_X4_chooseDay_42 (by decide) ?_
        refine g_cut (pc' := 65) (vs' := [some (.ref (ka k 58)), some (.ref (ka k x1)), some (.int l2), some (.int (f_X4_mostOf I1 l2))]) (st' := []) (M' := (81, ex, (u0_X4_chooseDay l2 I1), J, Pw w)) (fun hj => ?_) ?_
        · skip
          refine g_icmp_eq 55 d_X4_chooseDay_44 (by decide) (fun h3 => ?_) (fun h3 => ?_)
          · skip
            refine g_aload_n0 rfl d_X4_chooseDay_55 ?_
            refine g_iload_n2 rfl d_X4_chooseDay_56 ?_
            refine g_putI f_X4_44 d_X4_chooseDay_57 rfl (Nat.le_of_ble_eq_true rfl) rfl rfl rfl ?_
            refine g_aload_n0 rfl d_X4_chooseDay_60 ?_
            refine g_iload_n3 rfl d_X4_chooseDay_61 ?_
            refine g_putI f_X4_47 d_X4_chooseDay_62 rfl (Nat.le_of_ble_eq_true rfl) rfl rfl rfl ?_
            (try simp only [if_pos h3, opv_eq, if_true, if_false, Bool.false_eq_true, reduceCtorEq, b2i_t, b2i_f, u0_X4_chooseDay] at hj); exact hj
          · skip
            refine g_iload_n3 rfl d_X4_chooseDay_47 ?_
            refine g_aload_n0 rfl d_X4_chooseDay_48 ?_
            refine g_getI f_X4_47 d_X4_chooseDay_49 rfl (Nat.le_of_ble_eq_true rfl) rfl ?_
            refine g_icmp_ge 65 d_X4_chooseDay_52 (by decide) (fun h4 => ?_) (fun h4 => ?_)
            · skip
              (try simp only [if_neg h3, if_pos h4, opv_eq, if_true, if_false, Bool.false_eq_true, reduceCtorEq, b2i_t, b2i_f, u0_X4_chooseDay] at hj); exact hj
            · skip
              refine g_aload_n0 rfl d_X4_chooseDay_55 ?_
              refine g_iload_n2 rfl d_X4_chooseDay_56 ?_
              refine g_putI f_X4_44 d_X4_chooseDay_57 rfl (Nat.le_of_ble_eq_true rfl) rfl rfl rfl ?_
              refine g_aload_n0 rfl d_X4_chooseDay_60 ?_
              refine g_iload_n3 rfl d_X4_chooseDay_61 ?_
              refine g_putI f_X4_47 d_X4_chooseDay_62 rfl (Nat.le_of_ble_eq_true rfl) rfl rfl rfl ?_
              (try simp only [if_neg h3, if_neg h4, opv_eq, if_true, if_false, Bool.false_eq_true, reduceCtorEq, b2i_t, b2i_f, u0_X4_chooseDay] at hj); exact hj
        · skip
          refine g_ic2 (l2 + 1) rfl rfl d_X4_chooseDay_65 ?_
          refine g_goto 19 d_X4_chooseDay_68 (by decide) ?_
          refine G.weak (wks (wks (wks (wkn wk0)))) ?_; exact ih (l2 + 1) (u0_X4_chooseDay l2 I1) (Nat.lt_of_lt_of_le (mu_up_lt h1) (Nat.le_of_lt_succ hmu)) (by (try simp only [if_neg h1, if_neg h2, opv_eq, if_true, if_false, Bool.false_eq_true, reduceCtorEq, b2i_t, b2i_f] at hok); exact hok) (by (try simp only [lp_X4_chooseDay_19, if_neg h1, if_neg h2, opv_eq, if_true, if_false, Bool.false_eq_true, reduceCtorEq, b2i_t, b2i_f] at hj); exact hj)
noncomputable def m_X4_chooseDay (I : Nat → Nat → Int32) (x1 : Nat) : Nat → Nat → Int32 := opv ((lp_X4_chooseDay_19 x1 (mu_up 21 0 + 1) 0 (st2 (st2 (m_X4_countOuts I x1) 58 1 (-2)) 58 2 (-2))).2)
noncomputable def ok_X4_chooseDay (I : Nat → Nat → Int32) (x1 : Nat) : Prop := opv (ok_X4_countOuts I x1 ∧ oklp_X4_chooseDay_19 x1 (mu_up 21 0 + 1) 0 (st2 (st2 (m_X4_countOuts I x1) 58 1 (-2)) 58 2 (-2)))
set_option maxHeartbeats 800000 in
set_option maxRecDepth 4000 in
theorem c_X4_chooseDay {k : KT} {ex : Bool} {J : Nat → Nat → Int64} {w : Bool} (I : Nat → Nat → Int32) (x1 : Nat) (hx1 : kd x1 = 7)  (hok : ok_X4_chooseDay I x1) : Cx k mX4_chooseDay 7 [.ref (ka k 58), .ref (ka k x1)] (81, ex, I, J, Pw w) none (81, ex, m_X4_chooseDay I x1, J, Pw w) := by
  refine Ct.of rfl [some (.ref (ka k 58)), some (.ref (ka k x1)), none, none] rfl rfl (Nat.le_of_ble_eq_true rfl) ?_
  rw [ok_X4_chooseDay, opv_eq] at hok
  refine g_aload_n0 rfl d_X4_chooseDay_0 ?_
  refine g_aload_n1 rfl d_X4_chooseDay_1 ?_
  obtain ⟨ho1, hok⟩ := hok
  refine g_callV0 (c_X4_countOuts I x1 hx1 ho1) w_X4_countOuts l_X4_40 d_X4_chooseDay_2 rfl (Nat.le_of_ble_eq_true rfl) rfl rfl (Nat.le_of_ble_eq_true rfl) ⟨Nat.le_of_ble_eq_true rfl, Nat.le_of_ble_eq_true rfl⟩ ⟨Nat.zero_le _, Nat.zero_le _⟩ ⟨rfl, rfl⟩ ?_
  refine g_aload_n0 rfl d_X4_chooseDay_5 ?_
  refine g_bipush (-2) d_X4_chooseDay_6 (by decide) ?_
  refine g_putI f_X4_44 d_X4_chooseDay_8 rfl (Nat.le_of_ble_eq_true rfl) rfl rfl rfl ?_
  refine g_aload_n0 rfl d_X4_chooseDay_11 ?_
  refine g_bipush (-2) d_X4_chooseDay_12 (by decide) ?_
  refine g_putI f_X4_47 d_X4_chooseDay_14 rfl (Nat.le_of_ble_eq_true rfl) rfl rfl rfl ?_
  refine g_iconst 0 d_X4_chooseDay_17 (by decide) ?_
  refine g_isn2 rfl d_X4_chooseDay_18 ?_
  refine k_lp_X4_chooseDay_19 x1 hx1 _ 0 (st2 (st2 (m_X4_countOuts I x1) 58 1 (-2)) 58 2 (-2)) (Nat.lt_succ_self _) hok ?_
  exact g_vret rfl d_X4_chooseDay_71 ⟨rfl, by simp only [m_X4_chooseDay, opv_eq, if_true, if_false, Bool.false_eq_true, reduceCtorEq, b2i_t, b2i_f]⟩ (Nat.le_refl _) (Nat.le_refl _)
noncomputable def f_X4_firstUnlike (I : Nat → Nat → Int32) (x1 : Nat) : Int32 := opv (f_X4_unlikeSeen (m_X4_watch I x1 (I x1 1) (I x1 2)) x1)
noncomputable def m_X4_firstUnlike (I : Nat → Nat → Int32) (x1 : Nat) : Nat → Nat → Int32 := opv (m_X4_watch I x1 (I x1 1) (I x1 2))
noncomputable def ok_X4_firstUnlike (I : Nat → Nat → Int32) (x1 : Nat) : Prop := opv (ok_X4_watch I x1 (I x1 1) (I x1 2) ∧ ok_X4_unlikeSeen (m_X4_watch I x1 (I x1 1) (I x1 2)) x1)
set_option maxHeartbeats 800000 in
set_option maxRecDepth 4000 in
theorem c_X4_firstUnlike {k : KT} {ex : Bool} {J : Nat → Nat → Int64} {w : Bool} (I : Nat → Nat → Int32) (x1 : Nat) (hx1 : kd x1 = 7)  (hok : ok_X4_firstUnlike I x1) : Cx k mX4_firstUnlike 6 [.ref (ka k 58), .ref (ka k x1)] (81, ex, I, J, Pw w) (some (.int (f_X4_firstUnlike I x1))) (81, ex, m_X4_firstUnlike I x1, J, Pw w) := by
  refine Ct.of rfl [some (.ref (ka k 58)), some (.ref (ka k x1))] rfl rfl (Nat.le_of_ble_eq_true rfl) ?_
  rw [ok_X4_firstUnlike, opv_eq] at hok
  refine g_aload_n0 rfl d_X4_firstUnlike_0 ?_
  refine g_aload_n1 rfl d_X4_firstUnlike_1 ?_
  refine g_aload_n1 rfl d_X4_firstUnlike_2 ?_
  refine g_getI f_X4_54 d_X4_firstUnlike_3 hx1 (kd_sg hx1 (by decide)) rfl ?_
  refine g_aload_n1 rfl d_X4_firstUnlike_6 ?_
  refine g_getI f_X4_59 d_X4_firstUnlike_7 hx1 (kd_sg hx1 (by decide)) rfl ?_
  obtain ⟨ho1, hok⟩ := hok
  refine g_callV0 (c_X4_watch I x1 hx1 (I x1 1) (I x1 2) ho1) w_X4_watch l_X4_62 d_X4_firstUnlike_10 rfl (Nat.le_of_ble_eq_true rfl) rfl rfl (Nat.le_of_ble_eq_true rfl) ⟨Nat.le_of_ble_eq_true rfl, Nat.le_of_ble_eq_true rfl⟩ ⟨Nat.zero_le _, Nat.zero_le _⟩ ⟨rfl, rfl⟩ ?_
  refine g_aload_n0 rfl d_X4_firstUnlike_13 ?_
  refine g_aload_n1 rfl d_X4_firstUnlike_14 ?_
  have ho2 := hok
  refine g_callV1 (c_X4_unlikeSeen (m_X4_watch I x1 (I x1 1) (I x1 2)) x1 hx1 ho2) w_X4_unlikeSeen l_X4_66 d_X4_firstUnlike_15 rfl (Nat.le_of_ble_eq_true rfl) rfl rfl (Nat.le_of_ble_eq_true rfl) ⟨Nat.le_of_ble_eq_true rfl, Nat.le_of_ble_eq_true rfl⟩ ⟨Nat.zero_le _, Nat.zero_le _⟩ ⟨rfl, rfl⟩ ?_
  exact g_iret rfl d_X4_firstUnlike_18 ⟨by simp only [f_X4_firstUnlike, m_X4_firstUnlike, opv_eq, if_true, if_false, Bool.false_eq_true, reduceCtorEq, b2i_t, b2i_f], by simp only [f_X4_firstUnlike, m_X4_firstUnlike, opv_eq, if_true, if_false, Bool.false_eq_true, reduceCtorEq, b2i_t, b2i_f]⟩ (Nat.le_refl _) (Nat.le_refl _)
noncomputable def u0_X4_gather (x1 : Nat) (l2 : Int32) (I1 : Nat → Nat → Int32) : Nat → Nat → Int32 := opv (if (f_X4_unlikeSeen (m_X4_watch I1 x1 (l2 / 4) (l2 - l2 / 4 * 4)) x1) = (-2) then (if (Int32.ofNat (sz 59)) ≤ ((m_X4_watch I1 x1 (l2 / 4) (l2 - l2 / 4 * 4)) 58 0) then (m_X4_watch I1 x1 (l2 / 4) (l2 - l2 / 4 * 4)) else (st2 (va_up (m_X4_watch I1 x1 (l2 / 4) (l2 - l2 / 4 * 4)) 59 (upd ((m_X4_watch I1 x1 (l2 / 4) (l2 - l2 / 4 * 4)) 59) ((m_X4_watch I1 x1 (l2 / 4) (l2 - l2 / 4 * 4)) 58 0).toNatClampNeg l2)) 58 0 (((m_X4_watch I1 x1 (l2 / 4) (l2 - l2 / 4 * 4)) 58 0) + 1))) else (m_X4_watch I1 x1 (l2 / 4) (l2 - l2 / 4 * 4)))
noncomputable def lp_X4_gather_15 (x1 : Nat) : Nat → Int32 → (Nat → Nat → Int32) → Int32 × (Nat → Nat → Int32)
  | 0, l2, I1 => (l2, I1)
  | n + 1, l2, I1 => (if 40 ≤ l2 then (l2, I1) else (lp_X4_gather_15 x1 n (l2 + 1) (u0_X4_gather x1 l2 I1)))
def oklp_X4_gather_15 (x1 : Nat) : Nat → Int32 → (Nat → Nat → Int32) → Prop
  | 0, l2, I1 => True
  | n + 1, l2, I1 => (if 40 ≤ l2 then True else (ok_X4_watch I1 x1 (l2 / 4) (l2 - l2 / 4 * 4) ∧ (ok_X4_unlikeSeen (m_X4_watch I1 x1 (l2 / 4) (l2 - l2 / 4 * 4)) x1 ∧ ((if (f_X4_unlikeSeen (m_X4_watch I1 x1 (l2 / 4) (l2 - l2 / 4 * 4)) x1) = (-2) then (if (Int32.ofNat (sz 59)) ≤ ((m_X4_watch I1 x1 (l2 / 4) (l2 - l2 / 4 * 4)) 58 0) then True else vp_in ((m_X4_watch I1 x1 (l2 / 4) (l2 - l2 / 4 * 4)) 58 0) (sz 59)) else True) ∧ oklp_X4_gather_15 x1 n (l2 + 1) (u0_X4_gather x1 l2 I1)))))
set_option maxHeartbeats 800000 in
set_option maxRecDepth 4000 in
theorem k_lp_X4_gather_15 {k : KT} {ex : Bool} {J : Nat → Nat → Int64} {w : Bool} (x1 : Nat) (hx1 : kd x1 = 7) {F : FinT} : ∀ (n : Nat) (l2 : Int32) (I1 : (Nat → Nat → Int32)), mu_up 40 l2 < n → oklp_X4_gather_15 x1 n l2 I1 → G k mX4_gather (roomOf 6 0 0) F 0 0 80 [some (.ref (ka k 58)), some (.ref (ka k x1)), some (.int ((lp_X4_gather_15 x1 n l2 I1).1))] [] (81, ex, (lp_X4_gather_15 x1 n l2 I1).2, J, Pw w) → G k mX4_gather (roomOf 6 0 0) F 0 0 15 [some (.ref (ka k 58)), some (.ref (ka k x1)), some (.int l2)] [] (81, ex, I1, J, Pw w) := by
  intro n
  induction n with
  | zero => intro l2 I1 hmu hok hj; exact absurd hmu (Nat.not_lt_zero _)
  | succ n ih =>
    intro l2 I1 hmu hok hj
    rw [oklp_X4_gather_15] at hok
    refine g_iload_n2 rfl d_X4_gather_15 ?_
    refine g_bipush 40 d_X4_gather_16 (by decide) ?_
    refine g_icmp_ge 80 d_X4_gather_18 (by decide) (fun h1 => ?_) (fun h1 => ?_)
    · skip
      (try simp only [lp_X4_gather_15, if_pos h1, opv_eq, if_true, if_false, Bool.false_eq_true, reduceCtorEq, b2i_t, b2i_f] at hj); exact hj
    · skip
      rw [if_neg h1] at hok
      refine g_aload_n0 rfl d_X4_gather_21 ?_
      refine g_aload_n1 rfl d_X4_gather_22 ?_
      refine g_iload_n2 rfl d_X4_gather_23 ?_
      refine g_iconst 4 d_X4_gather_24 (by decide) ?_
      refine g_idiv (by decide) d_X4_gather_25 ?_
      refine g_iload_n2 rfl d_X4_gather_26 ?_
      refine g_iconst 4 d_X4_gather_27 (by decide) ?_
      refine g_irem (by decide) d_X4_gather_28 ?_
      obtain ⟨ho1, hok⟩ := hok
      refine g_callV0 (c_X4_watch I1 x1 hx1 (l2 / 4) (l2 - l2 / 4 * 4) ho1) w_X4_watch l_X4_62 d_X4_gather_29 rfl (Nat.le_of_ble_eq_true rfl) rfl rfl (Nat.le_of_ble_eq_true rfl) ⟨Nat.le_of_ble_eq_true rfl, Nat.le_of_ble_eq_true rfl⟩ ⟨Nat.zero_le _, Nat.zero_le _⟩ ⟨rfl, rfl⟩ ?_
      refine g_aload_n0 rfl d_X4_gather_32 ?_
      refine g_aload_n1 rfl d_X4_gather_33 ?_
      obtain ⟨ho2, hok⟩ := hok
      refine g_callV1 (c_X4_unlikeSeen (m_X4_watch I1 x1 (l2 / 4) (l2 - l2 / 4 * 4)) x1 hx1 ho2) w_X4_unlikeSeen l_X4_66 d_X4_gather_34 rfl (Nat.le_of_ble_eq_true rfl) rfl rfl (Nat.le_of_ble_eq_true rfl) ⟨Nat.le_of_ble_eq_true rfl, Nat.le_of_ble_eq_true rfl⟩ ⟨Nat.zero_le _, Nat.zero_le _⟩ ⟨rfl, rfl⟩ ?_
      refine g_bipush (-2) d_X4_gather_37 (by decide) ?_
      obtain ⟨hoa, hob⟩ := hok
      refine g_cut (pc' := 74) (vs' := [some (.ref (ka k 58)), some (.ref (ka k x1)), some (.int l2)]) (st' := []) (M' := (81, ex, (u0_X4_gather x1 l2 I1), J, Pw w)) (fun hj => ?_) ?_
      · skip
        refine g_icmp_ne 74 d_X4_gather_39 (by decide) (fun h2 => ?_) (fun h2 => ?_)
        · skip
          (try simp only [if_neg h2, opv_eq, if_true, if_false, Bool.false_eq_true, reduceCtorEq, b2i_t, b2i_f, u0_X4_gather] at hj); exact hj
        · skip
          rw [if_pos h2] at hoa
          refine g_aload_n0 rfl d_X4_gather_42 ?_
          refine g_getI f_X4_32 d_X4_gather_43 rfl (Nat.le_of_ble_eq_true rfl) rfl ?_
          refine g_aload_n0 rfl d_X4_gather_46 ?_
          refine g_getP (b := 59) f_X4_11 d_X4_gather_47 rfl (Nat.le_of_ble_eq_true rfl) rfl rfl ?_
          refine g_alen12 d_X4_gather_50 rfl (Nat.le_of_ble_eq_true rfl) ?_
          refine g_icmp_ge 74 d_X4_gather_51 (by decide) (fun h3 => ?_) (fun h3 => ?_)
          · skip
            (try simp only [if_pos h2, if_pos h3, opv_eq, if_true, if_false, Bool.false_eq_true, reduceCtorEq, b2i_t, b2i_f, u0_X4_gather] at hj); exact hj
          · skip
            rw [if_neg h3] at hoa
            refine g_aload_n0 rfl d_X4_gather_54 ?_
            refine g_getP (b := 59) f_X4_11 d_X4_gather_55 rfl (Nat.le_of_ble_eq_true rfl) rfl rfl ?_
            refine g_aload_n0 rfl d_X4_gather_58 ?_
            refine g_getI f_X4_32 d_X4_gather_59 rfl (Nat.le_of_ble_eq_true rfl) rfl ?_
            refine g_iload_n2 rfl d_X4_gather_62 ?_
            have ho3 := hoa
            refine g_iast d_X4_gather_63 rfl (Nat.le_of_ble_eq_true rfl) ho3 ?_
            refine g_aload_n0 rfl d_X4_gather_64 ?_
            refine g_dup rfl d_X4_gather_65 ?_
            refine g_getIv ((m_X4_watch I1 x1 (l2 / 4) (l2 - l2 / 4 * 4)) 58 0) (vu_a _ _ (by decide) _) f_X4_32 d_X4_gather_66 rfl (Nat.le_of_ble_eq_true rfl) rfl ?_
            refine g_iconst 1 d_X4_gather_69 (by decide) ?_
            refine g_iadd d_X4_gather_70 ?_
            refine g_putI f_X4_32 d_X4_gather_71 rfl (Nat.le_of_ble_eq_true rfl) rfl rfl rfl ?_
            (try simp only [if_pos h2, if_neg h3, opv_eq, if_true, if_false, Bool.false_eq_true, reduceCtorEq, b2i_t, b2i_f, u0_X4_gather] at hj); exact hj
      · skip
        refine g_ic2 (l2 + 1) rfl rfl d_X4_gather_74 ?_
        refine g_goto 15 d_X4_gather_77 (by decide) ?_
        exact ih (l2 + 1) (u0_X4_gather x1 l2 I1) (Nat.lt_of_lt_of_le (mu_up_lt h1) (Nat.le_of_lt_succ hmu)) (by (try simp only [if_neg h1, opv_eq, if_true, if_false, Bool.false_eq_true, reduceCtorEq, b2i_t, b2i_f] at hob); exact hob) (by (try simp only [lp_X4_gather_15, if_neg h1, opv_eq, if_true, if_false, Bool.false_eq_true, reduceCtorEq, b2i_t, b2i_f] at hj); exact hj)
noncomputable def m_X4_gather (I : Nat → Nat → Int32) (x1 : Nat) : Nat → Nat → Int32 := opv (if (I 58 4) = 0 then (st2 ((lp_X4_gather_15 x1 (mu_up 40 0 + 1) 0 (st2 I 58 0 0)).2) 58 4 1) else I)
noncomputable def ok_X4_gather (I : Nat → Nat → Int32) (x1 : Nat) : Prop := opv (if (I 58 4) = 0 then oklp_X4_gather_15 x1 (mu_up 40 0 + 1) 0 (st2 I 58 0 0) else True)
set_option maxHeartbeats 800000 in
set_option maxRecDepth 4000 in
theorem c_X4_gather {k : KT} {ex : Bool} {J : Nat → Nat → Int64} {w : Bool} (I : Nat → Nat → Int32) (x1 : Nat) (hx1 : kd x1 = 7)  (hok : ok_X4_gather I x1) : Cx k mX4_gather 6 [.ref (ka k 58), .ref (ka k x1)] (81, ex, I, J, Pw w) none (81, ex, m_X4_gather I x1, J, Pw w) := by
  refine Ct.of rfl [some (.ref (ka k 58)), some (.ref (ka k x1)), none] rfl rfl (Nat.le_of_ble_eq_true rfl) ?_
  rw [ok_X4_gather, opv_eq] at hok
  refine g_aload_n0 rfl d_X4_gather_0 ?_
  refine g_getI f_X4_28 d_X4_gather_1 rfl (Nat.le_of_ble_eq_true rfl) rfl ?_
  refine g_if_eq 8 d_X4_gather_4 (by decide) (fun h4 => ?_) (fun h4 => ?_)
  · skip
    rw [if_pos h4] at hok
    refine g_aload_n0 rfl d_X4_gather_8 ?_
    refine g_iconst 0 d_X4_gather_9 (by decide) ?_
    refine g_putI f_X4_32 d_X4_gather_10 rfl (Nat.le_of_ble_eq_true rfl) rfl rfl rfl ?_
    refine g_iconst 0 d_X4_gather_13 (by decide) ?_
    refine g_isn2 rfl d_X4_gather_14 ?_
    refine k_lp_X4_gather_15 x1 hx1 _ 0 (st2 I 58 0 0) (Nat.lt_succ_self _) hok ?_
    refine g_aload_n0 rfl d_X4_gather_80 ?_
    refine g_iconst 1 d_X4_gather_81 (by decide) ?_
    refine g_putI f_X4_28 d_X4_gather_82 rfl (Nat.le_of_ble_eq_true rfl) rfl (by decide) (by decide) ?_
    exact g_vret rfl d_X4_gather_85 ⟨rfl, by simp only [m_X4_gather, if_pos h4, opv_eq, if_true, if_false, Bool.false_eq_true, reduceCtorEq, b2i_t, b2i_f]⟩ (Nat.le_refl _) (Nat.le_refl _)
  · skip
    exact g_vret rfl d_X4_gather_7 ⟨rfl, by simp only [m_X4_gather, if_neg h4, opv_eq, if_true, if_false, Bool.false_eq_true, reduceCtorEq, b2i_t, b2i_f]⟩ (Nat.le_refl _) (Nat.le_refl _)
